/-! WAYS, 16: more, mend, best (printed by g9h.py) -/
variable {d : Nat} {X : am_X} {a : Nat → Nat → Nat → Int32} {b : Nat → Nat → Nat → Int64} {u : Nat → Nat} {e : Nat → Nat → Nat → Int32} {f : Nat → Nat → Nat → Int64}
/-- a room without a fault: what the house says -/
theorem be_HXf {e' a' : Nat → Nat → Nat → Int32} {i r : Nat} (hr : r < be_nr e) (hq : ∀ c j, ¬ (c = 50 ∧ j = 1) → be_g e' c j = be_g e c j) (r1 : be_g e' 50 1 = (be_fs (be_g e 50 1).toNat r false : Int)) (hW : be_W e) (hW2 : be_W2 e) (hT : be_T3 e) (hX : be_HX a u i e)
    (ha : ∀ c k j, ¬ (c = 5 ∧ k = r + 5 * i ∧ j = 2) → a' c k j = a c k j) (p5 : a' 5 (r + 5 * i) 2 = be_i 0) : be_W e' ∧ be_W2 e' ∧ be_T3 e' ∧ be_HX a' u i e' := by
  obtain ⟨w, ho⟩ := be_HOf (e' := e') (a' := a') (i := i) (r := r) (p := false) hr hq r1 hW hX.1 ha p5
  obtain ⟨qE, hE, theE, numE, tE⟩ := be_of_t (e := e) (e' := e') (fun c j h => hq _ _ (by omega)) (hq _ _ (by omega)) (hq _ _ (by omega))
  obtain ⟨-, x1, x2, ⟨s1, s2⟩, ⟨p1, p2⟩, ⟨k1, k2⟩⟩ := hX
  refine ⟨w, ?_, tE hT, ?_⟩
  · skip
    refine ⟨?_, ?_, ?_, ?_⟩
    · intro g hg; simp (disch := omega) only [hq] at hg ⊢; exact hW2.1 g hg
    · refine ⟨?_, ?_, fun k hk => ?_⟩
      · simp (disch := omega) only [hq]; exact hW2.2.1.1
      · simp (disch := omega) only [hq]; exact hW2.2.1.2.1
      · simp (disch := omega) only [hq] at hk ⊢; exact hW2.2.1.2.2 k hk
    · refine ⟨?_, ?_, fun k hk => ?_⟩
      · simp (disch := omega) only [hq]; exact hW2.2.2.1.1
      · simp (disch := omega) only [hq]; exact hW2.2.2.1.2.1
      · simp (disch := omega) only [hq] at hk ⊢; exact hW2.2.2.1.2.2 k hk
    · refine ⟨?_, ?_, fun k hk => ?_⟩
      · simp (disch := omega) only [hq]; exact hW2.2.2.2.1
      · simp (disch := omega) only [hq]; exact hW2.2.2.2.2.1
      · simp (disch := omega) only [hq] at hk ⊢; exact hW2.2.2.2.2.2 k hk
  · refine ⟨ho, ?_, ?_, ⟨?_, ?_⟩, ⟨?_, ?_⟩, ⟨?_, ?_⟩⟩
    · rw [hq _ _ (by omega)]; exact x1
    · rw [theE, numE]; exact be_OW_t (fun c k j h => ha _ _ _ (by omega)) (fun c j h => hq _ _ (by omega)) x2
    · rw [ha _ _ _ (by omega), hq _ _ (by omega)]; exact s1
    · intro k hk
      simp (disch := omega) only [ha, hq] at hk ⊢
      exact s2 k hk
    · rw [ha _ _ _ (by omega), hq _ _ (by omega)]; exact p1
    · intro k hk
      simp (disch := omega) only [ha, hq] at hk ⊢
      exact p2 k hk
    · rw [ha _ _ _ (by omega), hq _ _ (by omega)]; exact k1
    · intro k hk
      simp (disch := omega) only [ha, hq] at hk ⊢
      exact k2 k hk
theorem bw_moreC (hd : 13 ≤ d) (hI : be_IV a b u e f) : ∃ (a' : Nat → Nat → Nat → Int32) (b' : Nat → Nat → Nat → Int64) (u' : Nat → Nat), am_sem X d 225 [.inr (9, 0)] (am_sd a b u e f) = some (some (am_I (be_i ((bw_Mx (be_nh e) (bw_A5 e) (be_cl e) : Int) - (bw_Mx (be_nh e) (bw_AH e (2 ^ be_nr e - 1)) (be_cl e) : Int)))), am_sd a' b' u' e f) ∧ be_IV a' b' u' e f := by
  obtain ⟨d, rfl⟩ : ∃ q, d = q + 1 := ⟨d - 1, by omega⟩
  obtain ⟨hW, hW2, hT, hh, hD, hth, hX⟩ := hI.1
  obtain ⟨nh, nh2⟩ := be_nhR hW
  obtain ⟨nr, nr2⟩ := be_nrR hW
  have h8 := hI.2.2.2.2.2.2.2.1
  obtain ⟨a', u', t1, t2, t3, t4⟩ := be_tri (X := X) (a := a) (b := b) (u := u) (e := e) (f := f) (d := d) (by omega) hI
  have hN' : be_NM a' := be_NM_t hI.2.1 t3.2.1 t3.2.2
  obtain ⟨a1, ha1⟩ : ∃ a1, a1 = am_w3 (am_w3 (am_w3 a' 5 (be_nr e + 5 * 2) 1 (be_i 20)) 5 (be_nr e + 5 * 2) 2 (be_i 0)) 2 2 2 (be_i ((be_nr e + 1 : Nat) : Int)) := ⟨_, rfl⟩
  have hf1 : ∀ c k j, ¬ ((c = 5 ∧ k = be_nr e + 10 ∧ (j = 1 ∨ j = 2)) ∨ (c = 2 ∧ k = 2 ∧ j = 2)) → a1 c k j = a' c k j := fun c k j hc => by rw [ha1]; simp (disch := omega) only [be_w3n]
  have HC := bw_HC5 (X := X) (a := a') (u := u') (e := e) (f := f) (d := d - 2) (e0 := e) (a1 := a1) (by omega) hN' hW hW2 hT t2 hf1 (by rw [ha1]; simp (disch := omega) only [be_w3n, be_w3s]) (by rw [ha1]; simp (disch := omega) only [be_w3n, be_w3s]) (by rw [ha1]; exact be_w3s _ _ _ _ _)
  obtain ⟨a2, b2, g1, g2, g3, g4⟩ := bw_search (X := X) (a := a1) (b := b) (u := u') (e := e) (f := f) (d := d - 2) (by omega) bw_AL1 HC (bw_hK hW) h8 true
  rw [show d - 2 + 2 = d by omega] at g1
  obtain ⟨M, m1, m2⟩ := bw_sc_MX (n := be_nh e) (nr := be_nr e + 1) (by omega) (F := fun h r => bw_Ft5 e h r && true) (K := be_cl e) (W := bw_W5 e) (fun h r => by
    unfold bw_W5
    split
    · exact (be_woR hT _).1
    · exact (be_woR hT _).1)
  obtain ⟨m3, m4⟩ := bw_Mx_of (bw_A5_MX hW m2)
  have m2' := m2.1
  have M6 : M ≤ 6 := by
    obtain ⟨z, -, z2⟩ := m2'
    have := be_cnt_le (fun h => decide (¬ z h = 9)) (be_nh e)
    unfold bw_cz at z2
    omega
  rw [m1, ← m3] at g1
  have hf2 : ∀ c k j, ¬ be_inH 2 c k → c ≠ 8 → c ≠ 24 → c ≠ 27 → c ≠ 29 → c ≠ 30 → a2 c k j = a c k j := fun c k j hn c1 c2 c3 c4 c5 => by
    rw [g2 c k j c1 c2 c3 c4 c5, hf1 c k j (by unfold be_inH at hn; omega)]
    exact t3.1 c k j hn
  have hI2 : be_IV a2 b2 u' e f := be_IV_q hI (fun c k j c1 c2 c3 c4 c5 hn => hf2 c k j hn c1 c2 c3 c4 c5) (be_NM_t hN' (fun k => by rw [g2 _ _ _ (by decide) (by decide) (by decide) (by decide) (by decide)]; exact hf1 _ _ _ (by omega)) (fun k => by rw [g2 _ _ _ (by decide) (by decide) (by decide) (by decide) (by decide)]; exact hf1 _ _ _ (by omega))) (fun k j => g3 _ _ _ (by decide)) (fun r hr => by rw [g3 _ _ _ (by decide)]; exact h8 r hr) t4
  obtain ⟨a3, b3, s1, s2, s3, s4⟩ := bw_count (X := X) (a := a2) (b := b2) (u := u') (e := e) (f := f) (d := d) (e0 := e) (by omega) (by decide) hW hW2 hT hI2.1.2.2.2.2.2.2 hI2.2.2.2.2.2.2.2.1 bw_AL1 (bw_AH_all e)
  have hI3 : be_IV a3 b3 u' e f := be_IV_q hI2 (fun c k j c1 c2 c3 c4 c5 hn => s2 c k j c1 c2 c3 c4 c5) (be_NM_t hI2.2.1 (fun k => s2 _ _ _ (by decide) (by decide) (by decide) (by decide) (by decide)) (fun k => s2 _ _ _ (by decide) (by decide) (by decide) (by decide) (by decide))) (fun k j => s3 _ _ _ (by decide)) (fun r hr => by rw [s3 _ _ _ (by decide)]; exact hI2.2.2.2.2.2.2.2.1 r hr) (fun _ _ => rfl)
  refine ⟨a3, b3, u', ?_, hI3⟩
  have q2 : a' 2 2 2 = be_i (be_nr e : Int) := by rw [t2.1.1, nr2]
  have ad : am_sem X d 140 [.inr (2, 2), am_I (be_i 20)] (am_sd a' b u' e f) = some (some (am_I (be_i (be_nr e : Int))), am_sd a1 b u' e f) := by
    obtain ⟨d, rfl⟩ : ∃ q, d = q + 1 := ⟨d - 1, by omega⟩
    rw [am_s140]
    simp (disch := (first | assumption | omega | exact (be_gB _ _ _).1 | exact (be_gB _ _ _).2)) only [↓reduceIte, be_ofI, ↓be_ofN, ↓be_0, be_add, be_sub, be_mul, be_neg, be_rem, be_bi, be_bl, be_bv, be_br, be_bE0, be_bE1, be_b1E, be_b0E, be_bkb, be_cast, Int.toNat_natCast, Int.reduceToNat, be_lt, be_le, be_eq, be_nt, be_ck, be_nz, be_bk, be_div, q2]
    rw [if_pos (by omega), ha1]
    rfl
  rw [am_s225, t1, be_bv, am_b225_11, ad, be_bi, am_b225_20, show be_i 1 = be_i (be_b true) from rfl, g1, be_bi, am_b225_34, show be_i 1 = be_i (be_b true) from rfl, show am_sem X d 199 [.inr (8, 0), .inr (2, 0), am_I (be_i (-1)), am_I (be_i (be_b true))] (am_sd a2 b2 u' e f) = _ from s1, be_bi, am_b225_47, be_sub]
theorem bw_moreR (hd : 8 ≤ d) (hW : be_W e) (hT : be_T3 e) : ∃ e', am_sem X d 73 [.inr (50, 0)] (am_sd a b u e f) = some (some (am_I (be_i ((bw_Mx (be_nh e) (bw_A5 e) (be_cl e) : Int) - (bw_Mx (be_nh e) (bw_AH e (2 ^ be_nr e - 1)) (be_cl e) : Int)))), am_sd a b u e' f) ∧ bw_E e e' := by
  obtain ⟨d, rfl⟩ : ∃ q, d = q + 1 := ⟨d - 1, by omega⟩
  obtain ⟨nr, nr2⟩ := be_nrR hW
  have hp : 2 ^ be_nr e ≤ 2 ^ 4 := Nat.pow_le_pow_right (by decide) nr
  obtain ⟨e1, l1, l2, l3, -⟩ := bw_laid (X := X) (a := a) (b := b) (u := u) (e := e) (f := f) (d := d) (by omega) hW hT (e0 := e) (fun _ _ _ _ _ _ _ _ _ _ _ => rfl)
  have al := be_m71 (X := X) (a := a) (b := b) (u := u) (e := e1) (f := f) (d := d) (by omega) nr (by rw [bw_E0 l2, nr2])
  obtain ⟨e2, m1, m2, m3, m4, m5⟩ := bw_countR (X := X) (a := a) (b := b) (u := u) (e := e) (f := f) (d := d) (e0 := e1) (by omega) hW l3 (bw_E0 l2) (S := 2 ^ be_nr e - 1) (by omega)
  have R2 := bw_RL_45 m2 l3
  obtain ⟨e3, p1, p2, p3⟩ := bw_add (X := X) (a := a) (b := b) (u := u) (e := e2) (f := f) (d := d) (by omega) (r := 4) (A := bw_AH e (2 ^ be_nr e - 1)) (A' := bw_A5 e) (fr := fun _ => true) (by decide) R2 (fun h hh => rfl) (fun h => by rw [← bw_AH_all]; dsimp only; rw [decide_eq_false (by omega)]; rfl) (fun h s => rfl) (fun h => by rw [← bw_AH_all]; dsimp only; rw [decide_eq_false (by omega)]; rfl) m5
  have R3 := bw_RL_45 p2 R2
  obtain ⟨M, q1, q2, ⟨T, w1, w2, w3⟩, q4⟩ := bw_m69 (X := X) (a := a) (b := b) (u := u) (e := e3) (f := f) (d := d) (by omega) R3.2.1 R3.1 p3.1 (bw_can0 p3)
  have hM := (bw_Mx_of (bw_cs_MX R3.2.1 ⟨T, w1, (p3.2 T w1).1 w2, w3⟩ (fun T hT h => q4 T hT ((p3.2 T hT).2 h)))).1
  refine ⟨e3, ?_, bw_E_45 p2 (bw_E_45 m2 l2)⟩
  have p1' : am_sem X d 67 [.inr (50, 0), am_I (be_i 4)] (am_sd a b u e2 f) = some (none, am_sd a b u e3 f) := p1
  rw [am_s73, l1, be_bv, am_b73_4, al, be_bi, am_b73_9, m1, be_bi, am_b73_12, p1', be_bv, am_b73_18, q1, be_bi, am_b73_22, be_sub, hM]
/-- the reference's state with one fault less -/
def bw_er (e : Nat → Nat → Nat → Int32) (r : Nat) : Nat → Nat → Nat → Int32 := am_w3 e 50 0 1 (be_i (be_fs (be_g e 50 1).toNat r false : Int))
noncomputable def bw_V (e : Nat → Nat → Nat → Int32) (r : Nat) : Nat := bw_Mx (be_nh (bw_er e r)) (bw_AH (bw_er e r) (2 ^ be_nr (bw_er e r) - 1)) (be_cl (bw_er e r))
noncomputable def bw_md (e : Nat → Nat → Nat → Int32) : Nat → Int × Int
  | 0 => ((bw_Mx (be_nh e) (bw_AH e (2 ^ be_nr e - 1)) (be_cl e) : Int), -5)
  | r + 1 => if (bw_md e r).1 < (bw_V e r : Int) then ((bw_V e r : Int), (r : Int)) else bw_md e r
theorem bw_erq (hW : be_W e) {r : Nat} (hr : r < 4) : (∀ c j, ¬ (c = 50 ∧ j = 1) → be_g (bw_er e r) c j = be_g e c j) ∧ be_g (bw_er e r) 50 1 = (be_fs (be_g e 50 1).toNat r false : Int) := by
  have hW1 := hW.1
  have := (be_fsR (be_g e 50 1).toNat (by omega) r (by omega) false).1
  refine ⟨fun c j h => be_gn _ _ _ _ _ _ _ (by omega), ?_⟩
  unfold bw_er
  rw [be_gw _ _ _ _ _ (by omega) (by omega), if_pos ⟨rfl, rfl⟩]
theorem bw_Mx6 {n : Nat} (hn : n ≤ 6) {A K : Nat → Nat → Bool} (h : bw_MX n A K (bw_Mx n A K)) : bw_Mx n A K ≤ 6 := by
  obtain ⟨⟨z, -, z2⟩, -⟩ := h
  have := be_cnt_le (fun h => decide (¬ z h = 9)) n
  unfold bw_cz at z2
  omega
theorem bw_mendC (hd : 13 ≤ d) (hI : be_IV a b u e f) : ∃ (a' : Nat → Nat → Nat → Int32) (b' : Nat → Nat → Nat → Int64) (u' : Nat → Nat), am_sem X d 226 [.inr (9, 0)] (am_sd a b u e f) = some (some (am_I (be_i (bw_md e (be_nr e)).2)), am_sd a' b' u' e f) ∧ be_IV a' b' u' e f := by
  obtain ⟨d, rfl⟩ : ∃ q, d = q + 1 := ⟨d - 1, by omega⟩
  obtain ⟨hW, hW2, hT, hh, hD, hth, hX⟩ := hI.1
  obtain ⟨nh, nh2⟩ := be_nhR hW
  obtain ⟨nr, nr2⟩ := be_nrR hW
  have h8 := hI.2.2.2.2.2.2.2.1
  obtain ⟨a0, b0, s1, s2, s3, s4⟩ := bw_count (X := X) (a := a) (b := b) (u := u) (e := e) (f := f) (d := d) (e0 := e) (by omega) (by decide) hW hW2 hT hX h8 bw_AL1 (bw_AH_all e)
  have hI0 : be_IV a0 b0 u e f := be_IV_q hI (fun c k j c1 c2 c3 c4 c5 hn => s2 c k j c1 c2 c3 c4 c5) (be_NM_t hI.2.1 (fun k => s2 _ _ _ (by decide) (by decide) (by decide) (by decide) (by decide)) (fun k => s2 _ _ _ (by decide) (by decide) (by decide) (by decide) (by decide))) (fun k j => s3 _ _ _ (by decide)) (fun r hr => by rw [s3 _ _ _ (by decide)]; exact h8 r hr) (fun _ _ => rfl)
  obtain ⟨a', u', t1, t2, t3, t4⟩ := be_tri (X := X) (a := a0) (b := b0) (u := u) (e := e) (f := f) (d := d) (by omega) hI0
  have X0 := hI0.1.2.2.2.2.2.2
  have fl : ∀ r, r < be_nr e → a' 5 r 2 = be_i (be_b (be_ft e r)) ∧ a' 5 (r + 5 * 2) 2 = be_i (be_b (be_ft e r)) := fun r hr => ⟨by rw [t3.1 _ _ _ (by unfold be_inH; omega)]; exact (X0.1.2.2.2.2.2.2 r hr).2.2, (t2.1.2.2.2.2.2.2 r hr).2.2⟩
  have md6 : ∀ r, r ≤ be_nr e → -5 ≤ (bw_md e r).2 ∧ (bw_md e r).2 ≤ 4 := by
    intro r
    induction r with
    | zero => exact fun _ => ⟨Int.le_refl (-5), (show (-5 : Int) ≤ 4 by decide)⟩
    | succ r ih =>
      intro hr
      rw [bw_md]
      split
      · dsimp only; omega
      · exact ih (by omega)
  have V0 := bw_Mx6 nh s4
  have key : ∀ (m r : Nat) (z : Int) (z4 : am_V) (a1 : Nat → Nat → Nat → Int32) (b1 : Nat → Nat → Nat → Int64), r + m = be_nr e → z = (r : Int) → bw_Fa a' a1 → (∀ c k j, c ≠ 25 → b1 c k j = b0 c k j) → 0 ≤ (bw_md e r).1 → (bw_md e r).1 ≤ 6 →
      ∃ (a2 : Nat → Nat → Nat → Int32) (b2 : Nat → Nat → Nat → Int64), am_fix (am_sem X d) X am_P226 30 [.inr (9, 0), am_I (be_i ((bw_md e r).1)), am_I (be_i ((bw_md e r).2)), am_I (be_i (z)), z4] [] (am_sd a1 b1 u' e f) = some (some (am_I (be_i (bw_md e (be_nr e)).2)), am_sd a2 b2 u' e f) ∧ bw_Fa a' a2 ∧ (∀ c k j, c ≠ 25 → b2 c k j = b0 c k j) := by
    intro m
    induction m with
    | zero =>
      rintro r z z4 a1 b1 hr rfl h1 h2 h3 h4
      obtain rfl : r = be_nr e := hr
      refine ⟨a1, b1, ?_, h1, h2⟩
      have q0 : a1 2 0 2 = be_i (be_nr e : Int) := by rw [h1 _ _ _ (by decide) (by decide) (by decide) (by decide) (by decide), t3.1 _ _ _ (by unfold be_inH; omega), X0.1.1, nr2]
      rw [am_b226_30, q0, if_pos Int32.le_rfl]
    | succ m ih =>
      rintro r z z4 a1 b1 hr rfl h1 h2 h3 h4
      have q0 : a1 2 0 2 = be_i (be_nr e : Int) := by rw [h1 _ _ _ (by decide) (by decide) (by decide) (by decide) (by decide), t3.1 _ _ _ (by unfold be_inH; omega), X0.1.1, nr2]
      have w1 : ¬ be_i (be_nr e : Int) ≤ be_i (r : Int) := by rw [be_le (by omega) (by omega) (by omega) (by omega)]; omega
      obtain ⟨f1, f2⟩ := fl r (by omega)
      obtain ⟨er1, er2⟩ := bw_erq hW (r := r) (by omega)
      have X1 : be_HX a1 u' 2 e := be_I1_a (fun c k j hc => h1 c k j (by unfold be_inH at hc; omega) (by unfold be_inH at hc; omega) (by unfold be_inH at hc; omega) (by unfold be_inH at hc; omega) (by unfold be_inH at hc; omega)) rfl (by decide) hW hW2 t2
      obtain ⟨ar, har⟩ : ∃ ar, ar = am_w3 a1 5 (r + 5 * 2) 2 (be_i 0) := ⟨_, rfl⟩
      have har' : am_w3 a1 5 (r + 10) 2 (be_i 0) = ar := har.symm
      obtain ⟨y1, y2, y3, y4⟩ := be_HXf (e' := bw_er e r) (a' := ar) (i := 2) (r := r) (by omega) er1 er2 hW hW2 hT X1 (fun c k j hc => by rw [har]; exact be_w3n _ _ _ _ _ _ _ _ hc) (by rw [har]; exact be_w3s _ _ _ _ _)
      obtain ⟨a2, b2, g1, g2, g3, g4⟩ := bw_count (X := X) (a := ar) (b := b1) (u := u') (e := bw_er e r) (f := f) (d := d) (e0 := e) (i := 2) (by omega) (by decide) y1 y2 y3 y4 (fun r hr => by rw [h2 _ _ _ (by decide)]; exact hI0.2.2.2.2.2.2.2.1 r hr) bw_AL1 (bw_AH_all (bw_er e r))
      have hV : bw_Mx (be_nh (bw_er e r)) (bw_AH (bw_er e r) (2 ^ be_nr (bw_er e r) - 1)) (be_cl (bw_er e r)) = bw_V e r := rfl
      have V6 := bw_Mx6 (be_nhR y1).1 g4
      rw [hV] at g1 V6
      have r2 : a2 5 r 2 = be_i (be_b (be_ft e r)) := by rw [g2 _ _ _ (by decide) (by decide) (by decide) (by decide) (by decide), har, be_w3n _ _ _ _ _ _ _ _ (by omega), h1 _ _ _ (by decide) (by decide) (by decide) (by decide) (by decide)]; exact f1
      obtain ⟨a3, ha3⟩ : ∃ a3, a3 = am_w3 a2 5 (r + 10) 2 (be_i (be_b (be_ft e r))) := ⟨_, rfl⟩
      have fa3 : bw_Fa a' a3 := fun c k j c1 c2 c3 c4 c5 => by
        by_cases hc : c = 5 ∧ k = r + 10 ∧ j = 2
        · obtain ⟨rfl, rfl, rfl⟩ := hc
          rw [ha3, be_w3s]; exact f2.symm
        · rw [ha3, be_w3n _ _ _ _ _ _ _ _ hc, g2 c k j c1 c2 c3 c4 c5, har, be_w3n _ _ _ _ _ _ _ _ hc]
          exact h1 c k j c1 c2 c3 c4 c5
      have hb3 : ∀ c k j, c ≠ 25 → b2 c k j = b0 c k j := fun c k j hc => (g3 c k j hc).trans (h2 c k j hc)
      have m6 := md6 r (by omega)
      have hs : bw_md e (r + 1) = if (bw_md e r).1 < (bw_V e r : Int) then ((bw_V e r : Int), (r : Int)) else bw_md e r := rfl
      have rn : (be_i (r : Int)).toNatClampNeg = r := be_ntN (by omega)
      have ck : ∀ R, am_ck (be_i (r : Int)) 5 R = R := fun R => be_ck (by omega) (by omega) (by omega)
      have head : am_fix (am_sem X d) X am_P226 30 [.inr (9, 0), am_I (be_i ((bw_md e r).1)), am_I (be_i ((bw_md e r).2)), am_I (be_i ((r : Int))), z4] [] (am_sd a1 b1 u' e f) = am_fix (am_sem X d) X am_P226 67 [.inr (9, 0), am_I (be_i ((bw_md e r).1)), am_I (be_i ((bw_md e r).2)), am_I (be_i ((r : Int))), z4] [am_I (be_i ((bw_V e r : Int)))] (am_sd a2 b2 u' e f) := by
        rw [am_b226_30, q0, if_neg w1, ck, rn, har', g1, be_bi]
      rw [head, am_b226_67, ck, ck, ck, ck, rn, r2, be_bkb, be_bkb, ← ha3, be_add]
      by_cases hlt : (bw_md e r).1 < (bw_V e r : Int)
      · rw [if_pos hlt] at hs
        have k1 := ih (r + 1) ((r : Int) + 1) (am_I (be_i (bw_V e r : Int))) a3 b2 (by omega) (by omega) fa3 hb3 (by rw [hs]; dsimp only; omega) (by rw [hs]; dsimp only; omega)
        rw [hs] at k1
        rw [if_neg (by rw [be_le (by omega) (by omega) (by omega) (by omega)]; omega)]
        exact k1
      · rw [if_neg hlt] at hs
        have k1 := ih (r + 1) ((r : Int) + 1) (am_I (be_i (bw_V e r : Int))) a3 b2 (by omega) (by omega) fa3 hb3 (by rw [hs]; exact h3) (by rw [hs]; exact h4)
        rw [hs] at k1
        rw [if_pos (by rw [be_le (by omega) (by omega) (by omega) (by omega)]; omega)]
        exact k1
  obtain ⟨a2, b2, g1, g2, g3⟩ := key (be_nr e) 0 0 am_un a' b0 (Nat.zero_add _) rfl (fun _ _ _ _ _ _ _ _ => rfl) (fun _ _ _ _ => rfl) (by rw [bw_md]; dsimp only; omega) (by rw [bw_md]; dsimp only; omega)
  refine ⟨a2, b2, u', ?_, be_IV_q hI0 (fun c k j c1 c2 c3 c4 c5 hn => (g2 c k j c1 c2 c3 c4 c5).trans (t3.1 c k j hn)) (be_NM_t hI0.2.1 (fun k => (g2 _ _ _ (by decide) (by decide) (by decide) (by decide) (by decide)).trans (t3.2.1 k)) (fun k => (g2 _ _ _ (by decide) (by decide) (by decide) (by decide) (by decide)).trans (t3.2.2 k))) (fun k j => g3 _ _ _ (by decide)) (fun r hr => by rw [g3 _ _ _ (by decide)]; exact hI0.2.2.2.2.2.2.2.1 r hr) t4⟩
  rw [am_s226, s1, be_bi, am_b226_13, t1, be_bv, am_b226_28]
  exact g1
