/-! WAYS, 5: the reference lays out what fits -/
variable {d : Nat} {X : am_X} {a : Nat → Nat → Nat → Int32} {b : Nat → Nat → Nat → Int64} {u : Nat → Nat} {e : Nat → Nat → Nat → Int32} {f : Nat → Nat → Nat → Int64}
theorem be_RH_wsum {e' : Nat → Nat → Nat → Int32} (h : be_RH e e') (g : Nat → Int) (f : Nat) : ∀ k, be_wsum e' g f k = be_wsum e g f k
  | 0 => rfl
  | k + 1 => by
    have q : ∀ c j, (c = 50 ∧ (j = 0 ∨ j = 1 ∨ j = 2 ∨ j = 3 ∨ j = 12 ∨ j = 13 ∨ j = 29 ∨ j = 40 ∨ j = 45 ∨ j = 46)) ∨ (51 ≤ c ∧ c ≤ 58) ∨ (60 ≤ c ∧ c ≤ 65) ∨ (76 ≤ c ∧ c ≤ 83) → be_g e' c j = be_g e c j := h
    have hv : be_wv e' g f k = be_wv e g f k := by unfold be_wv; rw [be_RH_65 h, be_RH_pos h, be_RH_pos h]
    rw [be_wsum, be_wsum, be_RH_wsum h g f k, hv]
    simp (disch := omega) only [q]
theorem be_RH_wo {e' : Nat → Nat → Nat → Int32} (h : be_RH e e') (g : Nat → Int) : be_wo e' g = be_wo e g := by
  unfold be_wo
  rw [be_RH_wsum h, be_RH_the h, be_RH_num h]
theorem be_RH_F {e' : Nat → Nat → Nat → Int32} (h : be_RH e e') (x r : Nat) : be_F e' x r = be_F e x r := by
  funext j
  unfold be_F
  rw [h 52 x (by omega), h 53 x (by omega), h 56 x (by omega), h 51 r (by omega)]
theorem be_RH_fit {e' : Nat → Nat → Nat → Int32} (h : be_RH e e') (x r : Nat) : be_fit e' x r = be_fit e x r := by
  unfold be_fit
  rw [be_RH_ft h, h 56 x (by omega), h 51 r (by omega), h 52 x (by omega)]
theorem be_RH_cl {e' : Nat → Nat → Nat → Int32} (h : be_RH e e') (x o : Nat) : be_cl e' x o = be_cl e x o := by
  unfold be_cl be_bt
  rw [be_A_q (be_RH_A h), h 54 x (by omega), h 54 o (by omega), h 55 x (by omega), h 55 o (by omega)]
/-- what an hour's rows change -/
def bw_FH (h : Nat) (e1 e2 : Nat → Nat → Nat → Int32) : Prop := ∀ c j, ¬ (c = 68 ∨ ((c = 71 ∨ c = 73) ∧ 5 * h ≤ j ∧ j < 5 * h + 5) ∨ (c = 72 ∧ 6 * h ≤ j ∧ j < 6 * h + 6)) → be_g e2 c j = be_g e1 c j
/-- what stands in an hour's rows -/
def bw_L1 (e1 e : Nat → Nat → Nat → Int32) (h n : Nat) : Prop := ∀ r, r < n → be_g e1 71 (5 * h + r) = be_b (be_fit e h r) ∧ be_g e1 73 (5 * h + r) = be_wo e (be_F e h r)
def bw_L3 (e1 e : Nat → Nat → Nat → Int32) (h n : Nat) : Prop := ∀ o, o < n → be_g e1 72 (6 * h + o) = be_b (decide (¬ o = h) && be_cl e h o)
def bw_LF (e1 e : Nat → Nat → Nat → Int32) (h nr nh : Nat) : Prop := bw_L1 e1 e h nr ∧ (∀ r, nr ≤ r → r < 4 → be_g e1 71 (5 * h + r) = 0) ∧ be_g e1 71 (5 * h + 4) = 1 ∧ be_g e1 73 (5 * h + 4) = 0 ∧ bw_L3 e1 e h nh
def bw_E (e e1 : Nat → Nat → Nat → Int32) : Prop := ∀ c j, c ≠ 68 → c ≠ 69 → c ≠ 70 → c ≠ 71 → c ≠ 72 → c ≠ 73 → c ≠ 74 → c ≠ 75 → ¬ (c = 50 ∧ (j = 33 ∨ j = 34)) → be_g e1 c j = be_g e c j
theorem bw_E_RH {e1 : Nat → Nat → Nat → Int32} (h : bw_E e e1) : be_RH e e1 := fun c j hc => h c j (by omega) (by omega) (by omega) (by omega) (by omega) (by omega) (by omega) (by omega) (by omega)
theorem bw_FH_E {e1 e2 : Nat → Nat → Nat → Int32} {h : Nat} (hf : bw_FH h e1 e2) (hE : bw_E e e1) : bw_E e e2 := fun c j c1 c2 c3 c4 c5 c6 c7 c8 c9 => (hf c j (by omega)).trans (hE c j c1 c2 c3 c4 c5 c6 c7 c8 c9)
theorem bw_FH_tr {e1 e2 e3 : Nat → Nat → Nat → Int32} {h : Nat} (h1 : bw_FH h e1 e2) (h2 : bw_FH h e2 e3) : bw_FH h e1 e3 := fun c j hc => (h2 c j hc).trans (h1 c j hc)
theorem bw_r1 (hd : 4 ≤ d) (hW : be_W e) (hT : be_T3 e) {h : Nat} (hh : h < 6) : ∀ (m r : Nat) (z : Int) (e1 : Nat → Nat → Nat → Int32), r + m = be_nr e → z = (r : Int) → bw_E e e1 → bw_L1 e1 e h r →
    ∃ e2, am_fix (am_sem X d) X am_P60 12 [.inr (50, 0), am_I (be_i ((h : Int))), am_I (be_i (z))] [] (am_sd a b u e1 f) = am_fix (am_sem X d) X am_P60 63 [.inr (50, 0), am_I (be_i ((h : Int))), am_I (be_i ((be_nr e : Int)))] [] (am_sd a b u e2 f) ∧ bw_FH h e1 e2 ∧ bw_L1 e2 e h (be_nr e) := by
  obtain ⟨nr, nr2⟩ := be_nrR hW
  intro m
  induction m with
  | zero =>
    rintro r z e1 hr rfl hE hL
    obtain rfl : r = be_nr e := hr
    refine ⟨e1, ?_, fun _ _ _ => rfl, hL⟩
    have q0 : e1 50 0 0 = be_i (be_nr e : Int) := by rw [be_gI e1, hE _ _ (by omega) (by omega) (by omega) (by omega) (by omega) (by omega) (by omega) (by omega) (by omega), nr2]
    rw [am_b60_12]
    simp (disch := (first | assumption | omega | exact (be_gB _ _ _).1 | exact (be_gB _ _ _).2)) only [↓reduceIte, be_ofI, ↓be_ofN, ↓be_0, be_add, be_sub, be_mul, be_neg, be_rem, be_bi, be_bl, be_bv, be_br, be_bE0, be_bE1, be_b1E, be_b0E, be_bkb, be_cast, Int.toNat_natCast, Int.reduceToNat, be_lt, be_le, be_eq, be_nt, be_ck, be_nz, be_bk, be_div, q0, Int.le_refl]
  | succ m ih =>
    rintro r z e1 hr rfl hE hL
    have q0 : e1 50 0 0 = be_i (be_nr e : Int) := by rw [be_gI e1, hE _ _ (by omega) (by omega) (by omega) (by omega) (by omega) (by omega) (by omega) (by omega) (by omega), nr2]
    have w1 : ¬ (be_nr e : Int) ≤ (r : Int) := by omega
    have hRH := bw_E_RH hE
    have hn : (5 * (h : Int) + (r : Int)).toNat = 5 * h + r := by omega
    have v1 := be_m51 (X := X) (a := a) (b := b) (u := u) (e := e1) (f := f) (d := d) (h := h) (r := r) (by omega) (be_RH_W hRH hW) hh (by omega)
    rw [be_RH_fit hRH] at v1
    obtain ⟨e2, he2⟩ : ∃ e2, e2 = am_w3 e1 71 0 (5 * h + r) (be_i (be_b (be_fit e h r))) := ⟨_, rfl⟩
    have q2 : ∀ c j, ¬ (c = 71 ∧ j = 5 * h + r) → be_g e2 c j = be_g e1 c j := fun c j hc => by rw [he2]; exact be_gn _ _ _ _ _ _ _ (by omega)
    have r2 : be_g e2 71 (5 * h + r) = be_b (be_fit e h r) := by have := be_bR (be_fit e h r); rw [he2, be_gw _ _ _ _ _ (by omega) (by omega), if_pos ⟨rfl, rfl⟩]
    have f2 : bw_FH h e1 e2 := fun c j hc => q2 c j (by omega)
    have hRH2 := bw_E_RH (bw_FH_E f2 hE)
    obtain ⟨G, hG⟩ := be_m36 (X := X) (a := a) (b := b) (u := u) (e := e2) (f := f) (d := d) (by omega) (be_RH_W hRH2 hW) (be_RH_T3 hRH2 hT) (G0 := e2 68 0) (h := h) (r := r) hh (by omega)
    rw [be_w2id, be_RH_wo hRH2, be_RH_F hRH2] at hG
    obtain ⟨e3, he3⟩ : ∃ e3, e3 = am_w2 e2 68 0 G := ⟨_, rfl⟩
    have q3 : ∀ c j, c ≠ 68 → be_g e3 c j = be_g e2 c j := fun c j hc => by rw [he3]; exact be_g2 hc
    obtain ⟨e4, he4⟩ : ∃ e4, e4 = am_w3 e3 73 0 (5 * h + r) (be_i (be_wo e (be_F e h r))) := ⟨_, rfl⟩
    have hwR := be_woR hT (be_F e h r)
    have q4 : ∀ c j, ¬ (c = 73 ∧ j = 5 * h + r) → be_g e4 c j = be_g e3 c j := fun c j hc => by rw [he4]; exact be_gn _ _ _ _ _ _ _ (by omega)
    have r4 : be_g e4 73 (5 * h + r) = be_wo e (be_F e h r) := by rw [he4, be_gw _ _ _ _ _ (by omega) (by omega), if_pos ⟨rfl, rfl⟩]
    have f4 : bw_FH h e1 e4 := fun c j hc => by rw [q4 c j (by omega), q3 c j (by omega)]; exact f2 c j hc
    obtain ⟨e5, g1, g2, g3⟩ := ih (r + 1) ((r : Int) + 1) e4 (by omega) (by omega) (bw_FH_E f4 hE) (fun r' hr' => by
      by_cases er : r' = r
      · subst er
        refine ⟨?_, r4⟩
        rw [q4 _ _ (by omega), q3 _ _ (by omega), r2]
      · rw [q4 _ _ (by omega), q3 _ _ (by omega), q2 _ _ (by omega), q4 _ _ (by omega), q3 _ _ (by omega), q2 _ _ (by omega)]
        exact hL r' (by omega))
    refine ⟨e5, ?_, bw_FH_tr f4 g2, g3⟩
    rw [am_b60_12]
    simp (disch := (first | assumption | omega | exact (be_gB _ _ _).1 | exact (be_gB _ _ _).2)) only [↓reduceIte, be_ofI, ↓be_ofN, ↓be_0, be_add, be_sub, be_mul, be_neg, be_rem, be_bi, be_bl, be_bv, be_br, be_bE0, be_bE1, be_b1E, be_b0E, be_bkb, be_cast, Int.toNat_natCast, Int.reduceToNat, be_lt, be_le, be_eq, be_nt, be_ck, be_nz, be_bk, be_div, q0, w1]
    rw [v1, be_bi, am_b60_35]
    simp (disch := (first | assumption | omega | exact (be_gB _ _ _).1 | exact (be_gB _ _ _).2)) only [↓reduceIte, be_ofI, ↓be_ofN, ↓be_0, be_add, be_sub, be_mul, be_neg, be_rem, be_bi, be_bl, be_bv, be_br, be_bE0, be_bE1, be_b1E, be_b0E, be_bkb, be_cast, Int.toNat_natCast, Int.reduceToNat, be_lt, be_le, be_eq, be_nt, be_ck, be_nz, be_bk, be_div, hn]
    rw [← he2, hG, be_bi, am_b60_51]
    simp (disch := (first | assumption | omega | exact (be_gB _ _ _).1 | exact (be_gB _ _ _).2)) only [↓reduceIte, be_ofI, ↓be_ofN, ↓be_0, be_add, be_sub, be_mul, be_neg, be_rem, be_bi, be_bl, be_bv, be_br, be_bE0, be_bE1, be_b1E, be_b0E, be_bkb, be_cast, Int.toNat_natCast, Int.reduceToNat, be_lt, be_le, be_eq, be_nt, be_ck, be_nz, be_bk, be_div, hn]
    rw [← he3, ← he4]
    exact g1
theorem bw_r2 {nr : Nat} {h : Nat} (hh : h < 6) : ∀ (m r : Nat) (z : Int) (e1 : Nat → Nat → Nat → Int32), r + m = 4 → z = (r : Int) → (∀ r', nr ≤ r' → r' < r → be_g e1 71 (5 * h + r') = 0) →
    ∃ e2, am_fix (am_sem X d) X am_P60 63 [.inr (50, 0), am_I (be_i ((h : Int))), am_I (be_i (z))] [] (am_sd a b u e1 f) = am_fix (am_sem X d) X am_P60 109 [.inr (50, 0), am_I (be_i ((h : Int))), am_I (be_i (0))] [] (am_sd a b u e2 f) ∧ (∀ c j, ¬ ((c = 71 ∧ 5 * h + r ≤ j ∧ j < 5 * h + 5) ∨ (c = 73 ∧ j = 5 * h + 4)) → be_g e2 c j = be_g e1 c j) ∧
      (∀ r', nr ≤ r' → r' < 4 → be_g e2 71 (5 * h + r') = 0) ∧ be_g e2 71 (5 * h + 4) = 1 ∧ be_g e2 73 (5 * h + 4) = 0 := by
  intro m
  induction m with
  | zero =>
    rintro r z e1 hr rfl hL
    obtain rfl : r = 4 := hr
    have hn : (5 * (h : Int) + 4).toNat = 5 * h + 4 := by omega
    obtain ⟨e2, he2⟩ : ∃ e2, e2 = am_w3 (am_w3 e1 71 0 (5 * h + 4) (be_i 1)) 73 0 (5 * h + 4) (be_i 0) := ⟨_, rfl⟩
    have q2 : ∀ c j, ¬ ((c = 71 ∨ c = 73) ∧ j = 5 * h + 4) → be_g e2 c j = be_g e1 c j := fun c j hc => by rw [he2, be_gn _ _ _ _ _ _ _ (by omega), be_gn _ _ _ _ _ _ _ (by omega)]
    refine ⟨e2, ?_, fun c j hc => q2 c j (by omega), fun r' h1 h2 => ?_, ?_, ?_⟩
    · rw [am_b60_63]
      simp (disch := (first | assumption | omega | exact (be_gB _ _ _).1 | exact (be_gB _ _ _).2)) only [↓reduceIte, be_ofI, ↓be_ofN, ↓be_0, be_add, be_sub, be_mul, be_neg, be_rem, be_bi, be_bl, be_bv, be_br, be_bE0, be_bE1, be_b1E, be_b0E, be_bkb, be_cast, Int.toNat_natCast, Int.reduceToNat, be_lt, be_le, be_eq, be_nt, be_ck, be_nz, be_bk, be_div, not_true_eq_false, not_false_eq_true, if_true, if_false, eq_self, Int.reduceEq, Int.reduceLT, Int.reduceLE, Bool.true_eq_false, Bool.false_eq_true]
      rw [if_pos (by decide)]
      simp (disch := (first | assumption | omega | exact (be_gB _ _ _).1 | exact (be_gB _ _ _).2)) only [↓reduceIte, be_ofI, ↓be_ofN, ↓be_0, be_add, be_sub, be_mul, be_neg, be_rem, be_bi, be_bl, be_bv, be_br, be_bE0, be_bE1, be_b1E, be_b0E, be_bkb, be_cast, Int.toNat_natCast, Int.reduceToNat, be_lt, be_le, be_eq, be_nt, be_ck, be_nz, be_bk, be_div, not_true_eq_false, not_false_eq_true, if_true, if_false, eq_self, Int.reduceEq, Int.reduceLT, Int.reduceLE, Bool.true_eq_false, Bool.false_eq_true, hn]
      rw [← he2]
    · rw [q2 _ _ (by omega)]; exact hL r' h1 h2
    · rw [he2, be_gn _ _ _ _ _ _ _ (by omega), be_gw _ _ _ _ _ (by omega) (by omega), if_pos ⟨rfl, rfl⟩]
    · rw [he2, be_gw _ _ _ _ _ (by omega) (by omega), if_pos ⟨rfl, rfl⟩]
  | succ m ih =>
    rintro r z e1 hr rfl hL
    have hn : (5 * (h : Int) + (r : Int)).toNat = 5 * h + r := by omega
    have w1 : ¬ (4 : Int) ≤ (r : Int) := by omega
    obtain ⟨e2, he2⟩ : ∃ e2, e2 = am_w3 e1 71 0 (5 * h + r) (be_i 0) := ⟨_, rfl⟩
    have q2 : ∀ c j, ¬ (c = 71 ∧ j = 5 * h + r) → be_g e2 c j = be_g e1 c j := fun c j hc => by rw [he2]; exact be_gn _ _ _ _ _ _ _ (by omega)
    have r2 : be_g e2 71 (5 * h + r) = 0 := by rw [he2, be_gw _ _ _ _ _ (by omega) (by omega), if_pos ⟨rfl, rfl⟩]
    obtain ⟨e3, g1, g2, g3, g4, g5⟩ := ih (r + 1) ((r : Int) + 1) e2 (by omega) (by omega) (fun r' h1 h2 => by
      by_cases er : r' = r
      · subst er; exact r2
      · rw [q2 _ _ (by omega)]; exact hL r' h1 (by omega))
    refine ⟨e3, ?_, fun c j hc => (g2 c j (by omega)).trans (q2 c j (by omega)), g3, g4, g5⟩
    rw [am_b60_63]
    simp (disch := (first | assumption | omega | exact (be_gB _ _ _).1 | exact (be_gB _ _ _).2)) only [↓reduceIte, be_ofI, ↓be_ofN, ↓be_0, be_add, be_sub, be_mul, be_neg, be_rem, be_bi, be_bl, be_bv, be_br, be_bE0, be_bE1, be_b1E, be_b0E, be_bkb, be_cast, Int.toNat_natCast, Int.reduceToNat, be_lt, be_le, be_eq, be_nt, be_ck, be_nz, be_bk, be_div, w1, hn]
    rw [← he2]
    exact g1
theorem bw_r3 (hd : 5 ≤ d) (hW : be_W e) (hT : be_T3 e) {h : Nat} (hh : h < 6) : ∀ (m o : Nat) (z : Int) (e1 : Nat → Nat → Nat → Int32), o + m = be_nh e → z = (o : Int) → bw_E e e1 → bw_L3 e1 e h o →
    ∃ e2, am_fix (am_sem X d) X am_P60 109 [.inr (50, 0), am_I (be_i ((h : Int))), am_I (be_i (z))] [] (am_sd a b u e1 f) = am_fix (am_sem X d) X am_P60 2 [.inr (50, 0), am_I (be_i ((h : Int) + 1)), am_I (be_i ((be_nh e : Int)))] [] (am_sd a b u e2 f) ∧ (∀ c j, ¬ (c = 72 ∧ 6 * h ≤ j ∧ j < 6 * h + 6) → be_g e2 c j = be_g e1 c j) ∧ bw_L3 e2 e h (be_nh e) := by
  obtain ⟨nh, nh2⟩ := be_nhR hW
  intro m
  induction m with
  | zero =>
    rintro o z e1 hr rfl hE hL
    obtain rfl : o = be_nh e := hr
    refine ⟨e1, ?_, fun _ _ _ => rfl, hL⟩
    have q0 : e1 50 0 2 = be_i (be_nh e : Int) := by rw [be_gI e1, hE _ _ (by omega) (by omega) (by omega) (by omega) (by omega) (by omega) (by omega) (by omega) (by omega), nh2]
    rw [am_b60_109]
    simp (disch := (first | assumption | omega | exact (be_gB _ _ _).1 | exact (be_gB _ _ _).2)) only [↓reduceIte, be_ofI, ↓be_ofN, ↓be_0, be_add, be_sub, be_mul, be_neg, be_rem, be_bi, be_bl, be_bv, be_br, be_bE0, be_bE1, be_b1E, be_b0E, be_bkb, be_cast, Int.toNat_natCast, Int.reduceToNat, be_lt, be_le, be_eq, be_nt, be_ck, be_nz, be_bk, be_div, q0, Int.le_refl]
  | succ m ih =>
    rintro o z e1 hr rfl hE hL
    have q0 : e1 50 0 2 = be_i (be_nh e : Int) := by rw [be_gI e1, hE _ _ (by omega) (by omega) (by omega) (by omega) (by omega) (by omega) (by omega) (by omega) (by omega), nh2]
    have w1 : ¬ (be_nh e : Int) ≤ (o : Int) := by omega
    have hRH := bw_E_RH hE
    have hn : (6 * (h : Int) + (o : Int)).toNat = 6 * h + o := by omega
    have hb := be_bR (decide (¬ o = h) && be_cl e h o)
    obtain ⟨e2, he2⟩ : ∃ e2, e2 = am_w3 e1 72 0 (6 * h + o) (be_i (be_b (decide (¬ o = h) && be_cl e h o))) := ⟨_, rfl⟩
    have q2 : ∀ c j, ¬ (c = 72 ∧ j = 6 * h + o) → be_g e2 c j = be_g e1 c j := fun c j hc => by rw [he2]; exact be_gn _ _ _ _ _ _ _ (by omega)
    have r2 : be_g e2 72 (6 * h + o) = be_b (decide (¬ o = h) && be_cl e h o) := by rw [he2, be_gw _ _ _ _ _ (by omega) (by omega), if_pos ⟨rfl, rfl⟩]
    obtain ⟨e3, g1, g2, g3⟩ := ih (o + 1) ((o : Int) + 1) e2 (by omega) (by omega) (fun c j c1 c2 c3 c4 c5 c6 c7 c8 c9 => (q2 c j (by omega)).trans (hE c j c1 c2 c3 c4 c5 c6 c7 c8 c9)) (fun o' ho' => by
      by_cases er : o' = o
      · subst er; exact r2
      · rw [q2 _ _ (by omega)]; exact hL o' (by omega))
    refine ⟨e3, ?_, fun c j hc => (g2 c j hc).trans (q2 c j (by omega)), g3⟩
    rw [am_b60_109]
    by_cases ho : o = h
    · have ho' : (o : Int) = (h : Int) := by omega
      rw [decide_eq_false (fun h => h ho), Bool.false_and] at he2
      simp (disch := (first | assumption | omega | exact (be_gB _ _ _).1 | exact (be_gB _ _ _).2)) only [↓reduceIte, be_ofI, ↓be_ofN, ↓be_0, be_add, be_sub, be_mul, be_neg, be_rem, be_bi, be_bl, be_bv, be_br, be_bE0, be_bE1, be_b1E, be_b0E, be_bkb, be_cast, Int.toNat_natCast, Int.reduceToNat, be_lt, be_le, be_eq, be_nt, be_ck, be_nz, be_bk, be_div, q0, w1, hn]
      rw [if_pos ho', show be_i 0 = be_i (be_b false) from rfl, ← he2]
      exact g1
    · have ho' : ¬ (o : Int) = (h : Int) := by omega
      have v1 := be_m52 (X := X) (a := a) (b := b) (u := u) (e := e1) (f := f) (d := d) (h := h) (o := o) (by omega) (be_RH_W hRH hW) (be_RH_T3 hRH hT).1 hh (by omega)
      rw [be_RH_cl hRH] at v1
      rw [decide_eq_true ho, Bool.true_and] at he2
      simp (disch := (first | assumption | omega | exact (be_gB _ _ _).1 | exact (be_gB _ _ _).2)) only [↓reduceIte, be_ofI, ↓be_ofN, ↓be_0, be_add, be_sub, be_mul, be_neg, be_rem, be_bi, be_bl, be_bv, be_br, be_bE0, be_bE1, be_b1E, be_b0E, be_bkb, be_cast, Int.toNat_natCast, Int.reduceToNat, be_lt, be_le, be_eq, be_nt, be_ck, be_nz, be_bk, be_div, q0, w1, ho']
      rw [v1, be_bi, am_b60_138]
      cases hc : be_cl e h o with
      | false =>
        rw [hc] at he2
        simp (disch := (first | assumption | omega | exact (be_gB _ _ _).1 | exact (be_gB _ _ _).2)) only [↓reduceIte, be_ofI, ↓be_ofN, ↓be_0, be_add, be_sub, be_mul, be_neg, be_rem, be_bi, be_bl, be_bv, be_br, be_bE0, be_bE1, be_b1E, be_b0E, be_bkb, be_cast, Int.toNat_natCast, Int.reduceToNat, be_lt, be_le, be_eq, be_nt, be_ck, be_nz, be_bk, be_div, not_true_eq_false, not_false_eq_true, if_true, if_false, eq_self, Int.reduceEq, Int.reduceLT, Int.reduceLE, Bool.true_eq_false, Bool.false_eq_true, hn]
        rw [show be_i 0 = be_i (be_b false) from rfl, ← he2]
        exact g1
      | true =>
        rw [hc] at he2
        simp (disch := (first | assumption | omega | exact (be_gB _ _ _).1 | exact (be_gB _ _ _).2)) only [↓reduceIte, be_ofI, ↓be_ofN, ↓be_0, be_add, be_sub, be_mul, be_neg, be_rem, be_bi, be_bl, be_bv, be_br, be_bE0, be_bE1, be_b1E, be_b0E, be_bkb, be_cast, Int.toNat_natCast, Int.reduceToNat, be_lt, be_le, be_eq, be_nt, be_ck, be_nz, be_bk, be_div, not_true_eq_false, not_false_eq_true, if_true, if_false, eq_self, Int.reduceEq, Int.reduceLT, Int.reduceLE, Bool.true_eq_false, Bool.false_eq_true, hn]
        rw [show be_i 1 = be_i (be_b true) from rfl, ← he2]
        exact g1
theorem bw_m60 (hd : 6 ≤ d) (hW : be_W e) (hT : be_T3 e) {e0 : Nat → Nat → Nat → Int32} (hE0 : bw_E e e0) : ∃ e', am_sem X d 60 [.inr (50, 0)] (am_sd a b u e0 f) = some (none, am_sd a b u e' f) ∧ (∀ c j, c ≠ 68 → c ≠ 71 → c ≠ 72 → c ≠ 73 → be_g e' c j = be_g e0 c j) ∧ ∀ h, h < be_nh e → bw_LF e' e h (be_nr e) (be_nh e) := by
  obtain ⟨d, rfl⟩ : ∃ q, d = q + 1 := ⟨d - 1, by omega⟩
  obtain ⟨nh, nh2⟩ := be_nhR hW
  obtain ⟨nr, nr2⟩ := be_nrR hW
  have key : ∀ (m h : Nat) (z : Int) (z2 : am_V) (e1 : Nat → Nat → Nat → Int32), h + m = be_nh e → z = (h : Int) → bw_E e e1 → (∀ c j, c ≠ 68 → c ≠ 71 → c ≠ 72 → c ≠ 73 → be_g e1 c j = be_g e0 c j) → (∀ g, g < h → bw_LF e1 e g (be_nr e) (be_nh e)) →
      ∃ e', am_fix (am_sem X d) X am_P60 2 [.inr (50, 0), am_I (be_i (z)), z2] [] (am_sd a b u e1 f) = some (none, am_sd a b u e' f) ∧ (∀ c j, c ≠ 68 → c ≠ 71 → c ≠ 72 → c ≠ 73 → be_g e' c j = be_g e0 c j) ∧ ∀ h, h < be_nh e → bw_LF e' e h (be_nr e) (be_nh e) := by
    intro m
    induction m with
    | zero =>
      rintro h z z2 e1 hh rfl hE h0 hL
      obtain rfl : h = be_nh e := hh
      have q0 : e1 50 0 2 = be_i (be_nh e : Int) := by rw [be_gI e1, hE _ _ (by omega) (by omega) (by omega) (by omega) (by omega) (by omega) (by omega) (by omega) (by omega), nh2]
      refine ⟨e1, ?_, h0, hL⟩
      rw [am_b60_2]
      simp (disch := (first | assumption | omega | exact (be_gB _ _ _).1 | exact (be_gB _ _ _).2)) only [↓reduceIte, be_ofI, ↓be_ofN, ↓be_0, be_add, be_sub, be_mul, be_neg, be_rem, be_bi, be_bl, be_bv, be_br, be_bE0, be_bE1, be_b1E, be_b0E, be_bkb, be_cast, Int.toNat_natCast, Int.reduceToNat, be_lt, be_le, be_eq, be_nt, be_ck, be_nz, be_bk, be_div, q0, Int.le_refl]
    | succ m ih =>
      rintro h z z2 e1 hh rfl hE h0 hL
      have q0 : e1 50 0 2 = be_i (be_nh e : Int) := by rw [be_gI e1, hE _ _ (by omega) (by omega) (by omega) (by omega) (by omega) (by omega) (by omega) (by omega) (by omega), nh2]
      have w1 : ¬ (be_nh e : Int) ≤ (h : Int) := by omega
      obtain ⟨e2, a1, a2, a3⟩ := bw_r1 (X := X) (a := a) (b := b) (u := u) (e := e) (f := f) (d := d) (by omega) hW hT (h := h) (by omega) (be_nr e) 0 0 e1 (by omega) rfl hE (fun r hr => by omega)
      have E2 := bw_FH_E a2 hE
      obtain ⟨e3, b1, b2, b3, b4, b5⟩ := bw_r2 (X := X) (a := a) (b := b) (u := u) (f := f) (d := d) (nr := be_nr e) (h := h) (by omega) (4 - be_nr e) (be_nr e) (be_nr e : Int) e2 (by omega) rfl (fun r' h1 h2 => by omega)
      have f3 : bw_FH h e2 e3 := fun c j hc => b2 c j (by omega)
      have E3 := bw_FH_E f3 E2
      obtain ⟨e4, c1, c2, c3⟩ := bw_r3 (X := X) (a := a) (b := b) (u := u) (e := e) (f := f) (d := d) (by omega) hW hT (h := h) (by omega) (be_nh e) 0 0 e3 (by omega) rfl E3 (fun r hr => by omega)
      have f4 : bw_FH h e3 e4 := fun c j hc => c2 c j (by omega)
      have f14 := bw_FH_tr a2 (bw_FH_tr f3 f4)
      obtain ⟨e5, g1, g2, g3⟩ := ih (h + 1) ((h : Int) + 1) (am_I (be_i (be_nh e : Int))) e4 (by omega) (by omega) (bw_FH_E f14 hE) (fun c j k1 k2 k3 k4 => (f14 c j (by omega)).trans (h0 c j k1 k2 k3 k4)) (fun g hg => by
        by_cases eg : g = h
        · subst eg
          refine ⟨fun r hr => ?_, fun r h1 h2 => ?_, ?_, ?_, c3⟩
          · rw [c2 _ _ (by omega), c2 _ _ (by omega), b2 _ _ (by omega), b2 _ _ (by omega)]; exact a3 r hr
          · rw [c2 _ _ (by omega)]; exact b3 r h1 h2
          · rw [c2 _ _ (by omega)]; exact b4
          · rw [c2 _ _ (by omega)]; exact b5
        · obtain ⟨l1, l2, l3, l4, l5⟩ := hL g (by omega)
          refine ⟨fun r hr => ?_, fun r h1 h2 => ?_, ?_, ?_, fun o ho => ?_⟩
          · rw [f14 _ _ (by omega), f14 _ _ (by omega)]; exact l1 r hr
          · rw [f14 _ _ (by omega)]; exact l2 r h1 h2
          · rw [f14 _ _ (by omega)]; exact l3
          · rw [f14 _ _ (by omega)]; exact l4
          · rw [f14 _ _ (by omega)]; exact l5 o ho)
      refine ⟨e5, ?_, g2, g3⟩
      rw [am_b60_2]
      simp (disch := (first | assumption | omega | exact (be_gB _ _ _).1 | exact (be_gB _ _ _).2)) only [↓reduceIte, be_ofI, ↓be_ofN, ↓be_0, be_add, be_sub, be_mul, be_neg, be_rem, be_bi, be_bl, be_bv, be_br, be_bE0, be_bE1, be_b1E, be_b0E, be_bkb, be_cast, Int.toNat_natCast, Int.reduceToNat, be_lt, be_le, be_eq, be_nt, be_ck, be_nz, be_bk, be_div, q0, w1]
      rw [a1, b1, c1]
      exact g1
  rw [am_s60]
  exact key _ 0 0 am_un e0 (Nat.zero_add _) rfl hE0 (fun _ _ _ _ _ _ => rfl) (fun g hg => by omega)
