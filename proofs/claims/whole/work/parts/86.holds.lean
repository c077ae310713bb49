/-! CALLS, 14: holds, can, where -/
variable {d : Nat} {X : am_X} {a : Nat → Nat → Nat → Int32} {b : Nat → Nat → Nat → Int64} {u : Nat → Nat} {e : Nat → Nat → Nat → Int32} {f : Nat → Nat → Nat → Int64}
theorem be_k29 {e1 : Nat → Nat → Nat → Int32} {k : Nat} (hk : k ≤ 12) (q : ∀ c j, ¬ (c = 50 ∧ j = 29) → be_g e1 c j = be_g e c j) (r : be_g e1 50 29 = (k : Int)) (hW : be_W e) (hT : be_T2 e) : be_W e1 ∧ be_T2 e1 ∧ be_h e1 = (k : Int) ∧ be_q e1 = be_q e := by
  have hb : be_beg e1 = be_beg e := by unfold be_beg; rw [q _ _ (by omega)]
  have hn : be_num e1 = be_num e := by unfold be_num; simp (disch := omega) only [q]
  have hl : ∀ w z n, be_last e1 w z n = be_last e w z n := by
    intro w z n
    induction n with
    | zero => rfl
    | succ n ih => rw [be_last, be_last, ih, hb]; simp (disch := omega) only [q]
  refine ⟨⟨?_, ?_, ?_, ?_⟩, ⟨⟨?_, ?_, ?_, ?_⟩, ?_, ?_⟩, ?_, ?_⟩
  · simp (disch := omega) only [q]; exact hW.1
  · intro g hg; simp (disch := omega) only [q]; exact hW.2.1 g hg
  · intro g hg; simp (disch := omega) only [q]; exact hW.2.2.1 g hg
  · intro g hg; simp (disch := omega) only [q]; exact hW.2.2.2 g hg
  · rw [q _ _ (by omega)]; exact hT.1.1
  · rw [q _ _ (by omega)]; exact hT.1.2.1
  · simp (disch := omega) only [q]; exact hT.1.2.2.1
  · intro c hc; rw [q _ _ (by omega)]; exact hT.1.2.2.2 c hc
  · rw [r]; omega
  · rw [r]; omega
  · unfold be_h; rw [r, if_pos (by omega)]
  · unfold be_q; rw [hn, hl]
theorem be_HO29 {e1 : Nat → Nat → Nat → Int32} {i k : Nat} {a1 : Nat → Nat → Nat → Int32} (q : ∀ c j, ¬ (c = 50 ∧ j = 29) → be_g e1 c j = be_g e c j) (hh : be_h e1 = (k : Int)) (hq : be_q e1 = be_q e) (hW : be_W e) (hX : be_HO a u i e) (ha : ∀ c k j, ¬ (c = 2 ∧ k = i ∧ j = 6) → a1 c k j = a c k j) (h6 : a1 2 i 6 = be_i (k : Int)) : be_HO a1 u i e1 := by
  obtain ⟨o1, o2, o3, o4, o5, o6, o7⟩ := hX
  obtain ⟨nh, nh2⟩ := be_nhR hW
  have nhE : be_nh e1 = be_nh e := by unfold be_nh; rw [q _ _ (by omega)]
  have nrE : be_nr e1 = be_nr e := by unfold be_nr; rw [q _ _ (by omega)]
  have ftE : ∀ r, be_ft e1 r = be_ft e r := fun r => by unfold be_ft; rw [q _ _ (by omega)]
  refine ⟨?_, ?_, ?_, ?_, ?_, ?_, ?_⟩
  · rw [ha _ _ _ (by omega), q _ _ (by omega)]; exact o1
  · rw [ha _ _ _ (by omega), q _ _ (by omega)]; exact o2
  · rw [ha _ _ _ (by omega), q _ _ (by omega)]; exact o3
  · rw [hh]; exact h6
  · rw [ha _ _ _ (by omega), hq]; exact o5
  · intro g hg
    rw [nhE] at hg
    have z := o6 g hg
    unfold be_HR at z ⊢
    simp (disch := omega) only [ha, q]
    exact z
  · intro g hg
    rw [nrE] at hg
    have z := o7 g hg
    unfold be_RR at z ⊢
    simp (disch := omega) only [ha, q, ftE]
    exact z
theorem be_cholds (hd : 12 ≤ d) (hI : be_IV a b u e f) {x : Int} (hx1 : -2147483648 ≤ x) (hx2 : x < 2147483648) : be_C X d 227 76 [am_I (be_i (x))] a b u e f := by
  obtain ⟨d, rfl⟩ : ∃ q, d = q + 1 := ⟨d - 1, by omega⟩
  have he := be_gI e
  obtain ⟨hW, hW2, hT, hh, hD, hth, hX⟩ := hI.1
  have c1 := be_m250 (X := X) (a := a) (b := b) (u := u) (e := e) (f := f) (d := d) (x := x) (y := 1) (z := 20) (by omega) hx1 hx2 (by decide) (by decide) (by decide) (by decide)
  have c2 := fun a' u' => be_m1 (X := X) (a := a') (b := b) (u := u') (e := e) (f := f) (d := d) (x := x) (y := 1) (z := 20) (by omega) hx1 hx2 (by decide) (by decide) (by decide) (by decide)
  by_cases hx : 1 ≤ x ∧ x ≤ 20
  · rw [decide_eq_true hx] at c1 c2
    obtain ⟨N, rfl⟩ := be_0le (show 0 ≤ x by omega)
    obtain ⟨a', u', t1, t2, t3, t4⟩ := be_tri (X := X) (a := a) (b := b) (u := u) (e := e) (f := f) (d := d) (by omega) hI
    have key : ∀ (m k : Nat) (z : Int) (x2 x3 : Int32) (z5 z6 : am_V) (a1 e1 : Nat → Nat → Nat → Int32), k + m = 13 → z = (k : Int) → (∀ c i j, ¬ (c = 2 ∧ i = 2 ∧ j = 6) → a1 c i j = a' c i j) → (∀ c j, ¬ (c = 50 ∧ j = 29) → be_g e1 c j = be_g e c j) →
        ∃ (v : Int32) (a2 e2 : Nat → Nat → Nat → Int32), am_fix (am_sem X d) X am_P227 31 [.inr (9, 0), am_I (be_i ((N : Int))), am_I x2, am_I x3, am_I (be_i (z)), z5] [] (am_sd a1 b u' e f) = some (some (am_I v), am_sd a2 b u' e f) ∧ (∀ a0, am_fix (am_sem X d) X am_P76 21 [.inr (50, 0), am_I (be_i ((N : Int))), am_I x2, am_I x3, am_I (be_i (z)), z6] [] (am_sd a0 b u' e1 f) = some (some (am_I v), am_sd a0 b u' e2 f)) ∧
          (∀ c i j, ¬ (c = 2 ∧ i = 2 ∧ j = 6) → a2 c i j = a' c i j) ∧ (∀ c j, ¬ (c = 50 ∧ j = 29) → be_g e2 c j = be_g e c j) ∧ be_g e2 50 29 = -1 := by
      intro m
      induction m with
      | zero =>
        rintro k z x2 x3 z5 z6 a1 e1 hk rfl h1 h2
        obtain rfl : k = 13 := hk
        refine ⟨x2, a1, am_w3 e1 50 0 29 (be_i (-1)), ?_, ?_, h1, fun c j h => (be_gn _ _ _ _ _ _ _ (by omega)).trans (h2 c j h), ?_⟩
        · rw [am_b227_31, if_pos (by decide)]
        · intro a0
          rw [am_b76_21, if_pos (by decide)]
        · rw [be_gw _ _ _ _ _ (by omega) (by omega), if_pos ⟨rfl, rfl⟩]
      | succ m ih =>
        rintro k z x2 x3 z5 z6 a1 e1 hk rfl h1 h2
        obtain ⟨e3, he3⟩ : ∃ e3, e3 = am_w3 e1 50 0 29 (be_i (k : Int)) := ⟨_, rfl⟩
        obtain ⟨a3, ha3⟩ : ∃ a3, a3 = am_w3 a1 2 2 6 (be_i (k : Int)) := ⟨_, rfl⟩
        have q3 : ∀ c j, ¬ (c = 50 ∧ j = 29) → be_g e3 c j = be_g e c j := fun c j h => by rw [he3, be_gn _ _ _ _ _ _ _ (by omega)]; exact h2 c j h
        have r3 : be_g e3 50 29 = (k : Int) := by rw [he3, be_gw _ _ _ _ _ (by omega) (by omega), if_pos ⟨rfl, rfl⟩]
        have p3 : ∀ c i j, ¬ (c = 2 ∧ i = 2 ∧ j = 6) → a3 c i j = a' c i j := fun c i j h => by rw [ha3, be_w3n _ _ _ _ _ _ _ _ (by omega)]; exact h1 c i j h
        have p6 : a3 2 2 6 = be_i (k : Int) := by rw [ha3, be_w3s]
        obtain ⟨w1, w2, w3, w4⟩ := be_k29 (e1 := e3) (k := k) (by omega) q3 r3 hW hT.1
        have w5 := be_HO29 (i := 2) q3 w3 w4 hW t2.1 p3 p6
        have d3 : be_g e3 50 3 = be_g e 50 3 := q3 _ _ (by omega)
        have v1 := be_n153 (X := X) (a := a3) (b := b) (u := u') (e0 := e) (e := e3) (f := f) (d := d) (i := 2) (N := N) (by omega) w1 w2 (by omega) w5 (by omega)
        have v2 := fun a0 => be_m57 (X := X) (a := a0) (b := b) (u := u') (e := e3) (f := f) (d := d) (N := N) (by omega) w1 w2 (by omega) (by omega)
        obtain ⟨V, hV⟩ : ∃ V : Int32, V = be_i (be_ws e3 (be_g e3 50 3) N : Int) := ⟨_, rfl⟩
        rw [← hV] at v1
        have v2 := fun a0 => (v2 a0).trans (by rw [← hV])
        have lo : ¬ (12 : Int) < (k : Int) := by omega
        have lo2 : ¬ (13 : Int) ≤ (k : Int) := by omega
        by_cases hk0 : k = 0
        · subst hk0
          obtain ⟨v, a2, e2, g1, g2, g3, g4, g5⟩ := ih 1 1 (be_i 0) V (am_I V) (am_I V) a3 e3 (by omega) rfl p3 q3
          refine ⟨v, a2, e2, ?_, ?_, g3, g4, g5⟩
          · rw [am_b227_31, if_neg (by decide), ← ha3, v1, be_bi, am_b227_55, if_pos (by decide)]
            exact g1
          · intro a0
            rw [am_b76_21, if_neg (by decide), ← he3, v2, be_bi, am_b76_39, if_pos (by decide)]
            exact g2 a0
        · have k0 : ¬ be_i (k : Int) = (0 : Int32) := by rw [be_0, be_eq (by omega) (by omega) (by omega) (by omega)]; omega
          have k1 : ¬ be_i (k : Int) ≤ (0 : Int32) := by rw [be_0, be_le (by omega) (by omega) (by omega) (by omega)]; omega
          have k2 : ¬ be_i 12 < be_i (k : Int) := by rw [be_lt (by omega) (by omega) (by omega) (by omega)]; omega
          have k3 : ¬ be_i 13 ≤ be_i (k : Int) := by rw [be_le (by omega) (by omega) (by omega) (by omega)]; omega
          have k4 : be_i (k : Int) + be_i 1 = be_i ((k : Int) + 1) := be_add _ _
          by_cases hv : x3 < V
          · have hv' : ¬ V ≤ x3 := Int32.not_le.2 hv
            obtain ⟨v, a2, e2, g1, g2, g3, g4, g5⟩ := ih (k + 1) ((k : Int) + 1) x2 x3 (am_I V) (am_I V) a3 e3 (by omega) (by omega) p3 q3
            refine ⟨v, a2, e2, ?_, ?_, g3, g4, g5⟩
            · rw [am_b227_31]
              rw [if_neg k2, ← ha3, v1, be_bi, am_b227_55, if_neg k0, if_pos hv, k4]
              exact g1
            · intro a0
              rw [am_b76_21]
              rw [if_neg k3, ← he3, v2, be_bi, am_b76_39, if_neg k1, if_neg hv', k4]
              exact g2 a0
          · have hv' : V ≤ x3 := Int32.not_lt.1 hv
            obtain ⟨v, a2, e2, g1, g2, g3, g4, g5⟩ := ih (k + 1) ((k : Int) + 1) (be_i (k : Int)) V (am_I V) (am_I V) a3 e3 (by omega) (by omega) p3 q3
            refine ⟨v, a2, e2, ?_, ?_, g3, g4, g5⟩
            · rw [am_b227_31]
              rw [if_neg k2, ← ha3, v1, be_bi, am_b227_55, if_neg k0, if_neg hv, k4]
              exact g1
            · intro a0
              rw [am_b76_21]
              rw [if_neg k3, ← he3, v2, be_bi, am_b76_39, if_neg k1, if_pos hv', k4]
              exact g2 a0
    obtain ⟨v, a2, e2, g1, g2, g3, g4, g5⟩ := key 13 0 0 (be_i 0) (be_i 0) am_un am_un a' e rfl rfl (fun _ _ _ _ => rfl) (fun _ _ _ => rfl)
    refine ⟨v, a2, b, u', e2, f, ?_, ?_, be_RA_IV (fun c j h => ?_) (fun _ => rfl) (be_IV_tri hI t3 (fun c k j h => g3 c k j (by unfold be_inH at h; omega)) (fun k => g3 _ _ _ (by omega)) (fun k => g3 _ _ _ (by omega)) t4)⟩
    · rw [am_s227]
      simp (disch := (first | assumption | omega | exact (be_gB _ _ _).1 | exact (be_gB _ _ _).2)) only [↓reduceIte, be_ofI, ↓be_ofN, ↓be_0, be_add, be_sub, be_mul, be_neg, be_rem, be_bi, be_bl, be_bv, be_br, be_bE0, be_bE1, be_b1E, be_b0E, be_bkb, be_cast, Int.toNat_natCast, Int.reduceToNat, be_lt, be_le, be_eq, be_nt, be_ck, be_nz, be_bk, be_div, not_true_eq_false, not_false_eq_true, if_true, if_false, eq_self, Int.reduceEq, Int.reduceLT, Int.reduceLE, Bool.true_eq_false, Bool.false_eq_true, c1, t1, am_b227_7, am_b227_24]
      exact g1
    · rw [am_s76]
      simp (disch := (first | assumption | omega | exact (be_gB _ _ _).1 | exact (be_gB _ _ _).2)) only [↓reduceIte, be_ofI, ↓be_ofN, ↓be_0, be_add, be_sub, be_mul, be_neg, be_rem, be_bi, be_bl, be_bv, be_br, be_bE0, be_bE1, be_b1E, be_b0E, be_bkb, be_cast, Int.toNat_natCast, Int.reduceToNat, be_lt, be_le, be_eq, be_nt, be_ck, be_nz, be_bk, be_div, not_true_eq_false, not_false_eq_true, if_true, if_false, eq_self, Int.reduceEq, Int.reduceLT, Int.reduceLE, Bool.true_eq_false, Bool.false_eq_true, c2, am_b76_8]
      exact g2 a2
    · by_cases h9 : c = 50 ∧ j = 29
      · rw [h9.1, h9.2, g5, hh]
      · exact g4 c j h9
  · rw [decide_eq_false hx] at c1 c2
    refine be_Cp (v := be_i (-2)) hI ?_ ?_
    · rw [am_s227]
      simp (disch := (first | assumption | omega | exact (be_gB _ _ _).1 | exact (be_gB _ _ _).2)) only [↓reduceIte, be_ofI, ↓be_ofN, ↓be_0, be_add, be_sub, be_mul, be_neg, be_rem, be_bi, be_bl, be_bv, be_br, be_bE0, be_bE1, be_b1E, be_b0E, be_bkb, be_cast, Int.toNat_natCast, Int.reduceToNat, be_lt, be_le, be_eq, be_nt, be_ck, be_nz, be_bk, be_div, not_true_eq_false, not_false_eq_true, if_true, if_false, eq_self, Int.reduceEq, Int.reduceLT, Int.reduceLE, Bool.true_eq_false, Bool.false_eq_true, c1, am_b227_7]
    · rw [am_s76]
      simp (disch := (first | assumption | omega | exact (be_gB _ _ _).1 | exact (be_gB _ _ _).2)) only [↓reduceIte, be_ofI, ↓be_ofN, ↓be_0, be_add, be_sub, be_mul, be_neg, be_rem, be_bi, be_bl, be_bv, be_br, be_bE0, be_bE1, be_b1E, be_b0E, be_bkb, be_cast, Int.toNat_natCast, Int.reduceToNat, be_lt, be_le, be_eq, be_nt, be_ck, be_nz, be_bk, be_div, not_true_eq_false, not_false_eq_true, if_true, if_false, eq_self, Int.reduceEq, Int.reduceLT, Int.reduceLE, Bool.true_eq_false, Bool.false_eq_true, c2, am_b76_8]
