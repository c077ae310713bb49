/-! CALLS, 18: ends (printed by g90.py) -/
variable {d : Nat} {X : am_X} {a : Nat → Nat → Nat → Int32} {b : Nat → Nat → Nat → Int64} {u : Nat → Nat} {e : Nat → Nat → Nat → Int32} {f : Nat → Nat → Nat → Int64}
theorem be_cends (hd : 12 ≤ d) (hI : be_IV a b u e f) {x : Int} (hx1 : -2147483648 ≤ x) (hx2 : x < 2147483648) : be_C X d 235 87 [am_I (be_i (x))] a b u e f := by
  obtain ⟨d, rfl⟩ : ∃ q, d = q + 1 := ⟨d - 1, by omega⟩
  have he := be_gI e
  obtain ⟨hW, hW2, hT, hh, hD, hth, hX⟩ := hI.1
  have hW1 := hW.1
  obtain ⟨d', hd'⟩ : ∃ q, d = q + 1 := ⟨d - 1, by omega⟩
  have c1 := be_m250 (X := X) (a := a) (b := b) (u := u) (e := e) (f := f) (d := d) (x := x) (y := 0) (z := 1) (by omega) hx1 hx2 (by decide) (by decide) (by decide) (by decide)
  have c2 := fun a' u' => be_m1 (X := X) (a := a') (b := b) (u := u') (e := e) (f := f) (d := d) (x := x) (y := 0) (z := 1) (by omega) hx1 hx2 (by decide) (by decide) (by decide) (by decide)
  by_cases hx : 0 ≤ x ∧ x ≤ 1
  · rw [decide_eq_true hx] at c1 c2
    obtain ⟨a', u', t1, t2, t3, t4⟩ := be_tri (X := X) (a := a) (b := b) (u := u) (e := e) (f := f) (d := d) (by omega) hI
    obtain ⟨e1, g1, g2, g3⟩ := be_s87 (X := X) (b := b) (u := u') (f := f) (d := d) (be_i x) (be_i (be_g e 50 3)) 6 0 0 e rfl rfl
    have hq1 : ∀ c j, c ≠ 84 → be_g e1 c j = be_g e c j := fun c j h => g2 c j (by omega)
    have hA1 : be_A e e1 := ⟨fun c j h => hq1 c j (by omega), fun j h => hq1 50 j (by omega)⟩
    have hRH : be_RH e e1 := fun c j h => hq1 c j (by omega)
    obtain ⟨N, hN⟩ := be_0le hW2.2.2.1.1
    have hX1 := be_RH_HX hRH t2
    have E45 : be_g e1 50 45 = be_g e 50 45 := hq1 _ _ (by decide)
    have E3 : be_g e1 50 3 = be_g e 50 3 := hq1 _ _ (by decide)
    obtain ⟨a3, e3, e4, m1, m2, j1, j2, j3, j4, j5, j6⟩ := be_plan (X := X) (b := b) (u := u') (e := e1) (f := f) (d := d') (e0 := e) (a' := a') (by omega) d (be_RH_W hRH hW) (be_RH_W2 hRH hW2) (by omega) hX1.2.2.2.2.1 (be_i x) (be_i (be_g e 50 3)) N 0 0 am_un am_un a' e1 e1 (by omega) rfl ⟨fun _ _ _ _ => rfl, fun _ _ _ => rfl, fun _ _ _ => rfl, be_RH_W hRH hW, hX1.1, by omega⟩
    have m1' : am_sem X d 157 [.inr (2, 2)] (am_sd a' b u' e f) = some (none, am_sd a3 b u' e f) := by
      rw [hd', am_s157]
      exact m1
    have hA : be_A e4 e3 := ⟨fun c j h => (j3 c j (by omega)).symm, fun j h => (j3 50 j (by omega)).symm⟩
    have F1 : be_g e3 50 1 = be_g e 50 1 := by rw [j2 _ _ (by omega), hq1 _ _ (by omega)]
    have F3 : be_g e4 50 3 = be_g e3 50 3 := j3 _ _ (by omega)
    have F0 : be_g e3 50 0 = be_g e 50 0 := by rw [j2 _ _ (by omega), hq1 _ _ (by omega)]
    have w4 := j4.1
    have W3 : be_W e3 := be_A_W hA (by omega) (by omega) (by omega) (by omega) j4
    have T3 : be_T3 e3 := (be_of_t (e := e) (e' := e3) (fun c j h => by rw [j2 _ _ (by omega), hq1 _ _ (by omega)]) (by rw [j2 _ _ (by omega), hq1 _ _ (by omega)]) (by rw [j2 _ _ (by omega), hq1 _ _ (by omega)])).2.2.2.2 hT
    have T4 : be_T3 e4 := (be_of_t (e := e3) (e' := e4) (fun c j h => j3 _ _ (by omega)) (j3 _ _ (by omega)) (j3 _ _ (by omega))).2.2.2.2 T3
    have nrE : be_nr e3 = be_nr e4 := be_A_nr hA
    have v1 := fun p : Bool => be_A_au hA (be_g e3 50 3) p (be_nr e4)
    have q1 := be_n151 (X := X) (a := a3) (b := b) (u := u') (e0 := e) (e := e4) (f := f) (d := d) (i := 2) (by omega) j4 T4.1 j5 (y := be_g e3 50 3) (by omega) (by omega)
    have q2 := be_n152 (X := X) (a := a3) (b := b) (u := u') (e0 := e) (e := e4) (f := f) (d := d) (i := 2) (by omega) j4 T4.1 j5 (y := be_g e3 50 3) (by omega) (by omega)
    have s1 := fun p a0 => be_m48 (X := X) (a := a0) (b := b) (u := u') (e := e3) (f := f) (d := d) (p := p) (by omega) W3 T3.1
    have d4 : a3 2 2 4 = be_i (be_g e3 50 3) := by rw [j5.2.2.1, F3]
    have m3 := fun a0 => (g1 a0).trans (m2 a0)
    have hf : ∀ c k j, ¬ be_inH 2 c k → a3 c k j = a' c k j := fun c k j h => j1 c k j (by unfold be_inH at h; omega)
    have fin : ∀ V : Int32, ∃ e5, (∀ a0, am_fix (am_sem X d) X am_P87 113 [.inr (50, 0), am_I (be_i (x)), am_I (be_i (be_g e 50 3)), am_I (be_i (be_g e 50 45)), am_un] [am_I V] (am_sd a0 b u' e3 f) = some (some (am_I V), am_sd a0 b u' e5 f)) ∧ be_RA e e5 := by
      intro V
      obtain ⟨e6, he6⟩ : ∃ e6, e6 = am_w3 e3 50 0 3 (be_i (be_g e 50 3)) := ⟨_, rfl⟩
      have k3 : be_g e6 50 3 = be_g e 50 3 := by rw [he6, be_gw _ _ _ _ _ (by omega) (by omega), if_pos ⟨rfl, rfl⟩]
      have k4 : ∀ c j, ¬ (c = 50 ∧ j = 3) → be_g e6 c j = be_g e3 c j := fun c j h => by rw [he6]; exact be_gn _ _ _ _ _ _ _ (by omega)
      obtain ⟨e5, b1, b2, b3⟩ := be_r87 (X := X) (b := b) (u := u') (f := f) (d := d) (be_i x) (be_i (be_g e 50 3)) V 6 0 0 e6 rfl rfl
      refine ⟨e5, fun a0 => ?_, fun c j h => ?_⟩
      · rw [am_b87_113, ← he6]
        exact b1 a0
      · by_cases h7 : c = 57 ∧ j < 6
        · rw [h7.1, b3 j (by omega) h7.2, k4 _ _ (by omega), j2 _ _ (by omega), g3 j (by omega) h7.2]
        · rw [b2 c j (by omega)]
          by_cases h5 : c = 50 ∧ j = 3
          · rw [h5.1, h5.2, k3]
          · rw [k4 _ _ h5, j2 _ _ (by omega), hq1 _ _ (by omega)]
    have hE45 : e3 50 0 45 = be_i (be_g e 50 45) := by rw [be_gI e3, j2 _ _ (by omega), E45]
    rw [E45] at m3
    rcases (show x = 0 ∨ x = 1 by omega) with rfl | rfl
    · have s0 := s1 true
      rw [nrE, v1] at s0
      obtain ⟨e5, b1, b2⟩ := fin (be_i (be_au e4 (be_g e3 50 3) true (be_nr e4) : Int))
      refine ⟨be_i (be_au e4 (be_g e3 50 3) true (be_nr e4) : Int), a3, b, u', e5, f, ?_, ?_, be_RA_IV b2 (fun _ => rfl) (be_IV_tri hI t3 hf (fun k => j1 _ _ _ (by omega)) (fun k => j1 _ _ _ (by omega)) t4)⟩
      · rw [am_s235]
        simp (disch := (first | assumption | omega | exact (be_gB _ _ _).1 | exact (be_gB _ _ _).2)) only [↓reduceIte, be_ofI, ↓be_ofN, ↓be_0, be_add, be_sub, be_mul, be_neg, be_rem, be_bi, be_bl, be_bv, be_br, be_bE0, be_bE1, be_b1E, be_b0E, be_bkb, be_cast, Int.toNat_natCast, Int.reduceToNat, be_lt, be_le, be_eq, be_nt, be_ck, be_nz, be_bk, be_div, not_true_eq_false, not_false_eq_true, if_true, if_false, eq_self, Int.reduceEq, Int.reduceLT, Int.reduceLE, Bool.true_eq_false, Bool.false_eq_true, c1, am_b235_6]
        rw [t1, be_bv, am_b235_22, show am_sem X d 157 [.inr (2, 2)] (am_sd a' b u' e f) = some (none, am_sd a3 b u' e f) from ?_, be_bv, am_b235_29]
        · simp (disch := (first | assumption | omega | exact (be_gB _ _ _).1 | exact (be_gB _ _ _).2)) only [↓reduceIte, be_ofI, ↓be_ofN, ↓be_0, be_add, be_sub, be_mul, be_neg, be_rem, be_bi, be_bl, be_bv, be_br, be_bE0, be_bE1, be_b1E, be_b0E, be_bkb, be_cast, Int.toNat_natCast, Int.reduceToNat, be_lt, be_le, be_eq, be_nt, be_ck, be_nz, be_bk, be_div, not_true_eq_false, not_false_eq_true, if_true, if_false, eq_self, Int.reduceEq, Int.reduceLT, Int.reduceLE, Bool.true_eq_false, Bool.false_eq_true, d4, q1, am_b235_47, am_b235_64]
        · exact m1'
      · rw [am_s87]
        simp (disch := (first | assumption | omega | exact (be_gB _ _ _).1 | exact (be_gB _ _ _).2)) only [↓reduceIte, be_ofI, ↓be_ofN, ↓be_0, be_add, be_sub, be_mul, be_neg, be_rem, be_bi, be_bl, be_bv, be_br, be_bE0, be_bE1, be_b1E, be_b0E, be_bkb, be_cast, Int.toNat_natCast, Int.reduceToNat, be_lt, be_le, be_eq, be_nt, be_ck, be_nz, be_bk, be_div, not_true_eq_false, not_false_eq_true, if_true, if_false, eq_self, Int.reduceEq, Int.reduceLT, Int.reduceLE, Bool.true_eq_false, Bool.false_eq_true, c2, he]
        rw [am_b87_7]
        simp (disch := (first | assumption | omega | exact (be_gB _ _ _).1 | exact (be_gB _ _ _).2)) only [↓reduceIte, be_ofI, ↓be_ofN, ↓be_0, be_add, be_sub, be_mul, be_neg, be_rem, be_bi, be_bl, be_bv, be_br, be_bE0, be_bE1, be_b1E, be_b0E, be_bkb, be_cast, Int.toNat_natCast, Int.reduceToNat, be_lt, be_le, be_eq, be_nt, be_ck, be_nz, be_bk, be_div, not_true_eq_false, not_false_eq_true, if_true, if_false, eq_self, Int.reduceEq, Int.reduceLT, Int.reduceLE, Bool.true_eq_false, Bool.false_eq_true, he]
        rw [m3, am_b87_45]
        simp (disch := (first | assumption | omega | exact (be_gB _ _ _).1 | exact (be_gB _ _ _).2)) only [↓reduceIte, be_ofI, ↓be_ofN, ↓be_0, be_add, be_sub, be_mul, be_neg, be_rem, be_bi, be_bl, be_bv, be_br, be_bE0, be_bE1, be_b1E, be_b0E, be_bkb, be_cast, Int.toNat_natCast, Int.reduceToNat, be_lt, be_le, be_eq, be_nt, be_ck, be_nz, be_bk, be_div, not_true_eq_false, not_false_eq_true, if_true, if_false, eq_self, Int.reduceEq, Int.reduceLT, Int.reduceLE, Bool.true_eq_false, Bool.false_eq_true, hE45, Int.le_refl]
        rw [show be_i 1 = be_i (be_b true) from rfl, s0, be_bi]
        exact b1 _
    · have s0 := s1 false
      rw [nrE, v1] at s0
      obtain ⟨e5, b1, b2⟩ := fin (be_i (be_au e4 (be_g e3 50 3) false (be_nr e4) : Int))
      refine ⟨be_i (be_au e4 (be_g e3 50 3) false (be_nr e4) : Int), a3, b, u', e5, f, ?_, ?_, be_RA_IV b2 (fun _ => rfl) (be_IV_tri hI t3 hf (fun k => j1 _ _ _ (by omega)) (fun k => j1 _ _ _ (by omega)) t4)⟩
      · rw [am_s235]
        simp (disch := (first | assumption | omega | exact (be_gB _ _ _).1 | exact (be_gB _ _ _).2)) only [↓reduceIte, be_ofI, ↓be_ofN, ↓be_0, be_add, be_sub, be_mul, be_neg, be_rem, be_bi, be_bl, be_bv, be_br, be_bE0, be_bE1, be_b1E, be_b0E, be_bkb, be_cast, Int.toNat_natCast, Int.reduceToNat, be_lt, be_le, be_eq, be_nt, be_ck, be_nz, be_bk, be_div, not_true_eq_false, not_false_eq_true, if_true, if_false, eq_self, Int.reduceEq, Int.reduceLT, Int.reduceLE, Bool.true_eq_false, Bool.false_eq_true, c1, am_b235_6]
        rw [t1, be_bv, am_b235_22, show am_sem X d 157 [.inr (2, 2)] (am_sd a' b u' e f) = some (none, am_sd a3 b u' e f) from ?_, be_bv, am_b235_29]
        · simp (disch := (first | assumption | omega | exact (be_gB _ _ _).1 | exact (be_gB _ _ _).2)) only [↓reduceIte, be_ofI, ↓be_ofN, ↓be_0, be_add, be_sub, be_mul, be_neg, be_rem, be_bi, be_bl, be_bv, be_br, be_bE0, be_bE1, be_b1E, be_b0E, be_bkb, be_cast, Int.toNat_natCast, Int.reduceToNat, be_lt, be_le, be_eq, be_nt, be_ck, be_nz, be_bk, be_div, not_true_eq_false, not_false_eq_true, if_true, if_false, eq_self, Int.reduceEq, Int.reduceLT, Int.reduceLE, Bool.true_eq_false, Bool.false_eq_true, d4, q2, am_b235_64]
        · exact m1'
      · rw [am_s87]
        simp (disch := (first | assumption | omega | exact (be_gB _ _ _).1 | exact (be_gB _ _ _).2)) only [↓reduceIte, be_ofI, ↓be_ofN, ↓be_0, be_add, be_sub, be_mul, be_neg, be_rem, be_bi, be_bl, be_bv, be_br, be_bE0, be_bE1, be_b1E, be_b0E, be_bkb, be_cast, Int.toNat_natCast, Int.reduceToNat, be_lt, be_le, be_eq, be_nt, be_ck, be_nz, be_bk, be_div, not_true_eq_false, not_false_eq_true, if_true, if_false, eq_self, Int.reduceEq, Int.reduceLT, Int.reduceLE, Bool.true_eq_false, Bool.false_eq_true, c2, he]
        rw [am_b87_7]
        simp (disch := (first | assumption | omega | exact (be_gB _ _ _).1 | exact (be_gB _ _ _).2)) only [↓reduceIte, be_ofI, ↓be_ofN, ↓be_0, be_add, be_sub, be_mul, be_neg, be_rem, be_bi, be_bl, be_bv, be_br, be_bE0, be_bE1, be_b1E, be_b0E, be_bkb, be_cast, Int.toNat_natCast, Int.reduceToNat, be_lt, be_le, be_eq, be_nt, be_ck, be_nz, be_bk, be_div, not_true_eq_false, not_false_eq_true, if_true, if_false, eq_self, Int.reduceEq, Int.reduceLT, Int.reduceLE, Bool.true_eq_false, Bool.false_eq_true, he]
        rw [m3, am_b87_45]
        simp (disch := (first | assumption | omega | exact (be_gB _ _ _).1 | exact (be_gB _ _ _).2)) only [↓reduceIte, be_ofI, ↓be_ofN, ↓be_0, be_add, be_sub, be_mul, be_neg, be_rem, be_bi, be_bl, be_bv, be_br, be_bE0, be_bE1, be_b1E, be_b0E, be_bkb, be_cast, Int.toNat_natCast, Int.reduceToNat, be_lt, be_le, be_eq, be_nt, be_ck, be_nz, be_bk, be_div, not_true_eq_false, not_false_eq_true, if_true, if_false, eq_self, Int.reduceEq, Int.reduceLT, Int.reduceLE, Bool.true_eq_false, Bool.false_eq_true, hE45, Int.le_refl]
        rw [show be_i 0 = be_i (be_b false) from rfl, s0, be_bi]
        exact b1 _
  · rw [decide_eq_false hx] at c1 c2
    refine be_Cp (v := be_i (-1)) hI ?_ ?_
    · rw [am_s235]
      simp (disch := (first | assumption | omega | exact (be_gB _ _ _).1 | exact (be_gB _ _ _).2)) only [↓reduceIte, be_ofI, ↓be_ofN, ↓be_0, be_add, be_sub, be_mul, be_neg, be_rem, be_bi, be_bl, be_bv, be_br, be_bE0, be_bE1, be_b1E, be_b0E, be_bkb, be_cast, Int.toNat_natCast, Int.reduceToNat, be_lt, be_le, be_eq, be_nt, be_ck, be_nz, be_bk, be_div, not_true_eq_false, not_false_eq_true, if_true, if_false, eq_self, Int.reduceEq, Int.reduceLT, Int.reduceLE, Bool.true_eq_false, Bool.false_eq_true, c1, am_b235_6]
    · rw [am_s87]
      simp (disch := (first | assumption | omega | exact (be_gB _ _ _).1 | exact (be_gB _ _ _).2)) only [↓reduceIte, be_ofI, ↓be_ofN, ↓be_0, be_add, be_sub, be_mul, be_neg, be_rem, be_bi, be_bl, be_bv, be_br, be_bE0, be_bE1, be_b1E, be_b0E, be_bkb, be_cast, Int.toNat_natCast, Int.reduceToNat, be_lt, be_le, be_eq, be_nt, be_ck, be_nz, be_bk, be_div, not_true_eq_false, not_false_eq_true, if_true, if_false, eq_self, Int.reduceEq, Int.reduceLT, Int.reduceLE, Bool.true_eq_false, Bool.false_eq_true, c2, am_b87_7]
