/-! CALLS, 6: on, give, room, hour, feed (printed by g78.py) -/
variable {d : Nat} {X : am_X} {a : Nat → Nat → Nat → Int32} {b : Nat → Nat → Nat → Int64} {u : Nat → Nat} {e : Nat → Nat → Nat → Int32} {f : Nat → Nat → Nat → Int64}
theorem be_con (hd : 12 ≤ d) (hI : be_IV a b u e f) {x w : Int} (hx1 : -2147483648 ≤ x) (hx2 : x < 2147483648) (hw1 : -2147483648 ≤ w) (hw2 : w < 2147483648) : be_C X d 219 59 [am_I (be_i (x)), am_I (be_i (w))] a b u e f := by
  obtain ⟨d, rfl⟩ : ∃ q, d = q + 1 := ⟨d - 1, by omega⟩
  have he := be_gI e
  obtain ⟨hW, hW2, hT, hh, hD, -, hX⟩ := hI.1
  obtain ⟨nr, nr2⟩ := be_nrR hW
  obtain ⟨nh, nh2⟩ := be_nhR hW
  have hT2 := hT.1
  have hW1 := hW.1
  have e4 := hX.1.2.2.1
  have c1 := be_m250 (X := X) (a := a) (b := b) (u := u) (e := e) (f := f) (d := d) (x := x) (y := 0) (z := 60) (by omega) hx1 hx2 (by decide) (by decide) (by decide) (by decide)
  have c2 := be_m1 (X := X) (a := a) (b := b) (u := u) (e := e) (f := f) (d := d) (x := x) (y := 0) (z := 60) (by omega) hx1 hx2 (by decide) (by decide) (by decide) (by decide)
  have i1 := be_m1 (X := X) (a := a) (b := b) (u := u) (e := e) (f := f) (d := d) (x := w) (y := 10) (z := 9 + be_g e 50 2) (by omega) hw1 hw2 (by omega) (by omega) (by omega) (by omega)
  have i2 := be_m1 (X := X) (a := a) (b := b) (u := u) (e := e) (f := f) (d := d) (x := w) (y := 20) (z := 19 + be_g e 50 0) (by omega) hw1 hw2 (by omega) (by omega) (by omega) (by omega)
  have i3 := be_m1 (X := X) (a := a) (b := b) (u := u) (e := e) (f := f) (d := d) (x := w) (y := 30) (z := 29 + be_g e 50 0) (by omega) hw1 hw2 (by omega) (by omega) (by omega) (by omega)
  by_cases gA : 10 ≤ w ∧ w ≤ 9 + be_g e 50 2
  · obtain ⟨h, hk⟩ := be_0le (show 0 ≤ w - 10 by omega)
    have j1 := be_hasH (X := X) (a := a) (b := b) (u := u) (e := e) (f := f) (d := d) (x := w - 10) (by omega) hI (by omega) (by omega)
    rw [decide_eq_true (by omega)] at j1
    rw [decide_eq_true gA] at i1
    have g1 : ¬ w < 10 := by omega
    have g2 : w < 20 := by omega
    have g3 : w < 30 := by omega
    have g5 : ¬ 20 ≤ w := by omega
    rw [hk] at j1
    by_cases hx : 0 ≤ x ∧ x ≤ 60
    · rw [decide_eq_true hx] at c1 c2
      have v1 := be_m133 (X := X) (a := a) (b := b) (u := u) (e := e) (f := f) (d := d) (h := h) (x := h) (y := be_g e 50 3 + x) (by omega) hW (by omega) (be_HR0 hX (by omega)) (by omega) (by omega)
      have hA : be_A e (am_w3 e 50 0 3 (be_i (be_g e 50 3 + x))) := be_A_dy _
      have hg : be_g (am_w3 e 50 0 3 (be_i (be_g e 50 3 + x))) 50 3 = be_g e 50 3 + x := by rw [be_gw _ _ _ _ _ (by omega) (by omega), if_pos ⟨rfl, rfl⟩]
      have hf1 : be_g (am_w3 e 50 0 3 (be_i (be_g e 50 3 + x))) 50 1 = be_g e 50 1 := be_gn _ _ _ _ _ _ _ (by decide)
      have hW' := be_A_W hA (by omega) (by omega) (by omega) (by omega) hW
      have v2 := be_m37 (X := X) (a := a) (b := b) (u := u) (e := am_w3 e 50 0 3 (be_i (be_g e 50 3 + x))) (f := f) (d := d) (h := h) (by omega) hW' (by omega)
      rw [hg, be_A_comes hA] at v2
      have he' := be_gI (am_w3 e 50 0 3 (be_i (be_g e 50 3 + x)))
      refine be_Cp (v := be_i (be_comes e (be_g e 50 3 + x) h)) hI ?_ ?_
      · rw [am_s219]
        simp (disch := (first | assumption | omega | exact (be_gB _ _ _).1 | exact (be_gB _ _ _).2)) only [↓reduceIte, be_ofI, ↓be_ofN, ↓be_0, be_add, be_sub, be_mul, be_neg, be_rem, be_bi, be_bl, be_bv, be_br, be_bE0, be_bE1, be_b1E, be_b0E, be_bkb, be_cast, Int.toNat_natCast, Int.reduceToNat, be_lt, be_le, be_eq, be_nt, be_ck, be_nz, be_bk, be_div, not_true_eq_false, not_false_eq_true, if_true, if_false, eq_self, Int.reduceEq, Int.reduceLT, Int.reduceLE, Bool.true_eq_false, Bool.false_eq_true, g1, g2, g3, hk, j1, c1, e4, v1, am_b219_17, am_b219_43, am_b219_70, am_b219_103, am_b219_141, am_b219_160, am_b219_176]
      · rw [am_s59]
        simp (disch := (first | assumption | omega | exact (be_gB _ _ _).1 | exact (be_gB _ _ _).2)) only [↓reduceIte, be_ofI, ↓be_ofN, ↓be_0, be_add, be_sub, be_mul, be_neg, be_rem, be_bi, be_bl, be_bv, be_br, be_bE0, be_bE1, be_b1E, be_b0E, be_bkb, be_cast, Int.toNat_natCast, Int.reduceToNat, be_lt, be_le, be_eq, be_nt, be_ck, be_nz, be_bk, be_div, not_true_eq_false, not_false_eq_true, if_true, if_false, eq_self, Int.reduceEq, Int.reduceLT, Int.reduceLE, Bool.true_eq_false, Bool.false_eq_true, he, g5, hk, i1, c2, v2, he', hg, be_ww, am_b59_14, am_b59_61, am_b59_91, am_b59_126]
        rw [be_wid (by rw [he]; congr 1; omega)]
    · rw [decide_eq_false hx] at c1 c2
      refine be_Cp (v := be_i (-2)) hI ?_ ?_
      · rw [am_s219]
        simp (disch := (first | assumption | omega | exact (be_gB _ _ _).1 | exact (be_gB _ _ _).2)) only [↓reduceIte, be_ofI, ↓be_ofN, ↓be_0, be_add, be_sub, be_mul, be_neg, be_rem, be_bi, be_bl, be_bv, be_br, be_bE0, be_bE1, be_b1E, be_b0E, be_bkb, be_cast, Int.toNat_natCast, Int.reduceToNat, be_lt, be_le, be_eq, be_nt, be_ck, be_nz, be_bk, be_div, not_true_eq_false, not_false_eq_true, if_true, if_false, eq_self, Int.reduceEq, Int.reduceLT, Int.reduceLE, Bool.true_eq_false, Bool.false_eq_true, g1, g2, g3, hk, j1, c1, am_b219_17, am_b219_43, am_b219_70, am_b219_103, am_b219_141, am_b219_160, am_b219_176]
      · rw [am_s59]
        simp (disch := (first | assumption | omega | exact (be_gB _ _ _).1 | exact (be_gB _ _ _).2)) only [↓reduceIte, be_ofI, ↓be_ofN, ↓be_0, be_add, be_sub, be_mul, be_neg, be_rem, be_bi, be_bl, be_bv, be_br, be_bE0, be_bE1, be_b1E, be_b0E, be_bkb, be_cast, Int.toNat_natCast, Int.reduceToNat, be_lt, be_le, be_eq, be_nt, be_ck, be_nz, be_bk, be_div, not_true_eq_false, not_false_eq_true, if_true, if_false, eq_self, Int.reduceEq, Int.reduceLT, Int.reduceLE, Bool.true_eq_false, Bool.false_eq_true, he, i1, c2, am_b59_14, am_b59_61]
  · rw [decide_eq_false gA] at i1
    by_cases gB : 20 ≤ w ∧ w ≤ 19 + be_g e 50 0
    · rw [decide_eq_true gB] at i2
      have g1 : ¬ w < 10 := by omega
      have g2 : ¬ w < 20 := by omega
      have g3 : w < 30 := by omega
      have g5 : 20 ≤ w := by omega
      have g6 : ¬ 30 ≤ w := by omega
      have j1 := be_hasH (X := X) (a := a) (b := b) (u := u) (e := e) (f := f) (d := d) (x := w - 10) (by omega) hI (by omega) (by omega)
      rw [decide_eq_false (by omega)] at j1
      obtain ⟨r, hk⟩ := be_0le (show 0 ≤ w - 20 by omega)
      have j2 := be_hasR (X := X) (a := a) (b := b) (u := u) (e := e) (f := f) (d := d) (x := w - 20) (by omega) hI (by omega) (by omega)
      rw [decide_eq_true (by omega)] at j2
      rw [hk] at j2
      by_cases hx : 0 ≤ x ∧ x ≤ 60
      · rw [decide_eq_true hx] at c1 c2
        have v1 := be_m149 (X := X) (a := a) (b := b) (u := u) (e := e) (f := f) (d := d) (i := 0) (r := r) (y := be_g e 50 3 + x) (by omega) hW hT2 (by omega) hX.1 (by omega) (by omega)
        have hA : be_A e (am_w3 e 50 0 3 (be_i (be_g e 50 3 + x))) := be_A_dy _
        have hg : be_g (am_w3 e 50 0 3 (be_i (be_g e 50 3 + x))) 50 3 = be_g e 50 3 + x := by rw [be_gw _ _ _ _ _ (by omega) (by omega), if_pos ⟨rfl, rfl⟩]
        have hf1 : be_g (am_w3 e 50 0 3 (be_i (be_g e 50 3 + x))) 50 1 = be_g e 50 1 := be_gn _ _ _ _ _ _ _ (by decide)
        have hW' := be_A_W hA (by omega) (by omega) (by omega) (by omega) hW
        have v2 := be_m47 (X := X) (a := a) (b := b) (u := u) (e := am_w3 e 50 0 3 (be_i (be_g e 50 3 + x))) (f := f) (d := d) (r := (r : Int)) (p := true) (by omega) hW' (be_A_T hA hT2) (by omega) (by omega)
        rw [hg, be_A_un hA, be_A_q hA, be_bT] at v2
        have he' := be_gI (am_w3 e 50 0 3 (be_i (be_g e 50 3 + x)))
        refine be_Cp (v := be_i (be_un e (be_g e 50 3 + x) r true (be_q e).toNat : Int)) hI ?_ ?_
        · rw [am_s219]
          simp (disch := (first | assumption | omega | exact (be_gB _ _ _).1 | exact (be_gB _ _ _).2)) only [↓reduceIte, be_ofI, ↓be_ofN, ↓be_0, be_add, be_sub, be_mul, be_neg, be_rem, be_bi, be_bl, be_bv, be_br, be_bE0, be_bE1, be_b1E, be_b0E, be_bkb, be_cast, Int.toNat_natCast, Int.reduceToNat, be_lt, be_le, be_eq, be_nt, be_ck, be_nz, be_bk, be_div, not_true_eq_false, not_false_eq_true, if_true, if_false, eq_self, Int.reduceEq, Int.reduceLT, Int.reduceLE, Bool.true_eq_false, Bool.false_eq_true, g1, g2, g3, hk, j1, j2, c1, e4, v1, am_b219_17, am_b219_43, am_b219_70, am_b219_103, am_b219_141, am_b219_160, am_b219_176]
        · rw [am_s59]
          simp (disch := (first | assumption | omega | exact (be_gB _ _ _).1 | exact (be_gB _ _ _).2)) only [↓reduceIte, be_ofI, ↓be_ofN, ↓be_0, be_add, be_sub, be_mul, be_neg, be_rem, be_bi, be_bl, be_bv, be_br, be_bE0, be_bE1, be_b1E, be_b0E, be_bkb, be_cast, Int.toNat_natCast, Int.reduceToNat, be_lt, be_le, be_eq, be_nt, be_ck, be_nz, be_bk, be_div, not_true_eq_false, not_false_eq_true, if_true, if_false, eq_self, Int.reduceEq, Int.reduceLT, Int.reduceLE, Bool.true_eq_false, Bool.false_eq_true, he, g5, g6, hk, i1, i2, c2, v2, he', hg, be_ww, am_b59_14, am_b59_31, am_b59_48, am_b59_61, am_b59_91, am_b59_126]
          rw [be_wid (by rw [he]; congr 1; omega)]
      · rw [decide_eq_false hx] at c1 c2
        refine be_Cp (v := be_i (-2)) hI ?_ ?_
        · rw [am_s219]
          simp (disch := (first | assumption | omega | exact (be_gB _ _ _).1 | exact (be_gB _ _ _).2)) only [↓reduceIte, be_ofI, ↓be_ofN, ↓be_0, be_add, be_sub, be_mul, be_neg, be_rem, be_bi, be_bl, be_bv, be_br, be_bE0, be_bE1, be_b1E, be_b0E, be_bkb, be_cast, Int.toNat_natCast, Int.reduceToNat, be_lt, be_le, be_eq, be_nt, be_ck, be_nz, be_bk, be_div, not_true_eq_false, not_false_eq_true, if_true, if_false, eq_self, Int.reduceEq, Int.reduceLT, Int.reduceLE, Bool.true_eq_false, Bool.false_eq_true, g1, g2, g3, hk, j1, j2, c1, am_b219_17, am_b219_43, am_b219_70, am_b219_103, am_b219_141, am_b219_160, am_b219_176]
        · rw [am_s59]
          simp (disch := (first | assumption | omega | exact (be_gB _ _ _).1 | exact (be_gB _ _ _).2)) only [↓reduceIte, be_ofI, ↓be_ofN, ↓be_0, be_add, be_sub, be_mul, be_neg, be_rem, be_bi, be_bl, be_bv, be_br, be_bE0, be_bE1, be_b1E, be_b0E, be_bkb, be_cast, Int.toNat_natCast, Int.reduceToNat, be_lt, be_le, be_eq, be_nt, be_ck, be_nz, be_bk, be_div, not_true_eq_false, not_false_eq_true, if_true, if_false, eq_self, Int.reduceEq, Int.reduceLT, Int.reduceLE, Bool.true_eq_false, Bool.false_eq_true, he, i1, i2, c2, am_b59_14, am_b59_31, am_b59_48, am_b59_61]
    · rw [decide_eq_false gB] at i2
      by_cases gC : 30 ≤ w ∧ w ≤ 29 + be_g e 50 0
      · rw [decide_eq_true gC] at i3
        have g1 : ¬ w < 10 := by omega
        have g2 : ¬ w < 20 := by omega
        have g3 : ¬ w < 30 := by omega
        have g5 : 20 ≤ w := by omega
        have g6 : 30 ≤ w := by omega
        have j1 := be_hasH (X := X) (a := a) (b := b) (u := u) (e := e) (f := f) (d := d) (x := w - 10) (by omega) hI (by omega) (by omega)
        rw [decide_eq_false (by omega)] at j1
        have j3 := be_hasR (X := X) (a := a) (b := b) (u := u) (e := e) (f := f) (d := d) (x := w - 20) (by omega) hI (by omega) (by omega)
        rw [decide_eq_false (by omega)] at j3
        obtain ⟨r, hk⟩ := be_0le (show 0 ≤ w - 30 by omega)
        have j2 := be_hasR (X := X) (a := a) (b := b) (u := u) (e := e) (f := f) (d := d) (x := w - 30) (by omega) hI (by omega) (by omega)
        rw [decide_eq_true (by omega)] at j2
        rw [hk] at j2
        by_cases hx : 0 ≤ x ∧ x ≤ 60
        · rw [decide_eq_true hx] at c1 c2
          have v1 := be_m150 (X := X) (a := a) (b := b) (u := u) (e := e) (f := f) (d := d) (i := 0) (r := r) (y := be_g e 50 3 + x) (by omega) hW hT2 (by omega) hX.1 (by omega) (by omega)
          have hA : be_A e (am_w3 e 50 0 3 (be_i (be_g e 50 3 + x))) := be_A_dy _
          have hg : be_g (am_w3 e 50 0 3 (be_i (be_g e 50 3 + x))) 50 3 = be_g e 50 3 + x := by rw [be_gw _ _ _ _ _ (by omega) (by omega), if_pos ⟨rfl, rfl⟩]
          have hf1 : be_g (am_w3 e 50 0 3 (be_i (be_g e 50 3 + x))) 50 1 = be_g e 50 1 := be_gn _ _ _ _ _ _ _ (by decide)
          have hW' := be_A_W hA (by omega) (by omega) (by omega) (by omega) hW
          have v2 := be_m47 (X := X) (a := a) (b := b) (u := u) (e := am_w3 e 50 0 3 (be_i (be_g e 50 3 + x))) (f := f) (d := d) (r := (r : Int)) (p := false) (by omega) hW' (be_A_T hA hT2) (by omega) (by omega)
          rw [hg, be_A_un hA, be_A_q hA, be_bF] at v2
          have he' := be_gI (am_w3 e 50 0 3 (be_i (be_g e 50 3 + x)))
          refine be_Cp (v := be_i (be_un e (be_g e 50 3 + x) r false (be_q e).toNat : Int)) hI ?_ ?_
          · rw [am_s219]
            simp (disch := (first | assumption | omega | exact (be_gB _ _ _).1 | exact (be_gB _ _ _).2)) only [↓reduceIte, be_ofI, ↓be_ofN, ↓be_0, be_add, be_sub, be_mul, be_neg, be_rem, be_bi, be_bl, be_bv, be_br, be_bE0, be_bE1, be_b1E, be_b0E, be_bkb, be_cast, Int.toNat_natCast, Int.reduceToNat, be_lt, be_le, be_eq, be_nt, be_ck, be_nz, be_bk, be_div, not_true_eq_false, not_false_eq_true, if_true, if_false, eq_self, Int.reduceEq, Int.reduceLT, Int.reduceLE, Bool.true_eq_false, Bool.false_eq_true, g1, g2, g3, hk, j1, j3, j2, c1, e4, v1, am_b219_17, am_b219_43, am_b219_70, am_b219_103, am_b219_141, am_b219_160, am_b219_176]
          · rw [am_s59]
            simp (disch := (first | assumption | omega | exact (be_gB _ _ _).1 | exact (be_gB _ _ _).2)) only [↓reduceIte, be_ofI, ↓be_ofN, ↓be_0, be_add, be_sub, be_mul, be_neg, be_rem, be_bi, be_bl, be_bv, be_br, be_bE0, be_bE1, be_b1E, be_b0E, be_bkb, be_cast, Int.toNat_natCast, Int.reduceToNat, be_lt, be_le, be_eq, be_nt, be_ck, be_nz, be_bk, be_div, not_true_eq_false, not_false_eq_true, if_true, if_false, eq_self, Int.reduceEq, Int.reduceLT, Int.reduceLE, Bool.true_eq_false, Bool.false_eq_true, he, g5, g6, hk, i1, i2, i3, c2, v2, he', hg, be_ww, am_b59_14, am_b59_31, am_b59_48, am_b59_61, am_b59_91, am_b59_126]
            rw [be_wid (by rw [he]; congr 1; omega)]
        · rw [decide_eq_false hx] at c1 c2
          refine be_Cp (v := be_i (-2)) hI ?_ ?_
          · rw [am_s219]
            simp (disch := (first | assumption | omega | exact (be_gB _ _ _).1 | exact (be_gB _ _ _).2)) only [↓reduceIte, be_ofI, ↓be_ofN, ↓be_0, be_add, be_sub, be_mul, be_neg, be_rem, be_bi, be_bl, be_bv, be_br, be_bE0, be_bE1, be_b1E, be_b0E, be_bkb, be_cast, Int.toNat_natCast, Int.reduceToNat, be_lt, be_le, be_eq, be_nt, be_ck, be_nz, be_bk, be_div, not_true_eq_false, not_false_eq_true, if_true, if_false, eq_self, Int.reduceEq, Int.reduceLT, Int.reduceLE, Bool.true_eq_false, Bool.false_eq_true, g1, g2, g3, hk, j1, j3, j2, c1, am_b219_17, am_b219_43, am_b219_70, am_b219_103, am_b219_141, am_b219_160, am_b219_176]
          · rw [am_s59]
            simp (disch := (first | assumption | omega | exact (be_gB _ _ _).1 | exact (be_gB _ _ _).2)) only [↓reduceIte, be_ofI, ↓be_ofN, ↓be_0, be_add, be_sub, be_mul, be_neg, be_rem, be_bi, be_bl, be_bv, be_br, be_bE0, be_bE1, be_b1E, be_b0E, be_bkb, be_cast, Int.toNat_natCast, Int.reduceToNat, be_lt, be_le, be_eq, be_nt, be_ck, be_nz, be_bk, be_div, not_true_eq_false, not_false_eq_true, if_true, if_false, eq_self, Int.reduceEq, Int.reduceLT, Int.reduceLE, Bool.true_eq_false, Bool.false_eq_true, he, i1, i2, i3, c2, am_b59_14, am_b59_31, am_b59_48, am_b59_61]
      · rw [decide_eq_false gC] at i3
        refine be_Cp (v := be_i (-1)) hI ?_ ?_
        · rw [am_s219]
          by_cases g1 : w < 10
          · have g2 : w < 20 := by omega
            have g3 : w < 30 := by omega
            simp (disch := (first | assumption | omega | exact (be_gB _ _ _).1 | exact (be_gB _ _ _).2)) only [↓reduceIte, be_ofI, ↓be_ofN, ↓be_0, be_add, be_sub, be_mul, be_neg, be_rem, be_bi, be_bl, be_bv, be_br, be_bE0, be_bE1, be_b1E, be_b0E, be_bkb, be_cast, Int.toNat_natCast, Int.reduceToNat, be_lt, be_le, be_eq, be_nt, be_ck, be_nz, be_bk, be_div, not_true_eq_false, not_false_eq_true, if_true, if_false, eq_self, Int.reduceEq, Int.reduceLT, Int.reduceLE, Bool.true_eq_false, Bool.false_eq_true, g1, g2, g3]
          · have j1 := be_hasH (X := X) (a := a) (b := b) (u := u) (e := e) (f := f) (d := d) (x := w - 10) (by omega) hI (by omega) (by omega)
            rw [decide_eq_false (by omega)] at j1
            by_cases g2 : w < 20
            · have g3 : w < 30 := by omega
              simp (disch := (first | assumption | omega | exact (be_gB _ _ _).1 | exact (be_gB _ _ _).2)) only [↓reduceIte, be_ofI, ↓be_ofN, ↓be_0, be_add, be_sub, be_mul, be_neg, be_rem, be_bi, be_bl, be_bv, be_br, be_bE0, be_bE1, be_b1E, be_b0E, be_bkb, be_cast, Int.toNat_natCast, Int.reduceToNat, be_lt, be_le, be_eq, be_nt, be_ck, be_nz, be_bk, be_div, not_true_eq_false, not_false_eq_true, if_true, if_false, eq_self, Int.reduceEq, Int.reduceLT, Int.reduceLE, Bool.true_eq_false, Bool.false_eq_true, g1, g2, g3, j1, am_b219_17]
            · have j2 := be_hasR (X := X) (a := a) (b := b) (u := u) (e := e) (f := f) (d := d) (x := w - 20) (by omega) hI (by omega) (by omega)
              rw [decide_eq_false (by omega)] at j2
              by_cases g3 : w < 30
              · simp (disch := (first | assumption | omega | exact (be_gB _ _ _).1 | exact (be_gB _ _ _).2)) only [↓reduceIte, be_ofI, ↓be_ofN, ↓be_0, be_add, be_sub, be_mul, be_neg, be_rem, be_bi, be_bl, be_bv, be_br, be_bE0, be_bE1, be_b1E, be_b0E, be_bkb, be_cast, Int.toNat_natCast, Int.reduceToNat, be_lt, be_le, be_eq, be_nt, be_ck, be_nz, be_bk, be_div, not_true_eq_false, not_false_eq_true, if_true, if_false, eq_self, Int.reduceEq, Int.reduceLT, Int.reduceLE, Bool.true_eq_false, Bool.false_eq_true, g1, g2, g3, j1, j2, am_b219_17, am_b219_43]
              · have j3 := be_hasR (X := X) (a := a) (b := b) (u := u) (e := e) (f := f) (d := d) (x := w - 30) (by omega) hI (by omega) (by omega)
                rw [decide_eq_false (by omega)] at j3
                simp (disch := (first | assumption | omega | exact (be_gB _ _ _).1 | exact (be_gB _ _ _).2)) only [↓reduceIte, be_ofI, ↓be_ofN, ↓be_0, be_add, be_sub, be_mul, be_neg, be_rem, be_bi, be_bl, be_bv, be_br, be_bE0, be_bE1, be_b1E, be_b0E, be_bkb, be_cast, Int.toNat_natCast, Int.reduceToNat, be_lt, be_le, be_eq, be_nt, be_ck, be_nz, be_bk, be_div, not_true_eq_false, not_false_eq_true, if_true, if_false, eq_self, Int.reduceEq, Int.reduceLT, Int.reduceLE, Bool.true_eq_false, Bool.false_eq_true, g1, g2, g3, j1, j2, j3, am_b219_17, am_b219_43, am_b219_70]
        · rw [am_s59]
          simp (disch := (first | assumption | omega | exact (be_gB _ _ _).1 | exact (be_gB _ _ _).2)) only [↓reduceIte, be_ofI, ↓be_ofN, ↓be_0, be_add, be_sub, be_mul, be_neg, be_rem, be_bi, be_bl, be_bv, be_br, be_bE0, be_bE1, be_b1E, be_b0E, be_bkb, be_cast, Int.toNat_natCast, Int.reduceToNat, be_lt, be_le, be_eq, be_nt, be_ck, be_nz, be_bk, be_div, not_true_eq_false, not_false_eq_true, if_true, if_false, eq_self, Int.reduceEq, Int.reduceLT, Int.reduceLE, Bool.true_eq_false, Bool.false_eq_true, he, i1, i2, i3, am_b59_14, am_b59_31, am_b59_48]
theorem be_cgive (hd : 12 ≤ d) (hI : be_IV a b u e f) {x y : Int} (hx1 : -2147483648 ≤ x) (hx2 : x < 2147483648) (hy1 : -2147483648 ≤ y) (hy2 : y < 2147483648) : be_C X d 211 54 [am_I (be_i (x)), am_I (be_i (y))] a b u e f := by
  obtain ⟨d, rfl⟩ : ∃ q, d = q + 1 := ⟨d - 1, by omega⟩
  have he := be_gI e
  have hI' := hI
  obtain ⟨⟨hW, hW2, hT, hh, hD, hth, hX⟩, -⟩ := hI'
  have hW1 := hW.1
  have hT2 := hT.1
  obtain ⟨nr, nr2⟩ := be_nrR hW
  obtain ⟨nh, nh2⟩ := be_nhR hW
  have c1 := be_hasH (X := X) (a := a) (b := b) (u := u) (e := e) (f := f) (d := d) (x := x) (by omega) hI hx1 hx2
  have c2 := fun a' => be_m6 (X := X) (a := a') (b := b) (u := u) (e := e) (f := f) (d := d) (x := x) (by omega) hx1 hx2 (by omega)
  have c3 := be_hasR (X := X) (a := a) (b := b) (u := u) (e := e) (f := f) (d := d) (x := y) (by omega) hI hy1 hy2
  have c4 := fun a' => be_m5 (X := X) (a := a') (b := b) (u := u) (e := e) (f := f) (d := d) (x := y) (by omega) hy1 hy2 hW1.1
  by_cases hx : 0 ≤ x ∧ x ≤ be_g e 50 2 - 1
  · rw [decide_eq_true hx] at c1 c2
    obtain ⟨h, rfl⟩ := be_0le hx.1
    have hHR := be_HR0 hX (show h < be_nh e by omega)
    have z6 := hHR.2.2.2.2.2.2.1
    have w1 := hW.2.1 h (by omega)
    by_cases hym : y = -1
    · subst hym
      obtain ⟨e', he'⟩ : ∃ e', e' = am_w3 e 57 0 h (be_i 4) := ⟨_, rfl⟩
      obtain ⟨a', ha'⟩ : ∃ a', a' = am_w3 a 1 h 6 (be_i (-5)) := ⟨_, rfl⟩
      have hq : ∀ c j, ¬ (c = 57 ∧ j = h) → be_g e' c j = be_g e c j := fun c j h => by rw [he']; exact be_gn _ _ _ _ _ _ _ (by omega)
      have hq3 : be_g e' 57 h = 4 := by rw [he', be_gw _ _ _ _ _ (by omega) (by omega), if_pos ⟨rfl, rfl⟩]
      have ha : ∀ c k j, ¬ (c = 1 ∧ k = h ∧ j = 6) → a' c k j = a c k j := fun c k j h => by rw [ha']; exact be_w3n _ _ _ _ _ _ _ _ h
      have ha3 : a' 1 h 6 = be_i (-5) := by rw [ha', be_w3s]
      refine be_Ch (v := be_i (if be_g e 57 h = 4 then -5 else be_g e 57 h)) (a' := a') (e' := e') hI ?_ ?_ (fun c k j h => ha _ _ _ (by unfold be_inH at h; omega)) (fun k => ha _ _ _ (by omega)) (fun k => ha _ _ _ (by omega)) (fun c j h => hq _ _ (by omega)) ?_
      · rw [am_s211]
        simp (disch := (first | assumption | omega | exact (be_gB _ _ _).1 | exact (be_gB _ _ _).2)) only [↓reduceIte, be_ofI, ↓be_ofN, ↓be_0, be_add, be_sub, be_mul, be_neg, be_rem, be_bi, be_bl, be_bv, be_br, be_bE0, be_bE1, be_b1E, be_b0E, be_bkb, be_cast, Int.toNat_natCast, Int.reduceToNat, be_lt, be_le, be_eq, be_nt, be_ck, be_nz, be_bk, be_div, not_true_eq_false, not_false_eq_true, if_true, if_false, eq_self, Int.reduceEq, Int.reduceLT, Int.reduceLE, Bool.true_eq_false, Bool.false_eq_true, c1, z6, am_b211_8]
        rw [ha']
      · rw [am_s54]
        simp (disch := (first | assumption | omega | exact (be_gB _ _ _).1 | exact (be_gB _ _ _).2)) only [↓reduceIte, be_ofI, ↓be_ofN, ↓be_0, be_add, be_sub, be_mul, be_neg, be_rem, be_bi, be_bl, be_bv, be_br, be_bE0, be_bE1, be_b1E, be_b0E, be_bkb, be_cast, Int.toNat_natCast, Int.reduceToNat, be_lt, be_le, be_eq, be_nt, be_ck, be_nz, be_bk, be_div, not_true_eq_false, not_false_eq_true, if_true, if_false, eq_self, Int.reduceEq, Int.reduceLT, Int.reduceLE, Bool.true_eq_false, Bool.false_eq_true, c2, am_b54_5]
        rw [am_b54_41]
        simp (disch := (first | assumption | omega | exact (be_gB _ _ _).1 | exact (be_gB _ _ _).2)) only [↓reduceIte, be_ofI, ↓be_ofN, ↓be_0, be_add, be_sub, be_mul, be_neg, be_rem, be_bi, be_bl, be_bv, be_br, be_bE0, be_bE1, be_b1E, be_b0E, be_bkb, be_cast, Int.toNat_natCast, Int.reduceToNat, be_lt, be_le, be_eq, be_nt, be_ck, be_nz, be_bk, be_div, not_true_eq_false, not_false_eq_true, if_true, if_false, eq_self, Int.reduceEq, Int.reduceLT, Int.reduceLE, Bool.true_eq_false, Bool.false_eq_true, he]
        rw [if_neg (by omega), he']
        (repeat' split) <;> first | rfl | omega
      · skip
        obtain ⟨qE, hE, theE, numE, tE⟩ := be_of_t (e := e) (e' := e') (fun c j h => hq _ _ (by omega)) (hq _ _ (by omega)) (hq _ _ (by omega))
        have nhE : be_nh e' = be_nh e := by unfold be_nh; rw [hq _ _ (by omega)]
        have nrE : be_nr e' = be_nr e := by unfold be_nr; rw [hq _ _ (by omega)]
        have ftE : ∀ r, be_ft e' r = be_ft e r := fun r => by unfold be_ft; rw [hq _ _ (by omega)]
        obtain ⟨⟨o1, o2, o3, o4, o5, o6, o7⟩, x1, x2, ⟨s1, s2⟩, ⟨p1, p2⟩, ⟨k1, k2⟩⟩ := hX
        refine ⟨?_, ?_, tE hT, ?_, ?_, ?_, ?_⟩
        · skip
          refine ⟨?_, ?_, ?_, ?_⟩
          · simp (disch := omega) only [hq]; exact hW.1
          · intro g hg
            by_cases hgh : g = h
            · subst hgh; have y := hW.2.1 g hg; simp (disch := omega) only [hq, hq3]; omega
            · simp (disch := omega) only [hq]; exact hW.2.1 g hg
          · intro g hg; simp (disch := omega) only [hq]; exact hW.2.2.1 g hg
          · intro g hg; simp (disch := omega) only [hq]; exact hW.2.2.2 g hg
        · skip
          refine ⟨?_, ?_, ?_, ?_⟩
          · intro g hg
            rw [hq 50 2 (by omega)] at hg
            rw [hq 50 0 (by omega)]
            by_cases hgh : g = h
            · subst hgh; rw [hq3]; omega
            · rw [hq _ _ (by omega)]; exact hW2.1 g hg
          · refine ⟨?_, ?_, fun k hk => ?_⟩
            · simp (disch := omega) only [hq]; exact hW2.2.1.1
            · simp (disch := omega) only [hq]; exact hW2.2.1.2.1
            · simp (disch := omega) only [hq] at hk ⊢; exact hW2.2.1.2.2 k hk
          · refine ⟨?_, ?_, fun k hk => ?_⟩
            · simp (disch := omega) only [hq]; exact hW2.2.2.1.1
            · simp (disch := omega) only [hq]; exact hW2.2.2.1.2.1
            · simp (disch := omega) only [hq] at hk ⊢; exact hW2.2.2.1.2.2 k hk
          · refine ⟨?_, ?_, fun k hk => ?_⟩
            · simp (disch := omega) only [hq]; exact hW2.2.2.2.1
            · simp (disch := omega) only [hq]; exact hW2.2.2.2.2.1
            · simp (disch := omega) only [hq] at hk ⊢; exact hW2.2.2.2.2.2 k hk
        · rw [hq _ _ (by omega)]; exact hh
        · rw [hq _ _ (by omega)]; exact hD
        · rw [hq _ _ (by omega), hq _ _ (by omega)]; exact hth
        · skip
          refine ⟨⟨?_, ?_, ?_, ?_, ?_, ?_, ?_⟩, ?_, ?_, ⟨?_, ?_⟩, ⟨?_, ?_⟩, ⟨?_, ?_⟩⟩
          · rw [ha _ _ _ (by omega), hq _ _ (by omega)]; exact o1
          · rw [ha _ _ _ (by omega), hq _ _ (by omega)]; exact o2
          · rw [ha _ _ _ (by omega), hq _ _ (by omega)]; exact o3
          · rw [ha _ _ _ (by omega), hE]; exact o4
          · rw [ha _ _ _ (by omega), qE]; exact o5
          · intro g hg
            rw [nhE] at hg
            obtain ⟨y0, y1, y2, y3, y4, y5, y6, y7⟩ := o6 g hg
            refine ⟨?_, ?_, ?_, ?_, ?_, ?_, ?_, ?_⟩
            · rw [ha _ _ _ (by omega)]; exact y0
            · rw [ha _ _ _ (by omega), hq _ _ (by omega)]; exact y1
            · rw [ha _ _ _ (by omega), hq _ _ (by omega)]; exact y2
            · rw [ha _ _ _ (by omega), hq _ _ (by omega)]; exact y3
            · rw [ha _ _ _ (by omega), hq _ _ (by omega)]; exact y4
            · rw [ha _ _ _ (by omega), hq _ _ (by omega)]; exact y5
            · by_cases hgh : g = h
              · subst hgh; rw [hq3]; exact ha3.trans (congrArg be_i (by split <;> omega))
              · rw [ha _ _ _ (by omega), hq _ _ (by omega)]; exact y6
            · intro j hj
              rw [ha _ _ _ (by omega), hq _ _ (by omega)]; exact y7 j hj
          · intro g hg
            rw [nrE] at hg
            have z := o7 g hg
            unfold be_RR at z ⊢
            simp (disch := omega) only [ha, hq, ftE]
            exact z
          · rw [hq _ _ (by omega)]; exact x1
          · rw [theE, numE]; exact be_OW_t (fun c k j h => ha _ _ _ (by omega)) (fun c j h => hq _ _ (by omega)) x2
          · rw [ha _ _ _ (by omega), hq _ _ (by omega)]; exact s1
          · intro k hk
            simp (disch := omega) only [ha, hq] at hk ⊢
            exact s2 k hk
          · rw [ha _ _ _ (by omega), hq _ _ (by omega)]; exact p1
          · intro k hk
            simp (disch := omega) only [ha, hq] at hk ⊢
            exact p2 k hk
          · rw [ha _ _ _ (by omega), hq _ _ (by omega)]; exact k1
          · intro k hk
            simp (disch := omega) only [ha, hq] at hk ⊢
            exact k2 k hk
    · by_cases hy : 0 ≤ y ∧ y ≤ be_g e 50 0 - 1
      · rw [decide_eq_true hy] at c3 c4
        obtain ⟨r, rfl⟩ := be_0le hy.1
        have hRR := be_RR0 hX (show r < be_nr e by omega)
        have v1 := be_m182 (X := X) (a := a) (b := b) (u := u) (e := e) (f := f) (d := d) (by omega) hW (by omega) (by omega) hHR hRR
        have v2 := fun a' => be_m51 (X := X) (a := a') (b := b) (u := u) (e := e) (f := f) (d := d) (h := h) (r := r) (by omega) hW (by omega) (by omega)
        have v3 := be_m146 (X := X) (a := a) (b := b) (u := u) (e := e) (f := f) (d := d) (i := 0) (h := h) (r := r) (x := h) (by omega) hW (by omega) (by omega) hX.1 hHR
        have g0 : ¬ (r : Int) < 0 := by omega
        have g1 : (0 : Int) ≤ r := by omega
        by_cases hf : be_fit e h r = true
        · rw [hf] at v1 v2
          have key : ∀ (a' : Nat → Nat → Nat → Int32) (n k : Nat) (z : Int), k + n = be_nh e → z = (k : Int) → be_any (be_c1 e r h) k = false → am_fix (am_sem X d) X am_P54 41 [.inr (50, 0), am_I (be_i ((h : Int))), am_I (be_i ((r : Int))), am_I (be_i (z))] [] (am_sd a' b u e f) = if be_any (be_c1 e r h) (be_nh e) = true then some (some (am_I (be_i (-3))), am_sd a' b u e f) else some (some (am_I (be_i (if be_g e 57 h = 4 then -5 else be_g e 57 h))), am_sd a' b u (am_w3 e 57 0 h (be_i (r : Int))) f) := by
            intro a' n
            induction n with
            | zero =>
              rintro k z hk rfl hfa
              obtain rfl : k = be_nh e := hk
              rw [am_b54_41, hfa]
              simp (disch := (first | assumption | omega | exact (be_gB _ _ _).1 | exact (be_gB _ _ _).2)) only [↓reduceIte, be_ofI, ↓be_ofN, ↓be_0, be_add, be_sub, be_mul, be_neg, be_rem, be_bi, be_bl, be_bv, be_br, be_bE0, be_bE1, be_b1E, be_b0E, be_bkb, be_cast, Int.toNat_natCast, Int.reduceToNat, be_lt, be_le, be_eq, be_nt, be_ck, be_nz, be_bk, be_div, not_true_eq_false, not_false_eq_true, if_true, if_false, eq_self, Int.reduceEq, Int.reduceLT, Int.reduceLE, Bool.true_eq_false, Bool.false_eq_true, he, g0, g1]
              rw [if_pos (by omega)]
              (repeat' split) <;> first | rfl | omega
            | succ n ih =>
              rintro k z hk rfl hfa
              have w2 := hW.2.1 k (by omega)
              have v4 := be_m52 (X := X) (a := a') (b := b) (u := u) (e := e) (f := f) (d := d) (h := k) (o := h) (by omega) hW hT2 (by omega) (by omega)
              have hs : be_any (be_c1 e r h) (k + 1) = (be_any (be_c1 e r h) k || be_c1 e r h k) := rfl
              have hc1 : be_c1 e r h k = (decide (¬ k = h) && (decide (be_g e 57 k = (r : Int)) && be_cl e k h)) := rfl
              rw [am_b54_41]
              simp (disch := (first | assumption | omega | exact (be_gB _ _ _).1 | exact (be_gB _ _ _).2)) only [↓reduceIte, be_ofI, ↓be_ofN, ↓be_0, be_add, be_sub, be_mul, be_neg, be_rem, be_bi, be_bl, be_bv, be_br, be_bE0, be_bE1, be_b1E, be_b0E, be_bkb, be_cast, Int.toNat_natCast, Int.reduceToNat, be_lt, be_le, be_eq, be_nt, be_ck, be_nz, be_bk, be_div, not_true_eq_false, not_false_eq_true, if_true, if_false, eq_self, Int.reduceEq, Int.reduceLT, Int.reduceLE, Bool.true_eq_false, Bool.false_eq_true, he, g0, v4, am_b54_74]
              rw [if_neg (by omega)]
              by_cases q1 : (k : Int) = (h : Int)
              · rw [if_pos q1]
                exact ih (k + 1) _ (by omega) (by omega) (by rw [hs, hfa, hc1, decide_eq_false (by omega)]; rfl)
              · rw [if_neg q1]
                by_cases q2 : be_g e 57 k = (r : Int)
                · rw [if_neg (by omega)]
                  cases q3 : be_cl e k h
                  · simp only [if_true]
                    exact ih (k + 1) _ (by omega) (by omega) (by rw [hs, hfa, hc1, q3, Bool.and_false, Bool.and_false]; rfl)
                  · have := be_any_t (P := be_c1 e r h) (k := k) (by rw [hc1, decide_eq_true (by omega), decide_eq_true q2, q3]; rfl) (n := be_nh e) (by omega)
                    rw [this]
                    simp only [Bool.true_eq_false, if_false, if_true]
                · rw [if_pos (by omega)]
                  exact ih (k + 1) _ (by omega) (by omega) (by rw [hs, hfa, hc1, decide_eq_false q2, Bool.false_and, Bool.and_false]; rfl)
          have key := fun a' => key a' (be_nh e) 0 0 (Nat.zero_add _) rfl rfl
          by_cases hcl : be_any (be_c1 e r h) (be_nh e) = true
          · rw [hcl] at v3 key
            simp only [if_true] at key
            refine be_Cp (v := be_i (-3)) hI ?_ ?_
            · rw [am_s211]
              simp (disch := (first | assumption | omega | exact (be_gB _ _ _).1 | exact (be_gB _ _ _).2)) only [↓reduceIte, be_ofI, ↓be_ofN, ↓be_0, be_add, be_sub, be_mul, be_neg, be_rem, be_bi, be_bl, be_bv, be_br, be_bE0, be_bE1, be_b1E, be_b0E, be_bkb, be_cast, Int.toNat_natCast, Int.reduceToNat, be_lt, be_le, be_eq, be_nt, be_ck, be_nz, be_bk, be_div, not_true_eq_false, not_false_eq_true, if_true, if_false, eq_self, Int.reduceEq, Int.reduceLT, Int.reduceLE, Bool.true_eq_false, Bool.false_eq_true, hym, c1, c3, v1, v3, am_b211_8, am_b211_24, am_b211_57, am_b211_69]
            · rw [am_s54]
              simp (disch := (first | assumption | omega | exact (be_gB _ _ _).1 | exact (be_gB _ _ _).2)) only [↓reduceIte, be_ofI, ↓be_ofN, ↓be_0, be_add, be_sub, be_mul, be_neg, be_rem, be_bi, be_bl, be_bv, be_br, be_bE0, be_bE1, be_b1E, be_b0E, be_bkb, be_cast, Int.toNat_natCast, Int.reduceToNat, be_lt, be_le, be_eq, be_nt, be_ck, be_nz, be_bk, be_div, not_true_eq_false, not_false_eq_true, if_true, if_false, eq_self, Int.reduceEq, Int.reduceLT, Int.reduceLE, Bool.true_eq_false, Bool.false_eq_true, hym, g0, c2, c4, v2, key, am_b54_5, am_b54_18, am_b54_33]
          · rw [eq_false_of_ne_true hcl] at v3 key
            simp only [Bool.false_eq_true, if_false] at key
            obtain ⟨e', he'⟩ : ∃ e', e' = am_w3 e 57 0 h (be_i (r : Int)) := ⟨_, rfl⟩
            obtain ⟨a', ha'⟩ : ∃ a', a' = am_w3 a 1 h 6 (be_i (r : Int)) := ⟨_, rfl⟩
            have hq : ∀ c j, ¬ (c = 57 ∧ j = h) → be_g e' c j = be_g e c j := fun c j h => by rw [he']; exact be_gn _ _ _ _ _ _ _ (by omega)
            have hq3 : be_g e' 57 h = (r : Int) := by rw [he', be_gw _ _ _ _ _ (by omega) (by omega), if_pos ⟨rfl, rfl⟩]
            have ha : ∀ c k j, ¬ (c = 1 ∧ k = h ∧ j = 6) → a' c k j = a c k j := fun c k j h => by rw [ha']; exact be_w3n _ _ _ _ _ _ _ _ h
            have ha3 : a' 1 h 6 = be_i (r : Int) := by rw [ha', be_w3s]
            refine be_Ch (v := be_i (if be_g e 57 h = 4 then -5 else be_g e 57 h)) (a' := a') (e' := e') hI ?_ ?_ (fun c k j h => ha _ _ _ (by unfold be_inH at h; omega)) (fun k => ha _ _ _ (by omega)) (fun k => ha _ _ _ (by omega)) (fun c j h => hq _ _ (by omega)) ?_
            · rw [am_s211]
              simp (disch := (first | assumption | omega | exact (be_gB _ _ _).1 | exact (be_gB _ _ _).2)) only [↓reduceIte, be_ofI, ↓be_ofN, ↓be_0, be_add, be_sub, be_mul, be_neg, be_rem, be_bi, be_bl, be_bv, be_br, be_bE0, be_bE1, be_b1E, be_b0E, be_bkb, be_cast, Int.toNat_natCast, Int.reduceToNat, be_lt, be_le, be_eq, be_nt, be_ck, be_nz, be_bk, be_div, not_true_eq_false, not_false_eq_true, if_true, if_false, eq_self, Int.reduceEq, Int.reduceLT, Int.reduceLE, Bool.true_eq_false, Bool.false_eq_true, hym, c1, c3, v1, v3, z6, am_b211_8, am_b211_24, am_b211_57, am_b211_69]
              rw [ha']
            · rw [am_s54]
              simp (disch := (first | assumption | omega | exact (be_gB _ _ _).1 | exact (be_gB _ _ _).2)) only [↓reduceIte, be_ofI, ↓be_ofN, ↓be_0, be_add, be_sub, be_mul, be_neg, be_rem, be_bi, be_bl, be_bv, be_br, be_bE0, be_bE1, be_b1E, be_b0E, be_bkb, be_cast, Int.toNat_natCast, Int.reduceToNat, be_lt, be_le, be_eq, be_nt, be_ck, be_nz, be_bk, be_div, not_true_eq_false, not_false_eq_true, if_true, if_false, eq_self, Int.reduceEq, Int.reduceLT, Int.reduceLE, Bool.true_eq_false, Bool.false_eq_true, hym, g0, c2, c4, v2, key, am_b54_5, am_b54_18, am_b54_33]
              rw [he']
            · skip
              obtain ⟨qE, hE, theE, numE, tE⟩ := be_of_t (e := e) (e' := e') (fun c j h => hq _ _ (by omega)) (hq _ _ (by omega)) (hq _ _ (by omega))
              have nhE : be_nh e' = be_nh e := by unfold be_nh; rw [hq _ _ (by omega)]
              have nrE : be_nr e' = be_nr e := by unfold be_nr; rw [hq _ _ (by omega)]
              have ftE : ∀ r, be_ft e' r = be_ft e r := fun r => by unfold be_ft; rw [hq _ _ (by omega)]
              obtain ⟨⟨o1, o2, o3, o4, o5, o6, o7⟩, x1, x2, ⟨s1, s2⟩, ⟨p1, p2⟩, ⟨k1, k2⟩⟩ := hX
              refine ⟨?_, ?_, tE hT, ?_, ?_, ?_, ?_⟩
              · skip
                refine ⟨?_, ?_, ?_, ?_⟩
                · simp (disch := omega) only [hq]; exact hW.1
                · intro g hg
                  by_cases hgh : g = h
                  · subst hgh; have y := hW.2.1 g hg; simp (disch := omega) only [hq, hq3]; omega
                  · simp (disch := omega) only [hq]; exact hW.2.1 g hg
                · intro g hg; simp (disch := omega) only [hq]; exact hW.2.2.1 g hg
                · intro g hg; simp (disch := omega) only [hq]; exact hW.2.2.2 g hg
              · skip
                refine ⟨?_, ?_, ?_, ?_⟩
                · intro g hg
                  rw [hq 50 2 (by omega)] at hg
                  rw [hq 50 0 (by omega)]
                  by_cases hgh : g = h
                  · subst hgh; rw [hq3]; omega
                  · rw [hq _ _ (by omega)]; exact hW2.1 g hg
                · refine ⟨?_, ?_, fun k hk => ?_⟩
                  · simp (disch := omega) only [hq]; exact hW2.2.1.1
                  · simp (disch := omega) only [hq]; exact hW2.2.1.2.1
                  · simp (disch := omega) only [hq] at hk ⊢; exact hW2.2.1.2.2 k hk
                · refine ⟨?_, ?_, fun k hk => ?_⟩
                  · simp (disch := omega) only [hq]; exact hW2.2.2.1.1
                  · simp (disch := omega) only [hq]; exact hW2.2.2.1.2.1
                  · simp (disch := omega) only [hq] at hk ⊢; exact hW2.2.2.1.2.2 k hk
                · refine ⟨?_, ?_, fun k hk => ?_⟩
                  · simp (disch := omega) only [hq]; exact hW2.2.2.2.1
                  · simp (disch := omega) only [hq]; exact hW2.2.2.2.2.1
                  · simp (disch := omega) only [hq] at hk ⊢; exact hW2.2.2.2.2.2 k hk
              · rw [hq _ _ (by omega)]; exact hh
              · rw [hq _ _ (by omega)]; exact hD
              · rw [hq _ _ (by omega), hq _ _ (by omega)]; exact hth
              · skip
                refine ⟨⟨?_, ?_, ?_, ?_, ?_, ?_, ?_⟩, ?_, ?_, ⟨?_, ?_⟩, ⟨?_, ?_⟩, ⟨?_, ?_⟩⟩
                · rw [ha _ _ _ (by omega), hq _ _ (by omega)]; exact o1
                · rw [ha _ _ _ (by omega), hq _ _ (by omega)]; exact o2
                · rw [ha _ _ _ (by omega), hq _ _ (by omega)]; exact o3
                · rw [ha _ _ _ (by omega), hE]; exact o4
                · rw [ha _ _ _ (by omega), qE]; exact o5
                · intro g hg
                  rw [nhE] at hg
                  obtain ⟨y0, y1, y2, y3, y4, y5, y6, y7⟩ := o6 g hg
                  refine ⟨?_, ?_, ?_, ?_, ?_, ?_, ?_, ?_⟩
                  · rw [ha _ _ _ (by omega)]; exact y0
                  · rw [ha _ _ _ (by omega), hq _ _ (by omega)]; exact y1
                  · rw [ha _ _ _ (by omega), hq _ _ (by omega)]; exact y2
                  · rw [ha _ _ _ (by omega), hq _ _ (by omega)]; exact y3
                  · rw [ha _ _ _ (by omega), hq _ _ (by omega)]; exact y4
                  · rw [ha _ _ _ (by omega), hq _ _ (by omega)]; exact y5
                  · by_cases hgh : g = h
                    · subst hgh; rw [hq3]; exact ha3.trans (congrArg be_i (by split <;> omega))
                    · rw [ha _ _ _ (by omega), hq _ _ (by omega)]; exact y6
                  · intro j hj
                    rw [ha _ _ _ (by omega), hq _ _ (by omega)]; exact y7 j hj
                · intro g hg
                  rw [nrE] at hg
                  have z := o7 g hg
                  unfold be_RR at z ⊢
                  simp (disch := omega) only [ha, hq, ftE]
                  exact z
                · rw [hq _ _ (by omega)]; exact x1
                · rw [theE, numE]; exact be_OW_t (fun c k j h => ha _ _ _ (by omega)) (fun c j h => hq _ _ (by omega)) x2
                · rw [ha _ _ _ (by omega), hq _ _ (by omega)]; exact s1
                · intro k hk
                  simp (disch := omega) only [ha, hq] at hk ⊢
                  exact s2 k hk
                · rw [ha _ _ _ (by omega), hq _ _ (by omega)]; exact p1
                · intro k hk
                  simp (disch := omega) only [ha, hq] at hk ⊢
                  exact p2 k hk
                · rw [ha _ _ _ (by omega), hq _ _ (by omega)]; exact k1
                · intro k hk
                  simp (disch := omega) only [ha, hq] at hk ⊢
                  exact k2 k hk
        · rw [eq_false_of_ne_true hf] at v1 v2
          refine be_Cp (v := be_i (-3)) hI ?_ ?_
          · rw [am_s211]
            simp (disch := (first | assumption | omega | exact (be_gB _ _ _).1 | exact (be_gB _ _ _).2)) only [↓reduceIte, be_ofI, ↓be_ofN, ↓be_0, be_add, be_sub, be_mul, be_neg, be_rem, be_bi, be_bl, be_bv, be_br, be_bE0, be_bE1, be_b1E, be_b0E, be_bkb, be_cast, Int.toNat_natCast, Int.reduceToNat, be_lt, be_le, be_eq, be_nt, be_ck, be_nz, be_bk, be_div, not_true_eq_false, not_false_eq_true, if_true, if_false, eq_self, Int.reduceEq, Int.reduceLT, Int.reduceLE, Bool.true_eq_false, Bool.false_eq_true, hym, c1, c3, v1, am_b211_8, am_b211_24, am_b211_57]
          · rw [am_s54]
            simp (disch := (first | assumption | omega | exact (be_gB _ _ _).1 | exact (be_gB _ _ _).2)) only [↓reduceIte, be_ofI, ↓be_ofN, ↓be_0, be_add, be_sub, be_mul, be_neg, be_rem, be_bi, be_bl, be_bv, be_br, be_bE0, be_bE1, be_b1E, be_b0E, be_bkb, be_cast, Int.toNat_natCast, Int.reduceToNat, be_lt, be_le, be_eq, be_nt, be_ck, be_nz, be_bk, be_div, not_true_eq_false, not_false_eq_true, if_true, if_false, eq_self, Int.reduceEq, Int.reduceLT, Int.reduceLE, Bool.true_eq_false, Bool.false_eq_true, hym, g0, c2, c4, v2, am_b54_5, am_b54_18, am_b54_33]
      · rw [decide_eq_false hy] at c3 c4
        refine be_Cp (v := be_i (-1)) hI ?_ ?_
        · rw [am_s211]
          simp (disch := (first | assumption | omega | exact (be_gB _ _ _).1 | exact (be_gB _ _ _).2)) only [↓reduceIte, be_ofI, ↓be_ofN, ↓be_0, be_add, be_sub, be_mul, be_neg, be_rem, be_bi, be_bl, be_bv, be_br, be_bE0, be_bE1, be_b1E, be_b0E, be_bkb, be_cast, Int.toNat_natCast, Int.reduceToNat, be_lt, be_le, be_eq, be_nt, be_ck, be_nz, be_bk, be_div, not_true_eq_false, not_false_eq_true, if_true, if_false, eq_self, Int.reduceEq, Int.reduceLT, Int.reduceLE, Bool.true_eq_false, Bool.false_eq_true, hym, c1, c3, am_b211_8, am_b211_24]
        · rw [am_s54]
          simp (disch := (first | assumption | omega | exact (be_gB _ _ _).1 | exact (be_gB _ _ _).2)) only [↓reduceIte, be_ofI, ↓be_ofN, ↓be_0, be_add, be_sub, be_mul, be_neg, be_rem, be_bi, be_bl, be_bv, be_br, be_bE0, be_bE1, be_b1E, be_b0E, be_bkb, be_cast, Int.toNat_natCast, Int.reduceToNat, be_lt, be_le, be_eq, be_nt, be_ck, be_nz, be_bk, be_div, not_true_eq_false, not_false_eq_true, if_true, if_false, eq_self, Int.reduceEq, Int.reduceLT, Int.reduceLE, Bool.true_eq_false, Bool.false_eq_true, hym, c2, c4, am_b54_5, am_b54_18]
  · rw [decide_eq_false hx] at c1 c2
    refine be_Cp (v := be_i (-1)) hI ?_ ?_
    · rw [am_s211]
      simp (disch := (first | assumption | omega | exact (be_gB _ _ _).1 | exact (be_gB _ _ _).2)) only [↓reduceIte, be_ofI, ↓be_ofN, ↓be_0, be_add, be_sub, be_mul, be_neg, be_rem, be_bi, be_bl, be_bv, be_br, be_bE0, be_bE1, be_b1E, be_b0E, be_bkb, be_cast, Int.toNat_natCast, Int.reduceToNat, be_lt, be_le, be_eq, be_nt, be_ck, be_nz, be_bk, be_div, not_true_eq_false, not_false_eq_true, if_true, if_false, eq_self, Int.reduceEq, Int.reduceLT, Int.reduceLE, Bool.true_eq_false, Bool.false_eq_true, c1, am_b211_8]
    · rw [am_s54]
      simp (disch := (first | assumption | omega | exact (be_gB _ _ _).1 | exact (be_gB _ _ _).2)) only [↓reduceIte, be_ofI, ↓be_ofN, ↓be_0, be_add, be_sub, be_mul, be_neg, be_rem, be_bi, be_bl, be_bv, be_br, be_bE0, be_bE1, be_b1E, be_b0E, be_bkb, be_cast, Int.toNat_natCast, Int.reduceToNat, be_lt, be_le, be_eq, be_nt, be_ck, be_nz, be_bk, be_div, not_true_eq_false, not_false_eq_true, if_true, if_false, eq_self, Int.reduceEq, Int.reduceLT, Int.reduceLE, Bool.true_eq_false, Bool.false_eq_true, c2, am_b54_5]
