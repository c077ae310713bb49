/-! CALLS, 2: of, told, pass, on, odds, mean -/
variable {d : Nat} {X : am_X} {a : Nat → Nat → Nat → Int32} {b : Nat → Nat → Nat → Int64} {u : Nat → Nat} {e : Nat → Nat → Nat → Int32} {f : Nat → Nat → Nat → Int64}
theorem be_cnt_iv (x y : Int) (hx : 0 ≤ x) : ∀ n : Nat, (be_cnt (fun t => decide (x ≤ (t : Int) ∧ (t : Int) < y)) n : Int) = max 0 (min (n : Int) y - x)
  | 0 => by rw [be_cnt]; omega
  | n + 1 => by
    have ih := be_cnt_iv x y hx n
    rw [be_cnt]
    by_cases h : x ≤ (n : Int) ∧ (n : Int) < y
    · rw [decide_eq_true h, cond_true]; omega
    · rw [decide_eq_false h, cond_false]; omega
theorem be_m207 (hd : 4 ≤ d) (hI : be_IV a b u e f) {h : Nat} (hh : h < be_nh e) {w : Int} (hw1 : -2147483648 ≤ w) (hw2 : w < 2147483648) :
    am_sem X d 207 [.inr (9, 0), .inr (1, h), am_I (be_i (w))] (am_sd a b u e f) = some (some (am_I (be_i (if 20 ≤ w then (if w ≤ 19 + be_g e 50 0 then be_wo e (be_F e h (w - 20).toNat) else -1001) else if 10 ≤ w ∧ w ≤ 9 + be_g e 50 0 then be_b (be_fit e h (w - 10).toNat) else -1001))), (am_sd a b u e f)) := by
  obtain ⟨d, rfl⟩ : ∃ q, d = q + 1 := ⟨d - 1, by omega⟩
  obtain ⟨hW, hW2, hT, hhm, hD, -, hX⟩ := hI.1
  obtain ⟨nr, nr2⟩ := be_nrR hW
  obtain ⟨nh, nh2⟩ := be_nhR hW
  have hHR := be_HR0 hX hh
  rw [am_s207]
  by_cases c1 : 20 ≤ w
  · have q1 := be_hasR (X := X) (a := a) (b := b) (u := u) (e := e) (f := f) (d := d) (x := w - 20) (by omega) hI (by omega) (by omega)
    rw [if_pos c1]
    by_cases c2 : w ≤ 19 + be_g e 50 0
    · rw [decide_eq_true (by omega)] at q1
      obtain ⟨r, hr⟩ := be_0le (show 0 ≤ w - 20 by omega)
      have hRR := be_RR0 hX (show r < be_nr e by omega)
      have q2 := be_m163o (X := X) (a := a) (b := b) (u := u) (e := e) (f := f) (d := d) (o := u (2 * 0)) (by omega) hW hT (by omega) (by omega) hHR hRR hX.2.2.1
      rw [if_pos c2, hr, Int.toNat_natCast]
      rw [hr] at q1
      simp (disch := (first | assumption | omega | exact (be_gB _ _ _).1 | exact (be_gB _ _ _).2)) only [↓reduceIte, be_ofI, ↓be_ofN, ↓be_0, be_add, be_sub, be_mul, be_neg, be_rem, be_bi, be_bl, be_bv, be_br, be_bE0, be_bE1, be_b1E, be_b0E, be_bkb, be_cast, Int.toNat_natCast, Int.reduceToNat, be_lt, be_le, be_eq, be_nt, be_ck, be_nz, be_bk, be_div, not_true_eq_false, not_false_eq_true, if_true, if_false, eq_self, Int.reduceEq, Int.reduceLT, Int.reduceLE, Bool.true_eq_false, Bool.false_eq_true, hr, q1, q2, am_b207_17, am_b207_43, am_b207_67, am_b207_86, am_b207_89]
      rw [if_neg (by omega)]
    · rw [decide_eq_false (by omega)] at q1
      rw [if_neg c2]
      simp (disch := (first | assumption | omega | exact (be_gB _ _ _).1 | exact (be_gB _ _ _).2)) only [↓reduceIte, be_ofI, ↓be_ofN, ↓be_0, be_add, be_sub, be_mul, be_neg, be_rem, be_bi, be_bl, be_bv, be_br, be_bE0, be_bE1, be_b1E, be_b0E, be_bkb, be_cast, Int.toNat_natCast, Int.reduceToNat, be_lt, be_le, be_eq, be_nt, be_ck, be_nz, be_bk, be_div, not_true_eq_false, not_false_eq_true, if_true, if_false, eq_self, Int.reduceEq, Int.reduceLT, Int.reduceLE, Bool.true_eq_false, Bool.false_eq_true, q1, am_b207_17, am_b207_43, am_b207_67, am_b207_86, am_b207_89]
      rw [if_neg (by omega)]
  · rw [if_neg c1]
    by_cases c3 : 10 ≤ w
    · have q1 := be_hasR (X := X) (a := a) (b := b) (u := u) (e := e) (f := f) (d := d) (x := w - 10) (by omega) hI (by omega) (by omega)
      by_cases c2 : w ≤ 9 + be_g e 50 0
      · rw [decide_eq_true (by omega)] at q1
        obtain ⟨r, hr⟩ := be_0le (show 0 ≤ w - 10 by omega)
        have hRR := be_RR0 hX (show r < be_nr e by omega)
        have q2 := be_m182 (X := X) (a := a) (b := b) (u := u) (e := e) (f := f) (d := d) (by omega) hW (by omega) (by omega) hHR hRR
        rw [if_pos (show 10 ≤ w ∧ w ≤ 9 + be_g e 50 0 from ⟨c3, c2⟩), hr, Int.toNat_natCast]
        rw [hr] at q1
        simp (disch := (first | assumption | omega | exact (be_gB _ _ _).1 | exact (be_gB _ _ _).2)) only [↓reduceIte, be_ofI, ↓be_ofN, ↓be_0, be_add, be_sub, be_mul, be_neg, be_rem, be_bi, be_bl, be_bv, be_br, be_bE0, be_bE1, be_b1E, be_b0E, be_bkb, be_cast, Int.toNat_natCast, Int.reduceToNat, be_lt, be_le, be_eq, be_nt, be_ck, be_nz, be_bk, be_div, not_true_eq_false, not_false_eq_true, if_true, if_false, eq_self, Int.reduceEq, Int.reduceLT, Int.reduceLE, Bool.true_eq_false, Bool.false_eq_true, hr, q1, q2, be_m252, am_b207_17, am_b207_43, am_b207_67, am_b207_86, am_b207_89]
        rw [if_pos (by omega), if_neg (by omega)]
      · rw [decide_eq_false (by omega)] at q1
        rw [if_neg (show ¬ (10 ≤ w ∧ w ≤ 9 + be_g e 50 0) from fun q => c2 q.2)]
        simp (disch := (first | assumption | omega | exact (be_gB _ _ _).1 | exact (be_gB _ _ _).2)) only [↓reduceIte, be_ofI, ↓be_ofN, ↓be_0, be_add, be_sub, be_mul, be_neg, be_rem, be_bi, be_bl, be_bv, be_br, be_bE0, be_bE1, be_b1E, be_b0E, be_bkb, be_cast, Int.toNat_natCast, Int.reduceToNat, be_lt, be_le, be_eq, be_nt, be_ck, be_nz, be_bk, be_div, not_true_eq_false, not_false_eq_true, if_true, if_false, eq_self, Int.reduceEq, Int.reduceLT, Int.reduceLE, Bool.true_eq_false, Bool.false_eq_true, q1, am_b207_17, am_b207_43, am_b207_67, am_b207_86, am_b207_89]
        rw [if_pos (by omega), if_neg (by omega)]
    · rw [if_neg (show ¬ (10 ≤ w ∧ w ≤ 9 + be_g e 50 0) from fun q => c3 q.1)]
      simp (disch := (first | assumption | omega | exact (be_gB _ _ _).1 | exact (be_gB _ _ _).2)) only [↓reduceIte, be_ofI, ↓be_ofN, ↓be_0, be_add, be_sub, be_mul, be_neg, be_rem, be_bi, be_bl, be_bv, be_br, be_bE0, be_bE1, be_b1E, be_b0E, be_bkb, be_cast, Int.toNat_natCast, Int.reduceToNat, be_lt, be_le, be_eq, be_nt, be_ck, be_nz, be_bk, be_div, not_true_eq_false, not_false_eq_true, if_true, if_false, eq_self, Int.reduceEq, Int.reduceLT, Int.reduceLE, Bool.true_eq_false, Bool.false_eq_true]
      rw [if_pos (by omega), if_pos (by omega)]
theorem be_m36' (hd : 4 ≤ d) (hW : be_W e) (hT : be_T3 e) {h r : Nat} (hh : h < 6) (hr : r < 4) :
    ∃ G, am_sem X d 36 [.inr (50, 0), am_I (be_i ((h : Int))), am_I (be_i ((r : Int)))] (am_sd a b u e f) = some (some (am_I (be_i (be_wo e (be_F e h r)))), am_sd a b u (am_w2 e 68 0 G) f) := by
  have := be_m36 (X := X) (a := a) (b := b) (u := u) (e := e) (f := f) (d := d) hd hW hT (G0 := e 68 0) hh hr
  rw [be_w2id] at this
  exact this
def be_vof (e : Nat → Nat → Nat → Int32) (h : Nat) (w : Int) : Int :=
  if w = 0 then be_g e 52 h else if w = 1 then be_g e 53 h else if w = 2 then be_g e 54 h else if w = 3 then be_g e 55 h else if w = 4 then be_g e 56 h else if w = 5 then (if be_g e 57 h = 4 then -5 else be_g e 57 h) else if w = 6 then be_comes e (be_g e 50 3) h else if w = 7 then be_goes e h else if w = 8 then (be_cnt (be_held e (be_g e 50 3) h) 64 : Int) else (if 20 ≤ w then (if w ≤ 19 + be_g e 50 0 then be_wo e (be_F e h (w - 20).toNat) else -1001) else if 10 ≤ w ∧ w ≤ 9 + be_g e 50 0 then be_b (be_fit e h (w - 10).toNat) else -1001)
theorem be_cof (hd : 12 ≤ d) (hI : be_IV a b u e f) {x w : Int} (hx1 : -2147483648 ≤ x) (hx2 : x < 2147483648) (hw1 : -2147483648 ≤ w) (hw2 : w < 2147483648) : be_C X d 206 53 [am_I (be_i (x)), am_I (be_i (w))] a b u e f := by
  obtain ⟨d, rfl⟩ : ∃ q, d = q + 1 := ⟨d - 1, by omega⟩
  have he := be_gI e
  obtain ⟨hW, hW2, hT, hhm, hD, -, hX⟩ := hI.1
  obtain ⟨nr, nr2⟩ := be_nrR hW
  obtain ⟨nh, nh2⟩ := be_nhR hW
  have hT2 := hT.1
  have hW1 := hW.1
  have c1 := be_hasH (X := X) (a := a) (b := b) (u := u) (e := e) (f := f) (d := d) (by omega) hI hx1 hx2
  have c2 := be_isH (X := X) (a := a) (b := b) (u := u) (e := e) (f := f) (d := d) (by omega) hI hx1 hx2
  by_cases hx : 0 ≤ x ∧ x ≤ be_g e 50 2 - 1
  · rw [decide_eq_true hx] at c1 c2
    obtain ⟨h, rfl⟩ := be_0le hx.1
    have q7 := be_m207 (X := X) (a := a) (b := b) (u := u) (e := e) (f := f) (d := d) (h := h) (w := w) (by omega) hI (by omega) hw1 hw2
    have i1 := be_m1 (X := X) (a := a) (b := b) (u := u) (e := e) (f := f) (d := d) (x := w) (y := 10) (z := 9 + be_g e 50 0) (by omega) hw1 hw2 (by omega) (by omega) (by omega) (by omega)
    have i2 := be_m1 (X := X) (a := a) (b := b) (u := u) (e := e) (f := f) (d := d) (x := w) (y := 20) (z := 19 + be_g e 50 0) (by omega) hw1 hw2 (by omega) (by omega) (by omega) (by omega)
    have w1 := hW.2.1 h (by omega)
    have hHR := be_HR0 hX (show h < be_nh e by omega)
    obtain ⟨z0, z1, z2, z3, z4, z5, z6, z7⟩ := hHR
    have hHR := be_HR0 hX (show h < be_nh e by omega)
    have v1 := be_m133 (X := X) (a := a) (b := b) (u := u) (e := e) (f := f) (d := d) (h := h) (x := h) (y := be_g e 50 3) (by omega) hW (by omega) hHR (by omega) (by omega)
    have v2 := be_m134 (X := X) (a := a) (b := b) (u := u) (e := e) (f := f) (d := d) (h := h) (x := h) (by omega) hW (by omega) hHR
    have v3 := be_m144 (X := X) (a := a) (b := b) (u := u) (e := e) (f := f) (d := d) (i := 0) (h := h) (x := h) (y := be_g e 50 3) (by omega) hW hT2 (by omega) hHR hX.1.2.2.2.2.1 hX.1.2.2.2.1 (by omega) (by omega)
    have e4 := hX.1.2.2.1
    have u1 := be_m37 (X := X) (a := a) (b := b) (u := u) (e := e) (f := f) (d := d) (h := h) (by omega) hW (by omega)
    have u2 := be_m38 (X := X) (a := a) (b := b) (u := u) (e := e) (f := f) (d := d) (h := h) (by omega) hW (by omega)
    have u3 := be_m40 (X := X) (a := a) (b := b) (u := u) (e := e) (f := f) (d := d) (h := h) (by omega) hW hT2 (by omega)
    have hcl : am_sem X (d + 1) 206 [.inr (9, 0), am_I (be_i ((h : Int))), am_I (be_i (w))] (am_sd a b u e f) = some (some (am_I (be_i (be_vof e h w))), (am_sd a b u e f)) := by
      rw [am_s206, c1, be_bi, am_b206_8]
      by_cases g0 : w = 0
      · subst g0
        simp (disch := (first | assumption | omega | exact (be_gB _ _ _).1 | exact (be_gB _ _ _).2)) only [↓reduceIte, be_ofI, ↓be_ofN, ↓be_0, be_add, be_sub, be_mul, be_neg, be_rem, be_bi, be_bl, be_bv, be_br, be_bE0, be_bE1, be_b1E, be_b0E, be_bkb, be_cast, Int.toNat_natCast, Int.reduceToNat, be_lt, be_le, be_eq, be_nt, be_ck, be_nz, be_bk, be_div, not_true_eq_false, not_false_eq_true, if_true, if_false, eq_self, Int.reduceEq, Int.reduceLT, Int.reduceLE, Bool.true_eq_false, Bool.false_eq_true, z1, z2, z3, z4, z5, z6, e4, v1, v2, v3, be_m112, am_b206_117, am_b206_122, am_b206_138, am_b206_141, am_b206_148]
        rfl
      by_cases g1 : w = 1
      · subst g1
        simp (disch := (first | assumption | omega | exact (be_gB _ _ _).1 | exact (be_gB _ _ _).2)) only [↓reduceIte, be_ofI, ↓be_ofN, ↓be_0, be_add, be_sub, be_mul, be_neg, be_rem, be_bi, be_bl, be_bv, be_br, be_bE0, be_bE1, be_b1E, be_b0E, be_bkb, be_cast, Int.toNat_natCast, Int.reduceToNat, be_lt, be_le, be_eq, be_nt, be_ck, be_nz, be_bk, be_div, not_true_eq_false, not_false_eq_true, if_true, if_false, eq_self, Int.reduceEq, Int.reduceLT, Int.reduceLE, Bool.true_eq_false, Bool.false_eq_true, z1, z2, z3, z4, z5, z6, e4, v1, v2, v3, be_m112, am_b206_117, am_b206_122, am_b206_138, am_b206_141, am_b206_148]
        rfl
      by_cases g2 : w = 2
      · subst g2
        simp (disch := (first | assumption | omega | exact (be_gB _ _ _).1 | exact (be_gB _ _ _).2)) only [↓reduceIte, be_ofI, ↓be_ofN, ↓be_0, be_add, be_sub, be_mul, be_neg, be_rem, be_bi, be_bl, be_bv, be_br, be_bE0, be_bE1, be_b1E, be_b0E, be_bkb, be_cast, Int.toNat_natCast, Int.reduceToNat, be_lt, be_le, be_eq, be_nt, be_ck, be_nz, be_bk, be_div, not_true_eq_false, not_false_eq_true, if_true, if_false, eq_self, Int.reduceEq, Int.reduceLT, Int.reduceLE, Bool.true_eq_false, Bool.false_eq_true, z1, z2, z3, z4, z5, z6, e4, v1, v2, v3, be_m112, am_b206_117, am_b206_122, am_b206_138, am_b206_141, am_b206_148]
        rfl
      by_cases g3 : w = 3
      · subst g3
        simp (disch := (first | assumption | omega | exact (be_gB _ _ _).1 | exact (be_gB _ _ _).2)) only [↓reduceIte, be_ofI, ↓be_ofN, ↓be_0, be_add, be_sub, be_mul, be_neg, be_rem, be_bi, be_bl, be_bv, be_br, be_bE0, be_bE1, be_b1E, be_b0E, be_bkb, be_cast, Int.toNat_natCast, Int.reduceToNat, be_lt, be_le, be_eq, be_nt, be_ck, be_nz, be_bk, be_div, not_true_eq_false, not_false_eq_true, if_true, if_false, eq_self, Int.reduceEq, Int.reduceLT, Int.reduceLE, Bool.true_eq_false, Bool.false_eq_true, z1, z2, z3, z4, z5, z6, e4, v1, v2, v3, be_m112, am_b206_117, am_b206_122, am_b206_138, am_b206_141, am_b206_148]
        rfl
      by_cases g4 : w = 4
      · subst g4
        simp (disch := (first | assumption | omega | exact (be_gB _ _ _).1 | exact (be_gB _ _ _).2)) only [↓reduceIte, be_ofI, ↓be_ofN, ↓be_0, be_add, be_sub, be_mul, be_neg, be_rem, be_bi, be_bl, be_bv, be_br, be_bE0, be_bE1, be_b1E, be_b0E, be_bkb, be_cast, Int.toNat_natCast, Int.reduceToNat, be_lt, be_le, be_eq, be_nt, be_ck, be_nz, be_bk, be_div, not_true_eq_false, not_false_eq_true, if_true, if_false, eq_self, Int.reduceEq, Int.reduceLT, Int.reduceLE, Bool.true_eq_false, Bool.false_eq_true, z1, z2, z3, z4, z5, z6, e4, v1, v2, v3, be_m112, am_b206_117, am_b206_122, am_b206_138, am_b206_141, am_b206_148]
        rfl
      by_cases g5 : w = 5
      · subst g5
        simp (disch := (first | assumption | omega | exact (be_gB _ _ _).1 | exact (be_gB _ _ _).2)) only [↓reduceIte, be_ofI, ↓be_ofN, ↓be_0, be_add, be_sub, be_mul, be_neg, be_rem, be_bi, be_bl, be_bv, be_br, be_bE0, be_bE1, be_b1E, be_b0E, be_bkb, be_cast, Int.toNat_natCast, Int.reduceToNat, be_lt, be_le, be_eq, be_nt, be_ck, be_nz, be_bk, be_div, not_true_eq_false, not_false_eq_true, if_true, if_false, eq_self, Int.reduceEq, Int.reduceLT, Int.reduceLE, Bool.true_eq_false, Bool.false_eq_true, z1, z2, z3, z4, z5, z6, e4, v1, v2, v3, be_m112, am_b206_117, am_b206_122, am_b206_138, am_b206_141, am_b206_148]
        rfl
      by_cases g6 : w = 6
      · subst g6
        simp (disch := (first | assumption | omega | exact (be_gB _ _ _).1 | exact (be_gB _ _ _).2)) only [↓reduceIte, be_ofI, ↓be_ofN, ↓be_0, be_add, be_sub, be_mul, be_neg, be_rem, be_bi, be_bl, be_bv, be_br, be_bE0, be_bE1, be_b1E, be_b0E, be_bkb, be_cast, Int.toNat_natCast, Int.reduceToNat, be_lt, be_le, be_eq, be_nt, be_ck, be_nz, be_bk, be_div, not_true_eq_false, not_false_eq_true, if_true, if_false, eq_self, Int.reduceEq, Int.reduceLT, Int.reduceLE, Bool.true_eq_false, Bool.false_eq_true, z1, z2, z3, z4, z5, z6, e4, v1, v2, v3, be_m112, am_b206_117, am_b206_122, am_b206_138, am_b206_141, am_b206_148]
        rfl
      by_cases g7 : w = 7
      · subst g7
        simp (disch := (first | assumption | omega | exact (be_gB _ _ _).1 | exact (be_gB _ _ _).2)) only [↓reduceIte, be_ofI, ↓be_ofN, ↓be_0, be_add, be_sub, be_mul, be_neg, be_rem, be_bi, be_bl, be_bv, be_br, be_bE0, be_bE1, be_b1E, be_b0E, be_bkb, be_cast, Int.toNat_natCast, Int.reduceToNat, be_lt, be_le, be_eq, be_nt, be_ck, be_nz, be_bk, be_div, not_true_eq_false, not_false_eq_true, if_true, if_false, eq_self, Int.reduceEq, Int.reduceLT, Int.reduceLE, Bool.true_eq_false, Bool.false_eq_true, z1, z2, z3, z4, z5, z6, e4, v1, v2, v3, be_m112, am_b206_117, am_b206_122, am_b206_138, am_b206_141, am_b206_148]
        rfl
      by_cases g8 : w = 8
      · subst g8
        simp (disch := (first | assumption | omega | exact (be_gB _ _ _).1 | exact (be_gB _ _ _).2)) only [↓reduceIte, be_ofI, ↓be_ofN, ↓be_0, be_add, be_sub, be_mul, be_neg, be_rem, be_bi, be_bl, be_bv, be_br, be_bE0, be_bE1, be_b1E, be_b0E, be_bkb, be_cast, Int.toNat_natCast, Int.reduceToNat, be_lt, be_le, be_eq, be_nt, be_ck, be_nz, be_bk, be_div, not_true_eq_false, not_false_eq_true, if_true, if_false, eq_self, Int.reduceEq, Int.reduceLT, Int.reduceLE, Bool.true_eq_false, Bool.false_eq_true, z1, z2, z3, z4, z5, z6, e4, v1, v2, v3, be_m112, am_b206_117, am_b206_122, am_b206_138, am_b206_141, am_b206_148]
        rfl
      simp (disch := (first | assumption | omega | exact (be_gB _ _ _).1 | exact (be_gB _ _ _).2)) only [↓reduceIte, be_ofI, ↓be_ofN, ↓be_0, be_add, be_sub, be_mul, be_neg, be_rem, be_bi, be_bl, be_bv, be_br, be_bE0, be_bE1, be_b1E, be_b0E, be_bkb, be_cast, Int.toNat_natCast, Int.reduceToNat, be_lt, be_le, be_eq, be_nt, be_ck, be_nz, be_bk, be_div, not_true_eq_false, not_false_eq_true, if_true, if_false, eq_self, Int.reduceEq, Int.reduceLT, Int.reduceLE, Bool.true_eq_false, Bool.false_eq_true, g0, g1, g2, g3, g4, g5, g6, g7, g8, q7, am_b206_148]
      rw [be_vof, if_neg g0, if_neg g1, if_neg g2, if_neg g3, if_neg g4, if_neg g5, if_neg g6, if_neg g7, if_neg g8]
    have hcn : (be_cnt (be_held e (be_g e 50 3) h) 64 : Int) = if be_g e 54 h < be_ht e (be_g e 50 3) h then be_ht e (be_g e 50 3) h - be_g e 54 h else 0 := by
      have h1 := be_cnt_iv (be_g e 54 h) (be_ht e (be_g e 50 3) h) (by omega) 64
      have h2 := be_ht_q e (be_g e 50 3) h
      have h3 := be_qR e
      unfold be_held
      rw [h1]
      split <;> omega
    have hR5 : be_ht e (be_g e 50 3) h ≤ 160 ∧ -160 ≤ be_ht e (be_g e 50 3) h := by
      have q2 := be_qR e
      have q3 := be_hR hT2
      unfold be_ht be_bt; split <;> omega
    by_cases g1 : 10 ≤ w ∧ w ≤ 9 + be_g e 50 0
    · obtain ⟨r, hr⟩ := be_0le (show 0 ≤ w - 10 by omega)
      have u4 := be_m51 (X := X) (a := a) (b := b) (u := u) (e := e) (f := f) (d := d) (h := h) (r := r) (by omega) hW (by omega) (by omega)
      rw [decide_eq_true g1] at i1
      have hvo : be_vof e h w = be_b (be_fit e h r) := by
        rw [be_vof, if_neg (by omega), if_neg (by omega), if_neg (by omega), if_neg (by omega), if_neg (by omega), if_neg (by omega), if_neg (by omega), if_neg (by omega), if_neg (by omega), if_neg (by omega), if_pos (by omega), hr, Int.toNat_natCast]
      rw [hvo] at hcl
      refine be_Cp (v := be_i (be_b (be_fit e h r))) hI hcl ?_
      rw [am_s53, c2, be_bi, am_b53_5]
      simp (disch := (first | assumption | omega | exact (be_gB _ _ _).1 | exact (be_gB _ _ _).2)) only [↓reduceIte, be_ofI, ↓be_ofN, ↓be_0, be_add, be_sub, be_mul, be_neg, be_rem, be_bi, be_bl, be_bv, be_br, be_bE0, be_bE1, be_b1E, be_b0E, be_bkb, be_cast, Int.toNat_natCast, Int.reduceToNat, be_lt, be_le, be_eq, be_nt, be_ck, be_nz, be_bk, be_div, not_true_eq_false, not_false_eq_true, if_true, if_false, eq_self, Int.reduceEq, Int.reduceLT, Int.reduceLE, Bool.true_eq_false, Bool.false_eq_true, he, i1, hr, u4, am_b53_26, am_b53_38]
      cases be_fit e h r <;> rfl
    · rw [decide_eq_false g1] at i1
      by_cases g2 : 20 ≤ w ∧ w ≤ 19 + be_g e 50 0
      · obtain ⟨r, hr⟩ := be_0le (show 0 ≤ w - 20 by omega)
        obtain ⟨G, u5⟩ := be_m36' (X := X) (a := a) (b := b) (u := u) (e := e) (f := f) (d := d) (h := h) (r := r) (by omega) hW hT (by omega) (by omega)
        rw [decide_eq_true g2] at i2
        have hvo : be_vof e h w = be_wo e (be_F e h r) := by
          rw [be_vof, if_neg (by omega), if_neg (by omega), if_neg (by omega), if_neg (by omega), if_neg (by omega), if_neg (by omega), if_neg (by omega), if_neg (by omega), if_neg (by omega), if_pos (by omega), if_pos (by omega), hr, Int.toNat_natCast]
        rw [hvo] at hcl
        refine be_Cpl (v := be_i (be_wo e (be_F e h r))) (G := G) hI hcl ?_
        rw [am_s53, c2, be_bi, am_b53_5]
        simp (disch := (first | assumption | omega | exact (be_gB _ _ _).1 | exact (be_gB _ _ _).2)) only [↓reduceIte, be_ofI, ↓be_ofN, ↓be_0, be_add, be_sub, be_mul, be_neg, be_rem, be_bi, be_bl, be_bv, be_br, be_bE0, be_bE1, be_b1E, be_b0E, be_bkb, be_cast, Int.toNat_natCast, Int.reduceToNat, be_lt, be_le, be_eq, be_nt, be_ck, be_nz, be_bk, be_div, not_true_eq_false, not_false_eq_true, if_true, if_false, eq_self, Int.reduceEq, Int.reduceLT, Int.reduceLE, Bool.true_eq_false, Bool.false_eq_true, he, i1, i2, hr, u5, am_b53_26, am_b53_61, am_b53_73]
      · rw [decide_eq_false g2] at i2
        refine be_Cp hI hcl ?_
        rw [am_s53, c2, be_bi, am_b53_5]
        by_cases g10 : w = 0
        · subst g10
          simp (disch := (first | assumption | omega | exact (be_gB _ _ _).1 | exact (be_gB _ _ _).2)) only [↓reduceIte, be_ofI, ↓be_ofN, ↓be_0, be_add, be_sub, be_mul, be_neg, be_rem, be_bi, be_bl, be_bv, be_br, be_bE0, be_bE1, be_b1E, be_b0E, be_bkb, be_cast, Int.toNat_natCast, Int.reduceToNat, be_lt, be_le, be_eq, be_nt, be_ck, be_nz, be_bk, be_div, not_true_eq_false, not_false_eq_true, if_true, if_false, eq_self, Int.reduceEq, Int.reduceLT, Int.reduceLE, Bool.true_eq_false, Bool.false_eq_true, he, i1, i2, u1, u2, u3, am_b53_26, am_b53_61, am_b53_186, am_b53_192, am_b53_198, am_b53_212]
          rfl
        by_cases g11 : w = 1
        · subst g11
          simp (disch := (first | assumption | omega | exact (be_gB _ _ _).1 | exact (be_gB _ _ _).2)) only [↓reduceIte, be_ofI, ↓be_ofN, ↓be_0, be_add, be_sub, be_mul, be_neg, be_rem, be_bi, be_bl, be_bv, be_br, be_bE0, be_bE1, be_b1E, be_b0E, be_bkb, be_cast, Int.toNat_natCast, Int.reduceToNat, be_lt, be_le, be_eq, be_nt, be_ck, be_nz, be_bk, be_div, not_true_eq_false, not_false_eq_true, if_true, if_false, eq_self, Int.reduceEq, Int.reduceLT, Int.reduceLE, Bool.true_eq_false, Bool.false_eq_true, he, i1, i2, u1, u2, u3, am_b53_26, am_b53_61, am_b53_186, am_b53_192, am_b53_198, am_b53_212]
          rfl
        by_cases g12 : w = 2
        · subst g12
          simp (disch := (first | assumption | omega | exact (be_gB _ _ _).1 | exact (be_gB _ _ _).2)) only [↓reduceIte, be_ofI, ↓be_ofN, ↓be_0, be_add, be_sub, be_mul, be_neg, be_rem, be_bi, be_bl, be_bv, be_br, be_bE0, be_bE1, be_b1E, be_b0E, be_bkb, be_cast, Int.toNat_natCast, Int.reduceToNat, be_lt, be_le, be_eq, be_nt, be_ck, be_nz, be_bk, be_div, not_true_eq_false, not_false_eq_true, if_true, if_false, eq_self, Int.reduceEq, Int.reduceLT, Int.reduceLE, Bool.true_eq_false, Bool.false_eq_true, he, i1, i2, u1, u2, u3, am_b53_26, am_b53_61, am_b53_186, am_b53_192, am_b53_198, am_b53_212]
          rfl
        by_cases g13 : w = 3
        · subst g13
          simp (disch := (first | assumption | omega | exact (be_gB _ _ _).1 | exact (be_gB _ _ _).2)) only [↓reduceIte, be_ofI, ↓be_ofN, ↓be_0, be_add, be_sub, be_mul, be_neg, be_rem, be_bi, be_bl, be_bv, be_br, be_bE0, be_bE1, be_b1E, be_b0E, be_bkb, be_cast, Int.toNat_natCast, Int.reduceToNat, be_lt, be_le, be_eq, be_nt, be_ck, be_nz, be_bk, be_div, not_true_eq_false, not_false_eq_true, if_true, if_false, eq_self, Int.reduceEq, Int.reduceLT, Int.reduceLE, Bool.true_eq_false, Bool.false_eq_true, he, i1, i2, u1, u2, u3, am_b53_26, am_b53_61, am_b53_186, am_b53_192, am_b53_198, am_b53_212]
          rfl
        by_cases g14 : w = 4
        · subst g14
          simp (disch := (first | assumption | omega | exact (be_gB _ _ _).1 | exact (be_gB _ _ _).2)) only [↓reduceIte, be_ofI, ↓be_ofN, ↓be_0, be_add, be_sub, be_mul, be_neg, be_rem, be_bi, be_bl, be_bv, be_br, be_bE0, be_bE1, be_b1E, be_b0E, be_bkb, be_cast, Int.toNat_natCast, Int.reduceToNat, be_lt, be_le, be_eq, be_nt, be_ck, be_nz, be_bk, be_div, not_true_eq_false, not_false_eq_true, if_true, if_false, eq_self, Int.reduceEq, Int.reduceLT, Int.reduceLE, Bool.true_eq_false, Bool.false_eq_true, he, i1, i2, u1, u2, u3, am_b53_26, am_b53_61, am_b53_186, am_b53_192, am_b53_198, am_b53_212]
          rfl
        by_cases g15 : w = 5
        · subst g15
          simp (disch := (first | assumption | omega | exact (be_gB _ _ _).1 | exact (be_gB _ _ _).2)) only [↓reduceIte, be_ofI, ↓be_ofN, ↓be_0, be_add, be_sub, be_mul, be_neg, be_rem, be_bi, be_bl, be_bv, be_br, be_bE0, be_bE1, be_b1E, be_b0E, be_bkb, be_cast, Int.toNat_natCast, Int.reduceToNat, be_lt, be_le, be_eq, be_nt, be_ck, be_nz, be_bk, be_div, not_true_eq_false, not_false_eq_true, if_true, if_false, eq_self, Int.reduceEq, Int.reduceLT, Int.reduceLE, Bool.true_eq_false, Bool.false_eq_true, he, i1, i2, u1, u2, u3, am_b53_26, am_b53_61, am_b53_186, am_b53_192, am_b53_198, am_b53_212]
          unfold be_vof
          simp only [Int.reduceEq, if_true, if_false]
          (repeat' split) <;> first | rfl | omega
        by_cases g16 : w = 6
        · subst g16
          simp (disch := (first | assumption | omega | exact (be_gB _ _ _).1 | exact (be_gB _ _ _).2)) only [↓reduceIte, be_ofI, ↓be_ofN, ↓be_0, be_add, be_sub, be_mul, be_neg, be_rem, be_bi, be_bl, be_bv, be_br, be_bE0, be_bE1, be_b1E, be_b0E, be_bkb, be_cast, Int.toNat_natCast, Int.reduceToNat, be_lt, be_le, be_eq, be_nt, be_ck, be_nz, be_bk, be_div, not_true_eq_false, not_false_eq_true, if_true, if_false, eq_self, Int.reduceEq, Int.reduceLT, Int.reduceLE, Bool.true_eq_false, Bool.false_eq_true, he, i1, i2, u1, u2, u3, am_b53_26, am_b53_61, am_b53_186, am_b53_192, am_b53_198, am_b53_212]
          rfl
        by_cases g17 : w = 7
        · subst g17
          simp (disch := (first | assumption | omega | exact (be_gB _ _ _).1 | exact (be_gB _ _ _).2)) only [↓reduceIte, be_ofI, ↓be_ofN, ↓be_0, be_add, be_sub, be_mul, be_neg, be_rem, be_bi, be_bl, be_bv, be_br, be_bE0, be_bE1, be_b1E, be_b0E, be_bkb, be_cast, Int.toNat_natCast, Int.reduceToNat, be_lt, be_le, be_eq, be_nt, be_ck, be_nz, be_bk, be_div, not_true_eq_false, not_false_eq_true, if_true, if_false, eq_self, Int.reduceEq, Int.reduceLT, Int.reduceLE, Bool.true_eq_false, Bool.false_eq_true, he, i1, i2, u1, u2, u3, am_b53_26, am_b53_61, am_b53_186, am_b53_192, am_b53_198, am_b53_212]
          rfl
        by_cases g18 : w = 8
        · subst g18
          simp (disch := (first | assumption | omega | exact (be_gB _ _ _).1 | exact (be_gB _ _ _).2)) only [↓reduceIte, be_ofI, ↓be_ofN, ↓be_0, be_add, be_sub, be_mul, be_neg, be_rem, be_bi, be_bl, be_bv, be_br, be_bE0, be_bE1, be_b1E, be_b0E, be_bkb, be_cast, Int.toNat_natCast, Int.reduceToNat, be_lt, be_le, be_eq, be_nt, be_ck, be_nz, be_bk, be_div, not_true_eq_false, not_false_eq_true, if_true, if_false, eq_self, Int.reduceEq, Int.reduceLT, Int.reduceLE, Bool.true_eq_false, Bool.false_eq_true, he, i1, i2, u1, u2, u3, am_b53_26, am_b53_61, am_b53_186, am_b53_192, am_b53_198, am_b53_212]
          rw [show be_vof e h 8 = (be_cnt (be_held e (be_g e 50 3) h) 64 : Int) from rfl, hcn]
          (repeat' split) <;> first | rfl | omega
        simp (disch := (first | assumption | omega | exact (be_gB _ _ _).1 | exact (be_gB _ _ _).2)) only [↓reduceIte, be_ofI, ↓be_ofN, ↓be_0, be_add, be_sub, be_mul, be_neg, be_rem, be_bi, be_bl, be_bv, be_br, be_bE0, be_bE1, be_b1E, be_b0E, be_bkb, be_cast, Int.toNat_natCast, Int.reduceToNat, be_lt, be_le, be_eq, be_nt, be_ck, be_nz, be_bk, be_div, not_true_eq_false, not_false_eq_true, if_true, if_false, eq_self, Int.reduceEq, Int.reduceLT, Int.reduceLE, Bool.true_eq_false, Bool.false_eq_true, he, i1, i2, g10, g11, g12, g13, g14, g15, g16, g17, g18, am_b53_26, am_b53_61]
        rw [be_vof, if_neg g10, if_neg g11, if_neg g12, if_neg g13, if_neg g14, if_neg g15, if_neg g16, if_neg g17, if_neg g18]
        (repeat' split) <;> first | rfl | omega
  · rw [decide_eq_false hx] at c1 c2
    refine be_Cp (v := be_i (-1001)) hI ?_ ?_
    · rw [am_s206, c1, be_bi, am_b206_8]
      simp (disch := (first | assumption | omega | exact (be_gB _ _ _).1 | exact (be_gB _ _ _).2)) only [↓reduceIte, be_ofI, ↓be_ofN, ↓be_0, be_add, be_sub, be_mul, be_neg, be_rem, be_bi, be_bl, be_bv, be_br, be_bE0, be_bE1, be_b1E, be_b0E, be_bkb, be_cast, Int.toNat_natCast, Int.reduceToNat, be_lt, be_le, be_eq, be_nt, be_ck, be_nz, be_bk, be_div, not_true_eq_false, not_false_eq_true, if_true, if_false, eq_self, Int.reduceEq, Int.reduceLT, Int.reduceLE, Bool.true_eq_false, Bool.false_eq_true]
    · rw [am_s53, c2, be_bi, am_b53_5]
      simp (disch := (first | assumption | omega | exact (be_gB _ _ _).1 | exact (be_gB _ _ _).2)) only [↓reduceIte, be_ofI, ↓be_ofN, ↓be_0, be_add, be_sub, be_mul, be_neg, be_rem, be_bi, be_bl, be_bv, be_br, be_bE0, be_bE1, be_b1E, be_b0E, be_bkb, be_cast, Int.toNat_natCast, Int.reduceToNat, be_lt, be_le, be_eq, be_nt, be_ck, be_nz, be_bk, be_div, not_true_eq_false, not_false_eq_true, if_true, if_false, eq_self, Int.reduceEq, Int.reduceLT, Int.reduceLE, Bool.true_eq_false, Bool.false_eq_true]
theorem be_ctold (hd : 12 ≤ d) (hI : be_IV a b u e f) {w : Int} (hw1 : -2147483648 ≤ w) (hw2 : w < 2147483648) : be_C X d 216 55 [am_I (be_i (w))] a b u e f := by
  obtain ⟨d, rfl⟩ : ∃ q, d = q + 1 := ⟨d - 1, by omega⟩
  have he := be_gI e
  obtain ⟨hW, hW2, hT, hhm, hD, -, hX⟩ := hI.1
  obtain ⟨nr, nr2⟩ := be_nrR hW
  obtain ⟨nh, nh2⟩ := be_nhR hW
  have hT2 := hT.1
  have hW1 := hW.1
  have v1 := be_m154 (X := X) (a := a) (b := b) (u := u) (e := e) (f := f) (d := d) (i := 0) (by omega) hW hW2 hX.1
  have v2 := be_m155 (X := X) (a := a) (b := b) (u := u) (e := e) (f := f) (d := d) (i := 0) (by omega) hW hW2 hT hX
  obtain ⟨o1, o2, o3, o4, o5, -⟩ := hX.1
  have hcl : am_sem X (d + 1) 216 [.inr (9, 0), am_I (be_i (w))] (am_sd a b u e f) = some (some (am_I (be_i (if w = 0 then be_g e 50 3 else if w = 1 then be_h e else if w = 2 then be_q e else if w = 3 then (be_hs e (be_nh e) : Int) else if w = 4 then be_wz e (be_nh e) else -1))), (am_sd a b u e f)) := by
    rw [am_s216]
    simp (disch := (first | assumption | omega | exact (be_gB _ _ _).1 | exact (be_gB _ _ _).2)) only [↓reduceIte, be_ofI, ↓be_ofN, ↓be_0, be_add, be_sub, be_mul, be_neg, be_rem, be_bi, be_bl, be_bv, be_br, be_bE0, be_bE1, be_b1E, be_b0E, be_bkb, be_cast, Int.toNat_natCast, Int.reduceToNat, be_lt, be_le, be_eq, be_nt, be_ck, be_nz, be_bk, be_div, not_true_eq_false, not_false_eq_true, if_true, if_false, eq_self, Int.reduceEq, Int.reduceLT, Int.reduceLE, Bool.true_eq_false, Bool.false_eq_true, o3, o4, o5, v1, v2, am_b216_70, am_b216_78]
    (repeat' split) <;> first | rfl | omega
  have hls : ∀ n, be_hs e n ≤ n := fun n => be_cnt_le _ _
  have key : ∀ (n k : Nat) (G : Nat → Int32) (x2 x3 x4 : Int), k + n = be_nh e → x4 = (k : Int) → x2 = (be_hs e k : Int) → x3 = be_wz e k →
      ∃ G', am_fix (am_sem X d) X am_P55 7 [.inr (50, 0), am_I (be_i (w)), am_I (be_i (x2)), am_I (be_i (x3)), am_I (be_i (x4))] [] (am_sd a b u (am_w2 e 68 0 G) f) = some (some (am_I (be_i (if w = 0 then be_g e 50 3 else if w = 1 then be_h e else if w = 2 then be_q e else if w = 3 then (be_hs e (be_nh e) : Int) else if w = 4 then be_wz e (be_nh e) else -1))), am_sd a b u (am_w2 e 68 0 G') f) := by
    intro n
    induction n with
    | zero =>
      rintro k G x2 x3 x4 hk rfl rfl rfl
      obtain rfl : k = be_nh e := hk
      have h32 := be_m32 (X := X) (a := a) (b := b) (u := u) (e := am_w2 e 68 0 G) (f := f) (d := d) (by omega) (be_A_T (be_A_pl G) hT2)
      have h33 := be_m33 (X := X) (a := a) (b := b) (u := u) (e := am_w2 e 68 0 G) (f := f) (d := d) (by omega) (be_A_T (be_A_pl G) hT2).1
      rw [be_A_h (be_A_pl G)] at h32
      rw [be_A_q (be_A_pl G)] at h33
      refine ⟨G, ?_⟩
      rw [am_b55_7]
      simp (disch := (first | assumption | omega | exact (be_gB _ _ _).1 | exact (be_gB _ _ _).2)) only [↓reduceIte, be_ofI, ↓be_ofN, ↓be_0, be_add, be_sub, be_mul, be_neg, be_rem, be_bi, be_bl, be_bv, be_br, be_bE0, be_bE1, be_b1E, be_b0E, be_bkb, be_cast, Int.toNat_natCast, Int.reduceToNat, be_lt, be_le, be_eq, be_nt, be_ck, be_nz, be_bk, be_div, not_true_eq_false, not_false_eq_true, if_true, if_false, eq_self, Int.reduceEq, Int.reduceLT, Int.reduceLE, Bool.true_eq_false, Bool.false_eq_true, be_r2n, he, h32, h33, am_b55_47, am_b55_101, am_b55_106]
      rw [if_pos (by omega)]
      (repeat' split) <;> first | rfl | omega
    | succ n ih =>
      rintro k G x2 x3 x4 hk rfl rfl rfl
      have q1 := hW.2.1 k (by omega)
      have q2 := hW2.1 k (by omega)
      have hs : be_hs e (k + 1) = be_hs e k + (bif decide (¬ be_g e 57 k = 4) then 1 else 0) := rfl
      have hz : be_wz e (k + 1) = be_wz e k + (if be_g e 57 k = 4 then 0 else be_wo e (be_F e k (be_g e 57 k).toNat)) := rfl
      by_cases hc : be_g e 57 k = 4
      · rw [decide_eq_false (by omega), cond_false] at hs
        rw [if_pos hc] at hz
        obtain ⟨G', g⟩ := ih (k + 1) G (be_hs e k) (be_wz e k) ((k : Int) + 1) (by omega) (by omega) (by omega) (by omega)
        refine ⟨G', ?_⟩
        rw [am_b55_7]
        simp (disch := (first | assumption | omega | exact (be_gB _ _ _).1 | exact (be_gB _ _ _).2)) only [↓reduceIte, be_ofI, ↓be_ofN, ↓be_0, be_add, be_sub, be_mul, be_neg, be_rem, be_bi, be_bl, be_bv, be_br, be_bE0, be_bE1, be_b1E, be_b0E, be_bkb, be_cast, Int.toNat_natCast, Int.reduceToNat, be_lt, be_le, be_eq, be_nt, be_ck, be_nz, be_bk, be_div, not_true_eq_false, not_false_eq_true, if_true, if_false, eq_self, Int.reduceEq, Int.reduceLT, Int.reduceLE, Bool.true_eq_false, Bool.false_eq_true, be_r2n, he, hc]
        rw [if_neg (by omega)]
        exact g
      · rw [decide_eq_true hc, cond_true] at hs
        rw [if_neg hc] at hz
        obtain ⟨r, hr⟩ := be_0le (show 0 ≤ be_g e 57 k by omega)
        obtain ⟨G2, hG2⟩ := be_m36 (X := X) (a := a) (b := b) (u := u) (e := e) (f := f) (d := d) (by omega) hW hT (G0 := G) (h := k) (r := r) (by omega) (by omega)
        rw [hr, Int.toNat_natCast] at hz
        obtain ⟨G', g⟩ := ih (k + 1) G2 ((be_hs e k : Int) + 1) (be_wz e k + be_wo e (be_F e k r)) ((k : Int) + 1) (by omega) (by omega) (by omega) (by omega)
        refine ⟨G', ?_⟩
        rw [am_b55_7]
        simp (disch := (first | assumption | omega | exact (be_gB _ _ _).1 | exact (be_gB _ _ _).2)) only [↓reduceIte, be_ofI, ↓be_ofN, ↓be_0, be_add, be_sub, be_mul, be_neg, be_rem, be_bi, be_bl, be_bv, be_br, be_bE0, be_bE1, be_b1E, be_b0E, be_bkb, be_cast, Int.toNat_natCast, Int.reduceToNat, be_lt, be_le, be_eq, be_nt, be_ck, be_nz, be_bk, be_div, be_r2n, he, hr, hG2, am_b55_47]
        rw [if_neg (by omega), if_pos (by omega)]
        exact g
  obtain ⟨G', g⟩ := key (be_nh e) 0 (e 68 0) 0 0 0 (Nat.zero_add _) rfl rfl rfl
  rw [be_w2id] at g
  refine be_Cpl (G := G') hI hcl ?_
  rw [am_s55]
  exact g
theorem be_gcd {p q : Nat} (hq : q ≠ 0) : Nat.gcd q (p % q) = Nat.gcd p q := by
  rw [Nat.gcd_comm p q, Nat.gcd_rec q p, Nat.gcd_comm]
theorem be_m82 (hd : 1 ≤ d) {A B : Nat} (hA : A < 2147483648) (hB : B < 2147483648) : am_sem X d 82 [.inr (50, 0), am_I (be_i ((A : Int))), am_I (be_i ((B : Int)))] (am_sd a b u e f) = some (some (am_I (be_i ((Nat.gcd A B : Int)))), (am_sd a b u e f)) := by
  obtain ⟨d, rfl⟩ : ∃ q, d = q + 1 := ⟨d - 1, by omega⟩
  have key : ∀ (n q p : Nat) (z : am_V) (x y : Int), q < n → q < 2147483648 → p < 2147483648 → x = (p : Int) → y = (q : Int) → am_fix (am_sem X d) X am_P82 5 [.inr (50, 0), am_I (be_i ((A : Int))), am_I (be_i ((B : Int))), am_I (be_i (x)), am_I (be_i (y)), z] [] (am_sd a b u e f) = some (some (am_I (be_i ((Nat.gcd p q : Int)))), (am_sd a b u e f)) := by
    intro n
    induction n with
    | zero => intro q p z x y h; omega
    | succ n ih =>
      rintro q p z x y hn hq hp rfl rfl
      rw [am_b82_5]
      by_cases h0 : q = 0
      · subst h0
        simp (disch := (first | assumption | omega | exact (be_gB _ _ _).1 | exact (be_gB _ _ _).2)) only [↓reduceIte, be_ofI, ↓be_ofN, ↓be_0, be_add, be_sub, be_mul, be_neg, be_rem, be_bi, be_bl, be_bv, be_br, be_bE0, be_bE1, be_b1E, be_b0E, be_bkb, be_cast, Int.toNat_natCast, Int.reduceToNat, be_lt, be_le, be_eq, be_nt, be_ck, be_nz, be_bk, be_div, not_true_eq_false, not_false_eq_true, if_true, if_false, eq_self, Int.reduceEq, Int.reduceLT, Int.reduceLE, Bool.true_eq_false, Bool.false_eq_true]
        rw [Nat.gcd_zero_right]
        rfl
      · have hm : p % q < q := Nat.mod_lt _ (by omega)
        rw [← be_gcd h0]
        simp (disch := (first | assumption | omega | exact (be_gB _ _ _).1 | exact (be_gB _ _ _).2)) only [↓reduceIte, be_ofI, ↓be_ofN, ↓be_0, be_add, be_sub, be_mul, be_neg, be_rem, be_bi, be_bl, be_bv, be_br, be_bE0, be_bE1, be_b1E, be_b0E, be_bkb, be_cast, Int.toNat_natCast, Int.reduceToNat, be_lt, be_le, be_eq, be_nt, be_ck, be_nz, be_bk, be_div]
        rw [if_neg (by omega)]
        exact ih (p % q) q _ _ _ (by omega) (by omega) (by omega) rfl (by rw [Int.natCast_emod])
  rw [am_s82]
  exact key (B + 1) B A _ _ _ (by omega) hB hA rfl rfl
theorem be_m254 (hd : 1 ≤ d) {A B : Nat} (hA : A < 2147483648) (hB0 : 1 ≤ B) (hB : B ≤ 60) {w : Int} (hw : w = 0 ∨ w = 1) : am_sem X d 254 [am_I (be_i ((A : Int))), am_I (be_i ((B : Int))), am_I (be_i (w))] (am_sd a b u e f) = some (some (am_J (be_i ((if w = 0 then (A : Int) else B) / (Nat.gcd A B : Int))).toInt64), (am_sd a b u e f)) := by
  obtain ⟨d, rfl⟩ : ∃ q, d = q + 1 := ⟨d - 1, by omega⟩
  have hg0 : 0 < Nat.gcd A B := Nat.gcd_pos_of_pos_right A (by omega)
  have hg1 : Nat.gcd A B ≤ B := Nat.gcd_le_right A (by omega)
  have key : ∀ (n q p s : Nat) (z : am_V) (x y t : Int), q < n → q + s ≤ 62 → p < 2147483648 → x = (p : Int) → y = (q : Int) → t = (s : Int) → Nat.gcd p q = Nat.gcd A B → am_fix (am_sem X d) X am_P254 8 [am_I (be_i ((A : Int))), am_I (be_i ((B : Int))), am_I (be_i (w)), am_I (be_i (x)), am_I (be_i (y)), am_I (be_i (t)), z] [] (am_sd a b u e f) = some (some (am_J (be_i ((if w = 0 then (A : Int) else B) / (Nat.gcd A B : Int))).toInt64), (am_sd a b u e f)) := by
    intro n
    induction n with
    | zero => intro q p s z x y t h; omega
    | succ n ih =>
      rintro q p s z x y t hn hq hp rfl rfl rfl hg
      rw [am_b254_8]
      by_cases h0 : q = 0
      · subst h0
        rw [Nat.gcd_zero_right] at hg
        subst hg
        rcases hw with rfl | rfl
        · simp (disch := (first | assumption | omega | exact (be_gB _ _ _).1 | exact (be_gB _ _ _).2)) only [↓reduceIte, be_ofI, ↓be_ofN, ↓be_0, be_add, be_sub, be_mul, be_neg, be_rem, be_bi, be_bl, be_bv, be_br, be_bE0, be_bE1, be_b1E, be_b0E, be_bkb, be_cast, Int.toNat_natCast, Int.reduceToNat, be_lt, be_le, be_eq, be_nt, be_ck, be_nz, be_bk, be_div, not_true_eq_false, not_false_eq_true, if_true, if_false, eq_self, Int.reduceEq, Int.reduceLT, Int.reduceLE, Bool.true_eq_false, Bool.false_eq_true]
          rw [if_neg (by omega), if_pos (by omega), if_pos (by omega)]
        · simp (disch := (first | assumption | omega | exact (be_gB _ _ _).1 | exact (be_gB _ _ _).2)) only [↓reduceIte, be_ofI, ↓be_ofN, ↓be_0, be_add, be_sub, be_mul, be_neg, be_rem, be_bi, be_bl, be_bv, be_br, be_bE0, be_bE1, be_b1E, be_b0E, be_bkb, be_cast, Int.toNat_natCast, Int.reduceToNat, be_lt, be_le, be_eq, be_nt, be_ck, be_nz, be_bk, be_div, not_true_eq_false, not_false_eq_true, if_true, if_false, eq_self, Int.reduceEq, Int.reduceLT, Int.reduceLE, Bool.true_eq_false, Bool.false_eq_true]
          rw [if_neg (by omega), if_pos (by omega), if_pos (by omega)]
      · have hm : p % q < q := Nat.mod_lt _ (by omega)
        simp (disch := (first | assumption | omega | exact (be_gB _ _ _).1 | exact (be_gB _ _ _).2)) only [↓reduceIte, be_ofI, ↓be_ofN, ↓be_0, be_add, be_sub, be_mul, be_neg, be_rem, be_bi, be_bl, be_bv, be_br, be_bE0, be_bE1, be_b1E, be_b0E, be_bkb, be_cast, Int.toNat_natCast, Int.reduceToNat, be_lt, be_le, be_eq, be_nt, be_ck, be_nz, be_bk, be_div]
        rw [if_neg (by omega), if_neg (by omega)]
        exact ih (p % q) q (s + 1) _ _ _ _ (by omega) (by omega) (by omega) rfl (by rw [Int.natCast_emod]) (by omega) ((be_gcd h0).trans hg)
  rw [am_s254]
  exact key (B + 1) B A 0 _ _ _ _ (by omega) (by omega) hA rfl rfl rfl rfl
theorem be_m83 (hd : 2 ≤ d) {A B : Nat} (hA : A < 2147483648) (hB0 : 1 ≤ B) (hB : B ≤ 60) {w : Int} (hw : w = 0 ∨ w = 1) : am_sem X d 83 [.inr (50, 0), am_I (be_i ((A : Int))), am_I (be_i ((B : Int))), am_I (be_i (w))] (am_sd a b u e f) = some (some (am_J (be_i ((if w = 0 then (A : Int) else B) / (Nat.gcd A B : Int))).toInt64), (am_sd a b u e f)) := by
  obtain ⟨d, rfl⟩ : ∃ q, d = q + 1 := ⟨d - 1, by omega⟩
  have hg0 : 0 < Nat.gcd A B := Nat.gcd_pos_of_pos_right A (by omega)
  have hg1 : Nat.gcd A B ≤ B := Nat.gcd_le_right A (by omega)
  have h8 := be_m82 (X := X) (a := a) (b := b) (u := u) (e := e) (f := f) (d := d) (A := A) (B := B) (by omega) hA (by omega)
  rw [am_s83]
  rcases hw with rfl | rfl
  · simp (disch := (first | assumption | omega | exact (be_gB _ _ _).1 | exact (be_gB _ _ _).2)) only [↓reduceIte, be_ofI, ↓be_ofN, ↓be_0, be_add, be_sub, be_mul, be_neg, be_rem, be_bi, be_bl, be_bv, be_br, be_bE0, be_bE1, be_b1E, be_b0E, be_bkb, be_cast, Int.toNat_natCast, Int.reduceToNat, be_lt, be_le, be_eq, be_nt, be_ck, be_nz, be_bk, be_div, not_true_eq_false, not_false_eq_true, if_true, if_false, eq_self, Int.reduceEq, Int.reduceLT, Int.reduceLE, Bool.true_eq_false, Bool.false_eq_true, h8, am_b83_6]
  · simp (disch := (first | assumption | omega | exact (be_gB _ _ _).1 | exact (be_gB _ _ _).2)) only [↓reduceIte, be_ofI, ↓be_ofN, ↓be_0, be_add, be_sub, be_mul, be_neg, be_rem, be_bi, be_bl, be_bv, be_br, be_bE0, be_bE1, be_b1E, be_b0E, be_bkb, be_cast, Int.toNat_natCast, Int.reduceToNat, be_lt, be_le, be_eq, be_nt, be_ck, be_nz, be_bk, be_div, not_true_eq_false, not_false_eq_true, if_true, if_false, eq_self, Int.reduceEq, Int.reduceLT, Int.reduceLE, Bool.true_eq_false, Bool.false_eq_true, h8, am_b83_6]
theorem be_codds (hd : 12 ≤ d) (hI : be_IV a b u e f) {x w : Int} (hx1 : -2147483648 ≤ x) (hx2 : x < 2147483648) (hw1 : -2147483648 ≤ w) (hw2 : w < 2147483648) : be_CJ X d 232 84 [am_I (be_i (x)), am_I (be_i (w))] a b u e f := by
  obtain ⟨d, rfl⟩ : ∃ q, d = q + 1 := ⟨d - 1, by omega⟩
  have he := be_gI e
  obtain ⟨hW, hW2, hT, hhm, hD, -, hX⟩ := hI.1
  obtain ⟨nr, nr2⟩ := be_nrR hW
  have hT2 := hT.1
  have hT1 := hT2.1
  have hW1 := hW.1
  have hq := be_qR e
  have c1 := be_hasR (X := X) (a := a) (b := b) (u := u) (e := e) (f := f) (d := d) (by omega) hI hx1 hx2
  have c2 := be_isR (X := X) (a := a) (b := b) (u := u) (e := e) (f := f) (d := d) (by omega) hI hx1 hx2
  have c3 := be_m250 (X := X) (a := a) (b := b) (u := u) (e := e) (f := f) (d := d) (x := w) (y := 0) (z := 1) (by omega) hw1 hw2 (by decide) (by decide) (by decide) (by decide)
  have c4 := be_m1 (X := X) (a := a) (b := b) (u := u) (e := e) (f := f) (d := d) (x := w) (y := 0) (z := 1) (by omega) hw1 hw2 (by decide) (by decide) (by decide) (by decide)
  obtain ⟨o1, o2, o3, o4, o5, -⟩ := hX.1
  by_cases hx : 0 ≤ x ∧ x ≤ be_g e 50 0 - 1
  · rw [decide_eq_true hx] at c1 c2
    obtain ⟨r, rfl⟩ := be_0le hx.1
    by_cases hw : 0 ≤ w ∧ w ≤ 1
    · rw [decide_eq_true hw] at c3 c4
      obtain ⟨Q, hQ⟩ := be_0le (show 0 ≤ be_q e by omega)
      have v1 := be_m149 (X := X) (a := a) (b := b) (u := u) (e := e) (f := f) (d := d) (i := 0) (r := r) (y := be_g e 50 3) (by omega) hW hT2 (by omega) hX.1 (by omega) (by omega)
      have v3 := be_m47 (X := X) (a := a) (b := b) (u := u) (e := e) (f := f) (d := d) (r := r) (p := true) (by omega) hW hT2 (by omega) (by omega)
      have v4 := be_m33 (X := X) (a := a) (b := b) (u := u) (e := e) (f := f) (d := d) (by omega) hT1
      rw [be_bT] at v3
      have hle := be_un_le e (be_g e 50 3) r true (be_q e).toNat
      have g1 := be_m254 (X := X) (a := a) (b := b) (u := u) (e := e) (f := f) (d := d) (A := be_un e (be_g e 50 3) r true (be_q e).toNat) (B := Q) (w := w) (by omega) (by omega) (by omega) (by omega) (by omega)
      have g2 := be_m83 (X := X) (a := a) (b := b) (u := u) (e := e) (f := f) (d := d) (A := be_un e (be_g e 50 3) r true (be_q e).toNat) (B := Q) (w := w) (by omega) (by omega) (by omega) (by omega) (by omega)
      rw [← hQ] at g1 g2
      refine be_CJp hI (v := _) (Eq.trans ?_ g1) (Eq.trans ?_ g1)
      · rw [am_s232]
        simp (disch := (first | assumption | omega | exact (be_gB _ _ _).1 | exact (be_gB _ _ _).2)) only [↓reduceIte, be_ofI, ↓be_ofN, ↓be_0, be_add, be_sub, be_mul, be_neg, be_rem, be_bi, be_bl, be_bv, be_br, be_bE0, be_bE1, be_b1E, be_b0E, be_bkb, be_cast, Int.toNat_natCast, Int.reduceToNat, be_lt, be_le, be_eq, be_nt, be_ck, be_nz, be_bk, be_div, not_true_eq_false, not_false_eq_true, if_true, if_false, eq_self, Int.reduceEq, Int.reduceLT, Int.reduceLE, Bool.true_eq_false, Bool.false_eq_true, c1, c3, o3, o5, v1, g1, am_b232_8, am_b232_17, am_b232_39, am_b232_53]
      · rw [am_s84]
        simp (disch := (first | assumption | omega | exact (be_gB _ _ _).1 | exact (be_gB _ _ _).2)) only [↓reduceIte, be_ofI, ↓be_ofN, ↓be_0, be_add, be_sub, be_mul, be_neg, be_rem, be_bi, be_bl, be_bv, be_br, be_bE0, be_bE1, be_b1E, be_b0E, be_bkb, be_cast, Int.toNat_natCast, Int.reduceToNat, be_lt, be_le, be_eq, be_nt, be_ck, be_nz, be_bk, be_div, not_true_eq_false, not_false_eq_true, if_true, if_false, eq_self, Int.reduceEq, Int.reduceLT, Int.reduceLE, Bool.true_eq_false, Bool.false_eq_true, c2, c4, v3, v4, g2, g1, am_b84_5, am_b84_15, am_b84_25, am_b84_29, am_b84_33]
    · rw [decide_eq_false hw] at c3 c4
      refine be_CJp (v := Int64.ofNat 9223372036854775808) hI ?_ ?_
      · rw [am_s232]
        simp (disch := (first | assumption | omega | exact (be_gB _ _ _).1 | exact (be_gB _ _ _).2)) only [↓reduceIte, be_ofI, ↓be_ofN, ↓be_0, be_add, be_sub, be_mul, be_neg, be_rem, be_bi, be_bl, be_bv, be_br, be_bE0, be_bE1, be_b1E, be_b0E, be_bkb, be_cast, Int.toNat_natCast, Int.reduceToNat, be_lt, be_le, be_eq, be_nt, be_ck, be_nz, be_bk, be_div, not_true_eq_false, not_false_eq_true, if_true, if_false, eq_self, Int.reduceEq, Int.reduceLT, Int.reduceLE, Bool.true_eq_false, Bool.false_eq_true, c1, c3, am_b232_8, am_b232_17, am_b232_39, am_b232_53]
      · rw [am_s84]
        simp (disch := (first | assumption | omega | exact (be_gB _ _ _).1 | exact (be_gB _ _ _).2)) only [↓reduceIte, be_ofI, ↓be_ofN, ↓be_0, be_add, be_sub, be_mul, be_neg, be_rem, be_bi, be_bl, be_bv, be_br, be_bE0, be_bE1, be_b1E, be_b0E, be_bkb, be_cast, Int.toNat_natCast, Int.reduceToNat, be_lt, be_le, be_eq, be_nt, be_ck, be_nz, be_bk, be_div, not_true_eq_false, not_false_eq_true, if_true, if_false, eq_self, Int.reduceEq, Int.reduceLT, Int.reduceLE, Bool.true_eq_false, Bool.false_eq_true, c2, c4, am_b84_5, am_b84_15, am_b84_25, am_b84_29, am_b84_33]
  · rw [decide_eq_false hx] at c1 c2
    refine be_CJp (v := Int64.ofNat 9223372036854775808) hI ?_ ?_
    · rw [am_s232]
      simp (disch := (first | assumption | omega | exact (be_gB _ _ _).1 | exact (be_gB _ _ _).2)) only [↓reduceIte, be_ofI, ↓be_ofN, ↓be_0, be_add, be_sub, be_mul, be_neg, be_rem, be_bi, be_bl, be_bv, be_br, be_bE0, be_bE1, be_b1E, be_b0E, be_bkb, be_cast, Int.toNat_natCast, Int.reduceToNat, be_lt, be_le, be_eq, be_nt, be_ck, be_nz, be_bk, be_div, not_true_eq_false, not_false_eq_true, if_true, if_false, eq_self, Int.reduceEq, Int.reduceLT, Int.reduceLE, Bool.true_eq_false, Bool.false_eq_true, c1, am_b232_8, am_b232_17, am_b232_39, am_b232_53]
    · rw [am_s84]
      simp (disch := (first | assumption | omega | exact (be_gB _ _ _).1 | exact (be_gB _ _ _).2)) only [↓reduceIte, be_ofI, ↓be_ofN, ↓be_0, be_add, be_sub, be_mul, be_neg, be_rem, be_bi, be_bl, be_bv, be_br, be_bE0, be_bE1, be_b1E, be_b0E, be_bkb, be_cast, Int.toNat_natCast, Int.reduceToNat, be_lt, be_le, be_eq, be_nt, be_ck, be_nz, be_bk, be_div, not_true_eq_false, not_false_eq_true, if_true, if_false, eq_self, Int.reduceEq, Int.reduceLT, Int.reduceLE, Bool.true_eq_false, Bool.false_eq_true, c2, am_b84_5, am_b84_15, am_b84_25, am_b84_29, am_b84_33]
theorem be_cmean (hd : 12 ≤ d) (hI : be_IV a b u e f) {x w : Int} (hx1 : -2147483648 ≤ x) (hx2 : x < 2147483648) (hw1 : -2147483648 ≤ w) (hw2 : w < 2147483648) : be_CJ X d 233 85 [am_I (be_i (x)), am_I (be_i (w))] a b u e f := by
  obtain ⟨d, rfl⟩ : ∃ q, d = q + 1 := ⟨d - 1, by omega⟩
  have he := be_gI e
  obtain ⟨hW, hW2, hT, hhm, hD, -, hX⟩ := hI.1
  have hT2 := hT.1
  have c1 := be_m250 (X := X) (a := a) (b := b) (u := u) (e := e) (f := f) (d := d) (x := x) (y := 1) (z := 20) (by omega) hx1 hx2 (by decide) (by decide) (by decide) (by decide)
  have c2 := be_m1 (X := X) (a := a) (b := b) (u := u) (e := e) (f := f) (d := d) (x := x) (y := 1) (z := 20) (by omega) hx1 hx2 (by decide) (by decide) (by decide) (by decide)
  have c3 := be_m250 (X := X) (a := a) (b := b) (u := u) (e := e) (f := f) (d := d) (x := w) (y := 0) (z := 1) (by omega) hw1 hw2 (by decide) (by decide) (by decide) (by decide)
  have c4 := be_m1 (X := X) (a := a) (b := b) (u := u) (e := e) (f := f) (d := d) (x := w) (y := 0) (z := 1) (by omega) hw1 hw2 (by decide) (by decide) (by decide) (by decide)
  by_cases hx : 1 ≤ x ∧ x ≤ 20
  · rw [decide_eq_true hx] at c1 c2
    obtain ⟨n, rfl⟩ := be_0le (show 0 ≤ x by omega)
    by_cases hw : 0 ≤ w ∧ w ≤ 1
    · rw [decide_eq_true hw] at c3 c4
      have v1 := be_m153 (X := X) (a := a) (b := b) (u := u) (e := e) (f := f) (d := d) (i := 0) (N := n) (by omega) hW hT2 (by omega) hX.1 (by omega)
      have v2 := be_m57 (X := X) (a := a) (b := b) (u := u) (e := e) (f := f) (d := d) (N := n) (by omega) hW hT2 (by omega) (by omega)
      have hle := be_ws_le hW (be_g e 50 3) n
      have g1 := be_m254 (X := X) (a := a) (b := b) (u := u) (e := e) (f := f) (d := d) (A := be_ws e (be_g e 50 3) n) (B := n) (w := w) (by omega) (by omega) (by omega) (by omega) (by omega)
      have g2 := be_m83 (X := X) (a := a) (b := b) (u := u) (e := e) (f := f) (d := d) (A := be_ws e (be_g e 50 3) n) (B := n) (w := w) (by omega) (by omega) (by omega) (by omega) (by omega)
      refine be_CJp hI (v := _) (Eq.trans ?_ g1) (Eq.trans ?_ g1)
      · rw [am_s233]
        simp (disch := (first | assumption | omega | exact (be_gB _ _ _).1 | exact (be_gB _ _ _).2)) only [↓reduceIte, be_ofI, ↓be_ofN, ↓be_0, be_add, be_sub, be_mul, be_neg, be_rem, be_bi, be_bl, be_bv, be_br, be_bE0, be_bE1, be_b1E, be_b0E, be_bkb, be_cast, Int.toNat_natCast, Int.reduceToNat, be_lt, be_le, be_eq, be_nt, be_ck, be_nz, be_bk, be_div, not_true_eq_false, not_false_eq_true, if_true, if_false, eq_self, Int.reduceEq, Int.reduceLT, Int.reduceLE, Bool.true_eq_false, Bool.false_eq_true, c1, c3, v1, g1, am_b233_7, am_b233_16, am_b233_31, am_b233_36]
      · rw [am_s85]
        simp (disch := (first | assumption | omega | exact (be_gB _ _ _).1 | exact (be_gB _ _ _).2)) only [↓reduceIte, be_ofI, ↓be_ofN, ↓be_0, be_add, be_sub, be_mul, be_neg, be_rem, be_bi, be_bl, be_bv, be_br, be_bE0, be_bE1, be_b1E, be_b0E, be_bkb, be_cast, Int.toNat_natCast, Int.reduceToNat, be_lt, be_le, be_eq, be_nt, be_ck, be_nz, be_bk, be_div, not_true_eq_false, not_false_eq_true, if_true, if_false, eq_self, Int.reduceEq, Int.reduceLT, Int.reduceLE, Bool.true_eq_false, Bool.false_eq_true, c2, c4, v2, g2, g1, am_b85_8, am_b85_18, am_b85_27, am_b85_32]
    · rw [decide_eq_false hw] at c3 c4
      refine be_CJp (v := Int64.ofNat 9223372036854775808) hI ?_ ?_
      · rw [am_s233]
        simp (disch := (first | assumption | omega | exact (be_gB _ _ _).1 | exact (be_gB _ _ _).2)) only [↓reduceIte, be_ofI, ↓be_ofN, ↓be_0, be_add, be_sub, be_mul, be_neg, be_rem, be_bi, be_bl, be_bv, be_br, be_bE0, be_bE1, be_b1E, be_b0E, be_bkb, be_cast, Int.toNat_natCast, Int.reduceToNat, be_lt, be_le, be_eq, be_nt, be_ck, be_nz, be_bk, be_div, not_true_eq_false, not_false_eq_true, if_true, if_false, eq_self, Int.reduceEq, Int.reduceLT, Int.reduceLE, Bool.true_eq_false, Bool.false_eq_true, c1, c3, am_b233_7, am_b233_16, am_b233_31, am_b233_36]
      · rw [am_s85]
        simp (disch := (first | assumption | omega | exact (be_gB _ _ _).1 | exact (be_gB _ _ _).2)) only [↓reduceIte, be_ofI, ↓be_ofN, ↓be_0, be_add, be_sub, be_mul, be_neg, be_rem, be_bi, be_bl, be_bv, be_br, be_bE0, be_bE1, be_b1E, be_b0E, be_bkb, be_cast, Int.toNat_natCast, Int.reduceToNat, be_lt, be_le, be_eq, be_nt, be_ck, be_nz, be_bk, be_div, not_true_eq_false, not_false_eq_true, if_true, if_false, eq_self, Int.reduceEq, Int.reduceLT, Int.reduceLE, Bool.true_eq_false, Bool.false_eq_true, c2, c4, am_b85_8, am_b85_18, am_b85_27, am_b85_32]
  · rw [decide_eq_false hx] at c1 c2
    refine be_CJp (v := Int64.ofNat 9223372036854775808) hI ?_ ?_
    · rw [am_s233]
      simp (disch := (first | assumption | omega | exact (be_gB _ _ _).1 | exact (be_gB _ _ _).2)) only [↓reduceIte, be_ofI, ↓be_ofN, ↓be_0, be_add, be_sub, be_mul, be_neg, be_rem, be_bi, be_bl, be_bv, be_br, be_bE0, be_bE1, be_b1E, be_b0E, be_bkb, be_cast, Int.toNat_natCast, Int.reduceToNat, be_lt, be_le, be_eq, be_nt, be_ck, be_nz, be_bk, be_div, not_true_eq_false, not_false_eq_true, if_true, if_false, eq_self, Int.reduceEq, Int.reduceLT, Int.reduceLE, Bool.true_eq_false, Bool.false_eq_true, c1, am_b233_7, am_b233_16, am_b233_31, am_b233_36]
    · rw [am_s85]
      simp (disch := (first | assumption | omega | exact (be_gB _ _ _).1 | exact (be_gB _ _ _).2)) only [↓reduceIte, be_ofI, ↓be_ofN, ↓be_0, be_add, be_sub, be_mul, be_neg, be_rem, be_bi, be_bl, be_bv, be_br, be_bE0, be_bE1, be_b1E, be_b0E, be_bkb, be_cast, Int.toNat_natCast, Int.reduceToNat, be_lt, be_le, be_eq, be_nt, be_ck, be_nz, be_bk, be_div, not_true_eq_false, not_false_eq_true, if_true, if_false, eq_self, Int.reduceEq, Int.reduceLT, Int.reduceLE, Bool.true_eq_false, Bool.false_eq_true, c2, am_b85_8, am_b85_18, am_b85_27, am_b85_32]
