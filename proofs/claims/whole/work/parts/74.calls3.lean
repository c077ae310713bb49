/-! CALLS, 3: count, trace, looked, taken, read, judge -/
variable {d : Nat} {X : am_X} {a : Nat → Nat → Nat → Int32} {b : Nat → Nat → Nat → Int64} {u : Nat → Nat} {e : Nat → Nat → Nat → Int32} {f : Nat → Nat → Nat → Int64}
def be_l (x : Int) : Int64 := Int64.ofInt x
theorem be_lti {x : Int} (h1 : -9223372036854775808 ≤ x) (h2 : x < 9223372036854775808) : (be_l x).toInt = x := Int64.toInt_ofInt_of_le h1 h2
theorem be_il {x : Int} (h1 : -2147483648 ≤ x) (h2 : x < 2147483648) : (be_i x).toInt64 = be_l x := by
  apply Int64.toInt_inj.1
  rw [Int32.toInt_toInt64, be_ti h1 h2, be_lti (by omega) (by omega)]
theorem be_ladd (x y : Int) : be_l x + be_l y = be_l (x + y) := (Int64.ofInt_add x y).symm
theorem be_li (x : Int) : (be_l x).toInt32 = be_i x := by
  apply Int32.toBitVec_inj.1
  show (BitVec.ofInt 64 x).signExtend 32 = BitVec.ofInt 32 x
  apply BitVec.eq_of_toInt_eq
  rw [BitVec.toInt_signExtend, BitVec.toInt_ofInt, BitVec.toInt_ofInt]
  simp [Int.bmod_bmod_of_dvd]
theorem be_llt {x y : Int} (h1 : -9223372036854775808 ≤ x) (h2 : x < 9223372036854775808) (h3 : -9223372036854775808 ≤ y) (h4 : y < 9223372036854775808) : (be_l x < be_l y) = (x < y) := by
  rw [Int64.lt_iff_toInt_lt, be_lti h1 h2, be_lti h3 h4]
theorem be_cmpL {x y : Int} (h1 : -9223372036854775808 ≤ x) (h2 : x < 9223372036854775808) (h3 : -9223372036854775808 ≤ y) (h4 : y < 9223372036854775808) : (lg_cmp (be_l x) (be_l y) < be_i 0) = (x < y) := by
  rw [← be_llt h1 h2 h3 h4]; exact propext (lg_cmp_lt _ _)
theorem be_cmpG {x y : Int} (h1 : -9223372036854775808 ≤ x) (h2 : x < 9223372036854775808) (h3 : -9223372036854775808 ≤ y) (h4 : y < 9223372036854775808) : (be_i 0 < lg_cmp (be_l x) (be_l y)) = (y < x) := by
  rw [← be_llt h3 h4 h1 h2]; exact propext (lg_cmp_gt _ _)
theorem be_ccount (hd : 12 ≤ d) (hI : be_IV a b u e f) {w : Int} (hw1 : -2147483648 ≤ w) (hw2 : w < 2147483648) : be_C X d 245 104 [am_I (be_i (w))] a b u e f := by
  obtain ⟨d, rfl⟩ : ∃ q, d = q + 1 := ⟨d - 1, by omega⟩
  have he := be_gI e
  have hI' := hI
  obtain ⟨⟨hW, hW2, hT, hh, hD, -, hX⟩, hN, h3, h4, h5, h6, h7, h8⟩ := hI'
  have k0 := hX.1.2.1
  have k1 := hX.1.1
  have k2 := h3.1
  have k3 := hX.2.2.2.1.1
  have k4 := hX.2.2.2.2.1.1
  have k5 := hX.2.2.2.2.2.1
  have k6 := h4.1
  have k7 := h7.1
  refine be_Cp (v := be_i (if w = 0 then be_g e 50 2 else if w = 1 then be_g e 50 0 else if w = 2 then be_g e 50 12 else if w = 3 then be_g e 50 40 else if w = 4 then be_g e 50 45 else if w = 5 then be_g e 50 46 else if w = 6 then be_g e 50 14 else if w = 7 then be_g e 50 77 else -2)) hI ?_ ?_
  · rw [am_s245]
    simp only [Nat.mul_zero, Nat.zero_add] at k3 k4 k5
    simp (maxSteps := 1000000) (disch := (first | assumption | omega | exact (be_gB _ _ _).1 | exact (be_gB _ _ _).2)) only [↓reduceIte, be_ofI, ↓be_ofN, ↓be_0, be_add, be_sub, be_mul, be_neg, be_rem, be_bi, be_bl, be_bv, be_br, be_bE0, be_bE1, be_b1E, be_b0E, be_bkb, be_cast, Int.toNat_natCast, Int.reduceToNat, be_lt, be_le, be_eq, be_nt, be_ck, be_nz, be_bk, be_div, k0, k1, k2, k3, k4, k5, k6, k7]
    (repeat' split) <;> first | rfl | omega
  · rw [am_s104]
    simp (maxSteps := 1000000) (disch := (first | assumption | omega | exact (be_gB _ _ _).1 | exact (be_gB _ _ _).2)) only [↓reduceIte, be_ofI, ↓be_ofN, ↓be_0, be_add, be_sub, be_mul, be_neg, be_rem, be_bi, be_bl, be_bv, be_br, be_bE0, be_bE1, be_b1E, be_b0E, be_bkb, be_cast, Int.toNat_natCast, Int.reduceToNat, be_lt, be_le, be_eq, be_nt, be_ck, be_nz, be_bk, be_div, he]
    (repeat' split) <;> first | rfl | omega
theorem be_ctrace (hd : 12 ≤ d) (hI : be_IV a b u e f) {w : Int} (hw1 : -2147483648 ≤ w) (hw2 : w < 2147483648) : be_C X d 242 102 [am_I (be_i (w))] a b u e f := by
  obtain ⟨d, rfl⟩ : ∃ q, d = q + 1 := ⟨d - 1, by omega⟩
  have he := be_gI e
  obtain ⟨k1, k2, k3, k4⟩ := hI.2.2.2.2.2.2.1
  have c1 := be_m1 (X := X) (a := a) (b := b) (u := u) (e := e) (f := f) (d := d) (x := w) (y := 0) (z := 19) (by omega) hw1 hw2 (by decide) (by decide) (by decide) (by decide)
  by_cases hw : 0 ≤ w ∧ w ≤ 19
  · rw [decide_eq_true hw] at c1
    obtain ⟨k, rfl⟩ := be_0le hw.1
    by_cases hr : (k : Int) < be_g e 50 77
    · have k5 := k4 k hr (by omega)
      refine be_Cp (v := be_i (be_g e 101 k)) hI ?_ ?_
      · rw [am_s242]
        simp (disch := (first | assumption | omega | exact (be_gB _ _ _).1 | exact (be_gB _ _ _).2)) only [↓reduceIte, be_ofI, ↓be_ofN, ↓be_0, be_add, be_sub, be_mul, be_neg, be_rem, be_bi, be_bl, be_bv, be_br, be_bE0, be_bE1, be_b1E, be_b0E, be_bkb, be_cast, Int.toNat_natCast, Int.reduceToNat, be_lt, be_le, be_eq, be_nt, be_ck, be_nz, be_bk, be_div, not_true_eq_false, not_false_eq_true, if_true, if_false, eq_self, Int.reduceEq, Int.reduceLT, Int.reduceLE, Bool.true_eq_false, Bool.false_eq_true, k1, k5]
        rw [if_neg (by omega), if_neg (by omega), if_neg (by omega)]
      · rw [am_s102]
        simp (disch := (first | assumption | omega | exact (be_gB _ _ _).1 | exact (be_gB _ _ _).2)) only [↓reduceIte, be_ofI, ↓be_ofN, ↓be_0, be_add, be_sub, be_mul, be_neg, be_rem, be_bi, be_bl, be_bv, be_br, be_bE0, be_bE1, be_b1E, be_b0E, be_bkb, be_cast, Int.toNat_natCast, Int.reduceToNat, be_lt, be_le, be_eq, be_nt, be_ck, be_nz, be_bk, be_div, not_true_eq_false, not_false_eq_true, if_true, if_false, eq_self, Int.reduceEq, Int.reduceLT, Int.reduceLE, Bool.true_eq_false, Bool.false_eq_true, he, c1, am_b102_8]
        rw [if_neg (by omega)]
    · refine be_Cp (v := be_i (-1)) hI ?_ ?_
      · rw [am_s242]
        simp (disch := (first | assumption | omega | exact (be_gB _ _ _).1 | exact (be_gB _ _ _).2)) only [be_ofI, ↓be_ofN, ↓be_0, be_cast, k1, be_lt, be_le]
        rw [if_neg (by omega), if_pos (by omega)]
      · rw [am_s102]
        simp (disch := (first | assumption | omega | exact (be_gB _ _ _).1 | exact (be_gB _ _ _).2)) only [be_ofI, ↓be_ofN, ↓be_0, be_cast, ↓reduceIte, be_bi, be_bE0, Bool.true_eq_false, he, c1, am_b102_8, be_le]
        rw [if_pos (by omega)]
  · rw [decide_eq_false hw] at c1
    refine be_Cp (v := be_i (-1)) hI ?_ ?_
    · rw [am_s242]
      simp (disch := (first | assumption | omega | exact (be_gB _ _ _).1 | exact (be_gB _ _ _).2)) only [be_ofI, ↓be_ofN, ↓be_0, be_cast, k1, be_lt, be_le]
      by_cases q : w < 0
      · rw [if_pos q]
      · rw [if_neg q]
        by_cases q2 : be_g e 50 77 ≤ w
        · rw [if_pos q2]
        · rw [if_neg q2, if_pos (by omega)]
    · rw [am_s102]
      simp (disch := (first | assumption | omega | exact (be_gB _ _ _).1 | exact (be_gB _ _ _).2)) only [↓reduceIte, be_ofI, ↓be_ofN, ↓be_0, be_add, be_sub, be_mul, be_neg, be_rem, be_bi, be_bl, be_bv, be_br, be_bE0, be_bE1, be_b1E, be_b0E, be_bkb, be_cast, Int.toNat_natCast, Int.reduceToNat, be_lt, be_le, be_eq, be_nt, be_ck, be_nz, be_bk, be_div, not_true_eq_false, not_false_eq_true, if_true, if_false, eq_self, Int.reduceEq, Int.reduceLT, Int.reduceLE, Bool.true_eq_false, Bool.false_eq_true, c1, am_b102_8]
theorem be_clooked (hd : 12 ≤ d) (hI : be_IV a b u e f) : be_C X d 237 89 [] a b u e f := by
  obtain ⟨d, rfl⟩ : ∃ q, d = q + 1 := ⟨d - 1, by omega⟩
  have he := be_gI e
  obtain ⟨hW, hW2, hT, hh, hD, -, hX⟩ := hI.1
  obtain ⟨nh, nh2⟩ := be_nhR hW
  obtain ⟨b1, b2, b3⟩ := hW2.2.2.2
  obtain ⟨k1, k2⟩ := hX.2.2.2.2.2
  simp only [Nat.mul_zero, Nat.zero_add] at k1 k2
  obtain ⟨N, hN⟩ := be_0le b1
  have hl : am_len X 18 2 = 8 := be_ln2 X 0 (by decide)
  have key : ∀ (n k : Nat) (z : Int) (z2 : am_V), k + n = N → z = (k : Int) → ∃ v : Int, am_fix (am_sem X d) X am_P237 2 [.inr (9, 0), am_I (be_i (z)), z2] [] (am_sd a b u e f) = some (some (am_I (be_i (v))), (am_sd a b u e f)) ∧ am_fix (am_sem X d) X am_P89 2 [.inr (50, 0), am_I (be_i (z))] [] (am_sd a b u e f) = some (some (am_I (be_i (v))), (am_sd a b u e f)) := by
    intro n
    induction n with
    | zero =>
      rintro k z z2 hk rfl
      obtain rfl : k = N := hk
      refine ⟨-5, ?_, ?_⟩
      · rw [am_b237_2]
        simp (disch := (first | assumption | omega | exact (be_gB _ _ _).1 | exact (be_gB _ _ _).2)) only [be_ofI, ↓be_ofN, ↓be_0, k1, be_le]
        rw [if_pos (by omega)]
      · rw [am_b89_2]
        simp (disch := (first | assumption | omega | exact (be_gB _ _ _).1 | exact (be_gB _ _ _).2)) only [be_ofI, ↓be_ofN, ↓be_0, he, be_le]
        rw [if_pos (by omega)]
    | succ n ih =>
      rintro k z z2 hk rfl
      obtain ⟨p1, p2, p3, p4⟩ := b3 k (by omega)
      obtain ⟨q1, q2⟩ := k2 k (by omega)
      obtain ⟨h, hh⟩ := be_0le p1
      have w1 := hW.2.1 h (by omega)
      have c1 := be_hasH (X := X) (a := a) (b := b) (u := u) (e := e) (f := f) (d := d) (x := (h : Int)) (by omega) hI (by omega) (by omega)
      rw [decide_eq_true (by omega)] at c1
      have c2 := be_m135 (X := X) (a := a) (b := b) (u := u) (e := e) (f := f) (d := d) (h := h) (x := h) (by omega) hW (by omega) (be_HR0 hX (by omega))
      obtain ⟨v, g1, g2⟩ := ih (k + 1) ((k : Int) + 1) (.inr (19, k + 14)) (by omega) (by omega)
      rw [hh] at q1
      by_cases hc : be_g e 57 h = be_g e 83 k
      · refine ⟨v, ?_, ?_⟩
        · rw [am_b237_2]
          simp (disch := (first | assumption | omega | exact (be_gB _ _ _).1 | exact (be_gB _ _ _).2)) only [↓reduceIte, be_ofI, ↓be_ofN, ↓be_0, be_add, be_sub, be_mul, be_neg, be_rem, be_bi, be_bl, be_bv, be_br, be_bE0, be_bE1, be_b1E, be_b0E, be_bkb, be_cast, Int.toNat_natCast, Int.reduceToNat, be_lt, be_le, be_eq, be_nt, be_ck, be_nz, be_bk, be_div, not_true_eq_false, not_false_eq_true, if_true, if_false, eq_self, Int.reduceEq, Int.reduceLT, Int.reduceLE, Bool.true_eq_false, Bool.false_eq_true, k1, hl, q1, q2, c1, c2, am_b237_39, am_b237_56, hc]
          rw [if_neg (by omega)]
          exact g1
        · rw [am_b89_2]
          simp (disch := (first | assumption | omega | exact (be_gB _ _ _).1 | exact (be_gB _ _ _).2)) only [↓reduceIte, be_ofI, ↓be_ofN, ↓be_0, be_add, be_sub, be_mul, be_neg, be_rem, be_bi, be_bl, be_bv, be_br, be_bE0, be_bE1, be_b1E, be_b0E, be_bkb, be_cast, Int.toNat_natCast, Int.reduceToNat, be_lt, be_le, be_eq, be_nt, be_ck, be_nz, be_bk, be_div, not_true_eq_false, not_false_eq_true, if_true, if_false, eq_self, Int.reduceEq, Int.reduceLT, Int.reduceLE, Bool.true_eq_false, Bool.false_eq_true, he, hh, hc]
          rw [if_neg (by omega)]
          exact g2
      · refine ⟨(k : Int), ?_, ?_⟩
        · rw [am_b237_2]
          simp (disch := (first | assumption | omega | exact (be_gB _ _ _).1 | exact (be_gB _ _ _).2)) only [↓reduceIte, be_ofI, ↓be_ofN, ↓be_0, be_add, be_sub, be_mul, be_neg, be_rem, be_bi, be_bl, be_bv, be_br, be_bE0, be_bE1, be_b1E, be_b0E, be_bkb, be_cast, Int.toNat_natCast, Int.reduceToNat, be_lt, be_le, be_eq, be_nt, be_ck, be_nz, be_bk, be_div, not_true_eq_false, not_false_eq_true, if_true, if_false, eq_self, Int.reduceEq, Int.reduceLT, Int.reduceLE, Bool.true_eq_false, Bool.false_eq_true, k1, hl, q1, q2, c1, c2, am_b237_39, am_b237_56, hc]
          rw [if_neg (by omega)]
        · rw [am_b89_2]
          simp (disch := (first | assumption | omega | exact (be_gB _ _ _).1 | exact (be_gB _ _ _).2)) only [↓reduceIte, be_ofI, ↓be_ofN, ↓be_0, be_add, be_sub, be_mul, be_neg, be_rem, be_bi, be_bl, be_bv, be_br, be_bE0, be_bE1, be_b1E, be_b0E, be_bkb, be_cast, Int.toNat_natCast, Int.reduceToNat, be_lt, be_le, be_eq, be_nt, be_ck, be_nz, be_bk, be_div, not_true_eq_false, not_false_eq_true, if_true, if_false, eq_self, Int.reduceEq, Int.reduceLT, Int.reduceLE, Bool.true_eq_false, Bool.false_eq_true, he, hh, hc]
          rw [if_neg (by omega)]
  obtain ⟨v, g1, g2⟩ := key N 0 0 am_un (Nat.zero_add _) rfl
  refine be_Cp (v := be_i v) hI ?_ ?_
  · rw [am_s237]; exact g1
  · rw [am_s89]; exact g2
theorem be_ctaken (hd : 12 ≤ d) (hI : be_IV a b u e f) {x w : Int} (hx1 : -2147483648 ≤ x) (hx2 : x < 2147483648) (hw1 : -2147483648 ≤ w) (hw2 : w < 2147483648) : be_C X d 243 103 [am_I (be_i (x)), am_I (be_i (w))] a b u e f := by
  obtain ⟨d, rfl⟩ : ∃ q, d = q + 1 := ⟨d - 1, by omega⟩
  obtain ⟨d, rfl⟩ : ∃ q, d = q + 1 := ⟨d - 1, by omega⟩
  have he := be_gI e
  obtain ⟨hW, hW2, hT, hh, hD, -, hX⟩ := hI.1
  obtain ⟨nh, nh2⟩ := be_nhR hW
  have c1 := be_hasH (X := X) (a := a) (b := b) (u := u) (e := e) (f := f) (d := d + 1) (by omega) hI hx1 hx2
  have c2 := be_isH (X := X) (a := a) (b := b) (u := u) (e := e) (f := f) (d := d + 1) (by omega) hI hx1 hx2
  have c3 := be_m250 (X := X) (a := a) (b := b) (u := u) (e := e) (f := f) (d := d + 1) (x := w) (y := 0) (z := 6) (by omega) hw1 hw2 (by decide) (by decide) (by decide) (by decide)
  have c4 := be_m1 (X := X) (a := a) (b := b) (u := u) (e := e) (f := f) (d := d + 1) (x := w) (y := 0) (z := 6) (by omega) hw1 hw2 (by decide) (by decide) (by decide) (by decide)
  by_cases hw : 0 ≤ w ∧ w ≤ 6
  · rw [decide_eq_true hw] at c3 c4
    by_cases hx : 0 ≤ x ∧ x ≤ be_g e 50 2 - 1
    · rw [decide_eq_true hx] at c1 c2
      obtain ⟨h, rfl⟩ := be_0le hx.1
      have w1 := hW.2.1 h (by omega)
      have z1 := (be_HR0 hX (show h < be_nh e by omega)).2.1
      have r0 : am_ro X 200 0 0 = be_i (-1) := rfl
      have r1 : am_ro X 200 0 1 = be_i 0 := rfl
      have r2 : am_ro X 200 0 2 = be_i 0 := rfl
      have r3 : am_ro X 200 0 3 = be_i 0 := rfl
      have r4 : am_ro X 200 0 4 = be_i 1 := rfl
      have r5 : am_ro X 200 0 5 = be_i 2 := rfl
      have r6 : am_ro X 200 0 6 = be_i 3 := rfl
      have hb : ∀ y : Int, -1 ≤ y → y ≤ 6 → am_sem X d 250 [am_I (be_i (y)), am_I (be_i (0)), am_I (be_i (6))] (am_sd a b u e f) = some (some (am_I (be_i (be_b (decide (0 ≤ y))))), (am_sd a b u e f)) := fun y h1 h2 => by
        rw [be_m250 (by omega) (by omega) (by omega) (by decide) (by decide) (by decide) (by decide)]
        refine be_retI (congrArg be_b ?_) _
        rw [Bool.eq_iff_iff, decide_eq_true_iff, decide_eq_true_iff]; omega
      have b0 := hb 0 (by decide) (by decide)
      have b1 := hb 1 (by decide) (by decide)
      have b2 := hb 2 (by decide) (by decide)
      have b3 := hb 3 (by decide) (by decide)
      have b4 := hb 4 (by decide) (by decide)
      have b5 := hb 5 (by decide) (by decide)
      have b6 := hb 6 (by decide) (by decide)
      have bm := hb (-1) (by decide) (by decide)
      rw [show decide ((0 : Int) ≤ 0) = true from rfl] at b0
      rw [show decide ((0 : Int) ≤ 1) = true from rfl] at b1
      rw [show decide ((0 : Int) ≤ 2) = true from rfl] at b2
      rw [show decide ((0 : Int) ≤ 3) = true from rfl] at b3
      rw [show decide ((0 : Int) ≤ 4) = true from rfl] at b4
      rw [show decide ((0 : Int) ≤ 5) = true from rfl] at b5
      rw [show decide ((0 : Int) ≤ 6) = true from rfl] at b6
      rw [show decide ((0 : Int) ≤ -1) = false from rfl] at bm
      have hU : ∀ κ : Int, be_g e 52 h = κ → am_sem X (d + 1) 244 [am_I (be_i (κ)), am_I (be_i (w))] (am_sd a b u e f) = some (some (am_I (be_i (be_b (decide (w = 0 ∨ κ = w ∨ w = 1 ∧ κ = 4 ∨ w = 2 ∧ κ = 5 ∨ w = 3 ∧ κ = 6))))), (am_sd a b u e f)) := by
        intro κ hκ
        rw [am_s244]
        rcases (show κ = 0 ∨ κ = 1 ∨ κ = 2 ∨ κ = 3 ∨ κ = 4 ∨ κ = 5 ∨ κ = 6 by omega) with rfl | rfl | rfl | rfl | rfl | rfl | rfl
        · simp (disch := (first | assumption | omega | exact (be_gB _ _ _).1 | exact (be_gB _ _ _).2)) only [↓reduceIte, be_ofI, ↓be_ofN, ↓be_0, be_add, be_sub, be_mul, be_neg, be_rem, be_bi, be_bl, be_bv, be_br, be_bE0, be_bE1, be_b1E, be_b0E, be_bkb, be_cast, Int.toNat_natCast, Int.reduceToNat, be_lt, be_le, be_eq, be_nt, be_ck, be_nz, be_bk, be_div, not_true_eq_false, not_false_eq_true, if_true, if_false, eq_self, Int.reduceEq, Int.reduceLT, Int.reduceLE, Bool.true_eq_false, Bool.false_eq_true, am_b244_4, am_b244_17, b0, bm, r0, Int.reduceAdd]
          rcases (show w = 0 ∨ w = 1 ∨ w = 2 ∨ w = 3 ∨ w = 4 ∨ w = 5 ∨ w = 6 by omega) with rfl | rfl | rfl | rfl | rfl | rfl | rfl <;> rfl
        · simp (disch := (first | assumption | omega | exact (be_gB _ _ _).1 | exact (be_gB _ _ _).2)) only [↓reduceIte, be_ofI, ↓be_ofN, ↓be_0, be_add, be_sub, be_mul, be_neg, be_rem, be_bi, be_bl, be_bv, be_br, be_bE0, be_bE1, be_b1E, be_b0E, be_bkb, be_cast, Int.toNat_natCast, Int.reduceToNat, be_lt, be_le, be_eq, be_nt, be_ck, be_nz, be_bk, be_div, not_true_eq_false, not_false_eq_true, if_true, if_false, eq_self, Int.reduceEq, Int.reduceLT, Int.reduceLE, Bool.true_eq_false, Bool.false_eq_true, am_b244_4, am_b244_17, b0, b1, bm, r0, r1, Int.reduceAdd]
          rcases (show w = 0 ∨ w = 1 ∨ w = 2 ∨ w = 3 ∨ w = 4 ∨ w = 5 ∨ w = 6 by omega) with rfl | rfl | rfl | rfl | rfl | rfl | rfl <;> rfl
        · simp (disch := (first | assumption | omega | exact (be_gB _ _ _).1 | exact (be_gB _ _ _).2)) only [↓reduceIte, be_ofI, ↓be_ofN, ↓be_0, be_add, be_sub, be_mul, be_neg, be_rem, be_bi, be_bl, be_bv, be_br, be_bE0, be_bE1, be_b1E, be_b0E, be_bkb, be_cast, Int.toNat_natCast, Int.reduceToNat, be_lt, be_le, be_eq, be_nt, be_ck, be_nz, be_bk, be_div, not_true_eq_false, not_false_eq_true, if_true, if_false, eq_self, Int.reduceEq, Int.reduceLT, Int.reduceLE, Bool.true_eq_false, Bool.false_eq_true, am_b244_4, am_b244_17, b0, b2, bm, r0, r2, Int.reduceAdd]
          rcases (show w = 0 ∨ w = 1 ∨ w = 2 ∨ w = 3 ∨ w = 4 ∨ w = 5 ∨ w = 6 by omega) with rfl | rfl | rfl | rfl | rfl | rfl | rfl <;> rfl
        · simp (disch := (first | assumption | omega | exact (be_gB _ _ _).1 | exact (be_gB _ _ _).2)) only [↓reduceIte, be_ofI, ↓be_ofN, ↓be_0, be_add, be_sub, be_mul, be_neg, be_rem, be_bi, be_bl, be_bv, be_br, be_bE0, be_bE1, be_b1E, be_b0E, be_bkb, be_cast, Int.toNat_natCast, Int.reduceToNat, be_lt, be_le, be_eq, be_nt, be_ck, be_nz, be_bk, be_div, not_true_eq_false, not_false_eq_true, if_true, if_false, eq_self, Int.reduceEq, Int.reduceLT, Int.reduceLE, Bool.true_eq_false, Bool.false_eq_true, am_b244_4, am_b244_17, b0, b3, bm, r0, r3, Int.reduceAdd]
          rcases (show w = 0 ∨ w = 1 ∨ w = 2 ∨ w = 3 ∨ w = 4 ∨ w = 5 ∨ w = 6 by omega) with rfl | rfl | rfl | rfl | rfl | rfl | rfl <;> rfl
        · simp (disch := (first | assumption | omega | exact (be_gB _ _ _).1 | exact (be_gB _ _ _).2)) only [↓reduceIte, be_ofI, ↓be_ofN, ↓be_0, be_add, be_sub, be_mul, be_neg, be_rem, be_bi, be_bl, be_bv, be_br, be_bE0, be_bE1, be_b1E, be_b0E, be_bkb, be_cast, Int.toNat_natCast, Int.reduceToNat, be_lt, be_le, be_eq, be_nt, be_ck, be_nz, be_bk, be_div, not_true_eq_false, not_false_eq_true, if_true, if_false, eq_self, Int.reduceEq, Int.reduceLT, Int.reduceLE, Bool.true_eq_false, Bool.false_eq_true, am_b244_4, am_b244_17, b0, b1, b4, bm, r0, r1, r4, Int.reduceAdd]
          rcases (show w = 0 ∨ w = 1 ∨ w = 2 ∨ w = 3 ∨ w = 4 ∨ w = 5 ∨ w = 6 by omega) with rfl | rfl | rfl | rfl | rfl | rfl | rfl <;> rfl
        · simp (disch := (first | assumption | omega | exact (be_gB _ _ _).1 | exact (be_gB _ _ _).2)) only [↓reduceIte, be_ofI, ↓be_ofN, ↓be_0, be_add, be_sub, be_mul, be_neg, be_rem, be_bi, be_bl, be_bv, be_br, be_bE0, be_bE1, be_b1E, be_b0E, be_bkb, be_cast, Int.toNat_natCast, Int.reduceToNat, be_lt, be_le, be_eq, be_nt, be_ck, be_nz, be_bk, be_div, not_true_eq_false, not_false_eq_true, if_true, if_false, eq_self, Int.reduceEq, Int.reduceLT, Int.reduceLE, Bool.true_eq_false, Bool.false_eq_true, am_b244_4, am_b244_17, b0, b2, b5, bm, r0, r2, r5, Int.reduceAdd]
          rcases (show w = 0 ∨ w = 1 ∨ w = 2 ∨ w = 3 ∨ w = 4 ∨ w = 5 ∨ w = 6 by omega) with rfl | rfl | rfl | rfl | rfl | rfl | rfl <;> rfl
        · simp (disch := (first | assumption | omega | exact (be_gB _ _ _).1 | exact (be_gB _ _ _).2)) only [↓reduceIte, be_ofI, ↓be_ofN, ↓be_0, be_add, be_sub, be_mul, be_neg, be_rem, be_bi, be_bl, be_bv, be_br, be_bE0, be_bE1, be_b1E, be_b0E, be_bkb, be_cast, Int.toNat_natCast, Int.reduceToNat, be_lt, be_le, be_eq, be_nt, be_ck, be_nz, be_bk, be_div, not_true_eq_false, not_false_eq_true, if_true, if_false, eq_self, Int.reduceEq, Int.reduceLT, Int.reduceLE, Bool.true_eq_false, Bool.false_eq_true, am_b244_4, am_b244_17, b0, b3, b6, bm, r0, r3, r6, Int.reduceAdd]
          rcases (show w = 0 ∨ w = 1 ∨ w = 2 ∨ w = 3 ∨ w = 4 ∨ w = 5 ∨ w = 6 by omega) with rfl | rfl | rfl | rfl | rfl | rfl | rfl <;> rfl
      have hU := hU _ rfl
      refine be_Cp (v := be_i (if w = 0 ∨ be_g e 52 h = w ∨ w = 1 ∧ be_g e 52 h = 4 ∨ w = 2 ∧ be_g e 52 h = 5 ∨ w = 3 ∧ be_g e 52 h = 6 then be_g e 52 h else -12)) hI ?_ ?_
      · rw [am_s243]
        simp (disch := (first | assumption | omega | exact (be_gB _ _ _).1 | exact (be_gB _ _ _).2)) only [↓reduceIte, be_ofI, ↓be_ofN, ↓be_0, be_add, be_sub, be_mul, be_neg, be_rem, be_bi, be_bl, be_bv, be_br, be_bE0, be_bE1, be_b1E, be_b0E, be_bkb, be_cast, Int.toNat_natCast, Int.reduceToNat, be_lt, be_le, be_eq, be_nt, be_ck, be_nz, be_bk, be_div, not_true_eq_false, not_false_eq_true, if_true, if_false, eq_self, Int.reduceEq, Int.reduceLT, Int.reduceLE, Bool.true_eq_false, Bool.false_eq_true, c1, c3, z1, hU, am_b243_7, am_b243_21, am_b243_45, decide_eq_false_iff_not]
        (repeat' split) <;> first | rfl | omega
      · rw [am_s103]
        simp (maxSteps := 1000000) (disch := (first | assumption | omega | exact (be_gB _ _ _).1 | exact (be_gB _ _ _).2)) only [↓reduceIte, be_ofI, ↓be_ofN, ↓be_0, be_add, be_sub, be_mul, be_neg, be_rem, be_bi, be_bl, be_bv, be_br, be_bE0, be_bE1, be_b1E, be_b0E, be_bkb, be_cast, Int.toNat_natCast, Int.reduceToNat, be_lt, be_le, be_eq, be_nt, be_ck, be_nz, be_bk, be_div, not_true_eq_false, not_false_eq_true, if_true, if_false, eq_self, Int.reduceEq, Int.reduceLT, Int.reduceLE, Bool.true_eq_false, Bool.false_eq_true, c2, c4, he, am_b103_8, am_b103_19]
        (repeat' split) <;> first | rfl | omega
    · rw [decide_eq_false hx] at c1 c2
      refine be_Cp (v := be_i (-11)) hI ?_ ?_
      · rw [am_s243]
        simp (disch := (first | assumption | omega | exact (be_gB _ _ _).1 | exact (be_gB _ _ _).2)) only [↓reduceIte, be_ofI, ↓be_ofN, ↓be_0, be_add, be_sub, be_mul, be_neg, be_rem, be_bi, be_bl, be_bv, be_br, be_bE0, be_bE1, be_b1E, be_b0E, be_bkb, be_cast, Int.toNat_natCast, Int.reduceToNat, be_lt, be_le, be_eq, be_nt, be_ck, be_nz, be_bk, be_div, not_true_eq_false, not_false_eq_true, if_true, if_false, eq_self, Int.reduceEq, Int.reduceLT, Int.reduceLE, Bool.true_eq_false, Bool.false_eq_true, c1, c3, am_b243_7, am_b243_21, am_b243_45]
      · rw [am_s103]
        simp (disch := (first | assumption | omega | exact (be_gB _ _ _).1 | exact (be_gB _ _ _).2)) only [↓reduceIte, be_ofI, ↓be_ofN, ↓be_0, be_add, be_sub, be_mul, be_neg, be_rem, be_bi, be_bl, be_bv, be_br, be_bE0, be_bE1, be_b1E, be_b0E, be_bkb, be_cast, Int.toNat_natCast, Int.reduceToNat, be_lt, be_le, be_eq, be_nt, be_ck, be_nz, be_bk, be_div, not_true_eq_false, not_false_eq_true, if_true, if_false, eq_self, Int.reduceEq, Int.reduceLT, Int.reduceLE, Bool.true_eq_false, Bool.false_eq_true, c2, c4, am_b103_8, am_b103_19]
  · rw [decide_eq_false hw] at c3 c4
    refine be_Cp (v := be_i (-2)) hI ?_ ?_
    · rw [am_s243]
      simp (disch := (first | assumption | omega | exact (be_gB _ _ _).1 | exact (be_gB _ _ _).2)) only [↓reduceIte, be_ofI, ↓be_ofN, ↓be_0, be_add, be_sub, be_mul, be_neg, be_rem, be_bi, be_bl, be_bv, be_br, be_bE0, be_bE1, be_b1E, be_b0E, be_bkb, be_cast, Int.toNat_natCast, Int.reduceToNat, be_lt, be_le, be_eq, be_nt, be_ck, be_nz, be_bk, be_div, not_true_eq_false, not_false_eq_true, if_true, if_false, eq_self, Int.reduceEq, Int.reduceLT, Int.reduceLE, Bool.true_eq_false, Bool.false_eq_true, c3, am_b243_7, am_b243_21, am_b243_45]
    · rw [am_s103]
      simp (disch := (first | assumption | omega | exact (be_gB _ _ _).1 | exact (be_gB _ _ _).2)) only [↓reduceIte, be_ofI, ↓be_ofN, ↓be_0, be_add, be_sub, be_mul, be_neg, be_rem, be_bi, be_bl, be_bv, be_br, be_bE0, be_bE1, be_b1E, be_b0E, be_bkb, be_cast, Int.toNat_natCast, Int.reduceToNat, be_lt, be_le, be_eq, be_nt, be_ck, be_nz, be_bk, be_div, not_true_eq_false, not_false_eq_true, if_true, if_false, eq_self, Int.reduceEq, Int.reduceLT, Int.reduceLE, Bool.true_eq_false, Bool.false_eq_true, c4, am_b103_8, am_b103_19]
theorem be_m189 (hd : 1 ≤ d) {x : Int} (hx1 : -2147483648 ≤ x) (hx2 : x < 2147483648) : am_sem X d 189 [.inr (7, 0), am_I (be_i (x))] (am_sd a b u e f) = some (some (am_I (be_i (be_b (decide (0 ≤ x ∧ x ≤ 5))))), (am_sd a b u e f)) := by
  obtain ⟨d, rfl⟩ : ∃ q, d = q + 1 := ⟨d - 1, by omega⟩
  rw [am_s189]
  simp (disch := (first | assumption | omega | exact (be_gB _ _ _).1 | exact (be_gB _ _ _).2)) only [↓reduceIte, be_ofI, ↓be_ofN, ↓be_0, be_add, be_sub, be_mul, be_neg, be_rem, be_bi, be_bl, be_bv, be_br, be_bE0, be_bE1, be_b1E, be_b0E, be_bkb, be_cast, Int.toNat_natCast, Int.reduceToNat, be_lt, be_le, be_eq, be_nt, be_ck, be_nz, be_bk, be_div]
  (repeat' split) <;> first | rfl | omega | (rw [decide_eq_true (by omega)]; rfl) | (rw [decide_eq_false (by omega)]; rfl)
theorem be_m105 (hd : 2 ≤ d) {x : Int} (hx1 : -2147483648 ≤ x) (hx2 : x < 2147483648) : am_sem X d 105 [.inr (50, 0), am_I (be_i (x))] (am_sd a b u e f) = some (some (am_I (be_i (be_b (decide (0 ≤ x ∧ x ≤ 5))))), (am_sd a b u e f)) := by
  obtain ⟨d, rfl⟩ : ∃ q, d = q + 1 := ⟨d - 1, by omega⟩
  rw [am_s105]
  simp (disch := (first | assumption | omega | exact (be_gB _ _ _).1 | exact (be_gB _ _ _).2)) only [↓reduceIte, be_ofI, ↓be_ofN, ↓be_0, be_add, be_sub, be_mul, be_neg, be_rem, be_bi, be_bl, be_bv, be_br, be_bE0, be_bE1, be_b1E, be_b0E, be_bkb, be_cast, Int.toNat_natCast, Int.reduceToNat, be_lt, be_le, be_eq, be_nt, be_ck, be_nz, be_bk, be_div, be_m1, am_b105_7]
theorem be_m190 (hd : 1 ≤ d) (h6 : be_I6 a b e f) {t : Nat} (ht : t < 6) : am_sem X d 190 [.inr (7, 0), am_I (be_i ((t : Int)))] (am_sd a b u e f) = some (some (am_I (be_i (be_b (decide (be_g e 102 t = -1))))), (am_sd a b u e f)) := by
  obtain ⟨d, rfl⟩ : ∃ q, d = q + 1 := ⟨d - 1, by omega⟩
  obtain ⟨q1, q2, q3, q4, q5, q6, q7, q8⟩ := h6 t ht
  rw [am_s190]
  simp (disch := (first | assumption | omega | exact (be_gB _ _ _).1 | exact (be_gB _ _ _).2)) only [↓reduceIte, be_ofI, ↓be_ofN, ↓be_0, be_add, be_sub, be_mul, be_neg, be_rem, be_bi, be_bl, be_bv, be_br, be_bE0, be_bE1, be_b1E, be_b0E, be_bkb, be_cast, Int.toNat_natCast, Int.reduceToNat, be_lt, be_le, be_eq, be_nt, be_ck, be_nz, be_bk, be_div, q1]
  (repeat' split) <;> first | rfl | omega | (rw [decide_eq_true (by omega)]; rfl) | (rw [decide_eq_false (by omega)]; rfl)
theorem be_m191 (hd : 1 ≤ d) (h6 : be_I6 a b e f) {t : Nat} (ht : t < 6) : am_sem X d 191 [.inr (7, 0), am_I (be_i ((t : Int)))] (am_sd a b u e f) = some (some (am_I (be_i (be_b (decide (be_g e 102 t = 0))))), (am_sd a b u e f)) := by
  obtain ⟨d, rfl⟩ : ∃ q, d = q + 1 := ⟨d - 1, by omega⟩
  obtain ⟨q1, q2, q3, q4, q5, q6, q7, q8⟩ := h6 t ht
  rw [am_s191]
  simp (disch := (first | assumption | omega | exact (be_gB _ _ _).1 | exact (be_gB _ _ _).2)) only [↓reduceIte, be_ofI, ↓be_ofN, ↓be_0, be_add, be_sub, be_mul, be_neg, be_rem, be_bi, be_bl, be_bv, be_br, be_bE0, be_bE1, be_b1E, be_b0E, be_bkb, be_cast, Int.toNat_natCast, Int.reduceToNat, be_lt, be_le, be_eq, be_nt, be_ck, be_nz, be_bk, be_div, q1]
  (repeat' split) <;> first | rfl | omega | (rw [decide_eq_true (by omega)]; rfl) | (rw [decide_eq_false (by omega)]; rfl)
theorem be_m192 (hd : 1 ≤ d) (h6 : be_I6 a b e f) {t : Nat} (ht : t < 6) {x : Int} (hx1 : -2147483648 ≤ x) (hx2 : x < 2147483648) : am_sem X d 192 [.inr (7, 0), am_I (be_i ((t : Int))), am_I (be_i (x))] (am_sd a b u e f) = some (some (am_I (be_i (be_b (decide (0 ≤ x ∧ x < be_g e 103 t))))), (am_sd a b u e f)) := by
  obtain ⟨d, rfl⟩ : ∃ q, d = q + 1 := ⟨d - 1, by omega⟩
  obtain ⟨q1, q2, q3, q4, q5, q6, q7, q8⟩ := h6 t ht
  rw [am_s192]
  simp (disch := (first | assumption | omega | exact (be_gB _ _ _).1 | exact (be_gB _ _ _).2)) only [↓reduceIte, be_ofI, ↓be_ofN, ↓be_0, be_add, be_sub, be_mul, be_neg, be_rem, be_bi, be_bl, be_bv, be_br, be_bE0, be_bE1, be_b1E, be_b0E, be_bkb, be_cast, Int.toNat_natCast, Int.reduceToNat, be_lt, be_le, be_eq, be_nt, be_ck, be_nz, be_bk, be_div, q4]
  (repeat' split) <;> first | rfl | omega | (rw [decide_eq_true (by omega)]; rfl) | (rw [decide_eq_false (by omega)]; rfl)
theorem be_cread (hd : 12 ≤ d) (hI : be_IV a b u e f) {x w : Int} (hx1 : -2147483648 ≤ x) (hx2 : x < 2147483648) (hw1 : -2147483648 ≤ w) (hw2 : w < 2147483648) : be_CJ X d 248 109 [am_I (be_i (x)), am_I (be_i (w))] a b u e f := by
  obtain ⟨d, rfl⟩ : ∃ q, d = q + 1 := ⟨d - 1, by omega⟩
  have he := be_gI e
  have h6 := hI.2.2.2.2.2.1
  have c1 := be_m189 (X := X) (a := a) (b := b) (u := u) (e := e) (f := f) (d := d) (x := x) (by omega) hx1 hx2
  have c2 := be_m105 (X := X) (a := a) (b := b) (u := u) (e := e) (f := f) (d := d) (x := x) (by omega) hx1 hx2
  by_cases hx : 0 ≤ x ∧ x ≤ 5
  · rw [decide_eq_true hx] at c1 c2
    obtain ⟨t, rfl⟩ := be_0le hx.1
    obtain ⟨q1, q2, q3, q4, q5, q6, q7, q8⟩ := h6 t (by omega)
    have c3 := be_m192 (X := X) (a := a) (b := b) (u := u) (e := e) (f := f) (d := d) (t := t) (x := w) (by omega) h6 (by omega) hw1 hw2
    have c4 := be_m1 (X := X) (a := a) (b := b) (u := u) (e := e) (f := f) (d := d) (x := w) (y := 0) (z := be_g e 103 t - 1) (by omega) hw1 hw2 (by decide) (by decide) (by omega) (by omega)
    by_cases hw : 0 ≤ w ∧ w < be_g e 103 t
    · rw [decide_eq_true hw] at c3
      rw [decide_eq_true (by omega)] at c4
      obtain ⟨k, rfl⟩ := be_0le hw.1
      have hk := q8 k hw.2
      have hn : (60 * (t : Int) + (k : Int)).toNat = 60 * t + k := by omega
      refine be_CJp (v := f 104 0 (60 * t + k)) hI ?_ ?_
      · rw [am_s248]
        simp (disch := (first | assumption | omega | exact (be_gB _ _ _).1 | exact (be_gB _ _ _).2)) only [↓reduceIte, be_ofI, ↓be_ofN, ↓be_0, be_add, be_sub, be_mul, be_neg, be_rem, be_bi, be_bl, be_bv, be_br, be_bE0, be_bE1, be_b1E, be_b0E, be_bkb, be_cast, Int.toNat_natCast, Int.reduceToNat, be_lt, be_le, be_eq, be_nt, be_ck, be_nz, be_bk, be_div, not_true_eq_false, not_false_eq_true, if_true, if_false, eq_self, Int.reduceEq, Int.reduceLT, Int.reduceLE, Bool.true_eq_false, Bool.false_eq_true, c1, c3, hk, am_b248_8, am_b248_20]
      · rw [am_s109]
        simp (disch := (first | assumption | omega | exact (be_gB _ _ _).1 | exact (be_gB _ _ _).2)) only [↓reduceIte, be_ofI, ↓be_ofN, ↓be_0, be_add, be_sub, be_mul, be_neg, be_rem, be_bi, be_bl, be_bv, be_br, be_bE0, be_bE1, be_b1E, be_b0E, be_bkb, be_cast, Int.toNat_natCast, Int.reduceToNat, be_lt, be_le, be_eq, be_nt, be_ck, be_nz, be_bk, be_div, not_true_eq_false, not_false_eq_true, if_true, if_false, eq_self, Int.reduceEq, Int.reduceLT, Int.reduceLE, Bool.true_eq_false, Bool.false_eq_true, he, c2, c4, hn, am_b109_5, am_b109_31]
        rw [if_neg (by omega)]
    · rw [decide_eq_false hw] at c3
      rw [decide_eq_false (by omega)] at c4
      refine be_CJp (v := Int64.ofNat 9223372036854775808) hI ?_ ?_
      · rw [am_s248]
        simp (disch := (first | assumption | omega | exact (be_gB _ _ _).1 | exact (be_gB _ _ _).2)) only [↓reduceIte, be_ofI, ↓be_ofN, ↓be_0, be_add, be_sub, be_mul, be_neg, be_rem, be_bi, be_bl, be_bv, be_br, be_bE0, be_bE1, be_b1E, be_b0E, be_bkb, be_cast, Int.toNat_natCast, Int.reduceToNat, be_lt, be_le, be_eq, be_nt, be_ck, be_nz, be_bk, be_div, not_true_eq_false, not_false_eq_true, if_true, if_false, eq_self, Int.reduceEq, Int.reduceLT, Int.reduceLE, Bool.true_eq_false, Bool.false_eq_true, c1, c3, am_b248_8, am_b248_20]
      · rw [am_s109]
        simp (disch := (first | assumption | omega | exact (be_gB _ _ _).1 | exact (be_gB _ _ _).2)) only [↓reduceIte, be_ofI, ↓be_ofN, ↓be_0, be_add, be_sub, be_mul, be_neg, be_rem, be_bi, be_bl, be_bv, be_br, be_bE0, be_bE1, be_b1E, be_b0E, be_bkb, be_cast, Int.toNat_natCast, Int.reduceToNat, be_lt, be_le, be_eq, be_nt, be_ck, be_nz, be_bk, be_div, not_true_eq_false, not_false_eq_true, if_true, if_false, eq_self, Int.reduceEq, Int.reduceLT, Int.reduceLE, Bool.true_eq_false, Bool.false_eq_true, he, c2, c4, am_b109_5, am_b109_31]
        split <;> rfl
  · rw [decide_eq_false hx] at c1 c2
    refine be_CJp (v := Int64.ofNat 9223372036854775808) hI ?_ ?_
    · rw [am_s248]
      simp (disch := (first | assumption | omega | exact (be_gB _ _ _).1 | exact (be_gB _ _ _).2)) only [↓reduceIte, be_ofI, ↓be_ofN, ↓be_0, be_add, be_sub, be_mul, be_neg, be_rem, be_bi, be_bl, be_bv, be_br, be_bE0, be_bE1, be_b1E, be_b0E, be_bkb, be_cast, Int.toNat_natCast, Int.reduceToNat, be_lt, be_le, be_eq, be_nt, be_ck, be_nz, be_bk, be_div, not_true_eq_false, not_false_eq_true, if_true, if_false, eq_self, Int.reduceEq, Int.reduceLT, Int.reduceLE, Bool.true_eq_false, Bool.false_eq_true, c1, am_b248_8, am_b248_20]
    · rw [am_s109]
      simp (disch := (first | assumption | omega | exact (be_gB _ _ _).1 | exact (be_gB _ _ _).2)) only [↓reduceIte, be_ofI, ↓be_ofN, ↓be_0, be_add, be_sub, be_mul, be_neg, be_rem, be_bi, be_bl, be_bv, be_br, be_bE0, be_bE1, be_b1E, be_b0E, be_bkb, be_cast, Int.toNat_natCast, Int.reduceToNat, be_lt, be_le, be_eq, be_nt, be_ck, be_nz, be_bk, be_div, not_true_eq_false, not_false_eq_true, if_true, if_false, eq_self, Int.reduceEq, Int.reduceLT, Int.reduceLE, Bool.true_eq_false, Bool.false_eq_true, c2, am_b109_5, am_b109_31]
theorem be_cjudge (hd : 12 ≤ d) (hI : be_IV a b u e f) {x w : Int} (hx1 : -2147483648 ≤ x) (hx2 : x < 2147483648) (hw1 : -2147483648 ≤ w) (hw2 : w < 2147483648) : be_C X d 238 90 [am_I (be_i (x)), am_I (be_i (w))] a b u e f := by
  obtain ⟨d, rfl⟩ : ∃ q, d = q + 1 := ⟨d - 1, by omega⟩
  have he := be_gI e
  have h6 := hI.2.2.2.2.2.1
  obtain ⟨hW, hW2, hT, hh, hD, -, hX⟩ := hI.1
  obtain ⟨nh, nh2⟩ := be_nhR hW
  have o2 := hX.1.2.1
  have c1 := be_m189 (X := X) (a := a) (b := b) (u := u) (e := e) (f := f) (d := d) (x := x) (by omega) hx1 hx2
  have c2 := be_m105 (X := X) (a := a) (b := b) (u := u) (e := e) (f := f) (d := d) (x := x) (by omega) hx1 hx2
  by_cases hx : 0 ≤ x ∧ x ≤ 5
  · rw [decide_eq_true hx] at c1 c2
    obtain ⟨t, rfl⟩ := be_0le hx.1
    obtain ⟨q1, q2, q3, q4, q5, q6, q7, q8⟩ := h6 t (by omega)
    have c3 := be_m190 (X := X) (a := a) (b := b) (u := u) (e := e) (f := f) (d := d) (t := t) (by omega) h6 (by omega)
    have c4 := be_m191 (X := X) (a := a) (b := b) (u := u) (e := e) (f := f) (d := d) (t := t) (by omega) h6 (by omega)
    by_cases hs : be_g e 102 t ≤ 0
    · have key : ∀ (n k : Nat) (z : Int) (z4 : am_V), k + n = be_nh e → z = (k : Int) → ∃ v : Int, am_fix (am_sem X d) X am_P238 40 [.inr (9, 0), am_I (be_i ((t : Int))), am_I (be_i (w)), am_I (be_i (z)), z4, am_un] [] (am_sd a b u e f) = some (some (am_I (be_i (v))), (am_sd a b u e f)) ∧ am_fix (am_sem X d) X am_P90 24 [.inr (50, 0), am_I (be_i ((t : Int))), am_I (be_i (w)), am_I (be_i (z))] [] (am_sd a b u e f) = some (some (am_I (be_i (v))), (am_sd a b u e f)) := by
        intro n
        induction n with
        | zero =>
          rintro k z z4 hk rfl
          obtain rfl : k = be_nh e := hk
          refine ⟨-5, ?_, ?_⟩
          · rw [am_b238_40]
            simp (disch := (first | assumption | omega | exact (be_gB _ _ _).1 | exact (be_gB _ _ _).2)) only [be_ofI, ↓be_ofN, ↓be_0, o2, be_le]
            rw [if_pos (by omega)]
          · rw [am_b90_24]
            simp (disch := (first | assumption | omega | exact (be_gB _ _ _).1 | exact (be_gB _ _ _).2)) only [be_ofI, ↓be_ofN, ↓be_0, he, be_le]
            rw [if_pos (by omega)]
        | succ n ih =>
          rintro k z z4 hk rfl
          have w1 := hW.2.1 k (by omega)
          by_cases hw0 : w < 0
          · refine ⟨100 + k, ?_, ?_⟩
            · rw [am_b238_40]
              simp (disch := (first | assumption | omega | exact (be_gB _ _ _).1 | exact (be_gB _ _ _).2)) only [be_ofI, ↓be_ofN, ↓be_0, o2, be_le, be_lt, hw0, ↓reduceIte, be_add, be_cast]
              rw [if_neg (by omega)]
            · rw [am_b90_24]
              simp (disch := (first | assumption | omega | exact (be_gB _ _ _).1 | exact (be_gB _ _ _).2)) only [be_ofI, ↓be_ofN, ↓be_0, he, be_le, be_lt, hw0, ↓reduceIte, be_add, be_cast, be_ck]
              rw [if_neg (by omega)]
              split <;> rfl
          · by_cases hl : w + k < be_g e 103 t
            · obtain ⟨j, hj⟩ := be_0le (show 0 ≤ w by omega)
              subst hj
              have hcell := q8 (j + k) (by omega)
              have hn : (60 * (t : Int) + (j : Int) + (k : Int)).toNat = 60 * t + (j + k) := by omega
              have hn2 : ((j : Int) + (k : Int)).toNat = j + k := by omega
              have c5 := be_m135 (X := X) (a := a) (b := b) (u := u) (e := e) (f := f) (d := d) (h := k) (x := k) (by omega) hW (by omega) (be_HR0 hX (by omega))
              obtain ⟨v, g1, g2⟩ := ih (k + 1) ((k : Int) + 1) (am_J (be_l ((j : Int) + k))) (by omega) (by omega)
              by_cases hc : f 104 0 (60 * t + (j + k)) = be_l (be_g e 57 k)
              · refine ⟨v, ?_, ?_⟩
                · rw [am_b238_40]
                  simp (disch := (first | assumption | omega | exact (be_gB _ _ _).1 | exact (be_gB _ _ _).2)) only [↓reduceIte, be_ofI, ↓be_ofN, ↓be_0, be_add, be_sub, be_mul, be_neg, be_rem, be_bi, be_bl, be_bv, be_br, be_bE0, be_bE1, be_b1E, be_b0E, be_bkb, be_cast, Int.toNat_natCast, Int.reduceToNat, be_lt, be_le, be_eq, be_nt, be_ck, be_nz, be_bk, be_div, not_true_eq_false, not_false_eq_true, if_true, if_false, eq_self, Int.reduceEq, Int.reduceLT, Int.reduceLE, Bool.true_eq_false, Bool.false_eq_true, o2, q4, be_il, be_ladd, be_li, be_cmpL, be_cmp0, c5, am_b238_108, hn2, hcell, hc]
                  rw [if_neg (by omega), if_neg (by omega), if_pos (by omega)]
                  exact g1
                · rw [am_b90_24]
                  simp (disch := (first | assumption | omega | exact (be_gB _ _ _).1 | exact (be_gB _ _ _).2)) only [↓reduceIte, be_ofI, ↓be_ofN, ↓be_0, be_add, be_sub, be_mul, be_neg, be_rem, be_bi, be_bl, be_bv, be_br, be_bE0, be_bE1, be_b1E, be_b0E, be_bkb, be_cast, Int.toNat_natCast, Int.reduceToNat, be_lt, be_le, be_eq, be_nt, be_ck, be_nz, be_bk, be_div, not_true_eq_false, not_false_eq_true, if_true, if_false, eq_self, Int.reduceEq, Int.reduceLT, Int.reduceLE, Bool.true_eq_false, Bool.false_eq_true, he, be_il, be_cmp0, hn, hc]
                  rw [if_neg (by omega), if_neg (by omega), if_neg (by omega), if_pos (by omega)]
                  exact g2
              · refine ⟨(k : Int), ?_, ?_⟩
                · rw [am_b238_40]
                  simp (disch := (first | assumption | omega | exact (be_gB _ _ _).1 | exact (be_gB _ _ _).2)) only [↓reduceIte, be_ofI, ↓be_ofN, ↓be_0, be_add, be_sub, be_mul, be_neg, be_rem, be_bi, be_bl, be_bv, be_br, be_bE0, be_bE1, be_b1E, be_b0E, be_bkb, be_cast, Int.toNat_natCast, Int.reduceToNat, be_lt, be_le, be_eq, be_nt, be_ck, be_nz, be_bk, be_div, not_true_eq_false, not_false_eq_true, if_true, if_false, eq_self, Int.reduceEq, Int.reduceLT, Int.reduceLE, Bool.true_eq_false, Bool.false_eq_true, o2, q4, be_il, be_ladd, be_li, be_cmpL, be_cmp0, c5, am_b238_108, hn2, hcell, hc]
                  rw [if_neg (by omega), if_neg (by omega), if_pos (by omega)]
                · rw [am_b90_24]
                  simp (disch := (first | assumption | omega | exact (be_gB _ _ _).1 | exact (be_gB _ _ _).2)) only [↓reduceIte, be_ofI, ↓be_ofN, ↓be_0, be_add, be_sub, be_mul, be_neg, be_rem, be_bi, be_bl, be_bv, be_br, be_bE0, be_bE1, be_b1E, be_b0E, be_bkb, be_cast, Int.toNat_natCast, Int.reduceToNat, be_lt, be_le, be_eq, be_nt, be_ck, be_nz, be_bk, be_div, not_true_eq_false, not_false_eq_true, if_true, if_false, eq_self, Int.reduceEq, Int.reduceLT, Int.reduceLE, Bool.true_eq_false, Bool.false_eq_true, he, be_il, be_cmp0, hn, hc]
                  rw [if_neg (by omega), if_neg (by omega), if_neg (by omega), if_pos (by omega)]
            · refine ⟨100 + k, ?_, ?_⟩
              · rw [am_b238_40]
                simp (disch := (first | assumption | omega | exact (be_gB _ _ _).1 | exact (be_gB _ _ _).2)) only [be_ofI, ↓be_ofN, ↓be_0, o2, q4, be_le, be_lt, ↓reduceIte, be_add, be_cast, be_ntN, be_ck, be_il, be_ladd, be_cmpL]
                rw [if_neg (by omega), if_neg (by omega), if_neg (by omega)]
              · rw [am_b90_24]
                simp (disch := (first | assumption | omega | exact (be_gB _ _ _).1 | exact (be_gB _ _ _).2)) only [be_ofI, ↓be_ofN, ↓be_0, he, be_le, be_lt, ↓reduceIte, be_add, be_sub, be_cast, be_ntN, be_ck]
                rw [if_neg (by omega), if_neg (show ¬ w < 0 from hw0), if_neg (show ¬ w ≤ be_g e 103 t - k - 1 by omega)]
                split <;> rfl
      obtain ⟨v, g1, g2⟩ := key (be_nh e) 0 0 am_un (Nat.zero_add _) rfl
      refine be_Cp (v := be_i v) hI ?_ ?_
      · rw [am_s238, c1, be_bi, am_b238_8]
        simp (disch := (first | assumption | omega | exact (be_gB _ _ _).1 | exact (be_gB _ _ _).2)) only [↓reduceIte, be_ofI, ↓be_ofN, ↓be_0, be_add, be_sub, be_mul, be_neg, be_rem, be_bi, be_bl, be_bv, be_br, be_bE0, be_bE1, be_b1E, be_b0E, be_bkb, be_cast, Int.toNat_natCast, Int.reduceToNat, be_lt, be_le, be_eq, be_nt, be_ck, be_nz, be_bk, be_div, not_true_eq_false, not_false_eq_true, if_true, if_false, eq_self, Int.reduceEq, Int.reduceLT, Int.reduceLE, Bool.true_eq_false, Bool.false_eq_true, c3, c4, am_b238_21, am_b238_32]
        rcases (show be_g e 102 t = -1 ∨ be_g e 102 t = 0 by omega) with h | h
        · rw [h]; exact g1
        · rw [h]; exact g1
      · rw [am_s90, c2, be_bi, am_b90_5]
        simp (disch := (first | assumption | omega | exact (be_gB _ _ _).1 | exact (be_gB _ _ _).2)) only [↓reduceIte, be_ofI, ↓be_ofN, ↓be_0, be_add, be_sub, be_mul, be_neg, be_rem, be_bi, be_bl, be_bv, be_br, be_bE0, be_bE1, be_b1E, be_b0E, be_bkb, be_cast, Int.toNat_natCast, Int.reduceToNat, be_lt, be_le, be_eq, be_nt, be_ck, be_nz, be_bk, be_div, not_true_eq_false, not_false_eq_true, if_true, if_false, eq_self, Int.reduceEq, Int.reduceLT, Int.reduceLE, Bool.true_eq_false, Bool.false_eq_true, he]
        rw [if_pos (by omega)]
        exact g2
    · refine be_Cp (v := be_i (-12)) hI ?_ ?_
      · rw [am_s238, c1, be_bi, am_b238_8]
        rw [decide_eq_false (by omega)] at c3 c4
        simp (disch := (first | assumption | omega | exact (be_gB _ _ _).1 | exact (be_gB _ _ _).2)) only [↓reduceIte, be_ofI, ↓be_ofN, ↓be_0, be_add, be_sub, be_mul, be_neg, be_rem, be_bi, be_bl, be_bv, be_br, be_bE0, be_bE1, be_b1E, be_b0E, be_bkb, be_cast, Int.toNat_natCast, Int.reduceToNat, be_lt, be_le, be_eq, be_nt, be_ck, be_nz, be_bk, be_div, not_true_eq_false, not_false_eq_true, if_true, if_false, eq_self, Int.reduceEq, Int.reduceLT, Int.reduceLE, Bool.true_eq_false, Bool.false_eq_true, c3, c4, am_b238_21, am_b238_32]
      · rw [am_s90, c2, be_bi, am_b90_5]
        simp (disch := (first | assumption | omega | exact (be_gB _ _ _).1 | exact (be_gB _ _ _).2)) only [↓reduceIte, be_ofI, ↓be_ofN, ↓be_0, be_add, be_sub, be_mul, be_neg, be_rem, be_bi, be_bl, be_bv, be_br, be_bE0, be_bE1, be_b1E, be_b0E, be_bkb, be_cast, Int.toNat_natCast, Int.reduceToNat, be_lt, be_le, be_eq, be_nt, be_ck, be_nz, be_bk, be_div, not_true_eq_false, not_false_eq_true, if_true, if_false, eq_self, Int.reduceEq, Int.reduceLT, Int.reduceLE, Bool.true_eq_false, Bool.false_eq_true, he]
        rw [if_neg (by omega)]
  · rw [decide_eq_false hx] at c1 c2
    refine be_Cp (v := be_i (-1)) hI ?_ ?_
    · rw [am_s238]
      simp (disch := (first | assumption | omega | exact (be_gB _ _ _).1 | exact (be_gB _ _ _).2)) only [↓reduceIte, be_ofI, ↓be_ofN, ↓be_0, be_add, be_sub, be_mul, be_neg, be_rem, be_bi, be_bl, be_bv, be_br, be_bE0, be_bE1, be_b1E, be_b0E, be_bkb, be_cast, Int.toNat_natCast, Int.reduceToNat, be_lt, be_le, be_eq, be_nt, be_ck, be_nz, be_bk, be_div, not_true_eq_false, not_false_eq_true, if_true, if_false, eq_self, Int.reduceEq, Int.reduceLT, Int.reduceLE, Bool.true_eq_false, Bool.false_eq_true, c1, am_b238_8]
    · rw [am_s90]
      simp (disch := (first | assumption | omega | exact (be_gB _ _ _).1 | exact (be_gB _ _ _).2)) only [↓reduceIte, be_ofI, ↓be_ofN, ↓be_0, be_add, be_sub, be_mul, be_neg, be_rem, be_bi, be_bl, be_bv, be_br, be_bE0, be_bE1, be_b1E, be_b0E, be_bkb, be_cast, Int.toNat_natCast, Int.reduceToNat, be_lt, be_le, be_eq, be_nt, be_ck, be_nz, be_bk, be_div, not_true_eq_false, not_false_eq_true, if_true, if_false, eq_self, Int.reduceEq, Int.reduceLT, Int.reduceLE, Bool.true_eq_false, Bool.false_eq_true, c2, am_b90_5]
