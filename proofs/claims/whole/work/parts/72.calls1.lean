/-! CALLS, 1: questions that change nothing -/
variable {d : Nat} {X : am_X} {a : Nat → Nat → Nat → Int32} {b : Nat → Nat → Nat → Int64} {u : Nat → Nat} {e : Nat → Nat → Nat → Int32} {f : Nat → Nat → Nat → Int64}
theorem be_0le {x : Int} (h : 0 ≤ x) : ∃ n : Nat, x = (n : Int) := Int.eq_ofNat_of_zero_le h
theorem be_hasR (hd : 1 ≤ d) (hI : be_IV a b u e f) {x : Int} (h1 : -2147483648 ≤ x) (h2 : x < 2147483648) : am_sem X d 138 [.inr (2, 0), am_I (be_i (x))] (am_sd a b u e f) = some (some (am_I (be_i (be_b (decide (0 ≤ x ∧ x ≤ be_g e 50 0 - 1))))), (am_sd a b u e f)) := by
  have := hI.1.1.1
  exact be_m138 hd hI.1.2.2.2.2.2.2.1.1 (by omega) (by omega) h1 h2
theorem be_hasH (hd : 1 ≤ d) (hI : be_IV a b u e f) {x : Int} (h1 : -2147483648 ≤ x) (h2 : x < 2147483648) : am_sem X d 139 [.inr (2, 0), am_I (be_i (x))] (am_sd a b u e f) = some (some (am_I (be_i (be_b (decide (0 ≤ x ∧ x ≤ be_g e 50 2 - 1))))), (am_sd a b u e f)) := by
  have := hI.1.1.1
  exact be_m139 hd hI.1.2.2.2.2.2.2.1.2.1 (by omega) (by omega) h1 h2
theorem be_isR (hd : 2 ≤ d) (hI : be_IV a b u e f) {x : Int} (h1 : -2147483648 ≤ x) (h2 : x < 2147483648) : am_sem X d 5 [.inr (50, 0), am_I (be_i (x))] (am_sd a b u e f) = some (some (am_I (be_i (be_b (decide (0 ≤ x ∧ x ≤ be_g e 50 0 - 1))))), (am_sd a b u e f)) := be_m5 hd h1 h2 hI.1.1.1.1
theorem be_isH (hd : 2 ≤ d) (hI : be_IV a b u e f) {x : Int} (h1 : -2147483648 ≤ x) (h2 : x < 2147483648) : am_sem X d 6 [.inr (50, 0), am_I (be_i (x))] (am_sd a b u e f) = some (some (am_I (be_i (be_b (decide (0 ≤ x ∧ x ≤ be_g e 50 2 - 1))))), (am_sd a b u e f)) := be_m6 hd h1 h2 (by have := hI.1.1.1; omega)
theorem be_cat (hd : 12 ≤ d) (hI : be_IV a b u e f) {x w : Int} (hx1 : -2147483648 ≤ x) (hx2 : x < 2147483648) (hw1 : -2147483648 ≤ w) (hw2 : w < 2147483648) : be_C X d 208 49 [am_I (be_i (x)), am_I (be_i (w))] a b u e f := by
  obtain ⟨d, rfl⟩ : ∃ q, d = q + 1 := ⟨d - 1, by omega⟩
  have he := be_gI e
  obtain ⟨hW, hW2, hT, hh, hD, -, hX⟩ := hI.1
  obtain ⟨nr, nr2⟩ := be_nrR hW
  have hT2 := hT.1
  have hW1 := hW.1
  have c1 := be_hasR (X := X) (a := a) (b := b) (u := u) (e := e) (f := f) (d := d) (by omega) hI hx1 hx2
  have c2 := be_isR (X := X) (a := a) (b := b) (u := u) (e := e) (f := f) (d := d) (by omega) hI hx1 hx2
  by_cases hx : 0 ≤ x ∧ x ≤ be_g e 50 0 - 1
  · rw [decide_eq_true hx] at c1 c2
    obtain ⟨r, rfl⟩ := be_0le hx.1
    obtain ⟨r0, r1, r2⟩ := be_RR0 hX (show r < be_nr e by omega)
    have v1 := be_m149 (X := X) (a := a) (b := b) (u := u) (e := e) (f := f) (d := d) (i := 0) (r := r) (y := be_g e 50 3) (by omega) hW hT2 (by omega) hX.1 (by omega) (by omega)
    have v2 := be_m150 (X := X) (a := a) (b := b) (u := u) (e := e) (f := f) (d := d) (i := 0) (r := r) (y := be_g e 50 3) (by omega) hW hT2 (by omega) hX.1 (by omega) (by omega)
    have v3 := be_m47 (X := X) (a := a) (b := b) (u := u) (e := e) (f := f) (d := d) (r := r) (p := true) (by omega) hW hT2 (by omega) (by omega)
    have v4 := be_m47 (X := X) (a := a) (b := b) (u := u) (e := e) (f := f) (d := d) (r := r) (p := false) (by omega) hW hT2 (by omega) (by omega)
    have e4 := hX.1.2.2.1
    rw [be_bT] at v3
    rw [be_bF] at v4
    refine be_Cp (v := be_i (if w = 0 then be_g e 51 r else if w = 1 then be_b (be_ft e r) else if w = 2 then (be_un e (be_g e 50 3) r true (be_q e).toNat : Int) else if w = 3 then (be_un e (be_g e 50 3) r false (be_q e).toNat : Int) else -1)) hI ?_ ?_
    · rw [am_s208]
      simp (disch := (first | assumption | omega | exact (be_gB _ _ _).1 | exact (be_gB _ _ _).2)) only [be_ofI, ↓be_ofN, ↓be_0, be_add, be_sub, be_mul, be_neg, be_rem, be_bi, be_bl, be_bv, be_br, be_bE0, be_bE1, be_b1E, be_b0E, be_bkb, be_cast, Int.toNat_natCast, Int.reduceToNat, be_lt, be_le, be_eq, be_nt, be_ck, be_nz, be_bk, be_div, not_true_eq_false, not_false_eq_true, if_true, if_false, eq_self, Int.reduceEq, Int.reduceLT, Int.reduceLE, Bool.true_eq_false, Bool.false_eq_true, c1, r1, r2, e4, be_m252, v1, v2, am_b208_8, am_b208_72, am_b208_88, am_b208_104]
      (repeat' split) <;> first | rfl | omega
    · rw [am_s49]
      simp (disch := (first | assumption | omega | exact (be_gB _ _ _).1 | exact (be_gB _ _ _).2)) only [be_ofI, ↓be_ofN, ↓be_0, be_add, be_sub, be_mul, be_neg, be_rem, be_bi, be_bl, be_bv, be_br, be_bE0, be_bE1, be_b1E, be_b0E, be_bkb, be_cast, Int.toNat_natCast, Int.reduceToNat, be_lt, be_le, be_eq, be_nt, be_ck, be_nz, be_bk, be_div, not_true_eq_false, not_false_eq_true, if_true, if_false, eq_self, Int.reduceEq, Int.reduceLT, Int.reduceLE, Bool.true_eq_false, Bool.false_eq_true, he, c2, be_m2, v3, v4, am_b49_5, am_b49_56, am_b49_71, am_b49_78]
      have : be_ft e r = decide (be_g e 50 1 / ((2 ^ r : Nat) : Int) % 2 = 1) := rfl
      rw [this]
      cases decide (be_g e 50 1 / ((2 ^ r : Nat) : Int) % 2 = 1)
      · simp only [Bool.false_eq_true, Bool.true_eq_false, if_true, if_false, be_bT, be_bF]
        (repeat' split) <;> first | rfl | omega
      · simp only [Bool.false_eq_true, Bool.true_eq_false, if_true, if_false, be_bT, be_bF]
        (repeat' split) <;> first | rfl | omega
  · rw [decide_eq_false hx] at c1 c2
    refine be_Cp (v := be_i (-1)) hI ?_ ?_
    · rw [am_s208]
      simp (disch := (first | assumption | omega | exact (be_gB _ _ _).1 | exact (be_gB _ _ _).2)) only [be_ofI, ↓be_ofN, ↓be_0, be_add, be_sub, be_mul, be_neg, be_rem, be_bi, be_bl, be_bv, be_br, be_bE0, be_bE1, be_b1E, be_b0E, be_bkb, be_cast, Int.toNat_natCast, Int.reduceToNat, be_lt, be_le, be_eq, be_nt, be_ck, be_nz, be_bk, be_div, not_true_eq_false, not_false_eq_true, if_true, if_false, eq_self, Int.reduceEq, Int.reduceLT, Int.reduceLE, Bool.true_eq_false, Bool.false_eq_true, c1, am_b208_8, am_b208_72, am_b208_88, am_b208_104]
    · rw [am_s49]
      simp (disch := (first | assumption | omega | exact (be_gB _ _ _).1 | exact (be_gB _ _ _).2)) only [be_ofI, ↓be_ofN, ↓be_0, be_add, be_sub, be_mul, be_neg, be_rem, be_bi, be_bl, be_bv, be_br, be_bE0, be_bE1, be_b1E, be_b0E, be_bkb, be_cast, Int.toNat_natCast, Int.reduceToNat, be_lt, be_le, be_eq, be_nt, be_ck, be_nz, be_bk, be_div, not_true_eq_false, not_false_eq_true, if_true, if_false, eq_self, Int.reduceEq, Int.reduceLT, Int.reduceLE, Bool.true_eq_false, Bool.false_eq_true, c2, am_b49_5, am_b49_56, am_b49_71, am_b49_78]
theorem be_cinside (hd : 12 ≤ d) (hI : be_IV a b u e f) {x t : Int} (hx1 : -2147483648 ≤ x) (hx2 : x < 2147483648) (ht1 : -2147483648 ≤ t) (ht2 : t < 2147483648) : be_C X d 212 45 [am_I (be_i (x)), am_I (be_i (t))] a b u e f := by
  obtain ⟨d, rfl⟩ : ∃ q, d = q + 1 := ⟨d - 1, by omega⟩
  have he := be_gI e
  obtain ⟨hW, hW2, hT, hh, hD, -, hX⟩ := hI.1
  obtain ⟨nr, nr2⟩ := be_nrR hW
  obtain ⟨nh, nh2⟩ := be_nhR hW
  have hT2 := hT.1
  have hW1 := hW.1
  have c1 := be_hasR (X := X) (a := a) (b := b) (u := u) (e := e) (f := f) (d := d) (by omega) hI hx1 hx2
  have c2 := be_isR (X := X) (a := a) (b := b) (u := u) (e := e) (f := f) (d := d) (by omega) hI hx1 hx2
  have c3 := be_m251 (X := X) (a := a) (b := b) (u := u) (e := e) (f := f) (d := d) (x := t) (by omega) ht1 ht2
  have c4 := be_m7 (X := X) (a := a) (b := b) (u := u) (e := e) (f := f) (d := d) (x := t) (by omega) ht1 ht2
  by_cases hx : 0 ≤ x ∧ x ≤ be_g e 50 0 - 1
  · rw [decide_eq_true hx] at c1 c2
    obtain ⟨r, rfl⟩ := be_0le hx.1
    by_cases ht : 0 ≤ t ∧ t ≤ 39
    · rw [decide_eq_true ht] at c3 c4
      obtain ⟨k, rfl⟩ := be_0le ht.1
      have v1 := be_m43 (X := X) (a := a) (b := b) (u := u) (e := e) (f := f) (d := d) (r := r) (t := k) (by omega) hW hT2 (by omega) (by omega) (by omega)
      refine be_Cp (v := be_i (be_iS e (be_g e 50 3) r k (be_nh e) : Int)) hI ?_ ?_
      · rw [am_s212]
        simp (disch := (first | assumption | omega | exact (be_gB _ _ _).1 | exact (be_gB _ _ _).2)) only [be_ofI, ↓be_ofN, ↓be_0, be_add, be_sub, be_mul, be_neg, be_rem, be_bi, be_bl, be_bv, be_br, be_bE0, be_bE1, be_b1E, be_b0E, be_bkb, be_cast, Int.toNat_natCast, Int.reduceToNat, be_lt, be_le, be_eq, be_nt, be_ck, be_nz, be_bk, be_div, not_true_eq_false, not_false_eq_true, if_true, if_false, eq_self, Int.reduceEq, Int.reduceLT, Int.reduceLE, Bool.true_eq_false, Bool.false_eq_true, c1, c3, am_b212_8, am_b212_15]
        obtain ⟨e1, e2, e3, e4, e5, e6, e7⟩ := hX.1
        have key : ∀ (n m : Nat) (w z : Int) (z5 : am_V), m + n = be_nh e → z = (m : Int) → w = (be_iS e (be_g e 50 3) r k m : Int) → am_fix (am_sem X d) X am_P212 25 [.inr (9, 0), am_I (be_i ((r : Int))), am_I (be_i ((k : Int))), am_I (be_i (w)), am_I (be_i (z)), z5] [] (am_sd a b u e f) = some (some (am_I (be_i ((be_iS e (be_g e 50 3) r k (be_nh e) : Int)))), (am_sd a b u e f)) := by
          intro n
          induction n with
          | zero =>
            rintro m w z z5 hm rfl rfl
            obtain rfl : m = be_nh e := hm
            rw [am_b212_25]
            simp (disch := (first | assumption | omega | exact (be_gB _ _ _).1 | exact (be_gB _ _ _).2)) only [be_ofI, ↓be_ofN, ↓be_0, be_add, be_sub, be_mul, be_neg, be_rem, be_bi, be_bl, be_bv, be_br, be_bE0, be_bE1, be_b1E, be_b0E, be_bkb, be_cast, Int.toNat_natCast, Int.reduceToNat, be_lt, be_le, be_eq, be_nt, be_ck, be_nz, be_bk, be_div, e2]
            rw [if_pos (by omega)]
          | succ n ih =>
            rintro m w z z5 hm rfl rfl
            rw [am_b212_25]
            have q1 := hW.2.1 m (by omega)
            have hHR := be_HR0 hX (h := m) (by omega)
            have hv := be_m145 (X := X) (a := a) (b := b) (u := u) (e := e) (f := f) (d := d) (i := 0) (h := m) (x := m) (y := be_g e 50 3) (by omega) hW (by omega) hHR e5 (by omega) (by omega)
            have h6 := hHR.2.2.2.2.2.2.1
            have hb6 : -5 ≤ (if be_g e 57 m = 4 then -5 else be_g e 57 m) ∧ (if be_g e 57 m = 4 then -5 else be_g e 57 m) ≤ 4 := by split <;> omega
            have hlt : ((be_iS e (be_g e 50 3) r k m : Nat) : Int) < ((2 ^ m : Nat) : Int) := by exact_mod_cast be_bs_lt _ m
            simp (disch := (first | assumption | omega | exact (be_gB _ _ _).1 | exact (be_gB _ _ _).2)) only [be_ofI, ↓be_ofN, ↓be_0, be_add, be_sub, be_mul, be_neg, be_rem, be_bi, be_bl, be_bv, be_br, be_bE0, be_bE1, be_b1E, be_b0E, be_bkb, be_cast, Int.toNat_natCast, Int.reduceToNat, be_lt, be_le, be_eq, be_nt, be_ck, be_nz, be_bk, be_div, e2, e3, h6, be_r57, hv, be_m253, am_b212_8, am_b212_15, am_b212_74, am_b212_78, be_31, be_shl, be_or]
            rw [if_neg (by omega)]
            have hs : be_iS e (be_g e 50 3) r k (m + 1) = be_iS e (be_g e 50 3) r k m + (bif decide (be_g e 57 m = r) && be_in e (be_g e 50 3) m k then 2 ^ m else 0) := rfl
            split
            · rename_i hc
              refine ih (m + 1) _ _ _ (by omega) (by omega) ?_
              rw [hs, decide_eq_false hc, Bool.false_and]; rfl
            · rename_i hc
              have hc := Decidable.not_not.mp hc
              split
              · rename_i hp
                refine ih (m + 1) _ _ _ (by omega) (by omega) ?_
                rw [hs, decide_eq_true hc, hp]; rfl
              · rename_i hp
                refine ih (m + 1) _ _ _ (by omega) (by omega) ?_
                rw [hs, decide_eq_true hc, eq_true_of_ne_false hp]; rfl
        exact key (be_nh e) 0 _ _ _ (Nat.zero_add _) rfl rfl
      · rw [am_s45]
        simp (disch := (first | assumption | omega | exact (be_gB _ _ _).1 | exact (be_gB _ _ _).2)) only [be_ofI, ↓be_ofN, ↓be_0, be_add, be_sub, be_mul, be_neg, be_rem, be_bi, be_bl, be_bv, be_br, be_bE0, be_bE1, be_b1E, be_b0E, be_bkb, be_cast, Int.toNat_natCast, Int.reduceToNat, be_lt, be_le, be_eq, be_nt, be_ck, be_nz, be_bk, be_div, not_true_eq_false, not_false_eq_true, if_true, if_false, eq_self, Int.reduceEq, Int.reduceLT, Int.reduceLE, Bool.true_eq_false, Bool.false_eq_true, c2, c4, v1, am_b45_5, am_b45_13, am_b45_22]
    · rw [decide_eq_false ht] at c3 c4
      refine be_Cp (v := be_i (-1)) hI ?_ ?_
      · rw [am_s212]
        simp (disch := (first | assumption | omega | exact (be_gB _ _ _).1 | exact (be_gB _ _ _).2)) only [be_ofI, ↓be_ofN, ↓be_0, be_add, be_sub, be_mul, be_neg, be_rem, be_bi, be_bl, be_bv, be_br, be_bE0, be_bE1, be_b1E, be_b0E, be_bkb, be_cast, Int.toNat_natCast, Int.reduceToNat, be_lt, be_le, be_eq, be_nt, be_ck, be_nz, be_bk, be_div, not_true_eq_false, not_false_eq_true, if_true, if_false, eq_self, Int.reduceEq, Int.reduceLT, Int.reduceLE, Bool.true_eq_false, Bool.false_eq_true, c1, c3, am_b212_8, am_b212_15]
      · rw [am_s45]
        simp (disch := (first | assumption | omega | exact (be_gB _ _ _).1 | exact (be_gB _ _ _).2)) only [be_ofI, ↓be_ofN, ↓be_0, be_add, be_sub, be_mul, be_neg, be_rem, be_bi, be_bl, be_bv, be_br, be_bE0, be_bE1, be_b1E, be_b0E, be_bkb, be_cast, Int.toNat_natCast, Int.reduceToNat, be_lt, be_le, be_eq, be_nt, be_ck, be_nz, be_bk, be_div, not_true_eq_false, not_false_eq_true, if_true, if_false, eq_self, Int.reduceEq, Int.reduceLT, Int.reduceLE, Bool.true_eq_false, Bool.false_eq_true, c2, c4, am_b45_5, am_b45_13, am_b45_22]
  · rw [decide_eq_false hx] at c1 c2
    refine be_Cp (v := be_i (-1)) hI ?_ ?_
    · rw [am_s212]
      simp (disch := (first | assumption | omega | exact (be_gB _ _ _).1 | exact (be_gB _ _ _).2)) only [be_ofI, ↓be_ofN, ↓be_0, be_add, be_sub, be_mul, be_neg, be_rem, be_bi, be_bl, be_bv, be_br, be_bE0, be_bE1, be_b1E, be_b0E, be_bkb, be_cast, Int.toNat_natCast, Int.reduceToNat, be_lt, be_le, be_eq, be_nt, be_ck, be_nz, be_bk, be_div, not_true_eq_false, not_false_eq_true, if_true, if_false, eq_self, Int.reduceEq, Int.reduceLT, Int.reduceLE, Bool.true_eq_false, Bool.false_eq_true, c1, am_b212_8]
    · rw [am_s45]
      simp (disch := (first | assumption | omega | exact (be_gB _ _ _).1 | exact (be_gB _ _ _).2)) only [be_ofI, ↓be_ofN, ↓be_0, be_add, be_sub, be_mul, be_neg, be_rem, be_bi, be_bl, be_bv, be_br, be_bE0, be_bE1, be_b1E, be_b0E, be_bkb, be_cast, Int.toNat_natCast, Int.reduceToNat, be_lt, be_le, be_eq, be_nt, be_ck, be_nz, be_bk, be_div, not_true_eq_false, not_false_eq_true, if_true, if_false, eq_self, Int.reduceEq, Int.reduceLT, Int.reduceLE, Bool.true_eq_false, Bool.false_eq_true, c2, am_b45_5, am_b45_13, am_b45_22]
theorem be_cheld (hd : 12 ≤ d) (hI : be_IV a b u e f) {x t : Int} (hx1 : -2147483648 ≤ x) (hx2 : x < 2147483648) (ht1 : -2147483648 ≤ t) (ht2 : t < 2147483648) : be_C X d 213 46 [am_I (be_i (x)), am_I (be_i (t))] a b u e f := by
  obtain ⟨d, rfl⟩ : ∃ q, d = q + 1 := ⟨d - 1, by omega⟩
  have he := be_gI e
  obtain ⟨hW, hW2, hT, hh, hD, -, hX⟩ := hI.1
  obtain ⟨nr, nr2⟩ := be_nrR hW
  obtain ⟨nh, nh2⟩ := be_nhR hW
  have hT2 := hT.1
  have hW1 := hW.1
  have c1 := be_hasR (X := X) (a := a) (b := b) (u := u) (e := e) (f := f) (d := d) (by omega) hI hx1 hx2
  have c2 := be_isR (X := X) (a := a) (b := b) (u := u) (e := e) (f := f) (d := d) (by omega) hI hx1 hx2
  have c3 := be_m251 (X := X) (a := a) (b := b) (u := u) (e := e) (f := f) (d := d) (x := t) (by omega) ht1 ht2
  have c4 := be_m7 (X := X) (a := a) (b := b) (u := u) (e := e) (f := f) (d := d) (x := t) (by omega) ht1 ht2
  by_cases hx : 0 ≤ x ∧ x ≤ be_g e 50 0 - 1
  · rw [decide_eq_true hx] at c1 c2
    obtain ⟨r, rfl⟩ := be_0le hx.1
    by_cases ht : 0 ≤ t ∧ t ≤ 39
    · rw [decide_eq_true ht] at c3 c4
      obtain ⟨k, rfl⟩ := be_0le ht.1
      have v1 := be_m44 (X := X) (a := a) (b := b) (u := u) (e := e) (f := f) (d := d) (r := r) (t := k) (by omega) hW hT2 (by omega) (by omega) (by omega)
      refine be_Cp (v := be_i (be_hS e (be_g e 50 3) r k (be_nh e) : Int)) hI ?_ ?_
      · rw [am_s213]
        simp (disch := (first | assumption | omega | exact (be_gB _ _ _).1 | exact (be_gB _ _ _).2)) only [be_ofI, ↓be_ofN, ↓be_0, be_add, be_sub, be_mul, be_neg, be_rem, be_bi, be_bl, be_bv, be_br, be_bE0, be_bE1, be_b1E, be_b0E, be_bkb, be_cast, Int.toNat_natCast, Int.reduceToNat, be_lt, be_le, be_eq, be_nt, be_ck, be_nz, be_bk, be_div, not_true_eq_false, not_false_eq_true, if_true, if_false, eq_self, Int.reduceEq, Int.reduceLT, Int.reduceLE, Bool.true_eq_false, Bool.false_eq_true, c1, c3, am_b213_8, am_b213_15]
        obtain ⟨e1, e2, e3, e4, e5, e6, e7⟩ := hX.1
        have key : ∀ (n m : Nat) (w z : Int) (z5 : am_V), m + n = be_nh e → z = (m : Int) → w = (be_hS e (be_g e 50 3) r k m : Int) → am_fix (am_sem X d) X am_P213 25 [.inr (9, 0), am_I (be_i ((r : Int))), am_I (be_i ((k : Int))), am_I (be_i (w)), am_I (be_i (z)), z5] [] (am_sd a b u e f) = some (some (am_I (be_i ((be_hS e (be_g e 50 3) r k (be_nh e) : Int)))), (am_sd a b u e f)) := by
          intro n
          induction n with
          | zero =>
            rintro m w z z5 hm rfl rfl
            obtain rfl : m = be_nh e := hm
            rw [am_b213_25]
            simp (disch := (first | assumption | omega | exact (be_gB _ _ _).1 | exact (be_gB _ _ _).2)) only [be_ofI, ↓be_ofN, ↓be_0, be_add, be_sub, be_mul, be_neg, be_rem, be_bi, be_bl, be_bv, be_br, be_bE0, be_bE1, be_b1E, be_b0E, be_bkb, be_cast, Int.toNat_natCast, Int.reduceToNat, be_lt, be_le, be_eq, be_nt, be_ck, be_nz, be_bk, be_div, e2]
            rw [if_pos (by omega)]
          | succ n ih =>
            rintro m w z z5 hm rfl rfl
            rw [am_b213_25]
            have q1 := hW.2.1 m (by omega)
            have hHR := be_HR0 hX (h := m) (by omega)
            have hv := be_m144 (X := X) (a := a) (b := b) (u := u) (e := e) (f := f) (d := d) (i := 0) (h := m) (x := m) (y := be_g e 50 3) (by omega) hW hT2 (by omega) hHR e5 e4 (by omega) (by omega)
            have h6 := hHR.2.2.2.2.2.2.1
            have hb6 : -5 ≤ (if be_g e 57 m = 4 then -5 else be_g e 57 m) ∧ (if be_g e 57 m = 4 then -5 else be_g e 57 m) ≤ 4 := by split <;> omega
            have hlt : ((be_hS e (be_g e 50 3) r k m : Nat) : Int) < ((2 ^ m : Nat) : Int) := by exact_mod_cast be_bs_lt _ m
            simp (disch := (first | assumption | omega | exact (be_gB _ _ _).1 | exact (be_gB _ _ _).2)) only [be_ofI, ↓be_ofN, ↓be_0, be_add, be_sub, be_mul, be_neg, be_rem, be_bi, be_bl, be_bv, be_br, be_bE0, be_bE1, be_b1E, be_b0E, be_bkb, be_cast, Int.toNat_natCast, Int.reduceToNat, be_lt, be_le, be_eq, be_nt, be_ck, be_nz, be_bk, be_div, e2, e3, h6, be_r57, hv, be_m253, am_b213_8, am_b213_15, am_b213_74, am_b213_78, be_31, be_shl, be_or]
            rw [if_neg (by omega)]
            have hs : be_hS e (be_g e 50 3) r k (m + 1) = be_hS e (be_g e 50 3) r k m + (bif decide (be_g e 57 m = r) && be_held e (be_g e 50 3) m k then 2 ^ m else 0) := rfl
            split
            · rename_i hc
              refine ih (m + 1) _ _ _ (by omega) (by omega) ?_
              rw [hs, decide_eq_false hc, Bool.false_and]; rfl
            · rename_i hc
              have hc := Decidable.not_not.mp hc
              split
              · rename_i hp
                refine ih (m + 1) _ _ _ (by omega) (by omega) ?_
                rw [hs, decide_eq_true hc, hp]; rfl
              · rename_i hp
                refine ih (m + 1) _ _ _ (by omega) (by omega) ?_
                rw [hs, decide_eq_true hc, eq_true_of_ne_false hp]; rfl
        exact key (be_nh e) 0 _ _ _ (Nat.zero_add _) rfl rfl
      · rw [am_s46]
        simp (disch := (first | assumption | omega | exact (be_gB _ _ _).1 | exact (be_gB _ _ _).2)) only [be_ofI, ↓be_ofN, ↓be_0, be_add, be_sub, be_mul, be_neg, be_rem, be_bi, be_bl, be_bv, be_br, be_bE0, be_bE1, be_b1E, be_b0E, be_bkb, be_cast, Int.toNat_natCast, Int.reduceToNat, be_lt, be_le, be_eq, be_nt, be_ck, be_nz, be_bk, be_div, not_true_eq_false, not_false_eq_true, if_true, if_false, eq_self, Int.reduceEq, Int.reduceLT, Int.reduceLE, Bool.true_eq_false, Bool.false_eq_true, c2, c4, v1, am_b46_5, am_b46_13, am_b46_22]
    · rw [decide_eq_false ht] at c3 c4
      refine be_Cp (v := be_i (-1)) hI ?_ ?_
      · rw [am_s213]
        simp (disch := (first | assumption | omega | exact (be_gB _ _ _).1 | exact (be_gB _ _ _).2)) only [be_ofI, ↓be_ofN, ↓be_0, be_add, be_sub, be_mul, be_neg, be_rem, be_bi, be_bl, be_bv, be_br, be_bE0, be_bE1, be_b1E, be_b0E, be_bkb, be_cast, Int.toNat_natCast, Int.reduceToNat, be_lt, be_le, be_eq, be_nt, be_ck, be_nz, be_bk, be_div, not_true_eq_false, not_false_eq_true, if_true, if_false, eq_self, Int.reduceEq, Int.reduceLT, Int.reduceLE, Bool.true_eq_false, Bool.false_eq_true, c1, c3, am_b213_8, am_b213_15]
      · rw [am_s46]
        simp (disch := (first | assumption | omega | exact (be_gB _ _ _).1 | exact (be_gB _ _ _).2)) only [be_ofI, ↓be_ofN, ↓be_0, be_add, be_sub, be_mul, be_neg, be_rem, be_bi, be_bl, be_bv, be_br, be_bE0, be_bE1, be_b1E, be_b0E, be_bkb, be_cast, Int.toNat_natCast, Int.reduceToNat, be_lt, be_le, be_eq, be_nt, be_ck, be_nz, be_bk, be_div, not_true_eq_false, not_false_eq_true, if_true, if_false, eq_self, Int.reduceEq, Int.reduceLT, Int.reduceLE, Bool.true_eq_false, Bool.false_eq_true, c2, c4, am_b46_5, am_b46_13, am_b46_22]
  · rw [decide_eq_false hx] at c1 c2
    refine be_Cp (v := be_i (-1)) hI ?_ ?_
    · rw [am_s213]
      simp (disch := (first | assumption | omega | exact (be_gB _ _ _).1 | exact (be_gB _ _ _).2)) only [be_ofI, ↓be_ofN, ↓be_0, be_add, be_sub, be_mul, be_neg, be_rem, be_bi, be_bl, be_bv, be_br, be_bE0, be_bE1, be_b1E, be_b0E, be_bkb, be_cast, Int.toNat_natCast, Int.reduceToNat, be_lt, be_le, be_eq, be_nt, be_ck, be_nz, be_bk, be_div, not_true_eq_false, not_false_eq_true, if_true, if_false, eq_self, Int.reduceEq, Int.reduceLT, Int.reduceLE, Bool.true_eq_false, Bool.false_eq_true, c1, am_b213_8]
    · rw [am_s46]
      simp (disch := (first | assumption | omega | exact (be_gB _ _ _).1 | exact (be_gB _ _ _).2)) only [be_ofI, ↓be_ofN, ↓be_0, be_add, be_sub, be_mul, be_neg, be_rem, be_bi, be_bl, be_bv, be_br, be_bE0, be_bE1, be_b1E, be_b0E, be_bkb, be_cast, Int.toNat_natCast, Int.reduceToNat, be_lt, be_le, be_eq, be_nt, be_ck, be_nz, be_bk, be_div, not_true_eq_false, not_false_eq_true, if_true, if_false, eq_self, Int.reduceEq, Int.reduceLT, Int.reduceLE, Bool.true_eq_false, Bool.false_eq_true, c2, am_b46_5, am_b46_13, am_b46_22]
theorem be_cwaste (hd : 12 ≤ d) (hI : be_IV a b u e f) {x : Int} (hx1 : -2147483648 ≤ x) (hx2 : x < 2147483648) : be_C X d 218 58 [am_I (be_i (x))] a b u e f := by
  obtain ⟨d, rfl⟩ : ∃ q, d = q + 1 := ⟨d - 1, by omega⟩
  obtain ⟨hW, hW2, hT, hh, hD, -, hX⟩ := hI.1
  have hT2 := hT.1
  have c1 := be_m250 (X := X) (a := a) (b := b) (u := u) (e := e) (f := f) (d := d) (x := x) (y := 0) (z := 30) (by omega) hx1 hx2 (by decide) (by decide) (by decide) (by decide)
  have c2 := be_m1 (X := X) (a := a) (b := b) (u := u) (e := e) (f := f) (d := d) (x := x) (y := 0) (z := 30) (by omega) hx1 hx2 (by decide) (by decide) (by decide) (by decide)
  by_cases hx : 0 ≤ x ∧ x ≤ 30
  · rw [decide_eq_true hx] at c1 c2
    obtain ⟨n, rfl⟩ := be_0le hx.1
    have v1 := be_m153 (X := X) (a := a) (b := b) (u := u) (e := e) (f := f) (d := d) (i := 0) (N := n) (by omega) hW hT2 (by omega) hX.1 (by omega)
    have v2 := be_m57 (X := X) (a := a) (b := b) (u := u) (e := e) (f := f) (d := d) (N := n) (by omega) hW hT2 (by omega) (by omega)
    refine be_Cp (v := be_i (be_ws e (be_g e 50 3) n : Int)) hI ?_ ?_
    · rw [am_s218]
      simp (disch := (first | assumption | omega | exact (be_gB _ _ _).1 | exact (be_gB _ _ _).2)) only [be_ofI, ↓be_ofN, ↓be_0, be_add, be_sub, be_mul, be_neg, be_rem, be_bi, be_bl, be_bv, be_br, be_bE0, be_bE1, be_b1E, be_b0E, be_bkb, be_cast, Int.toNat_natCast, Int.reduceToNat, be_lt, be_le, be_eq, be_nt, be_ck, be_nz, be_bk, be_div, not_true_eq_false, not_false_eq_true, if_true, if_false, eq_self, Int.reduceEq, Int.reduceLT, Int.reduceLE, Bool.true_eq_false, Bool.false_eq_true, c1, v1, am_b218_7, am_b218_18]
    · rw [am_s58]
      simp (disch := (first | assumption | omega | exact (be_gB _ _ _).1 | exact (be_gB _ _ _).2)) only [be_ofI, ↓be_ofN, ↓be_0, be_add, be_sub, be_mul, be_neg, be_rem, be_bi, be_bl, be_bv, be_br, be_bE0, be_bE1, be_b1E, be_b0E, be_bkb, be_cast, Int.toNat_natCast, Int.reduceToNat, be_lt, be_le, be_eq, be_nt, be_ck, be_nz, be_bk, be_div, not_true_eq_false, not_false_eq_true, if_true, if_false, eq_self, Int.reduceEq, Int.reduceLT, Int.reduceLE, Bool.true_eq_false, Bool.false_eq_true, c2, v2, am_b58_8, am_b58_16]
  · rw [decide_eq_false hx] at c1 c2
    refine be_Cp (v := be_i (-2)) hI ?_ ?_
    · rw [am_s218]
      simp (disch := (first | assumption | omega | exact (be_gB _ _ _).1 | exact (be_gB _ _ _).2)) only [be_ofI, ↓be_ofN, ↓be_0, be_add, be_sub, be_mul, be_neg, be_rem, be_bi, be_bl, be_bv, be_br, be_bE0, be_bE1, be_b1E, be_b0E, be_bkb, be_cast, Int.toNat_natCast, Int.reduceToNat, be_lt, be_le, be_eq, be_nt, be_ck, be_nz, be_bk, be_div, not_true_eq_false, not_false_eq_true, if_true, if_false, eq_self, Int.reduceEq, Int.reduceLT, Int.reduceLE, Bool.true_eq_false, Bool.false_eq_true, c1, am_b218_7, am_b218_18]
    · rw [am_s58]
      simp (disch := (first | assumption | omega | exact (be_gB _ _ _).1 | exact (be_gB _ _ _).2)) only [be_ofI, ↓be_ofN, ↓be_0, be_add, be_sub, be_mul, be_neg, be_rem, be_bi, be_bl, be_bv, be_br, be_bE0, be_bE1, be_b1E, be_b0E, be_bkb, be_cast, Int.toNat_natCast, Int.reduceToNat, be_lt, be_le, be_eq, be_nt, be_ck, be_nz, be_bk, be_div, not_true_eq_false, not_false_eq_true, if_true, if_false, eq_self, Int.reduceEq, Int.reduceLT, Int.reduceLE, Bool.true_eq_false, Bool.false_eq_true, c2, am_b58_8, am_b58_16]
