/-! CALLS, 11: shift -/
variable {d : Nat} {X : am_X} {a : Nat → Nat → Nat → Int32} {b : Nat → Nat → Nat → Int64} {u : Nat → Nat} {e : Nat → Nat → Nat → Int32} {f : Nat → Nat → Nat → Int64}
theorem be_w2v {α : Type} (e : Nat → Nat → Nat → α) (c i : Nat) (G : Nat → α) (c' i' j : Nat) : am_w2 e c i G c' i' j = if c' = c ∧ i' = i then G j else e c' i' j := by
  by_cases h1 : c' = c
  · subst h1
    by_cases h2 : i' = i
    · subst h2; rw [be_r2e, if_pos ⟨rfl, rfl⟩]
    · have hb : Nat.beq i' i = false := by rw [← Bool.not_eq_true]; intro q; exact h2 (Nat.eq_of_beq_eq_true q)
      rw [if_neg (fun h => h2 h.2)]
      unfold am_w2 am_u
      simp [hb, Nat.beq_refl]
  · rw [be_r2n h1, if_neg (fun h => h1 h.1)]
theorem be_m193 (hd : 1 ≤ d) (h6 : be_I6 a b e f) {t : Nat} (ht : t < 6) {x y : Int} (hx1 : -2147483648 ≤ x) (hx2 : x < 2147483648) (hy1 : -2147483648 ≤ y) (hy2 : y < 2147483648) : am_sem X d 193 [.inr (7, 0), am_I (be_i ((t : Int))), am_I (be_i (x)), am_I (be_i (y))] (am_sd a b u e f) = some (some (am_I (be_i (be_b (decide (0 ≤ x ∧ 0 ≤ y ∧ x + y ≤ be_g e 103 t))))), (am_sd a b u e f)) := by
  obtain ⟨d, rfl⟩ : ∃ q, d = q + 1 := ⟨d - 1, by omega⟩
  obtain ⟨q1, q2, q3, q4, q5, q6, q7, q8⟩ := h6 t ht
  rw [am_s193]
  simp (disch := (first | assumption | omega | exact (be_gB _ _ _).1 | exact (be_gB _ _ _).2)) only [↓reduceIte, be_ofI, ↓be_ofN, ↓be_0, be_add, be_sub, be_mul, be_neg, be_rem, be_bi, be_bl, be_bv, be_br, be_bE0, be_bE1, be_b1E, be_b0E, be_bkb, be_cast, Int.toNat_natCast, Int.reduceToNat, be_lt, be_le, be_eq, be_nt, be_ck, be_nz, be_bk, be_div, q4, be_il, be_ladd, be_cmpG]
  (repeat' split) <;> first | rfl | omega | (rw [decide_eq_true (by omega)]; rfl) | (rw [decide_eq_false (by omega)]; rfl)
theorem be_m110L1 {s p q n t : Nat} (hs : s < 6) (hp : p + n ≤ 60) : ∀ (m k : Nat) (z : Int) (f1 : Nat → Nat → Nat → Int64), k + m = n → z = (k : Int) → (∀ j, f1 104 0 j = f 104 0 j) → (∀ j, j < k → f1 105 0 j = f 104 0 (60 * s + p + j)) →
    ∃ f', am_fix (am_sem X d) X am_P110 104 [.inr (50, 0), am_I (be_i ((s : Int))), am_I (be_i ((p : Int))), am_I (be_i ((t : Int))), am_I (be_i ((q : Int))), am_I (be_i ((n : Int))), am_I (be_i (z))] [] (am_sd a b u e f1) = am_fix (am_sem X d) X am_P110 141 [.inr (50, 0), am_I (be_i ((s : Int))), am_I (be_i ((p : Int))), am_I (be_i ((t : Int))), am_I (be_i ((q : Int))), am_I (be_i ((n : Int))), am_I (be_i (0))] [] (am_sd a b u e f') ∧ (∀ j, f' 104 0 j = f 104 0 j) ∧ (∀ j, j < n → f' 105 0 j = f 104 0 (60 * s + p + j)) := by
  intro m
  induction m with
  | zero =>
    rintro k z f1 hk rfl h1 h2
    obtain rfl : k = n := hk
    refine ⟨f1, ?_, h1, h2⟩
    rw [am_b110_104]
    simp (disch := (first | assumption | omega | exact (be_gB _ _ _).1 | exact (be_gB _ _ _).2)) only [↓reduceIte, be_ofI, ↓be_ofN, ↓be_0, be_add, be_sub, be_mul, be_neg, be_rem, be_bi, be_bl, be_bv, be_br, be_bE0, be_bE1, be_b1E, be_b0E, be_bkb, be_cast, Int.toNat_natCast, Int.reduceToNat, be_lt, be_le, be_eq, be_nt, be_ck, be_nz, be_bk, be_div]
    rw [if_pos (by omega)]
  | succ m ih =>
    rintro k z f1 hk rfl h1 h2
    have hn : (60 * (s : Int) + (p : Int) + (k : Int)).toNat = 60 * s + p + k := by omega
    obtain ⟨f', g1, g2, g3⟩ := ih (k + 1) ((k : Int) + 1) (am_w3 f1 105 0 k (f1 104 0 (60 * s + p + k))) (by omega) (by omega) (fun j => (be_w3n _ _ _ _ _ _ _ _ (by omega)).trans (h1 j)) (fun j hj => by
      by_cases hjk : j = k
      · subst hjk; rw [be_w3s, h1]
      · rw [be_w3n _ _ _ _ _ _ _ _ (by omega)]; exact h2 j (by omega))
    refine ⟨f', ?_, g2, g3⟩
    rw [am_b110_104]
    simp (disch := (first | assumption | omega | exact (be_gB _ _ _).1 | exact (be_gB _ _ _).2)) only [↓reduceIte, be_ofI, ↓be_ofN, ↓be_0, be_add, be_sub, be_mul, be_neg, be_rem, be_bi, be_bl, be_bv, be_br, be_bE0, be_bE1, be_b1E, be_b0E, be_bkb, be_cast, Int.toNat_natCast, Int.reduceToNat, be_lt, be_le, be_eq, be_nt, be_ck, be_nz, be_bk, be_div, hn]
    rw [if_neg (by omega)]
    exact g1
theorem be_m110L2 {s p q n t : Nat} (ht : t < 6) (hq : q + n ≤ 60) {H : Nat → Int64} : ∀ (m k : Nat) (z : Int) (f1 : Nat → Nat → Nat → Int64), k + m = n → z = (k : Int) → (∀ j, j < n → f1 105 0 j = H j) →
    ∃ f', am_fix (am_sem X d) X am_P110 141 [.inr (50, 0), am_I (be_i ((s : Int))), am_I (be_i ((p : Int))), am_I (be_i ((t : Int))), am_I (be_i ((q : Int))), am_I (be_i ((n : Int))), am_I (be_i (z))] [] (am_sd a b u e f1) = some (some (am_I (be_i (n : Int))), am_sd a b u e f') ∧ ∀ j, f' 104 0 j = if 60 * t + q + k ≤ j ∧ j < 60 * t + q + n then H (j - (60 * t + q)) else f1 104 0 j := by
  intro m
  induction m with
  | zero =>
    rintro k z f1 hk rfl h1
    obtain rfl : k = n := hk
    refine ⟨f1, ?_, fun j => (if_neg (by omega)).symm⟩
    rw [am_b110_141]
    simp (disch := (first | assumption | omega | exact (be_gB _ _ _).1 | exact (be_gB _ _ _).2)) only [↓reduceIte, be_ofI, ↓be_ofN, ↓be_0, be_add, be_sub, be_mul, be_neg, be_rem, be_bi, be_bl, be_bv, be_br, be_bE0, be_bE1, be_b1E, be_b0E, be_bkb, be_cast, Int.toNat_natCast, Int.reduceToNat, be_lt, be_le, be_eq, be_nt, be_ck, be_nz, be_bk, be_div]
    rw [if_pos (by omega)]
  | succ m ih =>
    rintro k z f1 hk rfl h1
    have hn : (60 * (t : Int) + (q : Int) + (k : Int)).toNat = 60 * t + q + k := by omega
    obtain ⟨f', g1, g2⟩ := ih (k + 1) ((k : Int) + 1) (am_w3 f1 104 0 (60 * t + q + k) (f1 105 0 k)) (by omega) (by omega) (fun j hj => (be_w3n _ _ _ _ _ _ _ _ (by omega)).trans (h1 j hj))
    refine ⟨f', ?_, fun j => ?_⟩
    · rw [am_b110_141]
      simp (disch := (first | assumption | omega | exact (be_gB _ _ _).1 | exact (be_gB _ _ _).2)) only [↓reduceIte, be_ofI, ↓be_ofN, ↓be_0, be_add, be_sub, be_mul, be_neg, be_rem, be_bi, be_bl, be_bv, be_br, be_bE0, be_bE1, be_b1E, be_b0E, be_bkb, be_cast, Int.toNat_natCast, Int.reduceToNat, be_lt, be_le, be_eq, be_nt, be_ck, be_nz, be_bk, be_div, hn]
      rw [if_neg (by omega)]
      exact g1
    · rw [g2 j]
      by_cases c1 : 60 * t + q + (k + 1) ≤ j ∧ j < 60 * t + q + n
      · rw [if_pos c1, if_pos (by omega)]
      · rw [if_neg c1]
        by_cases c2 : j = 60 * t + q + k
        · subst c2
          rw [be_w3s, if_pos (by omega), h1 k (by omega), show 60 * t + q + k - (60 * t + q) = k by omega]
        · rw [be_w3n _ _ _ _ _ _ _ _ (by omega), if_neg (by omega)]
theorem be_m110F (hd : 3 ≤ d) {s t : Nat} {x2 x4 x5 : Int} (hs : s < 6) (ht : t < 6) (g0 : ¬ be_g e 102 s < 0) (g1 : 0 ≤ be_g e 102 t) (hst : be_g e 102 s = be_g e 102 t) (q1 : 0 ≤ be_g e 103 s) (q2 : be_g e 103 s ≤ 60) (r1 : 0 ≤ be_g e 103 t) (r2 : be_g e 103 t ≤ 60) (hb1 : -2147483648 ≤ x2) (hb2 : x2 < 2147483648) (hd1 : -2147483648 ≤ x4) (hd2 : x4 < 2147483648) (he1 : -2147483648 ≤ x5) (he2 : x5 < 2147483648)
    (h : ¬ ((0 ≤ x2 ∧ 0 ≤ x5 ∧ x2 + x5 ≤ be_g e 103 s) ∧ 0 ≤ x4 ∧ 0 ≤ x5 ∧ x4 + x5 ≤ be_g e 103 t)) : am_sem X d 110 [.inr (50, 0), am_I (be_i ((s : Int))), am_I (be_i (x2)), am_I (be_i ((t : Int))), am_I (be_i (x4)), am_I (be_i (x5))] (am_sd a b u e f) = some (some (am_I (be_i (-13))), (am_sd a b u e f)) := by
  obtain ⟨d, rfl⟩ : ∃ q, d = q + 1 := ⟨d - 1, by omega⟩
  have he := be_gI e
  have c2 := be_m105 (X := X) (a := a) (b := b) (u := u) (e := e) (f := f) (d := d) (x := (s : Int)) (by omega) (by omega) (by omega)
  have c4 := be_m105 (X := X) (a := a) (b := b) (u := u) (e := e) (f := f) (d := d) (x := (t : Int)) (by omega) (by omega) (by omega)
  rw [decide_eq_true (by omega)] at c2 c4
  rw [hst] at g0
  rw [am_s110]
  by_cases w1 : x5 < 0
  · simp (disch := (first | assumption | omega | exact (be_gB _ _ _).1 | exact (be_gB _ _ _).2)) only [↓reduceIte, be_ofI, ↓be_ofN, ↓be_0, be_add, be_sub, be_mul, be_neg, be_rem, be_bi, be_bl, be_bv, be_br, be_bE0, be_bE1, be_b1E, be_b0E, be_bkb, be_cast, Int.toNat_natCast, Int.reduceToNat, be_lt, be_le, be_eq, be_nt, be_ck, be_nz, be_bk, be_div, not_true_eq_false, not_false_eq_true, if_true, if_false, eq_self, Int.reduceEq, Int.reduceLT, Int.reduceLE, Bool.true_eq_false, Bool.false_eq_true, he, c2, c4, g0, g1, hst, w1, am_b110_5, am_b110_13]
  by_cases w2 : x2 < 0
  · simp (disch := (first | assumption | omega | exact (be_gB _ _ _).1 | exact (be_gB _ _ _).2)) only [↓reduceIte, be_ofI, ↓be_ofN, ↓be_0, be_add, be_sub, be_mul, be_neg, be_rem, be_bi, be_bl, be_bv, be_br, be_bE0, be_bE1, be_b1E, be_b0E, be_bkb, be_cast, Int.toNat_natCast, Int.reduceToNat, be_lt, be_le, be_eq, be_nt, be_ck, be_nz, be_bk, be_div, not_true_eq_false, not_false_eq_true, if_true, if_false, eq_self, Int.reduceEq, Int.reduceLT, Int.reduceLE, Bool.true_eq_false, Bool.false_eq_true, he, c2, c4, g0, g1, hst, w1, w2, am_b110_5, am_b110_13]
  by_cases w3 : x4 < 0
  · simp (disch := (first | assumption | omega | exact (be_gB _ _ _).1 | exact (be_gB _ _ _).2)) only [↓reduceIte, be_ofI, ↓be_ofN, ↓be_0, be_add, be_sub, be_mul, be_neg, be_rem, be_bi, be_bl, be_bv, be_br, be_bE0, be_bE1, be_b1E, be_b0E, be_bkb, be_cast, Int.toNat_natCast, Int.reduceToNat, be_lt, be_le, be_eq, be_nt, be_ck, be_nz, be_bk, be_div, not_true_eq_false, not_false_eq_true, if_true, if_false, eq_self, Int.reduceEq, Int.reduceLT, Int.reduceLE, Bool.true_eq_false, Bool.false_eq_true, he, c2, c4, g0, g1, hst, w1, w2, w3, am_b110_5, am_b110_13]
  by_cases w4 : be_g e 103 s - x5 < x2
  · simp (disch := (first | assumption | omega | exact (be_gB _ _ _).1 | exact (be_gB _ _ _).2)) only [↓reduceIte, be_ofI, ↓be_ofN, ↓be_0, be_add, be_sub, be_mul, be_neg, be_rem, be_bi, be_bl, be_bv, be_br, be_bE0, be_bE1, be_b1E, be_b0E, be_bkb, be_cast, Int.toNat_natCast, Int.reduceToNat, be_lt, be_le, be_eq, be_nt, be_ck, be_nz, be_bk, be_div, not_true_eq_false, not_false_eq_true, if_true, if_false, eq_self, Int.reduceEq, Int.reduceLT, Int.reduceLE, Bool.true_eq_false, Bool.false_eq_true, he, c2, c4, g0, g1, hst, w1, w2, w3, w4, am_b110_5, am_b110_13]
  have w5 : ¬ x4 ≤ be_g e 103 t - x5 := by omega
  simp (disch := (first | assumption | omega | exact (be_gB _ _ _).1 | exact (be_gB _ _ _).2)) only [↓reduceIte, be_ofI, ↓be_ofN, ↓be_0, be_add, be_sub, be_mul, be_neg, be_rem, be_bi, be_bl, be_bv, be_br, be_bE0, be_bE1, be_b1E, be_b0E, be_bkb, be_cast, Int.toNat_natCast, Int.reduceToNat, be_lt, be_le, be_eq, be_nt, be_ck, be_nz, be_bk, be_div, not_true_eq_false, not_false_eq_true, if_true, if_false, eq_self, Int.reduceEq, Int.reduceLT, Int.reduceLE, Bool.true_eq_false, Bool.false_eq_true, he, c2, c4, g0, g1, hst, w1, w2, w3, w4, w5, am_b110_5, am_b110_13]
theorem be_cshift (hd : 12 ≤ d) (hI : be_IV a b u e f) {x1 x2 x3 x4 x5 : Int} (ha1 : -2147483648 ≤ x1) (ha2 : x1 < 2147483648) (hb1 : -2147483648 ≤ x2) (hb2 : x2 < 2147483648) (hc1 : -2147483648 ≤ x3) (hc2 : x3 < 2147483648) (hd1 : -2147483648 ≤ x4) (hd2 : x4 < 2147483648) (he1 : -2147483648 ≤ x5) (he2 : x5 < 2147483648) : be_C X d 249 110 [am_I (be_i (x1)), am_I (be_i (x2)), am_I (be_i (x3)), am_I (be_i (x4)), am_I (be_i (x5))] a b u e f := by
  obtain ⟨d, rfl⟩ : ∃ q, d = q + 1 := ⟨d - 1, by omega⟩
  have he := be_gI e
  have h6 := hI.2.2.2.2.2.1
  have c1 := be_m189 (X := X) (a := a) (b := b) (u := u) (e := e) (f := f) (d := d) (x := x1) (by omega) ha1 ha2
  have c2 := fun b' => be_m105 (X := X) (a := a) (b := b') (u := u) (e := e) (f := f) (d := d) (x := x1) (by omega) ha1 ha2
  have c3 := be_m189 (X := X) (a := a) (b := b) (u := u) (e := e) (f := f) (d := d) (x := x3) (by omega) hc1 hc2
  have c4 := fun b' => be_m105 (X := X) (a := a) (b := b') (u := u) (e := e) (f := f) (d := d) (x := x3) (by omega) hc1 hc2
  by_cases hx : 0 ≤ x1 ∧ x1 ≤ 5
  · rw [decide_eq_true hx] at c1 c2
    obtain ⟨s, rfl⟩ := be_0le hx.1
    by_cases hy : 0 ≤ x3 ∧ x3 ≤ 5
    · rw [decide_eq_true hy] at c3 c4
      obtain ⟨t, rfl⟩ := be_0le hy.1
      obtain ⟨q1, q2, q3, q4, q5, q6, q7, q8⟩ := h6 s (by omega)
      obtain ⟨r1, r2, r3, r4, r5, r6, r7, r8⟩ := h6 t (by omega)
      have c5 := be_m190 (X := X) (a := a) (b := b) (u := u) (e := e) (f := f) (d := d) (t := s) (by omega) h6 (by omega)
      have c6 := be_m190 (X := X) (a := a) (b := b) (u := u) (e := e) (f := f) (d := d) (t := t) (by omega) h6 (by omega)
      by_cases hs : be_g e 102 s = -1
      · rw [decide_eq_true hs] at c5
        refine be_Cp (v := be_i (-11)) hI ?_ ?_
        · rw [am_s249]
          simp (disch := (first | assumption | omega | exact (be_gB _ _ _).1 | exact (be_gB _ _ _).2)) only [↓reduceIte, be_ofI, ↓be_ofN, ↓be_0, be_add, be_sub, be_mul, be_neg, be_rem, be_bi, be_bl, be_bv, be_br, be_bE0, be_bE1, be_b1E, be_b0E, be_bkb, be_cast, Int.toNat_natCast, Int.reduceToNat, be_lt, be_le, be_eq, be_nt, be_ck, be_nz, be_bk, be_div, not_true_eq_false, not_false_eq_true, if_true, if_false, eq_self, Int.reduceEq, Int.reduceLT, Int.reduceLE, Bool.true_eq_false, Bool.false_eq_true, c1, c3, c5, am_b249_8, am_b249_19, am_b249_32]
        · rw [am_s110]
          simp (disch := (first | assumption | omega | exact (be_gB _ _ _).1 | exact (be_gB _ _ _).2)) only [↓reduceIte, be_ofI, ↓be_ofN, ↓be_0, be_add, be_sub, be_mul, be_neg, be_rem, be_bi, be_bl, be_bv, be_br, be_bE0, be_bE1, be_b1E, be_b0E, be_bkb, be_cast, Int.toNat_natCast, Int.reduceToNat, be_lt, be_le, be_eq, be_nt, be_ck, be_nz, be_bk, be_div, not_true_eq_false, not_false_eq_true, if_true, if_false, eq_self, Int.reduceEq, Int.reduceLT, Int.reduceLE, Bool.true_eq_false, Bool.false_eq_true, he, c2, c4, hs, am_b110_5, am_b110_13]
      · rw [decide_eq_false hs] at c5
        have g0 : ¬ be_g e 102 s < 0 := by omega
        by_cases ht : be_g e 102 t = -1
        · rw [decide_eq_true ht] at c6
          refine be_Cp (v := be_i (-11)) hI ?_ ?_
          · rw [am_s249]
            simp (disch := (first | assumption | omega | exact (be_gB _ _ _).1 | exact (be_gB _ _ _).2)) only [↓reduceIte, be_ofI, ↓be_ofN, ↓be_0, be_add, be_sub, be_mul, be_neg, be_rem, be_bi, be_bl, be_bv, be_br, be_bE0, be_bE1, be_b1E, be_b0E, be_bkb, be_cast, Int.toNat_natCast, Int.reduceToNat, be_lt, be_le, be_eq, be_nt, be_ck, be_nz, be_bk, be_div, not_true_eq_false, not_false_eq_true, if_true, if_false, eq_self, Int.reduceEq, Int.reduceLT, Int.reduceLE, Bool.true_eq_false, Bool.false_eq_true, c1, c3, c5, c6, am_b249_8, am_b249_19, am_b249_32, am_b249_43]
          · rw [am_s110]
            simp (disch := (first | assumption | omega | exact (be_gB _ _ _).1 | exact (be_gB _ _ _).2)) only [↓reduceIte, be_ofI, ↓be_ofN, ↓be_0, be_add, be_sub, be_mul, be_neg, be_rem, be_bi, be_bl, be_bv, be_br, be_bE0, be_bE1, be_b1E, be_b0E, be_bkb, be_cast, Int.toNat_natCast, Int.reduceToNat, be_lt, be_le, be_eq, be_nt, be_ck, be_nz, be_bk, be_div, not_true_eq_false, not_false_eq_true, if_true, if_false, eq_self, Int.reduceEq, Int.reduceLT, Int.reduceLE, Bool.true_eq_false, Bool.false_eq_true, he, c2, c4, g0, ht, am_b110_5, am_b110_13]
        · rw [decide_eq_false ht] at c6
          have g1 : 0 ≤ be_g e 102 t := by omega
          by_cases hst : be_g e 102 s = be_g e 102 t
          · have c7 := be_m193 (X := X) (a := a) (b := b) (u := u) (e := e) (f := f) (d := d) (t := s) (x := x2) (y := x5) (by omega) h6 (by omega) hb1 hb2 he1 he2
            have c8 := be_m193 (X := X) (a := a) (b := b) (u := u) (e := e) (f := f) (d := d) (t := t) (x := x4) (y := x5) (by omega) h6 (by omega) hd1 hd2 he1 he2
            by_cases k1 : 0 ≤ x2 ∧ 0 ≤ x5 ∧ x2 + x5 ≤ be_g e 103 s
            · rw [decide_eq_true k1] at c7
              by_cases k2 : 0 ≤ x4 ∧ 0 ≤ x5 ∧ x4 + x5 ≤ be_g e 103 t
              · rw [decide_eq_true k2] at c8
                obtain ⟨p, rfl⟩ := be_0le k1.1
                obtain ⟨q, rfl⟩ := be_0le k2.1
                obtain ⟨n, rfl⟩ := be_0le k1.2.1
                obtain ⟨f1, m1, m2, m3⟩ := be_m110L1 (X := X) (a := a) (b := am_w2 b 21 t (va_cpy (b 21 s) (b 21 t) p q n)) (u := u) (e := e) (f := f) (d := d) (s := s) (p := p) (q := q) (n := n) (t := t) (by omega) (by omega) n 0 0 f (by omega) rfl (fun _ => rfl) (fun j hj => by omega)
                obtain ⟨f', n1, n2⟩ := be_m110L2 (X := X) (a := a) (b := am_w2 b 21 t (va_cpy (b 21 s) (b 21 t) p q n)) (u := u) (e := e) (d := d) (s := s) (p := p) (q := q) (n := n) (t := t) (by omega) (by omega) (H := fun j => f 104 0 (60 * s + p + j)) n 0 0 f1 (by omega) rfl m3
                refine be_Ct (v := be_i (n : Int)) (a' := a) (b' := am_w2 b 21 t (va_cpy (b 21 s) (b 21 t) p q n)) (e' := e) (f' := f') hI ?_ ?_ (fun _ _ _ _ _ => rfl) (fun _ _ _ _ => rfl) (fun r => be_r2n (by decide)) ?_
                · rw [am_s249]
                  simp (disch := (first | assumption | omega | exact (be_gB _ _ _).1 | exact (be_gB _ _ _).2)) only [↓reduceIte, be_ofI, ↓be_ofN, ↓be_0, be_add, be_sub, be_mul, be_neg, be_rem, be_bi, be_bl, be_bv, be_br, be_bE0, be_bE1, be_b1E, be_b0E, be_bkb, be_cast, Int.toNat_natCast, Int.reduceToNat, be_lt, be_le, be_eq, be_nt, be_ck, be_nz, be_bk, be_div, not_true_eq_false, not_false_eq_true, if_true, if_false, eq_self, Int.reduceEq, Int.reduceLT, Int.reduceLE, Bool.true_eq_false, Bool.false_eq_true, c1, c3, c5, c6, c7, c8, q1, r1, hst, am_b249_8, am_b249_19, am_b249_32, am_b249_43, am_b249_84, am_b249_99]
                  rw [if_neg (by omega)]
                · rw [am_s110]
                  have w1 : ¬ (n : Int) < 0 := by omega
                  have w2 : ¬ (p : Int) < 0 := by omega
                  have w3 : ¬ (q : Int) < 0 := by omega
                  have w4 : ¬ be_g e 103 s - (n : Int) < (p : Int) := by omega
                  have w5 : (q : Int) ≤ be_g e 103 t - (n : Int) := by omega
                  rw [hst] at g0
                  simp (disch := (first | assumption | omega | exact (be_gB _ _ _).1 | exact (be_gB _ _ _).2)) only [↓reduceIte, be_ofI, ↓be_ofN, ↓be_0, be_add, be_sub, be_mul, be_neg, be_rem, be_bi, be_bl, be_bv, be_br, be_bE0, be_bE1, be_b1E, be_b0E, be_bkb, be_cast, Int.toNat_natCast, Int.reduceToNat, be_lt, be_le, be_eq, be_nt, be_ck, be_nz, be_bk, be_div, not_true_eq_false, not_false_eq_true, if_true, if_false, eq_self, Int.reduceEq, Int.reduceLT, Int.reduceLE, Bool.true_eq_false, Bool.false_eq_true, he, c2, c4, g0, g1, hst, w1, w2, w3, w4, w5, am_b110_5, am_b110_13]
                  exact m1.trans n1
                · intro j hj
                  obtain ⟨y1, y2, y3, y4, y5, y6, y7, y8⟩ := h6 j hj
                  refine ⟨y1, y2, y3, y4, y5, y6, y7, fun k hk => ?_⟩
                  rw [be_w2v, n2, m2]
                  by_cases hjt : j = t
                  · subst hjt
                    rw [if_pos ⟨rfl, rfl⟩]
                    unfold va_cpy
                    by_cases hkq : q ≤ k ∧ k < q + n
                    · rw [if_pos hkq, if_pos (by omega), q8 _ (by omega)]
                      show _ = f 104 0 (60 * s + p + (60 * j + k - (60 * j + q)))
                      rw [show 60 * s + p + (60 * j + k - (60 * j + q)) = 60 * s + (p + (k - q)) by omega]
                    · rw [if_neg hkq, if_neg (by omega)]
                      exact y8 k hk
                  · rw [if_neg (fun h => hjt h.2), if_neg (by omega)]
                    exact y8 k hk
              · rw [decide_eq_false k2] at c8
                refine be_Cp (v := be_i (-13)) hI ?_ ?_
                · rw [am_s249]
                  simp (disch := (first | assumption | omega | exact (be_gB _ _ _).1 | exact (be_gB _ _ _).2)) only [↓reduceIte, be_ofI, ↓be_ofN, ↓be_0, be_add, be_sub, be_mul, be_neg, be_rem, be_bi, be_bl, be_bv, be_br, be_bE0, be_bE1, be_b1E, be_b0E, be_bkb, be_cast, Int.toNat_natCast, Int.reduceToNat, be_lt, be_le, be_eq, be_nt, be_ck, be_nz, be_bk, be_div, not_true_eq_false, not_false_eq_true, if_true, if_false, eq_self, Int.reduceEq, Int.reduceLT, Int.reduceLE, Bool.true_eq_false, Bool.false_eq_true, c1, c3, c5, c6, c7, c8, q1, r1, hst, am_b249_8, am_b249_19, am_b249_32, am_b249_43, am_b249_84, am_b249_99]
                · exact be_m110F (d := d + 1) (by omega) (by omega) (by omega) g0 g1 hst q5 q6 r5 r6 hb1 hb2 hd1 hd2 he1 he2 (fun h => k2 h.2)
            · rw [decide_eq_false k1] at c7
              refine be_Cp (v := be_i (-13)) hI ?_ ?_
              · rw [am_s249]
                simp (disch := (first | assumption | omega | exact (be_gB _ _ _).1 | exact (be_gB _ _ _).2)) only [↓reduceIte, be_ofI, ↓be_ofN, ↓be_0, be_add, be_sub, be_mul, be_neg, be_rem, be_bi, be_bl, be_bv, be_br, be_bE0, be_bE1, be_b1E, be_b0E, be_bkb, be_cast, Int.toNat_natCast, Int.reduceToNat, be_lt, be_le, be_eq, be_nt, be_ck, be_nz, be_bk, be_div, not_true_eq_false, not_false_eq_true, if_true, if_false, eq_self, Int.reduceEq, Int.reduceLT, Int.reduceLE, Bool.true_eq_false, Bool.false_eq_true, c1, c3, c5, c6, c7, q1, r1, hst, am_b249_8, am_b249_19, am_b249_32, am_b249_43, am_b249_84]
              · exact be_m110F (d := d + 1) (by omega) (by omega) (by omega) g0 g1 hst q5 q6 r5 r6 hb1 hb2 hd1 hd2 he1 he2 (fun h => k1 h.1)
          · refine be_Cp (v := be_i (-12)) hI ?_ ?_
            · rw [am_s249]
              simp (disch := (first | assumption | omega | exact (be_gB _ _ _).1 | exact (be_gB _ _ _).2)) only [↓reduceIte, be_ofI, ↓be_ofN, ↓be_0, be_add, be_sub, be_mul, be_neg, be_rem, be_bi, be_bl, be_bv, be_br, be_bE0, be_bE1, be_b1E, be_b0E, be_bkb, be_cast, Int.toNat_natCast, Int.reduceToNat, be_lt, be_le, be_eq, be_nt, be_ck, be_nz, be_bk, be_div, not_true_eq_false, not_false_eq_true, if_true, if_false, eq_self, Int.reduceEq, Int.reduceLT, Int.reduceLE, Bool.true_eq_false, Bool.false_eq_true, c1, c3, c5, c6, q1, r1, hst, am_b249_8, am_b249_19, am_b249_32, am_b249_43]
            · rw [am_s110]
              simp (disch := (first | assumption | omega | exact (be_gB _ _ _).1 | exact (be_gB _ _ _).2)) only [↓reduceIte, be_ofI, ↓be_ofN, ↓be_0, be_add, be_sub, be_mul, be_neg, be_rem, be_bi, be_bl, be_bv, be_br, be_bE0, be_bE1, be_b1E, be_b0E, be_bkb, be_cast, Int.toNat_natCast, Int.reduceToNat, be_lt, be_le, be_eq, be_nt, be_ck, be_nz, be_bk, be_div, not_true_eq_false, not_false_eq_true, if_true, if_false, eq_self, Int.reduceEq, Int.reduceLT, Int.reduceLE, Bool.true_eq_false, Bool.false_eq_true, he, c2, c4, g0, g1, hst, am_b110_5, am_b110_13]
    · rw [decide_eq_false hy] at c3 c4
      refine be_Cp (v := be_i (-1)) hI ?_ ?_
      · rw [am_s249]
        simp (disch := (first | assumption | omega | exact (be_gB _ _ _).1 | exact (be_gB _ _ _).2)) only [↓reduceIte, be_ofI, ↓be_ofN, ↓be_0, be_add, be_sub, be_mul, be_neg, be_rem, be_bi, be_bl, be_bv, be_br, be_bE0, be_bE1, be_b1E, be_b0E, be_bkb, be_cast, Int.toNat_natCast, Int.reduceToNat, be_lt, be_le, be_eq, be_nt, be_ck, be_nz, be_bk, be_div, not_true_eq_false, not_false_eq_true, if_true, if_false, eq_self, Int.reduceEq, Int.reduceLT, Int.reduceLE, Bool.true_eq_false, Bool.false_eq_true, c1, c3, am_b249_8, am_b249_19]
      · rw [am_s110]
        simp (disch := (first | assumption | omega | exact (be_gB _ _ _).1 | exact (be_gB _ _ _).2)) only [↓reduceIte, be_ofI, ↓be_ofN, ↓be_0, be_add, be_sub, be_mul, be_neg, be_rem, be_bi, be_bl, be_bv, be_br, be_bE0, be_bE1, be_b1E, be_b0E, be_bkb, be_cast, Int.toNat_natCast, Int.reduceToNat, be_lt, be_le, be_eq, be_nt, be_ck, be_nz, be_bk, be_div, not_true_eq_false, not_false_eq_true, if_true, if_false, eq_self, Int.reduceEq, Int.reduceLT, Int.reduceLE, Bool.true_eq_false, Bool.false_eq_true, c2, c4, am_b110_5, am_b110_13]
  · rw [decide_eq_false hx] at c1 c2
    refine be_Cp (v := be_i (-1)) hI ?_ ?_
    · rw [am_s249]
      simp (disch := (first | assumption | omega | exact (be_gB _ _ _).1 | exact (be_gB _ _ _).2)) only [↓reduceIte, be_ofI, ↓be_ofN, ↓be_0, be_add, be_sub, be_mul, be_neg, be_rem, be_bi, be_bl, be_bv, be_br, be_bE0, be_bE1, be_b1E, be_b0E, be_bkb, be_cast, Int.toNat_natCast, Int.reduceToNat, be_lt, be_le, be_eq, be_nt, be_ck, be_nz, be_bk, be_div, not_true_eq_false, not_false_eq_true, if_true, if_false, eq_self, Int.reduceEq, Int.reduceLT, Int.reduceLE, Bool.true_eq_false, Bool.false_eq_true, c1, am_b249_8]
    · rw [am_s110]
      simp (disch := (first | assumption | omega | exact (be_gB _ _ _).1 | exact (be_gB _ _ _).2)) only [↓reduceIte, be_ofI, ↓be_ofN, ↓be_0, be_add, be_sub, be_mul, be_neg, be_rem, be_bi, be_bl, be_bv, be_br, be_bE0, be_bE1, be_b1E, be_b0E, be_bkb, be_cast, Int.toNat_natCast, Int.reduceToNat, be_lt, be_le, be_eq, be_nt, be_ck, be_nz, be_bk, be_div, not_true_eq_false, not_false_eq_true, if_true, if_false, eq_self, Int.reduceEq, Int.reduceLT, Int.reduceLE, Bool.true_eq_false, Bool.false_eq_true, c2, am_b110_5]
