/-! THE REFERENCE, 1: what hours and rooms are asked -/
variable {d : Nat} {X : am_X} {a : Nat → Nat → Nat → Int32} {b : Nat → Nat → Nat → Int64} {u : Nat → Nat} {e : Nat → Nat → Nat → Int32} {f : Nat → Nat → Nat → Int64}
theorem be_m1 (hd : 1 ≤ d) {x y z : Int} (h1 : -2147483648 ≤ x) (h2 : x < 2147483648) (h3 : -2147483648 ≤ y) (h4 : y < 2147483648) (h5 : -2147483648 ≤ z) (h6 : z < 2147483648) :
    am_sem X d 1 [.inr (50, 0), am_I (be_i (x)), am_I (be_i (y)), am_I (be_i (z))] (am_sd a b u e f) = some (some (am_I (be_i (be_b (decide (y ≤ x ∧ x ≤ z))))), (am_sd a b u e f)) := by
  obtain ⟨d, rfl⟩ : ∃ q, d = q + 1 := ⟨d - 1, by omega⟩
  rw [am_s1]
  simp (disch := (first | assumption | omega | exact (be_gB _ _ _).1 | exact (be_gB _ _ _).2)) only [be_ofI, ↓be_ofN, ↓be_0, be_add, be_sub, be_mul, be_neg, be_rem, be_bi, be_bl, be_bv, be_br, be_bE0, be_bE1, be_b1E, be_b0E, be_bkb, be_cast, Int.toNat_natCast, Int.reduceToNat, be_lt, be_le, be_eq, be_nt, be_ck, be_nz, be_bk, be_div]
  (repeat' split) <;> first | rfl | omega | (rw [decide_eq_true (by omega)]; rfl) | (rw [decide_eq_false (by omega)]; rfl)
theorem be_m2 (hd : 1 ≤ d) {x : Int} {k : Nat} (h1 : 0 ≤ x) (h2 : x < 2147483648) (h3 : k < 31) :
    am_sem X d 2 [.inr (50, 0), am_I (be_i (x)), am_I (be_i ((k : Int)))] (am_sd a b u e f) = some (some (am_I (be_i (be_b (decide (x / ((2 ^ k : Nat) : Int) % 2 = 1))))), (am_sd a b u e f)) := by
  obtain ⟨d, rfl⟩ : ∃ q, d = q + 1 := ⟨d - 1, by omega⟩
  rw [am_s2]
  have hb : -2147483648 ≤ x / ((2 ^ k : Nat) : Int) ∧ x / ((2 ^ k : Nat) : Int) < 2147483648 := be_divB (by omega) h2
  have hb0 : 0 ≤ x / ((2 ^ k : Nat) : Int) := Int.ediv_nonneg h1 (Int.natCast_nonneg _)
  simp (disch := (first | assumption | omega | exact (be_gB _ _ _).1 | exact (be_gB _ _ _).2)) only [be_ofI, ↓be_ofN, ↓be_0, be_add, be_sub, be_mul, be_neg, be_rem, be_bi, be_bl, be_bv, be_br, be_bE0, be_bE1, be_b1E, be_b0E, be_bkb, be_cast, Int.toNat_natCast, Int.reduceToNat, be_lt, be_le, be_eq, be_nt, be_ck, be_nz, be_bk, be_div, be_31, be_shr, be_and1]
  (repeat' split) <;> first | rfl | omega | (rw [decide_eq_true (by omega)]; rfl) | (rw [decide_eq_false (by omega)]; rfl)
theorem be_m3 (hd : 1 ≤ d) {x y : Int} (h1 : -2147483648 ≤ x) (h2 : x < 2147483648) (h3 : -2147483648 ≤ y) (h4 : y < 2147483648) :
    am_sem X d 3 [.inr (50, 0), am_I (be_i (x)), am_I (be_i (y))] (am_sd a b u e f) = some (some (am_I (be_i (min x y))), (am_sd a b u e f)) := by
  obtain ⟨d, rfl⟩ : ∃ q, d = q + 1 := ⟨d - 1, by omega⟩
  rw [am_s3]
  simp (disch := (first | assumption | omega | exact (be_gB _ _ _).1 | exact (be_gB _ _ _).2)) only [be_ofI, ↓be_ofN, ↓be_0, be_add, be_sub, be_mul, be_neg, be_rem, be_bi, be_bl, be_bv, be_br, be_bE0, be_bE1, be_b1E, be_b0E, be_bkb, be_cast, Int.toNat_natCast, Int.reduceToNat, be_lt, be_le, be_eq, be_nt, be_ck, be_nz, be_bk, be_div]
  split
  · rw [show min x y = y by omega]
  · rw [show min x y = x by omega]
def be_bits (x : Int) : Nat → Nat
  | 0 => 0
  | n + 1 => be_bits x n + (if x / ((2 ^ n : Nat) : Int) % 2 = 1 then 1 else 0)
theorem be_bits_le (x : Int) : ∀ n, be_bits x n ≤ n
  | 0 => Nat.le_refl _
  | n + 1 => by
    have := be_bits_le x n
    rw [be_bits]
    split <;> omega
theorem be_m4 (hd : 2 ≤ d) {x : Int} (h1 : 0 ≤ x) (h2 : x < 2147483648) : am_sem X d 4 [.inr (50, 0), am_I (be_i (x))] (am_sd a b u e f) = some (some (am_I (be_i ((be_bits x 6 : Int)))), (am_sd a b u e f)) := by
  obtain ⟨d, rfl⟩ : ∃ q, d = q + 1 := ⟨d - 1, by omega⟩
  rw [am_s4]
  have key : ∀ (n k : Nat) (z w : Int), k + n = 6 → z = (k : Int) → w = (be_bits x k : Int) → am_fix (am_sem X d) X am_P4 4 [.inr (50, 0), am_I (be_i (x)), am_I (be_i (w)), am_I (be_i (z))] [] (am_sd a b u e f) = some (some (am_I (be_i ((be_bits x 6 : Int)))), (am_sd a b u e f)) := by
    intro n
    induction n with
    | zero =>
      rintro k z w hk rfl rfl
      obtain rfl : k = 6 := hk
      rw [am_b4_4]
      simp (disch := (first | assumption | omega | exact (be_gB _ _ _).1 | exact (be_gB _ _ _).2)) only [be_ofI, ↓be_ofN, ↓be_0, be_add, be_sub, be_mul, be_neg, be_rem, be_bi, be_bl, be_bv, be_br, be_bE0, be_bE1, be_b1E, be_b0E, be_bkb, be_cast, Int.toNat_natCast, Int.reduceToNat, be_lt, be_le, be_eq, be_nt, be_ck, be_nz, be_bk, be_div]
      rw [if_pos (by omega)]
    | succ n ih =>
      rintro k z w hk rfl rfl
      rw [am_b4_4]
      have hle := be_bits_le x k
      simp (disch := (first | assumption | omega | exact (be_gB _ _ _).1 | exact (be_gB _ _ _).2)) only [be_ofI, ↓be_ofN, ↓be_0, be_add, be_sub, be_mul, be_neg, be_rem, be_bi, be_bl, be_bv, be_br, be_bE0, be_bE1, be_b1E, be_b0E, be_bkb, be_cast, Int.toNat_natCast, Int.reduceToNat, be_lt, be_le, be_eq, be_nt, be_ck, be_nz, be_bk, be_div, be_m2, am_b4_17]
      rw [if_neg (by omega)]
      split
      · rename_i hc
        refine ih (k + 1) _ _ (by omega) (by omega) ?_
        rw [be_bits, if_neg (of_decide_eq_false hc)]; omega
      · rename_i hc
        refine ih (k + 1) _ _ (by omega) (by omega) ?_
        rw [be_bits, if_pos (by simpa using hc)]; omega
  exact key 6 0 _ _ rfl rfl rfl
theorem be_m5 (hd : 2 ≤ d) {x : Int} (h1 : -2147483648 ≤ x) (h2 : x < 2147483648) (h3 : 0 ≤ be_g e 50 0) : am_sem X d 5 [.inr (50, 0), am_I (be_i (x))] (am_sd a b u e f) = some (some (am_I (be_i (be_b (decide (0 ≤ x ∧ x ≤ be_g e 50 0 - 1))))), (am_sd a b u e f)) := by
  obtain ⟨d, rfl⟩ : ∃ q, d = q + 1 := ⟨d - 1, by omega⟩
  have he := be_gI e
  have hb := be_gB e 50 0
  rw [am_s5]
  simp (disch := (first | assumption | omega | exact (be_gB _ _ _).1 | exact (be_gB _ _ _).2)) only [be_ofI, ↓be_ofN, ↓be_0, be_add, be_sub, be_mul, be_neg, be_rem, be_bi, be_bl, be_bv, be_br, be_bE0, be_bE1, be_b1E, be_b0E, be_bkb, be_cast, Int.toNat_natCast, Int.reduceToNat, be_lt, be_le, be_eq, be_nt, be_ck, be_nz, be_bk, be_div, he, be_m1, am_b5_12]
theorem be_m6 (hd : 2 ≤ d) {x : Int} (h1 : -2147483648 ≤ x) (h2 : x < 2147483648) (h3 : 0 ≤ be_g e 50 2) : am_sem X d 6 [.inr (50, 0), am_I (be_i (x))] (am_sd a b u e f) = some (some (am_I (be_i (be_b (decide (0 ≤ x ∧ x ≤ be_g e 50 2 - 1))))), (am_sd a b u e f)) := by
  obtain ⟨d, rfl⟩ : ∃ q, d = q + 1 := ⟨d - 1, by omega⟩
  have he := be_gI e
  have hb := be_gB e 50 2
  rw [am_s6]
  simp (disch := (first | assumption | omega | exact (be_gB _ _ _).1 | exact (be_gB _ _ _).2)) only [be_ofI, ↓be_ofN, ↓be_0, be_add, be_sub, be_mul, be_neg, be_rem, be_bi, be_bl, be_bv, be_br, be_bE0, be_bE1, be_b1E, be_b0E, be_bkb, be_cast, Int.toNat_natCast, Int.reduceToNat, be_lt, be_le, be_eq, be_nt, be_ck, be_nz, be_bk, be_div, he, be_m1, am_b6_12]
theorem be_m7 (hd : 2 ≤ d) {x : Int} (h1 : -2147483648 ≤ x) (h2 : x < 2147483648) : am_sem X d 7 [.inr (50, 0), am_I (be_i (x))] (am_sd a b u e f) = some (some (am_I (be_i (be_b (decide (0 ≤ x ∧ x ≤ 39))))), (am_sd a b u e f)) := by
  obtain ⟨d, rfl⟩ : ∃ q, d = q + 1 := ⟨d - 1, by omega⟩
  rw [am_s7]
  simp (disch := (first | assumption | omega | exact (be_gB _ _ _).1 | exact (be_gB _ _ _).2)) only [be_ofI, ↓be_ofN, ↓be_0, be_add, be_sub, be_mul, be_neg, be_rem, be_bi, be_bl, be_bv, be_br, be_bE0, be_bE1, be_b1E, be_b0E, be_bkb, be_cast, Int.toNat_natCast, Int.reduceToNat, be_lt, be_le, be_eq, be_nt, be_ck, be_nz, be_bk, be_div, be_m1, am_b7_8]
theorem be_m8 (hd : 2 ≤ d) {x : Int} (h1 : -2147483648 ≤ x) (h2 : x < 2147483648) : am_sem X d 8 [.inr (50, 0), am_I (be_i (x))] (am_sd a b u e f) = some (some (am_I (be_i (be_b (decide (1 ≤ x ∧ x ≤ 20))))), (am_sd a b u e f)) := by
  obtain ⟨d, rfl⟩ : ∃ q, d = q + 1 := ⟨d - 1, by omega⟩
  rw [am_s8]
  simp (disch := (first | assumption | omega | exact (be_gB _ _ _).1 | exact (be_gB _ _ _).2)) only [be_ofI, ↓be_ofN, ↓be_0, be_add, be_sub, be_mul, be_neg, be_rem, be_bi, be_bl, be_bv, be_br, be_bE0, be_bE1, be_b1E, be_b0E, be_bkb, be_cast, Int.toNat_natCast, Int.reduceToNat, be_lt, be_le, be_eq, be_nt, be_ck, be_nz, be_bk, be_div, be_m1, am_b8_8]
