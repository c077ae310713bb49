/-! CALLS, 10: acts (printed by g82.py) -/
variable {d : Nat} {X : am_X} {a : Nat → Nat → Nat → Int32} {b : Nat → Nat → Nat → Int64} {u : Nat → Nat} {e : Nat → Nat → Nat → Int32} {f : Nat → Nat → Nat → Int64}
/-- the trace, the latest first -/
def be_tm (e : Nat → Nat → Nat → Int32) : List Int → Nat → Nat → Nat → Int32
  | [] => am_w3 e 50 0 77 (be_i 0)
  | B :: R => am_w3 (am_w3 (be_tm e R) 101 0 R.length (be_i B)) 50 0 77 (be_i ((R.length : Int) + 1))
def be_tc (a : Nat → Nat → Nat → Int32) : List Int → Nat → Nat → Nat → Int32
  | [] => am_w3 a 0 0 1 (be_i 0)
  | B :: R => am_w3 (am_w3 (be_tc a R) 10 0 R.length (be_i B)) 0 0 1 (be_i ((R.length : Int) + 1))
theorem be_tm_n (R : List Int) : ∀ c k j, ¬ (c = 101 ∨ (c = 50 ∧ j = 77)) → be_tm e R c k j = e c k j := by
  induction R with
  | nil => intro c k j h; exact be_w3n _ _ _ _ _ _ _ _ (by omega)
  | cons B R ih => intro c k j h; rw [be_tm, be_w3n _ _ _ _ _ _ _ _ (by omega), be_w3n _ _ _ _ _ _ _ _ (by omega)]; exact ih c k j h
theorem be_tc_n (R : List Int) : ∀ c k j, ¬ (c = 10 ∨ (c = 0 ∧ j = 1)) → be_tc a R c k j = a c k j := by
  induction R with
  | nil => intro c k j h; exact be_w3n _ _ _ _ _ _ _ _ (by omega)
  | cons B R ih => intro c k j h; rw [be_tc, be_w3n _ _ _ _ _ _ _ _ (by omega), be_w3n _ _ _ _ _ _ _ _ (by omega)]; exact ih c k j h
theorem be_tm_77 (R : List Int) : be_tm e R 50 0 77 = be_i (R.length : Int) := by
  cases R with
  | nil => exact be_w3s _ _ _ _ _
  | cons B R => rw [be_tm, be_w3s]; rfl
theorem be_tc_1 (R : List Int) : be_tc a R 0 0 1 = be_i (R.length : Int) := by
  cases R with
  | nil => exact be_w3s _ _ _ _ _
  | cons B R => rw [be_tc, be_w3s]; rfl
theorem be_tt_eq (R : List Int) : ∀ k, k < R.length → ∃ B, be_tm e R 101 0 k = be_i B ∧ be_tc a R 10 0 k = be_i B := by
  induction R with
  | nil => intro k h; cases h
  | cons B R ih =>
    intro k h
    rw [List.length_cons] at h
    have p1 : be_tm e (B :: R) 101 0 k = am_w3 (be_tm e R) 101 0 R.length (be_i B) 101 0 k := by rw [be_tm, be_w3n _ _ _ _ _ _ _ _ (by omega)]
    have p2 : be_tc a (B :: R) 10 0 k = am_w3 (be_tc a R) 10 0 R.length (be_i B) 10 0 k := by rw [be_tc, be_w3n _ _ _ _ _ _ _ _ (by omega)]
    rw [p1, p2]
    by_cases hk : k = R.length
    · subst hk; exact ⟨B, be_w3s _ _ _ _ _, be_w3s _ _ _ _ _⟩
    · have p3 : am_w3 (be_tm e R) 101 0 R.length (be_i B) 101 0 k = be_tm e R 101 0 k := be_w3n _ _ _ _ _ _ _ _ (by omega)
      have p4 : am_w3 (be_tc a R) 10 0 R.length (be_i B) 10 0 k = be_tc a R 10 0 k := be_w3n _ _ _ _ _ _ _ _ (by omega)
      rw [p3, p4]
      exact ih k (by omega)
theorem be_m93 (hd : 1 ≤ d) (R : List Int) {B : Int} (hR : R.length < 20) : am_sem X d 93 [.inr (50, 0), am_I (be_i (B))] (am_sd a b u (be_tm e R) f) = some (none, am_sd a b u (be_tm e (B :: R)) f) := by
  obtain ⟨d, rfl⟩ : ∃ q, d = q + 1 := ⟨d - 1, by omega⟩
  have h7 := be_tm_77 (e := e) R
  rw [am_s93]
  simp (disch := (first | assumption | omega | exact (be_gB _ _ _).1 | exact (be_gB _ _ _).2)) only [↓reduceIte, be_ofI, ↓be_ofN, ↓be_0, be_add, be_sub, be_mul, be_neg, be_rem, be_bi, be_bl, be_bv, be_br, be_bE0, be_bE1, be_b1E, be_b0E, be_bkb, be_cast, Int.toNat_natCast, Int.reduceToNat, be_lt, be_le, be_eq, be_nt, be_ck, be_nz, be_bk, be_div, h7]
  rw [if_neg (by omega)]
  rfl
theorem be_m129 (hd : 1 ≤ d) (R : List Int) {B : Int} (hR : R.length < 20) : am_sem X d 129 [.inr (0, 0), am_I (be_i (B))] (am_sd (be_tc a R) b u e f) = some (none, am_sd (be_tc a (B :: R)) b u e f) := by
  obtain ⟨d, rfl⟩ : ∃ q, d = q + 1 := ⟨d - 1, by omega⟩
  have h7 := be_tc_1 (a := a) R
  rw [am_s129]
  simp (disch := (first | assumption | omega | exact (be_gB _ _ _).1 | exact (be_gB _ _ _).2)) only [↓reduceIte, be_ofI, ↓be_ofN, ↓be_0, be_add, be_sub, be_mul, be_neg, be_rem, be_bi, be_bl, be_bv, be_br, be_bE0, be_bE1, be_b1E, be_b0E, be_bkb, be_cast, Int.toNat_natCast, Int.reduceToNat, be_lt, be_le, be_eq, be_nt, be_ck, be_nz, be_bk, be_div, h7]
  rw [if_neg (by omega)]
  rfl
def be_vK (κ : Int) (i v x : Int32) : Int32 := if κ = 2 then x * be_i 3 + i else if κ = 5 then x * be_i 3 + i else if κ = 4 then -(x + i) else if κ = 6 then (x + i) ^^^ v else x + i
def be_tK (κ : Int) : List Int := if κ = 2 then [10, 30] else if κ = 5 then [10, 30] else if κ = 4 then [10, 50] else if κ = 6 then [10, 71] else [10]
def be_vHS (κ : Int) (i v x : Int32) : Int32 := be_vK κ i v x - v
def be_tHS (κ : Int) : List Int := be_tK κ ++ [11]
def be_vBS (κ : Int) (i v x : Int32) : Int32 := be_vHS κ i v x ^^^ be_i 6
def be_tBS (κ : Int) : List Int := be_tHS κ ++ [20]
def be_vS (κ : Int) (i v x : Int32) : Int32 := if κ = 1 then be_vBS κ i v x else if κ = 4 then be_vBS κ i v (x + be_i 1) else if κ = 6 then be_vHS κ i v x + (be_i 2 + i) else be_vHS κ i v x
def be_tS (κ : Int) : List Int := if κ = 1 then be_tBS κ else if κ = 4 then be_tBS κ ++ [51] else if κ = 6 then [10] ++ be_tHS κ ++ [70] else be_tHS κ
def be_vHT (κ : Int) (i v x : Int32) : Int32 := be_vS κ i v x * be_i 2
def be_tHT (κ : Int) : List Int := be_tS κ ++ [12]
def be_vT (κ : Int) (i v x : Int32) : Int32 := if κ = 3 then be_vHT κ i v x + be_vS κ i v (be_i 1) else if κ = 6 then be_vHT κ i v x + be_vS κ i v (be_i 1) else if κ = 5 then be_vHT κ i v (x - i) else be_vHT κ i v x
def be_tT (κ : Int) : List Int := if κ = 3 then be_tS κ ++ be_tHT κ ++ [40] else if κ = 6 then be_tS κ ++ be_tHT κ ++ [40] else if κ = 5 then be_tHT κ ++ [60] else be_tHT κ
theorem be_tLen (κ : Int) : (be_tK κ).length ≤ 2 ∧ (be_tHS κ).length ≤ 3 ∧ (be_tBS κ).length ≤ 4 ∧ (be_tS κ).length ≤ 5 ∧ (be_tHT κ).length ≤ 6 ∧ (be_tT κ).length ≤ 12 := by
  have hK : (be_tK κ).length ≤ 2 := by unfold be_tK; (repeat' split) <;> decide
  have hHS : (be_tHS κ).length ≤ 3 := by unfold be_tHS; rw [List.length_append, List.length_singleton]; omega
  have hBS : (be_tBS κ).length ≤ 4 := by unfold be_tBS; rw [List.length_append, List.length_singleton]; omega
  have hS : (be_tS κ).length ≤ 5 := by
    unfold be_tS
    repeat' split
    all_goals first | (simp only [List.length_append, List.length_singleton]; omega) | omega
  have hHT : (be_tHT κ).length ≤ 6 := by unfold be_tHT; rw [List.length_append, List.length_singleton]; omega
  refine ⟨hK, hHS, hBS, hS, hHT, ?_⟩
  unfold be_tT
  repeat' split
  all_goals first | (simp only [List.length_append, List.length_singleton]; omega) | omega

/-! the reference -/
theorem be_m94 (hd : 2 ≤ d) {h : Nat} {x : Int32} (R : List Int) (hR : R.length < 20) : am_sem X d 94 [.inr (50, 0), am_I (be_i ((h : Int))), am_I x] (am_sd a b u (be_tm e R) f) = some (some (am_I (x + be_i (h : Int))), am_sd a b u (be_tm e (10 :: R)) f) := by
  obtain ⟨d, rfl⟩ : ∃ q, d = q + 1 := ⟨d - 1, by omega⟩
  have q1 := be_m93 (X := X) (a := a) (b := b) (u := u) (e := e) (f := f) (d := d) (B := 10) (by omega) R hR
  rw [am_s94]
  simp (disch := (first | assumption | omega | exact (be_gB _ _ _).1 | exact (be_gB _ _ _).2)) only [↓reduceIte, be_ofI, ↓be_ofN, ↓be_0, be_add, be_sub, be_mul, be_neg, be_rem, be_bi, be_bl, be_bv, be_br, be_bE0, be_bE1, be_b1E, be_b0E, be_bkb, be_cast, Int.toNat_natCast, Int.reduceToNat, be_lt, be_le, be_eq, be_nt, be_ck, be_nz, be_bk, be_div, q1, am_b94_6]
theorem be_m95 (hd : 3 ≤ d) {h : Nat} {κ : Int} (hκ : be_g e 52 h = κ) (k1 : 0 ≤ κ) (k2 : κ ≤ 6) (hh : h < 6) {x : Int32} (R : List Int) (hR : R.length + 2 ≤ 20) : am_sem X d 95 [.inr (50, 0), am_I (be_i ((h : Int))), am_I x] (am_sd a b u (be_tm e R) f) = some (some (am_I (be_vK κ (be_i (h : Int)) (be_i (be_g e 53 h)) x)), am_sd a b u (be_tm e (be_tK κ ++ R)) f) := by
  obtain ⟨d, rfl⟩ : ∃ q, d = q + 1 := ⟨d - 1, by omega⟩
  have he := be_gI e
  have r52 : be_tm e R 52 0 h = be_i κ := by rw [be_tm_n _ _ _ _ (by omega), he, hκ]
  obtain ⟨l1, l2, l3, l4, l5, l6⟩ := be_tLen κ
  have w53 : ∀ R, be_tm e R 53 0 h = be_i (be_g e 53 h) := fun R => by rw [be_tm_n _ _ _ _ (by omega), he]
  have q30 := be_m93 (X := X) (a := a) (b := b) (u := u) (e := e) (f := f) (d := d) (B := 30) (by omega) R (by omega)
  have q50 := be_m93 (X := X) (a := a) (b := b) (u := u) (e := e) (f := f) (d := d) (B := 50) (by omega) R (by omega)
  have q71 := be_m93 (X := X) (a := a) (b := b) (u := u) (e := e) (f := f) (d := d) (B := 71) (by omega) R (by omega)
  have g0 := be_m94 (X := X) (a := a) (b := b) (u := u) (e := e) (f := f) (d := d) (h := h) (x := x) (by omega) R (by omega)
  have g30 := be_m94 (X := X) (a := a) (b := b) (u := u) (e := e) (f := f) (d := d) (h := h) (x := x * be_i 3) (by omega) (30 :: R) (by rw [List.length_cons]; omega)
  have g50 := be_m94 (X := X) (a := a) (b := b) (u := u) (e := e) (f := f) (d := d) (h := h) (x := x) (by omega) (50 :: R) (by rw [List.length_cons]; omega)
  have g71 := be_m94 (X := X) (a := a) (b := b) (u := u) (e := e) (f := f) (d := d) (h := h) (x := x) (by omega) (71 :: R) (by rw [List.length_cons]; omega)
  rw [am_s95]
  rcases (show κ = 0 ∨ κ = 1 ∨ κ = 2 ∨ κ = 3 ∨ κ = 4 ∨ κ = 5 ∨ κ = 6 by omega) with rfl | rfl | rfl | rfl | rfl | rfl | rfl
  all_goals (simp (disch := (first | assumption | omega | exact (be_gB _ _ _).1 | exact (be_gB _ _ _).2)) only [↓reduceIte, be_ofI, ↓be_ofN, ↓be_0, be_add, be_sub, be_mul, be_neg, be_rem, be_bi, be_bl, be_bv, be_br, be_bE0, be_bE1, be_b1E, be_b0E, be_bkb, be_cast, Int.toNat_natCast, Int.reduceToNat, be_lt, be_le, be_eq, be_nt, be_ck, be_nz, be_bk, be_div, not_true_eq_false, not_false_eq_true, if_true, if_false, eq_self, Int.reduceEq, Int.reduceLT, Int.reduceLE, Bool.true_eq_false, Bool.false_eq_true, r52, w53, q30, q50, q71, g0, g30, g50, g71, am_b95_46, am_b95_54, am_b95_61, am_b95_67, am_b95_75, am_b95_81, am_b95_95]; rfl)
theorem be_m96 (hd : 4 ≤ d) {h : Nat} {κ : Int} (hκ : be_g e 52 h = κ) (k1 : 0 ≤ κ) (k2 : κ ≤ 6) (hh : h < 6) {x : Int32} (R : List Int) (hR : R.length + 3 ≤ 20) : am_sem X d 96 [.inr (50, 0), am_I (be_i ((h : Int))), am_I x] (am_sd a b u (be_tm e R) f) = some (some (am_I (be_vHS κ (be_i (h : Int)) (be_i (be_g e 53 h)) x)), am_sd a b u (be_tm e (be_tHS κ ++ R)) f) := by
  obtain ⟨d, rfl⟩ : ∃ q, d = q + 1 := ⟨d - 1, by omega⟩
  have he := be_gI e
  have r52 : be_tm e R 52 0 h = be_i κ := by rw [be_tm_n _ _ _ _ (by omega), he, hκ]
  obtain ⟨l1, l2, l3, l4, l5, l6⟩ := be_tLen κ
  have w53 : ∀ R, be_tm e R 53 0 h = be_i (be_g e 53 h) := fun R => by rw [be_tm_n _ _ _ _ (by omega), he]
  have q := be_m93 (X := X) (a := a) (b := b) (u := u) (e := e) (f := f) (d := d) (B := 11) (by omega) R (by omega)
  have g := be_m95 (X := X) (a := a) (b := b) (u := u) (e := e) (f := f) (d := d) (h := h) (x := x) (by omega) hκ k1 k2 hh (11 :: R) (by rw [List.length_cons]; omega)
  rw [am_s96]
  simp (disch := (first | assumption | omega | exact (be_gB _ _ _).1 | exact (be_gB _ _ _).2)) only [↓reduceIte, be_ofI, ↓be_ofN, ↓be_0, be_add, be_sub, be_mul, be_neg, be_rem, be_bi, be_bl, be_bv, be_br, be_bE0, be_bE1, be_b1E, be_b0E, be_bkb, be_cast, Int.toNat_natCast, Int.reduceToNat, be_lt, be_le, be_eq, be_nt, be_ck, be_nz, be_bk, be_div, q, g, w53, am_b96_6, am_b96_12]
  unfold be_tHS be_vHS
  rw [List.append_assoc]
  rfl
theorem be_m97 (hd : 5 ≤ d) {h : Nat} {κ : Int} (hκ : be_g e 52 h = κ) (k1 : 0 ≤ κ) (k2 : κ ≤ 6) (hh : h < 6) {x : Int32} (R : List Int) (hR : R.length + 4 ≤ 20) : am_sem X d 97 [.inr (50, 0), am_I (be_i ((h : Int))), am_I x] (am_sd a b u (be_tm e R) f) = some (some (am_I (be_vBS κ (be_i (h : Int)) (be_i (be_g e 53 h)) x)), am_sd a b u (be_tm e (be_tBS κ ++ R)) f) := by
  obtain ⟨d, rfl⟩ : ∃ q, d = q + 1 := ⟨d - 1, by omega⟩
  have he := be_gI e
  have r52 : be_tm e R 52 0 h = be_i κ := by rw [be_tm_n _ _ _ _ (by omega), he, hκ]
  obtain ⟨l1, l2, l3, l4, l5, l6⟩ := be_tLen κ
  have q := be_m93 (X := X) (a := a) (b := b) (u := u) (e := e) (f := f) (d := d) (B := 20) (by omega) R (by omega)
  have g := be_m96 (X := X) (a := a) (b := b) (u := u) (e := e) (f := f) (d := d) (h := h) (x := x) (by omega) hκ k1 k2 hh (20 :: R) (by rw [List.length_cons]; omega)
  rw [am_s97]
  simp (disch := (first | assumption | omega | exact (be_gB _ _ _).1 | exact (be_gB _ _ _).2)) only [↓reduceIte, be_ofI, ↓be_ofN, ↓be_0, be_add, be_sub, be_mul, be_neg, be_rem, be_bi, be_bl, be_bv, be_br, be_bE0, be_bE1, be_b1E, be_b0E, be_bkb, be_cast, Int.toNat_natCast, Int.reduceToNat, be_lt, be_le, be_eq, be_nt, be_ck, be_nz, be_bk, be_div, q, g, am_b97_6, am_b97_12]
  unfold be_tBS be_vBS
  rw [List.append_assoc]
  rfl
theorem be_m98 (hd : 6 ≤ d) {h : Nat} {κ : Int} (hκ : be_g e 52 h = κ) (k1 : 0 ≤ κ) (k2 : κ ≤ 6) (hh : h < 6) {x : Int32} (R : List Int) (hR : R.length + 5 ≤ 20) : am_sem X d 98 [.inr (50, 0), am_I (be_i ((h : Int))), am_I x] (am_sd a b u (be_tm e R) f) = some (some (am_I (be_vS κ (be_i (h : Int)) (be_i (be_g e 53 h)) x)), am_sd a b u (be_tm e (be_tS κ ++ R)) f) := by
  obtain ⟨d, rfl⟩ : ∃ q, d = q + 1 := ⟨d - 1, by omega⟩
  have he := be_gI e
  have r52 : be_tm e R 52 0 h = be_i κ := by rw [be_tm_n _ _ _ _ (by omega), he, hκ]
  obtain ⟨l1, l2, l3, l4, l5, l6⟩ := be_tLen κ
  have q51 := be_m93 (X := X) (a := a) (b := b) (u := u) (e := e) (f := f) (d := d) (B := 51) (by omega) R (by omega)
  have q70 := be_m93 (X := X) (a := a) (b := b) (u := u) (e := e) (f := f) (d := d) (B := 70) (by omega) R (by omega)
  have g1 := be_m97 (X := X) (a := a) (b := b) (u := u) (e := e) (f := f) (d := d) (h := h) (x := x) (by omega) hκ k1 k2 hh R (by omega)
  have g4 := be_m97 (X := X) (a := a) (b := b) (u := u) (e := e) (f := f) (d := d) (h := h) (x := x + be_i 1) (by omega) hκ k1 k2 hh (51 :: R) (by rw [List.length_cons]; omega)
  have g6 := be_m96 (X := X) (a := a) (b := b) (u := u) (e := e) (f := f) (d := d) (h := h) (x := x) (by omega) hκ k1 k2 hh (70 :: R) (by rw [List.length_cons]; omega)
  have g62 := be_m94 (X := X) (a := a) (b := b) (u := u) (e := e) (f := f) (d := d) (h := h) (x := be_i 2) (by omega) (be_tHS κ ++ 70 :: R) (by rw [List.length_append, List.length_cons]; omega)
  have g0 := be_m96 (X := X) (a := a) (b := b) (u := u) (e := e) (f := f) (d := d) (h := h) (x := x) (by omega) hκ k1 k2 hh R (by omega)
  rw [am_s98]
  rcases (show κ = 0 ∨ κ = 1 ∨ κ = 2 ∨ κ = 3 ∨ κ = 4 ∨ κ = 5 ∨ κ = 6 by omega) with rfl | rfl | rfl | rfl | rfl | rfl | rfl
  · simp (disch := (first | assumption | omega | exact (be_gB _ _ _).1 | exact (be_gB _ _ _).2)) only [↓reduceIte, be_ofI, ↓be_ofN, ↓be_0, be_add, be_sub, be_mul, be_neg, be_rem, be_bi, be_bl, be_bv, be_br, be_bE0, be_bE1, be_b1E, be_b0E, be_bkb, be_cast, Int.toNat_natCast, Int.reduceToNat, be_lt, be_le, be_eq, be_nt, be_ck, be_nz, be_bk, be_div, not_true_eq_false, not_false_eq_true, if_true, if_false, eq_self, Int.reduceEq, Int.reduceLT, Int.reduceLE, Bool.true_eq_false, Bool.false_eq_true, r52, g0, am_b98_46, am_b98_53, am_b98_61, am_b98_68, am_b98_74, am_b98_82, am_b98_90]; rfl
  · simp (disch := (first | assumption | omega | exact (be_gB _ _ _).1 | exact (be_gB _ _ _).2)) only [↓reduceIte, be_ofI, ↓be_ofN, ↓be_0, be_add, be_sub, be_mul, be_neg, be_rem, be_bi, be_bl, be_bv, be_br, be_bE0, be_bE1, be_b1E, be_b0E, be_bkb, be_cast, Int.toNat_natCast, Int.reduceToNat, be_lt, be_le, be_eq, be_nt, be_ck, be_nz, be_bk, be_div, not_true_eq_false, not_false_eq_true, if_true, if_false, eq_self, Int.reduceEq, Int.reduceLT, Int.reduceLE, Bool.true_eq_false, Bool.false_eq_true, r52, g1, am_b98_46, am_b98_53, am_b98_61, am_b98_68, am_b98_74, am_b98_82, am_b98_90]; rfl
  · simp (disch := (first | assumption | omega | exact (be_gB _ _ _).1 | exact (be_gB _ _ _).2)) only [↓reduceIte, be_ofI, ↓be_ofN, ↓be_0, be_add, be_sub, be_mul, be_neg, be_rem, be_bi, be_bl, be_bv, be_br, be_bE0, be_bE1, be_b1E, be_b0E, be_bkb, be_cast, Int.toNat_natCast, Int.reduceToNat, be_lt, be_le, be_eq, be_nt, be_ck, be_nz, be_bk, be_div, not_true_eq_false, not_false_eq_true, if_true, if_false, eq_self, Int.reduceEq, Int.reduceLT, Int.reduceLE, Bool.true_eq_false, Bool.false_eq_true, r52, g0, am_b98_46, am_b98_53, am_b98_61, am_b98_68, am_b98_74, am_b98_82, am_b98_90]; rfl
  · simp (disch := (first | assumption | omega | exact (be_gB _ _ _).1 | exact (be_gB _ _ _).2)) only [↓reduceIte, be_ofI, ↓be_ofN, ↓be_0, be_add, be_sub, be_mul, be_neg, be_rem, be_bi, be_bl, be_bv, be_br, be_bE0, be_bE1, be_b1E, be_b0E, be_bkb, be_cast, Int.toNat_natCast, Int.reduceToNat, be_lt, be_le, be_eq, be_nt, be_ck, be_nz, be_bk, be_div, not_true_eq_false, not_false_eq_true, if_true, if_false, eq_self, Int.reduceEq, Int.reduceLT, Int.reduceLE, Bool.true_eq_false, Bool.false_eq_true, r52, g0, am_b98_46, am_b98_53, am_b98_61, am_b98_68, am_b98_74, am_b98_82, am_b98_90]; rfl
  · simp (disch := (first | assumption | omega | exact (be_gB _ _ _).1 | exact (be_gB _ _ _).2)) only [↓reduceIte, be_ofI, ↓be_ofN, ↓be_0, be_add, be_sub, be_mul, be_neg, be_rem, be_bi, be_bl, be_bv, be_br, be_bE0, be_bE1, be_b1E, be_b0E, be_bkb, be_cast, Int.toNat_natCast, Int.reduceToNat, be_lt, be_le, be_eq, be_nt, be_ck, be_nz, be_bk, be_div, not_true_eq_false, not_false_eq_true, if_true, if_false, eq_self, Int.reduceEq, Int.reduceLT, Int.reduceLE, Bool.true_eq_false, Bool.false_eq_true, r52, q51, g4, am_b98_46, am_b98_53, am_b98_61, am_b98_68, am_b98_74, am_b98_82, am_b98_90]; rfl
  · simp (disch := (first | assumption | omega | exact (be_gB _ _ _).1 | exact (be_gB _ _ _).2)) only [↓reduceIte, be_ofI, ↓be_ofN, ↓be_0, be_add, be_sub, be_mul, be_neg, be_rem, be_bi, be_bl, be_bv, be_br, be_bE0, be_bE1, be_b1E, be_b0E, be_bkb, be_cast, Int.toNat_natCast, Int.reduceToNat, be_lt, be_le, be_eq, be_nt, be_ck, be_nz, be_bk, be_div, not_true_eq_false, not_false_eq_true, if_true, if_false, eq_self, Int.reduceEq, Int.reduceLT, Int.reduceLE, Bool.true_eq_false, Bool.false_eq_true, r52, g0, am_b98_46, am_b98_53, am_b98_61, am_b98_68, am_b98_74, am_b98_82, am_b98_90]; rfl
  · simp (disch := (first | assumption | omega)) only [↓reduceIte, be_ofI, ↓be_ofN, ↓be_0, be_bi, be_bv, be_nt, be_ck, be_eq, Int.toNat_natCast, Int.reduceEq, if_false, if_true, not_false_eq_true, not_true_eq_false, r52, q70, g6, g62, am_b98_46, am_b98_53, am_b98_61, am_b98_68, am_b98_74, am_b98_82, am_b98_90]; rfl
theorem be_m99 (hd : 7 ≤ d) {h : Nat} {κ : Int} (hκ : be_g e 52 h = κ) (k1 : 0 ≤ κ) (k2 : κ ≤ 6) (hh : h < 6) {x : Int32} (R : List Int) (hR : R.length + 6 ≤ 20) : am_sem X d 99 [.inr (50, 0), am_I (be_i ((h : Int))), am_I x] (am_sd a b u (be_tm e R) f) = some (some (am_I (be_vHT κ (be_i (h : Int)) (be_i (be_g e 53 h)) x)), am_sd a b u (be_tm e (be_tHT κ ++ R)) f) := by
  obtain ⟨d, rfl⟩ : ∃ q, d = q + 1 := ⟨d - 1, by omega⟩
  have he := be_gI e
  have r52 : be_tm e R 52 0 h = be_i κ := by rw [be_tm_n _ _ _ _ (by omega), he, hκ]
  obtain ⟨l1, l2, l3, l4, l5, l6⟩ := be_tLen κ
  have q := be_m93 (X := X) (a := a) (b := b) (u := u) (e := e) (f := f) (d := d) (B := 12) (by omega) R (by omega)
  have g := be_m98 (X := X) (a := a) (b := b) (u := u) (e := e) (f := f) (d := d) (h := h) (x := x) (by omega) hκ k1 k2 hh (12 :: R) (by rw [List.length_cons]; omega)
  rw [am_s99]
  simp (disch := (first | assumption | omega | exact (be_gB _ _ _).1 | exact (be_gB _ _ _).2)) only [↓reduceIte, be_ofI, ↓be_ofN, ↓be_0, be_add, be_sub, be_mul, be_neg, be_rem, be_bi, be_bl, be_bv, be_br, be_bE0, be_bE1, be_b1E, be_b0E, be_bkb, be_cast, Int.toNat_natCast, Int.reduceToNat, be_lt, be_le, be_eq, be_nt, be_ck, be_nz, be_bk, be_div, q, g, am_b99_6, am_b99_12]
  unfold be_tHT be_vHT
  rw [List.append_assoc]
  rfl
theorem be_m100 (hd : 8 ≤ d) {h : Nat} {κ : Int} (hκ : be_g e 52 h = κ) (k1 : 0 ≤ κ) (k2 : κ ≤ 6) (hh : h < 6) {x : Int32} (R : List Int) (hR : R.length + 12 ≤ 20) : am_sem X d 100 [.inr (50, 0), am_I (be_i ((h : Int))), am_I x] (am_sd a b u (be_tm e R) f) = some (some (am_I (be_vT κ (be_i (h : Int)) (be_i (be_g e 53 h)) x)), am_sd a b u (be_tm e (be_tT κ ++ R)) f) := by
  obtain ⟨d, rfl⟩ : ∃ q, d = q + 1 := ⟨d - 1, by omega⟩
  have he := be_gI e
  have r52 : be_tm e R 52 0 h = be_i κ := by rw [be_tm_n _ _ _ _ (by omega), he, hκ]
  obtain ⟨l1, l2, l3, l4, l5, l6⟩ := be_tLen κ
  have q40 := be_m93 (X := X) (a := a) (b := b) (u := u) (e := e) (f := f) (d := d) (B := 40) (by omega) R (by omega)
  have q60 := be_m93 (X := X) (a := a) (b := b) (u := u) (e := e) (f := f) (d := d) (B := 60) (by omega) R (by omega)
  have g40 := be_m99 (X := X) (a := a) (b := b) (u := u) (e := e) (f := f) (d := d) (h := h) (x := x) (by omega) hκ k1 k2 hh (40 :: R) (by rw [List.length_cons]; omega)
  have g41 := be_m98 (X := X) (a := a) (b := b) (u := u) (e := e) (f := f) (d := d) (h := h) (x := be_i 1) (by omega) hκ k1 k2 hh (be_tHT κ ++ 40 :: R) (by rw [List.length_append, List.length_cons]; omega)
  have g60 := be_m99 (X := X) (a := a) (b := b) (u := u) (e := e) (f := f) (d := d) (h := h) (x := x - be_i (h : Int)) (by omega) hκ k1 k2 hh (60 :: R) (by rw [List.length_cons]; omega)
  have g0 := be_m99 (X := X) (a := a) (b := b) (u := u) (e := e) (f := f) (d := d) (h := h) (x := x) (by omega) hκ k1 k2 hh R (by omega)
  rw [am_s100]
  rcases (show κ = 0 ∨ κ = 1 ∨ κ = 2 ∨ κ = 3 ∨ κ = 4 ∨ κ = 5 ∨ κ = 6 by omega) with rfl | rfl | rfl | rfl | rfl | rfl | rfl
  · simp (disch := (first | assumption | omega | exact (be_gB _ _ _).1 | exact (be_gB _ _ _).2)) only [↓reduceIte, be_ofI, ↓be_ofN, ↓be_0, be_add, be_sub, be_mul, be_neg, be_rem, be_bi, be_bl, be_bv, be_br, be_bE0, be_bE1, be_b1E, be_b0E, be_bkb, be_cast, Int.toNat_natCast, Int.reduceToNat, be_lt, be_le, be_eq, be_nt, be_ck, be_nz, be_bk, be_div, not_true_eq_false, not_false_eq_true, if_true, if_false, eq_self, Int.reduceEq, Int.reduceLT, Int.reduceLE, Bool.true_eq_false, Bool.false_eq_true, r52, g0, am_b100_42, am_b100_48, am_b100_56, am_b100_64, am_b100_72, am_b100_79]; rfl
  · simp (disch := (first | assumption | omega | exact (be_gB _ _ _).1 | exact (be_gB _ _ _).2)) only [↓reduceIte, be_ofI, ↓be_ofN, ↓be_0, be_add, be_sub, be_mul, be_neg, be_rem, be_bi, be_bl, be_bv, be_br, be_bE0, be_bE1, be_b1E, be_b0E, be_bkb, be_cast, Int.toNat_natCast, Int.reduceToNat, be_lt, be_le, be_eq, be_nt, be_ck, be_nz, be_bk, be_div, not_true_eq_false, not_false_eq_true, if_true, if_false, eq_self, Int.reduceEq, Int.reduceLT, Int.reduceLE, Bool.true_eq_false, Bool.false_eq_true, r52, g0, am_b100_42, am_b100_48, am_b100_56, am_b100_64, am_b100_72, am_b100_79]; rfl
  · simp (disch := (first | assumption | omega | exact (be_gB _ _ _).1 | exact (be_gB _ _ _).2)) only [↓reduceIte, be_ofI, ↓be_ofN, ↓be_0, be_add, be_sub, be_mul, be_neg, be_rem, be_bi, be_bl, be_bv, be_br, be_bE0, be_bE1, be_b1E, be_b0E, be_bkb, be_cast, Int.toNat_natCast, Int.reduceToNat, be_lt, be_le, be_eq, be_nt, be_ck, be_nz, be_bk, be_div, not_true_eq_false, not_false_eq_true, if_true, if_false, eq_self, Int.reduceEq, Int.reduceLT, Int.reduceLE, Bool.true_eq_false, Bool.false_eq_true, r52, g0, am_b100_42, am_b100_48, am_b100_56, am_b100_64, am_b100_72, am_b100_79]; rfl
  · simp (disch := (first | assumption | omega | exact (be_gB _ _ _).1 | exact (be_gB _ _ _).2)) only [↓reduceIte, be_ofI, ↓be_ofN, ↓be_0, be_add, be_sub, be_mul, be_neg, be_rem, be_bi, be_bl, be_bv, be_br, be_bE0, be_bE1, be_b1E, be_b0E, be_bkb, be_cast, Int.toNat_natCast, Int.reduceToNat, be_lt, be_le, be_eq, be_nt, be_ck, be_nz, be_bk, be_div, not_true_eq_false, not_false_eq_true, if_true, if_false, eq_self, Int.reduceEq, Int.reduceLT, Int.reduceLE, Bool.true_eq_false, Bool.false_eq_true, r52, q40, g40, g41, am_b100_42, am_b100_48, am_b100_56, am_b100_64, am_b100_72, am_b100_79]; rfl
  · simp (disch := (first | assumption | omega | exact (be_gB _ _ _).1 | exact (be_gB _ _ _).2)) only [↓reduceIte, be_ofI, ↓be_ofN, ↓be_0, be_add, be_sub, be_mul, be_neg, be_rem, be_bi, be_bl, be_bv, be_br, be_bE0, be_bE1, be_b1E, be_b0E, be_bkb, be_cast, Int.toNat_natCast, Int.reduceToNat, be_lt, be_le, be_eq, be_nt, be_ck, be_nz, be_bk, be_div, not_true_eq_false, not_false_eq_true, if_true, if_false, eq_self, Int.reduceEq, Int.reduceLT, Int.reduceLE, Bool.true_eq_false, Bool.false_eq_true, r52, g0, am_b100_42, am_b100_48, am_b100_56, am_b100_64, am_b100_72, am_b100_79]; rfl
  · simp (disch := (first | assumption | omega | exact (be_gB _ _ _).1 | exact (be_gB _ _ _).2)) only [↓reduceIte, be_ofI, ↓be_ofN, ↓be_0, be_add, be_sub, be_mul, be_neg, be_rem, be_bi, be_bl, be_bv, be_br, be_bE0, be_bE1, be_b1E, be_b0E, be_bkb, be_cast, Int.toNat_natCast, Int.reduceToNat, be_lt, be_le, be_eq, be_nt, be_ck, be_nz, be_bk, be_div, not_true_eq_false, not_false_eq_true, if_true, if_false, eq_self, Int.reduceEq, Int.reduceLT, Int.reduceLE, Bool.true_eq_false, Bool.false_eq_true, r52, q60, g60, am_b100_42, am_b100_48, am_b100_56, am_b100_64, am_b100_72, am_b100_79]; rfl
  · simp (disch := (first | assumption | omega | exact (be_gB _ _ _).1 | exact (be_gB _ _ _).2)) only [↓reduceIte, be_ofI, ↓be_ofN, ↓be_0, be_add, be_sub, be_mul, be_neg, be_rem, be_bi, be_bl, be_bv, be_br, be_bE0, be_bE1, be_b1E, be_b0E, be_bkb, be_cast, Int.toNat_natCast, Int.reduceToNat, be_lt, be_le, be_eq, be_nt, be_ck, be_nz, be_bk, be_div, not_true_eq_false, not_false_eq_true, if_true, if_false, eq_self, Int.reduceEq, Int.reduceLT, Int.reduceLE, Bool.true_eq_false, Bool.false_eq_true, r52, q40, g40, g41, am_b100_42, am_b100_48, am_b100_56, am_b100_64, am_b100_72, am_b100_79]; rfl
/-! the class -/
theorem be_r200 (X : am_X) : am_ro X 201 0 0 = be_i 10 := rfl
theorem be_r201 (X : am_X) : am_ro X 201 0 1 = be_i 11 := rfl
theorem be_r202 (X : am_X) : am_ro X 201 0 2 = be_i 12 := rfl
theorem be_r203 (X : am_X) : am_ro X 201 0 3 = be_i 0 := rfl
theorem be_r204 (X : am_X) : am_ro X 201 0 4 = be_i 20 := rfl
theorem be_r205 (X : am_X) : am_ro X 201 0 5 = be_i 0 := rfl
theorem be_r206 (X : am_X) : am_ro X 201 0 6 = be_i 30 := rfl
theorem be_r207 (X : am_X) : am_ro X 201 0 7 = be_i 0 := rfl
theorem be_r208 (X : am_X) : am_ro X 201 0 8 = be_i 0 := rfl
theorem be_r209 (X : am_X) : am_ro X 201 0 9 = be_i 0 := rfl
theorem be_r210 (X : am_X) : am_ro X 201 0 10 = be_i 0 := rfl
theorem be_r211 (X : am_X) : am_ro X 201 0 11 = be_i 40 := rfl
theorem be_r212 (X : am_X) : am_ro X 201 0 12 = be_i 50 := rfl
theorem be_r213 (X : am_X) : am_ro X 201 0 13 = be_i 51 := rfl
theorem be_r214 (X : am_X) : am_ro X 201 0 14 = be_i 0 := rfl
theorem be_r215 (X : am_X) : am_ro X 201 0 15 = be_i 0 := rfl
theorem be_r216 (X : am_X) : am_ro X 201 0 16 = be_i 0 := rfl
theorem be_r217 (X : am_X) : am_ro X 201 0 17 = be_i 60 := rfl
theorem be_r218 (X : am_X) : am_ro X 201 0 18 = be_i 71 := rfl
theorem be_r219 (X : am_X) : am_ro X 201 0 19 = be_i 70 := rfl
theorem be_r220 (X : am_X) : am_ro X 201 0 20 = be_i 0 := rfl
theorem be_r100 (X : am_X) : am_ro X 200 0 0 = be_i (-1) := rfl
theorem be_r101 (X : am_X) : am_ro X 200 0 1 = be_i 0 := rfl
theorem be_r102 (X : am_X) : am_ro X 200 0 2 = be_i 0 := rfl
theorem be_r103 (X : am_X) : am_ro X 200 0 3 = be_i 0 := rfl
theorem be_r104 (X : am_X) : am_ro X 200 0 4 = be_i 1 := rfl
theorem be_r105 (X : am_X) : am_ro X 200 0 5 = be_i 2 := rfl
theorem be_r106 (X : am_X) : am_ro X 200 0 6 = be_i 3 := rfl
theorem be_ow00 (hd : 1 ≤ d) : am_sem X d 128 [am_I (be_i (0)), am_I (be_i (0))] (am_sd a b u e f) = some (some (am_I (be_i (0))), (am_sd a b u e f)) := by
  obtain ⟨d, rfl⟩ : ∃ q, d = q + 1 := ⟨d - 1, by omega⟩
  rw [am_s128]
  simp (disch := (first | assumption | omega | exact (be_gB _ _ _).1 | exact (be_gB _ _ _).2)) only [↓reduceIte, be_ofI, ↓be_ofN, ↓be_0, be_add, be_sub, be_mul, be_neg, be_rem, be_bi, be_bl, be_bv, be_br, be_bE0, be_bE1, be_b1E, be_b0E, be_bkb, be_cast, Int.toNat_natCast, Int.reduceToNat, be_lt, be_le, be_eq, be_nt, be_ck, be_nz, be_bk, be_div, not_true_eq_false, not_false_eq_true, if_true, if_false, eq_self, Int.reduceEq, Int.reduceLT, Int.reduceLE, Bool.true_eq_false, Bool.false_eq_true, am_b128_4, be_r200, be_r201, be_r202, be_r203, be_r204, be_r205, be_r206, be_r207, be_r208, be_r209, be_r210, be_r211, be_r212, be_r213, be_r214, be_r215, be_r216, be_r217, be_r218, be_r219, be_r220, be_r100, be_r101, be_r102, be_r103, be_r104, be_r105, be_r106, Int.reduceAdd, Int.reduceMul]
theorem be_ow01 (hd : 1 ≤ d) : am_sem X d 128 [am_I (be_i (0)), am_I (be_i (1))] (am_sd a b u e f) = some (some (am_I (be_i (0))), (am_sd a b u e f)) := by
  obtain ⟨d, rfl⟩ : ∃ q, d = q + 1 := ⟨d - 1, by omega⟩
  rw [am_s128]
  simp (disch := (first | assumption | omega | exact (be_gB _ _ _).1 | exact (be_gB _ _ _).2)) only [↓reduceIte, be_ofI, ↓be_ofN, ↓be_0, be_add, be_sub, be_mul, be_neg, be_rem, be_bi, be_bl, be_bv, be_br, be_bE0, be_bE1, be_b1E, be_b0E, be_bkb, be_cast, Int.toNat_natCast, Int.reduceToNat, be_lt, be_le, be_eq, be_nt, be_ck, be_nz, be_bk, be_div, not_true_eq_false, not_false_eq_true, if_true, if_false, eq_self, Int.reduceEq, Int.reduceLT, Int.reduceLE, Bool.true_eq_false, Bool.false_eq_true, am_b128_4, be_r200, be_r201, be_r202, be_r203, be_r204, be_r205, be_r206, be_r207, be_r208, be_r209, be_r210, be_r211, be_r212, be_r213, be_r214, be_r215, be_r216, be_r217, be_r218, be_r219, be_r220, be_r100, be_r101, be_r102, be_r103, be_r104, be_r105, be_r106, Int.reduceAdd, Int.reduceMul]
theorem be_ow02 (hd : 1 ≤ d) : am_sem X d 128 [am_I (be_i (0)), am_I (be_i (2))] (am_sd a b u e f) = some (some (am_I (be_i (0))), (am_sd a b u e f)) := by
  obtain ⟨d, rfl⟩ : ∃ q, d = q + 1 := ⟨d - 1, by omega⟩
  rw [am_s128]
  simp (disch := (first | assumption | omega | exact (be_gB _ _ _).1 | exact (be_gB _ _ _).2)) only [↓reduceIte, be_ofI, ↓be_ofN, ↓be_0, be_add, be_sub, be_mul, be_neg, be_rem, be_bi, be_bl, be_bv, be_br, be_bE0, be_bE1, be_b1E, be_b0E, be_bkb, be_cast, Int.toNat_natCast, Int.reduceToNat, be_lt, be_le, be_eq, be_nt, be_ck, be_nz, be_bk, be_div, not_true_eq_false, not_false_eq_true, if_true, if_false, eq_self, Int.reduceEq, Int.reduceLT, Int.reduceLE, Bool.true_eq_false, Bool.false_eq_true, am_b128_4, be_r200, be_r201, be_r202, be_r203, be_r204, be_r205, be_r206, be_r207, be_r208, be_r209, be_r210, be_r211, be_r212, be_r213, be_r214, be_r215, be_r216, be_r217, be_r218, be_r219, be_r220, be_r100, be_r101, be_r102, be_r103, be_r104, be_r105, be_r106, Int.reduceAdd, Int.reduceMul]
theorem be_ow10 (hd : 1 ≤ d) : am_sem X d 128 [am_I (be_i (1)), am_I (be_i (0))] (am_sd a b u e f) = some (some (am_I (be_i (0))), (am_sd a b u e f)) := by
  obtain ⟨d, rfl⟩ : ∃ q, d = q + 1 := ⟨d - 1, by omega⟩
  rw [am_s128]
  simp (disch := (first | assumption | omega | exact (be_gB _ _ _).1 | exact (be_gB _ _ _).2)) only [↓reduceIte, be_ofI, ↓be_ofN, ↓be_0, be_add, be_sub, be_mul, be_neg, be_rem, be_bi, be_bl, be_bv, be_br, be_bE0, be_bE1, be_b1E, be_b0E, be_bkb, be_cast, Int.toNat_natCast, Int.reduceToNat, be_lt, be_le, be_eq, be_nt, be_ck, be_nz, be_bk, be_div, not_true_eq_false, not_false_eq_true, if_true, if_false, eq_self, Int.reduceEq, Int.reduceLT, Int.reduceLE, Bool.true_eq_false, Bool.false_eq_true, am_b128_4, be_r200, be_r201, be_r202, be_r203, be_r204, be_r205, be_r206, be_r207, be_r208, be_r209, be_r210, be_r211, be_r212, be_r213, be_r214, be_r215, be_r216, be_r217, be_r218, be_r219, be_r220, be_r100, be_r101, be_r102, be_r103, be_r104, be_r105, be_r106, Int.reduceAdd, Int.reduceMul]
theorem be_ow11 (hd : 1 ≤ d) : am_sem X d 128 [am_I (be_i (1)), am_I (be_i (1))] (am_sd a b u e f) = some (some (am_I (be_i (1))), (am_sd a b u e f)) := by
  obtain ⟨d, rfl⟩ : ∃ q, d = q + 1 := ⟨d - 1, by omega⟩
  rw [am_s128]
  simp (disch := (first | assumption | omega | exact (be_gB _ _ _).1 | exact (be_gB _ _ _).2)) only [↓reduceIte, be_ofI, ↓be_ofN, ↓be_0, be_add, be_sub, be_mul, be_neg, be_rem, be_bi, be_bl, be_bv, be_br, be_bE0, be_bE1, be_b1E, be_b0E, be_bkb, be_cast, Int.toNat_natCast, Int.reduceToNat, be_lt, be_le, be_eq, be_nt, be_ck, be_nz, be_bk, be_div, not_true_eq_false, not_false_eq_true, if_true, if_false, eq_self, Int.reduceEq, Int.reduceLT, Int.reduceLE, Bool.true_eq_false, Bool.false_eq_true, am_b128_4, be_r200, be_r201, be_r202, be_r203, be_r204, be_r205, be_r206, be_r207, be_r208, be_r209, be_r210, be_r211, be_r212, be_r213, be_r214, be_r215, be_r216, be_r217, be_r218, be_r219, be_r220, be_r100, be_r101, be_r102, be_r103, be_r104, be_r105, be_r106, Int.reduceAdd, Int.reduceMul]
theorem be_ow12 (hd : 1 ≤ d) : am_sem X d 128 [am_I (be_i (1)), am_I (be_i (2))] (am_sd a b u e f) = some (some (am_I (be_i (0))), (am_sd a b u e f)) := by
  obtain ⟨d, rfl⟩ : ∃ q, d = q + 1 := ⟨d - 1, by omega⟩
  rw [am_s128]
  simp (disch := (first | assumption | omega | exact (be_gB _ _ _).1 | exact (be_gB _ _ _).2)) only [↓reduceIte, be_ofI, ↓be_ofN, ↓be_0, be_add, be_sub, be_mul, be_neg, be_rem, be_bi, be_bl, be_bv, be_br, be_bE0, be_bE1, be_b1E, be_b0E, be_bkb, be_cast, Int.toNat_natCast, Int.reduceToNat, be_lt, be_le, be_eq, be_nt, be_ck, be_nz, be_bk, be_div, not_true_eq_false, not_false_eq_true, if_true, if_false, eq_self, Int.reduceEq, Int.reduceLT, Int.reduceLE, Bool.true_eq_false, Bool.false_eq_true, am_b128_4, be_r200, be_r201, be_r202, be_r203, be_r204, be_r205, be_r206, be_r207, be_r208, be_r209, be_r210, be_r211, be_r212, be_r213, be_r214, be_r215, be_r216, be_r217, be_r218, be_r219, be_r220, be_r100, be_r101, be_r102, be_r103, be_r104, be_r105, be_r106, Int.reduceAdd, Int.reduceMul]
theorem be_ow20 (hd : 1 ≤ d) : am_sem X d 128 [am_I (be_i (2)), am_I (be_i (0))] (am_sd a b u e f) = some (some (am_I (be_i (2))), (am_sd a b u e f)) := by
  obtain ⟨d, rfl⟩ : ∃ q, d = q + 1 := ⟨d - 1, by omega⟩
  rw [am_s128]
  simp (disch := (first | assumption | omega | exact (be_gB _ _ _).1 | exact (be_gB _ _ _).2)) only [↓reduceIte, be_ofI, ↓be_ofN, ↓be_0, be_add, be_sub, be_mul, be_neg, be_rem, be_bi, be_bl, be_bv, be_br, be_bE0, be_bE1, be_b1E, be_b0E, be_bkb, be_cast, Int.toNat_natCast, Int.reduceToNat, be_lt, be_le, be_eq, be_nt, be_ck, be_nz, be_bk, be_div, not_true_eq_false, not_false_eq_true, if_true, if_false, eq_self, Int.reduceEq, Int.reduceLT, Int.reduceLE, Bool.true_eq_false, Bool.false_eq_true, am_b128_4, be_r200, be_r201, be_r202, be_r203, be_r204, be_r205, be_r206, be_r207, be_r208, be_r209, be_r210, be_r211, be_r212, be_r213, be_r214, be_r215, be_r216, be_r217, be_r218, be_r219, be_r220, be_r100, be_r101, be_r102, be_r103, be_r104, be_r105, be_r106, Int.reduceAdd, Int.reduceMul]
theorem be_ow21 (hd : 1 ≤ d) : am_sem X d 128 [am_I (be_i (2)), am_I (be_i (1))] (am_sd a b u e f) = some (some (am_I (be_i (0))), (am_sd a b u e f)) := by
  obtain ⟨d, rfl⟩ : ∃ q, d = q + 1 := ⟨d - 1, by omega⟩
  rw [am_s128]
  simp (disch := (first | assumption | omega | exact (be_gB _ _ _).1 | exact (be_gB _ _ _).2)) only [↓reduceIte, be_ofI, ↓be_ofN, ↓be_0, be_add, be_sub, be_mul, be_neg, be_rem, be_bi, be_bl, be_bv, be_br, be_bE0, be_bE1, be_b1E, be_b0E, be_bkb, be_cast, Int.toNat_natCast, Int.reduceToNat, be_lt, be_le, be_eq, be_nt, be_ck, be_nz, be_bk, be_div, not_true_eq_false, not_false_eq_true, if_true, if_false, eq_self, Int.reduceEq, Int.reduceLT, Int.reduceLE, Bool.true_eq_false, Bool.false_eq_true, am_b128_4, be_r200, be_r201, be_r202, be_r203, be_r204, be_r205, be_r206, be_r207, be_r208, be_r209, be_r210, be_r211, be_r212, be_r213, be_r214, be_r215, be_r216, be_r217, be_r218, be_r219, be_r220, be_r100, be_r101, be_r102, be_r103, be_r104, be_r105, be_r106, Int.reduceAdd, Int.reduceMul]
theorem be_ow22 (hd : 1 ≤ d) : am_sem X d 128 [am_I (be_i (2)), am_I (be_i (2))] (am_sd a b u e f) = some (some (am_I (be_i (0))), (am_sd a b u e f)) := by
  obtain ⟨d, rfl⟩ : ∃ q, d = q + 1 := ⟨d - 1, by omega⟩
  rw [am_s128]
  simp (disch := (first | assumption | omega | exact (be_gB _ _ _).1 | exact (be_gB _ _ _).2)) only [↓reduceIte, be_ofI, ↓be_ofN, ↓be_0, be_add, be_sub, be_mul, be_neg, be_rem, be_bi, be_bl, be_bv, be_br, be_bE0, be_bE1, be_b1E, be_b0E, be_bkb, be_cast, Int.toNat_natCast, Int.reduceToNat, be_lt, be_le, be_eq, be_nt, be_ck, be_nz, be_bk, be_div, not_true_eq_false, not_false_eq_true, if_true, if_false, eq_self, Int.reduceEq, Int.reduceLT, Int.reduceLE, Bool.true_eq_false, Bool.false_eq_true, am_b128_4, be_r200, be_r201, be_r202, be_r203, be_r204, be_r205, be_r206, be_r207, be_r208, be_r209, be_r210, be_r211, be_r212, be_r213, be_r214, be_r215, be_r216, be_r217, be_r218, be_r219, be_r220, be_r100, be_r101, be_r102, be_r103, be_r104, be_r105, be_r106, Int.reduceAdd, Int.reduceMul]
theorem be_ow30 (hd : 1 ≤ d) : am_sem X d 128 [am_I (be_i (3)), am_I (be_i (0))] (am_sd a b u e f) = some (some (am_I (be_i (0))), (am_sd a b u e f)) := by
  obtain ⟨d, rfl⟩ : ∃ q, d = q + 1 := ⟨d - 1, by omega⟩
  rw [am_s128]
  simp (disch := (first | assumption | omega | exact (be_gB _ _ _).1 | exact (be_gB _ _ _).2)) only [↓reduceIte, be_ofI, ↓be_ofN, ↓be_0, be_add, be_sub, be_mul, be_neg, be_rem, be_bi, be_bl, be_bv, be_br, be_bE0, be_bE1, be_b1E, be_b0E, be_bkb, be_cast, Int.toNat_natCast, Int.reduceToNat, be_lt, be_le, be_eq, be_nt, be_ck, be_nz, be_bk, be_div, not_true_eq_false, not_false_eq_true, if_true, if_false, eq_self, Int.reduceEq, Int.reduceLT, Int.reduceLE, Bool.true_eq_false, Bool.false_eq_true, am_b128_4, be_r200, be_r201, be_r202, be_r203, be_r204, be_r205, be_r206, be_r207, be_r208, be_r209, be_r210, be_r211, be_r212, be_r213, be_r214, be_r215, be_r216, be_r217, be_r218, be_r219, be_r220, be_r100, be_r101, be_r102, be_r103, be_r104, be_r105, be_r106, Int.reduceAdd, Int.reduceMul]
theorem be_ow31 (hd : 1 ≤ d) : am_sem X d 128 [am_I (be_i (3)), am_I (be_i (1))] (am_sd a b u e f) = some (some (am_I (be_i (0))), (am_sd a b u e f)) := by
  obtain ⟨d, rfl⟩ : ∃ q, d = q + 1 := ⟨d - 1, by omega⟩
  rw [am_s128]
  simp (disch := (first | assumption | omega | exact (be_gB _ _ _).1 | exact (be_gB _ _ _).2)) only [↓reduceIte, be_ofI, ↓be_ofN, ↓be_0, be_add, be_sub, be_mul, be_neg, be_rem, be_bi, be_bl, be_bv, be_br, be_bE0, be_bE1, be_b1E, be_b0E, be_bkb, be_cast, Int.toNat_natCast, Int.reduceToNat, be_lt, be_le, be_eq, be_nt, be_ck, be_nz, be_bk, be_div, not_true_eq_false, not_false_eq_true, if_true, if_false, eq_self, Int.reduceEq, Int.reduceLT, Int.reduceLE, Bool.true_eq_false, Bool.false_eq_true, am_b128_4, be_r200, be_r201, be_r202, be_r203, be_r204, be_r205, be_r206, be_r207, be_r208, be_r209, be_r210, be_r211, be_r212, be_r213, be_r214, be_r215, be_r216, be_r217, be_r218, be_r219, be_r220, be_r100, be_r101, be_r102, be_r103, be_r104, be_r105, be_r106, Int.reduceAdd, Int.reduceMul]
theorem be_ow32 (hd : 1 ≤ d) : am_sem X d 128 [am_I (be_i (3)), am_I (be_i (2))] (am_sd a b u e f) = some (some (am_I (be_i (3))), (am_sd a b u e f)) := by
  obtain ⟨d, rfl⟩ : ∃ q, d = q + 1 := ⟨d - 1, by omega⟩
  rw [am_s128]
  simp (disch := (first | assumption | omega | exact (be_gB _ _ _).1 | exact (be_gB _ _ _).2)) only [↓reduceIte, be_ofI, ↓be_ofN, ↓be_0, be_add, be_sub, be_mul, be_neg, be_rem, be_bi, be_bl, be_bv, be_br, be_bE0, be_bE1, be_b1E, be_b0E, be_bkb, be_cast, Int.toNat_natCast, Int.reduceToNat, be_lt, be_le, be_eq, be_nt, be_ck, be_nz, be_bk, be_div, not_true_eq_false, not_false_eq_true, if_true, if_false, eq_self, Int.reduceEq, Int.reduceLT, Int.reduceLE, Bool.true_eq_false, Bool.false_eq_true, am_b128_4, be_r200, be_r201, be_r202, be_r203, be_r204, be_r205, be_r206, be_r207, be_r208, be_r209, be_r210, be_r211, be_r212, be_r213, be_r214, be_r215, be_r216, be_r217, be_r218, be_r219, be_r220, be_r100, be_r101, be_r102, be_r103, be_r104, be_r105, be_r106, Int.reduceAdd, Int.reduceMul]
theorem be_ow40 (hd : 1 ≤ d) : am_sem X d 128 [am_I (be_i (4)), am_I (be_i (0))] (am_sd a b u e f) = some (some (am_I (be_i (4))), (am_sd a b u e f)) := by
  obtain ⟨d, rfl⟩ : ∃ q, d = q + 1 := ⟨d - 1, by omega⟩
  rw [am_s128]
  simp (disch := (first | assumption | omega | exact (be_gB _ _ _).1 | exact (be_gB _ _ _).2)) only [↓reduceIte, be_ofI, ↓be_ofN, ↓be_0, be_add, be_sub, be_mul, be_neg, be_rem, be_bi, be_bl, be_bv, be_br, be_bE0, be_bE1, be_b1E, be_b0E, be_bkb, be_cast, Int.toNat_natCast, Int.reduceToNat, be_lt, be_le, be_eq, be_nt, be_ck, be_nz, be_bk, be_div, not_true_eq_false, not_false_eq_true, if_true, if_false, eq_self, Int.reduceEq, Int.reduceLT, Int.reduceLE, Bool.true_eq_false, Bool.false_eq_true, am_b128_4, be_r200, be_r201, be_r202, be_r203, be_r204, be_r205, be_r206, be_r207, be_r208, be_r209, be_r210, be_r211, be_r212, be_r213, be_r214, be_r215, be_r216, be_r217, be_r218, be_r219, be_r220, be_r100, be_r101, be_r102, be_r103, be_r104, be_r105, be_r106, Int.reduceAdd, Int.reduceMul]
theorem be_ow41 (hd : 1 ≤ d) : am_sem X d 128 [am_I (be_i (4)), am_I (be_i (1))] (am_sd a b u e f) = some (some (am_I (be_i (4))), (am_sd a b u e f)) := by
  obtain ⟨d, rfl⟩ : ∃ q, d = q + 1 := ⟨d - 1, by omega⟩
  rw [am_s128]
  simp (disch := (first | assumption | omega | exact (be_gB _ _ _).1 | exact (be_gB _ _ _).2)) only [↓reduceIte, be_ofI, ↓be_ofN, ↓be_0, be_add, be_sub, be_mul, be_neg, be_rem, be_bi, be_bl, be_bv, be_br, be_bE0, be_bE1, be_b1E, be_b0E, be_bkb, be_cast, Int.toNat_natCast, Int.reduceToNat, be_lt, be_le, be_eq, be_nt, be_ck, be_nz, be_bk, be_div, not_true_eq_false, not_false_eq_true, if_true, if_false, eq_self, Int.reduceEq, Int.reduceLT, Int.reduceLE, Bool.true_eq_false, Bool.false_eq_true, am_b128_4, be_r200, be_r201, be_r202, be_r203, be_r204, be_r205, be_r206, be_r207, be_r208, be_r209, be_r210, be_r211, be_r212, be_r213, be_r214, be_r215, be_r216, be_r217, be_r218, be_r219, be_r220, be_r100, be_r101, be_r102, be_r103, be_r104, be_r105, be_r106, Int.reduceAdd, Int.reduceMul]
theorem be_ow42 (hd : 1 ≤ d) : am_sem X d 128 [am_I (be_i (4)), am_I (be_i (2))] (am_sd a b u e f) = some (some (am_I (be_i (0))), (am_sd a b u e f)) := by
  obtain ⟨d, rfl⟩ : ∃ q, d = q + 1 := ⟨d - 1, by omega⟩
  rw [am_s128]
  simp (disch := (first | assumption | omega | exact (be_gB _ _ _).1 | exact (be_gB _ _ _).2)) only [↓reduceIte, be_ofI, ↓be_ofN, ↓be_0, be_add, be_sub, be_mul, be_neg, be_rem, be_bi, be_bl, be_bv, be_br, be_bE0, be_bE1, be_b1E, be_b0E, be_bkb, be_cast, Int.toNat_natCast, Int.reduceToNat, be_lt, be_le, be_eq, be_nt, be_ck, be_nz, be_bk, be_div, not_true_eq_false, not_false_eq_true, if_true, if_false, eq_self, Int.reduceEq, Int.reduceLT, Int.reduceLE, Bool.true_eq_false, Bool.false_eq_true, am_b128_4, be_r200, be_r201, be_r202, be_r203, be_r204, be_r205, be_r206, be_r207, be_r208, be_r209, be_r210, be_r211, be_r212, be_r213, be_r214, be_r215, be_r216, be_r217, be_r218, be_r219, be_r220, be_r100, be_r101, be_r102, be_r103, be_r104, be_r105, be_r106, Int.reduceAdd, Int.reduceMul]
theorem be_ow50 (hd : 1 ≤ d) : am_sem X d 128 [am_I (be_i (5)), am_I (be_i (0))] (am_sd a b u e f) = some (some (am_I (be_i (2))), (am_sd a b u e f)) := by
  obtain ⟨d, rfl⟩ : ∃ q, d = q + 1 := ⟨d - 1, by omega⟩
  rw [am_s128]
  simp (disch := (first | assumption | omega | exact (be_gB _ _ _).1 | exact (be_gB _ _ _).2)) only [↓reduceIte, be_ofI, ↓be_ofN, ↓be_0, be_add, be_sub, be_mul, be_neg, be_rem, be_bi, be_bl, be_bv, be_br, be_bE0, be_bE1, be_b1E, be_b0E, be_bkb, be_cast, Int.toNat_natCast, Int.reduceToNat, be_lt, be_le, be_eq, be_nt, be_ck, be_nz, be_bk, be_div, not_true_eq_false, not_false_eq_true, if_true, if_false, eq_self, Int.reduceEq, Int.reduceLT, Int.reduceLE, Bool.true_eq_false, Bool.false_eq_true, am_b128_4, be_r200, be_r201, be_r202, be_r203, be_r204, be_r205, be_r206, be_r207, be_r208, be_r209, be_r210, be_r211, be_r212, be_r213, be_r214, be_r215, be_r216, be_r217, be_r218, be_r219, be_r220, be_r100, be_r101, be_r102, be_r103, be_r104, be_r105, be_r106, Int.reduceAdd, Int.reduceMul]
theorem be_ow51 (hd : 1 ≤ d) : am_sem X d 128 [am_I (be_i (5)), am_I (be_i (1))] (am_sd a b u e f) = some (some (am_I (be_i (0))), (am_sd a b u e f)) := by
  obtain ⟨d, rfl⟩ : ∃ q, d = q + 1 := ⟨d - 1, by omega⟩
  rw [am_s128]
  simp (disch := (first | assumption | omega | exact (be_gB _ _ _).1 | exact (be_gB _ _ _).2)) only [↓reduceIte, be_ofI, ↓be_ofN, ↓be_0, be_add, be_sub, be_mul, be_neg, be_rem, be_bi, be_bl, be_bv, be_br, be_bE0, be_bE1, be_b1E, be_b0E, be_bkb, be_cast, Int.toNat_natCast, Int.reduceToNat, be_lt, be_le, be_eq, be_nt, be_ck, be_nz, be_bk, be_div, not_true_eq_false, not_false_eq_true, if_true, if_false, eq_self, Int.reduceEq, Int.reduceLT, Int.reduceLE, Bool.true_eq_false, Bool.false_eq_true, am_b128_4, be_r200, be_r201, be_r202, be_r203, be_r204, be_r205, be_r206, be_r207, be_r208, be_r209, be_r210, be_r211, be_r212, be_r213, be_r214, be_r215, be_r216, be_r217, be_r218, be_r219, be_r220, be_r100, be_r101, be_r102, be_r103, be_r104, be_r105, be_r106, Int.reduceAdd, Int.reduceMul]
theorem be_ow52 (hd : 1 ≤ d) : am_sem X d 128 [am_I (be_i (5)), am_I (be_i (2))] (am_sd a b u e f) = some (some (am_I (be_i (5))), (am_sd a b u e f)) := by
  obtain ⟨d, rfl⟩ : ∃ q, d = q + 1 := ⟨d - 1, by omega⟩
  rw [am_s128]
  simp (disch := (first | assumption | omega | exact (be_gB _ _ _).1 | exact (be_gB _ _ _).2)) only [↓reduceIte, be_ofI, ↓be_ofN, ↓be_0, be_add, be_sub, be_mul, be_neg, be_rem, be_bi, be_bl, be_bv, be_br, be_bE0, be_bE1, be_b1E, be_b0E, be_bkb, be_cast, Int.toNat_natCast, Int.reduceToNat, be_lt, be_le, be_eq, be_nt, be_ck, be_nz, be_bk, be_div, not_true_eq_false, not_false_eq_true, if_true, if_false, eq_self, Int.reduceEq, Int.reduceLT, Int.reduceLE, Bool.true_eq_false, Bool.false_eq_true, am_b128_4, be_r200, be_r201, be_r202, be_r203, be_r204, be_r205, be_r206, be_r207, be_r208, be_r209, be_r210, be_r211, be_r212, be_r213, be_r214, be_r215, be_r216, be_r217, be_r218, be_r219, be_r220, be_r100, be_r101, be_r102, be_r103, be_r104, be_r105, be_r106, Int.reduceAdd, Int.reduceMul]
theorem be_ow60 (hd : 1 ≤ d) : am_sem X d 128 [am_I (be_i (6)), am_I (be_i (0))] (am_sd a b u e f) = some (some (am_I (be_i (6))), (am_sd a b u e f)) := by
  obtain ⟨d, rfl⟩ : ∃ q, d = q + 1 := ⟨d - 1, by omega⟩
  rw [am_s128]
  simp (disch := (first | assumption | omega | exact (be_gB _ _ _).1 | exact (be_gB _ _ _).2)) only [↓reduceIte, be_ofI, ↓be_ofN, ↓be_0, be_add, be_sub, be_mul, be_neg, be_rem, be_bi, be_bl, be_bv, be_br, be_bE0, be_bE1, be_b1E, be_b0E, be_bkb, be_cast, Int.toNat_natCast, Int.reduceToNat, be_lt, be_le, be_eq, be_nt, be_ck, be_nz, be_bk, be_div, not_true_eq_false, not_false_eq_true, if_true, if_false, eq_self, Int.reduceEq, Int.reduceLT, Int.reduceLE, Bool.true_eq_false, Bool.false_eq_true, am_b128_4, be_r200, be_r201, be_r202, be_r203, be_r204, be_r205, be_r206, be_r207, be_r208, be_r209, be_r210, be_r211, be_r212, be_r213, be_r214, be_r215, be_r216, be_r217, be_r218, be_r219, be_r220, be_r100, be_r101, be_r102, be_r103, be_r104, be_r105, be_r106, Int.reduceAdd, Int.reduceMul]
theorem be_ow61 (hd : 1 ≤ d) : am_sem X d 128 [am_I (be_i (6)), am_I (be_i (1))] (am_sd a b u e f) = some (some (am_I (be_i (6))), (am_sd a b u e f)) := by
  obtain ⟨d, rfl⟩ : ∃ q, d = q + 1 := ⟨d - 1, by omega⟩
  rw [am_s128]
  simp (disch := (first | assumption | omega | exact (be_gB _ _ _).1 | exact (be_gB _ _ _).2)) only [↓reduceIte, be_ofI, ↓be_ofN, ↓be_0, be_add, be_sub, be_mul, be_neg, be_rem, be_bi, be_bl, be_bv, be_br, be_bE0, be_bE1, be_b1E, be_b0E, be_bkb, be_cast, Int.toNat_natCast, Int.reduceToNat, be_lt, be_le, be_eq, be_nt, be_ck, be_nz, be_bk, be_div, not_true_eq_false, not_false_eq_true, if_true, if_false, eq_self, Int.reduceEq, Int.reduceLT, Int.reduceLE, Bool.true_eq_false, Bool.false_eq_true, am_b128_4, be_r200, be_r201, be_r202, be_r203, be_r204, be_r205, be_r206, be_r207, be_r208, be_r209, be_r210, be_r211, be_r212, be_r213, be_r214, be_r215, be_r216, be_r217, be_r218, be_r219, be_r220, be_r100, be_r101, be_r102, be_r103, be_r104, be_r105, be_r106, Int.reduceAdd, Int.reduceMul]
theorem be_ow62 (hd : 1 ≤ d) : am_sem X d 128 [am_I (be_i (6)), am_I (be_i (2))] (am_sd a b u e f) = some (some (am_I (be_i (3))), (am_sd a b u e f)) := by
  obtain ⟨d, rfl⟩ : ∃ q, d = q + 1 := ⟨d - 1, by omega⟩
  rw [am_s128]
  simp (disch := (first | assumption | omega | exact (be_gB _ _ _).1 | exact (be_gB _ _ _).2)) only [↓reduceIte, be_ofI, ↓be_ofN, ↓be_0, be_add, be_sub, be_mul, be_neg, be_rem, be_bi, be_bl, be_bv, be_br, be_bE0, be_bE1, be_b1E, be_b0E, be_bkb, be_cast, Int.toNat_natCast, Int.reduceToNat, be_lt, be_le, be_eq, be_nt, be_ck, be_nz, be_bk, be_div, not_true_eq_false, not_false_eq_true, if_true, if_false, eq_self, Int.reduceEq, Int.reduceLT, Int.reduceLE, Bool.true_eq_false, Bool.false_eq_true, am_b128_4, be_r200, be_r201, be_r202, be_r203, be_r204, be_r205, be_r206, be_r207, be_r208, be_r209, be_r210, be_r211, be_r212, be_r213, be_r214, be_r215, be_r216, be_r217, be_r218, be_r219, be_r220, be_r100, be_r101, be_r102, be_r103, be_r104, be_r105, be_r106, Int.reduceAdd, Int.reduceMul]
theorem be_run1 {k act o B : Int} (hd : 1 ≤ d) {h : Nat} {x : Int32} {p : Nat} (hp : p ≤ 40) (R : List Int) (hR : R.length < 20) (ho : am_sem X d 128 [am_I (be_i (k)), am_I (be_i (act))] (am_sd (be_tc a R) b u e f) = some (some (am_I (be_i o)), am_sd (be_tc a R) b u e f)) (o1 : 0 ≤ o) (o2 : o ≤ 6) (a1 : 0 ≤ act) (a2 : act ≤ 2) (hB : am_ro X 201 0 (o * 3 + act).toNat = be_i B) :
    am_sem X (d + 1) 127 [.inr (0, 0), .inr (1, h), am_I (be_i (k)), am_I (be_i (act)), am_I x, am_I (be_i ((p : Int)))] (am_sd (be_tc a R) b u e f) = am_fix (am_sem X d) X am_P127 39 [.inr (0, 0), .inr (1, h), am_I (be_i (k)), am_I (be_i (act)), am_I x, am_I (be_i ((p : Int))), am_I (be_i (o)), am_I (be_i (B)), am_un, am_un] [] (am_sd (be_tc a (B :: R)) b u e f) := by
  have hb := be_m129 (X := X) (a := a) (b := b) (u := u) (e := e) (f := f) (d := d) (B := B) hd R hR
  rw [am_s127, ho, be_bi, am_b127_5]
  simp (disch := (first | assumption | omega | exact (be_gB _ _ _).1 | exact (be_gB _ _ _).2)) only [be_ofI, ↓be_ofN, ↓be_0, be_lt, be_le, be_mul, be_add, be_nt, be_ck, hB, hb, be_bv]
  rw [if_neg (by omega), if_pos (by omega)]
theorem be_c10_0 (hd : 2 ≤ d) {h : Nat} {κ i v : Int} (hκ : a 1 h 1 = be_i κ) (hi : a 1 h 0 = be_i i) (hv : a 1 h 2 = be_i v) (k1 : 0 ≤ κ) (k2 : κ ≤ 6) {x : Int32} {p : Nat} (hp : p ≤ 40) (R : List Int) (hR : R.length < 20) : am_sem X d 127 [.inr (0, 0), .inr (1, h), am_I (be_i (0)), am_I (be_i (0)), am_I x, am_I (be_i ((p : Int)))] (am_sd (be_tc a R) b u e f) = some (some (am_I (x + be_i i)), am_sd (be_tc a (10 :: R)) b u e f) := by
  obtain ⟨d, rfl⟩ : ∃ q, d = q + 1 := ⟨d - 1, by omega⟩
  obtain ⟨l1, l2, l3, l4, l5, l6⟩ := be_tLen κ
  have wκ : ∀ R, be_tc a R 1 h 1 = be_i κ := fun R => by rw [be_tc_n _ _ _ _ (by omega), hκ]
  have wi : ∀ R, be_tc a R 1 h 0 = be_i i := fun R => by rw [be_tc_n _ _ _ _ (by omega), hi]
  have wv : ∀ R, be_tc a R 1 h 2 = be_i v := fun R => by rw [be_tc_n _ _ _ _ (by omega), hv]
  rw [be_run1 (k := 0) (act := 0) (o := 0) (B := 10) (by omega) (by omega) R (by first | omega | (rw [List.length_cons]; omega) | (rw [List.length_append, List.length_cons]; omega)) (be_ow00 (by omega)) (by decide) (by decide) (by decide) (by decide) (be_r200 X), am_b127_39]
  simp (disch := (first | assumption | omega | exact (be_gB _ _ _).1 | exact (be_gB _ _ _).2)) only [↓reduceIte, be_ofI, ↓be_ofN, ↓be_0, be_add, be_sub, be_mul, be_neg, be_rem, be_bi, be_bl, be_bv, be_br, be_bE0, be_bE1, be_b1E, be_b0E, be_bkb, be_cast, Int.toNat_natCast, Int.reduceToNat, be_lt, be_le, be_eq, be_nt, be_ck, be_nz, be_bk, be_div, not_true_eq_false, not_false_eq_true, if_true, if_false, eq_self, Int.reduceEq, Int.reduceLT, Int.reduceLE, Bool.true_eq_false, Bool.false_eq_true, wκ, wi, wv, Int.reduceMul, Int.reduceAdd, be_r100, be_r101, be_r102, be_r103, be_r104, be_r105, be_r106, am_b127_174]
theorem be_c10_1 (hd : 2 ≤ d) {h : Nat} {κ i v : Int} (hκ : a 1 h 1 = be_i κ) (hi : a 1 h 0 = be_i i) (hv : a 1 h 2 = be_i v) (k1 : 0 ≤ κ) (k2 : κ ≤ 6) {x : Int32} {p : Nat} (hp : p ≤ 40) (R : List Int) (hR : R.length < 20) : am_sem X d 127 [.inr (0, 0), .inr (1, h), am_I (be_i (1)), am_I (be_i (0)), am_I x, am_I (be_i ((p : Int)))] (am_sd (be_tc a R) b u e f) = some (some (am_I (x + be_i i)), am_sd (be_tc a (10 :: R)) b u e f) := by
  obtain ⟨d, rfl⟩ : ∃ q, d = q + 1 := ⟨d - 1, by omega⟩
  obtain ⟨l1, l2, l3, l4, l5, l6⟩ := be_tLen κ
  have wκ : ∀ R, be_tc a R 1 h 1 = be_i κ := fun R => by rw [be_tc_n _ _ _ _ (by omega), hκ]
  have wi : ∀ R, be_tc a R 1 h 0 = be_i i := fun R => by rw [be_tc_n _ _ _ _ (by omega), hi]
  have wv : ∀ R, be_tc a R 1 h 2 = be_i v := fun R => by rw [be_tc_n _ _ _ _ (by omega), hv]
  rw [be_run1 (k := 1) (act := 0) (o := 0) (B := 10) (by omega) (by omega) R (by first | omega | (rw [List.length_cons]; omega) | (rw [List.length_append, List.length_cons]; omega)) (be_ow10 (by omega)) (by decide) (by decide) (by decide) (by decide) (be_r200 X), am_b127_39]
  simp (disch := (first | assumption | omega | exact (be_gB _ _ _).1 | exact (be_gB _ _ _).2)) only [↓reduceIte, be_ofI, ↓be_ofN, ↓be_0, be_add, be_sub, be_mul, be_neg, be_rem, be_bi, be_bl, be_bv, be_br, be_bE0, be_bE1, be_b1E, be_b0E, be_bkb, be_cast, Int.toNat_natCast, Int.reduceToNat, be_lt, be_le, be_eq, be_nt, be_ck, be_nz, be_bk, be_div, not_true_eq_false, not_false_eq_true, if_true, if_false, eq_self, Int.reduceEq, Int.reduceLT, Int.reduceLE, Bool.true_eq_false, Bool.false_eq_true, wκ, wi, wv, Int.reduceMul, Int.reduceAdd, be_r100, be_r101, be_r102, be_r103, be_r104, be_r105, be_r106, am_b127_174]
theorem be_c10_3 (hd : 2 ≤ d) {h : Nat} {κ i v : Int} (hκ : a 1 h 1 = be_i κ) (hi : a 1 h 0 = be_i i) (hv : a 1 h 2 = be_i v) (k1 : 0 ≤ κ) (k2 : κ ≤ 6) {x : Int32} {p : Nat} (hp : p ≤ 40) (R : List Int) (hR : R.length < 20) : am_sem X d 127 [.inr (0, 0), .inr (1, h), am_I (be_i (3)), am_I (be_i (0)), am_I x, am_I (be_i ((p : Int)))] (am_sd (be_tc a R) b u e f) = some (some (am_I (x + be_i i)), am_sd (be_tc a (10 :: R)) b u e f) := by
  obtain ⟨d, rfl⟩ : ∃ q, d = q + 1 := ⟨d - 1, by omega⟩
  obtain ⟨l1, l2, l3, l4, l5, l6⟩ := be_tLen κ
  have wκ : ∀ R, be_tc a R 1 h 1 = be_i κ := fun R => by rw [be_tc_n _ _ _ _ (by omega), hκ]
  have wi : ∀ R, be_tc a R 1 h 0 = be_i i := fun R => by rw [be_tc_n _ _ _ _ (by omega), hi]
  have wv : ∀ R, be_tc a R 1 h 2 = be_i v := fun R => by rw [be_tc_n _ _ _ _ (by omega), hv]
  rw [be_run1 (k := 3) (act := 0) (o := 0) (B := 10) (by omega) (by omega) R (by first | omega | (rw [List.length_cons]; omega) | (rw [List.length_append, List.length_cons]; omega)) (be_ow30 (by omega)) (by decide) (by decide) (by decide) (by decide) (be_r200 X), am_b127_39]
  simp (disch := (first | assumption | omega | exact (be_gB _ _ _).1 | exact (be_gB _ _ _).2)) only [↓reduceIte, be_ofI, ↓be_ofN, ↓be_0, be_add, be_sub, be_mul, be_neg, be_rem, be_bi, be_bl, be_bv, be_br, be_bE0, be_bE1, be_b1E, be_b0E, be_bkb, be_cast, Int.toNat_natCast, Int.reduceToNat, be_lt, be_le, be_eq, be_nt, be_ck, be_nz, be_bk, be_div, not_true_eq_false, not_false_eq_true, if_true, if_false, eq_self, Int.reduceEq, Int.reduceLT, Int.reduceLE, Bool.true_eq_false, Bool.false_eq_true, wκ, wi, wv, Int.reduceMul, Int.reduceAdd, be_r100, be_r101, be_r102, be_r103, be_r104, be_r105, be_r106, am_b127_174]
theorem be_cK (hd : 3 ≤ d) {h : Nat} {κ i v : Int} (hκ : a 1 h 1 = be_i κ) (hi : a 1 h 0 = be_i i) (hv : a 1 h 2 = be_i v) (k1 : 0 ≤ κ) (k2 : κ ≤ 6) {x : Int32} {p : Nat} (hp : p ≤ 39) (R : List Int) (hR : R.length + 2 ≤ 20) : am_sem X d 127 [.inr (0, 0), .inr (1, h), am_I (be_i (κ)), am_I (be_i (0)), am_I x, am_I (be_i ((p : Int)))] (am_sd (be_tc a R) b u e f) = some (some (am_I (be_vK κ (be_i i) (be_i v) x)), am_sd (be_tc a (be_tK κ ++ R)) b u e f) := by
  obtain ⟨d, rfl⟩ : ∃ q, d = q + 1 := ⟨d - 1, by omega⟩
  obtain ⟨l1, l2, l3, l4, l5, l6⟩ := be_tLen κ
  have wκ : ∀ R, be_tc a R 1 h 1 = be_i κ := fun R => by rw [be_tc_n _ _ _ _ (by omega), hκ]
  have wi : ∀ R, be_tc a R 1 h 0 = be_i i := fun R => by rw [be_tc_n _ _ _ _ (by omega), hi]
  have wv : ∀ R, be_tc a R 1 h 2 = be_i v := fun R => by rw [be_tc_n _ _ _ _ (by omega), hv]
  rcases (show κ = 0 ∨ κ = 1 ∨ κ = 2 ∨ κ = 3 ∨ κ = 4 ∨ κ = 5 ∨ κ = 6 by omega) with rfl | rfl | rfl | rfl | rfl | rfl | rfl
  · exact be_c10_0 (d := d + 1) (by omega) hκ hi hv k1 k2 (by omega) R (by omega)
  · exact be_c10_1 (d := d + 1) (by omega) hκ hi hv k1 k2 (by omega) R (by omega)
  · have g := be_c10_0 (X := X) (a := a) (b := b) (u := u) (e := e) (f := f) (d := d) (x := x * be_i 3) (p := p + 1) (by omega) hκ hi hv k1 k2 (by omega) (30 :: R) (by rw [List.length_cons]; omega)
    rw [show ((p + 1 : Nat) : Int) = (p : Int) + 1 by omega] at g
    rw [be_run1 (k := 2) (act := 0) (o := 2) (B := 30) (by omega) (by omega) R (by first | omega | (rw [List.length_cons]; omega) | (rw [List.length_append, List.length_cons]; omega)) (be_ow20 (by omega)) (by decide) (by decide) (by decide) (by decide) (be_r206 X), am_b127_39]
    simp (disch := (first | assumption | omega | exact (be_gB _ _ _).1 | exact (be_gB _ _ _).2)) only [↓reduceIte, be_ofI, ↓be_ofN, ↓be_0, be_add, be_sub, be_mul, be_neg, be_rem, be_bi, be_bl, be_bv, be_br, be_bE0, be_bE1, be_b1E, be_b0E, be_bkb, be_cast, Int.toNat_natCast, Int.reduceToNat, be_lt, be_le, be_eq, be_nt, be_ck, be_nz, be_bk, be_div, not_true_eq_false, not_false_eq_true, if_true, if_false, eq_self, Int.reduceEq, Int.reduceLT, Int.reduceLE, Bool.true_eq_false, Bool.false_eq_true, wκ, wi, wv, Int.reduceMul, Int.reduceAdd, be_r100, be_r101, be_r102, be_r103, be_r104, be_r105, be_r106, g, am_b127_227]
    rfl
  · exact be_c10_3 (d := d + 1) (by omega) hκ hi hv k1 k2 (by omega) R (by omega)
  · have g := be_c10_1 (X := X) (a := a) (b := b) (u := u) (e := e) (f := f) (d := d) (x := x) (p := p + 1) (by omega) hκ hi hv k1 k2 (by omega) (50 :: R) (by rw [List.length_cons]; omega)
    rw [show ((p + 1 : Nat) : Int) = (p : Int) + 1 by omega] at g
    rw [be_run1 (k := 4) (act := 0) (o := 4) (B := 50) (by omega) (by omega) R (by first | omega | (rw [List.length_cons]; omega) | (rw [List.length_append, List.length_cons]; omega)) (be_ow40 (by omega)) (by decide) (by decide) (by decide) (by decide) (be_r212 X), am_b127_39]
    simp (disch := (first | assumption | omega | exact (be_gB _ _ _).1 | exact (be_gB _ _ _).2)) only [↓reduceIte, be_ofI, ↓be_ofN, ↓be_0, be_add, be_sub, be_mul, be_neg, be_rem, be_bi, be_bl, be_bv, be_br, be_bE0, be_bE1, be_b1E, be_b0E, be_bkb, be_cast, Int.toNat_natCast, Int.reduceToNat, be_lt, be_le, be_eq, be_nt, be_ck, be_nz, be_bk, be_div, not_true_eq_false, not_false_eq_true, if_true, if_false, eq_self, Int.reduceEq, Int.reduceLT, Int.reduceLE, Bool.true_eq_false, Bool.false_eq_true, wκ, wi, wv, Int.reduceMul, Int.reduceAdd, be_r100, be_r101, be_r102, be_r103, be_r104, be_r105, be_r106, g, am_b127_267]
    rfl
  · have g := be_c10_0 (X := X) (a := a) (b := b) (u := u) (e := e) (f := f) (d := d) (x := x * be_i 3) (p := p + 1) (by omega) hκ hi hv k1 k2 (by omega) (30 :: R) (by rw [List.length_cons]; omega)
    rw [show ((p + 1 : Nat) : Int) = (p : Int) + 1 by omega] at g
    rw [be_run1 (k := 5) (act := 0) (o := 2) (B := 30) (by omega) (by omega) R (by first | omega | (rw [List.length_cons]; omega) | (rw [List.length_append, List.length_cons]; omega)) (be_ow50 (by omega)) (by decide) (by decide) (by decide) (by decide) (be_r206 X), am_b127_39]
    simp (disch := (first | assumption | omega | exact (be_gB _ _ _).1 | exact (be_gB _ _ _).2)) only [↓reduceIte, be_ofI, ↓be_ofN, ↓be_0, be_add, be_sub, be_mul, be_neg, be_rem, be_bi, be_bl, be_bv, be_br, be_bE0, be_bE1, be_b1E, be_b0E, be_bkb, be_cast, Int.toNat_natCast, Int.reduceToNat, be_lt, be_le, be_eq, be_nt, be_ck, be_nz, be_bk, be_div, not_true_eq_false, not_false_eq_true, if_true, if_false, eq_self, Int.reduceEq, Int.reduceLT, Int.reduceLE, Bool.true_eq_false, Bool.false_eq_true, wκ, wi, wv, Int.reduceMul, Int.reduceAdd, be_r100, be_r101, be_r102, be_r103, be_r104, be_r105, be_r106, g, am_b127_227]
    rfl
  · have g := be_c10_3 (X := X) (a := a) (b := b) (u := u) (e := e) (f := f) (d := d) (x := x) (p := p + 1) (by omega) hκ hi hv k1 k2 (by omega) (71 :: R) (by rw [List.length_cons]; omega)
    rw [show ((p + 1 : Nat) : Int) = (p : Int) + 1 by omega] at g
    rw [be_run1 (k := 6) (act := 0) (o := 6) (B := 71) (by omega) (by omega) R (by first | omega | (rw [List.length_cons]; omega) | (rw [List.length_append, List.length_cons]; omega)) (be_ow60 (by omega)) (by decide) (by decide) (by decide) (by decide) (be_r218 X), am_b127_39]
    simp (disch := (first | assumption | omega | exact (be_gB _ _ _).1 | exact (be_gB _ _ _).2)) only [↓reduceIte, be_ofI, ↓be_ofN, ↓be_0, be_add, be_sub, be_mul, be_neg, be_rem, be_bi, be_bl, be_bv, be_br, be_bE0, be_bE1, be_b1E, be_b0E, be_bkb, be_cast, Int.toNat_natCast, Int.reduceToNat, be_lt, be_le, be_eq, be_nt, be_ck, be_nz, be_bk, be_div, not_true_eq_false, not_false_eq_true, if_true, if_false, eq_self, Int.reduceEq, Int.reduceLT, Int.reduceLE, Bool.true_eq_false, Bool.false_eq_true, wκ, wi, wv, Int.reduceMul, Int.reduceAdd, be_r100, be_r101, be_r102, be_r103, be_r104, be_r105, be_r106, g, am_b127_339]
    rfl
theorem be_cHS_0 (hd : 4 ≤ d) {h : Nat} {κ i v : Int} (hκ : a 1 h 1 = be_i κ) (hi : a 1 h 0 = be_i i) (hv : a 1 h 2 = be_i v) (k1 : 0 ≤ κ) (k2 : κ ≤ 6) {x : Int32} {p : Nat} (hp : p ≤ 38) (R : List Int) (hR : R.length + 3 ≤ 20) : am_sem X d 127 [.inr (0, 0), .inr (1, h), am_I (be_i (0)), am_I (be_i (1)), am_I x, am_I (be_i ((p : Int)))] (am_sd (be_tc a R) b u e f) = some (some (am_I (be_vHS κ (be_i i) (be_i v) x)), am_sd (be_tc a (be_tHS κ ++ R)) b u e f) := by
  obtain ⟨d, rfl⟩ : ∃ q, d = q + 1 := ⟨d - 1, by omega⟩
  obtain ⟨l1, l2, l3, l4, l5, l6⟩ := be_tLen κ
  have wκ : ∀ R, be_tc a R 1 h 1 = be_i κ := fun R => by rw [be_tc_n _ _ _ _ (by omega), hκ]
  have wi : ∀ R, be_tc a R 1 h 0 = be_i i := fun R => by rw [be_tc_n _ _ _ _ (by omega), hi]
  have wv : ∀ R, be_tc a R 1 h 2 = be_i v := fun R => by rw [be_tc_n _ _ _ _ (by omega), hv]
  have g := be_cK (X := X) (a := a) (b := b) (u := u) (e := e) (f := f) (d := d) (x := x) (p := p + 1) (by omega) hκ hi hv k1 k2 (by omega) (11 :: R) (by rw [List.length_cons]; omega)
  rw [show ((p + 1 : Nat) : Int) = (p : Int) + 1 by omega] at g
  rw [be_run1 (k := 0) (act := 1) (o := 0) (B := 11) (by omega) (by omega) R (by first | omega | (rw [List.length_cons]; omega) | (rw [List.length_append, List.length_cons]; omega)) (be_ow01 (by omega)) (by decide) (by decide) (by decide) (by decide) (be_r201 X), am_b127_39]
  simp (disch := (first | assumption | omega | exact (be_gB _ _ _).1 | exact (be_gB _ _ _).2)) only [↓reduceIte, be_ofI, ↓be_ofN, ↓be_0, be_add, be_sub, be_mul, be_neg, be_rem, be_bi, be_bl, be_bv, be_br, be_bE0, be_bE1, be_b1E, be_b0E, be_bkb, be_cast, Int.toNat_natCast, Int.reduceToNat, be_lt, be_le, be_eq, be_nt, be_ck, be_nz, be_bk, be_div, not_true_eq_false, not_false_eq_true, if_true, if_false, eq_self, Int.reduceEq, Int.reduceLT, Int.reduceLE, Bool.true_eq_false, Bool.false_eq_true, wκ, wi, wv, Int.reduceMul, Int.reduceAdd, be_r100, be_r101, be_r102, be_r103, be_r104, be_r105, be_r106, g, am_b127_174]
  unfold be_tHS be_vHS
  rw [List.append_assoc]
  rfl
theorem be_cHS_2 (hd : 4 ≤ d) {h : Nat} {κ i v : Int} (hκ : a 1 h 1 = be_i κ) (hi : a 1 h 0 = be_i i) (hv : a 1 h 2 = be_i v) (k1 : 0 ≤ κ) (k2 : κ ≤ 6) {x : Int32} {p : Nat} (hp : p ≤ 38) (R : List Int) (hR : R.length + 3 ≤ 20) : am_sem X d 127 [.inr (0, 0), .inr (1, h), am_I (be_i (2)), am_I (be_i (1)), am_I x, am_I (be_i ((p : Int)))] (am_sd (be_tc a R) b u e f) = some (some (am_I (be_vHS κ (be_i i) (be_i v) x)), am_sd (be_tc a (be_tHS κ ++ R)) b u e f) := by
  obtain ⟨d, rfl⟩ : ∃ q, d = q + 1 := ⟨d - 1, by omega⟩
  obtain ⟨l1, l2, l3, l4, l5, l6⟩ := be_tLen κ
  have wκ : ∀ R, be_tc a R 1 h 1 = be_i κ := fun R => by rw [be_tc_n _ _ _ _ (by omega), hκ]
  have wi : ∀ R, be_tc a R 1 h 0 = be_i i := fun R => by rw [be_tc_n _ _ _ _ (by omega), hi]
  have wv : ∀ R, be_tc a R 1 h 2 = be_i v := fun R => by rw [be_tc_n _ _ _ _ (by omega), hv]
  have g := be_cK (X := X) (a := a) (b := b) (u := u) (e := e) (f := f) (d := d) (x := x) (p := p + 1) (by omega) hκ hi hv k1 k2 (by omega) (11 :: R) (by rw [List.length_cons]; omega)
  rw [show ((p + 1 : Nat) : Int) = (p : Int) + 1 by omega] at g
  rw [be_run1 (k := 2) (act := 1) (o := 0) (B := 11) (by omega) (by omega) R (by first | omega | (rw [List.length_cons]; omega) | (rw [List.length_append, List.length_cons]; omega)) (be_ow21 (by omega)) (by decide) (by decide) (by decide) (by decide) (be_r201 X), am_b127_39]
  simp (disch := (first | assumption | omega | exact (be_gB _ _ _).1 | exact (be_gB _ _ _).2)) only [↓reduceIte, be_ofI, ↓be_ofN, ↓be_0, be_add, be_sub, be_mul, be_neg, be_rem, be_bi, be_bl, be_bv, be_br, be_bE0, be_bE1, be_b1E, be_b0E, be_bkb, be_cast, Int.toNat_natCast, Int.reduceToNat, be_lt, be_le, be_eq, be_nt, be_ck, be_nz, be_bk, be_div, not_true_eq_false, not_false_eq_true, if_true, if_false, eq_self, Int.reduceEq, Int.reduceLT, Int.reduceLE, Bool.true_eq_false, Bool.false_eq_true, wκ, wi, wv, Int.reduceMul, Int.reduceAdd, be_r100, be_r101, be_r102, be_r103, be_r104, be_r105, be_r106, g, am_b127_174]
  unfold be_tHS be_vHS
  rw [List.append_assoc]
  rfl
theorem be_cHS_3 (hd : 4 ≤ d) {h : Nat} {κ i v : Int} (hκ : a 1 h 1 = be_i κ) (hi : a 1 h 0 = be_i i) (hv : a 1 h 2 = be_i v) (k1 : 0 ≤ κ) (k2 : κ ≤ 6) {x : Int32} {p : Nat} (hp : p ≤ 38) (R : List Int) (hR : R.length + 3 ≤ 20) : am_sem X d 127 [.inr (0, 0), .inr (1, h), am_I (be_i (3)), am_I (be_i (1)), am_I x, am_I (be_i ((p : Int)))] (am_sd (be_tc a R) b u e f) = some (some (am_I (be_vHS κ (be_i i) (be_i v) x)), am_sd (be_tc a (be_tHS κ ++ R)) b u e f) := by
  obtain ⟨d, rfl⟩ : ∃ q, d = q + 1 := ⟨d - 1, by omega⟩
  obtain ⟨l1, l2, l3, l4, l5, l6⟩ := be_tLen κ
  have wκ : ∀ R, be_tc a R 1 h 1 = be_i κ := fun R => by rw [be_tc_n _ _ _ _ (by omega), hκ]
  have wi : ∀ R, be_tc a R 1 h 0 = be_i i := fun R => by rw [be_tc_n _ _ _ _ (by omega), hi]
  have wv : ∀ R, be_tc a R 1 h 2 = be_i v := fun R => by rw [be_tc_n _ _ _ _ (by omega), hv]
  have g := be_cK (X := X) (a := a) (b := b) (u := u) (e := e) (f := f) (d := d) (x := x) (p := p + 1) (by omega) hκ hi hv k1 k2 (by omega) (11 :: R) (by rw [List.length_cons]; omega)
  rw [show ((p + 1 : Nat) : Int) = (p : Int) + 1 by omega] at g
  rw [be_run1 (k := 3) (act := 1) (o := 0) (B := 11) (by omega) (by omega) R (by first | omega | (rw [List.length_cons]; omega) | (rw [List.length_append, List.length_cons]; omega)) (be_ow31 (by omega)) (by decide) (by decide) (by decide) (by decide) (be_r201 X), am_b127_39]
  simp (disch := (first | assumption | omega | exact (be_gB _ _ _).1 | exact (be_gB _ _ _).2)) only [↓reduceIte, be_ofI, ↓be_ofN, ↓be_0, be_add, be_sub, be_mul, be_neg, be_rem, be_bi, be_bl, be_bv, be_br, be_bE0, be_bE1, be_b1E, be_b0E, be_bkb, be_cast, Int.toNat_natCast, Int.reduceToNat, be_lt, be_le, be_eq, be_nt, be_ck, be_nz, be_bk, be_div, not_true_eq_false, not_false_eq_true, if_true, if_false, eq_self, Int.reduceEq, Int.reduceLT, Int.reduceLE, Bool.true_eq_false, Bool.false_eq_true, wκ, wi, wv, Int.reduceMul, Int.reduceAdd, be_r100, be_r101, be_r102, be_r103, be_r104, be_r105, be_r106, g, am_b127_174]
  unfold be_tHS be_vHS
  rw [List.append_assoc]
  rfl
theorem be_cHS_5 (hd : 4 ≤ d) {h : Nat} {κ i v : Int} (hκ : a 1 h 1 = be_i κ) (hi : a 1 h 0 = be_i i) (hv : a 1 h 2 = be_i v) (k1 : 0 ≤ κ) (k2 : κ ≤ 6) {x : Int32} {p : Nat} (hp : p ≤ 38) (R : List Int) (hR : R.length + 3 ≤ 20) : am_sem X d 127 [.inr (0, 0), .inr (1, h), am_I (be_i (5)), am_I (be_i (1)), am_I x, am_I (be_i ((p : Int)))] (am_sd (be_tc a R) b u e f) = some (some (am_I (be_vHS κ (be_i i) (be_i v) x)), am_sd (be_tc a (be_tHS κ ++ R)) b u e f) := by
  obtain ⟨d, rfl⟩ : ∃ q, d = q + 1 := ⟨d - 1, by omega⟩
  obtain ⟨l1, l2, l3, l4, l5, l6⟩ := be_tLen κ
  have wκ : ∀ R, be_tc a R 1 h 1 = be_i κ := fun R => by rw [be_tc_n _ _ _ _ (by omega), hκ]
  have wi : ∀ R, be_tc a R 1 h 0 = be_i i := fun R => by rw [be_tc_n _ _ _ _ (by omega), hi]
  have wv : ∀ R, be_tc a R 1 h 2 = be_i v := fun R => by rw [be_tc_n _ _ _ _ (by omega), hv]
  have g := be_cK (X := X) (a := a) (b := b) (u := u) (e := e) (f := f) (d := d) (x := x) (p := p + 1) (by omega) hκ hi hv k1 k2 (by omega) (11 :: R) (by rw [List.length_cons]; omega)
  rw [show ((p + 1 : Nat) : Int) = (p : Int) + 1 by omega] at g
  rw [be_run1 (k := 5) (act := 1) (o := 0) (B := 11) (by omega) (by omega) R (by first | omega | (rw [List.length_cons]; omega) | (rw [List.length_append, List.length_cons]; omega)) (be_ow51 (by omega)) (by decide) (by decide) (by decide) (by decide) (be_r201 X), am_b127_39]
  simp (disch := (first | assumption | omega | exact (be_gB _ _ _).1 | exact (be_gB _ _ _).2)) only [↓reduceIte, be_ofI, ↓be_ofN, ↓be_0, be_add, be_sub, be_mul, be_neg, be_rem, be_bi, be_bl, be_bv, be_br, be_bE0, be_bE1, be_b1E, be_b0E, be_bkb, be_cast, Int.toNat_natCast, Int.reduceToNat, be_lt, be_le, be_eq, be_nt, be_ck, be_nz, be_bk, be_div, not_true_eq_false, not_false_eq_true, if_true, if_false, eq_self, Int.reduceEq, Int.reduceLT, Int.reduceLE, Bool.true_eq_false, Bool.false_eq_true, wκ, wi, wv, Int.reduceMul, Int.reduceAdd, be_r100, be_r101, be_r102, be_r103, be_r104, be_r105, be_r106, g, am_b127_174]
  unfold be_tHS be_vHS
  rw [List.append_assoc]
  rfl
theorem be_cBS (hd : 5 ≤ d) {h : Nat} {κ i v : Int} (hκ : a 1 h 1 = be_i κ) (hi : a 1 h 0 = be_i i) (hv : a 1 h 2 = be_i v) (k1 : 0 ≤ κ) (k2 : κ ≤ 6) {x : Int32} {p : Nat} (hp : p ≤ 37) (R : List Int) (hR : R.length + 4 ≤ 20) : am_sem X d 127 [.inr (0, 0), .inr (1, h), am_I (be_i (1)), am_I (be_i (1)), am_I x, am_I (be_i ((p : Int)))] (am_sd (be_tc a R) b u e f) = some (some (am_I (be_vBS κ (be_i i) (be_i v) x)), am_sd (be_tc a (be_tBS κ ++ R)) b u e f) := by
  obtain ⟨d, rfl⟩ : ∃ q, d = q + 1 := ⟨d - 1, by omega⟩
  obtain ⟨l1, l2, l3, l4, l5, l6⟩ := be_tLen κ
  have wκ : ∀ R, be_tc a R 1 h 1 = be_i κ := fun R => by rw [be_tc_n _ _ _ _ (by omega), hκ]
  have wi : ∀ R, be_tc a R 1 h 0 = be_i i := fun R => by rw [be_tc_n _ _ _ _ (by omega), hi]
  have wv : ∀ R, be_tc a R 1 h 2 = be_i v := fun R => by rw [be_tc_n _ _ _ _ (by omega), hv]
  have g := be_cHS_0 (X := X) (a := a) (b := b) (u := u) (e := e) (f := f) (d := d) (x := x) (p := p + 1) (by omega) hκ hi hv k1 k2 (by omega) (20 :: R) (by rw [List.length_cons]; omega)
  rw [show ((p + 1 : Nat) : Int) = (p : Int) + 1 by omega] at g
  rw [be_run1 (k := 1) (act := 1) (o := 1) (B := 20) (by omega) (by omega) R (by first | omega | (rw [List.length_cons]; omega) | (rw [List.length_append, List.length_cons]; omega)) (be_ow11 (by omega)) (by decide) (by decide) (by decide) (by decide) (be_r204 X), am_b127_39]
  simp (disch := (first | assumption | omega | exact (be_gB _ _ _).1 | exact (be_gB _ _ _).2)) only [↓reduceIte, be_ofI, ↓be_ofN, ↓be_0, be_add, be_sub, be_mul, be_neg, be_rem, be_bi, be_bl, be_bv, be_br, be_bE0, be_bE1, be_b1E, be_b0E, be_bkb, be_cast, Int.toNat_natCast, Int.reduceToNat, be_lt, be_le, be_eq, be_nt, be_ck, be_nz, be_bk, be_div, not_true_eq_false, not_false_eq_true, if_true, if_false, eq_self, Int.reduceEq, Int.reduceLT, Int.reduceLE, Bool.true_eq_false, Bool.false_eq_true, wκ, wi, wv, Int.reduceMul, Int.reduceAdd, be_r100, be_r101, be_r102, be_r103, be_r104, be_r105, be_r106, g, am_b127_209]
  unfold be_tBS be_vBS
  rw [List.append_assoc]
  rfl
theorem be_cS (hd : 6 ≤ d) {h : Nat} {κ i v : Int} (hκ : a 1 h 1 = be_i κ) (hi : a 1 h 0 = be_i i) (hv : a 1 h 2 = be_i v) (k1 : 0 ≤ κ) (k2 : κ ≤ 6) {x : Int32} {p : Nat} (hp : p ≤ 36) (R : List Int) (hR : R.length + 5 ≤ 20) : am_sem X d 127 [.inr (0, 0), .inr (1, h), am_I (be_i (κ)), am_I (be_i (1)), am_I x, am_I (be_i ((p : Int)))] (am_sd (be_tc a R) b u e f) = some (some (am_I (be_vS κ (be_i i) (be_i v) x)), am_sd (be_tc a (be_tS κ ++ R)) b u e f) := by
  obtain ⟨d, rfl⟩ : ∃ q, d = q + 1 := ⟨d - 1, by omega⟩
  obtain ⟨l1, l2, l3, l4, l5, l6⟩ := be_tLen κ
  have wκ : ∀ R, be_tc a R 1 h 1 = be_i κ := fun R => by rw [be_tc_n _ _ _ _ (by omega), hκ]
  have wi : ∀ R, be_tc a R 1 h 0 = be_i i := fun R => by rw [be_tc_n _ _ _ _ (by omega), hi]
  have wv : ∀ R, be_tc a R 1 h 2 = be_i v := fun R => by rw [be_tc_n _ _ _ _ (by omega), hv]
  rcases (show κ = 0 ∨ κ = 1 ∨ κ = 2 ∨ κ = 3 ∨ κ = 4 ∨ κ = 5 ∨ κ = 6 by omega) with rfl | rfl | rfl | rfl | rfl | rfl | rfl
  · exact be_cHS_0 (d := d + 1) (by omega) hκ hi hv k1 k2 (by omega) R (by omega)
  · exact be_cBS (d := d + 1) (by omega) hκ hi hv k1 k2 (by omega) R (by omega)
  · exact be_cHS_2 (d := d + 1) (by omega) hκ hi hv k1 k2 (by omega) R (by omega)
  · exact be_cHS_3 (d := d + 1) (by omega) hκ hi hv k1 k2 (by omega) R (by omega)
  · have g := be_cBS (X := X) (a := a) (b := b) (u := u) (e := e) (f := f) (d := d) (x := x + be_i 1) (p := p + 1) (by omega) hκ hi hv k1 k2 (by omega) (51 :: R) (by rw [List.length_cons]; omega)
    rw [show ((p + 1 : Nat) : Int) = (p : Int) + 1 by omega] at g
    rw [be_run1 (k := 4) (act := 1) (o := 4) (B := 51) (by omega) (by omega) R (by first | omega | (rw [List.length_cons]; omega) | (rw [List.length_append, List.length_cons]; omega)) (be_ow41 (by omega)) (by decide) (by decide) (by decide) (by decide) (be_r213 X), am_b127_39]
    simp (disch := (first | assumption | omega | exact (be_gB _ _ _).1 | exact (be_gB _ _ _).2)) only [↓reduceIte, be_ofI, ↓be_ofN, ↓be_0, be_add, be_sub, be_mul, be_neg, be_rem, be_bi, be_bl, be_bv, be_br, be_bE0, be_bE1, be_b1E, be_b0E, be_bkb, be_cast, Int.toNat_natCast, Int.reduceToNat, be_lt, be_le, be_eq, be_nt, be_ck, be_nz, be_bk, be_div, not_true_eq_false, not_false_eq_true, if_true, if_false, eq_self, Int.reduceEq, Int.reduceLT, Int.reduceLE, Bool.true_eq_false, Bool.false_eq_true, wκ, wi, wv, Int.reduceMul, Int.reduceAdd, be_r100, be_r101, be_r102, be_r103, be_r104, be_r105, be_r106, g, am_b127_283]
    rfl
  · exact be_cHS_5 (d := d + 1) (by omega) hκ hi hv k1 k2 (by omega) R (by omega)
  · have g := be_cHS_3 (X := X) (a := a) (b := b) (u := u) (e := e) (f := f) (d := d) (x := x) (p := p + 1) (by omega) hκ hi hv k1 k2 (by omega) (70 :: R) (by rw [List.length_cons]; omega)
    have g2 := be_c10_3 (X := X) (a := a) (b := b) (u := u) (e := e) (f := f) (d := d) (x := be_i 2) (p := p + 1) (by omega) hκ hi hv k1 k2 (by omega) (be_tHS 6 ++ 70 :: R) (by rw [List.length_append, List.length_cons]; omega)
    rw [show ((p + 1 : Nat) : Int) = (p : Int) + 1 by omega] at g g2
    rw [be_run1 (k := 6) (act := 1) (o := 6) (B := 70) (by omega) (by omega) R (by first | omega | (rw [List.length_cons]; omega) | (rw [List.length_append, List.length_cons]; omega)) (be_ow61 (by omega)) (by decide) (by decide) (by decide) (by decide) (be_r219 X), am_b127_39]
    simp (disch := (first | assumption | omega)) only [↓reduceIte, be_ofI, ↓be_ofN, ↓be_0, be_add, be_bi, be_bv, be_nt, be_ck, be_eq, Int.toNat_natCast, Int.reduceToNat, Int.reduceEq, if_false, if_true, not_false_eq_true, not_true_eq_false, wκ, wi, wv, be_r106, g, am_b127_314]
    rw [g2, be_bi, am_b127_325]
    rfl
theorem be_cHT_0 (hd : 7 ≤ d) {h : Nat} {κ i v : Int} (hκ : a 1 h 1 = be_i κ) (hi : a 1 h 0 = be_i i) (hv : a 1 h 2 = be_i v) (k1 : 0 ≤ κ) (k2 : κ ≤ 6) {x : Int32} {p : Nat} (hp : p ≤ 35) (R : List Int) (hR : R.length + 6 ≤ 20) : am_sem X d 127 [.inr (0, 0), .inr (1, h), am_I (be_i (0)), am_I (be_i (2)), am_I x, am_I (be_i ((p : Int)))] (am_sd (be_tc a R) b u e f) = some (some (am_I (be_vHT κ (be_i i) (be_i v) x)), am_sd (be_tc a (be_tHT κ ++ R)) b u e f) := by
  obtain ⟨d, rfl⟩ : ∃ q, d = q + 1 := ⟨d - 1, by omega⟩
  obtain ⟨l1, l2, l3, l4, l5, l6⟩ := be_tLen κ
  have wκ : ∀ R, be_tc a R 1 h 1 = be_i κ := fun R => by rw [be_tc_n _ _ _ _ (by omega), hκ]
  have wi : ∀ R, be_tc a R 1 h 0 = be_i i := fun R => by rw [be_tc_n _ _ _ _ (by omega), hi]
  have wv : ∀ R, be_tc a R 1 h 2 = be_i v := fun R => by rw [be_tc_n _ _ _ _ (by omega), hv]
  have g := be_cS (X := X) (a := a) (b := b) (u := u) (e := e) (f := f) (d := d) (x := x) (p := p + 1) (by omega) hκ hi hv k1 k2 (by omega) (12 :: R) (by rw [List.length_cons]; omega)
  rw [show ((p + 1 : Nat) : Int) = (p : Int) + 1 by omega] at g
  rw [be_run1 (k := 0) (act := 2) (o := 0) (B := 12) (by omega) (by omega) R (by first | omega | (rw [List.length_cons]; omega) | (rw [List.length_append, List.length_cons]; omega)) (be_ow02 (by omega)) (by decide) (by decide) (by decide) (by decide) (be_r202 X), am_b127_39]
  simp (disch := (first | assumption | omega | exact (be_gB _ _ _).1 | exact (be_gB _ _ _).2)) only [↓reduceIte, be_ofI, ↓be_ofN, ↓be_0, be_add, be_sub, be_mul, be_neg, be_rem, be_bi, be_bl, be_bv, be_br, be_bE0, be_bE1, be_b1E, be_b0E, be_bkb, be_cast, Int.toNat_natCast, Int.reduceToNat, be_lt, be_le, be_eq, be_nt, be_ck, be_nz, be_bk, be_div, not_true_eq_false, not_false_eq_true, if_true, if_false, eq_self, Int.reduceEq, Int.reduceLT, Int.reduceLE, Bool.true_eq_false, Bool.false_eq_true, wκ, wi, wv, Int.reduceMul, Int.reduceAdd, be_r100, be_r101, be_r102, be_r103, be_r104, be_r105, be_r106, g, am_b127_194]
  unfold be_tHT be_vHT
  rw [List.append_assoc]
  rfl
theorem be_cHT_1 (hd : 7 ≤ d) {h : Nat} {κ i v : Int} (hκ : a 1 h 1 = be_i κ) (hi : a 1 h 0 = be_i i) (hv : a 1 h 2 = be_i v) (k1 : 0 ≤ κ) (k2 : κ ≤ 6) {x : Int32} {p : Nat} (hp : p ≤ 35) (R : List Int) (hR : R.length + 6 ≤ 20) : am_sem X d 127 [.inr (0, 0), .inr (1, h), am_I (be_i (1)), am_I (be_i (2)), am_I x, am_I (be_i ((p : Int)))] (am_sd (be_tc a R) b u e f) = some (some (am_I (be_vHT κ (be_i i) (be_i v) x)), am_sd (be_tc a (be_tHT κ ++ R)) b u e f) := by
  obtain ⟨d, rfl⟩ : ∃ q, d = q + 1 := ⟨d - 1, by omega⟩
  obtain ⟨l1, l2, l3, l4, l5, l6⟩ := be_tLen κ
  have wκ : ∀ R, be_tc a R 1 h 1 = be_i κ := fun R => by rw [be_tc_n _ _ _ _ (by omega), hκ]
  have wi : ∀ R, be_tc a R 1 h 0 = be_i i := fun R => by rw [be_tc_n _ _ _ _ (by omega), hi]
  have wv : ∀ R, be_tc a R 1 h 2 = be_i v := fun R => by rw [be_tc_n _ _ _ _ (by omega), hv]
  have g := be_cS (X := X) (a := a) (b := b) (u := u) (e := e) (f := f) (d := d) (x := x) (p := p + 1) (by omega) hκ hi hv k1 k2 (by omega) (12 :: R) (by rw [List.length_cons]; omega)
  rw [show ((p + 1 : Nat) : Int) = (p : Int) + 1 by omega] at g
  rw [be_run1 (k := 1) (act := 2) (o := 0) (B := 12) (by omega) (by omega) R (by first | omega | (rw [List.length_cons]; omega) | (rw [List.length_append, List.length_cons]; omega)) (be_ow12 (by omega)) (by decide) (by decide) (by decide) (by decide) (be_r202 X), am_b127_39]
  simp (disch := (first | assumption | omega | exact (be_gB _ _ _).1 | exact (be_gB _ _ _).2)) only [↓reduceIte, be_ofI, ↓be_ofN, ↓be_0, be_add, be_sub, be_mul, be_neg, be_rem, be_bi, be_bl, be_bv, be_br, be_bE0, be_bE1, be_b1E, be_b0E, be_bkb, be_cast, Int.toNat_natCast, Int.reduceToNat, be_lt, be_le, be_eq, be_nt, be_ck, be_nz, be_bk, be_div, not_true_eq_false, not_false_eq_true, if_true, if_false, eq_self, Int.reduceEq, Int.reduceLT, Int.reduceLE, Bool.true_eq_false, Bool.false_eq_true, wκ, wi, wv, Int.reduceMul, Int.reduceAdd, be_r100, be_r101, be_r102, be_r103, be_r104, be_r105, be_r106, g, am_b127_194]
  unfold be_tHT be_vHT
  rw [List.append_assoc]
  rfl
theorem be_cHT_2 (hd : 7 ≤ d) {h : Nat} {κ i v : Int} (hκ : a 1 h 1 = be_i κ) (hi : a 1 h 0 = be_i i) (hv : a 1 h 2 = be_i v) (k1 : 0 ≤ κ) (k2 : κ ≤ 6) {x : Int32} {p : Nat} (hp : p ≤ 35) (R : List Int) (hR : R.length + 6 ≤ 20) : am_sem X d 127 [.inr (0, 0), .inr (1, h), am_I (be_i (2)), am_I (be_i (2)), am_I x, am_I (be_i ((p : Int)))] (am_sd (be_tc a R) b u e f) = some (some (am_I (be_vHT κ (be_i i) (be_i v) x)), am_sd (be_tc a (be_tHT κ ++ R)) b u e f) := by
  obtain ⟨d, rfl⟩ : ∃ q, d = q + 1 := ⟨d - 1, by omega⟩
  obtain ⟨l1, l2, l3, l4, l5, l6⟩ := be_tLen κ
  have wκ : ∀ R, be_tc a R 1 h 1 = be_i κ := fun R => by rw [be_tc_n _ _ _ _ (by omega), hκ]
  have wi : ∀ R, be_tc a R 1 h 0 = be_i i := fun R => by rw [be_tc_n _ _ _ _ (by omega), hi]
  have wv : ∀ R, be_tc a R 1 h 2 = be_i v := fun R => by rw [be_tc_n _ _ _ _ (by omega), hv]
  have g := be_cS (X := X) (a := a) (b := b) (u := u) (e := e) (f := f) (d := d) (x := x) (p := p + 1) (by omega) hκ hi hv k1 k2 (by omega) (12 :: R) (by rw [List.length_cons]; omega)
  rw [show ((p + 1 : Nat) : Int) = (p : Int) + 1 by omega] at g
  rw [be_run1 (k := 2) (act := 2) (o := 0) (B := 12) (by omega) (by omega) R (by first | omega | (rw [List.length_cons]; omega) | (rw [List.length_append, List.length_cons]; omega)) (be_ow22 (by omega)) (by decide) (by decide) (by decide) (by decide) (be_r202 X), am_b127_39]
  simp (disch := (first | assumption | omega | exact (be_gB _ _ _).1 | exact (be_gB _ _ _).2)) only [↓reduceIte, be_ofI, ↓be_ofN, ↓be_0, be_add, be_sub, be_mul, be_neg, be_rem, be_bi, be_bl, be_bv, be_br, be_bE0, be_bE1, be_b1E, be_b0E, be_bkb, be_cast, Int.toNat_natCast, Int.reduceToNat, be_lt, be_le, be_eq, be_nt, be_ck, be_nz, be_bk, be_div, not_true_eq_false, not_false_eq_true, if_true, if_false, eq_self, Int.reduceEq, Int.reduceLT, Int.reduceLE, Bool.true_eq_false, Bool.false_eq_true, wκ, wi, wv, Int.reduceMul, Int.reduceAdd, be_r100, be_r101, be_r102, be_r103, be_r104, be_r105, be_r106, g, am_b127_194]
  unfold be_tHT be_vHT
  rw [List.append_assoc]
  rfl
theorem be_cHT_4 (hd : 7 ≤ d) {h : Nat} {κ i v : Int} (hκ : a 1 h 1 = be_i κ) (hi : a 1 h 0 = be_i i) (hv : a 1 h 2 = be_i v) (k1 : 0 ≤ κ) (k2 : κ ≤ 6) {x : Int32} {p : Nat} (hp : p ≤ 35) (R : List Int) (hR : R.length + 6 ≤ 20) : am_sem X d 127 [.inr (0, 0), .inr (1, h), am_I (be_i (4)), am_I (be_i (2)), am_I x, am_I (be_i ((p : Int)))] (am_sd (be_tc a R) b u e f) = some (some (am_I (be_vHT κ (be_i i) (be_i v) x)), am_sd (be_tc a (be_tHT κ ++ R)) b u e f) := by
  obtain ⟨d, rfl⟩ : ∃ q, d = q + 1 := ⟨d - 1, by omega⟩
  obtain ⟨l1, l2, l3, l4, l5, l6⟩ := be_tLen κ
  have wκ : ∀ R, be_tc a R 1 h 1 = be_i κ := fun R => by rw [be_tc_n _ _ _ _ (by omega), hκ]
  have wi : ∀ R, be_tc a R 1 h 0 = be_i i := fun R => by rw [be_tc_n _ _ _ _ (by omega), hi]
  have wv : ∀ R, be_tc a R 1 h 2 = be_i v := fun R => by rw [be_tc_n _ _ _ _ (by omega), hv]
  have g := be_cS (X := X) (a := a) (b := b) (u := u) (e := e) (f := f) (d := d) (x := x) (p := p + 1) (by omega) hκ hi hv k1 k2 (by omega) (12 :: R) (by rw [List.length_cons]; omega)
  rw [show ((p + 1 : Nat) : Int) = (p : Int) + 1 by omega] at g
  rw [be_run1 (k := 4) (act := 2) (o := 0) (B := 12) (by omega) (by omega) R (by first | omega | (rw [List.length_cons]; omega) | (rw [List.length_append, List.length_cons]; omega)) (be_ow42 (by omega)) (by decide) (by decide) (by decide) (by decide) (be_r202 X), am_b127_39]
  simp (disch := (first | assumption | omega | exact (be_gB _ _ _).1 | exact (be_gB _ _ _).2)) only [↓reduceIte, be_ofI, ↓be_ofN, ↓be_0, be_add, be_sub, be_mul, be_neg, be_rem, be_bi, be_bl, be_bv, be_br, be_bE0, be_bE1, be_b1E, be_b0E, be_bkb, be_cast, Int.toNat_natCast, Int.reduceToNat, be_lt, be_le, be_eq, be_nt, be_ck, be_nz, be_bk, be_div, not_true_eq_false, not_false_eq_true, if_true, if_false, eq_self, Int.reduceEq, Int.reduceLT, Int.reduceLE, Bool.true_eq_false, Bool.false_eq_true, wκ, wi, wv, Int.reduceMul, Int.reduceAdd, be_r100, be_r101, be_r102, be_r103, be_r104, be_r105, be_r106, g, am_b127_194]
  unfold be_tHT be_vHT
  rw [List.append_assoc]
  rfl
theorem be_cT (hd : 8 ≤ d) {h : Nat} {κ i v : Int} (hκ : a 1 h 1 = be_i κ) (hi : a 1 h 0 = be_i i) (hv : a 1 h 2 = be_i v) (k1 : 0 ≤ κ) (k2 : κ ≤ 6) {x : Int32} {p : Nat} (hp : p ≤ 34) (R : List Int) (hR : R.length + 12 ≤ 20) : am_sem X d 127 [.inr (0, 0), .inr (1, h), am_I (be_i (κ)), am_I (be_i (2)), am_I x, am_I (be_i ((p : Int)))] (am_sd (be_tc a R) b u e f) = some (some (am_I (be_vT κ (be_i i) (be_i v) x)), am_sd (be_tc a (be_tT κ ++ R)) b u e f) := by
  obtain ⟨d, rfl⟩ : ∃ q, d = q + 1 := ⟨d - 1, by omega⟩
  obtain ⟨l1, l2, l3, l4, l5, l6⟩ := be_tLen κ
  have wκ : ∀ R, be_tc a R 1 h 1 = be_i κ := fun R => by rw [be_tc_n _ _ _ _ (by omega), hκ]
  have wi : ∀ R, be_tc a R 1 h 0 = be_i i := fun R => by rw [be_tc_n _ _ _ _ (by omega), hi]
  have wv : ∀ R, be_tc a R 1 h 2 = be_i v := fun R => by rw [be_tc_n _ _ _ _ (by omega), hv]
  rcases (show κ = 0 ∨ κ = 1 ∨ κ = 2 ∨ κ = 3 ∨ κ = 4 ∨ κ = 5 ∨ κ = 6 by omega) with rfl | rfl | rfl | rfl | rfl | rfl | rfl
  · exact be_cHT_0 (d := d + 1) (by omega) hκ hi hv k1 k2 (by omega) R (by omega)
  · exact be_cHT_1 (d := d + 1) (by omega) hκ hi hv k1 k2 (by omega) R (by omega)
  · exact be_cHT_2 (d := d + 1) (by omega) hκ hi hv k1 k2 (by omega) R (by omega)
  · have g := be_cHT_0 (X := X) (a := a) (b := b) (u := u) (e := e) (f := f) (d := d) (x := x) (p := p + 1) (by omega) hκ hi hv k1 k2 (by omega) (40 :: R) (by rw [List.length_cons]; omega)
    have g2 := be_cS (X := X) (a := a) (b := b) (u := u) (e := e) (f := f) (d := d) (x := be_i 1) (p := p + 1) (by omega) hκ hi hv k1 k2 (by omega) (be_tHT 3 ++ 40 :: R) (by rw [List.length_append, List.length_cons]; omega)
    rw [show ((p + 1 : Nat) : Int) = (p : Int) + 1 by omega] at g g2
    rw [be_run1 (k := 3) (act := 2) (o := 3) (B := 40) (by omega) (by omega) R (by first | omega | (rw [List.length_cons]; omega) | (rw [List.length_append, List.length_cons]; omega)) (be_ow32 (by omega)) (by decide) (by decide) (by decide) (by decide) (be_r211 X), am_b127_39]
    simp (disch := (first | assumption | omega | exact (be_gB _ _ _).1 | exact (be_gB _ _ _).2)) only [↓reduceIte, be_ofI, ↓be_ofN, ↓be_0, be_add, be_sub, be_mul, be_neg, be_rem, be_bi, be_bl, be_bv, be_br, be_bE0, be_bE1, be_b1E, be_b0E, be_bkb, be_cast, Int.toNat_natCast, Int.reduceToNat, be_lt, be_le, be_eq, be_nt, be_ck, be_nz, be_bk, be_div, not_true_eq_false, not_false_eq_true, if_true, if_false, eq_self, Int.reduceEq, Int.reduceLT, Int.reduceLE, Bool.true_eq_false, Bool.false_eq_true, wκ, wi, wv, Int.reduceMul, Int.reduceAdd, be_r100, be_r101, be_r102, be_r103, be_r104, be_r105, be_r106, g, g2, am_b127_240, am_b127_253]
    rfl
  · exact be_cHT_4 (d := d + 1) (by omega) hκ hi hv k1 k2 (by omega) R (by omega)
  · have g := be_cHT_2 (X := X) (a := a) (b := b) (u := u) (e := e) (f := f) (d := d) (x := x - be_i i) (p := p + 1) (by omega) hκ hi hv k1 k2 (by omega) (60 :: R) (by rw [List.length_cons]; omega)
    rw [show ((p + 1 : Nat) : Int) = (p : Int) + 1 by omega] at g
    rw [be_run1 (k := 5) (act := 2) (o := 5) (B := 60) (by omega) (by omega) R (by first | omega | (rw [List.length_cons]; omega) | (rw [List.length_append, List.length_cons]; omega)) (be_ow52 (by omega)) (by decide) (by decide) (by decide) (by decide) (be_r217 X), am_b127_39]
    simp (disch := (first | assumption | omega | exact (be_gB _ _ _).1 | exact (be_gB _ _ _).2)) only [↓reduceIte, be_ofI, ↓be_ofN, ↓be_0, be_add, be_sub, be_mul, be_neg, be_rem, be_bi, be_bl, be_bv, be_br, be_bE0, be_bE1, be_b1E, be_b0E, be_bkb, be_cast, Int.toNat_natCast, Int.reduceToNat, be_lt, be_le, be_eq, be_nt, be_ck, be_nz, be_bk, be_div, not_true_eq_false, not_false_eq_true, if_true, if_false, eq_self, Int.reduceEq, Int.reduceLT, Int.reduceLE, Bool.true_eq_false, Bool.false_eq_true, wκ, wi, wv, Int.reduceMul, Int.reduceAdd, be_r100, be_r101, be_r102, be_r103, be_r104, be_r105, be_r106, g, am_b127_301]
    rfl
  · have g := be_cHT_0 (X := X) (a := a) (b := b) (u := u) (e := e) (f := f) (d := d) (x := x) (p := p + 1) (by omega) hκ hi hv k1 k2 (by omega) (40 :: R) (by rw [List.length_cons]; omega)
    have g2 := be_cS (X := X) (a := a) (b := b) (u := u) (e := e) (f := f) (d := d) (x := be_i 1) (p := p + 1) (by omega) hκ hi hv k1 k2 (by omega) (be_tHT 6 ++ 40 :: R) (by rw [List.length_append, List.length_cons]; omega)
    rw [show ((p + 1 : Nat) : Int) = (p : Int) + 1 by omega] at g g2
    rw [be_run1 (k := 6) (act := 2) (o := 3) (B := 40) (by omega) (by omega) R (by first | omega | (rw [List.length_cons]; omega) | (rw [List.length_append, List.length_cons]; omega)) (be_ow62 (by omega)) (by decide) (by decide) (by decide) (by decide) (be_r211 X), am_b127_39]
    simp (disch := (first | assumption | omega | exact (be_gB _ _ _).1 | exact (be_gB _ _ _).2)) only [↓reduceIte, be_ofI, ↓be_ofN, ↓be_0, be_add, be_sub, be_mul, be_neg, be_rem, be_bi, be_bl, be_bv, be_br, be_bE0, be_bE1, be_b1E, be_b0E, be_bkb, be_cast, Int.toNat_natCast, Int.reduceToNat, be_lt, be_le, be_eq, be_nt, be_ck, be_nz, be_bk, be_div, not_true_eq_false, not_false_eq_true, if_true, if_false, eq_self, Int.reduceEq, Int.reduceLT, Int.reduceLE, Bool.true_eq_false, Bool.false_eq_true, wκ, wi, wv, Int.reduceMul, Int.reduceAdd, be_r100, be_r101, be_r102, be_r103, be_r104, be_r105, be_r106, g, g2, am_b127_240, am_b127_253]
    rfl
theorem be_tmEnd (R : List Int) : ∀ c j, c ≠ 101 → ¬ (c = 50 ∧ j = 77) → be_g (be_tm e R) c j = be_g e c j := fun c j h1 h2 => by
  unfold be_g; rw [be_tm_n _ _ _ _ (by omega)]
theorem be_actI (hI : be_IV a b u e f) (R : List Int) (hR : R.length ≤ 20) : be_IV (be_tc a R) b u (be_tm e R) f := by
  obtain ⟨g1, gN, g3, g4, g5, g6, g7, g8⟩ := hI
  have hE := be_tmEnd (e := e) R
  have hA := be_tc_n (a := a) R
  refine ⟨be_t1 (by decide) (fun c j h => hE _ _ (by omega) (by omega)) (fun c k j h => hA _ _ _ (by unfold be_inH at h; omega)) rfl g1, be_NM_t gN (fun k => hA _ _ _ (by omega)) (fun k => hA _ _ _ (by omega)), be_t3 (fun c j h => hE _ _ (by omega) (by omega)) (fun c k j h => hA _ _ _ (by omega)) g3, be_t4 (fun c j h => hE _ _ (by omega) (by omega)) (fun c k j h => hA _ _ _ (by omega)) g4, be_t5 (fun c j h => hE _ _ (by omega) (by omega)) (fun c k j h => hA _ _ _ (by unfold be_inH at h; omega)) rfl g5, be_t6 (fun c j h => hE _ _ (by omega) (by omega)) (fun c k j h => hA _ _ _ (by omega)) (fun _ _ => rfl) (fun _ => rfl) g6, ⟨?_, ?_, ?_, ?_⟩, g8.1, be_t9 (fun c j h => hE _ _ (by omega) (by omega)) g8.2⟩
  · have h77 : be_g (be_tm e R) 50 77 = (R.length : Int) := by unfold be_g; rw [be_tm_77, be_ti (by omega) (by omega)]
    rw [h77]; exact be_tc_1 R
  · have h77 : be_g (be_tm e R) 50 77 = (R.length : Int) := by unfold be_g; rw [be_tm_77, be_ti (by omega) (by omega)]
    rw [h77]; omega
  · have h77 : be_g (be_tm e R) 50 77 = (R.length : Int) := by unfold be_g; rw [be_tm_77, be_ti (by omega) (by omega)]
    rw [h77]; omega
  · have h77 : be_g (be_tm e R) 50 77 = (R.length : Int) := by unfold be_g; rw [be_tm_77, be_ti (by omega) (by omega)]
    intro k hk _
    rw [h77] at hk
    obtain ⟨B, q1, q2⟩ := be_tt_eq (e := e) (a := a) R k (by omega)
    rw [q2, ← q1]
    exact be_gI _ _ _
theorem be_cact (hd : 12 ≤ d) (hI : be_IV a b u e f) {x w : Int} {z : Int32} (hx1 : -2147483648 ≤ x) (hx2 : x < 2147483648) (hw1 : -2147483648 ≤ w) (hw2 : w < 2147483648) : be_C X d 241 101 [am_I (be_i (x)), am_I (be_i (w)), am_I z] a b u e f := by
  obtain ⟨d, rfl⟩ : ∃ q, d = q + 1 := ⟨d - 1, by omega⟩
  have he := be_gI e
  have hI0 := be_actI hI [] (by decide)
  obtain ⟨hW, hW2, hT, hh, hD, hth, hX⟩ := hI.1
  obtain ⟨nh, nh2⟩ := be_nhR hW
  have t0 : am_w3 a 0 0 1 (be_i 0) = be_tc a [] := rfl
  have t1 : am_w3 e 50 0 77 (be_i 0) = be_tm e [] := rfl
  have h50 : be_g (be_tm e []) 50 2 = be_g e 50 2 := be_tmEnd [] 50 2 (by decide) (by decide)
  have c1 := be_hasH (X := X) (a := be_tc a []) (b := b) (u := u) (e := be_tm e []) (f := f) (d := d) (x := x) (by omega) hI0 hx1 hx2
  rw [h50] at c1
  have c1' : am_sem X d 139 [.inr (2, 0), am_I (be_i (x))] (am_sd (be_tc a []) b u e f) = some (some (am_I (be_i (be_b (decide (0 ≤ x ∧ x ≤ be_g e 50 2 - 1))))), am_sd (be_tc a []) b u e f) := by
    have o2 := hX.1.2.1
    exact be_m139 (by omega) ((be_tc_n _ _ _ _ (by omega)).trans o2) (by omega) (by omega) hx1 hx2
  have c2 := fun a' => be_m6 (X := X) (a := a') (b := b) (u := u) (e := be_tm e []) (f := f) (d := d) (x := x) (by omega) hx1 hx2 (by rw [h50]; omega)
  rw [h50] at c2
  have c3 := be_m250 (X := X) (a := be_tc a []) (b := b) (u := u) (e := e) (f := f) (d := d) (x := w) (y := 0) (z := 2) (by omega) hw1 hw2 (by decide) (by decide) (by decide) (by decide)
  have c4 := fun a' => be_m1 (X := X) (a := a') (b := b) (u := u) (e := be_tm e []) (f := f) (d := d) (x := w) (y := 0) (z := 2) (by omega) hw1 hw2 (by decide) (by decide) (by decide) (by decide)
  by_cases hx : 0 ≤ x ∧ x ≤ be_g e 50 2 - 1
  · rw [decide_eq_true hx] at c1' c2
    obtain ⟨h, rfl⟩ := be_0le hx.1
    have w1 := hW.2.1 h (by omega)
    obtain ⟨z0, z1, z2, z3, z4, z5, z6, z7⟩ := be_HR0 hX (show h < be_nh e by omega)
    have zz : be_tc a [] 1 h 1 = be_i (be_g e 52 h) := (be_tc_n _ _ _ _ (by omega)).trans z1
    by_cases hw : 0 ≤ w ∧ w ≤ 2
    · rw [decide_eq_true hw] at c3 c4
      obtain ⟨l1, l2, l3, l4, l5, l6⟩ := be_tLen (be_g e 52 h)
      rcases (show w = 0 ∨ w = 1 ∨ w = 2 by omega) with rfl | rfl | rfl
      · have g1 := be_cK (X := X) (a := a) (b := b) (u := u) (e := e) (f := f) (d := d) (x := z) (p := 0) (by omega) z1 z0 z2 (by omega) (by omega) (by decide) [] (by decide)
        have g2 := fun a' => be_m95 (X := X) (a := a') (b := b) (u := u) (e := e) (f := f) (d := d) (h := h) (x := z) (by omega) rfl (by omega) (by omega) (by omega) [] (by decide)
        refine ⟨be_vK (be_g e 52 h) (be_i (h : Int)) (be_i (be_g e 53 h)) z, be_tc a (be_tK (be_g e 52 h) ++ []), b, u, be_tm e (be_tK (be_g e 52 h) ++ []), f, ?_, ?_, be_actI hI _ (by rw [List.append_nil]; omega)⟩
        · rw [am_s241]
          simp (disch := (first | assumption | omega | exact (be_gB _ _ _).1 | exact (be_gB _ _ _).2)) only [↓reduceIte, be_ofI, ↓be_ofN, ↓be_0, be_add, be_sub, be_mul, be_neg, be_rem, be_bi, be_bl, be_bv, be_br, be_bE0, be_bE1, be_b1E, be_b0E, be_bkb, be_cast, Int.toNat_natCast, Int.reduceToNat, be_lt, be_le, be_eq, be_nt, be_ck, be_nz, be_bk, be_div, not_true_eq_false, not_false_eq_true, if_true, if_false, eq_self, Int.reduceEq, Int.reduceLT, Int.reduceLE, Bool.true_eq_false, Bool.false_eq_true, t0, c1', c3, zz, am_b241_16, am_b241_25]
          erw [g1]
          rw [be_bi, am_b241_58]
        · rw [am_s101]
          simp (disch := (first | assumption | omega | exact (be_gB _ _ _).1 | exact (be_gB _ _ _).2)) only [↓reduceIte, be_ofI, ↓be_ofN, ↓be_0, be_add, be_sub, be_mul, be_neg, be_rem, be_bi, be_bl, be_bv, be_br, be_bE0, be_bE1, be_b1E, be_b0E, be_bkb, be_cast, Int.toNat_natCast, Int.reduceToNat, be_lt, be_le, be_eq, be_nt, be_ck, be_nz, be_bk, be_div, not_true_eq_false, not_false_eq_true, if_true, if_false, eq_self, Int.reduceEq, Int.reduceLT, Int.reduceLE, Bool.true_eq_false, Bool.false_eq_true, t1, c2, c4, g2, am_b101_10, am_b101_20, am_b101_35, am_b101_49, am_b101_58]
      · have g1 := be_cS (X := X) (a := a) (b := b) (u := u) (e := e) (f := f) (d := d) (x := z) (p := 0) (by omega) z1 z0 z2 (by omega) (by omega) (by decide) [] (by decide)
        have g2 := fun a' => be_m98 (X := X) (a := a') (b := b) (u := u) (e := e) (f := f) (d := d) (h := h) (x := z) (by omega) rfl (by omega) (by omega) (by omega) [] (by decide)
        refine ⟨be_vS (be_g e 52 h) (be_i (h : Int)) (be_i (be_g e 53 h)) z, be_tc a (be_tS (be_g e 52 h) ++ []), b, u, be_tm e (be_tS (be_g e 52 h) ++ []), f, ?_, ?_, be_actI hI _ (by rw [List.append_nil]; omega)⟩
        · rw [am_s241]
          simp (disch := (first | assumption | omega | exact (be_gB _ _ _).1 | exact (be_gB _ _ _).2)) only [↓reduceIte, be_ofI, ↓be_ofN, ↓be_0, be_add, be_sub, be_mul, be_neg, be_rem, be_bi, be_bl, be_bv, be_br, be_bE0, be_bE1, be_b1E, be_b0E, be_bkb, be_cast, Int.toNat_natCast, Int.reduceToNat, be_lt, be_le, be_eq, be_nt, be_ck, be_nz, be_bk, be_div, not_true_eq_false, not_false_eq_true, if_true, if_false, eq_self, Int.reduceEq, Int.reduceLT, Int.reduceLE, Bool.true_eq_false, Bool.false_eq_true, t0, c1', c3, zz, am_b241_16, am_b241_25]
          erw [g1]
          rw [be_bi, am_b241_58]
        · rw [am_s101]
          simp (disch := (first | assumption | omega | exact (be_gB _ _ _).1 | exact (be_gB _ _ _).2)) only [↓reduceIte, be_ofI, ↓be_ofN, ↓be_0, be_add, be_sub, be_mul, be_neg, be_rem, be_bi, be_bl, be_bv, be_br, be_bE0, be_bE1, be_b1E, be_b0E, be_bkb, be_cast, Int.toNat_natCast, Int.reduceToNat, be_lt, be_le, be_eq, be_nt, be_ck, be_nz, be_bk, be_div, not_true_eq_false, not_false_eq_true, if_true, if_false, eq_self, Int.reduceEq, Int.reduceLT, Int.reduceLE, Bool.true_eq_false, Bool.false_eq_true, t1, c2, c4, g2, am_b101_10, am_b101_20, am_b101_35, am_b101_49, am_b101_58]
      · have g1 := be_cT (X := X) (a := a) (b := b) (u := u) (e := e) (f := f) (d := d) (x := z) (p := 0) (by omega) z1 z0 z2 (by omega) (by omega) (by decide) [] (by decide)
        have g2 := fun a' => be_m100 (X := X) (a := a') (b := b) (u := u) (e := e) (f := f) (d := d) (h := h) (x := z) (by omega) rfl (by omega) (by omega) (by omega) [] (by decide)
        refine ⟨be_vT (be_g e 52 h) (be_i (h : Int)) (be_i (be_g e 53 h)) z, be_tc a (be_tT (be_g e 52 h) ++ []), b, u, be_tm e (be_tT (be_g e 52 h) ++ []), f, ?_, ?_, be_actI hI _ (by rw [List.append_nil]; omega)⟩
        · rw [am_s241]
          simp (disch := (first | assumption | omega | exact (be_gB _ _ _).1 | exact (be_gB _ _ _).2)) only [↓reduceIte, be_ofI, ↓be_ofN, ↓be_0, be_add, be_sub, be_mul, be_neg, be_rem, be_bi, be_bl, be_bv, be_br, be_bE0, be_bE1, be_b1E, be_b0E, be_bkb, be_cast, Int.toNat_natCast, Int.reduceToNat, be_lt, be_le, be_eq, be_nt, be_ck, be_nz, be_bk, be_div, not_true_eq_false, not_false_eq_true, if_true, if_false, eq_self, Int.reduceEq, Int.reduceLT, Int.reduceLE, Bool.true_eq_false, Bool.false_eq_true, t0, c1', c3, zz, am_b241_16, am_b241_25]
          erw [g1]
          rw [be_bi, am_b241_58]
        · rw [am_s101]
          simp (disch := (first | assumption | omega | exact (be_gB _ _ _).1 | exact (be_gB _ _ _).2)) only [↓reduceIte, be_ofI, ↓be_ofN, ↓be_0, be_add, be_sub, be_mul, be_neg, be_rem, be_bi, be_bl, be_bv, be_br, be_bE0, be_bE1, be_b1E, be_b0E, be_bkb, be_cast, Int.toNat_natCast, Int.reduceToNat, be_lt, be_le, be_eq, be_nt, be_ck, be_nz, be_bk, be_div, not_true_eq_false, not_false_eq_true, if_true, if_false, eq_self, Int.reduceEq, Int.reduceLT, Int.reduceLE, Bool.true_eq_false, Bool.false_eq_true, t1, c2, c4, g2, am_b101_10, am_b101_20, am_b101_35, am_b101_49, am_b101_58]
    · rw [decide_eq_false hw] at c3 c4
      refine ⟨be_i 0, be_tc a [], b, u, be_tm e [], f, ?_, ?_, hI0⟩
      · rw [am_s241]
        simp (disch := (first | assumption | omega | exact (be_gB _ _ _).1 | exact (be_gB _ _ _).2)) only [↓reduceIte, be_ofI, ↓be_ofN, ↓be_0, be_add, be_sub, be_mul, be_neg, be_rem, be_bi, be_bl, be_bv, be_br, be_bE0, be_bE1, be_b1E, be_b0E, be_bkb, be_cast, Int.toNat_natCast, Int.reduceToNat, be_lt, be_le, be_eq, be_nt, be_ck, be_nz, be_bk, be_div, not_true_eq_false, not_false_eq_true, if_true, if_false, eq_self, Int.reduceEq, Int.reduceLT, Int.reduceLE, Bool.true_eq_false, Bool.false_eq_true, t0, c1', c3, am_b241_16, am_b241_25]
      · rw [am_s101]
        simp (disch := (first | assumption | omega | exact (be_gB _ _ _).1 | exact (be_gB _ _ _).2)) only [↓reduceIte, be_ofI, ↓be_ofN, ↓be_0, be_add, be_sub, be_mul, be_neg, be_rem, be_bi, be_bl, be_bv, be_br, be_bE0, be_bE1, be_b1E, be_b0E, be_bkb, be_cast, Int.toNat_natCast, Int.reduceToNat, be_lt, be_le, be_eq, be_nt, be_ck, be_nz, be_bk, be_div, not_true_eq_false, not_false_eq_true, if_true, if_false, eq_self, Int.reduceEq, Int.reduceLT, Int.reduceLE, Bool.true_eq_false, Bool.false_eq_true, t1, c2, c4, am_b101_10, am_b101_20, am_b101_35, am_b101_49, am_b101_58]
  · rw [decide_eq_false hx] at c1' c2
    refine ⟨be_i 0, be_tc a [], b, u, be_tm e [], f, ?_, ?_, hI0⟩
    · rw [am_s241]
      simp (disch := (first | assumption | omega | exact (be_gB _ _ _).1 | exact (be_gB _ _ _).2)) only [↓reduceIte, be_ofI, ↓be_ofN, ↓be_0, be_add, be_sub, be_mul, be_neg, be_rem, be_bi, be_bl, be_bv, be_br, be_bE0, be_bE1, be_b1E, be_b0E, be_bkb, be_cast, Int.toNat_natCast, Int.reduceToNat, be_lt, be_le, be_eq, be_nt, be_ck, be_nz, be_bk, be_div, not_true_eq_false, not_false_eq_true, if_true, if_false, eq_self, Int.reduceEq, Int.reduceLT, Int.reduceLE, Bool.true_eq_false, Bool.false_eq_true, t0, c1', am_b241_16]
    · rw [am_s101]
      simp (disch := (first | assumption | omega | exact (be_gB _ _ _).1 | exact (be_gB _ _ _).2)) only [↓reduceIte, be_ofI, ↓be_ofN, ↓be_0, be_add, be_sub, be_mul, be_neg, be_rem, be_bi, be_bl, be_bv, be_br, be_bE0, be_bE1, be_b1E, be_b0E, be_bkb, be_cast, Int.toNat_natCast, Int.reduceToNat, be_lt, be_le, be_eq, be_nt, be_ck, be_nz, be_bk, be_div, not_true_eq_false, not_false_eq_true, if_true, if_false, eq_self, Int.reduceEq, Int.reduceLT, Int.reduceLE, Bool.true_eq_false, Bool.false_eq_true, t1, c2, am_b101_10, am_b101_20, am_b101_35, am_b101_49, am_b101_58]
