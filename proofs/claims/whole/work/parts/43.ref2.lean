/-! THE REFERENCE, 2: the office that holds, hours at a quarter -/
variable {d : Nat} {X : am_X} {a : Nat → Nat → Nat → Int32} {b : Nat → Nat → Nat → Int64} {u : Nat → Nat} {e : Nat → Nat → Nat → Int32} {f : Nat → Nat → Nat → Int64}
def be_beg (e : Nat → Nat → Nat → Int32) : Nat := (10 * be_g e 50 13).toNat
def be_num (e : Nat → Nat → Nat → Int32) : Nat := if be_g e 50 13 < 0 then 0 else (be_g e 60 (be_g e 50 13).toNat).toNat
/-- what is known of the office that holds -/
def be_T (e : Nat → Nat → Nat → Int32) : Prop := -1 ≤ be_g e 50 13 ∧ be_g e 50 13 ≤ 5 ∧ (0 ≤ be_g e 50 13 → 0 ≤ be_g e 60 (be_g e 50 13).toNat ∧ be_g e 60 (be_g e 50 13).toNat ≤ 10) ∧ ∀ c, c < 60 → 0 ≤ be_g e 62 c ∧ be_g e 62 c ≤ 99
theorem be_T_bd (hT : be_T e) : be_beg e + be_num e ≤ 60 := by
  obtain ⟨h1, h2, h3, -⟩ := hT
  unfold be_beg be_num
  split
  · omega
  · have := h3 (by omega); omega
theorem be_m29 (hd : 1 ≤ d) (hT : be_T e) : am_sem X d 29 [.inr (50, 0)] (am_sd a b u e f) = some (some (am_I (be_i ((be_beg e : Int)))), (am_sd a b u e f)) := by
  obtain ⟨d, rfl⟩ : ∃ q, d = q + 1 := ⟨d - 1, by omega⟩
  have he := be_gI e
  obtain ⟨h1, h2, h3, -⟩ := hT
  rw [am_s29]
  simp (disch := (first | assumption | omega | exact (be_gB _ _ _).1 | exact (be_gB _ _ _).2)) only [be_ofI, ↓be_ofN, ↓be_0, be_add, be_sub, be_mul, be_neg, be_rem, be_bi, be_bl, be_bv, be_br, be_bE0, be_bE1, be_b1E, be_b0E, be_bkb, be_cast, Int.toNat_natCast, Int.reduceToNat, be_lt, be_le, be_eq, be_nt, be_ck, be_nz, be_bk, be_div, he]
  unfold be_beg
  split
  · rw [show (((10 * be_g e 50 13).toNat : Nat) : Int) = 10 * be_g e 50 13 by omega]
  · rw [show (((10 * be_g e 50 13).toNat : Nat) : Int) = 0 by omega]
theorem be_m30 (hd : 1 ≤ d) (hT : be_T e) : am_sem X d 30 [.inr (50, 0)] (am_sd a b u e f) = some (some (am_I (be_i (((be_beg e + be_num e : Nat) : Int)))), (am_sd a b u e f)) := by
  obtain ⟨d, rfl⟩ : ∃ q, d = q + 1 := ⟨d - 1, by omega⟩
  have he := be_gI e
  obtain ⟨h1, h2, h3, -⟩ := hT
  rw [am_s30]
  by_cases h : 0 ≤ be_g e 50 13
  · obtain ⟨h4, h5⟩ := h3 h
    simp (disch := (first | assumption | omega | exact (be_gB _ _ _).1 | exact (be_gB _ _ _).2)) only [be_ofI, ↓be_ofN, ↓be_0, be_add, be_sub, be_mul, be_neg, be_rem, be_bi, be_bl, be_bv, be_br, be_bE0, be_bE1, be_b1E, be_b0E, be_bkb, be_cast, Int.toNat_natCast, Int.reduceToNat, be_lt, be_le, be_eq, be_nt, be_ck, be_nz, be_bk, be_div, he]
    rw [if_pos h, show ((be_beg e + be_num e : Nat) : Int) = 10 * be_g e 50 13 + be_g e 60 (be_g e 50 13).toNat by unfold be_beg be_num; rw [if_neg (by omega)]; omega]
  · have e0 : be_beg e + be_num e = 0 := by unfold be_beg be_num; rw [if_pos (by omega)]; omega
    simp (disch := (first | assumption | omega | exact (be_gB _ _ _).1 | exact (be_gB _ _ _).2)) only [be_ofI, ↓be_ofN, ↓be_0, be_add, be_sub, be_mul, be_neg, be_rem, be_bi, be_bl, be_bv, be_br, be_bE0, be_bE1, be_b1E, be_b0E, be_bkb, be_cast, Int.toNat_natCast, Int.reduceToNat, be_lt, be_le, be_eq, be_nt, be_ck, be_nz, be_bk, be_div, he]
    rw [if_neg h, e0]
    rfl
def be_last (e : Nat → Nat → Nat → Int32) (w z : Int) : Nat → Int
  | 0 => z
  | k + 1 => if be_g e 61 (be_beg e + k) = w then be_g e 62 (be_beg e + k) else be_last e w z k
theorem be_lastR (hT : be_T e) {w z : Int} (h1 : 0 ≤ z) (h2 : z ≤ 99) : ∀ k, k ≤ be_num e → 0 ≤ be_last e w z k ∧ be_last e w z k ≤ 99 := by
  intro k
  induction k with
  | zero => intro _; exact ⟨h1, h2⟩
  | succ k ih =>
    intro hk
    rw [be_last]
    split
    · have := be_T_bd hT
      exact hT.2.2.2 _ (by omega)
    · exact ih (by omega)
theorem be_m31 (hd : 2 ≤ d) (hT : be_T e) {w z : Int} (h1 : -2147483648 ≤ w) (h2 : w < 2147483648) (h3 : 0 ≤ z) (h4 : z ≤ 99) :
    am_sem X d 31 [.inr (50, 0), am_I (be_i (w)), am_I (be_i (z))] (am_sd a b u e f) = some (some (am_I (be_i (be_last e w z (be_num e)))), (am_sd a b u e f)) := by
  obtain ⟨d, rfl⟩ : ∃ q, d = q + 1 := ⟨d - 1, by omega⟩
  have he := be_gI e
  have hbd := be_T_bd hT
  rw [am_s31]
  have key : ∀ (n k : Nat) (y x : Int), k + n = be_num e → x = ((be_beg e + k : Nat) : Int) → y = be_last e w z k → am_fix (am_sem X d) X am_P31 8 [.inr (50, 0), am_I (be_i (w)), am_I (be_i (z)), am_I (be_i (y)), am_I (be_i (x))] [] (am_sd a b u e f) = some (some (am_I (be_i (be_last e w z (be_num e)))), (am_sd a b u e f)) := by
    intro n
    induction n with
    | zero =>
      rintro k y x hk rfl rfl
      obtain rfl : k = be_num e := hk
      rw [am_b31_8]
      simp (disch := (first | assumption | omega | exact (be_gB _ _ _).1 | exact (be_gB _ _ _).2)) only [be_ofI, ↓be_ofN, ↓be_0, be_add, be_sub, be_mul, be_neg, be_rem, be_bi, be_bl, be_bv, be_br, be_bE0, be_bE1, be_b1E, be_b0E, be_bkb, be_cast, Int.toNat_natCast, Int.reduceToNat, be_lt, be_le, be_eq, be_nt, be_ck, be_nz, be_bk, be_div, be_m30, hT, am_b31_6, am_b31_14]
      rw [if_pos (by omega)]
    | succ n ih =>
      rintro k y x hk rfl rfl
      rw [am_b31_8]
      simp (disch := (first | assumption | omega | exact (be_gB _ _ _).1 | exact (be_gB _ _ _).2)) only [be_ofI, ↓be_ofN, ↓be_0, be_add, be_sub, be_mul, be_neg, be_rem, be_bi, be_bl, be_bv, be_br, be_bE0, be_bE1, be_b1E, be_b0E, be_bkb, be_cast, Int.toNat_natCast, Int.reduceToNat, be_lt, be_le, be_eq, be_nt, be_ck, be_nz, be_bk, be_div, be_m30, hT, am_b31_6, am_b31_14, he]
      rw [if_neg (by omega)]
      split
      · rename_i hc
        refine ih (k + 1) _ _ (by omega) (by omega) ?_
        rw [be_last, if_neg hc]
      · rename_i hc
        refine ih (k + 1) _ _ (by omega) (by omega) ?_
        rw [be_last, if_pos (by simpa using hc)]
  simp (disch := (first | assumption | omega | exact (be_gB _ _ _).1 | exact (be_gB _ _ _).2)) only [be_ofI, ↓be_ofN, ↓be_0, be_add, be_sub, be_mul, be_neg, be_rem, be_bi, be_bl, be_bv, be_br, be_bE0, be_bE1, be_b1E, be_b0E, be_bkb, be_cast, Int.toNat_natCast, Int.reduceToNat, be_lt, be_le, be_eq, be_nt, be_ck, be_nz, be_bk, be_div, be_m29, hT, am_b31_6, am_b31_14]
  exact key (be_num e) 0 _ _ (by omega) (by omega) rfl
def be_q (e : Nat → Nat → Nat → Int32) : Int := if be_last e 3 40 (be_num e) < 1 then 1 else if 40 < be_last e 3 40 (be_num e) then 40 else be_last e 3 40 (be_num e)
theorem be_qR (e : Nat → Nat → Nat → Int32) : 1 ≤ be_q e ∧ be_q e ≤ 40 := by
  unfold be_q
  repeat' split
  all_goals omega
def be_h (e : Nat → Nat → Nat → Int32) : Int := if 0 ≤ be_g e 50 29 then be_g e 50 29 else be_last e 2 2 (be_num e)
/-- what is known of holdInMind -/
def be_T2 (e : Nat → Nat → Nat → Int32) : Prop := be_T e ∧ -1 ≤ be_g e 50 29 ∧ be_g e 50 29 ≤ 12
theorem be_hR (hT : be_T2 e) : 0 ≤ be_h e ∧ be_h e ≤ 99 := by
  obtain ⟨hT, h1, h2⟩ := hT
  have := be_lastR hT (w := 2) (z := 2) (by decide) (by decide) _ (Nat.le_refl _)
  unfold be_h
  split <;> omega
theorem be_m33 (hd : 3 ≤ d) (hT : be_T e) : am_sem X d 33 [.inr (50, 0)] (am_sd a b u e f) = some (some (am_I (be_i (be_q e))), (am_sd a b u e f)) := by
  obtain ⟨d, rfl⟩ : ∃ q, d = q + 1 := ⟨d - 1, by omega⟩
  have hl := be_lastR hT (w := 3) (z := 40) (by decide) (by decide) _ (Nat.le_refl _)
  rw [am_s33]
  simp (disch := (first | assumption | omega | exact (be_gB _ _ _).1 | exact (be_gB _ _ _).2)) only [be_ofI, ↓be_ofN, ↓be_0, be_add, be_sub, be_mul, be_neg, be_rem, be_bi, be_bl, be_bv, be_br, be_bE0, be_bE1, be_b1E, be_b0E, be_bkb, be_cast, Int.toNat_natCast, Int.reduceToNat, be_lt, be_le, be_eq, be_nt, be_ck, be_nz, be_bk, be_div, be_m31, hT, am_b33_7]
  unfold be_q
  repeat' split
  all_goals first | rfl | omega
theorem be_m32 (hd : 3 ≤ d) (hT : be_T2 e) : am_sem X d 32 [.inr (50, 0)] (am_sd a b u e f) = some (some (am_I (be_i (be_h e))), (am_sd a b u e f)) := by
  obtain ⟨d, rfl⟩ : ∃ q, d = q + 1 := ⟨d - 1, by omega⟩
  have he := be_gI e
  obtain ⟨hT, h1, h2⟩ := hT
  rw [am_s32]
  simp (disch := (first | assumption | omega | exact (be_gB _ _ _).1 | exact (be_gB _ _ _).2)) only [be_ofI, ↓be_ofN, ↓be_0, be_add, be_sub, be_mul, be_neg, be_rem, be_bi, be_bl, be_bv, be_br, be_bE0, be_bE1, be_b1E, be_b0E, be_bkb, be_cast, Int.toNat_natCast, Int.reduceToNat, be_lt, be_le, be_eq, be_nt, be_ck, be_nz, be_bk, be_div, be_m31, hT, am_b32_20, he]
  unfold be_h
  repeat' split
  all_goals first | rfl | omega
/-- what is known of rooms, hours and the day -/
def be_W (e : Nat → Nat → Nat → Int32) : Prop :=
  (0 ≤ be_g e 50 0 ∧ be_g e 50 0 ≤ 4 ∧ 0 ≤ be_g e 50 1 ∧ be_g e 50 1 < 16 ∧ 0 ≤ be_g e 50 2 ∧ be_g e 50 2 ≤ 6 ∧ 0 ≤ be_g e 50 3 ∧ be_g e 50 3 ≤ 19999) ∧
  (∀ h, h < 6 → 0 ≤ be_g e 52 h ∧ be_g e 52 h ≤ 6 ∧ 0 ≤ be_g e 53 h ∧ be_g e 53 h ≤ 9 ∧ 0 ≤ be_g e 54 h ∧ be_g e 54 h ≤ 39 ∧ 0 ≤ be_g e 55 h ∧ be_g e 55 h ≤ 12 ∧ 0 ≤ be_g e 56 h ∧ be_g e 56 h ≤ 20 ∧ 0 ≤ be_g e 57 h ∧ be_g e 57 h ≤ 4) ∧
  (∀ r, r < 4 → 0 ≤ be_g e 51 r ∧ be_g e 51 r ≤ 20) ∧ (∀ j, j < 24 → 0 ≤ be_g e 58 j ∧ be_g e 58 j ≤ 9)
def be_comes (e : Nat → Nat → Nat → Int32) (dy : Int) (h : Nat) : Int :=
  if be_g e 52 h = 2 then -5 else if be_g e 52 h = 3 then be_g e 54 h + be_g e 53 h / 3
  else if be_g e 52 h = 5 then (if dy % (be_g e 53 h + 2) = 0 then be_g e 54 h else -5)
  else if be_g e 52 h = 6 then be_g e 54 h + be_g e 53 h / 3 + be_g e 58 (4 * h + (dy % 4).toNat) else be_g e 54 h
theorem be_comesR (hW : be_W e) {dy : Int} {h : Nat} (hh : h < 6) : -5 ≤ be_comes e dy h ∧ be_comes e dy h ≤ 51 := by
  have q1 := hW.2.1 h hh
  have q2 := hW.2.2.2 (4 * h + (dy % 4).toNat) (by omega)
  unfold be_comes
  repeat' split
  all_goals omega
theorem be_m37 (hd : 1 ≤ d) (hW : be_W e) {h : Nat} (hh : h < 6) : am_sem X d 37 [.inr (50, 0), am_I (be_i ((h : Int)))] (am_sd a b u e f) = some (some (am_I (be_i (be_comes e (be_g e 50 3) h))), (am_sd a b u e f)) := by
  obtain ⟨d, rfl⟩ : ∃ q, d = q + 1 := ⟨d - 1, by omega⟩
  have he := be_gI e
  have q1 := hW.2.1 h hh
  obtain ⟨d1, d2⟩ := hW.1.2.2.2.2.2.2
  rw [am_s37]
  have hm : 0 ≤ be_g e 50 3 % 4 ∧ be_g e 50 3 % 4 < 4 := by omega
  have ht : (4 * (h : Int) + be_g e 50 3 % 4).toNat = 4 * h + (be_g e 50 3 % 4).toNat := by omega
  have hv : 0 ≤ be_g e 50 3 % (be_g e 53 h + 2) ∧ be_g e 50 3 % (be_g e 53 h + 2) < 20000 := ⟨Int.emod_nonneg _ (by omega), by
    have := Int.emod_lt_of_pos (be_g e 50 3) (show 0 < be_g e 53 h + 2 by omega); omega⟩
  simp (disch := (first | assumption | omega | exact (be_gB _ _ _).1 | exact (be_gB _ _ _).2)) only [be_ofI, ↓be_ofN, ↓be_0, be_add, be_sub, be_mul, be_neg, be_rem, be_bi, be_bl, be_bv, be_br, be_bE0, be_bE1, be_b1E, be_b0E, be_bkb, be_cast, Int.toNat_natCast, Int.reduceToNat, be_lt, be_le, be_eq, be_nt, be_ck, be_nz, be_bk, be_div, he, ht]
  unfold be_comes
  repeat' split
  all_goals first | rfl | omega
def be_goes (e : Nat → Nat → Nat → Int32) (h : Nat) : Int := be_g e 54 h + be_g e 55 h + if be_g e 52 h = 4 then be_g e 53 h / 2 else 0
theorem be_m38 (hd : 1 ≤ d) (hW : be_W e) {h : Nat} (hh : h < 6) : am_sem X d 38 [.inr (50, 0), am_I (be_i ((h : Int)))] (am_sd a b u e f) = some (some (am_I (be_i (be_goes e h))), (am_sd a b u e f)) := by
  obtain ⟨d, rfl⟩ : ∃ q, d = q + 1 := ⟨d - 1, by omega⟩
  have he := be_gI e
  have q1 := hW.2.1 h hh
  rw [am_s38]
  simp (disch := (first | assumption | omega | exact (be_gB _ _ _).1 | exact (be_gB _ _ _).2)) only [be_ofI, ↓be_ofN, ↓be_0, be_add, be_sub, be_mul, be_neg, be_rem, be_bi, be_bl, be_bv, be_br, be_bE0, be_bE1, be_b1E, be_b0E, be_bkb, be_cast, Int.toNat_natCast, Int.reduceToNat, be_lt, be_le, be_eq, be_nt, be_ck, be_nz, be_bk, be_div, he]
  unfold be_goes
  repeat' split
  all_goals first | rfl | omega
def be_bt (e : Nat → Nat → Nat → Int32) (h : Nat) : Int := min (be_g e 54 h + be_g e 55 h) (be_q e)
theorem be_m39 (hd : 4 ≤ d) (hW : be_W e) (hT : be_T2 e) {h : Nat} (hh : h < 6) : am_sem X d 39 [.inr (50, 0), am_I (be_i ((h : Int)))] (am_sd a b u e f) = some (some (am_I (be_i (be_bt e h))), (am_sd a b u e f)) := by
  obtain ⟨d, rfl⟩ : ∃ q, d = q + 1 := ⟨d - 1, by omega⟩
  have he := be_gI e
  have q1 := hW.2.1 h hh
  have q2 := be_qR e
  have hT1 := hT.1
  rw [am_s39]
  simp (disch := (first | assumption | omega | exact (be_gB _ _ _).1 | exact (be_gB _ _ _).2)) only [be_ofI, ↓be_ofN, ↓be_0, be_add, be_sub, be_mul, be_neg, be_rem, be_bi, be_bl, be_bv, be_br, be_bE0, be_bE1, be_b1E, be_b0E, be_bkb, be_cast, Int.toNat_natCast, Int.reduceToNat, be_lt, be_le, be_eq, be_nt, be_ck, be_nz, be_bk, be_div, he, be_m33, hT1, be_m3, am_b39_18, am_b39_21]
  rfl
def be_ht (e : Nat → Nat → Nat → Int32) (dy : Int) (h : Nat) : Int :=
  if be_comes e dy h < 0 ∨ be_g e 54 h + be_h e < be_comes e dy h then min (be_g e 54 h + be_h e) (be_bt e h) else be_bt e h
theorem be_m40 (hd : 5 ≤ d) (hW : be_W e) (hT : be_T2 e) {h : Nat} (hh : h < 6) : am_sem X d 40 [.inr (50, 0), am_I (be_i ((h : Int)))] (am_sd a b u e f) = some (some (am_I (be_i (be_ht e (be_g e 50 3) h))), (am_sd a b u e f)) := by
  obtain ⟨d, rfl⟩ : ∃ q, d = q + 1 := ⟨d - 1, by omega⟩
  have he := be_gI e
  have q1 := hW.2.1 h hh
  have q2 := be_qR e
  have q3 := be_hR hT
  have q4 := be_comesR hW (dy := be_g e 50 3) hh
  have q5 : be_bt e h ≤ 60 ∧ -60 ≤ be_bt e h := by unfold be_bt; omega
  rw [am_s40]
  simp (disch := (first | assumption | omega | exact (be_gB _ _ _).1 | exact (be_gB _ _ _).2)) only [be_ofI, ↓be_ofN, ↓be_0, be_add, be_sub, be_mul, be_neg, be_rem, be_bi, be_bl, be_bv, be_br, be_bE0, be_bE1, be_b1E, be_b0E, be_bkb, be_cast, Int.toNat_natCast, Int.reduceToNat, be_lt, be_le, be_eq, be_nt, be_ck, be_nz, be_bk, be_div, he, be_m32, be_m37, be_m39, be_m3, hT, hW, am_b40_10, am_b40_17, am_b40_25, am_b40_36, am_b40_39, am_b40_47]
  unfold be_ht
  repeat' split
  all_goals first | rfl | omega
def be_held (e : Nat → Nat → Nat → Int32) (dy : Int) (h t : Nat) : Bool := decide (be_g e 54 h ≤ (t : Int) ∧ (t : Int) < be_ht e dy h)
theorem be_m41 (hd : 6 ≤ d) (hW : be_W e) (hT : be_T2 e) {h t : Nat} (hh : h < 6) (ht : t < 1000) : am_sem X d 41 [.inr (50, 0), am_I (be_i ((h : Int))), am_I (be_i ((t : Int)))] (am_sd a b u e f) = some (some (am_I (be_i (be_b (be_held e (be_g e 50 3) h t)))), (am_sd a b u e f)) := by
  obtain ⟨d, rfl⟩ : ∃ q, d = q + 1 := ⟨d - 1, by omega⟩
  have he := be_gI e
  have q1 := hW.2.1 h hh
  have q5 : be_ht e (be_g e 50 3) h ≤ 160 ∧ -160 ≤ be_ht e (be_g e 50 3) h := by
    have q2 := be_qR e
    have q3 := be_hR hT
    unfold be_ht be_bt; split <;> omega
  rw [am_s41]
  simp (disch := (first | assumption | omega | exact (be_gB _ _ _).1 | exact (be_gB _ _ _).2)) only [be_ofI, ↓be_ofN, ↓be_0, be_add, be_sub, be_mul, be_neg, be_rem, be_bi, be_bl, be_bv, be_br, be_bE0, be_bE1, be_b1E, be_b0E, be_bkb, be_cast, Int.toNat_natCast, Int.reduceToNat, be_lt, be_le, be_eq, be_nt, be_ck, be_nz, be_bk, be_div, he, be_m40, hT, hW, am_b41_16]
  unfold be_held
  (repeat' split) <;> first | rfl | omega | (rw [decide_eq_true (by omega)]; rfl) | (rw [decide_eq_false (by omega)]; rfl)
def be_in (e : Nat → Nat → Nat → Int32) (dy : Int) (h t : Nat) : Bool := decide (0 ≤ be_comes e dy h ∧ be_comes e dy h ≤ (t : Int) ∧ (t : Int) < min (be_goes e h) (be_q e))
theorem be_m42 (hd : 6 ≤ d) (hW : be_W e) (hT : be_T2 e) {h t : Nat} (hh : h < 6) (ht : t < 1000) : am_sem X d 42 [.inr (50, 0), am_I (be_i ((h : Int))), am_I (be_i ((t : Int)))] (am_sd a b u e f) = some (some (am_I (be_i (be_b (be_in e (be_g e 50 3) h t)))), (am_sd a b u e f)) := by
  obtain ⟨d, rfl⟩ : ∃ q, d = q + 1 := ⟨d - 1, by omega⟩
  have he := be_gI e
  have q1 := hW.2.1 h hh
  have q2 := be_qR e
  have q4 := be_comesR hW (dy := be_g e 50 3) hh
  have hT1 := hT.1
  have q5 : be_goes e h ≤ 160 ∧ 0 ≤ be_goes e h := by
    unfold be_goes; split <;> omega
  rw [am_s42]
  simp (disch := (first | assumption | omega | exact (be_gB _ _ _).1 | exact (be_gB _ _ _).2)) only [be_ofI, ↓be_ofN, ↓be_0, be_add, be_sub, be_mul, be_neg, be_rem, be_bi, be_bl, be_bv, be_br, be_bE0, be_bE1, be_b1E, be_b0E, be_bkb, be_cast, Int.toNat_natCast, Int.reduceToNat, be_lt, be_le, be_eq, be_nt, be_ck, be_nz, be_bk, be_div, he, be_m37, be_m38, be_m33, be_m3, hT1, hW, am_b42_5, am_b42_14, am_b42_24, am_b42_28, am_b42_31]
  unfold be_in
  (repeat' split) <;> first | rfl | omega | (rw [decide_eq_true (by omega)]; rfl) | (rw [decide_eq_false (by omega)]; rfl)
/-- which hours' people are in a room, for which it is held -/
def be_iS (e : Nat → Nat → Nat → Int32) (dy : Int) (r : Int) (t n : Nat) : Nat := be_bs (fun h => decide (be_g e 57 h = r) && be_in e dy h t) n
def be_hS (e : Nat → Nat → Nat → Int32) (dy : Int) (r : Int) (t n : Nat) : Nat := be_bs (fun h => decide (be_g e 57 h = r) && be_held e dy h t) n
