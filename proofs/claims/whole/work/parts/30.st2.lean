/-! THE STATE behind the constructors, the references that change apart from all others -/
def am_OD (u : Nat → Nat) (c i j : Nat) : Option (Nat × Nat) := bif Nat.ble 8 c then (bif Nat.ble 18 c then (bif Nat.ble 26 c then (bif Nat.ble 31 c then (bif Nat.beq c 31 then some (3, j + 1) else none) else (bif Nat.beq c 26 then some (27, j) else none)) else (bif Nat.ble 20 c then (bif Nat.beq c 20 then some (21, j) else none) else (bif Nat.beq c 18 then some (19, j + am_rb18 i) else none))) else (bif Nat.ble 12 c then (bif Nat.ble 13 c then (bif Nat.beq c 13 then some (1, j + 6 * i) else none) else (bif Nat.beq c 12 then some (5, j + 5 * i) else none)) else (bif Nat.ble 9 c then (bif Nat.beq c 9 then (bif Nat.ble 6 j then (bif Nat.ble 8 j then (bif Nat.ble 9 j then (bif Nat.beq j 9 then some (7, 0) else none) else (bif Nat.beq j 8 then some (0, 0) else none)) else (bif Nat.ble 7 j then (bif Nat.beq j 7 then some (8, 0) else none) else (bif Nat.beq j 6 then some (4, 0) else none))) else (bif Nat.ble 3 j then (bif Nat.ble 4 j then (bif Nat.beq j 4 then some (31, 0) else none) else (bif Nat.beq j 3 then some (2, 2) else none)) else (bif Nat.ble 1 j then (bif Nat.beq j 1 then some (2, 1) else none) else (bif Nat.beq j 0 then some (2, 0) else none)))) else none) else (bif Nat.beq c 8 then (bif Nat.ble 6 j then (bif Nat.ble 7 j then (bif Nat.ble 8 j then (bif Nat.beq j 8 then some (30, 0) else none) else (bif Nat.beq j 7 then some (29, 0) else none)) else (bif Nat.beq j 6 then some (28, 0) else none)) else (bif Nat.ble 4 j then (bif Nat.ble 5 j then (bif Nat.beq j 5 then some (26, 0) else none) else (bif Nat.beq j 4 then some (25, 0) else none)) else (bif Nat.beq j 3 then some (24, 0) else none))) else none)))) else (bif Nat.ble 3 c then (bif Nat.ble 6 c then (bif Nat.ble 7 c then (bif Nat.beq c 7 then (bif Nat.ble 1 j then (bif Nat.ble 2 j then (bif Nat.beq j 2 then some (23, 0) else none) else (bif Nat.beq j 1 then some (22, 0) else none)) else (bif Nat.beq j 0 then some (20, 0) else none)) else none) else (bif Nat.beq c 6 then (bif Nat.beq j 0 then some (18, i) else none) else none)) else (bif Nat.ble 4 c then (bif Nat.beq c 4 then (bif Nat.ble 4 j then (bif Nat.beq j 4 then some (3, u (2 * i + 1)) else none) else (bif Nat.beq j 0 then some (17, 0) else none)) else none) else (bif Nat.beq c 3 then (bif Nat.ble 4 j then (bif Nat.ble 5 j then (bif Nat.beq j 5 then some (16, i) else none) else (bif Nat.beq j 4 then some (15, i) else none)) else (bif Nat.beq j 3 then some (14, i) else none)) else none))) else (bif Nat.ble 1 c then (bif Nat.ble 2 c then (bif Nat.beq c 2 then (bif Nat.ble 7 j then (bif Nat.ble 8 j then (bif Nat.ble 9 j then (bif Nat.beq j 9 then some (6, 3 * i + 2) else none) else (bif Nat.beq j 8 then some (6, 3 * i + 1) else none)) else (bif Nat.beq j 7 then some (6, 3 * i) else none)) else (bif Nat.ble 1 j then (bif Nat.ble 5 j then (bif Nat.beq j 5 then some (3, u (2 * i)) else none) else (bif Nat.beq j 1 then some (13, i) else none)) else (bif Nat.beq j 0 then some (12, i) else none))) else none) else (bif Nat.beq c 1 then (bif Nat.beq j 7 then some (11, i) else none) else none)) else (bif Nat.beq c 0 then (bif Nat.beq j 0 then some (10, 0) else none) else none)))
def am_sd (a : Nat → Nat → Nat → Int32) (b : Nat → Nat → Nat → Int64) (u : Nat → Nat) (e : Nat → Nat → Nat → Int32) (f : Nat → Nat → Nat → Int64) : am_S := ((a, b, am_OD u), (e, f, am_OM), am_cnt, 257, 4340)
/-- an int -/
def be_i (x : Int) : Int32 := Int32.ofInt x
theorem am_semE {X : am_X} {d y : Nat} {as : List am_V} {σ : am_S} {mt : am_Mt} {r : am_R} (h1 : am_ML[y]? = some mt) (h2 : Nat.ble (am_fl as).length mt.2.2.1 = true) (h : am_fix (am_sem X d) X mt.2.2.2.2.1 0 (am_entry mt.2.2.1 as) [] σ = r) : am_sem X (d + 1) y as σ = r := by
  rw [am_sem, h1]
  show (bif Nat.ble (am_fl as).length mt.2.2.1 then am_fix (am_sem X d) X mt.2.2.2.2.1 0 (am_entry mt.2.2.1 as) [] σ else none) = r
  rw [h2]
  exact h
theorem am_OD_ne {u : Nat → Nat} {k o : Nat} {c i j : Nat} (h1 : ¬ (c = 2 ∧ j = 5 ∧ 2 * i = k)) (h2 : ¬ (c = 4 ∧ j = 4 ∧ 2 * i + 1 = k)) : am_OD (am_u u k o) c i j = am_OD u c i j := by
  by_cases hc : c = 2
  · subst hc
    by_cases hj : j = 5
    · subst hj
      have : Nat.beq (2 * i) k = false := by
        rw [← Bool.not_eq_true]; intro h; exact h1 ⟨rfl, rfl, Nat.eq_of_beq_eq_true h⟩
      show some (3, am_u u k o (2 * i)) = some (3, u (2 * i))
      unfold am_u; rw [this]; rfl
    · have hb : Nat.beq j 5 = false := by rw [← Bool.not_eq_true]; intro h; exact hj (Nat.eq_of_beq_eq_true h)
      show (bif Nat.ble 7 j then _ else (bif Nat.ble 1 j then (bif Nat.ble 5 j then (bif Nat.beq j 5 then _ else none) else _) else _)) = (bif Nat.ble 7 j then _ else (bif Nat.ble 1 j then (bif Nat.ble 5 j then (bif Nat.beq j 5 then _ else none) else _) else _))
      rw [hb]
      rfl
  · by_cases hc4 : c = 4
    · subst hc4
      by_cases hj : j = 4
      · subst hj
        have : Nat.beq (2 * i + 1) k = false := by
          rw [← Bool.not_eq_true]; intro h; exact h2 ⟨rfl, rfl, Nat.eq_of_beq_eq_true h⟩
        show some (3, am_u u k o (2 * i + 1)) = some (3, u (2 * i + 1))
        unfold am_u; rw [this]; rfl
      · have hb : Nat.beq j 4 = false := by rw [← Bool.not_eq_true]; intro h; exact hj (Nat.eq_of_beq_eq_true h)
        show (bif Nat.ble 4 j then (bif Nat.beq j 4 then _ else none) else _) = (bif Nat.ble 4 j then (bif Nat.beq j 4 then _ else none) else _)
        rw [hb]
        rfl
    · have b2 : Nat.beq c 2 = false := by rw [← Bool.not_eq_true]; intro h; exact hc (Nat.eq_of_beq_eq_true h)
      have b4 : Nat.beq c 4 = false := by rw [← Bool.not_eq_true]; intro h; exact hc4 (Nat.eq_of_beq_eq_true h)
      unfold am_OD
      simp only [b2, b4, cond_false]
theorem am_poG {a : Nat → Nat → Nat → Int32} {b : Nat → Nat → Nat → Int64} {u : Nat → Nat} {e : Nat → Nat → Nat → Int32} {f : Nat → Nat → Nat → Int64} {c i j k o : Nat} (hc : Nat.ble 50 c = false) (hk : (c = 2 ∧ j = 5 ∧ 2 * i = k) ∨ (c = 4 ∧ j = 4 ∧ 2 * i + 1 = k)) :
    am_po (am_sd a b u e f) c i j (some (3, o)) = am_sd a b (am_u u k o) e f := by
  have key : am_w3 (am_OD u) c i j (some (3, o)) = am_OD (am_u u k o) := by
    funext c' i' j'
    unfold am_w3
    by_cases h1 : c' = c
    · by_cases h2 : j' = j
      · by_cases h3 : i' = i
        · subst h1 h2 h3
          rw [Nat.beq_refl, Nat.beq_refl, Nat.beq_refl]
          rcases hk with ⟨q1, q2, q3⟩ | ⟨q1, q2, q3⟩
          · subst q1 q2 q3
            show some (3, o) = some (3, am_u u (2 * i') o (2 * i'))
            unfold am_u; rw [Nat.beq_refl]; rfl
          · subst q1 q2 q3
            show some (3, o) = some (3, am_u u (2 * i' + 1) o (2 * i' + 1))
            unfold am_u; rw [Nat.beq_refl]; rfl
        · have hb : Nat.beq i' i = false := by rw [← Bool.not_eq_true]; intro h; exact h3 (Nat.eq_of_beq_eq_true h)
          rw [hb, am_OD_ne (by omega) (by omega)]
          simp only [cond_false, Bool.cond_self]
      · have hb : Nat.beq j' j = false := by rw [← Bool.not_eq_true]; intro h; exact h2 (Nat.eq_of_beq_eq_true h)
        rw [hb, am_OD_ne (by omega) (by omega)]
        simp only [cond_false, Bool.cond_self]
    · have hb : Nat.beq c' c = false := by rw [← Bool.not_eq_true]; intro h; exact h1 (Nat.eq_of_beq_eq_true h)
      rw [hb, am_OD_ne (by omega) (by omega)]
      simp only [cond_false]
  show am_sq (am_sd a b u e f) c ((am_q (am_sd a b u e f) c).1, (am_q (am_sd a b u e f) c).2.1, am_w3 (am_q (am_sd a b u e f) c).2.2 c i j (some (3, o))) = _
  unfold am_sq am_q am_sd
  rw [hc]
  show ((a, b, am_w3 (am_OD u) c i j (some (3, o))), (e, f, am_OM), am_cnt, 257, 4340) = _
  rw [key]
theorem am_po2 {a : Nat → Nat → Nat → Int32} {b : Nat → Nat → Nat → Int64} {u : Nat → Nat} {e : Nat → Nat → Nat → Int32} {f : Nat → Nat → Nat → Int64} {i o : Nat} : am_po (am_sd a b u e f) 2 i 5 (some (3, o)) = am_sd a b (am_u u (2 * i) o) e f := am_poG rfl (Or.inl ⟨rfl, rfl, rfl⟩)
theorem am_po4 {a : Nat → Nat → Nat → Int32} {b : Nat → Nat → Nat → Int64} {u : Nat → Nat} {e : Nat → Nat → Nat → Int32} {f : Nat → Nat → Nat → Int64} {o : Nat} : am_po (am_sd a b u e f) 4 0 4 (some (3, o)) = am_sd a b (am_u u 1 o) e f := am_poG rfl (Or.inr ⟨rfl, rfl, rfl⟩)
