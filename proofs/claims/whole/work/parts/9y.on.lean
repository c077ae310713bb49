/-! THE OFFICE, 14: what holds behind it -/
variable {d : Nat} {X : am_X} {a : Nat → Nat → Nat → Int32} {b : Nat → Nat → Nat → Int64} {u : Nat → Nat} {e : Nat → Nat → Nat → Int32} {f : Nat → Nat → Nat → Int64}
variable {i F : Nat} {a' e' : Nat → Nat → Nat → Int32} {u' : Nat → Nat}
def bo_HE (e e' : Nat → Nat → Nat → Int32) : Prop := ∀ c j, (c = 50 ∧ (j = 0 ∨ j = 1 ∨ j = 2 ∨ j = 3 ∨ j = 29 ∨ j = 40 ∨ j = 45 ∨ j = 46)) ∨ (51 ≤ c ∧ c ≤ 58) ∨ (76 ≤ c ∧ c ≤ 83) → be_g e' c j = be_g e c j
def bo_HA (a a' : Nat → Nat → Nat → Int32) : Prop := ∀ c i j, (c = 2 ∧ j ≠ 6) ∨ c = 1 ∨ c = 5 ∨ c = 11 ∨ c = 6 ∨ c = 19 → a' c i j = a c i j
theorem bo_I1n (hI : be_I1 a u i e) (hE : bo_HE e e') (hA : bo_HA a a') (hT : be_T3 e') (h12 : be_g e' 50 13 < be_g e' 50 12) (h6 : a' 2 i 6 = be_i (be_h e')) (hq : a' 3 (u' (2 * i)) 1 = be_i (be_q e')) (hu : u' (2 * i) = (be_g e' 50 13 + 1).toNat) (hOW : be_OW a' (u' (2 * i)) e' (be_the e') (be_num e')) : be_I1 a' u' i e' := by
  have q : ∀ c j, (c = 50 ∧ (j = 0 ∨ j = 1 ∨ j = 2 ∨ j = 3 ∨ j = 29 ∨ j = 40 ∨ j = 45 ∨ j = 46)) ∨ (51 ≤ c ∧ c ≤ 58) ∨ (76 ≤ c ∧ c ≤ 83) → be_g e' c j = be_g e c j := hE
  have qa : ∀ c i j, (c = 2 ∧ j ≠ 6) ∨ c = 1 ∨ c = 5 ∨ c = 11 ∨ c = 6 ∨ c = 19 → a' c i j = a c i j := hA
  obtain ⟨h1, h2, -, h4, h5, -, ⟨g1, g2, g3, -, -, g6, g7⟩, -, -, g10, g11, g12⟩ := hI
  refine ⟨?_, ?_, hT, ?_, ?_, h12, ⟨?_, ?_, ?_, h6, hq, ?_, ?_⟩, hu, hOW, ?_, ?_, ?_⟩
  · unfold be_W
    simp (disch := omega) only [q]
    exact h1
  · unfold be_W2
    simp (disch := omega) only [q]
    exact h2
  · rw [q 50 29 (by omega)]; exact h4
  · rw [q 50 3 (by omega)]; exact h5
  · rw [qa _ _ _ (by omega), q 50 0 (by omega)]; exact g1
  · rw [qa _ _ _ (by omega), q 50 2 (by omega)]; exact g2
  · rw [qa _ _ _ (by omega), q 50 3 (by omega)]; exact g3
  · intro h hh
    have hh' : h < be_nh e := by
      unfold be_nh at hh ⊢
      rw [q 50 2 (by omega)] at hh
      exact hh
    have := g6 h hh'
    unfold be_HR at this ⊢
    simp (disch := omega) only [q, qa]
    exact this
  · intro r hr
    have hr' : r < be_nr e := by
      unfold be_nr at hr ⊢
      rw [q 50 0 (by omega)] at hr
      exact hr
    have := g7 r hr'
    unfold be_RR be_ft at this ⊢
    simp (disch := omega) only [q, qa]
    exact this
  · unfold be_SE at g10 ⊢
    simp (disch := omega) only [q, qa]
    exact g10
  · unfold be_PL at g11 ⊢
    simp (disch := omega) only [q, qa]
    exact g11
  · unfold be_BK at g12 ⊢
    simp (disch := omega) only [q, qa]
    exact g12
/-- with the office that held -/
theorem bo_old (hI : be_I1 a u i e) (hF : be_g e 50 13 < (F : Int)) (hF5 : F ≤ 5) (hE : bo_HE e e') (hA : bo_HA a a') (h13 : be_g e' 50 13 = be_g e 50 13) (h12 : be_g e' 50 13 < be_g e' 50 12) (hS : ∀ f0, f0 < F → bo_SO e e' f0) (h62 : ∀ c, c < 60 → 0 ≤ be_g e' 62 c ∧ be_g e' 62 c ≤ 99) (h6 : a' 2 i 6 = a 2 i 6) (hO : ∀ c o j, c = 3 ∨ c = 14 ∨ c = 15 ∨ c = 16 → o ≤ F → a' c o j = a c o j) (hu : u' (2 * i) = u (2 * i)) : be_I1 a' u' i e' := by
  have hT3 := hI.2.2.1
  obtain ⟨⟨⟨t1, t2, t3, t4⟩, t5, t6⟩, t7⟩ := hT3
  have h29 := hE 50 29 (by omega)
  obtain ⟨-, -, -, -, -, -, ⟨-, -, -, g4, g5, -, -⟩, g8, g9, -⟩ := id hI
  have hthe : be_the e' = be_the e := by unfold be_the; rw [h13]
  have hle : u (2 * i) ≤ F := by omega
  by_cases hneg : be_g e 50 13 < 0
  · have n0 : be_num e = 0 := if_pos hneg
    have n0' : be_num e' = 0 := if_pos (by omega)
    have hh : be_h e' = be_h e := by unfold be_h; rw [n0, n0', h29]; rfl
    have hq : be_q e' = be_q e := by unfold be_q; rw [n0, n0']; rfl
    refine bo_I1n hI hE hA ⟨⟨⟨by omega, by omega, fun h => by omega, h62⟩, by omega, by omega⟩, fun h => by omega⟩ h12 (h6.trans (by rw [hh]; exact g4)) (by rw [hu, hO 3 _ 1 (by omega) hle, hq]; exact g5) (by rw [hu, h13]; exact g8) ?_
    rw [n0] at g9
    rw [n0', hu, hthe]
    exact ⟨(hO 3 _ 2 (by omega) hle).trans g9.1, fun k hk => absurd hk (Nat.not_lt_zero _), fun j hj => absurd hj (Nat.not_lt_zero _)⟩
  · have hOF := t7 (by omega)
    have ht : be_g e 50 13 = ((be_the e : Nat) : Int) := by unfold be_the; omega
    have ht' : be_g e' 50 13 = ((be_the e : Nat) : Int) := h13.trans ht
    have hS0 := hS (be_the e) (by omega)
    have hOF' := bo_SOOF hS0 hOF
    have num : be_num e' = be_num e := by
      unfold be_num
      rw [h13, ht, Int.toNat_natCast, hS0.1]
    have hn10 : be_num e ≤ 10 := by
      unfold be_num
      rw [ht, Int.toNat_natCast]
      have := hOF.2.1
      split <;> omega
    have hnn : be_num e = (be_g e 60 (be_the e)).toNat := by
      unfold be_num
      rw [ht, Int.toNat_natCast, if_neg (by omega)]
    have hV : bo_VF e (be_the e) (be_num e) := by rw [hnn]; exact hOF.2.2
    have hl : ∀ w z, be_last e' w z (be_num e') = be_last e w z (be_num e) := fun w z => by
      rw [bo_last ht' w z, bo_last ht w z, num, bo_SOlF hS0.2 w z _ hn10]
    have hh : be_h e' = be_h e := by unfold be_h; rw [h29, hl]
    have hq : be_q e' = be_q e := by unfold be_q; rw [hl]
    refine bo_I1n hI hE hA ⟨⟨⟨by omega, by omega, fun h => ?_, h62⟩, by omega, by omega⟩, fun h => by rw [hthe]; exact hOF'⟩ h12 (h6.trans (by rw [hh]; exact g4)) (by rw [hu, hO 3 _ 1 (by omega) hle, hq]; exact g5) (by rw [hu, h13]; exact g8) ?_
    · rw [ht', Int.toNat_natCast, hS0.1]
      exact ⟨hOF.1, hOF.2.1⟩
    · rw [hu, hthe, num]
      have := bo_SOOW hS0.2 hn10 (bo_VFpos hV _ (Nat.le_refl _)) g9
      obtain ⟨p1, p2, p3⟩ := this
      refine ⟨(hO 3 _ 2 (by omega) hle).trans p1, fun k hk hw => ?_, fun j hj => (hO 16 _ j (by omega) hle).trans (p3 j hj)⟩
      rw [hO 14 _ _ (by omega) hle, hO 15 _ _ (by omega) hle]
      exact p2 k hk hw
/-! the image -/
theorem bo_imE (h : ∀ c j, (c = 50 ∧ (j = 29 ∨ (52 ≤ j ∧ j ≤ 60))) ∨ (85 ≤ c ∧ c ≤ 103) → be_g e' c j = be_g e c j) : ∀ c j, (c = 50 ∧ (j = 0 ∨ j = 1 ∨ j = 2 ∨ j = 3 ∨ j = 13 ∨ j = 29 ∨ j = 40 ∨ j = 45 ∨ j = 46)) ∨ (51 ≤ c ∧ c ≤ 58) ∨ (76 ≤ c ∧ c ≤ 83) → be_g (be_im e') c j = be_g (be_im e) c j := by
  intro c j hc
  by_cases h5 : c = 50
  · subst h5
    rcases (show j = 0 ∨ j = 1 ∨ j = 2 ∨ j = 3 ∨ j = 13 ∨ j = 29 ∨ j = 40 ∨ j = 45 ∨ j = 46 by omega) with rfl | rfl | rfl | rfl | rfl | rfl | rfl | rfl | rfl
    · exact h 50 54 (by omega)
    · exact h 50 55 (by omega)
    · exact h 50 56 (by omega)
    · exact h 50 57 (by omega)
    · exact h 50 53 (by omega)
    · exact h 50 29 (by omega)
    · exact h 50 58 (by omega)
    · exact h 50 59 (by omega)
    · exact h 50 60 (by omega)
  · unfold be_g
    rw [be_imL h5, be_imL h5]
    repeat' split
    · exact h _ j (by omega)
    · exact h _ j (by omega)
    · exact h _ j (by omega)
    · exact h _ j (by omega)
    · omega
theorem bo_imO {c : Nat} (hc : 60 ≤ c ∧ c ≤ 65) (j : Nat) : be_g (be_im e) c j = be_g e c j := by
  unfold be_g
  rw [be_imL (by omega), if_neg (by omega), if_neg (by omega), if_neg (by omega), if_neg (by omega)]
theorem bo_im12 : be_g (be_im e) 50 12 = be_g e 50 12 := rfl
theorem bo_im13 : be_g (be_im e) 50 13 = be_g e 50 53 := rfl
theorem bo_imS {f0 : Nat} (h : bo_SO e e' f0) : bo_SO (be_im e) (be_im e') f0 := by
  refine ⟨by rw [bo_imO (by omega), bo_imO (by omega)]; exact h.1, fun c k h1 h2 h3 h4 => ?_, fun j hj => by rw [bo_imO (by omega), bo_imO (by omega)]; exact h.2.2 j hj⟩
  rw [bo_imO (by omega)] at h4
  rw [bo_imO (by omega), bo_imO (by omega)]
  exact h.2.1 c k h1 h2 h3 h4
