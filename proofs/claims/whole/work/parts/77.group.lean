/-! GROUPS of what holds, one by one -/
variable {d : Nat} {X : am_X} {a : Nat → Nat → Nat → Int32} {b : Nat → Nat → Nat → Int64} {u : Nat → Nat} {e : Nat → Nat → Nat → Int32} {f : Nat → Nat → Nat → Int64}
theorem be_t1 {a' e' : Nat → Nat → Nat → Int32} {u' : Nat → Nat} {i : Nat} (hi : i < 3) (hE : be_RH e e') (hA : ∀ c k j, be_inH i c k ∨ c = 3 ∨ c = 14 ∨ c = 15 ∨ c = 16 → a' c k j = a c k j) (hu : u' (2 * i) = u (2 * i)) (h : be_I1 a u i e) : be_I1 a' u' i e' := by
  obtain ⟨h1, h2, h3, h4, h5, h6, h7⟩ := h
  exact be_RH_I1 hE ⟨h1, h2, h3, h4, h5, h6, be_I1_a hA hu hi h1 h2 h7⟩
theorem be_t3 {a' e' : Nat → Nat → Nat → Int32} (hE : ∀ c j, (60 ≤ c ∧ c ≤ 65) ∨ (c = 50 ∧ j = 12) → be_g e' c j = be_g e c j) (hA : ∀ c k j, c = 3 ∨ c = 14 ∨ c = 15 ∨ c = 16 ∨ (c = 9 ∧ j = 5) → a' c k j = a c k j) (h : be_I3 a e) : be_I3 a' e' := by
  obtain ⟨g1, g2, g3, g4, g5, g6, g7, g8⟩ := h
  unfold be_I3
  simp (disch := omega) only [hE]
  refine ⟨?_, g2, g3, ?_, ?_, ?_, ?_, g8⟩
  · rw [hA _ _ _ (by omega)]; exact g1
  · intro f hf
    obtain ⟨o1, o2, o3, o4, o5⟩ := be_EH_OF (e := e) (e' := e') (fun c j h => hE c j (by omega)) f
    obtain ⟨q1, q2, q3, q4, q5, q6⟩ := g4 f hf
    refine ⟨o1 q1, o3 ▸ o2 a' (f + 1) _ ⟨?_, ?_, ?_, ?_, ?_⟩⟩
    · rw [hA _ _ _ (by omega)]; exact q2
    · rw [hA _ _ _ (by omega)]; exact q3
    · rw [hA _ _ _ (by omega)]; exact q4
    · intro k hk hw; rw [hA _ _ _ (by omega), hA _ _ _ (by omega)]; exact q5 k hk hw
    · intro j hj; rw [hA _ _ _ (by omega)]; exact q6 j hj
  · rw [hA _ _ _ (by omega)]; exact g5
  · rw [hA _ _ _ (by omega)]; exact g6
  · rw [hA _ _ _ (by omega)]; exact g7
theorem be_t4 {a' e' : Nat → Nat → Nat → Int32} (hE : ∀ c j, c = 59 ∨ c = 67 ∨ (c = 50 ∧ j = 14) → be_g e' c j = be_g e c j) (hA : ∀ c k j, c = 17 ∨ (c = 4 ∧ j = 1) → a' c k j = a c k j) (h : be_I4 a e) : be_I4 a' e' := by
  obtain ⟨t1, t2, t3, t4, t5⟩ := h
  unfold be_I4
  simp (disch := omega) only [hE]
  refine ⟨?_, t2, t3, ?_, t5⟩
  · rw [hA _ _ _ (by omega)]; exact t1
  · intro k hk; rw [hA _ _ _ (by omega)]; exact t4 k hk
theorem be_t5 {a' e' : Nat → Nat → Nat → Int32} {u' : Nat → Nat} (hE : ∀ c j, (c = 50 ∧ (j = 12 ∨ j = 29 ∨ (52 ≤ j ∧ j ≤ 60))) ∨ (60 ≤ c ∧ c ≤ 65) ∨ (85 ≤ c ∧ c ≤ 100) → be_g e' c j = be_g e c j) (hA : ∀ c k j, be_inH 1 c k ∨ c = 3 ∨ c = 14 ∨ c = 15 ∨ c = 16 ∨ (c = 9 ∧ j = 2) → a' c k j = a c k j) (hu : u' 2 = u 2) (h : be_I5 a u e) : be_I5 a' u' e' := by
  obtain ⟨m1, m2⟩ := h
  have him : be_RH (be_im e) (be_im e') := by
    intro c j hc
    by_cases h5 : c = 50
    · subst h5
      rcases (show j = 0 ∨ j = 1 ∨ j = 2 ∨ j = 3 ∨ j = 12 ∨ j = 13 ∨ j = 29 ∨ j = 40 ∨ j = 45 ∨ j = 46 by omega) with rfl | rfl | rfl | rfl | rfl | rfl | rfl | rfl | rfl | rfl
      · exact hE 50 54 (by omega)
      · exact hE 50 55 (by omega)
      · exact hE 50 56 (by omega)
      · exact hE 50 57 (by omega)
      · exact hE 50 12 (by omega)
      · exact hE 50 53 (by omega)
      · exact hE 50 29 (by omega)
      · exact hE 50 58 (by omega)
      · exact hE 50 59 (by omega)
      · exact hE 50 60 (by omega)
    · unfold be_g
      rw [be_imL h5, be_imL h5]
      repeat' split
      all_goals exact hE _ j (by omega)
  refine ⟨?_, ?_⟩
  · rw [hA _ _ _ (by omega), hE _ _ (by omega)]; exact m1
  · rw [hE _ _ (by omega)]
    rcases m2 with q | ⟨q, r⟩
    · exact Or.inl q
    · exact Or.inr ⟨q, be_t1 (by decide) him (fun c k j h => hA c k j (h.elim Or.inl fun h => Or.inr (by omega))) hu r⟩
theorem be_t6 {a' e' : Nat → Nat → Nat → Int32} {b' f' : Nat → Nat → Nat → Int64} (hE : ∀ c j, c = 102 ∨ c = 103 → be_g e' c j = be_g e c j) (hA : ∀ c k j, c = 22 ∨ c = 23 → a' c k j = a c k j) (hb : ∀ k j, b' 21 k j = b 21 k j) (hf : ∀ j, f' 104 0 j = f 104 0 j) (h : be_I6 a b e f) : be_I6 a' b' e' f' := by
  intro t ht
  obtain ⟨q1, q2, q3, q4, q5, q6, q7, q8⟩ := h t ht
  simp (disch := omega) only [hE, hA, hb, hf]
  exact ⟨q1, q2, q3, q4, q5, q6, q7, q8⟩
theorem be_t7 {a' e' : Nat → Nat → Nat → Int32} (hE : ∀ c j, c = 101 ∨ (c = 50 ∧ j = 77) → be_g e' c j = be_g e c j) (hA : ∀ c k j, c = 10 ∨ (c = 0 ∧ j = 1) → a' c k j = a c k j) (h : be_I7 a e) : be_I7 a' e' := by
  obtain ⟨k1, k2, k3, k4⟩ := h
  unfold be_I7
  simp (disch := omega) only [hE]
  refine ⟨?_, k2, k3, ?_⟩
  · rw [hA _ _ _ (by omega)]; exact k1
  · intro k hk h20; rw [hA _ _ _ (by omega)]; exact k4 k hk h20
