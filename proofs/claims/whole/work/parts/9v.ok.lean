/-! THE OFFICE, 11: clause by clause -/
variable {d : Nat} {X : am_X} {a : Nat → Nat → Nat → Int32} {b : Nat → Nat → Nat → Int64} {u : Nat → Nat} {e : Nat → Nat → Nat → Int32} {f : Nat → Nat → Nat → Int64}
variable {n o q p z s w F k : Nat} {T : Nat → Int}
/-- the reference behind the first wishes -/
def bo_RS (e : Nat → Nat → Nat → Int32) (n : Nat) (T : Nat → Int) (p F s : Nat) : Prop := bo_Y e n T ∧ bo_LT e ∧ be_g e 50 15 = (p : Int) ∧ be_g e 50 25 = ((100 * F + s : Nat) : Int)
/-- what the reference leaves -/
def bo_GG (e e' : Nat → Nat → Nat → Int32) (F : Nat) : Prop := (∀ c j, (c = 50 ∧ (j = 15 ∨ j = 16 ∨ j = 25 ∨ j = 26 ∨ j = 27)) ∨ c = 66 ∨ (c = 60 ∧ j = F) ∨ (61 ≤ c ∧ c ≤ 64 ∧ 10 * F ≤ j ∧ j < 10 * F + 10) ∨ (c = 65 ∧ 100 * F ≤ j) ∨ be_g e' c j = be_g e c j) ∧
  ∀ j, (be_g e' 61 j = be_g e 61 j ∨ (0 ≤ be_g e' 61 j ∧ be_g e' 61 j ≤ 3)) ∧ (be_g e' 62 j = be_g e 62 j ∨ (0 ≤ be_g e' 62 j ∧ be_g e' 62 j ≤ 99))
theorem bo_GGr : bo_GG e e F := ⟨fun c j => Or.inr (Or.inr (Or.inr (Or.inr (Or.inr rfl)))), fun j => ⟨Or.inl rfl, Or.inl rfl⟩⟩
theorem bo_GGt {e1 e2 : Nat → Nat → Nat → Int32} (h1 : bo_GG e e1 F) (h2 : bo_GG e1 e2 F) : bo_GG e e2 F := by
  refine ⟨fun c j => ?_, fun j => ⟨?_, ?_⟩⟩
  · rcases h2.1 c j with h | h | h | h | h | h
    · exact Or.inl h
    · exact Or.inr (Or.inl h)
    · exact Or.inr (Or.inr (Or.inl h))
    · exact Or.inr (Or.inr (Or.inr (Or.inl h)))
    · exact Or.inr (Or.inr (Or.inr (Or.inr (Or.inl h))))
    · rw [h]; exact h1.1 c j
  · rcases (h2.2 j).1 with h | h
    · rw [h]; exact (h1.2 j).1
    · exact Or.inr h
  · rcases (h2.2 j).2 with h | h
    · rw [h]; exact (h1.2 j).2
    · exact Or.inr h
theorem bo_GGw {c j : Nat} {y : Int32} (hc : (c = 50 ∧ (j = 15 ∨ j = 16 ∨ j = 25 ∨ j = 26 ∨ j = 27)) ∨ (c = 60 ∧ j = F)) : bo_GG e (am_w3 e c 0 j y) F := by
  refine ⟨fun c' j' => ?_, fun j' => ⟨Or.inl (bo_gwn (by omega)), Or.inl (bo_gwn (by omega))⟩⟩
  by_cases hq : c' = c ∧ j' = j
  · obtain ⟨rfl, rfl⟩ := hq
    rcases hc with h | h
    · exact Or.inl h
    · exact Or.inr (Or.inr (Or.inl h))
  · exact Or.inr (Or.inr (Or.inr (Or.inr (Or.inr (bo_gwn hq)))))
theorem bo_GGK {e1 : Nat → Nat → Nat → Int32} (hk : k < 10) (h : bo_GK e e1 (10 * F + k) (100 * F + s)) (h1 : 0 ≤ be_g e1 61 (10 * F + k) ∧ be_g e1 61 (10 * F + k) ≤ 3) (h2 : be_g e1 62 (10 * F + k) = be_g e 62 (10 * F + k) ∨ (0 ≤ be_g e1 62 (10 * F + k) ∧ be_g e1 62 (10 * F + k) ≤ 99)) : bo_GG e e1 F := by
  refine ⟨fun c j => ?_, fun j => ?_⟩
  · rcases h c j with h | h | h | h | h
    · exact Or.inl h
    · exact Or.inr (Or.inl h)
    · exact Or.inr (Or.inr (Or.inr (Or.inl (by omega))))
    · exact Or.inr (Or.inr (Or.inr (Or.inr (Or.inl (by omega)))))
    · exact Or.inr (Or.inr (Or.inr (Or.inr (Or.inr h))))
  · by_cases hj : j = 10 * F + k
    · subst hj; exact ⟨Or.inr h1, h2⟩
    · exact ⟨Or.inl (bo_GKg h (by omega)), Or.inl (bo_GKg h (by omega))⟩
theorem bo_acat {g : Nat → Int32} {t : Nat → Int} : ∀ (l : List Int) (s s' : Nat), bo_ac g s l → bo_at t s' l → ∀ i, i < l.length → g (s + i) = be_i (be_enc (t (s' + i)))
  | [], _, _, _, _, i, hi => absurd hi (Nat.not_lt_zero _)
  | c :: r, s, s', h1, h2, i, hi => by
    cases i with
    | zero => rw [Nat.add_zero, Nat.add_zero, h2.1]; exact h1.1
    | succ i =>
      have := bo_acat r (s + 1) (s' + 1) h1.2 h2.2 i (by rw [List.length_cons] at hi; omega)
      rw [show s + (i + 1) = s + 1 + i by omega, show s' + (i + 1) = s' + 1 + i by omega]
      exact this
theorem bo_atat {t t' : Nat → Int} : ∀ (l : List Int) (s : Nat), bo_at t s l → bo_at t' s l → ∀ i, i < l.length → t' (s + i) = t (s + i)
  | [], _, _, _, i, hi => absurd hi (Nat.not_lt_zero _)
  | c :: r, s, h1, h2, i, hi => by
    cases i with
    | zero => exact h2.1.trans h1.1.symm
    | succ i =>
      have := bo_atat r (s + 1) h1.2 h2.2 i (by rw [List.length_cons] at hi; omega)
      rw [show s + (i + 1) = s + 1 + i by omega]
      exact this
/-- a clause that stands -/
theorem bo_step {eV eV' a' : Nat → Nat → Nat → Int32} {v : Int} {cs : List Int} (hF : F ≤ 5) (hk : k < 10) (hs : s = be_pos eV F k) (hw : w = be_wn eV F k) (hOS : be_OS a o eV F k) (hVF : bo_VF eV F k)
    (hC : bo_CK X a a' n T o p s w q v cs) (r4 : be_g eV' 61 (10 * F + k) = bo_wk T p) (r5 : be_g eV' 62 (10 * F + k) = v) (r6 : bo_wk T p < 2 → be_g eV' 63 (10 * F + k) = ((100 * F + s : Nat) : Int) ∧ be_g eV' 64 (10 * F + k) = ((100 * F + s + cs.length : Nat) : Int)) (r7 : bo_at (be_g eV' 65) (100 * F + s) cs) (r8 : bo_GK eV eV' (10 * F + k) (100 * F + s)) :
    be_OS a' o eV' F (k + 1) ∧ bo_VF eV' F (k + 1) ∧ be_pos eV' F (k + 1) = s + cs.length ∧ bo_SN eV eV' F k s := by
  obtain ⟨c1, c2, c3, c4, c5, c6, c7, c8, c9, c10, c11, -⟩ := hC
  have hwk := bo_wkR T p
  have hSN : bo_SN eV eV' F k s := ⟨fun c i h1 h2 h3 _ => bo_GKg r8 (by omega), fun j hj => bo_GKg r8 (by omega)⟩
  have pk : be_pos eV' F k = s := (bo_SOpos hSN k (Nat.le_refl _)).trans hs.symm
  have wk : be_wn eV' F k = w := (bo_SOwn hSN k (Nat.le_refl _)).trans hw.symm
  have pk1 : be_pos eV' F (k + 1) = s + cs.length := by
    rw [be_pos, r4, pk]
    by_cases h : bo_wk T p < 2
    · rw [if_pos h, (r6 h).2]; omega
    · rw [if_neg h, c7 (by omega)]; rfl
  obtain ⟨o1, o2, o3, o4, o5⟩ := hOS
  have hV0 : bo_VF eV' F k := bo_SOVF hSN (Nat.le_refl _) (by omega) hVF
  have hn := c1.1.1.1
  have hq1 := c1.2.2.2.2.1
  have hq2 := c1.2.2.2.2.2
  refine ⟨⟨?_, ?_, ?_, ?_, ?_⟩, ?_, pk1, hSN⟩
  · rw [c8, be_lastF, r4, r5, bo_SOlF hSN 2 2 k (Nat.le_refl _)]
    by_cases h : bo_wk T p = 2
    · rw [if_pos h, if_pos h]
    · rw [if_neg h, if_neg h]; exact o1
  · rw [c9, be_lastF, r4, r5, bo_SOlF hSN 3 40 k (Nat.le_refl _)]
    by_cases h : bo_wk T p = 3
    · rw [if_pos h, if_pos h]
    · rw [if_neg h, if_neg h]; exact o2
  · rw [be_wn, r4, wk]
    by_cases h : bo_wk T p < 2
    · rw [if_pos h] at c10 ⊢; exact c10.1
    · rw [if_neg h] at c10 ⊢; exact c10
  · intro i hi h2
    by_cases hik : i = k
    · subst hik
      rw [r4] at h2 ⊢
      rw [if_pos h2] at c10
      rw [wk, pk1, r5]
      refine ⟨c10.2.1.trans ?_, c10.2.2⟩
      rfl
    · have e61 := hSN.1 61 i (by omega) (by omega) (by omega) (by omega)
      have e62 := hSN.1 62 i (by omega) (by omega) (by omega) (by omega)
      rw [e61] at h2 ⊢
      rw [e62, bo_SOwn hSN i (by omega), bo_SOpos hSN (i + 1) (by omega)]
      have hm := be_wn_mono eV F (k := i + 1) (n := k) (by omega)
      rw [be_wn, if_pos h2] at hm
      have fr : ∀ c, c = 14 ∨ c = 15 → a' c o (be_wn eV F i) = a c o (be_wn eV F i) := fun c hc => by
        rcases c11 c o (be_wn eV F i) with h | h | h | h | h
        · omega
        · omega
        · omega
        · omega
        · exact h
      rw [fr 14 (Or.inl rfl), fr 15 (Or.inr rfl)]
      exact o4 i (by omega) h2
  · intro j hj
    rw [pk1] at hj
    by_cases hjs : j < s
    · rw [hSN.2 j hjs]
      have fr : a' 16 o j = a 16 o j := by
        rcases c11 16 o j with h | h | h | h | h
        · omega
        · omega
        · omega
        · omega
        · exact h
      rw [fr]
      exact o5 j (by omega)
    · have := bo_acat cs s (100 * F + s) c5 r7 (j - s) (by omega)
      rw [show s + (j - s) = j by omega, show 100 * F + s + (j - s) = 100 * F + j by omega] at this
      exact this
  · intro i hi
    by_cases hik : i = k
    · subst hik
      rw [r4, r5, pk1, pk]
      refine ⟨hwk.1, hwk.2, c3, c4, fun h => ⟨(r6 h).1, ?_, by omega, by omega, ?_⟩⟩
      · rw [(r6 h).2, Nat.add_assoc]
      · rw [show s + cs.length - s = cs.length by omega]
        exact bo_pfw r7 (c6 h)
    · exact hV0 i (by omega)
/-- another state of the reference, likewise -/
theorem bo_stepN {eV eV' e1 e2 : Nat → Nat → Nat → Int32} {v : Int} {cs : List Int} (hN : bo_SN eV e1 F k s) (hSN : bo_SN eV eV' F k s)
    (r4 : be_g eV' 61 (10 * F + k) = bo_wk T p) (r5 : be_g eV' 62 (10 * F + k) = v) (r6 : bo_wk T p < 2 → be_g eV' 63 (10 * F + k) = ((100 * F + s : Nat) : Int) ∧ be_g eV' 64 (10 * F + k) = ((100 * F + s + cs.length : Nat) : Int)) (r7 : bo_at (be_g eV' 65) (100 * F + s) cs)
    (q4 : be_g e2 61 (10 * F + k) = bo_wk T p) (q5 : be_g e2 62 (10 * F + k) = v) (q6 : bo_wk T p < 2 → be_g e2 63 (10 * F + k) = ((100 * F + s : Nat) : Int) ∧ be_g e2 64 (10 * F + k) = ((100 * F + s + cs.length : Nat) : Int)) (q7 : bo_at (be_g e2 65) (100 * F + s) cs) (q8 : bo_GK e1 e2 (10 * F + k) (100 * F + s)) : bo_SN eV' e2 F (k + 1) (s + cs.length) := by
  refine ⟨fun c i h1 h2 h3 h4 => ?_, fun j hj => ?_⟩
  · by_cases hik : i = k
    · subst hik
      rcases (show c = 61 ∨ c = 62 ∨ c = 63 ∨ c = 64 by omega) with rfl | rfl | rfl | rfl
      · rw [q4, r4]
      · rw [q5, r5]
      · have h : bo_wk T p < 2 := by rw [← r4]; omega
        rw [(q6 h).1, (r6 h).1]
      · have h : bo_wk T p < 2 := by rw [← r4]; omega
        rw [(q6 h).2, (r6 h).2]
    · have e61 := hSN.1 61 i (by omega) (by omega) (by omega) (by omega)
      rw [bo_GKg q8 (by omega), hN.1 c i h1 h2 (by omega) (by omega), hSN.1 c i h1 h2 (by omega) (by omega)]
  · by_cases hjs : j < s
    · rw [bo_GKg q8 (by omega), hN.2 j hjs, hSN.2 j hjs]
    · have := bo_atat cs (100 * F + s) r7 q7 (j - s) (by omega)
      rw [show 100 * F + s + (j - s) = 100 * F + j by omega] at this
      exact this
