/-! WHAT CHANGES, WHAT STAYS -/
variable {d : Nat} {X : am_X} {a : Nat → Nat → Nat → Int32} {b : Nat → Nat → Nat → Int64} {u : Nat → Nat} {e : Nat → Nat → Nat → Int32} {f : Nat → Nat → Nat → Int64}
theorem be_I1_a {a' : Nat → Nat → Nat → Int32} {u' : Nat → Nat} {i : Nat} (hA : ∀ c k j, be_inH i c k ∨ c = 3 ∨ c = 14 ∨ c = 15 ∨ c = 16 → a' c k j = a c k j) (hu : u' (2 * i) = u (2 * i)) (hi : i < 3) (hW : be_W e) (hW2 : be_W2 e) (hX : be_HX a u i e) : be_HX a' u' i e := by
  obtain ⟨hn, hn2⟩ := be_nhR hW
  obtain ⟨hr, hr2⟩ := be_nrR hW
  obtain ⟨ws, wp, wb⟩ := hW2.2
  obtain ⟨⟨o1, o2, o3, o4, o5, o6, o7⟩, x1, ⟨x2, x3, x4⟩, ⟨s1, s2⟩, ⟨p1, p2⟩, ⟨k1, k2⟩⟩ := hX
  refine ⟨⟨?_, ?_, ?_, ?_, ?_, ?_, ?_⟩, ?_, ⟨?_, ?_, ?_⟩, ⟨?_, ?_⟩, ⟨?_, ?_⟩, ⟨?_, ?_⟩⟩
  · rw [hA _ _ _ (by unfold be_inH; omega)]; exact o1
  · rw [hA _ _ _ (by unfold be_inH; omega)]; exact o2
  · rw [hA _ _ _ (by unfold be_inH; omega)]; exact o3
  · rw [hA _ _ _ (by unfold be_inH; omega)]; exact o4
  · rw [hu, hA _ _ _ (by omega)]; exact o5
  · intro h hh
    obtain ⟨z0, z1, z2, z3, z4, z5, z6, z7⟩ := o6 h hh
    have q1 : ∀ j, a' 1 (h + 6 * i) j = a 1 (h + 6 * i) j := fun j => hA _ _ _ (by unfold be_inH; omega)
    have q2 : ∀ j, a' 11 (h + 6 * i) j = a 11 (h + 6 * i) j := fun j => hA _ _ _ (by unfold be_inH; omega)
    refine ⟨?_, ?_, ?_, ?_, ?_, ?_, ?_, ?_⟩
    all_goals first | (rw [q1]; assumption) | skip
    intro j hj; rw [q2]; exact z7 j hj
  · intro r hr
    obtain ⟨z0, z1, z2⟩ := o7 r hr
    have q1 : ∀ j, a' 5 (r + 5 * i) j = a 5 (r + 5 * i) j := fun j => hA _ _ _ (by unfold be_inH; omega)
    refine ⟨?_, ?_, ?_⟩ <;> (rw [q1]; assumption)
  · rw [hu]; exact x1
  · rw [hu, hA _ _ _ (by omega)]; exact x2
  · intro k hk hw
    rw [hu, hA _ _ _ (by omega), hA _ _ _ (by omega)]; exact x3 k hk hw
  · intro j hj
    rw [hu, hA _ _ _ (by omega)]; exact x4 j hj
  · rw [hA _ _ _ (by unfold be_inH; omega)]; exact s1
  · intro k hk
    have q1 : ∀ j, a' 19 (k + 22 * i) j = a 19 (k + 22 * i) j := fun j => hA _ _ _ (by unfold be_inH; omega)
    rw [q1, q1, q1, q1]; exact s2 k hk
  · rw [hA _ _ _ (by unfold be_inH; omega)]; exact p1
  · intro k hk
    have q1 : ∀ j, a' 19 (k + (22 * i + 6)) j = a 19 (k + (22 * i + 6)) j := fun j => hA _ _ _ (by unfold be_inH; omega)
    rw [q1, q1]; exact p2 k hk
  · rw [hA _ _ _ (by unfold be_inH; omega)]; exact k1
  · intro k hk
    have q1 : ∀ j, a' 19 (k + (22 * i + 14)) j = a 19 (k + (22 * i + 14)) j := fun j => hA _ _ _ (by unfold be_inH; omega)
    rw [q1, q1]; exact k2 k hk
/-- the class's changes by questions: the trial house, ways -/
def be_FA (a a' : Nat → Nat → Nat → Int32) : Prop := ∀ c k j, c ≠ 8 → c ≠ 24 → c ≠ 27 → c ≠ 29 → c ≠ 30 → ¬ be_inH 2 c k → a' c k j = a c k j
theorem be_IV_q {a' : Nat → Nat → Nat → Int32} {b' : Nat → Nat → Nat → Int64} {u' : Nat → Nat} (hI : be_IV a b u e f) (hA : be_FA a a') (hN : be_NM a') (hb : ∀ k j, b' 21 k j = b 21 k j) (h8 : be_I8 b') (hu : ∀ k, k < 4 → u' k = u k) : be_IV a' b' u' e f := by
  obtain ⟨⟨h1, h2, h3, h4, h5, h6, h7⟩, hN0, ⟨g1, g2, g3, g4, g5, g6, g7, g8⟩, ⟨t1, t2, t3, t4, t5⟩, ⟨m1, m2⟩, hT, ⟨k1, k2, k3, k4⟩, -, h9⟩ := hI
  have hc : ∀ c k j, c = 3 ∨ c = 14 ∨ c = 15 ∨ c = 16 ∨ c = 9 ∨ c = 4 ∨ c = 17 ∨ c = 22 ∨ c = 23 ∨ c = 0 ∨ c = 10 → a' c k j = a c k j := fun c k j h => hA c k j (by omega) (by omega) (by omega) (by omega) (by omega) (by unfold be_inH; omega)
  have hh : ∀ i, i < 2 → ∀ c k j, be_inH i c k ∨ c = 3 ∨ c = 14 ∨ c = 15 ∨ c = 16 → a' c k j = a c k j := fun i hi c k j h => hA c k j (by unfold be_inH at h; omega) (by unfold be_inH at h; omega) (by unfold be_inH at h; omega) (by unfold be_inH at h; omega) (by unfold be_inH at h; omega) (by unfold be_inH at h ⊢; omega)
  refine ⟨⟨h1, h2, h3, h4, h5, h6, be_I1_a (hh 0 (by decide)) (hu _ (by decide)) (by decide) h1 h2 h7⟩, hN, ⟨?_, g2, g3, ?_, ?_, ?_, ?_, g8⟩, ⟨?_, t2, t3, ?_, t5⟩, ⟨?_, ?_⟩, ?_, ⟨?_, k2, k3, ?_⟩, h8, h9⟩
  · rw [hc _ _ _ (by omega)]; exact g1
  · intro f hf
    obtain ⟨q1, q2, q3, q4, q5, q6⟩ := g4 f hf
    refine ⟨q1, ?_, ?_, ?_, ?_, ?_⟩
    · rw [hc _ _ _ (by omega)]; exact q2
    · rw [hc _ _ _ (by omega)]; exact q3
    · rw [hc _ _ _ (by omega)]; exact q4
    · intro k hk hw; rw [hc _ _ _ (by omega), hc _ _ _ (by omega)]; exact q5 k hk hw
    · intro j hj; rw [hc _ _ _ (by omega)]; exact q6 j hj
  · rw [hc _ _ _ (by omega)]; exact g5
  · rw [hc _ _ _ (by omega)]; exact g6
  · rw [hc _ _ _ (by omega)]; exact g7
  · rw [hc _ _ _ (by omega)]; exact t1
  · intro k hk; rw [hc _ _ _ (by omega)]; exact t4 k hk
  · rw [hc _ _ _ (by omega)]; exact m1
  · rcases m2 with q | ⟨q, r1, r2, r3, r4, r5, r6, r7⟩
    · exact Or.inl q
    · exact Or.inr ⟨q, r1, r2, r3, r4, r5, r6, be_I1_a (hh 1 (by decide)) (hu _ (by decide)) (by decide) r1 r2 r7⟩
  · intro t ht
    obtain ⟨q1, q2, q3, q4, q5, q6, q7, q8⟩ := hT t ht
    refine ⟨?_, q2, q3, ?_, q5, q6, q7, ?_⟩
    · rw [hc _ _ _ (by omega)]; exact q1
    · rw [hc _ _ _ (by omega)]; exact q4
    · intro k hk; rw [hb]; exact q8 k hk
  · rw [hc _ _ _ (by omega)]; exact k1
  · intro k hk h20; rw [hc _ _ _ (by omega)]; exact k4 k hk h20
/-- alike but for a house's places -/
def be_EH (e e' : Nat → Nat → Nat → Int32) : Prop := ∀ c j, (c = 50 ∧ (j = 12 ∨ j = 14 ∨ j = 29 ∨ (52 ≤ j ∧ j ≤ 60) ∨ j = 77)) ∨ (59 ≤ c ∧ c ≤ 65) ∨ c = 67 ∨ (85 ≤ c ∧ c ≤ 103) → be_g e' c j = be_g e c j
theorem be_EH_im {e' : Nat → Nat → Nat → Int32} (h : be_EH e e') : be_RH (be_im e) (be_im e') := by
  intro c j hc
  by_cases h5 : c = 50
  · subst h5
    rcases (show j = 0 ∨ j = 1 ∨ j = 2 ∨ j = 3 ∨ j = 12 ∨ j = 13 ∨ j = 29 ∨ j = 40 ∨ j = 45 ∨ j = 46 by omega) with rfl | rfl | rfl | rfl | rfl | rfl | rfl | rfl | rfl | rfl
    · exact h 50 54 (by omega)
    · exact h 50 55 (by omega)
    · exact h 50 56 (by omega)
    · exact h 50 57 (by omega)
    · exact h 50 12 (by omega)
    · exact h 50 53 (by omega)
    · exact h 50 29 (by omega)
    · exact h 50 58 (by omega)
    · exact h 50 59 (by omega)
    · exact h 50 60 (by omega)
  · unfold be_g
    rw [be_imL h5, be_imL h5]
    repeat' split
    all_goals exact h _ j (by omega)
theorem be_EH_OF {e' : Nat → Nat → Nat → Int32} (h : ∀ c j, 60 ≤ c ∧ c ≤ 65 → be_g e' c j = be_g e c j) (f : Nat) : (be_OF e f → be_OF e' f) ∧ (∀ (a : Nat → Nat → Nat → Int32) (o n : Nat), be_OS a o e f n → be_OS a o e' f n) ∧ be_nc e' f = be_nc e f ∧ (∀ w z n, be_lastF e' f w z n = be_lastF e f w z n) ∧ ∀ (a : Nat → Nat → Nat → Int32) (o n : Nat), be_OW a o e f n → be_OW a o e' f n := by
  have hp : ∀ k, be_pos e' f k = be_pos e f k := by
    intro k
    induction k with
    | zero => rfl
    | succ k ih => rw [be_pos, be_pos, ih]; simp (disch := omega) only [h]
  have hw : ∀ k, be_wn e' f k = be_wn e f k := by
    intro k
    induction k with
    | zero => rfl
    | succ k ih => rw [be_wn, be_wn, ih]; simp (disch := omega) only [h]
  have hl : ∀ w z n, be_lastF e' f w z n = be_lastF e f w z n := by
    intro w z n
    induction n with
    | zero => rfl
    | succ n ih => rw [be_lastF, be_lastF, ih]; simp (disch := omega) only [h]
  have h65 : be_g e' 65 = be_g e 65 := by funext j; exact h 65 j (by omega)
  have hOW : ∀ (a : Nat → Nat → Nat → Int32) (o n : Nat), be_OW a o e f n → be_OW a o e' f n := by
    intro a o n hO
    unfold be_OW
    simp (disch := omega) only [h, hp, hw]
    exact hO
  refine ⟨fun hO => ?_, fun a o n hO => ?_, ?_, hl, hOW⟩
  · unfold be_OF
    simp (disch := omega) only [h, hp, h65]
    exact hO
  · unfold be_OS
    rw [hl, hl]
    exact ⟨hO.1, hO.2.1, hOW _ _ _ hO.2.2⟩
  · unfold be_nc; rw [h 60 f (by omega)]
theorem be_IV_h {a' : Nat → Nat → Nat → Int32} {u' : Nat → Nat} {e' : Nat → Nat → Nat → Int32} (hI : be_IV a b u e f) (hA : ∀ c k j, ¬ be_inH 0 c k → a' c k j = a c k j) (hN : be_NM a') (hE : be_EH e e') (hu : u' 2 = u 2) (h1' : be_I1 a' u' 0 e') (h9 : be_I9 e') : be_IV a' b u' e' f := by
  obtain ⟨-, hN0, ⟨g1, g2, g3, g4, g5, g6, g7, g8⟩, ⟨t1, t2, t3, t4, t5⟩, ⟨m1, m2⟩, hT, ⟨k1, k2, k3, k4⟩, h8⟩ := hI
  have hc : ∀ c k j, c = 3 ∨ c = 14 ∨ c = 15 ∨ c = 16 ∨ c = 9 ∨ c = 4 ∨ c = 17 ∨ c = 22 ∨ c = 23 ∨ c = 0 ∨ c = 10 → a' c k j = a c k j := fun c k j h => hA c k j (by unfold be_inH; omega)
  have hh : ∀ c k j, be_inH 1 c k ∨ c = 3 ∨ c = 14 ∨ c = 15 ∨ c = 16 → a' c k j = a c k j := fun c k j h => hA c k j (by unfold be_inH at h ⊢; omega)
  have q : ∀ c j, (c = 50 ∧ (j = 12 ∨ j = 14 ∨ j = 29 ∨ (52 ≤ j ∧ j ≤ 60) ∨ j = 77)) ∨ (59 ≤ c ∧ c ≤ 65) ∨ c = 67 ∨ (85 ≤ c ∧ c ≤ 103) → be_g e' c j = be_g e c j := hE
  refine ⟨h1', hN, ?_, ?_, ?_, ?_, ?_, h8.1, h9⟩
  · unfold be_I3
    simp (disch := omega) only [q]
    refine ⟨?_, g2, g3, ?_, ?_, ?_, ?_, g8⟩
    · rw [hc _ _ _ (by omega)]; exact g1
    · intro f hf
      obtain ⟨o1, o2, o3, o4, o5⟩ := be_EH_OF (e := e) (e' := e') (fun c j h => hE c j (by omega)) f
      obtain ⟨q1, q2, q3, q4, q5, q6⟩ := g4 f hf
      refine ⟨o1 q1, o3 ▸ o2 a' (f + 1) _ ⟨?_, ?_, ?_, ?_, ?_⟩⟩
      · rw [hc _ _ _ (by omega)]; exact q2
      · rw [hc _ _ _ (by omega)]; exact q3
      · rw [hc _ _ _ (by omega)]; exact q4
      · intro k hk hw; rw [hc _ _ _ (by omega), hc _ _ _ (by omega)]; exact q5 k hk hw
      · intro j hj; rw [hc _ _ _ (by omega)]; exact q6 j hj
    · rw [hc _ _ _ (by omega)]; exact g5
    · rw [hc _ _ _ (by omega)]; exact g6
    · rw [hc _ _ _ (by omega)]; exact g7
  · unfold be_I4
    simp (disch := omega) only [q]
    refine ⟨?_, t2, t3, ?_, t5⟩
    · rw [hc _ _ _ (by omega)]; exact t1
    · intro k hk; rw [hc _ _ _ (by omega)]; exact t4 k hk
  · unfold be_I5
    simp (disch := omega) only [q]
    refine ⟨?_, ?_⟩
    · rw [hc _ _ _ (by omega)]; exact m1
    · rcases m2 with q0 | ⟨q0, r1, r2, r3, r4, r5, r6, r7⟩
      · exact Or.inl q0
      · exact Or.inr ⟨q0, be_RH_I1 (be_EH_im hE) ⟨r1, r2, r3, r4, r5, r6, be_I1_a hh hu (by decide) r1 r2 r7⟩⟩
  · intro t ht
    obtain ⟨q1, q2, q3, q4, q5, q6, q7, q8⟩ := hT t ht
    simp (disch := omega) only [q]
    refine ⟨?_, q2, q3, ?_, q5, q6, q7, q8⟩
    · rw [hc _ _ _ (by omega)]; exact q1
    · rw [hc _ _ _ (by omega)]; exact q4
  · unfold be_I7
    simp (disch := omega) only [q]
    refine ⟨?_, k2, k3, ?_⟩
    · rw [hc _ _ _ (by omega)]; exact k1
    · intro k hk h20; rw [hc _ _ _ (by omega)]; exact k4 k hk h20
/-- what a call of both comes to: the same number, and what holds holds on -/
def be_C (X : am_X) (d c m : Nat) (as : List am_V) (a : Nat → Nat → Nat → Int32) (b : Nat → Nat → Nat → Int64) (u : Nat → Nat) (e : Nat → Nat → Nat → Int32) (f : Nat → Nat → Nat → Int64) : Prop :=
  ∃ (v : Int32) (a' : Nat → Nat → Nat → Int32) (b' : Nat → Nat → Nat → Int64) (u' : Nat → Nat) (e' : Nat → Nat → Nat → Int32) (f' : Nat → Nat → Nat → Int64),
    am_sem X d c (.inr (9, 0) :: as) (am_sd a b u e f) = some (some (am_I v), am_sd a' b' u' e f) ∧ am_sem X d m (.inr (50, 0) :: as) (am_sd a' b' u' e f) = some (some (am_I v), am_sd a' b' u' e' f') ∧ be_IV a' b' u' e' f'
def be_CJ (X : am_X) (d c m : Nat) (as : List am_V) (a : Nat → Nat → Nat → Int32) (b : Nat → Nat → Nat → Int64) (u : Nat → Nat) (e : Nat → Nat → Nat → Int32) (f : Nat → Nat → Nat → Int64) : Prop :=
  ∃ (v : Int64) (a' : Nat → Nat → Nat → Int32) (b' : Nat → Nat → Nat → Int64) (u' : Nat → Nat) (e' : Nat → Nat → Nat → Int32) (f' : Nat → Nat → Nat → Int64),
    am_sem X d c (.inr (9, 0) :: as) (am_sd a b u e f) = some (some (am_J v), am_sd a' b' u' e f) ∧ am_sem X d m (.inr (50, 0) :: as) (am_sd a' b' u' e f) = some (some (am_J v), am_sd a' b' u' e' f') ∧ be_IV a' b' u' e' f'
theorem be_Cp {c m : Nat} {as : List am_V} {v : Int32} (hI : be_IV a b u e f) (h1 : am_sem X d c (.inr (9, 0) :: as) (am_sd a b u e f) = some (some (am_I v), (am_sd a b u e f))) (h2 : am_sem X d m (.inr (50, 0) :: as) (am_sd a b u e f) = some (some (am_I v), (am_sd a b u e f))) : be_C X d c m as a b u e f := ⟨v, a, b, u, e, f, h1, h2, hI⟩
theorem be_CJp {c m : Nat} {as : List am_V} {v : Int64} (hI : be_IV a b u e f) (h1 : am_sem X d c (.inr (9, 0) :: as) (am_sd a b u e f) = some (some (am_J v), (am_sd a b u e f))) (h2 : am_sem X d m (.inr (50, 0) :: as) (am_sd a b u e f) = some (some (am_J v), (am_sd a b u e f))) : be_CJ X d c m as a b u e f := ⟨v, a, b, u, e, f, h1, h2, hI⟩
theorem be_RA_pl (G : Nat → Int32) : be_RA e (am_w2 e 68 0 G) := fun c j h => be_g2 (by omega)
theorem be_Cpl {c m : Nat} {as : List am_V} {v : Int32} {G : Nat → Int32} (hI : be_IV a b u e f) (h1 : am_sem X d c (.inr (9, 0) :: as) (am_sd a b u e f) = some (some (am_I v), (am_sd a b u e f))) (h2 : am_sem X d m (.inr (50, 0) :: as) (am_sd a b u e f) = some (some (am_I v), am_sd a b u (am_w2 e 68 0 G) f)) : be_C X d c m as a b u e f := ⟨v, a, b, u, am_w2 e 68 0 G, f, h1, h2, be_RA_IV (be_RA_pl G) (fun _ => rfl) hI⟩
theorem be_HR0 (hX : be_HX a u 0 e) {h : Nat} (hh : h < be_nh e) : be_HR a h e h := hX.1.2.2.2.2.2.1 h hh
theorem be_RR0 (hX : be_HX a u 0 e) {r : Nat} (hr : r < be_nr e) : be_RR a r e r := hX.1.2.2.2.2.2.2 r hr
