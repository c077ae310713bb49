/-! WHAT HOLDS BETWEEN THE CALLS -/
variable {d : Nat} {X : am_X} {a : Nat → Nat → Nat → Int32} {b : Nat → Nat → Nat → Int64} {u : Nat → Nat} {e : Nat → Nat → Nat → Int32} {f : Nat → Nat → Nat → Int64}
/-- an office of the class and of the reference -/
def be_lastF (e : Nat → Nat → Nat → Int32) (f : Nat) (w z : Int) : Nat → Int
  | 0 => z
  | k + 1 => if be_g e 61 (10 * f + k) = w then be_g e 62 (10 * f + k) else be_lastF e f w z k
def be_clamp (x : Int) : Int := if x < 1 then 1 else if 40 < x then 40 else x
def be_OS (a : Nat → Nat → Nat → Int32) (o : Nat) (e : Nat → Nat → Nat → Int32) (f n : Nat) : Prop :=
  a 3 o 0 = be_i (be_lastF e f 2 2 n) ∧ a 3 o 1 = be_i (be_clamp (be_lastF e f 3 40 n)) ∧ be_OW a o e f n
def be_nc (e : Nat → Nat → Nat → Int32) (f : Nat) : Nat := (be_g e 60 f).toNat
/-- what the reference comes to when THE IMAGE comes back -/
def be_im (e : Nat → Nat → Nat → Int32) : Nat → Nat → Nat → Int32 := fun c i j =>
  bif Nat.beq c 50 then (bif Nat.beq j 13 then e 50 i 53 else bif Nat.beq j 0 then e 50 i 54 else bif Nat.beq j 1 then e 50 i 55 else bif Nat.beq j 2 then e 50 i 56 else bif Nat.beq j 3 then e 50 i 57 else bif Nat.beq j 40 then e 50 i 58 else bif Nat.beq j 45 then e 50 i 59 else bif Nat.beq j 46 then e 50 i 60 else e 50 i j)
  else bif Nat.ble 51 c && Nat.ble c 58 then e (c + 34) i j
  else bif Nat.ble 76 c && Nat.ble c 78 then e (c + 17) i j
  else bif Nat.beq c 79 then e 100 i j
  else bif Nat.ble 80 c && Nat.ble c 83 then e (c + 16) i j else e c i j
def be_I1 (a : Nat → Nat → Nat → Int32) (u : Nat → Nat) (i : Nat) (e : Nat → Nat → Nat → Int32) : Prop :=
  be_W e ∧ be_W2 e ∧ be_T3 e ∧ be_g e 50 29 = -1 ∧ be_g e 50 3 ≤ 9999 ∧ be_g e 50 13 < be_g e 50 12 ∧ be_HX a u i e
def be_I3 (a : Nat → Nat → Nat → Int32) (e : Nat → Nat → Nat → Int32) : Prop :=
  a 9 0 5 = be_i (be_g e 50 12) ∧ 0 ≤ be_g e 50 12 ∧ be_g e 50 12 ≤ 6 ∧ (∀ f : Nat, (f : Int) < be_g e 50 12 → be_OF e f ∧ be_OS a (f + 1) e f (be_nc e f)) ∧ a 3 0 0 = be_i 2 ∧ a 3 0 1 = be_i 40 ∧ a 3 0 2 = be_i 0 ∧
  ∀ c, c < 60 → 0 ≤ be_g e 61 c ∧ be_g e 61 c ≤ 3 ∧ 0 ≤ be_g e 62 c ∧ be_g e 62 c ≤ 99
def be_lets : List Int := [108, 105, 107, 101, 109, 105, 110, 100, 104, 111, 108, 100, 100, 97, 121]
def be_I4 (a : Nat → Nat → Nat → Int32) (e : Nat → Nat → Nat → Int32) : Prop :=
  a 4 0 1 = be_i (be_g e 50 14) ∧ 0 ≤ be_g e 50 14 ∧ be_g e 50 14 ≤ 100 ∧ (∀ k : Nat, (k : Int) < be_g e 50 14 → a 17 0 k = be_i (be_g e 59 k) ∧ 0 ≤ be_g e 59 k ∧ be_g e 59 k ≤ 127) ∧ ∀ k, k < 15 → be_g e 67 k = be_lets.getD k 0
def be_I5 (a : Nat → Nat → Nat → Int32) (u : Nat → Nat) (e : Nat → Nat → Nat → Int32) : Prop :=
  a 9 0 2 = be_i (be_g e 50 52) ∧ (be_g e 50 52 = 0 ∨ (be_g e 50 52 = 1 ∧ be_I1 a u 1 (be_im e)))
def be_I6 (a : Nat → Nat → Nat → Int32) (b : Nat → Nat → Nat → Int64) (e : Nat → Nat → Nat → Int32) (f : Nat → Nat → Nat → Int64) : Prop :=
  ∀ t, t < 6 → a 22 0 t = be_i (be_g e 102 t) ∧ -1 ≤ be_g e 102 t ∧ be_g e 102 t ≤ 4 ∧ a 23 0 t = be_i (be_g e 103 t) ∧ 0 ≤ be_g e 103 t ∧ be_g e 103 t ≤ 60 ∧ (be_g e 102 t = -1 → be_g e 103 t = 0) ∧
    ∀ k : Nat, (k : Int) < be_g e 103 t → b 21 t k = f 104 0 (60 * t + k)
def be_I7 (a : Nat → Nat → Nat → Int32) (e : Nat → Nat → Nat → Int32) : Prop :=
  a 0 0 1 = be_i (be_g e 50 77) ∧ 0 ≤ be_g e 50 77 ∧ be_g e 50 77 ≤ 100 ∧ ∀ k : Nat, (k : Int) < be_g e 50 77 → k < 20 → a 10 0 k = be_i (be_g e 101 k)
def be_I8 (b : Nat → Nat → Nat → Int64) : Prop := ∀ r, r < 5 → b 28 0 r = be_mk (fun _ => false)
/-- bytes of truth stay truth -/
def be_I9 (e : Nat → Nat → Nat → Int32) : Prop := ∀ k, k < 6 → (be_g e 79 k = 0 ∨ be_g e 79 k = 1) ∧ (be_g e 100 k = 0 ∨ be_g e 100 k = 1)
theorem be_t9 {e' : Nat → Nat → Nat → Int32} (hE : ∀ c j, c = 79 ∨ c = 100 → be_g e' c j = be_g e c j) (h : be_I9 e) : be_I9 e' := fun k hk => by
  rw [hE _ _ (by omega), hE _ _ (by omega)]; exact h k hk
def be_IV (a : Nat → Nat → Nat → Int32) (b : Nat → Nat → Nat → Int64) (u : Nat → Nat) (e : Nat → Nat → Nat → Int32) (f : Nat → Nat → Nat → Int64) : Prop :=
  be_I1 a u 0 e ∧ be_NM a ∧ be_I3 a e ∧ be_I4 a e ∧ be_I5 a u e ∧ be_I6 a b e f ∧ be_I7 a e ∧ be_I8 b ∧ be_I9 e
/-! the places of the reference that count: of a house, of offices, all -/
def be_RH (e e' : Nat → Nat → Nat → Int32) : Prop := ∀ c j, (c = 50 ∧ (j = 0 ∨ j = 1 ∨ j = 2 ∨ j = 3 ∨ j = 12 ∨ j = 13 ∨ j = 29 ∨ j = 40 ∨ j = 45 ∨ j = 46)) ∨ (51 ≤ c ∧ c ≤ 58) ∨ (60 ≤ c ∧ c ≤ 65) ∨ (76 ≤ c ∧ c ≤ 83) → be_g e' c j = be_g e c j
theorem be_RH_A {e' : Nat → Nat → Nat → Int32} (h : be_RH e e') : be_A e e' := ⟨fun c j hc => h c j (by omega), fun j hj => h 50 j (by omega)⟩
theorem be_RH_W {e' : Nat → Nat → Nat → Int32} (h : be_RH e e') (hW : be_W e) : be_W e' := by
  have h3 : be_g e' 50 3 = be_g e 50 3 := h _ _ (by omega)
  have h1 : be_g e' 50 1 = be_g e 50 1 := h _ _ (by omega)
  have := hW.1
  exact be_A_W (be_RH_A h) (by omega) (by omega) (by omega) (by omega) hW
theorem be_RH_W2 {e' : Nat → Nat → Nat → Int32} (h : be_RH e e') (hW : be_W2 e) : be_W2 e' := by
  have q : ∀ c j, (c = 50 ∧ (j = 0 ∨ j = 1 ∨ j = 2 ∨ j = 3 ∨ j = 12 ∨ j = 13 ∨ j = 29 ∨ j = 40 ∨ j = 45 ∨ j = 46)) ∨ (51 ≤ c ∧ c ≤ 58) ∨ (60 ≤ c ∧ c ≤ 65) ∨ (76 ≤ c ∧ c ≤ 83) → be_g e' c j = be_g e c j := h
  unfold be_W2
  simp (disch := omega) only [q]
  exact hW
theorem be_RH_pos {e' : Nat → Nat → Nat → Int32} (h : be_RH e e') (f : Nat) : ∀ k, be_pos e' f k = be_pos e f k
  | 0 => rfl
  | k + 1 => by
    have q : ∀ c j, (c = 50 ∧ (j = 0 ∨ j = 1 ∨ j = 2 ∨ j = 3 ∨ j = 12 ∨ j = 13 ∨ j = 29 ∨ j = 40 ∨ j = 45 ∨ j = 46)) ∨ (51 ≤ c ∧ c ≤ 58) ∨ (60 ≤ c ∧ c ≤ 65) ∨ (76 ≤ c ∧ c ≤ 83) → be_g e' c j = be_g e c j := h
    rw [be_pos, be_pos, be_RH_pos h f k]
    simp (disch := omega) only [q]
theorem be_RH_wn {e' : Nat → Nat → Nat → Int32} (h : be_RH e e') (f : Nat) : ∀ k, be_wn e' f k = be_wn e f k
  | 0 => rfl
  | k + 1 => by
    have q : ∀ c j, (c = 50 ∧ (j = 0 ∨ j = 1 ∨ j = 2 ∨ j = 3 ∨ j = 12 ∨ j = 13 ∨ j = 29 ∨ j = 40 ∨ j = 45 ∨ j = 46)) ∨ (51 ≤ c ∧ c ≤ 58) ∨ (60 ≤ c ∧ c ≤ 65) ∨ (76 ≤ c ∧ c ≤ 83) → be_g e' c j = be_g e c j := h
    rw [be_wn, be_wn, be_RH_wn h f k]
    simp (disch := omega) only [q]
theorem be_RH_65 {e' : Nat → Nat → Nat → Int32} (h : be_RH e e') : be_g e' 65 = be_g e 65 := by
  funext j; exact h 65 j (by omega)
theorem be_RH_OF {e' : Nat → Nat → Nat → Int32} (h : be_RH e e') (f : Nat) (hO : be_OF e f) : be_OF e' f := by
  have q : ∀ c j, (c = 50 ∧ (j = 0 ∨ j = 1 ∨ j = 2 ∨ j = 3 ∨ j = 12 ∨ j = 13 ∨ j = 29 ∨ j = 40 ∨ j = 45 ∨ j = 46)) ∨ (51 ≤ c ∧ c ≤ 58) ∨ (60 ≤ c ∧ c ≤ 65) ∨ (76 ≤ c ∧ c ≤ 83) → be_g e' c j = be_g e c j := h
  unfold be_OF
  simp (disch := omega) only [q, be_RH_pos h, be_RH_65 h]
  exact hO
theorem be_RH_the {e' : Nat → Nat → Nat → Int32} (h : be_RH e e') : be_the e' = be_the e := by
  unfold be_the; rw [h 50 13 (by omega)]
theorem be_RH_num {e' : Nat → Nat → Nat → Int32} (h : be_RH e e') : be_num e' = be_num e := be_A_num (be_RH_A h)
theorem be_RH_T3 {e' : Nat → Nat → Nat → Int32} (h : be_RH e e') (hT : be_T3 e) : be_T3 e' := by
  refine ⟨be_A_T (be_RH_A h) hT.1, fun h0 => ?_⟩
  rw [h 50 13 (by omega)] at h0
  rw [be_RH_the h]
  exact be_RH_OF h _ (hT.2 h0)
theorem be_RH_OW {e' : Nat → Nat → Nat → Int32} (h : be_RH e e') {o f n : Nat} (hO : be_OW a o e f n) : be_OW a o e' f n := by
  have q : ∀ c j, (c = 50 ∧ (j = 0 ∨ j = 1 ∨ j = 2 ∨ j = 3 ∨ j = 12 ∨ j = 13 ∨ j = 29 ∨ j = 40 ∨ j = 45 ∨ j = 46)) ∨ (51 ≤ c ∧ c ≤ 58) ∨ (60 ≤ c ∧ c ≤ 65) ∨ (76 ≤ c ∧ c ≤ 83) → be_g e' c j = be_g e c j := h
  unfold be_OW
  simp (disch := omega) only [q, be_RH_pos h, be_RH_wn h]
  exact hO
theorem be_RH_ft {e' : Nat → Nat → Nat → Int32} (h : be_RH e e') (r : Nat) : be_ft e' r = be_ft e r := by
  unfold be_ft; rw [h 50 1 (by omega)]
theorem be_RH_HX {e' : Nat → Nat → Nat → Int32} (h : be_RH e e') {i : Nat} (hX : be_HX a u i e) : be_HX a u i e' := by
  have q : ∀ c j, (c = 50 ∧ (j = 0 ∨ j = 1 ∨ j = 2 ∨ j = 3 ∨ j = 12 ∨ j = 13 ∨ j = 29 ∨ j = 40 ∨ j = 45 ∨ j = 46)) ∨ (51 ≤ c ∧ c ≤ 58) ∨ (60 ≤ c ∧ c ≤ 65) ∨ (76 ≤ c ∧ c ≤ 83) → be_g e' c j = be_g e c j := h
  unfold be_HX be_HO be_HR be_RR be_SE be_PL be_BK
  simp (disch := omega) only [q, be_A_h (be_RH_A h), be_A_q (be_RH_A h), be_A_nh (be_RH_A h), be_A_nr (be_RH_A h), be_RH_ft h, be_RH_the h, be_RH_num h]
  obtain ⟨h1, h2, h3, h4⟩ := hX
  exact ⟨h1, h2, be_RH_OW h h3, h4⟩
theorem be_RH_I1 {e' : Nat → Nat → Nat → Int32} (h : be_RH e e') {i : Nat} (hI : be_I1 a u i e) : be_I1 a u i e' := by
  obtain ⟨h1, h2, h3, h4, h5, h6, h7⟩ := hI
  refine ⟨be_RH_W h h1, be_RH_W2 h h2, be_RH_T3 h h3, ?_, ?_, ?_, be_RH_HX h h7⟩
  · rw [h 50 29 (by omega)]; exact h4
  · rw [h 50 3 (by omega)]; exact h5
  · rw [h 50 13 (by omega), h 50 12 (by omega)]; exact h6
/-- all places that count -/
def be_RA (e e' : Nat → Nat → Nat → Int32) : Prop := ∀ c j, (c = 50 ∧ (j = 0 ∨ j = 1 ∨ j = 2 ∨ j = 3 ∨ j = 12 ∨ j = 13 ∨ j = 14 ∨ j = 29 ∨ j = 40 ∨ j = 45 ∨ j = 46 ∨ (52 ≤ j ∧ j ≤ 60) ∨ j = 77)) ∨ (51 ≤ c ∧ c ≤ 65) ∨ c = 67 ∨ (76 ≤ c ∧ c ≤ 83) ∨ (85 ≤ c ∧ c ≤ 103) → be_g e' c j = be_g e c j
theorem be_RA_H {e' : Nat → Nat → Nat → Int32} (h : be_RA e e') : be_RH e e' := fun c j hc => h c j (by omega)
theorem be_imL {c : Nat} (h1 : c ≠ 50) : be_im e c 0 = (if 51 ≤ c ∧ c ≤ 58 then e (c + 34) 0 else if 76 ≤ c ∧ c ≤ 78 then e (c + 17) 0 else if c = 79 then e 100 0 else if 80 ≤ c ∧ c ≤ 83 then e (c + 16) 0 else e c 0) := by
  funext j
  have h5 : Nat.beq c 50 = false := by rw [← Bool.not_eq_true]; intro q; exact h1 (Nat.eq_of_beq_eq_true q)
  have b1 : (Nat.ble 51 c && Nat.ble c 58) = decide (51 ≤ c ∧ c ≤ 58) := by rw [Bool.eq_iff_iff, Bool.and_eq_true, Nat.ble_eq, Nat.ble_eq, decide_eq_true_iff]
  have b2 : (Nat.ble 76 c && Nat.ble c 78) = decide (76 ≤ c ∧ c ≤ 78) := by rw [Bool.eq_iff_iff, Bool.and_eq_true, Nat.ble_eq, Nat.ble_eq, decide_eq_true_iff]
  have b3 : Nat.beq c 79 = decide (c = 79) := by rw [Bool.eq_iff_iff, Nat.beq_eq, decide_eq_true_iff]
  have b4 : (Nat.ble 80 c && Nat.ble c 83) = decide (80 ≤ c ∧ c ≤ 83) := by rw [Bool.eq_iff_iff, Bool.and_eq_true, Nat.ble_eq, Nat.ble_eq, decide_eq_true_iff]
  unfold be_im
  rw [h5, b1, b2, b3, b4]
  by_cases c1 : 51 ≤ c ∧ c ≤ 58
  · rw [if_pos c1, decide_eq_true c1]; rfl
  · rw [if_neg c1, decide_eq_false c1]
    by_cases c2 : 76 ≤ c ∧ c ≤ 78
    · rw [if_pos c2, decide_eq_true c2]; rfl
    · rw [if_neg c2, decide_eq_false c2]
      by_cases c3 : c = 79
      · rw [if_pos c3, decide_eq_true c3]; rfl
      · rw [if_neg c3, decide_eq_false c3]
        by_cases c4 : 80 ≤ c ∧ c ≤ 83
        · rw [if_pos c4, decide_eq_true c4]; rfl
        · rw [if_neg c4, decide_eq_false c4]; rfl
theorem be_RA_im {e' : Nat → Nat → Nat → Int32} (h : be_RA e e') : be_RH (be_im e) (be_im e') := by
  intro c j hc
  by_cases h5 : c = 50
  · subst h5
    rcases (show j = 0 ∨ j = 1 ∨ j = 2 ∨ j = 3 ∨ j = 12 ∨ j = 13 ∨ j = 29 ∨ j = 40 ∨ j = 45 ∨ j = 46 by omega) with rfl | rfl | rfl | rfl | rfl | rfl | rfl | rfl | rfl | rfl
    · exact h 50 54 (by omega)
    · exact h 50 55 (by omega)
    · exact h 50 56 (by omega)
    · exact h 50 57 (by omega)
    · exact h 50 12 (by omega)
    · exact h 50 53 (by omega)
    · exact h 50 29 (by omega)
    · exact h 50 58 (by omega)
    · exact h 50 59 (by omega)
    · exact h 50 60 (by omega)
  · unfold be_g
    rw [be_imL h5, be_imL h5]
    repeat' split
    · exact h _ j (by omega)
    · exact h _ j (by omega)
    · exact h _ j (by omega)
    · exact h _ j (by omega)
    · exact h _ j (by omega)
theorem be_RA_OS {e' : Nat → Nat → Nat → Int32} (h : be_RH e e') {o f n : Nat} (hO : be_OS a o e f n) : be_OS a o e' f n := by
  have hl : ∀ w z n, be_lastF e' f w z n = be_lastF e f w z n := by
    intro w z n
    induction n with
    | zero => rfl
    | succ n ih => rw [be_lastF, be_lastF, ih, h 61 _ (by omega), h 62 _ (by omega)]
  unfold be_OS
  rw [hl, hl]
  exact ⟨hO.1, hO.2.1, be_RH_OW h hO.2.2⟩
theorem be_RA_IV {e' : Nat → Nat → Nat → Int32} {f' : Nat → Nat → Nat → Int64} (h : be_RA e e') (hf : ∀ j, f' 104 0 j = f 104 0 j) (hI : be_IV a b u e f) : be_IV a b u e' f' := by
  have q : ∀ c j, (c = 50 ∧ (j = 0 ∨ j = 1 ∨ j = 2 ∨ j = 3 ∨ j = 12 ∨ j = 13 ∨ j = 14 ∨ j = 29 ∨ j = 40 ∨ j = 45 ∨ j = 46 ∨ (52 ≤ j ∧ j ≤ 60) ∨ j = 77)) ∨ (51 ≤ c ∧ c ≤ 65) ∨ c = 67 ∨ (76 ≤ c ∧ c ≤ 83) ∨ (85 ≤ c ∧ c ≤ 103) → be_g e' c j = be_g e c j := h
  have hH := be_RA_H h
  obtain ⟨h1, h2, h3, h4, h5, h6, h7, h8⟩ := hI
  refine ⟨be_RH_I1 hH h1, h2, ?_, ?_, ?_, ?_, ?_, h8.1, be_t9 (fun c j hc => h c j (by omega)) h8.2⟩
  · obtain ⟨g1, g2, g3, g4, g5⟩ := h3
    unfold be_I3 be_nc
    simp (disch := omega) only [q]
    exact ⟨g1, g2, g3, fun f hf => ⟨be_RH_OF hH f (g4 f hf).1, be_RA_OS hH (g4 f hf).2⟩, g5⟩
  · unfold be_I4
    simp (disch := omega) only [q]
    exact h4
  · unfold be_I5
    simp (disch := omega) only [q]
    refine ⟨h5.1, ?_⟩
    rcases h5.2 with g | ⟨g1, g2⟩
    · exact Or.inl g
    · exact Or.inr ⟨g1, be_RH_I1 (be_RA_im h) g2⟩
  · unfold be_I6
    simp (disch := omega) only [q, hf]
    exact h6
  · unfold be_I7
    simp (disch := omega) only [q]
    exact h7
