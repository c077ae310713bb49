/-! THE OFFICE, 2: the class reads -/
variable {d : Nat} {X : am_X} {a : Nat → Nat → Nat → Int32} {b : Nat → Nat → Nat → Int64} {u : Nat → Nat} {e : Nat → Nat → Nat → Int32} {f : Nat → Nat → Nat → Int64}
/-- the text -/
def bo_T (n : Nat) (T : Nat → Int) : Prop := n ≤ 100 ∧ (∀ k, k < n → 0 ≤ T k ∧ T k ≤ 127) ∧ ∀ k, n ≤ k → T k = -1
theorem bo_TR {n : Nat} {T : Nat → Int} (h : bo_T n T) (k : Nat) : -1 ≤ T k ∧ T k ≤ 127 := by
  by_cases hk : k < n
  · have := h.2.1 k hk; omega
  · have := h.2.2 k (by omega); omega
theorem bo_Tn {n : Nat} {T : Nat → Int} (h : bo_T n T) {k : Nat} (hk : 0 ≤ T k) : k < n := by
  by_cases hk : k < n
  · exact hk
  · have := h.2.2 k (by omega); omega
def bo_X (a : Nat → Nat → Nat → Int32) (n : Nat) (T : Nat → Int) : Prop := bo_T n T ∧ a 4 0 1 = be_i (n : Int) ∧ ∀ k, k < n → a 17 0 k = be_i (T k)
/-- it reads at a place and has not failed; it has failed -/
def bo_K (a : Nat → Nat → Nat → Int32) (n : Nat) (T : Nat → Int) (o q z : Nat) : Prop := bo_X a n T ∧ a 4 0 2 = be_i (q : Int) ∧ a 4 0 3 = be_i 0 ∧ a 3 o 6 = be_i (z : Int) ∧ q ≤ n ∧ z ≤ q
def bo_F (a : Nat → Nat → Nat → Int32) (n : Nat) (T : Nat → Int) (o q : Nat) : Prop := bo_X a n T ∧ a 4 0 2 = be_i (q : Int) ∧ a 4 0 3 = be_i 1 ∧ q ≤ n ∧ ∃ z : Nat, z ≤ 100 ∧ a 3 o 6 = be_i (z : Int)
/-- what it leaves -/
def bo_E (a0 a : Nat → Nat → Nat → Int32) (o z : Nat) : Prop := ∀ c i j, (c = 4 ∧ i = 0 ∧ (j = 2 ∨ j = 3)) ∨ (c = 3 ∧ i = o ∧ j = 6) ∨ (c = 16 ∧ i = o ∧ z ≤ j) ∨ a c i j = a0 c i j
theorem bo_Er {o z : Nat} : bo_E a a o z := fun c i j => Or.inr (Or.inr (Or.inr rfl))
theorem bo_Et {a1 a2 : Nat → Nat → Nat → Int32} {o z z' : Nat} (h1 : bo_E a a1 o z) (h2 : bo_E a1 a2 o z') (hz : z ≤ z') : bo_E a a2 o z := fun c i j => by
  rcases h2 c i j with h | h | h | h
  · exact Or.inl h
  · exact Or.inr (Or.inl h)
  · exact Or.inr (Or.inr (Or.inl (by omega)))
  · rcases h1 c i j with h' | h' | h' | h'
    · exact Or.inl h'
    · exact Or.inr (Or.inl h')
    · exact Or.inr (Or.inr (Or.inl h'))
    · exact Or.inr (Or.inr (Or.inr (h.trans h')))
theorem bo_E0 {a1 : Nat → Nat → Nat → Int32} {o z : Nat} (h1 : bo_E a a1 o z) : bo_E a a1 o 0 := fun c i j => by
  rcases h1 c i j with h | h | h | h
  · exact Or.inl h
  · exact Or.inr (Or.inl h)
  · exact Or.inr (Or.inr (Or.inl ⟨h.1, h.2.1, Nat.zero_le _⟩))
  · exact Or.inr (Or.inr (Or.inr h))
theorem bo_Ee {a1 : Nat → Nat → Nat → Int32} {o z c i j : Nat} (h1 : bo_E a a1 o z) (h : ¬ ((c = 4 ∧ i = 0 ∧ (j = 2 ∨ j = 3)) ∨ (c = 3 ∧ i = o ∧ j = 6) ∨ (c = 16 ∧ i = o ∧ z ≤ j))) : a1 c i j = a c i j := by
  rcases h1 c i j with h' | h' | h' | h'
  · exact absurd (Or.inl h') h
  · exact absurd (Or.inr (Or.inl h')) h
  · exact absurd (Or.inr (Or.inr h')) h
  · exact h'
theorem bo_Xw {n : Nat} {T : Nat → Int} {c i j : Nat} {x : Int32} (h : bo_X a n T) (hc : ¬ (c = 17 ∧ i = 0) ∧ ¬ (c = 4 ∧ i = 0 ∧ j = 1)) : bo_X (am_w3 a c i j x) n T :=
  ⟨h.1, (be_w3n _ _ _ _ _ _ _ _ (by omega)).trans h.2.1, fun k hk => (be_w3n _ _ _ _ _ _ _ _ (by omega)).trans (h.2.2 k hk)⟩
theorem bo_adv {n : Nat} {T : Nat → Int} {o q z : Nat} (h : bo_K a n T o q z) (hq : 0 ≤ T q) : bo_K (am_w3 a 4 0 2 (be_i ((q : Int) + 1))) n T o (q + 1) z ∧ bo_E a (am_w3 a 4 0 2 (be_i ((q : Int) + 1))) o z := by
  obtain ⟨h1, h4, h5, h6, h7, h8⟩ := h
  have := bo_Tn h1.1 hq
  refine ⟨⟨bo_Xw h1 (by omega), be_w3s _ _ _ _ _, (be_w3n _ _ _ _ _ _ _ _ (by omega)).trans h5, (be_w3n _ _ _ _ _ _ _ _ (by omega)).trans h6, by omega, by omega⟩, fun c i j => ?_⟩
  by_cases hc : c = 4 ∧ i = 0 ∧ j = 2
  · left; omega
  · exact Or.inr (Or.inr (Or.inr (be_w3n _ _ _ _ _ _ _ _ hc)))
theorem bo_Ef {o z : Nat} : bo_E a (am_w3 a 4 0 3 (be_i 1)) o z := fun c i j => by
  by_cases hc : c = 4 ∧ i = 0 ∧ j = 3
  · left; omega
  · exact Or.inr (Or.inr (Or.inr (be_w3n _ _ _ _ _ _ _ _ hc)))
theorem bo_failK {n : Nat} {T : Nat → Int} {o q z : Nat} (h : bo_K a n T o q z) : bo_F (am_w3 a 4 0 3 (be_i 1)) n T o q := by
  obtain ⟨h1, h4, h5, h6, h7, h8⟩ := h
  have := h1.1.1
  exact ⟨bo_Xw h1 (by omega), (be_w3n _ _ _ _ _ _ _ _ (by omega)).trans h4, be_w3s _ _ _ _ _, h7, z, by omega, (be_w3n _ _ _ _ _ _ _ _ (by omega)).trans h6⟩
theorem bo_failF {n : Nat} {T : Nat → Int} {o q : Nat} (h : bo_F a n T o q) : bo_F (am_w3 a 4 0 3 (be_i 1)) n T o q := by
  obtain ⟨h1, h4, h5, h7, z, h8, h6⟩ := h
  exact ⟨bo_Xw h1 (by omega), (be_w3n _ _ _ _ _ _ _ _ (by omega)).trans h4, be_w3s _ _ _ _ _, h7, z, h8, (be_w3n _ _ _ _ _ _ _ _ (by omega)).trans h6⟩
/-! a sign -/
theorem bo_170 (hd : 1 ≤ d) {n : Nat} {T : Nat → Int} {o q z : Nat} (h : bo_K a n T o q z) : am_sem X d 170 [.inr (4, 0)] (am_sd a b u e f) = some (some (am_I (be_i (T q))), (am_sd a b u e f)) := by
  obtain ⟨d, rfl⟩ : ∃ q, d = q + 1 := ⟨d - 1, by omega⟩
  obtain ⟨⟨h0, h1, h2⟩, h4, h5, h6, h7, h8⟩ := h
  have hn := h0.1
  rw [am_s170, h5, h4, h1, if_neg (by rw [be_0]; exact fun h => h rfl)]
  by_cases hq : q < n
  · rw [if_pos (by rw [be_lt (by omega) (by omega) (by omega) (by omega)]; omega), be_ck (by omega) (by omega) (by omega), be_ntN (by omega), h2 q hq]
  · rw [if_neg (by rw [be_lt (by omega) (by omega) (by omega) (by omega)]; omega), h0.2.2 q (by omega)]
theorem bo_170f (hd : 1 ≤ d) {n : Nat} {T : Nat → Int} {o q : Nat} (h : bo_F a n T o q) : am_sem X d 170 [.inr (4, 0)] (am_sd a b u e f) = some (some (am_I (be_i ((-1)))), (am_sd a b u e f)) := by
  obtain ⟨d, rfl⟩ : ∃ q, d = q + 1 := ⟨d - 1, by omega⟩
  rw [am_s170, h.2.2.1, if_pos (by decide)]
theorem bo_171y (hd : 2 ≤ d) {n : Nat} {T : Nat → Int} {o q z : Nat} (h : bo_K a n T o q z) {x : Int} (hx : T q = x) : am_sem X d 171 [.inr (4, 0), am_I (be_i (x))] (am_sd a b u e f) = some (some (am_I (be_i 1)), am_sd (am_w3 a 4 0 2 (be_i ((q : Int) + 1))) b u e f) := by
  obtain ⟨d, rfl⟩ : ∃ q, d = q + 1 := ⟨d - 1, by omega⟩
  rw [am_s171, bo_170 (by omega) h, be_bi, am_b171_4, hx, if_pos rfl, h.2.1, be_add]
theorem bo_171n (hd : 2 ≤ d) {n : Nat} {T : Nat → Int} {o q z : Nat} (h : bo_K a n T o q z) {x : Int} (h1 : 0 ≤ x) (h2 : x ≤ 127) (hx : T q ≠ x) : am_sem X d 171 [.inr (4, 0), am_I (be_i (x))] (am_sd a b u e f) = some (some (am_I (be_i (0))), (am_sd a b u e f)) := by
  obtain ⟨d, rfl⟩ : ∃ q, d = q + 1 := ⟨d - 1, by omega⟩
  have hR := bo_TR h.1.1 q
  rw [am_s171, bo_170 (by omega) h, be_bi, am_b171_4, if_neg (by rw [be_eq (by omega) (by omega) (by omega) (by omega)]; exact hx)]
theorem bo_171f (hd : 2 ≤ d) {n : Nat} {T : Nat → Int} {o q : Nat} (h : bo_F a n T o q) {x : Int} (h1 : 0 ≤ x) (h2 : x ≤ 127) : am_sem X d 171 [.inr (4, 0), am_I (be_i (x))] (am_sd a b u e f) = some (some (am_I (be_i (0))), (am_sd a b u e f)) := by
  obtain ⟨d, rfl⟩ : ∃ q, d = q + 1 := ⟨d - 1, by omega⟩
  rw [am_s171, bo_170f (by omega) h, be_bi, am_b171_4, if_neg (by rw [be_eq (by omega) (by omega) (by omega) (by omega)]; omega)]
theorem bo_172y (hd : 2 ≤ d) {n : Nat} {T : Nat → Int} {o q z : Nat} (h : bo_K a n T o q z) {x : Int} (hx : T q = x) : am_sem X d 172 [.inr (4, 0), am_I (be_i (x))] (am_sd a b u e f) = some (none, am_sd (am_w3 a 4 0 2 (be_i ((q : Int) + 1))) b u e f) := by
  obtain ⟨d, rfl⟩ : ∃ q, d = q + 1 := ⟨d - 1, by omega⟩
  rw [am_s172, bo_170 (by omega) h, be_bi, am_b172_4, hx, if_neg (fun h => h rfl), h.2.1, be_add, am_b172_26]
theorem bo_172n (hd : 2 ≤ d) {n : Nat} {T : Nat → Int} {o q z : Nat} (h : bo_K a n T o q z) {x : Int} (h1 : 0 ≤ x) (h2 : x ≤ 127) (hx : T q ≠ x) : am_sem X d 172 [.inr (4, 0), am_I (be_i (x))] (am_sd a b u e f) = some (none, am_sd (am_w3 a 4 0 3 (be_i 1)) b u e f) := by
  obtain ⟨d, rfl⟩ : ∃ q, d = q + 1 := ⟨d - 1, by omega⟩
  have hR := bo_TR h.1.1 q
  rw [am_s172, bo_170 (by omega) h, be_bi, am_b172_4, if_pos (by rw [be_eq (by omega) (by omega) (by omega) (by omega)]; exact hx), am_b172_26]
theorem bo_172f (hd : 2 ≤ d) {n : Nat} {T : Nat → Int} {o q : Nat} (h : bo_F a n T o q) {x : Int} (h1 : 0 ≤ x) (h2 : x ≤ 127) : am_sem X d 172 [.inr (4, 0), am_I (be_i (x))] (am_sd a b u e f) = some (none, am_sd (am_w3 a 4 0 3 (be_i 1)) b u e f) := by
  obtain ⟨d, rfl⟩ : ∃ q, d = q + 1 := ⟨d - 1, by omega⟩
  rw [am_s172, bo_170f (by omega) h, be_bi, am_b172_4, if_pos (by rw [be_eq (by omega) (by omega) (by omega) (by omega)]; omega), am_b172_26]
/-! a code -/
theorem bo_160 (hd : 1 ≤ d) {n : Nat} {T : Nat → Int} {o q z : Nat} (h : bo_K a n T o q z) (hz : z < q) (x : Int32) : ∃ a', am_sem X d 160 [.inr (3, o), am_I x] (am_sd a b u e f) = some (none, am_sd a' b u e f) ∧ bo_K a' n T o q (z + 1) ∧ bo_E a a' o z ∧ a' 16 o z = x := by
  obtain ⟨d, rfl⟩ : ∃ q, d = q + 1 := ⟨d - 1, by omega⟩
  obtain ⟨h1, h4, h5, h6, h7, h8⟩ := h
  have := h1.1.1
  refine ⟨am_w3 (am_w3 a 16 o z x) 3 o 6 (be_i ((z : Int) + 1)), ?_, ⟨bo_Xw (bo_Xw h1 (by omega)) (by omega), ?_, ?_, be_w3s _ _ _ _ _, h7, by omega⟩, fun c i j => ?_, ?_⟩
  · rw [am_s160, h6, be_ofN, if_neg (by rw [be_le (by omega) (by omega) (by omega) (by omega)]; omega), be_ck (by omega) (by omega) (by omega), be_ntN (by omega), be_add, am_b160_32]
  · rw [be_w3n _ _ _ _ _ _ _ _ (by omega), be_w3n _ _ _ _ _ _ _ _ (by omega)]; exact h4
  · rw [be_w3n _ _ _ _ _ _ _ _ (by omega), be_w3n _ _ _ _ _ _ _ _ (by omega)]; exact h5
  · by_cases hc : c = 3 ∧ i = o ∧ j = 6
    · exact Or.inr (Or.inl hc)
    · rw [be_w3n _ _ _ _ _ _ _ _ hc]
      by_cases hc2 : c = 16 ∧ i = o ∧ j = z
      · exact Or.inr (Or.inr (Or.inl (by omega)))
      · exact Or.inr (Or.inr (Or.inr (be_w3n _ _ _ _ _ _ _ _ hc2)))
  · rw [be_w3n _ _ _ _ _ _ _ _ (by omega), be_w3s]
theorem bo_160f (hd : 1 ≤ d) {n : Nat} {T : Nat → Int} {o q : Nat} (h : bo_F a n T o q) (x : Int32) : ∃ a', am_sem X d 160 [.inr (3, o), am_I x] (am_sd a b u e f) = some (none, am_sd a' b u e f) ∧ bo_F a' n T o q ∧ bo_E a a' o 0 := by
  obtain ⟨d, rfl⟩ : ∃ q, d = q + 1 := ⟨d - 1, by omega⟩
  obtain ⟨h1, h4, h5, h7, z, h8, h6⟩ := id h
  by_cases hz : 100 ≤ z
  · refine ⟨a, ?_, h, bo_Er⟩
    rw [am_s160, h6, be_ofN, if_pos (by rw [be_le (by omega) (by omega) (by omega) (by omega)]; omega), am_b160_32]
  · refine ⟨am_w3 (am_w3 a 16 o z x) 3 o 6 (be_i ((z : Int) + 1)), ?_, ⟨bo_Xw (bo_Xw h1 (by omega)) (by omega), ?_, ?_, h7, z + 1, by omega, be_w3s _ _ _ _ _⟩, fun c i j => ?_⟩
    · rw [am_s160, h6, be_ofN, if_neg (by rw [be_le (by omega) (by omega) (by omega) (by omega)]; omega), be_ck (by omega) (by omega) (by omega), be_ntN (by omega), be_add, am_b160_32]
    · rw [be_w3n _ _ _ _ _ _ _ _ (by omega), be_w3n _ _ _ _ _ _ _ _ (by omega)]; exact h4
    · rw [be_w3n _ _ _ _ _ _ _ _ (by omega), be_w3n _ _ _ _ _ _ _ _ (by omega)]; exact h5
    · by_cases hc : c = 3 ∧ i = o ∧ j = 6
      · exact Or.inr (Or.inl hc)
      · rw [be_w3n _ _ _ _ _ _ _ _ hc]
        by_cases hc2 : c = 16 ∧ i = o ∧ j = z
        · exact Or.inr (Or.inr (Or.inl (by omega)))
        · exact Or.inr (Or.inr (Or.inr (be_w3n _ _ _ _ _ _ _ _ hc2)))
/-! one of several signs; a number -/
def bo_ix (i : Nat) (x : Int) : Int := if x < 0 then -1 else bo_find x (bo_L i) 0
theorem bo_179y (hd : 7 ≤ d) {n : Nat} {T : Nat → Int} {o q z i : Nat} (h : bo_K a n T o q z) (hi : i = 5 ∨ i = 6) (hx : 0 ≤ bo_ix i (T q)) : am_sem X d 179 [.inr (4, 0), .inr (203, i)] (am_sd a b u e f) = some (some (am_I (be_i (bo_ix i (T q)))), am_sd (am_w3 a 4 0 2 (be_i ((q : Int) + 1))) b u e f) := by
  obtain ⟨d, rfl⟩ : ∃ q, d = q + 1 := ⟨d - 1, by omega⟩
  have hR := bo_TR h.1.1 q
  have hF := bo_findR (T q) (bo_L i) 0
  have hL := bo_Ln i (by omega)
  have hI : bo_ix i (T q) < 8 := by
    unfold bo_ix
    split <;> omega
  have hc := bo_116 (X := X) (a := a) (b := b) (u := u) (e := e) (f := f) (d := d) (by omega) (i := i) (by omega) (by omega) hR.1 hR.2
  have hq : 0 ≤ T q := by
    unfold bo_ix at hx
    split at hx <;> omega
  rw [am_s179, bo_170 (by omega) h, be_bi, am_b179_4, if_pos (by rw [be_0, be_le (by omega) (by omega) (by omega) (by omega)]; exact hq), hc, be_bi, am_b179_19]
  rw [show (if T q < 0 then -1 else bo_find (T q) (bo_L i) 0) = bo_ix i (T q) from rfl, if_pos (by rw [be_0, be_le (by omega) (by omega) (by omega) (by omega)]; exact hx), h.2.1, be_add]
theorem bo_179n (hd : 7 ≤ d) {n : Nat} {T : Nat → Int} {o q z i : Nat} (h : bo_K a n T o q z) (hi : i = 5 ∨ i = 6) (hx : bo_ix i (T q) < 0) : am_sem X d 179 [.inr (4, 0), .inr (203, i)] (am_sd a b u e f) = some (some (am_I (be_i 0)), am_sd (am_w3 a 4 0 3 (be_i 1)) b u e f) := by
  obtain ⟨d, rfl⟩ : ∃ q, d = q + 1 := ⟨d - 1, by omega⟩
  have hR := bo_TR h.1.1 q
  have hF := bo_findR (T q) (bo_L i) 0
  have hI : -1 ≤ bo_ix i (T q) := by
    unfold bo_ix
    split <;> omega
  have hc := bo_116 (X := X) (a := a) (b := b) (u := u) (e := e) (f := f) (d := d) (by omega) (i := i) (by omega) (by omega) hR.1 hR.2
  by_cases hq : T q < 0
  · rw [am_s179, bo_170 (by omega) h, be_bi, am_b179_4, if_neg (by rw [be_0, be_le (by omega) (by omega) (by omega) (by omega)]; omega), am_b179_19, if_neg (by decide)]
  rw [am_s179, bo_170 (by omega) h, be_bi, am_b179_4, if_pos (by rw [be_0, be_le (by omega) (by omega) (by omega) (by omega)]; omega), hc, be_bi, am_b179_19]
  rw [show (if T q < 0 then -1 else bo_find (T q) (bo_L i) 0) = bo_ix i (T q) from rfl, if_neg (by rw [be_0, be_le (by omega) (by omega) (by omega) (by omega)]; omega)]
theorem bo_179f (hd : 7 ≤ d) {n : Nat} {T : Nat → Int} {o q i : Nat} (h : bo_F a n T o q) (_hi : i = 5 ∨ i = 6) : am_sem X d 179 [.inr (4, 0), .inr (203, i)] (am_sd a b u e f) = some (some (am_I (be_i 0)), am_sd (am_w3 a 4 0 3 (be_i 1)) b u e f) := by
  obtain ⟨d, rfl⟩ : ∃ q, d = q + 1 := ⟨d - 1, by omega⟩
  rw [am_s179, bo_170f (by omega) h, be_bi, am_b179_4, if_neg (by decide), am_b179_19, if_neg (by decide)]
def bo_dg (x : Int) : Prop := 48 ≤ x ∧ x ≤ 57
theorem bo_180n (hd : 2 ≤ d) {n : Nat} {T : Nat → Int} {o q z : Nat} (h : bo_K a n T o q z) (hx : ¬ bo_dg (T q)) : am_sem X d 180 [.inr (4, 0)] (am_sd a b u e f) = some (some (am_I (be_i 0)), am_sd (am_w3 a 4 0 3 (be_i 1)) b u e f) := by
  obtain ⟨d, rfl⟩ : ∃ q, d = q + 1 := ⟨d - 1, by omega⟩
  have hR := bo_TR h.1.1 q
  unfold bo_dg at hx
  rw [am_s180, bo_170 (by omega) h, be_bi, am_b180_4, be_sub]
  by_cases hl : T q - 48 < 0
  · rw [if_pos (by rw [be_0, be_lt (by omega) (by omega) (by omega) (by omega)]; exact hl)]
  · rw [if_neg (by rw [be_0, be_lt (by omega) (by omega) (by omega) (by omega)]; exact hl), if_neg (by rw [be_le (by omega) (by omega) (by omega) (by omega)]; omega)]
theorem bo_180f (hd : 2 ≤ d) {n : Nat} {T : Nat → Int} {o q : Nat} (h : bo_F a n T o q) : am_sem X d 180 [.inr (4, 0)] (am_sd a b u e f) = some (some (am_I (be_i 0)), am_sd (am_w3 a 4 0 3 (be_i 1)) b u e f) := by
  obtain ⟨d, rfl⟩ : ∃ q, d = q + 1 := ⟨d - 1, by omega⟩
  rw [am_s180, bo_170f (by omega) h, be_bi, am_b180_4, if_pos (by decide)]
theorem bo_180a (hd : 2 ≤ d) {n : Nat} {T : Nat → Int} {o q z : Nat} (h : bo_K a n T o q z) (hx : bo_dg (T q)) (hy : ¬ bo_dg (T (q + 1))) : am_sem X d 180 [.inr (4, 0)] (am_sd a b u e f) = some (some (am_I (be_i (T q - 48))), am_sd (am_w3 a 4 0 2 (be_i ((q : Int) + 1))) b u e f) := by
  obtain ⟨d, rfl⟩ : ∃ q, d = q + 1 := ⟨d - 1, by omega⟩
  unfold bo_dg at hx hy
  have h' := (bo_adv h (by omega)).1
  have hR := bo_TR h.1.1 q
  have hR' := bo_TR h.1.1 (q + 1)
  rw [am_s180, bo_170 (by omega) h, be_bi, am_b180_4, be_sub, if_neg (by rw [be_0, be_lt (by omega) (by omega) (by omega) (by omega)]; omega), if_pos (by rw [be_le (by omega) (by omega) (by omega) (by omega)]; omega), h.2.1, be_add, bo_170 (by omega) h', be_bi, am_b180_39, be_sub]
  by_cases hl : T (q + 1) - 48 < 0
  · rw [if_pos (by rw [be_0, be_lt (by omega) (by omega) (by omega) (by omega)]; exact hl)]
  · rw [if_neg (by rw [be_0, be_lt (by omega) (by omega) (by omega) (by omega)]; exact hl), if_neg (by rw [be_le (by omega) (by omega) (by omega) (by omega)]; omega)]
theorem bo_180b (hd : 2 ≤ d) {n : Nat} {T : Nat → Int} {o q z : Nat} (h : bo_K a n T o q z) (hx : bo_dg (T q)) (hy : bo_dg (T (q + 1))) : am_sem X d 180 [.inr (4, 0)] (am_sd a b u e f) = some (some (am_I (be_i ((T q - 48) * 10 + (T (q + 1) - 48)))), am_sd (am_w3 (am_w3 a 4 0 2 (be_i ((q : Int) + 1))) 4 0 2 (be_i (((q + 1 : Nat) : Int) + 1))) b u e f) := by
  obtain ⟨d, rfl⟩ : ∃ q, d = q + 1 := ⟨d - 1, by omega⟩
  unfold bo_dg at hx hy
  have h' := (bo_adv h (by omega)).1
  have hR := bo_TR h.1.1 q
  have hR' := bo_TR h.1.1 (q + 1)
  rw [am_s180, bo_170 (by omega) h, be_bi, am_b180_4, be_sub, if_neg (by rw [be_0, be_lt (by omega) (by omega) (by omega) (by omega)]; omega), if_pos (by rw [be_le (by omega) (by omega) (by omega) (by omega)]; omega), h.2.1, be_add, bo_170 (by omega) h', be_bi, am_b180_39, be_sub, if_neg (by rw [be_0, be_lt (by omega) (by omega) (by omega) (by omega)]; omega), if_pos (by rw [be_le (by omega) (by omega) (by omega) (by omega)]; omega), be_mul, be_add, h'.2.1, be_add]
/-- a number: where it ends, and which it is -/
def bo_np (T : Nat → Int) (q : Nat) : Nat := if 48 ≤ T (q + 1) ∧ T (q + 1) ≤ 57 then q + 2 else q + 1
def bo_nv (T : Nat → Int) (q : Nat) : Int := if 48 ≤ T (q + 1) ∧ T (q + 1) ≤ 57 then (T q - 48) * 10 + (T (q + 1) - 48) else T q - 48
theorem bo_nR {T : Nat → Int} {q : Nat} (hx : bo_dg (T q)) : 0 ≤ bo_nv T q ∧ bo_nv T q ≤ 99 ∧ q + 1 ≤ bo_np T q := by
  unfold bo_dg at hx
  unfold bo_nv bo_np
  split <;> omega
theorem bo_180 (hd : 2 ≤ d) {n : Nat} {T : Nat → Int} {o q z : Nat} (h : bo_K a n T o q z) (hx : bo_dg (T q)) : ∃ a', am_sem X d 180 [.inr (4, 0)] (am_sd a b u e f) = some (some (am_I (be_i (bo_nv T q))), am_sd a' b u e f) ∧ bo_K a' n T o (bo_np T q) z ∧ bo_E a a' o z := by
  have hx' := hx
  unfold bo_dg at hx'
  have h1 := bo_adv h (by omega)
  by_cases hy : bo_dg (T (q + 1))
  · have hy' := hy
    unfold bo_dg at hy'
    have h2 := bo_adv h1.1 (by omega)
    refine ⟨_, by unfold bo_nv; rw [if_pos hy']; exact bo_180b hd h hx hy, by unfold bo_np; rw [if_pos hy']; exact h2.1, bo_Et h1.2 h2.2 (Nat.le_refl _)⟩
  · have hy' : ¬ (48 ≤ T (q + 1) ∧ T (q + 1) ≤ 57) := hy
    refine ⟨_, by unfold bo_nv; rw [if_neg hy']; exact bo_180a hd h hx hy, by unfold bo_np; rw [if_neg hy']; exact h1.1, h1.2⟩
