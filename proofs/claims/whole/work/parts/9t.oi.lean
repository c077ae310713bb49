/-! THE OFFICE, 9: a clause -/
variable {d : Nat} {X : am_X} {a : Nat → Nat → Nat → Int32} {b : Nat → Nat → Nat → Int64} {u : Nat → Nat} {e : Nat → Nat → Nat → Int32} {f : Nat → Nat → Nat → Int64}
variable {n o q p z s w : Nat} {T : Nat → Int}
def bo_EF (a a' : Nat → Nat → Nat → Int32) (o : Nat) : Prop := ∀ c i j, (c = 4 ∧ i = 0 ∧ (j = 2 ∨ j = 3)) ∨ (c = 3 ∧ i = o) ∨ ((c = 14 ∨ c = 15 ∨ c = 16) ∧ i = o) ∨ a' c i j = a c i j
theorem bo_EFt {a1 a2 : Nat → Nat → Nat → Int32} (h1 : bo_EF a a1 o) (h2 : bo_EF a1 a2 o) : bo_EF a a2 o := fun c i j => by
  rcases h2 c i j with h | h | h | h
  · exact Or.inl h
  · exact Or.inr (Or.inl h)
  · exact Or.inr (Or.inr (Or.inl h))
  · rcases h1 c i j with h' | h' | h' | h'
    · exact Or.inl h'
    · exact Or.inr (Or.inl h')
    · exact Or.inr (Or.inr (Or.inl h'))
    · exact Or.inr (Or.inr (Or.inr (h.trans h')))
theorem bo_EEF {a1 : Nat → Nat → Nat → Int32} (h1 : bo_E a a1 o z) : bo_EF a a1 o := fun c i j => by
  rcases h1 c i j with h | h | h | h
  · exact Or.inl h
  · exact Or.inr (Or.inl ⟨h.1, h.2.1⟩)
  · exact Or.inr (Or.inr (Or.inl ⟨Or.inr (Or.inr h.1), h.2.1⟩))
  · exact Or.inr (Or.inr (Or.inr h))
theorem bo_EFw {c i j : Nat} {y : Int32} (hc : (c = 4 ∧ i = 0 ∧ (j = 2 ∨ j = 3)) ∨ (c = 3 ∧ i = o) ∨ ((c = 14 ∨ c = 15 ∨ c = 16) ∧ i = o)) : bo_EF a (am_w3 a c i j y) o := fun c' i' j' => by
  by_cases hq : c' = c ∧ i' = i ∧ j' = j
  · obtain ⟨rfl, rfl, rfl⟩ := hq
    rcases hc with h | h | h
    · exact Or.inl h
    · exact Or.inr (Or.inl h)
    · exact Or.inr (Or.inr (Or.inl h))
  · exact Or.inr (Or.inr (Or.inr (be_w3n _ _ _ _ _ _ _ _ hq)))
theorem bo_Fw {c i j : Nat} {y : Int32} (h : bo_F a n T o q) (hc : (c = 3 ∧ i = o ∧ j ≠ 6) ∨ c = 14 ∨ c = 15) : bo_F (am_w3 a c i j y) n T o q := by
  obtain ⟨h1, h4, h5, h7, z, h8, h6⟩ := h
  exact ⟨bo_Xw h1 (by omega), (be_w3n _ _ _ _ _ _ _ _ (by omega)).trans h4, (be_w3n _ _ _ _ _ _ _ _ (by omega)).trans h5, h7, z, h8, (be_w3n _ _ _ _ _ _ _ _ (by omega)).trans h6⟩
theorem bo_Kw {c i j : Nat} {y : Int32} (h : bo_K a n T o q z) (hc : (c = 3 ∧ i = o ∧ j ≠ 6) ∨ c = 14 ∨ c = 15) : bo_K (am_w3 a c i j y) n T o q z := by
  obtain ⟨h1, h4, h5, h6, h7, h8⟩ := h
  exact ⟨bo_Xw h1 (by omega), (be_w3n _ _ _ _ _ _ _ _ (by omega)).trans h4, (be_w3n _ _ _ _ _ _ _ _ (by omega)).trans h5, (be_w3n _ _ _ _ _ _ _ _ (by omega)).trans h6, h7, h8⟩
/-! failed -/
theorem bo_3f (hd : 10 ≤ d) (ho : u 1 = o) (h : bo_F a n T o q) : ∃ a', am_sem X d 176 [.inr (4, 0), am_I (be_i (0))] (am_sd a b u e f) = some (none, am_sd a' b u e f) ∧ bo_F a' n T o q ∧ bo_E a a' o 0 := by
  obtain ⟨d, rfl⟩ : ∃ q, d = q + 2 := ⟨d - 2, by omega⟩
  obtain ⟨a1, g1, g2, g3⟩ := bo_1f (X := X) (b := b) (u := u) (e := e) (f := f) (d := d) (dd := 0) (by omega) (by omega) ho h
  refine ⟨a1, ?_, g2, g3⟩
  rw [show be_i ((0 : Nat) : Int) = be_i 0 from rfl] at g1
  rw [am_s176, am_s177, g1, be_bv, am_b177_5, bo_l2f (by omega) g2, be_bv, am_b176_5, bo_l3f (by omega) g2]
theorem bo_162 (hd : 1 ≤ d) (hw : a 3 o 2 = be_i (w : Int)) (h10 : w < 10) {v : Int32} : am_sem X d 162 [.inr (3, o), am_I v] (am_sd a b u e f) = some (none, am_sd (am_w3 (am_w3 (am_w3 a 14 o w v) 15 o w (a 3 o 6)) 3 o 2 (be_i ((w : Int) + 1))) b u e f) := by
  obtain ⟨d, rfl⟩ : ∃ q, d = q + 1 := ⟨d - 1, by omega⟩
  rw [am_s162, hw, if_neg (by rw [be_le (by omega) (by omega) (by omega) (by omega)]; omega), be_ck (by omega) (by omega) (by omega), be_ck (by omega) (by omega) (by omega), be_ntN (by omega), be_add, am_b162_42]
theorem bo_162f (hd : 1 ≤ d) (h : bo_F a n T o q) (hw : a 3 o 2 = be_i (w : Int)) (h10 : w ≤ 10) {v : Int32} : ∃ a', am_sem X d 162 [.inr (3, o), am_I v] (am_sd a b u e f) = some (none, am_sd a' b u e f) ∧ bo_F a' n T o q ∧ bo_EF a a' o := by
  by_cases hl : w < 10
  · exact ⟨_, bo_162 hd hw hl, bo_Fw (bo_Fw (bo_Fw h (by omega)) (by omega)) (by omega), bo_EFt (bo_EFt (bo_EFw (by omega)) (bo_EFw (by omega))) (bo_EFw (by omega))⟩
  · obtain ⟨d, rfl⟩ : ∃ q, d = q + 1 := ⟨d - 1, by omega⟩
    refine ⟨a, ?_, h, fun c i j => Or.inr (Or.inr (Or.inr rfl))⟩
    rw [am_s162, hw, if_pos (by rw [be_le (by omega) (by omega) (by omega) (by omega)]; omega), am_b162_42]
theorem bo_c69f (hd : 1 ≤ d) (ho : u 1 = o) (h : bo_F a n T o q) (hw : a 3 o 2 = be_i (w : Int)) (h10 : w ≤ 10) {y v : Int32} : ∃ a', am_fix (am_sem X d) X am_P173 69 [.inr (4, 0), am_I y, am_I v] [] (am_sd a b u e f) = some (none, am_sd a' b u e f) ∧ bo_F a' n T o q ∧ bo_EF a a' o := by
  rw [am_b173_69, ho]
  split
  · obtain ⟨a', g1, g2⟩ := bo_162f (X := X) (b := b) (u := u) (e := e) (f := f) hd h hw h10 (v := -v)
    exact ⟨a', by rw [g1, be_bv, am_b173_88], g2⟩
  · obtain ⟨a', g1, g2⟩ := bo_162f (X := X) (b := b) (u := u) (e := e) (f := f) hd h hw h10 (v := v)
    exact ⟨a', by rw [g1, be_bv, am_b173_88], g2⟩
theorem bo_c64f (hd : 10 ≤ d) (ho : u 1 = o) (h : bo_F a n T o q) (hw : a 3 o 2 = be_i (w : Int)) (h10 : w ≤ 10) {y v : Int32} : ∃ a', am_fix (am_sem X d) X am_P173 64 [.inr (4, 0), am_I y, am_I v] [] (am_sd a b u e f) = some (none, am_sd a' b u e f) ∧ bo_F a' n T o q ∧ bo_EF a a' o := by
  obtain ⟨a1, g1, g2, g3⟩ := bo_3f (X := X) (b := b) (u := u) (e := e) (f := f) (d := d) hd ho h
  obtain ⟨a2, g4, g5, g6⟩ := bo_c69f (X := X) (b := b) (u := u) (e := e) (f := f) (d := d) (by omega) ho g2 ((bo_Ee g3 (by omega)).trans hw) h10 (y := y) (v := v)
  exact ⟨a2, by rw [am_b173_64, g1, be_bv, g4], g5, bo_EFt (bo_EEF g3) g6⟩
theorem bo_c14f (hd : 10 ≤ d) (ho : u 1 = o) (h : bo_F a n T o q) (hw : a 3 o 2 = be_i (w : Int)) (h10 : w ≤ 10) {y v : Int32} : ∃ a', am_fix (am_sem X d) X am_P173 14 [.inr (4, 0), am_I y, am_un] [am_I v] (am_sd a b u e f) = some (none, am_sd a' b u e f) ∧ bo_F a' n T o q ∧ bo_EF a a' o := by
  rw [am_b173_14, ho]
  split
  · split
    · obtain ⟨a2, g4, g5, g6⟩ := bo_c64f (X := X) (b := b) (u := u) (e := e) (f := f) (d := d) (by omega) ho (bo_failF h) ((be_w3n _ _ _ _ _ _ _ _ (by omega)).trans hw) h10 (y := y) (v := v)
      exact ⟨a2, by rw [bo_172f (by omega) h (by omega) (by omega), be_bv, g4], g5, bo_EFt (bo_EFw (by omega)) g6⟩
    · exact ⟨_, am_b173_88, bo_Fw h (by omega), bo_EFw (by omega)⟩
  · exact ⟨_, am_b173_88, bo_Fw h (by omega), bo_EFw (by omega)⟩
theorem bo_c10f (hd : 10 ≤ d) (ho : u 1 = o) (h : bo_F a n T o q) (hw : a 3 o 2 = be_i (w : Int)) (h10 : w ≤ 10) {y : Int32} : ∃ a', am_fix (am_sem X d) X am_P173 10 [.inr (4, 0), am_I y, am_un] [] (am_sd a b u e f) = some (none, am_sd a' b u e f) ∧ bo_F a' n T o q ∧ bo_EF a a' o := by
  obtain ⟨a2, g4, g5, g6⟩ := bo_c14f (X := X) (b := b) (u := u) (e := e) (f := f) (d := d) (by omega) ho (bo_failF h) ((be_w3n _ _ _ _ _ _ _ _ (by omega)).trans hw) h10 (y := y) (v := be_i 0)
  exact ⟨a2, by rw [am_b173_10, bo_180f (by omega) h, be_bi, g4], g5, bo_EFt (bo_EFw (by omega)) g6⟩
/-! the reference's clause -/
def bo_GK (e e' : Nat → Nat → Nat → Int32) (x s0 : Nat) : Prop := ∀ c j, (c = 50 ∧ (j = 15 ∨ j = 16 ∨ j = 25 ∨ j = 26 ∨ j = 27)) ∨ c = 66 ∨ (61 ≤ c ∧ c ≤ 64 ∧ j = x) ∨ (c = 65 ∧ s0 ≤ j) ∨ be_g e' c j = be_g e c j
variable {x s0 : Nat}
theorem bo_GKt {e1 e2 : Nat → Nat → Nat → Int32} (h1 : bo_GK e e1 x s0) (h2 : bo_GK e1 e2 x s0) : bo_GK e e2 x s0 := fun c j => by
  rcases h2 c j with h | h | h | h | h
  · exact Or.inl h
  · exact Or.inr (Or.inl h)
  · exact Or.inr (Or.inr (Or.inl h))
  · exact Or.inr (Or.inr (Or.inr (Or.inl h)))
  · rcases h1 c j with h' | h' | h' | h' | h'
    · exact Or.inl h'
    · exact Or.inr (Or.inl h')
    · exact Or.inr (Or.inr (Or.inl h'))
    · exact Or.inr (Or.inr (Or.inr (Or.inl h')))
    · exact Or.inr (Or.inr (Or.inr (Or.inr (h.trans h'))))
theorem bo_GKe {e1 : Nat → Nat → Nat → Int32} (h : ∀ c j, ¬ ((c = 50 ∧ (j = 15 ∨ j = 16 ∨ j = 25 ∨ j = 26 ∨ j = 27)) ∨ c = 66 ∨ (61 ≤ c ∧ c ≤ 64 ∧ j = x) ∨ (c = 65 ∧ s0 ≤ j)) → be_g e1 c j = be_g e c j) : bo_GK e e1 x s0 := fun c j => by
  by_cases hc : (c = 50 ∧ (j = 15 ∨ j = 16 ∨ j = 25 ∨ j = 26 ∨ j = 27)) ∨ c = 66 ∨ (61 ≤ c ∧ c ≤ 64 ∧ j = x) ∨ (c = 65 ∧ s0 ≤ j)
  · rcases hc with h | h | h | h
    · exact Or.inl h
    · exact Or.inr (Or.inl h)
    · exact Or.inr (Or.inr (Or.inl h))
    · exact Or.inr (Or.inr (Or.inr (Or.inl h)))
  · exact Or.inr (Or.inr (Or.inr (Or.inr (h c j hc))))
theorem bo_GKg {e1 : Nat → Nat → Nat → Int32} (h : bo_GK e e1 x s0) {c j : Nat} (hc : ¬ ((c = 50 ∧ (j = 15 ∨ j = 16 ∨ j = 25 ∨ j = 26 ∨ j = 27)) ∨ c = 66 ∨ (61 ≤ c ∧ c ≤ 64 ∧ j = x) ∨ (c = 65 ∧ s0 ≤ j))) : be_g e1 c j = be_g e c j := by
  rcases h c j with h' | h' | h' | h' | h'
  · exact absurd (Or.inl h') hc
  · exact absurd (Or.inr (Or.inl h')) hc
  · exact absurd (Or.inr (Or.inr (Or.inl h'))) hc
  · exact absurd (Or.inr (Or.inr (Or.inr h'))) hc
  · exact h'
theorem bo_GKG {e1 : Nat → Nat → Nat → Int32} (h : bo_G e e1 s0 x) : bo_GK e e1 x s0 := bo_GKe (fun c j hc => bo_Ge h (by omega))
def bo_RCO (X : am_X) (n : Nat) (T : Nat → Int) (p s q : Nat) (v : Int) (cs : List Int) : Prop :=
  ∀ (d : Nat) (a : Nat → Nat → Nat → Int32) (b : Nat → Nat → Nat → Int64) (u : Nat → Nat) (f : Nat → Nat → Nat → Int64) (e : Nat → Nat → Nat → Int32) (F x : Nat), 12 ≤ d → x < 60 → F ≤ 5 → bo_Y e n T → bo_LT e → be_g e 50 15 = (p : Int) → be_g e 50 25 = ((100 * F + s : Nat) : Int) →
    ∃ e', am_sem X d 26 [.inr (50, 0), am_I (be_i ((x : Int)))] (am_sd a b u e f) = some (some (am_I (be_i 1)), am_sd a b u e' f) ∧ be_g e' 50 15 = (q : Int) ∧ be_g e' 50 25 = ((100 * F + s + cs.length : Nat) : Int) ∧ be_g e' 61 x = bo_wk T p ∧ be_g e' 62 x = v ∧ (bo_wk T p < 2 → be_g e' 63 x = ((100 * F + s : Nat) : Int) ∧ be_g e' 64 x = ((100 * F + s + cs.length : Nat) : Int)) ∧ bo_at (be_g e' 65) (100 * F + s) cs ∧ bo_GK e e' x (100 * F + s)
def bo_RCF (X : am_X) (n : Nat) (T : Nat → Int) (p s q : Nat) : Prop :=
  ∀ (d : Nat) (a : Nat → Nat → Nat → Int32) (b : Nat → Nat → Nat → Int64) (u : Nat → Nat) (f : Nat → Nat → Nat → Int64) (e : Nat → Nat → Nat → Int32) (F x : Nat), 12 ≤ d → x < 60 → F ≤ 5 → bo_Y e n T → bo_LT e → be_g e 50 15 = (p : Int) → be_g e 50 25 = ((100 * F + s : Nat) : Int) →
    ∃ e', am_sem X d 26 [.inr (50, 0), am_I (be_i ((x : Int)))] (am_sd a b u e f) = some (some (am_I (be_i 0)), am_sd a b u e' f) ∧ be_g e' 50 15 = (q : Int) ∧ bo_GK e e' x (100 * F + s) ∧ 0 ≤ be_g e' 61 x ∧ be_g e' 61 x ≤ 3 ∧ (be_g e' 62 x = be_g e 62 x ∨ (0 ≤ be_g e' 62 x ∧ be_g e' 62 x ≤ 99))
theorem bo_wkR (T : Nat → Int) (p : Nat) : 0 ≤ bo_wk T p ∧ bo_wk T p ≤ 3 := by
  unfold bo_wk
  (repeat' split) <;> omega
theorem bo_GKh {e1 : Nat → Nat → Nat → Int32} (h : ∀ c j, ¬ (c = 50 ∧ j = 15) → ¬ (c = 61 ∧ j = x) → be_g e1 c j = be_g e c j) : bo_GK e e1 x s0 := bo_GKe (fun c j hc => h c j (by omega) (by omega))
theorem bo_YGK {e1 : Nat → Nat → Nat → Int32} (h : bo_GK e e1 x s0) (hY : bo_Y e n T) : bo_Y e1 n T := ⟨hY.1, (bo_GKg h (by omega)).trans hY.2.1, fun k hk => (bo_GKg h (by omega)).trans (hY.2.2 k hk)⟩
/-- the word fails -/
theorem bo_rc1 (hpn : p ≤ n) (h : (bo_wr T p).1 = false) : bo_RCF X n T p s (bo_wr T p).2 := by
  intro d a b u f e F x h1 h2 hF h3 h4 h5 h6
  obtain ⟨d, rfl⟩ : ∃ q, d = q + 1 := ⟨d - 1, by omega⟩
  obtain ⟨e1, g1, g2, g3, g4⟩ := bo_25 (X := X) (a := a) (b := b) (u := u) (e := e) (f := f) (d := d) (by omega) h2 h3 h4 h5 hpn
  have hk := bo_wkR T p
  refine ⟨e1, ?_, g2, bo_GKh g4, by omega, by omega, Or.inl (g4 62 x (by omega) (by omega))⟩
  rw [am_s26, g1, be_bi, am_b26_5, h, if_pos (by decide)]
/-- the number fails -/
theorem bo_rc2 (hpn : p ≤ n) (h : (bo_wr T p).1 = true) (hq : (bo_wr T p).2 ≤ n) (hx : ¬ bo_dg (T (bo_wr T p).2)) : bo_RCF X n T p s (bo_wr T p).2 := by
  intro d a b u f e F x h1 h2 hF h3 h4 h5 h6
  obtain ⟨d, rfl⟩ : ∃ q, d = q + 1 := ⟨d - 1, by omega⟩
  obtain ⟨e1, g1, g2, g3, g4⟩ := bo_25 (X := X) (a := a) (b := b) (u := u) (e := e) (f := f) (d := d) (by omega) h2 h3 h4 h5 hpn
  have hk := bo_wkR T p
  have G1 : bo_GK e e1 x (100 * F + s) := bo_GKh g4
  refine ⟨e1, ?_, g2, G1, by omega, by omega, Or.inl (g4 62 x (by omega) (by omega))⟩
  rw [am_s26, g1, be_bi, am_b26_5, h, if_neg (by decide), bo_18n (by omega) (bo_YGK G1 h3) g2 hq hx, be_bi, am_b26_12, if_neg (by decide)]
/-- as far as behind the number -/
theorem bo_rc3 (hd : 12 ≤ d + 1) {F x : Nat} (hpn : p ≤ n) (h2 : x < 60) (h3 : bo_Y e n T) (h4 : bo_LT e) (h5 : be_g e 50 15 = (p : Int)) (h : (bo_wr T p).1 = true) (hq : (bo_wr T p).2 ≤ n) (hx : bo_dg (T (bo_wr T p).2)) :
    ∃ e1, am_sem X (d + 1) 26 [.inr (50, 0), am_I (be_i ((x : Int)))] (am_sd a b u e f) = (if be_i 2 ≤ be_i (bo_wk T p) then some (some (am_I (be_i 1)), am_sd a b u e1 f) else am_bi (am_sem X d 15 [.inr (50, 0), am_I (be_i (32))] (am_sd a b u e1 f)) (fun r τ => am_fix (am_sem X d) X am_P26 43 [.inr (50, 0), am_I (be_i ((x : Int)))] [am_I r] τ)) ∧ be_g e1 50 15 = (bo_np T (bo_wr T p).2 : Int) ∧ bo_np T (bo_wr T p).2 ≤ n ∧ be_g e1 50 25 = be_g e 50 25 ∧ be_g e1 61 x = bo_wk T p ∧ be_g e1 62 x = bo_nv T (bo_wr T p).2 ∧ bo_GK e e1 x (100 * F + s) := by
  obtain ⟨e1, g1, g2, g3, g4⟩ := bo_25 (X := X) (a := a) (b := b) (u := u) (e := e) (f := f) (d := d) (by omega) h2 h3 h4 h5 hpn
  have hk := bo_wkR T p
  have G1 : bo_GK e e1 x (100 * F + s) := bo_GKh g4
  obtain ⟨e2, k1, k2, k3, k4, k5, -⟩ := bo_18 (X := X) (a := a) (b := b) (u := u) (f := f) (d := d) (by omega) (bo_YGK G1 h3) g2 hq hx
  have nR := bo_nR hx
  have k61 : be_g e2 61 x = bo_wk T p := (k5 61 x (by omega)).trans g3
  refine ⟨am_w3 e2 62 0 x (be_i (bo_nv T (bo_wr T p).2)), ?_, (bo_gwn (by omega)).trans k3, k4, (bo_gwn (by omega)).trans ((k5 50 25 (by omega)).trans (g4 50 25 (by omega) (by omega))), (bo_gwn (by omega)).trans k61, bo_gws (by omega) (by omega), bo_GKt G1 (bo_GKe (fun c j hc => (bo_gwn (by omega)).trans (k5 c j (by omega))))⟩
  rw [am_s26, g1, be_bi, am_b26_5, h, if_neg (by decide), k1, be_bi, am_b26_12, if_pos (by decide), be_ck (by omega) (by omega) (by omega), be_ck (by omega) (by omega) (by omega), be_ntN (by omega), bo_e k61, bo_e k2]
theorem bo_rc4 (hpn : p ≤ n) (h : (bo_wr T p).1 = true) (hq : (bo_wr T p).2 ≤ n) (hx : bo_dg (T (bo_wr T p).2)) (hk2 : 2 ≤ bo_wk T p) : bo_RCO X n T p s (bo_np T (bo_wr T p).2) (bo_nv T (bo_wr T p).2) [] := by
  intro d a b u f e F x h1 h2 hF h3 h4 h5 h6
  obtain ⟨d, rfl⟩ : ∃ q, d = q + 1 := ⟨d - 1, by omega⟩
  have hk := bo_wkR T p
  obtain ⟨e1, g1, g2, g3, g4, g5, g6, g7⟩ := bo_rc3 (X := X) (a := a) (b := b) (u := u) (e := e) (f := f) (d := d) (s := s) (F := F) h1 hpn h2 h3 h4 h5 h hq hx
  refine ⟨e1, ?_, g2, g4.trans h6, g5, g6, fun h => by omega, trivial, g7⟩
  rw [g1, if_pos (by rw [be_le (by omega) (by omega) (by omega) (by omega)]; exact hk2)]
theorem bo_rc5 (hT : bo_T n T) (hpn : p ≤ n) (h : (bo_wr T p).1 = true) (hq : (bo_wr T p).2 ≤ n) (hx : bo_dg (T (bo_wr T p).2)) (hk2 : bo_wk T p < 2) (hb : T (bo_np T (bo_wr T p).2) ≠ 32) : bo_RCF X n T p s (bo_np T (bo_wr T p).2) := by
  intro d a b u f e F x h1 h2 hF h3 h4 h5 h6
  obtain ⟨d, rfl⟩ : ∃ q, d = q + 1 := ⟨d - 1, by omega⟩
  have hk := bo_wkR T p
  have nR := bo_nR hx
  obtain ⟨e1, g1, g2, g3, g4, g5, g6, g7⟩ := bo_rc3 (X := X) (a := a) (b := b) (u := u) (e := e) (f := f) (d := d) (s := s) (F := F) h1 hpn h2 h3 h4 h5 h hq hx
  refine ⟨e1, ?_, g2, g7, by omega, by omega, Or.inr (by omega)⟩
  rw [g1, if_neg (by rw [be_le (by omega) (by omega) (by omega) (by omega)]; omega), bo_15n (by omega) (bo_YGK g7 h3) g2 g3 (by omega) (by omega) hb, be_bi, am_b26_43, if_pos be_0.symm]
/-- as far as into E -/
theorem bo_rc6 (hd : 12 ≤ d + 1) {F x : Nat} (hF : F ≤ 5) (hsp : s ≤ p) (hpn : p ≤ n) (h2 : x < 60) (h3 : bo_Y e n T) (h4 : bo_LT e) (h5 : be_g e 50 15 = (p : Int)) (h6 : be_g e 50 25 = ((100 * F + s : Nat) : Int)) (h : (bo_wr T p).1 = true) (hq : (bo_wr T p).2 ≤ n) (hx : bo_dg (T (bo_wr T p).2)) (hk2 : bo_wk T p < 2) (hb : T (bo_np T (bo_wr T p).2) = 32) :
    ∃ e0, am_sem X (d + 1) 26 [.inr (50, 0), am_I (be_i ((x : Int)))] (am_sd a b u e f) = am_bi (am_fix (am_sem X (d - 1)) X am_P24 22 [.inr (50, 0), am_I (be_i ((x : Int))), am_I (be_i (1)), am_un] [] (am_sd a b u e0 f)) (fun r τ => am_fix (am_sem X d) X am_P26 51 [.inr (50, 0), am_I (be_i ((x : Int)))] [am_I r] τ) ∧ bo_Y e0 n T ∧ bo_Cf e0 e0 (100 * F + s) x (bo_np T (bo_wr T p).2 + 1) [] [] ((0 : Nat) : Int) ∧ be_g e0 61 x = bo_wk T p ∧ be_g e0 62 x = bo_nv T (bo_wr T p).2 ∧ be_g e0 63 x = ((100 * F + s : Nat) : Int) ∧ bo_GK e e0 x (100 * F + s) := by
  have hk := bo_wkR T p
  have nR := bo_nR hx
  have hn := h3.1.1
  obtain ⟨e1, g1, g2, g3, g4, g5, g6, g7⟩ := bo_rc3 (X := X) (a := a) (b := b) (u := u) (e := e) (f := f) (d := d) (s := s) (F := F) hd hpn h2 h3 h4 h5 h hq hx
  have hl := bo_Tn h3.1 (k := bo_np T (bo_wr T p).2) (by omega)
  obtain ⟨d, rfl⟩ : ∃ q, d = q + 1 := ⟨d - 1, by omega⟩
  rw [Nat.add_sub_cancel]
  obtain ⟨e2, he2⟩ : ∃ e2, e2 = am_w3 e1 50 0 15 (be_i ((bo_np T (bo_wr T p).2 : Int) + 1)) := ⟨_, rfl⟩
  have G2 : bo_GK e e2 x (100 * F + s) := bo_GKt g7 (bo_GKe (fun c j hc => by rw [he2]; exact bo_gwn (by omega)))
  have k25 : be_g e2 50 25 = ((100 * F + s : Nat) : Int) := by rw [he2, bo_gwn (by omega), g4, h6]
  obtain ⟨e3, he3⟩ : ∃ e3, e3 = am_w3 (am_w3 (am_w3 e2 50 0 26 (be_i 0)) 50 0 27 (be_i 0)) 63 0 x (be_i ((100 * F + s : Nat) : Int)) := ⟨_, rfl⟩
  have w3 : ∀ c j, ¬ (c = 50 ∧ (j = 26 ∨ j = 27)) → ¬ (c = 63 ∧ j = x) → be_g e3 c j = be_g e2 c j := fun c j c1 c2 => by
    rw [he3, bo_gwn (by omega), bo_gwn (by omega), bo_gwn (by omega)]
  have w2 : ∀ c j, ¬ (c = 50 ∧ j = 15) → be_g e2 c j = be_g e1 c j := fun c j c1 => by
    rw [he2, bo_gwn (by omega)]
  have G3 : bo_GK e e3 x (100 * F + s) := bo_GKt G2 (bo_GKe (fun c j hc => w3 c j (by omega) (by omega)))
  refine ⟨e3, ?_, bo_YGK G3 h3, ⟨fun c j => Or.inr (Or.inr (Or.inr (Or.inr rfl))), ?_, ?_, trivial, ?_, trivial, ?_⟩, ?_, ?_, ?_, G3⟩
  · rw [g1, if_neg (by rw [be_le (by omega) (by omega) (by omega) (by omega)]; omega), bo_15y (by omega) (bo_YGK g7 h3) g2 g3 hb, be_bi, am_b26_43, if_neg (by decide), ← he2, am_s24, be_ck (by omega) (by omega) (by omega), be_ntN (by omega), bo_e k25, ← he3]
  · rw [w3 50 15 (by omega) (by omega), he2, bo_gws (by omega) (by omega)]; rfl
  · rw [w3 50 25 (by omega) (by omega), k25]; rfl
  · rw [he3, bo_gwn (by omega), bo_gwn (by omega), bo_gws (by omega) (by omega)]; rfl
  · rw [he3, bo_gwn (by omega), bo_gws (by omega) (by omega)]; rfl
  · rw [w3 61 x (by omega) (by omega), w2 61 x (by omega), g5]
  · rw [w3 62 x (by omega) (by omega), w2 62 x (by omega), g6]
  · rw [he3, bo_gws (by omega) (by omega)]
theorem bo_rc7 (hT : bo_T n T) (hsp : s ≤ p) (hpn : p ≤ n) (h : (bo_wr T p).1 = true) (hqp : p ≤ (bo_wr T p).2) (hq : (bo_wr T p).2 ≤ n) (hx : bo_dg (T (bo_wr T p).2)) (hk2 : bo_wk T p < 2) (hb : T (bo_np T (bo_wr T p).2) = 32) {q' : Nat} (hR : bo_RF X n T (bo_np T (bo_wr T p).2 + 1) 0 q' bo_P3) : bo_RCF X n T p s q' := by
  intro d a b u f e F x h1 h2 hF h3 h4 h5 h6
  obtain ⟨d, rfl⟩ : ∃ q, d = q + 1 := ⟨d - 1, by omega⟩
  have hk := bo_wkR T p
  have nR := bo_nR hx
  obtain ⟨e0, g1, g2, g3, g4, g5, g6, g7⟩ := bo_rc6 (X := X) (a := a) (b := b) (u := u) (e := e) (f := f) (d := d) (s := s) (F := F) h1 hF hsp hpn h2 h3 h4 h5 h6 h hq hx hk2 hb
  obtain ⟨e', k1, k2, k3⟩ := hR (d := d - 1) (a := a) (b := b) (u := u) (f := f) (z3 := am_un) (by omega) h2 g2 (fun c r hs => by cases hs) g3 (by show 100 * F + s + 0 + 0 ≤ _; omega) (Nat.zero_le _)
  refine ⟨e', ?_, k2, bo_GKt g7 (bo_GKG k3), ?_, ?_, Or.inr ?_⟩
  · rw [g1, k1, be_bi, am_b26_51, if_pos be_0.symm]
  · rw [bo_Ge k3 (by omega), g4]; omega
  · rw [bo_Ge k3 (by omega), g4]; omega
  · rw [bo_Ge k3 (by omega), g5]; omega
theorem bo_rc8 (hT : bo_T n T) (hsp : s ≤ p) (hpn : p ≤ n) (h : (bo_wr T p).1 = true) (hqp : p ≤ (bo_wr T p).2) (hq : (bo_wr T p).2 ≤ n) (hx : bo_dg (T (bo_wr T p).2)) (hk2 : bo_wk T p < 2) (hb : T (bo_np T (bo_wr T p).2) = 32) {q' : Nat} {cs : List Int} (hqn : q' ≤ n) (hlen : s + cs.length ≤ q') (N1 : T q' ≠ 38) (N2 : T q' ≠ 124) (hR : bo_RO X n T (bo_np T (bo_wr T p).2 + 1) 0 q' cs bo_P3) : bo_RCO X n T p s q' (bo_nv T (bo_wr T p).2) cs := by
  intro d a b u f e F x h1 h2 hF h3 h4 h5 h6
  obtain ⟨d, rfl⟩ : ∃ q, d = q + 1 := ⟨d - 1, by omega⟩
  have hk := bo_wkR T p
  have nR := bo_nR hx
  have hn := hT.1
  obtain ⟨e0, g1, g2, g3, g4, g5, g6, g7⟩ := bo_rc6 (X := X) (a := a) (b := b) (u := u) (e := e) (f := f) (d := d) (s := s) (F := F) h1 hF hsp hpn h2 h3 h4 h5 h6 h hq hx hk2 hb
  obtain ⟨e2, z2, k1, k2⟩ := hR (d := d - 1) (a := a) (b := b) (u := u) (f := f) (z3 := am_un) (by omega) h2 g2 (fun c r hs => by cases hs) g3 (by show 100 * F + s + 0 + 0 ≤ _; omega) (Nat.zero_le _)
  rw [bo_nt, bo_dr, List.replicate_zero, List.append_nil, List.nil_append] at k2
  obtain ⟨e3, m1, m2, m3⟩ := bo_gend (X := X) (a := a) (b := b) (u := u) (f := f) (d := d - 1) (z3 := z2) (by omega) h2 g2 ⟨N1, N2⟩ k2 hqn (by omega)
  refine ⟨e3, ?_, m2.2.1, m2.2.2.1, ?_, ?_, fun _ => ⟨?_, m3⟩, m2.2.2.2.1, bo_GKt g7 (bo_GKG m2.1)⟩
  · rw [g1, k1, m1, be_bi, am_b26_51, if_neg (by decide)]
  · rw [bo_Ge m2.1 (by omega), g4]
  · rw [bo_Ge m2.1 (by omega), g5]
  · rw [bo_Ge m2.1 (by omega), g6]
