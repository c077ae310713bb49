/-! THE OFFICE, 8: words -/
variable {d : Nat} {X : am_X} {a : Nat → Nat → Nat → Int32} {b : Nat → Nat → Nat → Int64} {u : Nat → Nat} {e : Nat → Nat → Nat → Int32} {f : Nat → Nat → Nat → Int64}
variable {n o q p z : Nat} {T : Nat → Int}
def bo_wd (T : Nat → Int) : List Int → Nat → Bool × Nat
  | [], q => (true, q)
  | c :: r, q => if T q = c then bo_wd T r (q + 1) else (false, q)
def bo_wi (y : Int) : Nat := if y = 104 then 2 else if y = 100 then 3 else if y = 108 then 0 else if y = 109 then 1 else 4
def bo_wr (T : Nat → Int) (p : Nat) : Bool × Nat := if bo_wi (T p) = 4 then (false, p) else bo_wd T (bo_L (bo_wi (T p))) p
theorem bo_wiR (y : Int) : bo_wi y ≤ 4 := by
  unfold bo_wi
  (repeat' split) <;> omega
theorem bo_wdn {T : Nat → Int} (hT : bo_T n T) : ∀ (r : List Int) (q : Nat), q ≤ n → (∀ c, c ∈ r → 0 ≤ c) → q ≤ (bo_wd T r q).2 ∧ (bo_wd T r q).2 ≤ n
  | [], q, hq, _ => ⟨Nat.le_refl _, hq⟩
  | c :: r, q, hq, hr => by
    rw [bo_wd]
    by_cases hc : T q = c
    · rw [if_pos hc]
      have h0 := hr c List.mem_cons_self
      have hl := bo_Tn hT (k := q) (by omega)
      have := bo_wdn hT r (q + 1) (by omega) (fun c hc => hr c (List.mem_cons_of_mem _ hc))
      omega
    · rw [if_neg hc]
      exact ⟨Nat.le_refl _, hq⟩
theorem bo_175 (hd : 1 ≤ d) {y : Int} (h1 : -1 ≤ y) (h2 : y ≤ 127) : am_sem X d 175 [am_I (be_i (y))] (am_sd a b u e f) = some (some (.inr (203, bo_wi y)), (am_sd a b u e f)) := by
  obtain ⟨d, rfl⟩ : ∃ q, d = q + 1 := ⟨d - 1, by omega⟩
  rw [am_s175]
  by_cases h100 : y = 100
  · subst h100; rfl
  rw [if_neg (by rw [be_eq (by omega) (by omega) (by omega) (by omega)]; exact h100)]
  by_cases h101 : y = 101
  · subst h101; rfl
  rw [if_neg (by rw [be_eq (by omega) (by omega) (by omega) (by omega)]; exact h101)]
  by_cases h102 : y = 102
  · subst h102; rfl
  rw [if_neg (by rw [be_eq (by omega) (by omega) (by omega) (by omega)]; exact h102)]
  by_cases h103 : y = 103
  · subst h103; rfl
  rw [if_neg (by rw [be_eq (by omega) (by omega) (by omega) (by omega)]; exact h103)]
  by_cases h104 : y = 104
  · subst h104; rfl
  rw [if_neg (by rw [be_eq (by omega) (by omega) (by omega) (by omega)]; exact h104)]
  by_cases h105 : y = 105
  · subst h105; rfl
  rw [if_neg (by rw [be_eq (by omega) (by omega) (by omega) (by omega)]; exact h105)]
  by_cases h106 : y = 106
  · subst h106; rfl
  rw [if_neg (by rw [be_eq (by omega) (by omega) (by omega) (by omega)]; exact h106)]
  by_cases h107 : y = 107
  · subst h107; rfl
  rw [if_neg (by rw [be_eq (by omega) (by omega) (by omega) (by omega)]; exact h107)]
  by_cases h108 : y = 108
  · subst h108; rfl
  rw [if_neg (by rw [be_eq (by omega) (by omega) (by omega) (by omega)]; exact h108)]
  by_cases h109 : y = 109
  · subst h109; rfl
  rw [if_neg (by rw [be_eq (by omega) (by omega) (by omega) (by omega)]; exact h109)]
  have hz : bo_wi y = 4 := by
    unfold bo_wi
    (repeat' split) <;> omega
  rw [hz]
theorem bo_wloopF (hd : 5 ≤ d) {i : Nat} (hi : i < 7) {x1 : Int32} : ∀ (m j : Nat) (a : Nat → Nat → Nat → Int32), j + m = (bo_L i).length → bo_F a n T o q → ∃ a', am_fix (am_sem X d) X am_P174 19 [.inr (4, 0), am_I x1, .inr (203, i), am_I (be_i ((j : Int)))] [] (am_sd a b u e f) = some (none, am_sd a' b u e f) ∧ bo_F a' n T o q ∧ bo_E a a' o 0 := by
  have hL := bo_Ln i hi
  intro m
  induction m with
  | zero =>
    intro j a hj h
    refine ⟨a, ?_, h, bo_Er⟩
    rw [am_b174_19, bo_113 (by omega) hi, be_bi, am_b174_24, if_pos (by rw [be_le (by omega) (by omega) (by omega) (by omega)]; omega)]
  | succ m ih =>
    intro j a hj h
    have hR := bo_LR i hi j (by omega)
    obtain ⟨a', g1, g2, g3⟩ := ih (j + 1) _ (by omega) (bo_failF h)
    refine ⟨a', ?_, g2, bo_Et bo_Ef g3 (Nat.le_refl _)⟩
    rw [am_b174_19, bo_113 (by omega) hi, be_bi, am_b174_24, if_neg (by rw [be_le (by omega) (by omega) (by omega) (by omega)]; omega), bo_115 (by omega) hi (by omega), be_bi, am_b174_33, bo_172f (by omega) h hR.1 hR.2, be_bv, am_b174_36, be_add]
    exact g1
theorem bo_wloopK (hd : 5 ≤ d) {i : Nat} (hi : i < 7) {x1 : Int32} : ∀ (r : List Int) (j q : Nat) (a : Nat → Nat → Nat → Int32), j + r.length = (bo_L i).length → (∀ k, k < r.length → (bo_L i).getD (j + k) 0 = r.getD k 0) → bo_K a n T o q z → ∃ a', am_fix (am_sem X d) X am_P174 19 [.inr (4, 0), am_I x1, .inr (203, i), am_I (be_i ((j : Int)))] [] (am_sd a b u e f) = some (none, am_sd a' b u e f) ∧ ((bo_wd T r q).1 = true → bo_K a' n T o (bo_wd T r q).2 z ∧ bo_E a a' o z) ∧ ((bo_wd T r q).1 = false → bo_F a' n T o (bo_wd T r q).2 ∧ bo_E a a' o 0) := by
  have hL := bo_Ln i hi
  intro r
  induction r with
  | nil =>
    intro j q a hj _ h
    rw [List.length_nil] at hj
    refine ⟨a, ?_, fun _ => ⟨h, bo_Er⟩, fun h => by cases h⟩
    rw [am_b174_19, bo_113 (by omega) hi, be_bi, am_b174_24, if_pos (by rw [be_le (by omega) (by omega) (by omega) (by omega)]; omega)]
  | cons c r ih =>
    intro j q a hj hr h
    rw [List.length_cons] at hj
    have hc := hr 0 (by rw [List.length_cons]; omega)
    rw [Nat.add_zero, List.getD_cons_zero] at hc
    have hR := bo_LR i hi j (by omega)
    have hr' : ∀ k, k < r.length → (bo_L i).getD (j + 1 + k) 0 = r.getD k 0 := fun k hk => by
      have := hr (k + 1) (by rw [List.length_cons]; omega)
      rw [List.getD_cons_succ] at this
      rw [← this, show j + 1 + k = j + (k + 1) by omega]
    have head : ∀ {τ : am_R}, am_bv (am_sem X d 172 [.inr (4, 0), am_I (be_i (c))] (am_sd a b u e f)) (fun σ => am_fix (am_sem X d) X am_P174 36 [.inr (4, 0), am_I x1, .inr (203, i), am_I (be_i ((j : Int)))] [] σ) = τ → am_fix (am_sem X d) X am_P174 19 [.inr (4, 0), am_I x1, .inr (203, i), am_I (be_i ((j : Int)))] [] (am_sd a b u e f) = τ := by
      intro τ hτ
      rw [am_b174_19, bo_113 (by omega) hi, be_bi, am_b174_24, if_neg (by rw [be_le (by omega) (by omega) (by omega) (by omega)]; omega), bo_115 (by omega) hi (by omega), be_bi, am_b174_33, hc, hτ]
    rw [hc] at hR
    rw [bo_wd]
    by_cases hT : T q = c
    · rw [if_pos hT]
      have k1 := bo_adv h (by omega)
      obtain ⟨a', g1, g2, g3⟩ := ih (j + 1) (q + 1) _ (by omega) hr' k1.1
      refine ⟨a', head ?_, fun h => ⟨(g2 h).1, bo_Et k1.2 (g2 h).2 (Nat.le_refl _)⟩, fun h => ⟨(g3 h).1, bo_Et (bo_E0 k1.2) (g3 h).2 (Nat.le_refl _)⟩⟩
      rw [bo_172y (by omega) h hT, be_bv, am_b174_36, be_add]
      exact g1
    · rw [if_neg hT]
      obtain ⟨a', g1, g2, g3⟩ := bo_wloopF (X := X) (b := b) (u := u) (e := e) (f := f) (d := d) hd hi (x1 := x1) r.length (j + 1) _ (by omega) (bo_failK h)
      refine ⟨a', head ?_, fun h => (by cases h), fun _ => ⟨g2, bo_Et bo_Ef g3 (Nat.le_refl _)⟩⟩
      rw [bo_172n (by omega) h hR.1 hR.2 hT, be_bv, am_b174_36, be_add]
      exact g1
theorem bo_174 (hd : 6 ≤ d) (h : bo_K a n T o p z) : ∃ a', am_sem X d 174 [.inr (4, 0), am_I (be_i (T p))] (am_sd a b u e f) = some (none, am_sd a' b u e f) ∧ ((bo_wr T p).1 = true → bo_K a' n T o (bo_wr T p).2 z ∧ bo_E a a' o z) ∧ ((bo_wr T p).1 = false → bo_F a' n T o (bo_wr T p).2 ∧ bo_E a a' o 0) := by
  obtain ⟨d, rfl⟩ : ∃ q, d = q + 1 := ⟨d - 1, by omega⟩
  have hR := bo_TR h.1.1 p
  have hw := bo_wiR (T p)
  unfold bo_wr
  by_cases h4 : bo_wi (T p) = 4
  · rw [if_pos h4]
    obtain ⟨a', g1, g2, g3⟩ := bo_wloopF (X := X) (b := b) (u := u) (e := e) (f := f) (d := d) (by omega) (i := 4) (by omega) (x1 := be_i (T p)) 0 0 _ rfl (bo_failK h)
    refine ⟨a', ?_, fun h => (by cases h), fun _ => ⟨g2, bo_Et bo_Ef g3 (Nat.le_refl _)⟩⟩
    rw [am_s174, bo_175 (by omega) hR.1 hR.2, be_br, h4, am_b174_4, bo_114 (by omega) (by omega), be_bi, am_b174_9, if_neg (by decide), am_b174_17]
    exact g1
  · rw [if_neg h4]
    obtain ⟨a', g1, g2⟩ := bo_wloopK (X := X) (b := b) (u := u) (e := e) (f := f) (d := d) (by omega) (i := bo_wi (T p)) (by omega) (x1 := be_i (T p)) (bo_L (bo_wi (T p))) 0 p a (by omega) (fun k _ => by rw [Nat.zero_add]) h
    refine ⟨a', ?_, g2⟩
    rw [am_s174, bo_175 (by omega) hR.1 hR.2, be_br, am_b174_4, bo_114 (by omega) (by omega), be_bi, am_b174_9, decide_eq_false h4, if_pos (by decide), am_b174_17]
    exact g1
/-! the reference's words -/
def bo_LT (e : Nat → Nat → Nat → Int32) : Prop := ∀ k, k < 15 → be_g e 67 k = be_lets.getD k 0
theorem bo_letR : ∀ k, k < 15 → 0 ≤ be_lets.getD k 0 ∧ be_lets.getD k 0 ≤ 127 := by decide
theorem bo_16l (hd : 3 ≤ d) {x1 m : Nat} (hm : x1 + m ≤ 15) : ∀ (r : List Int) (j q : Nat) (e : Nat → Nat → Nat → Int32), j + r.length = m → (∀ k, k < r.length → be_lets.getD (x1 + (j + k)) 0 = r.getD k 0) → bo_Y e n T → bo_LT e → be_g e 50 15 = (q : Int) → q ≤ n →
    ∃ e', am_fix (am_sem X d) X am_P16 2 [.inr (50, 0), am_I (be_i ((x1 : Int))), am_I (be_i ((m : Int))), am_I (be_i ((j : Int)))] [] (am_sd a b u e f) = some (some (am_I (be_i (be_b (bo_wd T (r ++ [32]) q).1))), am_sd a b u e' f) ∧ be_g e' 50 15 = ((bo_wd T (r ++ [32]) q).2 : Int) ∧ ∀ c j, ¬ (c = 50 ∧ j = 15) → be_g e' c j = be_g e c j := by
  intro r
  induction r with
  | nil =>
    intro j q e hj _ hY hL hq hqn
    rw [List.length_nil] at hj
    have hn := hY.1.1
    rw [List.nil_append, bo_wd, bo_wd]
    by_cases hT : T q = 32
    · rw [if_pos hT]
      have hl := bo_Tn hY.1 (k := q) (by omega)
      refine ⟨_, ?_, bo_gws (by omega) (by omega), fun c j hc => bo_gwn (by omega)⟩
      rw [am_b16_2, if_pos (by rw [be_le (by omega) (by omega) (by omega) (by omega)]; omega), bo_15y (by omega) hY hq hqn hT, be_bi, am_b16_36, be_bk (by omega)]
      rfl
    · rw [if_neg hT]
      refine ⟨e, ?_, hq, fun c j hc => rfl⟩
      rw [am_b16_2, if_pos (by rw [be_le (by omega) (by omega) (by omega) (by omega)]; omega), bo_15n (by omega) hY hq hqn (by omega) (by omega) hT, be_bi, am_b16_36, be_bk (by omega)]
      rfl
  | cons c r ih =>
    intro j q e hj hr hY hL hq hqn
    rw [List.length_cons] at hj
    have hn := hY.1.1
    have hc := hr 0 (by rw [List.length_cons]; omega)
    rw [Nat.add_zero, List.getD_cons_zero] at hc
    have hR := bo_letR (x1 + j) (by omega)
    have h67 : e 67 0 ((be_i (x1 : Int) + be_i (j : Int)).toNatClampNeg) = be_i c := by
      rw [be_add, show ((x1 : Int) + (j : Int)) = ((x1 + j : Nat) : Int) from rfl, be_ntN (by omega), bo_e (hL (x1 + j) (by omega)), hc]
    rw [hc] at hR
    have hr' : ∀ k, k < r.length → be_lets.getD (x1 + (j + 1 + k)) 0 = r.getD k 0 := fun k hk => by
      have := hr (k + 1) (by rw [List.length_cons]; omega)
      rw [List.getD_cons_succ] at this
      rw [← this, show j + 1 + k = j + (k + 1) by omega]
    have ck : ∀ r : am_R, am_ck (be_i (x1 : Int) + be_i (j : Int)) 15 r = r := fun r => by rw [be_add, be_ck (by omega) (by omega) (by omega)]
    rw [List.cons_append, bo_wd]
    by_cases hT : T q = c
    · rw [if_pos hT]
      have hl := bo_Tn hY.1 (k := q) (by omega)
      obtain ⟨e', g1, g2, g3⟩ := ih (j + 1) (q + 1) (am_w3 e 50 0 15 (be_i ((q : Int) + 1))) (by omega) hr' (bo_Yw hY (by omega)) (fun k hk => (bo_gwn (by omega)).trans (hL k hk)) (bo_gws (by omega) (by omega)) hl
      refine ⟨e', ?_, g2, fun c j hc => (g3 c j hc).trans (bo_gwn (by omega))⟩
      rw [am_b16_2, if_neg (by rw [be_le (by omega) (by omega) (by omega) (by omega)]; omega), ck, h67, bo_15y (by omega) hY hq hqn hT, be_bi, am_b16_19, if_pos (by decide), be_add]
      exact g1
    · rw [if_neg hT]
      refine ⟨e, ?_, hq, fun c j hc => rfl⟩
      rw [am_b16_2, if_neg (by rw [be_le (by omega) (by omega) (by omega) (by omega)]; omega), ck, h67, bo_15n (by omega) hY hq hqn hR.1 hR.2 hT, be_bi, am_b16_19, if_neg (by decide)]
      rfl
theorem bo_16 (hd : 4 ≤ d) {x1 m i : Nat} (hm : x1 + m ≤ 15) (r : List Int) (hr : r.length = m) (hL0 : ∀ k, k < r.length → be_lets.getD (x1 + (0 + k)) 0 = r.getD k 0) (hi : bo_L i = r ++ [32]) (hY : bo_Y e n T) (hL : bo_LT e) (hq : be_g e 50 15 = (p : Int)) (hqn : p ≤ n) :
    ∃ e', am_sem X d 16 [.inr (50, 0), am_I (be_i ((x1 : Int))), am_I (be_i ((m : Int)))] (am_sd a b u e f) = some (some (am_I (be_i (be_b (bo_wd T (bo_L i) p).1))), am_sd a b u e' f) ∧ be_g e' 50 15 = ((bo_wd T (bo_L i) p).2 : Int) ∧ ∀ c j, ¬ (c = 50 ∧ j = 15) → be_g e' c j = be_g e c j := by
  obtain ⟨d, rfl⟩ : ∃ q, d = q + 1 := ⟨d - 1, by omega⟩
  obtain ⟨e', g1, g2⟩ := bo_16l (X := X) (a := a) (b := b) (u := u) (f := f) (d := d) (by omega) hm r 0 p e (by omega) hL0 hY hL hq hqn
  rw [hi]
  refine ⟨e', ?_, g2⟩
  rw [am_s16]
  exact g1
/-- the kind of a clause -/
def bo_wk (T : Nat → Int) (p : Nat) : Int := if T p = 104 then 2 else if T p = 108 then 0 else if T p = 109 then 1 else 3
theorem bo_25 (hd : 5 ≤ d) {x : Nat} (hx : x < 60) (hY : bo_Y e n T) (hL : bo_LT e) (hq : be_g e 50 15 = (p : Int)) (hqn : p ≤ n) :
    ∃ e', am_sem X d 25 [.inr (50, 0), am_I (be_i ((x : Int)))] (am_sd a b u e f) = some (some (am_I (be_i (be_b (bo_wr T p).1))), am_sd a b u e' f) ∧ be_g e' 50 15 = ((bo_wr T p).2 : Int) ∧ be_g e' 61 x = bo_wk T p ∧ ∀ c j, ¬ (c = 50 ∧ j = 15) → ¬ (c = 61 ∧ j = x) → be_g e' c j = be_g e c j := by
  obtain ⟨d, rfl⟩ : ∃ q, d = q + 1 := ⟨d - 1, by omega⟩
  have hR := bo_TR hY.1 p
  have key : ∀ (w : Int) (i x1 m : Nat) (r : List Int), x1 + m ≤ 15 → r.length = m → (∀ k, k < r.length → be_lets.getD (x1 + (0 + k)) 0 = r.getD k 0) → bo_L i = r ++ [32] → 0 ≤ w → w ≤ 3 → ∃ e', am_sem X d 16 [.inr (50, 0), am_I (be_i ((x1 : Int))), am_I (be_i ((m : Int)))] (am_sd a b u (am_w3 e 61 0 x (be_i w)) f) = some (some (am_I (be_i (be_b (bo_wd T (bo_L i) p).1))), am_sd a b u e' f) ∧ be_g e' 50 15 = ((bo_wd T (bo_L i) p).2 : Int) ∧ be_g e' 61 x = w ∧ ∀ c j, ¬ (c = 50 ∧ j = 15) → ¬ (c = 61 ∧ j = x) → be_g e' c j = be_g e c j := by
    intro w i x1 m r h1 h2 h3 h4 h5 h6
    obtain ⟨e', g1, g2, g3⟩ := bo_16 (X := X) (a := a) (b := b) (u := u) (f := f) (d := d) (by omega) h1 r h2 h3 h4 (bo_Yw (c := 61) (j := x) (y := be_i w) hY (by omega)) (fun k hk => (bo_gwn (by omega)).trans (hL k hk)) ((bo_gwn (by omega)).trans hq) hqn
    exact ⟨e', g1, g2, (g3 61 x (by omega)).trans (bo_gws (by omega) (by omega)), fun c j c1 c2 => (g3 c j c1).trans (bo_gwn c2)⟩
  rw [am_s25, bo_14 (by omega) hY hq hqn, be_bi, am_b25_4]
  have nq : ∀ c : Int, 0 ≤ c → c ≤ 127 → T p ≠ c → ¬ be_i (T p) = be_i c := fun c c1 c2 hc => by rw [be_eq (by omega) (by omega) (by omega) (by omega)]; exact hc
  by_cases h1 : T p = 104
  · have hwr : bo_wr T p = bo_wd T (bo_L 2) p := by
      unfold bo_wr bo_wi
      rw [if_pos h1]; rfl
    have hwk : bo_wk T p = 2 := if_pos h1
    obtain ⟨e', g1, g2⟩ := key 2 2 8 4 [104, 111, 108, 100] (by omega) rfl (by decide) rfl (by omega) (by omega)
    rw [hwr, hwk, if_pos (show be_i (T p) = be_i 104 by rw [h1])]
    refine ⟨e', ?_, g2⟩
    rw [be_ck (by omega) (by omega) (by omega), be_ntN (by omega)]
    rw [show [.inr (50, 0), am_I (be_i 8), am_I (be_i 4)] = [.inr (50, 0), am_I (be_i ((8 : Nat) : Int)), am_I (be_i ((4 : Nat) : Int))] from rfl, g1, be_bi, am_b25_82, be_bkb]
  · rw [if_neg (nq 104 (by omega) (by omega) h1)]
    by_cases h2 : T p = 108
    · have hwr : bo_wr T p = bo_wd T (bo_L 0) p := by
        unfold bo_wr bo_wi
        rw [if_neg h1, if_neg (by omega : ¬ T p = 100), if_pos h2]; rfl
      have hwk : bo_wk T p = 0 := (if_neg h1).trans (if_pos h2)
      obtain ⟨e', g1, g2⟩ := key 0 0 0 4 [108, 105, 107, 101] (by omega) rfl (by decide) rfl (by omega) (by omega)
      rw [hwr, hwk, if_pos (show be_i (T p) = be_i 108 by rw [h2])]
      refine ⟨e', ?_, g2⟩
      rw [be_ck (by omega) (by omega) (by omega), be_ntN (by omega)]
      rw [show [.inr (50, 0), am_I (be_i 0), am_I (be_i 4)] = [.inr (50, 0), am_I (be_i ((0 : Nat) : Int)), am_I (be_i ((4 : Nat) : Int))] from rfl, g1, be_bi, am_b25_53, be_bkb]
    · rw [if_neg (nq 108 (by omega) (by omega) h2)]
      by_cases h3 : T p = 109
      · have hwr : bo_wr T p = bo_wd T (bo_L 1) p := by
          unfold bo_wr bo_wi
          rw [if_neg h1, if_neg (by omega : ¬ T p = 100), if_neg h2, if_pos h3]; rfl
        have hwk : bo_wk T p = 1 := (if_neg h1).trans ((if_neg h2).trans (if_pos h3))
        obtain ⟨e', g1, g2⟩ := key 1 1 4 4 [109, 105, 110, 100] (by omega) rfl (by decide) rfl (by omega) (by omega)
        rw [hwr, hwk, if_pos (show be_i (T p) = be_i 109 by rw [h3])]
        refine ⟨e', ?_, g2⟩
        rw [be_ck (by omega) (by omega) (by omega), be_ntN (by omega)]
        rw [show [.inr (50, 0), am_I (be_i 4), am_I (be_i 4)] = [.inr (50, 0), am_I (be_i ((4 : Nat) : Int)), am_I (be_i ((4 : Nat) : Int))] from rfl, g1, be_bi, am_b25_67, be_bkb]
      · have hwr : bo_wr T p = bo_wd T (bo_L 3) p := by
          unfold bo_wr bo_wi
          rw [if_neg h1]
          by_cases h4 : T p = 100
          · rw [if_pos h4]; rfl
          · rw [if_neg h4, if_neg h2, if_neg h3, if_pos rfl, show bo_L 3 = [100, 97, 121, 32] from rfl, bo_wd, if_neg h4]
        have hwk : bo_wk T p = 3 := (if_neg h1).trans ((if_neg h2).trans (if_neg h3))
        obtain ⟨e', g1, g2⟩ := key 3 3 12 3 [100, 97, 121] (by omega) rfl (by decide) rfl (by omega) (by omega)
        rw [hwr, hwk, if_neg (nq 109 (by omega) (by omega) h3)]
        refine ⟨e', ?_, g2⟩
        rw [be_ck (by omega) (by omega) (by omega), be_ntN (by omega)]
        rw [show [.inr (50, 0), am_I (be_i 12), am_I (be_i 3)] = [.inr (50, 0), am_I (be_i ((12 : Nat) : Int)), am_I (be_i ((3 : Nat) : Int))] from rfl, g1, be_bi, am_b25_97, be_bkb]
