/-! THE OFFICE, 3: the reference reads -/
variable {d : Nat} {X : am_X} {a : Nat → Nat → Nat → Int32} {b : Nat → Nat → Nat → Int64} {u : Nat → Nat} {e : Nat → Nat → Nat → Int32} {f : Nat → Nat → Nat → Int64}
def bo_at (g : Nat → Int) : Nat → List Int → Prop
  | _, [] => True
  | s, c :: r => g s = c ∧ bo_at g (s + 1) r
def bo_sk (g : Nat → Int) : List Int → Prop
  | [] => True
  | c :: r => g r.length = c ∧ bo_sk g r
theorem bo_atc {g g' : Nat → Int} : ∀ {l : List Int} {s : Nat}, (∀ j, s ≤ j → j < s + l.length → g' j = g j) → bo_at g s l → bo_at g' s l
  | [], _, _, _ => trivial
  | c :: r, s, h, hA => ⟨(h s (Nat.le_refl _) (by rw [List.length_cons]; omega)).trans hA.1, bo_atc (fun j h1 h2 => h j (by omega) (by rw [List.length_cons]; omega)) hA.2⟩
theorem bo_ata {g : Nat → Int} : ∀ {l l' : List Int} {s : Nat}, bo_at g s (l ++ l') ↔ bo_at g s l ∧ bo_at g (s + l.length) l'
  | [], l', s => ⟨fun h => ⟨trivial, h⟩, fun h => h.2⟩
  | c :: r, l', s => by
    rw [List.cons_append, bo_at, bo_at, bo_ata, List.length_cons, show s + (r.length + 1) = s + 1 + r.length by omega]
    exact and_assoc.symm
theorem bo_skc {g g' : Nat → Int} : ∀ {l : List Int}, (∀ j, j < l.length → g' j = g j) → bo_sk g l → bo_sk g' l
  | [], _, _ => trivial
  | c :: r, h, hA => ⟨(h _ (by rw [List.length_cons]; omega)).trans hA.1, bo_skc (fun j h1 => h j (by rw [List.length_cons]; omega)) hA.2⟩
/-- how many ! wait, and what waits ahead of them -/
def bo_nt : List Int → Nat
  | [] => 0
  | c :: r => if c = 33 then bo_nt r + 1 else 0
def bo_dr : List Int → List Int
  | [] => []
  | c :: r => if c = 33 then bo_dr r else c :: r
/-- the reference has the text -/
def bo_Y (e : Nat → Nat → Nat → Int32) (n : Nat) (T : Nat → Int) : Prop := bo_T n T ∧ be_g e 50 14 = (n : Int) ∧ ∀ k, k < n → be_g e 59 k = T k
/-- what it leaves -/
def bo_G (e0 e : Nat → Nat → Nat → Int32) (s0 x : Nat) : Prop := ∀ c j, (c = 50 ∧ (j = 15 ∨ j = 16 ∨ j = 25 ∨ j = 26 ∨ j = 27)) ∨ (c = 65 ∧ s0 ≤ j) ∨ c = 66 ∨ (c = 64 ∧ j = x) ∨ be_g e c j = be_g e0 c j
theorem bo_Ge {e0 : Nat → Nat → Nat → Int32} {s0 x c j : Nat} (h : bo_G e0 e s0 x) (h1 : ¬ ((c = 50 ∧ (j = 15 ∨ j = 16 ∨ j = 25 ∨ j = 26 ∨ j = 27)) ∨ (c = 65 ∧ s0 ≤ j) ∨ c = 66 ∨ (c = 64 ∧ j = x))) : be_g e c j = be_g e0 c j := by
  rcases h c j with h' | h' | h' | h' | h'
  · exact absurd (Or.inl h') h1
  · exact absurd (Or.inr (Or.inl h')) h1
  · exact absurd (Or.inr (Or.inr (Or.inl h'))) h1
  · exact absurd (Or.inr (Or.inr (Or.inr h'))) h1
  · exact h'
theorem bo_GY {e0 : Nat → Nat → Nat → Int32} {s0 x n : Nat} {T : Nat → Int} (h : bo_G e0 e s0 x) (hY : bo_Y e0 n T) : bo_Y e n T :=
  ⟨hY.1, (bo_Ge h (by omega)).trans hY.2.1, fun k hk => (bo_Ge h (by omega)).trans (hY.2.2 k hk)⟩
/-- where it stands -/
def bo_Cf (e0 e : Nat → Nat → Nat → Int32) (s0 x p : Nat) (cs st : List Int) (op : Int) : Prop :=
  bo_G e0 e s0 x ∧ be_g e 50 15 = (p : Int) ∧ be_g e 50 25 = ((s0 + cs.length : Nat) : Int) ∧ bo_at (be_g e 65) s0 cs ∧ be_g e 50 26 = (st.length : Int) ∧ bo_sk (be_g e 66) st ∧ be_g e 50 27 = op
theorem bo_gwn {c j c' j' : Nat} {x : Int32} (h : ¬ (c' = c ∧ j' = j)) : be_g (am_w3 e c 0 j x) c' j' = be_g e c' j' := by
  unfold be_g
  rw [be_w3n _ _ _ _ _ _ _ _ (fun q => h ⟨q.1, q.2.2⟩)]
theorem bo_gws {c j : Nat} {x : Int} (h1 : -2147483648 ≤ x) (h2 : x < 2147483648) : be_g (am_w3 e c 0 j (be_i x)) c j = x := by
  rw [be_gw _ _ _ _ _ h1 h2, if_pos ⟨rfl, rfl⟩]
theorem bo_Gw {e0 : Nat → Nat → Nat → Int32} {s0 x c j : Nat} {y : Int32} (h : bo_G e0 e s0 x) (hc : (c = 50 ∧ (j = 15 ∨ j = 16 ∨ j = 25 ∨ j = 26 ∨ j = 27)) ∨ (c = 65 ∧ s0 ≤ j) ∨ c = 66 ∨ (c = 64 ∧ j = x)) : bo_G e0 (am_w3 e c 0 j y) s0 x := fun c' j' => by
  by_cases hq : c' = c ∧ j' = j
  · obtain ⟨rfl, rfl⟩ := hq
    rcases hc with hc | hc | hc | hc
    · exact Or.inl hc
    · exact Or.inr (Or.inl hc)
    · exact Or.inr (Or.inr (Or.inl hc))
    · exact Or.inr (Or.inr (Or.inr (Or.inl hc)))
  · rw [bo_gwn hq]; exact h c' j'
variable {e0 : Nat → Nat → Nat → Int32} {s0 x p : Nat} {cs st : List Int} {op : Int}
theorem bo_emit {c : Int} (h : bo_Cf e0 e s0 x p cs st op) (h1 : -2147483648 ≤ c) (h2 : c < 2147483648) (h3 : s0 + cs.length < 600) : bo_Cf e0 (am_w3 (am_w3 e 65 0 (s0 + cs.length) (be_i c)) 50 0 25 (be_i (((s0 + cs.length : Nat) : Int) + 1))) s0 x p (cs ++ [c]) st op := by
  obtain ⟨q1, q2, q3, q4, q5, q6, q7⟩ := h
  refine ⟨bo_Gw (bo_Gw q1 (by omega)) (by omega), ?_, ?_, bo_ata.2 ⟨bo_atc (fun j _ h2 => ?_) q4, ?_, trivial⟩, ?_, bo_skc (fun j _ => ?_) q6, ?_⟩
  · rw [bo_gwn (by omega), bo_gwn (by omega)]; exact q2
  · rw [bo_gws (by omega) (by omega), List.length_append]; rfl
  · rw [bo_gwn (by omega), bo_gwn (by omega)]
  · rw [bo_gwn (by omega), bo_gws h1 h2]
  · rw [bo_gwn (by omega), bo_gwn (by omega)]; exact q5
  · rw [bo_gwn (by omega), bo_gwn (by omega)]
  · rw [bo_gwn (by omega), bo_gwn (by omega)]; exact q7
theorem bo_pop {c : Int} (h : bo_Cf e0 e s0 x p cs (c :: st) op) (h3 : st.length < 600) : bo_Cf e0 (am_w3 e 50 0 26 (be_i (st.length : Int))) s0 x p cs st op := by
  obtain ⟨q1, q2, q3, q4, q5, q6, q7⟩ := h
  refine ⟨bo_Gw q1 (by omega), ?_, ?_, bo_atc (fun j _ h2 => ?_) q4, ?_, bo_skc (fun j _ => ?_) q6.2, ?_⟩
  · rw [bo_gwn (by omega)]; exact q2
  · rw [bo_gwn (by omega)]; exact q3
  · rw [bo_gwn (by omega)]
  · rw [bo_gws (by omega) (by omega)]
  · rw [bo_gwn (by omega)]
  · rw [bo_gwn (by omega)]; exact q7
theorem bo_psh {c : Int} (h : bo_Cf e0 e s0 x p cs st op) (h1 : -2147483648 ≤ c) (h2 : c < 2147483648) (h3 : st.length < 600) : bo_Cf e0 (am_w3 (am_w3 e 66 0 st.length (be_i c)) 50 0 26 (be_i ((st.length : Int) + 1))) s0 x p cs (c :: st) op := by
  obtain ⟨q1, q2, q3, q4, q5, q6, q7⟩ := h
  refine ⟨bo_Gw (bo_Gw q1 (by omega)) (by omega), ?_, ?_, bo_atc (fun j _ h2 => ?_) q4, ?_, ⟨?_, bo_skc (fun j _ => ?_) q6⟩, ?_⟩
  · rw [bo_gwn (by omega), bo_gwn (by omega)]; exact q2
  · rw [bo_gwn (by omega), bo_gwn (by omega)]; exact q3
  · rw [bo_gwn (by omega), bo_gwn (by omega)]
  · rw [bo_gws (by omega) (by omega), List.length_cons]; rfl
  · rw [bo_gwn (by omega), bo_gws h1 h2]
  · rw [bo_gwn (by omega), bo_gwn (by omega)]
  · rw [bo_gwn (by omega), bo_gwn (by omega)]; exact q7
theorem bo_opn {o' : Int} (h : bo_Cf e0 e s0 x p cs st op) (h1 : -2147483648 ≤ o') (h2 : o' < 2147483648) : bo_Cf e0 (am_w3 e 50 0 27 (be_i o')) s0 x p cs st o' := by
  obtain ⟨q1, q2, q3, q4, q5, q6, q7⟩ := h
  refine ⟨bo_Gw q1 (by omega), ?_, ?_, bo_atc (fun j _ h2 => ?_) q4, ?_, bo_skc (fun j _ => ?_) q6, bo_gws h1 h2⟩
  · rw [bo_gwn (by omega)]; exact q2
  · rw [bo_gwn (by omega)]; exact q3
  · rw [bo_gwn (by omega)]
  · rw [bo_gwn (by omega)]; exact q5
  · rw [bo_gwn (by omega)]
theorem bo_av (h : bo_Cf e0 e s0 x p cs st op) (hp : p < 600) : bo_Cf e0 (am_w3 e 50 0 15 (be_i ((p : Int) + 1))) s0 x (p + 1) cs st op := by
  obtain ⟨q1, q2, q3, q4, q5, q6, q7⟩ := h
  refine ⟨bo_Gw q1 (by omega), bo_gws (by omega) (by omega), ?_, bo_atc (fun j _ h2 => ?_) q4, ?_, bo_skc (fun j _ => ?_) q6, ?_⟩
  · rw [bo_gwn (by omega)]; exact q3
  · rw [bo_gwn (by omega)]
  · rw [bo_gwn (by omega)]; exact q5
  · rw [bo_gwn (by omega)]
  · rw [bo_gwn (by omega)]; exact q7
theorem bo_nm {y : Int32} (h : bo_Cf e0 e s0 x p cs st op) : bo_Cf e0 (am_w3 e 50 0 16 y) s0 x p cs st op := by
  obtain ⟨q1, q2, q3, q4, q5, q6, q7⟩ := h
  refine ⟨bo_Gw q1 (by omega), ?_, ?_, bo_atc (fun j _ h2 => ?_) q4, ?_, bo_skc (fun j _ => ?_) q6, ?_⟩
  · rw [bo_gwn (by omega)]; exact q2
  · rw [bo_gwn (by omega)]; exact q3
  · rw [bo_gwn (by omega)]
  · rw [bo_gwn (by omega)]; exact q5
  · rw [bo_gwn (by omega)]
  · rw [bo_gwn (by omega)]; exact q7
theorem bo_to {y : Int32} (h : bo_Cf e0 e s0 x p cs st op) : bo_Cf e0 (am_w3 e 64 0 x y) s0 x p cs st op := by
  obtain ⟨q1, q2, q3, q4, q5, q6, q7⟩ := h
  refine ⟨bo_Gw q1 (by omega), ?_, ?_, bo_atc (fun j _ h2 => ?_) q4, ?_, bo_skc (fun j _ => ?_) q6, ?_⟩
  · rw [bo_gwn (by omega)]; exact q2
  · rw [bo_gwn (by omega)]; exact q3
  · rw [bo_gwn (by omega)]
  · rw [bo_gwn (by omega)]; exact q5
  · rw [bo_gwn (by omega)]
  · rw [bo_gwn (by omega)]; exact q7
/-! signs and numbers -/
theorem bo_e {c j : Nat} {y : Int} (h : be_g e c j = y) : e c 0 j = be_i y := (be_gI e c j).trans (by rw [h])
theorem bo_14 (hd : 1 ≤ d) {n q : Nat} {T : Nat → Int} (hY : bo_Y e n T) (hq : be_g e 50 15 = (q : Int)) (hqn : q ≤ n) : am_sem X d 14 [.inr (50, 0)] (am_sd a b u e f) = some (some (am_I (be_i (T q))), (am_sd a b u e f)) := by
  obtain ⟨d, rfl⟩ : ∃ q, d = q + 1 := ⟨d - 1, by omega⟩
  have hn := hY.1.1
  rw [am_s14, bo_e hY.2.1, bo_e hq]
  by_cases hl : q < n
  · rw [if_neg (by rw [be_le (by omega) (by omega) (by omega) (by omega)]; omega), be_ck (by omega) (by omega) (by omega), be_ntN (by omega), bo_e (hY.2.2 q hl)]
  · rw [if_pos (by rw [be_le (by omega) (by omega) (by omega) (by omega)]; omega), hY.1.2.2 q (by omega)]
theorem bo_15y (hd : 2 ≤ d) {n q : Nat} {T : Nat → Int} (hY : bo_Y e n T) (hq : be_g e 50 15 = (q : Int)) (hqn : q ≤ n) {y : Int} (hy : T q = y) : am_sem X d 15 [.inr (50, 0), am_I (be_i (y))] (am_sd a b u e f) = some (some (am_I (be_i 1)), am_sd a b u (am_w3 e 50 0 15 (be_i ((q : Int) + 1))) f) := by
  obtain ⟨d, rfl⟩ : ∃ q, d = q + 1 := ⟨d - 1, by omega⟩
  rw [am_s15, bo_14 (by omega) hY hq hqn, be_bi, am_b15_4, hy, if_pos rfl, bo_e hq, be_add]
theorem bo_15n (hd : 2 ≤ d) {n q : Nat} {T : Nat → Int} (hY : bo_Y e n T) (hq : be_g e 50 15 = (q : Int)) (hqn : q ≤ n) {y : Int} (h1 : 0 ≤ y) (h2 : y ≤ 127) (hy : T q ≠ y) : am_sem X d 15 [.inr (50, 0), am_I (be_i (y))] (am_sd a b u e f) = some (some (am_I (be_i (0))), (am_sd a b u e f)) := by
  obtain ⟨d, rfl⟩ : ∃ q, d = q + 1 := ⟨d - 1, by omega⟩
  have hR := bo_TR hY.1 q
  rw [am_s15, bo_14 (by omega) hY hq hqn, be_bi, am_b15_4, if_neg (by rw [be_eq (by omega) (by omega) (by omega) (by omega)]; exact hy)]
theorem bo_17 (hd : 2 ≤ d) {n q : Nat} {T : Nat → Int} (hY : bo_Y e n T) (hq : be_g e 50 15 = (q : Int)) (hqn : q ≤ n) : am_sem X d 17 [.inr (50, 0)] (am_sd a b u e f) = some (some (am_I (be_i (be_b (decide (48 ≤ T q ∧ T q ≤ 57))))), (am_sd a b u e f)) := by
  obtain ⟨d, rfl⟩ : ∃ q, d = q + 1 := ⟨d - 1, by omega⟩
  have hR := bo_TR hY.1 q
  rw [am_s17, bo_14 (by omega) hY hq hqn, be_bi, am_b17_5, be_m1 (X := X) (a := a) (b := b) (u := u) (e := e) (f := f) (d := d) (by omega) (by omega) (by omega) (by omega) (by omega) (by omega) (by omega), be_bi, am_b17_12, be_bkb]
theorem bo_18n (hd : 3 ≤ d) {n q : Nat} {T : Nat → Int} (hY : bo_Y e n T) (hq : be_g e 50 15 = (q : Int)) (hqn : q ≤ n) (hx : ¬ bo_dg (T q)) : am_sem X d 18 [.inr (50, 0)] (am_sd a b u e f) = some (some (am_I (be_i (0))), (am_sd a b u e f)) := by
  obtain ⟨d, rfl⟩ : ∃ q, d = q + 1 := ⟨d - 1, by omega⟩
  unfold bo_dg at hx
  rw [am_s18, bo_17 (by omega) hY hq hqn, decide_eq_false hx, be_bi, am_b18_4, if_neg (by decide)]
theorem bo_Yw {n : Nat} {T : Nat → Int} {c j : Nat} {y : Int32} (hY : bo_Y e n T) (hc : ¬ (c = 50 ∧ j = 14) ∧ c ≠ 59) : bo_Y (am_w3 e c 0 j y) n T :=
  ⟨hY.1, (bo_gwn (by omega)).trans hY.2.1, fun k hk => (bo_gwn (by omega)).trans (hY.2.2 k hk)⟩
theorem bo_18 (hd : 3 ≤ d) {n q : Nat} {T : Nat → Int} (hY : bo_Y e n T) (hq : be_g e 50 15 = (q : Int)) (hqn : q ≤ n) (hx : bo_dg (T q)) : ∃ e', am_sem X d 18 [.inr (50, 0)] (am_sd a b u e f) = some (some (am_I (be_i 1)), am_sd a b u e' f) ∧ be_g e' 50 16 = bo_nv T q ∧ be_g e' 50 15 = (bo_np T q : Int) ∧ bo_np T q ≤ n ∧ (∀ c j, ¬ (c = 50 ∧ (j = 15 ∨ j = 16)) → be_g e' c j = be_g e c j) ∧
    (∀ {e0 : Nat → Nat → Nat → Int32} {s0 x : Nat} {cs st : List Int} {op : Int}, bo_Cf e0 e s0 x q cs st op → bo_Cf e0 e' s0 x (bo_np T q) cs st op) := by
  obtain ⟨d, rfl⟩ : ∃ q, d = q + 1 := ⟨d - 1, by omega⟩
  have hx' := hx
  unfold bo_dg at hx'
  have hn := hY.1.1
  have hl := bo_Tn hY.1 (k := q) (by omega)
  have hR' := bo_TR hY.1 (q + 1)
  have s1 : am_sem X (d + 1) 18 [.inr (50, 0)] (am_sd a b u e f) = am_fix (am_sem X d) X am_P18 16 [.inr (50, 0), am_I (be_i (1))] [] (am_sd a b u (am_w3 (am_w3 (am_w3 e 50 0 16 (be_i 0)) 50 0 16 (be_i (T q - 48))) 50 0 15 (be_i ((q : Int) + 1))) f) := by
    have hq1 : be_g (am_w3 e 50 0 16 (be_i 0)) 50 15 = (q : Int) := by rw [bo_gwn (by omega)]; exact hq
    rw [am_s18, bo_17 (by omega) hY hq hqn, decide_eq_true hx', be_bi, am_b18_4, if_pos (by decide), am_b18_16, if_neg (by decide), bo_17 (by omega) (bo_Yw hY (by omega)) hq1 hqn, decide_eq_true hx', be_bi, am_b18_25, if_neg (by decide), bo_14 (by omega) (bo_Yw hY (by omega)) hq1 hqn, be_bi, am_b18_40, bo_e hq1, bo_e (bo_gws (by omega) (by omega))]
    simp only [be_mul, be_add, be_sub]
    rw [show (10 * 0 + T q - 48 : Int) = T q - 48 by omega, show (0 + 1 : Int) = 1 by omega]
  have hY1 : bo_Y (am_w3 (am_w3 (am_w3 e 50 0 16 (be_i 0)) 50 0 16 (be_i (T q - 48))) 50 0 15 (be_i ((q : Int) + 1))) n T := bo_Yw (bo_Yw (bo_Yw hY (by omega)) (by omega)) (by omega)
  have hq1 : be_g (am_w3 (am_w3 (am_w3 e 50 0 16 (be_i 0)) 50 0 16 (be_i (T q - 48))) 50 0 15 (be_i ((q : Int) + 1))) 50 15 = ((q + 1 : Nat) : Int) := bo_gws (by omega) (by omega)
  have hv1 : be_g (am_w3 (am_w3 (am_w3 e 50 0 16 (be_i 0)) 50 0 16 (be_i (T q - 48))) 50 0 15 (be_i ((q : Int) + 1))) 50 16 = T q - 48 := by rw [bo_gwn (by omega), bo_gws (by omega) (by omega)]
  by_cases hy : 48 ≤ T (q + 1) ∧ T (q + 1) ≤ 57
  · have hl' := bo_Tn hY.1 (k := q + 1) (by omega)
    refine ⟨am_w3 (am_w3 (am_w3 (am_w3 (am_w3 e 50 0 16 (be_i 0)) 50 0 16 (be_i (T q - 48))) 50 0 15 (be_i ((q : Int) + 1))) 50 0 16 (be_i (10 * (T q - 48) + T (q + 1) - 48))) 50 0 15 (be_i (((q + 1 : Nat) : Int) + 1)), ?_, ?_, ?_, ?_, fun c j hc => ?_, fun hC => ?_⟩
    · rw [s1, am_b18_16, if_neg (by decide), bo_17 (by omega) hY1 hq1 hl, decide_eq_true hy, be_bi, am_b18_25, if_neg (by decide), bo_14 (by omega) hY1 hq1 hl, be_bi, am_b18_40, bo_e hq1, bo_e hv1]
      simp only [be_mul, be_add, be_sub]
      rw [am_b18_16, if_pos (by decide)]
    · unfold bo_nv
      rw [if_pos hy, bo_gwn (by omega), bo_gws (by omega) (by omega)]; omega
    · unfold bo_np
      rw [if_pos hy, bo_gws (by omega) (by omega)]; omega
    · unfold bo_np; rw [if_pos hy]; omega
    · rw [bo_gwn (by omega), bo_gwn (by omega), bo_gwn (by omega), bo_gwn (by omega), bo_gwn (by omega)]
    · unfold bo_np
      rw [if_pos hy]
      exact bo_av (bo_nm (bo_av (bo_nm (bo_nm hC)) (by omega))) (by omega)
  · refine ⟨am_w3 (am_w3 (am_w3 e 50 0 16 (be_i 0)) 50 0 16 (be_i (T q - 48))) 50 0 15 (be_i ((q : Int) + 1)), ?_, ?_, ?_, ?_, fun c j hc => ?_, fun hC => ?_⟩
    · rw [s1, am_b18_16, if_neg (by decide), bo_17 (by omega) hY1 hq1 hl, decide_eq_false hy, be_bi, am_b18_25, if_pos (by decide)]
    · unfold bo_nv
      rw [if_neg hy]; exact hv1
    · unfold bo_np
      rw [if_neg hy]; exact hq1
    · unfold bo_np; rw [if_neg hy]; omega
    · rw [bo_gwn (by omega), bo_gwn (by omega), bo_gwn (by omega)]
    · unfold bo_np
      rw [if_neg hy]
      exact bo_av (bo_nm (bo_nm hC)) (by omega)
/-! what waits -/
theorem bo_19 (hd : 1 ≤ d) {c : Int} (h : bo_Cf e0 e s0 x p cs st op) (h1 : -2147483648 ≤ c) (h2 : c < 2147483648) (h3 : s0 + cs.length < 600) : ∃ e', am_sem X d 19 [.inr (50, 0), am_I (be_i (c))] (am_sd a b u e f) = some (none, am_sd a b u e' f) ∧ bo_Cf e0 e' s0 x p (cs ++ [c]) st op := by
  obtain ⟨d, rfl⟩ : ∃ q, d = q + 1 := ⟨d - 1, by omega⟩
  refine ⟨_, ?_, bo_emit h h1 h2 h3⟩
  rw [am_s19, bo_e h.2.2.1, be_ck (by omega) (by omega) (by omega), be_ntN (by omega), be_add]
theorem bo_20 : ∀ (st cs : List Int) (op : Int) (e : Nat → Nat → Nat → Int32), bo_Cf e0 e s0 x p cs st op → s0 + cs.length + st.length ≤ 600 → st.length ≤ 100 → (st.length : Int) - 500 ≤ op → op ≤ 4 → ∃ e', am_fix (am_sem X (d + 1)) X am_P20 0 [.inr (50, 0)] [] (am_sd a b u e f) = some (none, am_sd a b u e' f) ∧ bo_Cf e0 e' s0 x p (cs ++ List.replicate (bo_nt st) (-33)) (bo_dr st) (op - (bo_nt st : Int)) := by
  intro st
  induction st with
  | nil =>
    intro cs op e h _ _ _ _
    refine ⟨e, ?_, ?_⟩
    · rw [am_b20_0, bo_e h.2.2.2.2.1, if_pos (by decide)]
    · rw [bo_nt, bo_dr, List.replicate_zero, List.append_nil, show op - ((0 : Nat) : Int) = op by omega]; exact h
  | cons c st ih =>
    intro cs op e h h3 h4 ho1 ho2
    rw [List.length_cons] at h3 h4 ho1
    have h26 := h.2.2.2.2.1
    rw [List.length_cons] at h26
    have h66 := h.2.2.2.2.2.1.1
    have hc0 : -2147483648 ≤ c ∧ c < 2147483648 := by rw [← h66]; exact be_gB _ _ _
    have head : ∀ r : am_R, am_ck (be_i ((st.length + 1 : Nat) : Int) - be_i 1) 101 r = r := fun r => by rw [be_sub, be_ck (by omega) (by omega) (by omega)]
    have hnt : (be_i ((st.length + 1 : Nat) : Int) - be_i 1).toNatClampNeg = st.length := by rw [be_sub, show ((st.length + 1 : Nat) : Int) - 1 = (st.length : Int) by omega, be_ntN (by omega)]
    by_cases hc : c = 33
    · subst hc
      obtain ⟨e1, g1, g2⟩ := bo_19 (X := X) (a := a) (b := b) (u := u) (e := e) (f := f) (d := d + 1) (by omega) (c := -33) h (by omega) (by omega) (by omega)
      have k1 : be_g e1 50 26 = ((st.length + 1 : Nat) : Int) := g2.2.2.2.2.1
      have k2 : be_g e1 50 27 = op := g2.2.2.2.2.2.2
      have g3 := bo_opn (bo_pop g2 (by omega)) (o' := op - 1) (by omega) (by omega)
      have key : am_fix (am_sem X (d + 1)) X am_P20 0 [.inr (50, 0)] [] (am_sd a b u e f) = am_fix (am_sem X (d + 1)) X am_P20 0 [.inr (50, 0)] [] (am_sd a b u (am_w3 (am_w3 e1 50 0 26 (be_i (st.length : Int))) 50 0 27 (be_i (op - 1))) f) := by
        rw [am_b20_0, bo_e h26, if_neg (by rw [be_0, be_le (by omega) (by omega) (by omega) (by omega)]; omega), head, hnt, bo_e h66, if_neg (fun h => h rfl), g1, be_bv, am_b20_29, bo_e k1, bo_e k2, be_sub, be_sub, show ((st.length + 1 : Nat) : Int) - 1 = (st.length : Int) by omega]
      obtain ⟨e', j1, j2⟩ := ih (cs ++ [-33]) (op - 1) _ g3 (by rw [List.length_append]; simp only [List.length_cons, List.length_nil]; omega) (by omega) (by omega) (by omega)
      refine ⟨e', key.trans j1, ?_⟩
      rw [bo_nt, if_pos rfl, bo_dr, if_pos rfl, List.replicate_succ]
      rw [List.append_assoc, List.singleton_append] at j2
      rw [show op - ((bo_nt st + 1 : Nat) : Int) = op - 1 - (bo_nt st : Int) by omega]
      exact j2
    · refine ⟨e, ?_, ?_⟩
      · rw [am_b20_0, bo_e h26, if_neg (by rw [be_0, be_le (by omega) (by omega) (by omega) (by omega)]; omega), head, hnt, bo_e h66, if_pos (by rw [be_eq (by omega) (by omega) (by omega) (by omega)]; exact hc)]
      · rw [bo_nt, if_neg hc, bo_dr, if_neg hc, List.replicate_zero, List.append_nil, show op - ((0 : Nat) : Int) = op by omega]; exact h
