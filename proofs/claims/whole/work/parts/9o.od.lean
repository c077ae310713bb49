/-! THE OFFICE, 4: the reference's steps -/
variable {d : Nat} {X : am_X} {a : Nat → Nat → Nat → Int32} {b : Nat → Nat → Nat → Int64} {u : Nat → Nat} {e : Nat → Nat → Nat → Int32} {f : Nat → Nat → Nat → Int64}
variable {e0 : Nat → Nat → Nat → Int32} {s0 x p n : Nat} {cs st : List Int} {op : Int} {T : Nat → Int}
theorem bo_ix5 (y : Int) : bo_ix 5 y = if y < 0 then -1 else if 104 = y then 0 else if 114 = y then 1 else if 107 = y then 2 else if 118 = y then 3 else if 112 = y then 4 else if 115 = y then 5 else -1 := rfl
theorem bo_ix6 (y : Int) : bo_ix 6 y = if y < 0 then -1 else if 60 = y then 0 else if 61 = y then 1 else if 62 = y then 2 else -1 := rfl
theorem bo_ix6b (y : Int) : (0 ≤ bo_ix 6 y) = (60 ≤ y ∧ y ≤ 62) := by
  rw [bo_ix6]
  apply propext
  (repeat' split) <;> omega
theorem bo_ix6v {y : Int} (h : 0 ≤ bo_ix 6 y) : bo_ix 6 y = y - 60 := by
  rw [bo_ix6b] at h
  rw [bo_ix6]
  (repeat' split) <;> omega
theorem bo_ix5R (y : Int) : -1 ≤ bo_ix 5 y ∧ bo_ix 5 y ≤ 5 := by
  rw [bo_ix5]
  (repeat' split) <;> omega
theorem bo_22 (hd : 1 ≤ d) {y : Int} (h1 : -1 ≤ y) (h2 : y ≤ 127) : am_sem X d 22 [.inr (50, 0), am_I (be_i (y))] (am_sd a b u e f) = some (some (am_I (be_i (bo_ix 5 y))), (am_sd a b u e f)) := by
  obtain ⟨d, rfl⟩ : ∃ q, d = q + 1 := ⟨d - 1, by omega⟩
  rw [am_s22]
  by_cases h104 : y = 104
  · subst h104; rfl
  rw [if_neg (by rw [be_eq (by omega) (by omega) (by omega) (by omega)]; exact h104)]
  by_cases h105 : y = 105
  · subst h105; rfl
  rw [if_neg (by rw [be_eq (by omega) (by omega) (by omega) (by omega)]; exact h105)]
  by_cases h106 : y = 106
  · subst h106; rfl
  rw [if_neg (by rw [be_eq (by omega) (by omega) (by omega) (by omega)]; exact h106)]
  by_cases h107 : y = 107
  · subst h107; rfl
  rw [if_neg (by rw [be_eq (by omega) (by omega) (by omega) (by omega)]; exact h107)]
  by_cases h108 : y = 108
  · subst h108; rfl
  rw [if_neg (by rw [be_eq (by omega) (by omega) (by omega) (by omega)]; exact h108)]
  by_cases h109 : y = 109
  · subst h109; rfl
  rw [if_neg (by rw [be_eq (by omega) (by omega) (by omega) (by omega)]; exact h109)]
  by_cases h110 : y = 110
  · subst h110; rfl
  rw [if_neg (by rw [be_eq (by omega) (by omega) (by omega) (by omega)]; exact h110)]
  by_cases h111 : y = 111
  · subst h111; rfl
  rw [if_neg (by rw [be_eq (by omega) (by omega) (by omega) (by omega)]; exact h111)]
  by_cases h112 : y = 112
  · subst h112; rfl
  rw [if_neg (by rw [be_eq (by omega) (by omega) (by omega) (by omega)]; exact h112)]
  by_cases h113 : y = 113
  · subst h113; rfl
  rw [if_neg (by rw [be_eq (by omega) (by omega) (by omega) (by omega)]; exact h113)]
  by_cases h114 : y = 114
  · subst h114; rfl
  rw [if_neg (by rw [be_eq (by omega) (by omega) (by omega) (by omega)]; exact h114)]
  by_cases h115 : y = 115
  · subst h115; rfl
  rw [if_neg (by rw [be_eq (by omega) (by omega) (by omega) (by omega)]; exact h115)]
  by_cases h116 : y = 116
  · subst h116; rfl
  rw [if_neg (by rw [be_eq (by omega) (by omega) (by omega) (by omega)]; exact h116)]
  by_cases h117 : y = 117
  · subst h117; rfl
  rw [if_neg (by rw [be_eq (by omega) (by omega) (by omega) (by omega)]; exact h117)]
  by_cases h118 : y = 118
  · subst h118; rfl
  rw [if_neg (by rw [be_eq (by omega) (by omega) (by omega) (by omega)]; exact h118)]
  have hz : bo_ix 5 y = -1 := by
    rw [bo_ix5]
    (repeat' split) <;> omega
  rw [hz]
def bo_tv (T : Nat → Int) (p : Nat) : Int := 1000 * bo_ix 5 (T p) + 100 * bo_ix 6 (T (p + 1)) + bo_nv T (p + 2)
/-- a test that stands -/
theorem bo_23 (hd : 6 ≤ d) (hY : bo_Y e0 n T) (h : bo_Cf e0 e s0 x p cs st op) (hpn : p ≤ n) (hq : s0 + cs.length + st.length ≤ 500 + p) (hst : st.length ≤ p) (ho0 : 0 ≤ op) (ho4 : op ≤ 4) (t1 : 0 ≤ bo_ix 5 (T p)) (t2 : 0 ≤ bo_ix 6 (T (p + 1))) (t3 : bo_dg (T (p + 2))) :
    ∃ e', am_sem X d 23 [.inr (50, 0)] (am_sd a b u e f) = some (some (am_I (be_i 1)), am_sd a b u e' f) ∧ bo_Cf e0 e' s0 x (bo_np T (p + 2)) (cs ++ [bo_tv T p] ++ List.replicate (bo_nt st) (-33)) (bo_dr st) (op - (bo_nt st : Int)) := by
  obtain ⟨d, rfl⟩ : ∃ q, d = q + 3 := ⟨d - 3, by omega⟩
  have hn := hY.1.1
  have hT0 := bo_TR hY.1 p
  have hT1 := bo_TR hY.1 (p + 1)
  have hT2 := bo_TR hY.1 (p + 2)
  have i5 := bo_ix5R (T p)
  have t2' := t2
  rw [bo_ix6b] at t2'
  have t3' := t3
  unfold bo_dg at t3'
  have l0 : p < n := bo_Tn hY.1 (by rw [bo_ix5] at t1; split at t1 <;> omega)
  have l1 : p + 1 < n := bo_Tn hY.1 (by omega)
  have l2 : p + 2 < n := bo_Tn hY.1 (by omega)
  have a1 := bo_av h (by omega)
  have a2 := bo_av a1 (by omega)
  obtain ⟨e3, g1, g2, g3, g4, -, g5⟩ := bo_18 (X := X) (a := a) (b := b) (u := u) (f := f) (d := d + 2) (by omega) (bo_GY a2.1 hY) a2.2.1 (by omega) t3
  have a3 := g5 a2
  have nR := bo_nR t3
  have hlen : (cs ++ [bo_tv T p]).length = cs.length + 1 := by rw [List.length_append]; rfl
  obtain ⟨e4, k1, k2⟩ := bo_19 (X := X) (a := a) (b := b) (u := u) (f := f) (d := d + 2) (by omega) (c := bo_tv T p) a3 (by unfold bo_tv; rw [bo_ix6v t2]; omega) (by unfold bo_tv; rw [bo_ix6v t2]; omega) (by omega)
  obtain ⟨e5, m1, m2⟩ := bo_20 (X := X) (a := a) (b := b) (u := u) (f := f) (d := d) st (cs ++ [bo_tv T p]) op e4 k2 (by rw [hlen]; omega) (by omega) (by omega) ho4
  refine ⟨e5, ?_, m2⟩
  have m1' : am_sem X (d + 2) 20 [.inr (50, 0)] (am_sd a b u e4 f) = some (none, am_sd a b u e5 f) := by
    rw [am_s20, ← am_b20_0 (Γ := am_sem X (d + 1))]; exact m1
  rw [am_s23, bo_14 (by omega) (bo_GY h.1 hY) h.2.1 hpn, be_bi, am_b23_5, bo_22 (by omega) hT0.1 hT0.2, be_bi, am_b23_8, if_pos (by rw [be_0, be_le (by omega) (by omega) (by omega) (by omega)]; exact t1), bo_e h.2.1, be_add, bo_14 (by omega) (bo_GY a1.1 hY) a1.2.1 (by omega), be_bi, am_b23_29, be_m1 (x := T (p + 1)) (y := 60) (z := 62) (by omega) (by omega) (by omega) (by omega) (by omega) (by omega) (by omega), be_bi, am_b23_39, decide_eq_true t2', if_pos (by decide), bo_e a1.2.1, be_add, g1, be_bi, am_b23_58, if_pos (by decide), bo_e g2, be_mul, be_sub, be_mul, be_add, be_add]
  rw [show 1000 * bo_ix 5 (T p) + 100 * (T (p + 1) - 60) + bo_nv T (p + 2) = bo_tv T p by unfold bo_tv; rw [bo_ix6v t2], k1, be_bv, am_b23_85, m1', be_bv, am_b23_89]
/-- a test that does not: where -/
theorem bo_23n (hd : 6 ≤ d) (hY : bo_Y e0 n T) (h : bo_Cf e0 e s0 x p cs st op) (hpn : p ≤ n) {q : Nat} (hq : (q = p ∧ bo_ix 5 (T p) < 0) ∨ (q = p + 1 ∧ 0 ≤ bo_ix 5 (T p) ∧ bo_ix 6 (T (p + 1)) < 0) ∨ (q = p + 2 ∧ 0 ≤ bo_ix 5 (T p) ∧ 0 ≤ bo_ix 6 (T (p + 1)) ∧ ¬ bo_dg (T (p + 2)))) :
    ∃ e', am_sem X d 23 [.inr (50, 0)] (am_sd a b u e f) = some (some (am_I (be_i 0)), am_sd a b u e' f) ∧ be_g e' 50 15 = (q : Int) ∧ bo_G e0 e' s0 x := by
  obtain ⟨d, rfl⟩ : ∃ q, d = q + 3 := ⟨d - 3, by omega⟩
  have hn := hY.1.1
  have hT0 := bo_TR hY.1 p
  have hT1 := bo_TR hY.1 (p + 1)
  have i5 := bo_ix5R (T p)
  by_cases t1 : bo_ix 5 (T p) < 0
  · obtain rfl : q = p := by omega
    refine ⟨e, ?_, h.2.1, h.1⟩
    rw [am_s23, bo_14 (by omega) (bo_GY h.1 hY) h.2.1 hpn, be_bi, am_b23_5, bo_22 (by omega) hT0.1 hT0.2, be_bi, am_b23_8, if_neg (by rw [be_0, be_le (by omega) (by omega) (by omega) (by omega)]; omega)]
  · have l0 : p < n := bo_Tn hY.1 (by rw [bo_ix5] at t1; split at t1 <;> omega)
    have a1 := bo_av h (by omega)
    by_cases t2 : bo_ix 6 (T (p + 1)) < 0
    · obtain rfl : q = p + 1 := by omega
      refine ⟨_, ?_, a1.2.1, a1.1⟩
      have t2' : ¬ (60 ≤ T (p + 1) ∧ T (p + 1) ≤ 62) := by rw [← bo_ix6b]; omega
      rw [am_s23, bo_14 (by omega) (bo_GY h.1 hY) h.2.1 hpn, be_bi, am_b23_5, bo_22 (by omega) hT0.1 hT0.2, be_bi, am_b23_8, if_pos (by rw [be_0, be_le (by omega) (by omega) (by omega) (by omega)]; omega), bo_e h.2.1, be_add, bo_14 (by omega) (bo_GY a1.1 hY) a1.2.1 (by omega), be_bi, am_b23_29, be_m1 (x := T (p + 1)) (y := 60) (z := 62) (by omega) (by omega) (by omega) (by omega) (by omega) (by omega) (by omega), be_bi, am_b23_39, decide_eq_false t2', if_neg (by decide)]
    · obtain ⟨rfl, t3⟩ : q = p + 2 ∧ ¬ bo_dg (T (p + 2)) := by
        rcases hq with h' | h' | ⟨h1, -, -, h4⟩
        · omega
        · omega
        · exact ⟨h1, h4⟩
      have t2' : 60 ≤ T (p + 1) ∧ T (p + 1) ≤ 62 := by rw [← bo_ix6b]; omega
      have l1 : p + 1 < n := bo_Tn hY.1 (by omega)
      have a2 := bo_av a1 (by omega)
      refine ⟨_, ?_, a2.2.1, a2.1⟩
      rw [am_s23, bo_14 (by omega) (bo_GY h.1 hY) h.2.1 hpn, be_bi, am_b23_5, bo_22 (by omega) hT0.1 hT0.2, be_bi, am_b23_8, if_pos (by rw [be_0, be_le (by omega) (by omega) (by omega) (by omega)]; omega), bo_e h.2.1, be_add, bo_14 (by omega) (bo_GY a1.1 hY) a1.2.1 (by omega), be_bi, am_b23_29, be_m1 (x := T (p + 1)) (y := 60) (z := 62) (by omega) (by omega) (by omega) (by omega) (by omega) (by omega) (by omega), be_bi, am_b23_39, decide_eq_true t2', if_pos (by decide), bo_e a1.2.1, be_add, bo_18n (by omega) (bo_GY a2.1 hY) a2.2.1 (by omega) t3, be_bi, am_b23_58, if_neg (by decide)]
/-! settling -/
theorem bo_21 {y : Int32} : am_sem X (d + 1) 21 [.inr (50, 0), am_I y] (am_sd a b u e f) = am_fix (am_sem X d) X am_P21 0 [.inr (50, 0), am_I y] [] (am_sd a b u e f) := by rw [am_s21, am_b21_0]
theorem bo_21a {y c : Int} (hy : -2147483648 ≤ y ∧ y < 2147483648) (hc : c = 38 ∨ (c = 124 ∧ y ≠ 38)) (h : bo_Cf e0 e s0 x p cs (c :: st) op) (h3 : s0 + cs.length < 600) (h4 : st.length < 100) : ∃ e', am_fix (am_sem X (d + 1)) X am_P21 0 [.inr (50, 0), am_I (be_i (y))] [] (am_sd a b u e f) = am_fix (am_sem X (d + 1)) X am_P21 0 [.inr (50, 0), am_I (be_i (y))] [] (am_sd a b u e' f) ∧ bo_Cf e0 e' s0 x p (cs ++ [-c]) st op := by
  have h26 := h.2.2.2.2.1
  rw [List.length_cons] at h26
  have h66 := h.2.2.2.2.2.1.1
  have head : ∀ r : am_R, am_ck (be_i ((st.length + 1 : Nat) : Int) - be_i 1) 101 r = r := fun r => by rw [be_sub, be_ck (by omega) (by omega) (by omega)]
  have hnt : (be_i ((st.length + 1 : Nat) : Int) - be_i 1).toNatClampNeg = st.length := by rw [be_sub, show ((st.length + 1 : Nat) : Int) - 1 = (st.length : Int) by omega, be_ntN (by omega)]
  have hs : be_i ((st.length + 1 : Nat) : Int) - be_i 1 = be_i (st.length : Int) := by rw [be_sub, show ((st.length + 1 : Nat) : Int) - 1 = (st.length : Int) by omega]
  obtain ⟨e1, g1, g2⟩ := bo_19 (X := X) (a := a) (b := b) (u := u) (f := f) (d := d + 1) (by omega) (c := -c) (bo_pop h (by omega)) (by omega) (by omega) h3
  refine ⟨e1, ?_, g2⟩
  rw [am_b21_0, bo_e h26, if_neg (by rw [be_0, be_le (by omega) (by omega) (by omega) (by omega)]; omega), head, hnt, bo_e h66, be_neg]
  rcases hc with rfl | ⟨rfl, hy2⟩
  · rw [if_pos rfl, head, hs, g1, be_bv, am_b21_69]
  · rw [if_neg (by decide), head, if_neg (fun h => h rfl), if_neg (by rw [be_eq (by omega) (by omega) (by omega) (by omega)]; exact hy2), head, hs, g1, be_bv, am_b21_69]
theorem bo_21z {Γ : Nat → List am_V → am_S → am_R} {y : Int} (hy : -2147483648 ≤ y ∧ y < 2147483648) (h : bo_Cf e0 e s0 x p cs st op) (hc : ∀ c r, st = c :: r → ¬ (c = 38 ∨ (c = 124 ∧ y ≠ 38))) (h4 : st.length ≤ 100) : am_fix Γ X am_P21 0 [.inr (50, 0), am_I (be_i (y))] [] (am_sd a b u e f) = some (none, (am_sd a b u e f)) := by
  cases st with
  | nil => rw [am_b21_0, bo_e h.2.2.2.2.1, if_pos (by decide)]
  | cons c st =>
    rw [List.length_cons] at h4
    have hc := hc c st rfl
    have h26 := h.2.2.2.2.1
    rw [List.length_cons] at h26
    have h66 := h.2.2.2.2.2.1.1
    have hc0 : -2147483648 ≤ c ∧ c < 2147483648 := by rw [← h66]; exact be_gB _ _ _
    have head : ∀ r : am_R, am_ck (be_i ((st.length + 1 : Nat) : Int) - be_i 1) 101 r = r := fun r => by rw [be_sub, be_ck (by omega) (by omega) (by omega)]
    have hnt : (be_i ((st.length + 1 : Nat) : Int) - be_i 1).toNatClampNeg = st.length := by rw [be_sub, show ((st.length + 1 : Nat) : Int) - 1 = (st.length : Int) by omega, be_ntN (by omega)]
    rw [am_b21_0, bo_e h26, if_neg (by rw [be_0, be_le (by omega) (by omega) (by omega) (by omega)]; omega), head, hnt, bo_e h66, if_neg (by rw [be_eq (by omega) (by omega) (by omega) (by omega)]; omega), head]
    by_cases h124 : c = 124
    · subst h124
      obtain rfl : y = 38 := by omega
      rw [if_neg (fun h => h rfl), if_pos rfl]
    · rw [if_pos (by rw [be_eq (by omega) (by omega) (by omega) (by omega)]; exact h124)]
/-! the reference's loop, step by step -/
variable {z3 : am_V}
theorem bo_gpop (hd : 3 ≤ d) (hY : bo_Y e0 n T) {c : Int} (hc : c = 38 ∨ (c = 124 ∧ T p ≠ 38)) (h : bo_Cf e0 e s0 x p cs (c :: st) op) (hpn : p ≤ n) (h3 : s0 + cs.length + (st.length + 1) ≤ 500 + p) (h4 : st.length + 1 ≤ p) : ∃ e', am_fix (am_sem X d) X am_P24 22 [.inr (50, 0), am_I (be_i ((x : Int))), am_I (be_i (0)), z3] [] (am_sd a b u e f) = am_fix (am_sem X d) X am_P24 22 [.inr (50, 0), am_I (be_i ((x : Int))), am_I (be_i (0)), z3] [] (am_sd a b u e' f) ∧ bo_Cf e0 e' s0 x p (cs ++ [-c]) st op := by
  obtain ⟨d, rfl⟩ : ∃ q, d = q + 2 := ⟨d - 2, by omega⟩
  have hn := hY.1.1
  have hT0 := bo_TR hY.1 p
  by_cases h38 : T p = 38
  · obtain ⟨e', g1, g2⟩ := bo_21a (X := X) (a := a) (b := b) (u := u) (f := f) (d := d) (y := 38) (by omega) (by omega) h (by omega) (by omega)
    refine ⟨e', ?_, g2⟩
    rw [am_b24_22, am_b24_22, bo_14 (by omega) (bo_GY h.1 hY) h.2.1 hpn, bo_14 (by omega) (bo_GY g2.1 hY) g2.2.1 hpn, be_bi, be_bi, am_b24_26, am_b24_26, if_pos be_0.symm, if_pos be_0.symm, h38, if_pos rfl, if_pos rfl, bo_21, bo_21, g1]
  · obtain ⟨e', g1, g2⟩ := bo_21a (X := X) (a := a) (b := b) (u := u) (f := f) (d := d) (y := 124) (by omega) (by omega) h (by omega) (by omega)
    refine ⟨e', ?_, g2⟩
    have n38 : ¬ be_i (T p) = be_i 38 := by rw [be_eq (by omega) (by omega) (by omega) (by omega)]; exact h38
    rw [am_b24_22, am_b24_22, bo_14 (by omega) (bo_GY h.1 hY) h.2.1 hpn, bo_14 (by omega) (bo_GY g2.1 hY) g2.2.1 hpn, be_bi, be_bi, am_b24_26, am_b24_26, if_pos be_0.symm, if_pos be_0.symm, if_neg n38, if_neg n38]
    by_cases h124 : T p = 124
    · rw [h124, if_neg (fun h => h rfl), if_neg (fun h => h rfl), bo_21, bo_21, g1]
    · have n124 : ¬ be_i (T p) = be_i 124 := by rw [be_eq (by omega) (by omega) (by omega) (by omega)]; exact h124
      rw [if_pos n124, if_pos n124, bo_21, bo_21, g1]
theorem bo_gpush (hd : 3 ≤ d) (hY : bo_Y e0 n T) (hc : T p = 38 ∨ T p = 124) (h : bo_Cf e0 e s0 x p cs st op) (hpn : p ≤ n) (hst : ∀ c r, st = c :: r → ¬ (c = 38 ∨ (c = 124 ∧ T p ≠ 38))) (h4 : st.length ≤ p) : ∃ e' z', am_fix (am_sem X d) X am_P24 22 [.inr (50, 0), am_I (be_i ((x : Int))), am_I (be_i (0)), z3] [] (am_sd a b u e f) = am_fix (am_sem X d) X am_P24 22 [.inr (50, 0), am_I (be_i ((x : Int))), am_I (be_i (1)), z'] [] (am_sd a b u e' f) ∧ bo_Cf e0 e' s0 x (p + 1) cs (T p :: st) op := by
  obtain ⟨d, rfl⟩ : ∃ q, d = q + 2 := ⟨d - 2, by omega⟩
  have hn := hY.1.1
  have hT0 := bo_TR hY.1 p
  have l0 : p < n := bo_Tn hY.1 (by omega)
  have g2 := bo_av (bo_psh h (c := T p) (by omega) (by omega) (by omega)) (by omega)
  refine ⟨_, am_I (be_i (T p)), ?_, g2⟩
  have key : am_fix (am_sem X (d + 2)) X am_P24 127 [.inr (50, 0), am_I (be_i ((x : Int))), am_I (be_i (0)), am_I (be_i (T p))] [] (am_sd a b u e f) = am_fix (am_sem X (d + 2)) X am_P24 22 [.inr (50, 0), am_I (be_i ((x : Int))), am_I (be_i (1)), am_I (be_i (T p))] [] (am_sd a b u (am_w3 (am_w3 (am_w3 e 66 0 st.length (be_i (T p))) 50 0 26 (be_i ((st.length : Int) + 1))) 50 0 15 (be_i ((p : Int) + 1))) f) := by
    rw [am_b24_127, bo_e h.2.2.2.2.1, bo_e h.2.1, be_ck (by omega) (by omega) (by omega), be_ntN (by omega), be_add, be_add]
  rw [am_b24_22, bo_14 (by omega) (bo_GY h.1 hY) h.2.1 hpn, be_bi, am_b24_26, if_pos be_0.symm]
  by_cases h38 : T p = 38
  · rw [if_pos (by rw [h38]), bo_21, bo_21z (by omega) h hst (by omega), be_bv, key]
  · rw [if_neg (by rw [be_eq (by omega) (by omega) (by omega) (by omega)]; exact h38), if_neg (by rw [be_eq (by omega) (by omega) (by omega) (by omega)]; omega), bo_21, bo_21z (by omega) h hst (by omega), be_bv, key]
theorem bo_ghead (hd : 3 ≤ d) (hY : bo_Y e0 n T) (hc : T p ≠ 38 ∧ T p ≠ 124) (h : bo_Cf e0 e s0 x p cs st op) (hpn : p ≤ n) (hst : ∀ c r, st = c :: r → ¬ (c = 38 ∨ c = 124)) (h4 : st.length ≤ p) : am_fix (am_sem X d) X am_P24 22 [.inr (50, 0), am_I (be_i ((x : Int))), am_I (be_i (0)), z3] [] (am_sd a b u e f) = am_fix (am_sem X d) X am_P24 168 [.inr (50, 0), am_I (be_i ((x : Int))), am_I (be_i (0)), am_I (be_i (T p))] [] (am_sd a b u e f) := by
  obtain ⟨d, rfl⟩ : ∃ q, d = q + 2 := ⟨d - 2, by omega⟩
  have hn := hY.1.1
  have hT0 := bo_TR hY.1 p
  rw [am_b24_22, bo_14 (by omega) (bo_GY h.1 hY) h.2.1 hpn, be_bi, am_b24_26, if_pos be_0.symm, if_neg (by rw [be_eq (by omega) (by omega) (by omega) (by omega)]; exact hc.1), if_pos (by rw [be_eq (by omega) (by omega) (by omega) (by omega)]; exact hc.2), bo_21, bo_21z (y := 124) (by omega) h (fun c r hs => by have := hst c r hs; omega) (by omega), be_bv]
theorem bo_gclose (hd : 6 ≤ d) (hx : x < 60) (hY : bo_Y e0 n T) (hc : T p = 41) (h : bo_Cf e0 e s0 x p cs (40 :: st) op) (hpn : p ≤ n) (h3 : s0 + cs.length + (st.length + 1) ≤ 500 + p) (h4 : st.length + 1 ≤ p) (ho0 : 0 ≤ op) (ho4 : op ≤ 4) : ∃ e' z', am_fix (am_sem X d) X am_P24 22 [.inr (50, 0), am_I (be_i ((x : Int))), am_I (be_i (0)), z3] [] (am_sd a b u e f) = am_fix (am_sem X d) X am_P24 22 [.inr (50, 0), am_I (be_i ((x : Int))), am_I (be_i (0)), z'] [] (am_sd a b u e' f) ∧ bo_Cf e0 e' s0 x (p + 1) (cs ++ List.replicate (bo_nt st) (-33)) (bo_dr st) (op - 1 - (bo_nt st : Int)) := by
  have hg := bo_ghead (X := X) (a := a) (b := b) (u := u) (f := f) (d := d) (z3 := z3) (by omega) hY (by omega) h hpn (fun c r hs => by cases hs; omega) (by rw [List.length_cons]; omega)
  obtain ⟨d, rfl⟩ : ∃ q, d = q + 2 := ⟨d - 2, by omega⟩
  have hn := hY.1.1
  have l0 : p < n := bo_Tn hY.1 (by omega)
  have h26 := h.2.2.2.2.1
  rw [List.length_cons] at h26
  have c1 := bo_av (bo_opn (bo_pop (bo_to (y := e 50 0 25) h) (by omega)) (o' := op - 1) (by omega) (by omega)) (by omega)
  obtain ⟨e', m1, m2⟩ := bo_20 (X := X) (a := a) (b := b) (u := u) (f := f) (d := d) st cs (op - 1) _ c1 (by omega) (by omega) (by omega) (by omega)
  refine ⟨e', am_I (be_i (T p)), ?_, m2⟩
  rw [hg, am_b24_168, be_ck (by omega) (by omega) (by omega), be_ntN (by omega), bo_e h26, bo_e h.2.2.2.2.2.2, bo_e h.2.1, if_pos (by rw [be_0, be_eq (by omega) (by omega) (by omega) (by omega)]; omega), if_pos (by rw [hc]), be_sub, be_sub, be_add, show ((st.length + 1 : Nat) : Int) - 1 = (st.length : Int) by omega, am_s20, ← am_b20_0 (Γ := am_sem X (d + 1)), m1, be_bv, am_b24_229]
theorem bo_gend (hd : 3 ≤ d) (hx : x < 60) (hY : bo_Y e0 n T) (hc : T p ≠ 38 ∧ T p ≠ 124) (h : bo_Cf e0 e s0 x p cs [] op) (hpn : p ≤ n) (h3 : s0 + cs.length ≤ 700) : ∃ e', am_fix (am_sem X d) X am_P24 22 [.inr (50, 0), am_I (be_i ((x : Int))), am_I (be_i (0)), z3] [] (am_sd a b u e f) = some (some (am_I (be_i 1)), am_sd a b u e' f) ∧ bo_Cf e0 e' s0 x p cs [] op ∧ be_g e' 64 x = ((s0 + cs.length : Nat) : Int) := by
  have hg := bo_ghead (X := X) (a := a) (b := b) (u := u) (f := f) (d := d) (z3 := z3) (by omega) hY hc h hpn (fun c r hs => by cases hs) (Nat.zero_le _)
  have hq := bo_to (y := be_i ((s0 + cs.length : Nat) : Int)) h
  refine ⟨_, ?_, hq, bo_gws (by omega) (by omega)⟩
  rw [hg, am_b24_168, be_ck (by omega) (by omega) (by omega), be_ntN (by omega), bo_e h.2.2.2.2.1, bo_e h.2.2.1, if_neg (by decide)]
theorem bo_gbad (hd : 3 ≤ d) (hx : x < 60) (hY : bo_Y e0 n T) (hc : T p ≠ 38 ∧ T p ≠ 124 ∧ T p ≠ 41) (h : bo_Cf e0 e s0 x p cs (40 :: st) op) (hpn : p ≤ n) (h4 : st.length + 1 ≤ p) : ∃ e', am_fix (am_sem X d) X am_P24 22 [.inr (50, 0), am_I (be_i ((x : Int))), am_I (be_i (0)), z3] [] (am_sd a b u e f) = some (some (am_I (be_i 0)), am_sd a b u e' f) ∧ be_g e' 50 15 = (p : Int) ∧ bo_G e0 e' s0 x := by
  have hg := bo_ghead (X := X) (a := a) (b := b) (u := u) (f := f) (d := d) (z3 := z3) (by omega) hY (by omega) h hpn (fun c r hs => by cases hs; omega) (by rw [List.length_cons]; omega)
  have hn := hY.1.1
  have hT0 := bo_TR hY.1 p
  have hq := bo_to (y := e 50 0 25) h
  have h26 := h.2.2.2.2.1
  rw [List.length_cons] at h26
  refine ⟨_, ?_, hq.2.1, hq.1⟩
  rw [hg, am_b24_168, be_ck (by omega) (by omega) (by omega), be_ntN (by omega), bo_e h26, if_pos (by rw [be_0, be_eq (by omega) (by omega) (by omega) (by omega)]; omega), if_neg (by rw [be_eq (by omega) (by omega) (by omega) (by omega)]; omega)]
theorem bo_wopen (hd : 3 ≤ d) (hY : bo_Y e0 n T) (hc : T p = 33 ∨ T p = 40) (h : bo_Cf e0 e s0 x p cs st op) (hpn : p ≤ n) (h4 : st.length ≤ p) (ho0 : 0 ≤ op) (ho4 : op < 4) : ∃ e' z', am_fix (am_sem X d) X am_P24 22 [.inr (50, 0), am_I (be_i ((x : Int))), am_I (be_i (1)), z3] [] (am_sd a b u e f) = am_fix (am_sem X d) X am_P24 22 [.inr (50, 0), am_I (be_i ((x : Int))), am_I (be_i (1)), z'] [] (am_sd a b u e' f) ∧ bo_Cf e0 e' s0 x (p + 1) cs (T p :: st) (op + 1) := by
  have hn := hY.1.1
  have hT0 := bo_TR hY.1 p
  have l0 : p < n := bo_Tn hY.1 (by omega)
  have g2 := bo_av (bo_psh (bo_opn h (o' := op + 1) (by omega) (by omega)) (c := T p) (by omega) (by omega) (by omega)) (by omega)
  refine ⟨_, am_I (be_i (T p)), ?_, g2⟩
  rw [am_b24_22, bo_14 (by omega) (bo_GY h.1 hY) h.2.1 hpn, be_bi, am_b24_26, if_neg (by decide), bo_e h.2.2.2.2.1, bo_e h.2.2.2.2.2.2, bo_e h.2.1]
  have n4 : ¬ be_i op = be_i 4 := by rw [be_eq (by omega) (by omega) (by omega) (by omega)]; omega
  by_cases h33 : T p = 33
  · rw [if_pos (by rw [h33]), if_pos n4, be_ck (by omega) (by omega) (by omega), be_ntN (by omega), be_add, be_add, be_add]
  · rw [if_neg (by rw [be_eq (by omega) (by omega) (by omega) (by omega)]; exact h33), if_neg (by rw [be_eq (by omega) (by omega) (by omega) (by omega)]; omega), if_pos n4, be_ck (by omega) (by omega) (by omega), be_ntN (by omega), be_add, be_add, be_add]
theorem bo_wfull (hd : 3 ≤ d) (hY : bo_Y e0 n T) (hc : T p = 33 ∨ T p = 40) (h : bo_Cf e0 e s0 x p cs st 4) (hpn : p ≤ n) : am_fix (am_sem X d) X am_P24 22 [.inr (50, 0), am_I (be_i ((x : Int))), am_I (be_i (1)), z3] [] (am_sd a b u e f) = some (some (am_I (be_i (0))), (am_sd a b u e f)) := by
  have hn := hY.1.1
  have hT0 := bo_TR hY.1 p
  rw [am_b24_22, bo_14 (by omega) (bo_GY h.1 hY) h.2.1 hpn, be_bi, am_b24_26, if_neg (by decide), bo_e h.2.2.2.2.2.2]
  by_cases h33 : T p = 33
  · rw [if_pos (by rw [h33]), if_neg (fun h => h rfl)]
  · rw [if_neg (by rw [be_eq (by omega) (by omega) (by omega) (by omega)]; exact h33), if_neg (by rw [be_eq (by omega) (by omega) (by omega) (by omega)]; omega), if_neg (fun h => h rfl)]
theorem bo_whead (hd : 3 ≤ d) (hY : bo_Y e0 n T) (hc : T p ≠ 33 ∧ T p ≠ 40) (h : bo_Cf e0 e s0 x p cs st op) (hpn : p ≤ n) : am_fix (am_sem X d) X am_P24 22 [.inr (50, 0), am_I (be_i ((x : Int))), am_I (be_i (1)), z3] [] (am_sd a b u e f) = am_bi (am_sem X d 23 [.inr (50, 0)] (am_sd a b u e f)) (fun r τ => am_fix (am_sem X d) X am_P24 100 [.inr (50, 0), am_I (be_i ((x : Int))), am_I (be_i (1)), am_I (be_i (T p))] [am_I r] τ) := by
  have hn := hY.1.1
  have hT0 := bo_TR hY.1 p
  rw [am_b24_22, bo_14 (by omega) (bo_GY h.1 hY) h.2.1 hpn, be_bi, am_b24_26, if_neg (by decide), if_neg (by rw [be_eq (by omega) (by omega) (by omega) (by omega)]; exact hc.1), if_pos (by rw [be_eq (by omega) (by omega) (by omega) (by omega)]; exact hc.2)]
theorem bo_wtest (hd : 6 ≤ d) (hY : bo_Y e0 n T) (hc : T p ≠ 33 ∧ T p ≠ 40) (h : bo_Cf e0 e s0 x p cs st op) (hpn : p ≤ n) (hq : s0 + cs.length + st.length ≤ 500 + p) (hst : st.length ≤ p) (ho0 : 0 ≤ op) (ho4 : op ≤ 4) (t1 : 0 ≤ bo_ix 5 (T p)) (t2 : 0 ≤ bo_ix 6 (T (p + 1))) (t3 : bo_dg (T (p + 2))) :
    ∃ e' z', am_fix (am_sem X d) X am_P24 22 [.inr (50, 0), am_I (be_i ((x : Int))), am_I (be_i (1)), z3] [] (am_sd a b u e f) = am_fix (am_sem X d) X am_P24 22 [.inr (50, 0), am_I (be_i ((x : Int))), am_I (be_i (0)), z'] [] (am_sd a b u e' f) ∧ bo_Cf e0 e' s0 x (bo_np T (p + 2)) (cs ++ [bo_tv T p] ++ List.replicate (bo_nt st) (-33)) (bo_dr st) (op - (bo_nt st : Int)) := by
  obtain ⟨e', g1, g2⟩ := bo_23 (X := X) (a := a) (b := b) (u := u) (f := f) (d := d) hd hY h hpn hq hst ho0 ho4 t1 t2 t3
  refine ⟨e', am_I (be_i (T p)), ?_, g2⟩
  rw [bo_whead (by omega) hY hc h hpn, g1, be_bi, am_b24_100, if_neg (by decide)]
theorem bo_wbad (hd : 6 ≤ d) (hY : bo_Y e0 n T) (hc : T p ≠ 33 ∧ T p ≠ 40) (h : bo_Cf e0 e s0 x p cs st op) (hpn : p ≤ n) {q : Nat} (hq : (q = p ∧ bo_ix 5 (T p) < 0) ∨ (q = p + 1 ∧ 0 ≤ bo_ix 5 (T p) ∧ bo_ix 6 (T (p + 1)) < 0) ∨ (q = p + 2 ∧ 0 ≤ bo_ix 5 (T p) ∧ 0 ≤ bo_ix 6 (T (p + 1)) ∧ ¬ bo_dg (T (p + 2)))) :
    ∃ e', am_fix (am_sem X d) X am_P24 22 [.inr (50, 0), am_I (be_i ((x : Int))), am_I (be_i (1)), z3] [] (am_sd a b u e f) = some (some (am_I (be_i 0)), am_sd a b u e' f) ∧ be_g e' 50 15 = (q : Int) ∧ bo_G e0 e' s0 x := by
  obtain ⟨e', g1, g2⟩ := bo_23n (X := X) (a := a) (b := b) (u := u) (f := f) (d := d) hd hY h hpn hq
  refine ⟨e', ?_, g2⟩
  rw [bo_whead (by omega) hY hc h hpn, g1, be_bi, am_b24_100, if_pos be_0.symm]
