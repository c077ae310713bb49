/-! THE CLASS, 4: copies -/
variable {d : Nat} {X : am_X} {a : Nat → Nat → Nat → Int32} {b : Nat → Nat → Nat → Int64} {u : Nat → Nat} {e : Nat → Nat → Nat → Int32} {f : Nat → Nat → Nat → Int64}
theorem be_m183 (hd : 1 ≤ d) {x0 x1 : Nat} {p : Bool} (h : a 5 x1 2 = be_i (be_b p)) :
    am_sem X d 183 [.inr (5, x0), .inr (5, x1)] (am_sd a b u e f) = some (none, am_sd (am_w3 (am_w3 a 5 x0 1 (a 5 x1 1)) 5 x0 2 (a 5 x1 2)) b u e f) := by
  obtain ⟨d, rfl⟩ : ∃ q, d = q + 1 := ⟨d - 1, by omega⟩
  rw [am_s183, h, be_bkb]
theorem be_m131 (hd : 1 ≤ d) {x0 : Nat} {y1 y2 y3 y4 y5 : Int32} :
    ∃ a', am_sem X d 131 [.inr (1, x0), am_I y1, am_I y2, am_I y3, am_I y4, am_I y5] (am_sd a b u e f) = some (none, am_sd a' b u e f) ∧
      a' 1 x0 1 = y1 ∧ a' 1 x0 2 = y2 ∧ a' 1 x0 3 = y3 ∧ a' 1 x0 4 = y4 ∧ a' 1 x0 5 = y5 ∧ a' 1 x0 6 = be_i (-5) ∧ (∀ j, j < 4 → a' 11 x0 j = be_i 0) ∧
      ∀ c k j, ¬ (k = x0 ∧ (c = 1 ∧ 1 ≤ j ∧ j ≤ 6 ∨ c = 11 ∧ j < 4)) → a' c k j = a c k j := by
  obtain ⟨d, rfl⟩ : ∃ q, d = q + 1 := ⟨d - 1, by omega⟩
  refine ⟨am_w3 (am_w3 (am_w3 (am_w3 (am_w3 (am_w3 (am_w3 (am_w3 (am_w3 (am_w3 a 1 x0 1 y1) 1 x0 2 y2) 1 x0 3 y3) 1 x0 4 y4) 1 x0 5 y5) 1 x0 6 (be_i (-5))) 11 x0 0 (be_i 0)) 11 x0 1 (be_i 0)) 11 x0 2 (be_i 0)) 11 x0 3 (be_i 0), ?_, ?_, ?_, ?_, ?_, ?_, ?_, ?_, ?_⟩
  · rw [am_s131, am_b131_36]
    simp (disch := (first | assumption | omega | exact (be_gB _ _ _).1 | exact (be_gB _ _ _).2)) only [be_ofI, ↓be_ofN, ↓be_0, be_add, be_sub, be_mul, be_neg, be_rem, be_bi, be_bl, be_bv, be_br, be_bE0, be_bE1, be_b1E, be_b0E, be_bkb, be_cast, Int.toNat_natCast, Int.reduceToNat, be_lt, be_le, be_eq, be_nt, be_ck, be_nz, be_bk, be_div, not_true_eq_false, not_false_eq_true, if_true, if_false, eq_self, Int.reduceEq, Int.reduceLT, Int.reduceLE, Int.reduceAdd]
    rw [am_b131_36]
    simp (disch := (first | assumption | omega | exact (be_gB _ _ _).1 | exact (be_gB _ _ _).2)) only [be_ofI, ↓be_ofN, ↓be_0, be_add, be_sub, be_mul, be_neg, be_rem, be_bi, be_bl, be_bv, be_br, be_bE0, be_bE1, be_b1E, be_b0E, be_bkb, be_cast, Int.toNat_natCast, Int.reduceToNat, be_lt, be_le, be_eq, be_nt, be_ck, be_nz, be_bk, be_div, not_true_eq_false, not_false_eq_true, if_true, if_false, eq_self, Int.reduceEq, Int.reduceLT, Int.reduceLE, Int.reduceAdd]
    rw [am_b131_36]
    simp (disch := (first | assumption | omega | exact (be_gB _ _ _).1 | exact (be_gB _ _ _).2)) only [be_ofI, ↓be_ofN, ↓be_0, be_add, be_sub, be_mul, be_neg, be_rem, be_bi, be_bl, be_bv, be_br, be_bE0, be_bE1, be_b1E, be_b0E, be_bkb, be_cast, Int.toNat_natCast, Int.reduceToNat, be_lt, be_le, be_eq, be_nt, be_ck, be_nz, be_bk, be_div, not_true_eq_false, not_false_eq_true, if_true, if_false, eq_self, Int.reduceEq, Int.reduceLT, Int.reduceLE, Int.reduceAdd]
    rw [am_b131_36]
    simp (disch := (first | assumption | omega | exact (be_gB _ _ _).1 | exact (be_gB _ _ _).2)) only [be_ofI, ↓be_ofN, ↓be_0, be_add, be_sub, be_mul, be_neg, be_rem, be_bi, be_bl, be_bv, be_br, be_bE0, be_bE1, be_b1E, be_b0E, be_bkb, be_cast, Int.toNat_natCast, Int.reduceToNat, be_lt, be_le, be_eq, be_nt, be_ck, be_nz, be_bk, be_div, not_true_eq_false, not_false_eq_true, if_true, if_false, eq_self, Int.reduceEq, Int.reduceLT, Int.reduceLE, Int.reduceAdd]
    rw [am_b131_36]
    simp (disch := (first | assumption | omega | exact (be_gB _ _ _).1 | exact (be_gB _ _ _).2)) only [be_ofI, ↓be_ofN, ↓be_0, be_add, be_sub, be_mul, be_neg, be_rem, be_bi, be_bl, be_bv, be_br, be_bE0, be_bE1, be_b1E, be_b0E, be_bkb, be_cast, Int.toNat_natCast, Int.reduceToNat, be_lt, be_le, be_eq, be_nt, be_ck, be_nz, be_bk, be_div, not_true_eq_false, not_false_eq_true, if_true, if_false, eq_self, Int.reduceEq, Int.reduceLT, Int.reduceLE, Int.reduceAdd]
    rfl
  · simp (disch := omega) only [be_w3n, be_w3s]
  · simp (disch := omega) only [be_w3n, be_w3s]
  · simp (disch := omega) only [be_w3n, be_w3s]
  · simp (disch := omega) only [be_w3n, be_w3s]
  · simp (disch := omega) only [be_w3n, be_w3s]
  · simp (disch := omega) only [be_w3n, be_w3s]
  · intro j hj
    rcases (show j = 0 ∨ j = 1 ∨ j = 2 ∨ j = 3 by omega) with rfl | rfl | rfl | rfl <;> simp (disch := omega) only [be_w3n, be_w3s]
  · intro c k j h
    simp (disch := omega) only [be_w3n]
theorem be_m132 (hd : 2 ≤ d) {x0 x1 : Nat} (hne : x0 ≠ x1) :
    ∃ a', am_sem X d 132 [.inr (1, x0), .inr (1, x1)] (am_sd a b u e f) = some (none, am_sd a' b u e f) ∧ (∀ j, 1 ≤ j → j ≤ 6 → a' 1 x0 j = a 1 x1 j) ∧ (∀ j, j < 4 → a' 11 x0 j = a 11 x1 j) ∧
      ∀ c k j, ¬ (k = x0 ∧ (c = 1 ∧ 1 ≤ j ∧ j ≤ 6 ∨ c = 11 ∧ j < 4)) → a' c k j = a c k j := by
  obtain ⟨d, rfl⟩ : ∃ q, d = q + 1 := ⟨d - 1, by omega⟩
  obtain ⟨a1, h1, p1, p2, p3, p4, p5, p6, p7, p8⟩ := be_m131 (X := X) (a := a) (b := b) (u := u) (e := e) (f := f) (d := d) (x0 := x0) (y1 := a 1 x1 1) (y2 := a 1 x1 2) (y3 := a 1 x1 3) (y4 := a 1 x1 4) (y5 := a 1 x1 5) (by omega)
  have q6 : a1 1 x1 6 = a 1 x1 6 := p8 _ _ _ (by omega)
  have q0 : a1 11 x1 0 = a 11 x1 0 := p8 _ _ _ (by omega)
  have q1 : a1 11 x1 1 = a 11 x1 1 := p8 _ _ _ (by omega)
  have q2 : a1 11 x1 2 = a 11 x1 2 := p8 _ _ _ (by omega)
  have q3 : a1 11 x1 3 = a 11 x1 3 := p8 _ _ _ (by omega)
  refine ⟨am_w3 (am_w3 (am_w3 (am_w3 (am_w3 a1 1 x0 6 (a 1 x1 6)) 11 x0 0 (a 11 x1 0)) 11 x0 1 (a 11 x1 1)) 11 x0 2 (a 11 x1 2)) 11 x0 3 (a 11 x1 3), ?_, ?_, ?_, ?_⟩
  · rw [am_s132, h1]
    simp only [be_bv]
    rw [am_b132_24, am_b132_34]
    simp (disch := (first | assumption | omega | exact (be_gB _ _ _).1 | exact (be_gB _ _ _).2)) only [be_ofI, ↓be_ofN, ↓be_0, be_add, be_sub, be_mul, be_neg, be_rem, be_bi, be_bl, be_bv, be_br, be_bE0, be_bE1, be_b1E, be_b0E, be_bkb, be_cast, Int.toNat_natCast, Int.reduceToNat, be_lt, be_le, be_eq, be_nt, be_ck, be_nz, be_bk, be_div, not_true_eq_false, not_false_eq_true, if_true, if_false, eq_self, Int.reduceEq, Int.reduceLT, Int.reduceLE, Int.reduceAdd]
    rw [am_b132_34]
    simp (disch := (first | assumption | omega | exact (be_gB _ _ _).1 | exact (be_gB _ _ _).2)) only [be_ofI, ↓be_ofN, ↓be_0, be_add, be_sub, be_mul, be_neg, be_rem, be_bi, be_bl, be_bv, be_br, be_bE0, be_bE1, be_b1E, be_b0E, be_bkb, be_cast, Int.toNat_natCast, Int.reduceToNat, be_lt, be_le, be_eq, be_nt, be_ck, be_nz, be_bk, be_div, not_true_eq_false, not_false_eq_true, if_true, if_false, eq_self, Int.reduceEq, Int.reduceLT, Int.reduceLE, Int.reduceAdd]
    rw [am_b132_34]
    simp (disch := (first | assumption | omega | exact (be_gB _ _ _).1 | exact (be_gB _ _ _).2)) only [be_ofI, ↓be_ofN, ↓be_0, be_add, be_sub, be_mul, be_neg, be_rem, be_bi, be_bl, be_bv, be_br, be_bE0, be_bE1, be_b1E, be_b0E, be_bkb, be_cast, Int.toNat_natCast, Int.reduceToNat, be_lt, be_le, be_eq, be_nt, be_ck, be_nz, be_bk, be_div, not_true_eq_false, not_false_eq_true, if_true, if_false, eq_self, Int.reduceEq, Int.reduceLT, Int.reduceLE, Int.reduceAdd]
    rw [am_b132_34]
    simp (disch := (first | assumption | omega | exact (be_gB _ _ _).1 | exact (be_gB _ _ _).2)) only [be_ofI, ↓be_ofN, ↓be_0, be_add, be_sub, be_mul, be_neg, be_rem, be_bi, be_bl, be_bv, be_br, be_bE0, be_bE1, be_b1E, be_b0E, be_bkb, be_cast, Int.toNat_natCast, Int.reduceToNat, be_lt, be_le, be_eq, be_nt, be_ck, be_nz, be_bk, be_div, not_true_eq_false, not_false_eq_true, if_true, if_false, eq_self, Int.reduceEq, Int.reduceLT, Int.reduceLE, Int.reduceAdd]
    rw [am_b132_34]
    simp (disch := (first | assumption | omega | exact (be_gB _ _ _).1 | exact (be_gB _ _ _).2)) only [be_ofI, ↓be_ofN, ↓be_0, be_add, be_sub, be_mul, be_neg, be_rem, be_bi, be_bl, be_bv, be_br, be_bE0, be_bE1, be_b1E, be_b0E, be_bkb, be_cast, Int.toNat_natCast, Int.reduceToNat, be_lt, be_le, be_eq, be_nt, be_ck, be_nz, be_bk, be_div, not_true_eq_false, not_false_eq_true, if_true, if_false, eq_self, Int.reduceEq, Int.reduceLT, Int.reduceLE, Int.reduceAdd, be_w3n, q0, q1, q2, q3, q6]
    rfl
  · intro j j1 j6
    rcases (show j = 1 ∨ j = 2 ∨ j = 3 ∨ j = 4 ∨ j = 5 ∨ j = 6 by omega) with rfl | rfl | rfl | rfl | rfl | rfl <;> simp (disch := omega) only [be_w3n, be_w3s, p1, p2, p3, p4, p5]
  · intro j hj
    rcases (show j = 0 ∨ j = 1 ∨ j = 2 ∨ j = 3 by omega) with rfl | rfl | rfl | rfl <;> simp (disch := omega) only [be_w3n, be_w3s]
  · intro c k j h
    simp (disch := omega) only [be_w3n]
    exact p8 c k j h
theorem be_m187 (hd : 2 ≤ d) {x0 x1 L n : Nat} (hne : x0 ≠ x1) (hl0 : am_len X 18 x0 = L) (hl1 : am_len X 18 x1 = L) (hL : L ≤ 8) (hn : a 6 x1 1 = be_i (n : Int)) (hnL : n ≤ L) (hdis : am_rb18 x0 + L ≤ am_rb18 x1 ∨ am_rb18 x1 + L ≤ am_rb18 x0) :
    ∃ a', am_sem X d 187 [.inr (6, x0), .inr (6, x1)] (am_sd a b u e f) = some (none, am_sd a' b u e f) ∧ a' 6 x0 1 = a 6 x1 1 ∧ (∀ k, k < n → ∀ j, j < 4 → a' 19 (k + am_rb18 x0) j = a 19 (k + am_rb18 x1) j) ∧
      ∀ c k j, ¬ (c = 6 ∧ k = x0 ∧ j = 1) → ¬ (c = 19 ∧ am_rb18 x0 ≤ k ∧ k < am_rb18 x0 + L) → a' c k j = a c k j := by
  obtain ⟨d, rfl⟩ : ∃ q, d = q + 1 := ⟨d - 1, by omega⟩
  obtain ⟨d, rfl⟩ : ∃ q, d = q + 1 := ⟨d - 1, by omega⟩
  have key : ∀ (m k : Nat) (z : Int) (z3 : am_V) (a1 : Nat → Nat → Nat → Int32), k + m = n → z = (k : Int) → a1 6 x0 1 = be_i (k : Int) → (∀ p, p < k → ∀ j, j < 4 → a1 19 (p + am_rb18 x0) j = a 19 (p + am_rb18 x1) j) →
      (∀ c k j, ¬ (c = 6 ∧ k = x0 ∧ j = 1) → ¬ (c = 19 ∧ am_rb18 x0 ≤ k ∧ k < am_rb18 x0 + L) → a1 c k j = a c k j) →
      ∃ a', am_fix (am_sem X (d + 1)) X am_P187 7 [.inr (6, x0), .inr (6, x1), am_I (be_i (z)), z3] [] (am_sd a1 b u e f) = some (none, am_sd a' b u e f) ∧ a' 6 x0 1 = a 6 x1 1 ∧ (∀ k, k < n → ∀ j, j < 4 → a' 19 (k + am_rb18 x0) j = a 19 (k + am_rb18 x1) j) ∧
        ∀ c k j, ¬ (c = 6 ∧ k = x0 ∧ j = 1) → ¬ (c = 19 ∧ am_rb18 x0 ≤ k ∧ k < am_rb18 x0 + L) → a' c k j = a c k j := by
    intro m
    induction m with
    | zero =>
      rintro k z z3 a1 hk rfl h1 h2 h3
      obtain rfl : k = n := hk
      have hn' : a1 6 x1 1 = be_i (k : Int) := by rw [h3 _ _ _ (by omega) (by omega), hn]
      refine ⟨a1, ?_, by rw [h1, hn], h2, h3⟩
      rw [am_b187_7]
      simp (disch := (first | assumption | omega | exact (be_gB _ _ _).1 | exact (be_gB _ _ _).2)) only [be_ofI, ↓be_ofN, ↓be_0, be_add, be_sub, be_mul, be_neg, be_rem, be_bi, be_bl, be_bv, be_br, be_bE0, be_bE1, be_b1E, be_b0E, be_bkb, be_cast, Int.toNat_natCast, Int.reduceToNat, be_lt, be_le, be_eq, be_nt, be_ck, be_nz, be_bk, be_div, hn']
      rw [if_pos (by omega)]
    | succ m ih =>
      rintro k z z3 a1 hk rfl h1 h2 h3
      have hn' : a1 6 x1 1 = be_i (n : Int) := by rw [h3 _ _ _ (by omega) (by omega), hn]
      have r0 : ∀ j, a1 19 (k + am_rb18 x1) j = a 19 (k + am_rb18 x1) j := fun j => h3 _ _ _ (by omega) (by omega)
      obtain ⟨a2, ha2⟩ : ∃ a2, a2 = am_w3 (am_w3 (am_w3 (am_w3 (am_w3 a1 19 (k + am_rb18 x0) 0 (a 19 (k + am_rb18 x1) 0)) 19 (k + am_rb18 x0) 1 (a 19 (k + am_rb18 x1) 1)) 19 (k + am_rb18 x0) 2 (a 19 (k + am_rb18 x1) 2)) 19 (k + am_rb18 x0) 3 (a 19 (k + am_rb18 x1) 3)) 6 x0 1 (be_i ((k : Int) + 1)) := ⟨_, rfl⟩
      have hadd : am_sem X (d + 1) 186 [.inr (6, x0), am_I (a 19 (k + am_rb18 x1) 0), am_I (a 19 (k + am_rb18 x1) 1), am_I (a 19 (k + am_rb18 x1) 2), am_I (a 19 (k + am_rb18 x1) 3)] (am_sd a1 b u e f) = some (some (am_I (be_i ((k : Int) + 1))), am_sd a2 b u e f) := by
        rw [am_s186]
        simp (disch := (first | assumption | omega | exact (be_gB _ _ _).1 | exact (be_gB _ _ _).2)) only [be_ofI, ↓be_ofN, ↓be_0, be_add, be_sub, be_mul, be_neg, be_rem, be_bi, be_bl, be_bv, be_br, be_bE0, be_bE1, be_b1E, be_b0E, be_bkb, be_cast, Int.toNat_natCast, Int.reduceToNat, be_lt, be_le, be_eq, be_nt, be_ck, be_nz, be_bk, be_div, h1, hl0, be_w3s]
        rw [if_pos (by omega), ha2]
      rw [am_b187_7]
      simp (disch := (first | assumption | omega | exact (be_gB _ _ _).1 | exact (be_gB _ _ _).2)) only [be_ofI, ↓be_ofN, ↓be_0, be_add, be_sub, be_mul, be_neg, be_rem, be_bi, be_bl, be_bv, be_br, be_bE0, be_bE1, be_b1E, be_b0E, be_bkb, be_cast, Int.toNat_natCast, Int.reduceToNat, be_lt, be_le, be_eq, be_nt, be_ck, be_nz, be_bk, be_div, hn', hl1, r0, hadd, am_b187_4, am_b187_38]
      rw [if_neg (by omega)]
      refine ih (k + 1) _ _ a2 (by omega) (by omega) ?_ ?_ ?_
      · rw [ha2, be_w3s]; congr 1
      · intro p hp j hj
        rw [ha2]
        by_cases hpk : p = k
        · subst hpk
          rcases (show j = 0 ∨ j = 1 ∨ j = 2 ∨ j = 3 by omega) with rfl | rfl | rfl | rfl <;> simp (disch := omega) only [be_w3n, be_w3s]
        · simp (disch := omega) only [be_w3n]
          exact h2 p (by omega) j hj
      · intro c q j g1 g2
        rw [ha2]
        simp (disch := omega) only [be_w3n]
        exact h3 c q j g1 g2
  rw [am_s187, am_s185]
  simp only [be_bi, am_b187_4]
  refine key n 0 0 _ _ (Nat.zero_add _) rfl ?_ (fun p hp => absurd hp (Nat.not_lt_zero _)) ?_
  · rw [be_w3s]; rfl
  · intro c k j g1 _
    rw [be_w3n _ _ _ _ _ _ _ _ g1]
/-- the places of a house -/
def be_inH (i c k : Nat) : Prop := (c = 2 ∧ k = i) ∨ (c = 5 ∧ 5 * i ≤ k ∧ k < 5 * i + 5) ∨ ((c = 1 ∨ c = 11) ∧ 6 * i ≤ k ∧ k < 6 * i + 6) ∨ (c = 6 ∧ 3 * i ≤ k ∧ k < 3 * i + 3) ∨ (c = 19 ∧ 22 * i ≤ k ∧ k < 22 * i + 22)
/-- nothing else has changed, nor the numbers of rooms and hours -/
def be_fr (i : Nat) (a a' : Nat → Nat → Nat → Int32) : Prop := (∀ c k j, ¬ be_inH i c k → a' c k j = a c k j) ∧ (∀ k, a' 1 k 0 = a 1 k 0) ∧ ∀ k, a' 5 k 0 = a 5 k 0
def be_NM (a : Nat → Nat → Nat → Int32) : Prop := ∀ i, i < 3 → (∀ h, h < 6 → a 1 (h + 6 * i) 0 = be_i (h : Int)) ∧ ∀ r, r < 5 → a 5 (r + 5 * i) 0 = be_i (r : Int)
theorem be_NM_fr {i : Nat} {a' : Nat → Nat → Nat → Int32} (hN : be_NM a) (hf : be_fr i a a') : be_NM a' := by
  intro j hj
  refine ⟨fun h hh => ?_, fun r hr => ?_⟩
  · rw [hf.2.1]; exact (hN j hj).1 h hh
  · rw [hf.2.2]; exact (hN j hj).2 r hr
theorem be_m137 (hd : 3 ≤ d) {e1 : Nat → Nat → Nat → Int32} {i0 i1 : Nat} (hW : be_W e1) (hW2 : be_W2 e1) (hi0 : i0 < 3) (hi1 : i1 < 3) (hne : i0 ≠ i1) (hN : be_NM a) (hX : be_HX a u i1 e1) (hu : ∀ o : Nat, 2 * i0 ≠ 2 * i1) :
    ∃ a', am_sem X d 137 [.inr (2, i0), .inr (2, i1)] (am_sd a b u e f) = some (none, am_sd a' b (am_u u (2 * i0) (u (2 * i1))) e f) ∧ be_HX a' (am_u u (2 * i0) (u (2 * i1))) i0 e1 ∧ be_fr i0 a a' := by
  obtain ⟨d, rfl⟩ : ∃ q, d = q + 1 := ⟨d - 1, by omega⟩
  obtain ⟨hn, hn2⟩ := be_nhR hW
  obtain ⟨hr, hr2⟩ := be_nrR hW
  obtain ⟨⟨o1, o2, o3, o4, o5, o6, o7⟩, x1, x2, ⟨s1, s2⟩, ⟨p1, p2⟩, ⟨k1, k2⟩⟩ := hX
  obtain ⟨ws, wp, wb⟩ := hW2.2
  obtain ⟨u', hu'⟩ : ∃ u', u' = am_u u (2 * i0) (u (2 * i1)) := ⟨_, rfl⟩
  have hu0 : u' (2 * i0) = u (2 * i1) := by rw [hu', be_u1, if_pos rfl]
  rw [← hu']
  have hrows : ∀ (x2 : Int) (a1 : Nat → Nat → Nat → Int32), a1 2 i0 2 = a 2 i1 2 → a1 2 i0 3 = a 2 i1 3 → a1 2 i0 4 = a 2 i1 4 → a1 2 i0 6 = a 2 i1 6 → (∀ r, r < be_nr e1 → be_RR a1 (r + 5 * i0) e1 r) → (∀ h, h < be_nh e1 → be_HR a1 (h + 6 * i0) e1 h) → be_fr i0 a a1 →
      ∃ a', am_bv (am_sem X d 187 [.inr (6, 3 * i0), .inr (6, 3 * i1)] (am_sd a1 b u' e f)) (fun τ => am_fix (am_sem X d) X am_P137 113 [.inr (2, i0), .inr (2, i1), am_I (be_i (x2))] [] τ) = some (none, am_sd a' b u' e f) ∧ be_HX a' u' i0 e1 ∧ be_fr i0 a a' := by
    intro y a1 g1 g2 g3 g4 g5 g6 hf
    have l00 := be_ln0 X i0 hi0
    have l01 := be_ln0 X i1 hi1
    have l10 := be_ln1 X i0 hi0
    have l11 := be_ln1 X i1 hi1
    have l20 := be_ln2 X i0 hi0
    have l21 := be_ln2 X i1 hi1
    have r00 := be_rb0 i0 hi0
    have r01 := be_rb0 i1 hi1
    have r10 := be_rb1 i0 hi0
    have r11 := be_rb1 i1 hi1
    have r20 := be_rb2 i0 hi0
    have r21 := be_rb2 i1 hi1
    obtain ⟨a2, q1, q2, q3, q4⟩ := be_m187 (X := X) (a := a1) (b := b) (u := u') (e := e) (f := f) (d := d) (x0 := 3 * i0) (x1 := 3 * i1) (L := 6) (n := (be_g e1 50 40).toNat) (by omega) (by omega) l00 l01 (by decide)
      (by rw [hf.1 6 (3 * i1) 1 (by unfold be_inH; omega), s1]; congr 1; omega) (by omega) (by omega)
    obtain ⟨a3, v1, v2, v3, v4⟩ := be_m187 (X := X) (a := a2) (b := b) (u := u') (e := e) (f := f) (d := d) (x0 := 3 * i0 + 1) (x1 := 3 * i1 + 1) (L := 8) (n := (be_g e1 50 45).toNat) (by omega) (by omega) l10 l11 (by decide)
      (by rw [q4 _ _ _ (by omega) (by omega), hf.1 6 (3 * i1 + 1) 1 (by unfold be_inH; omega), p1]; congr 1; omega) (by omega) (by omega)
    obtain ⟨a4, w1, w2, w3, w4⟩ := be_m187 (X := X) (a := a3) (b := b) (u := u') (e := e) (f := f) (d := d) (x0 := 3 * i0 + 2) (x1 := 3 * i1 + 2) (L := 8) (n := (be_g e1 50 46).toNat) (by omega) (by omega) l20 l21 (by decide)
      (by rw [v4 _ _ _ (by omega) (by omega), q4 _ _ _ (by omega) (by omega), hf.1 6 (3 * i1 + 2) 1 (by unfold be_inH; omega), k1]; congr 1; omega) (by omega) (by omega)
    have hA : ∀ c k j, ¬ (c = 6) → ¬ (c = 19) → a4 c k j = a1 c k j := fun c k j h1 h2 => by
      rw [w4 _ _ _ (by omega) (by omega), v4 _ _ _ (by omega) (by omega), q4 _ _ _ (by omega) (by omega)]
    have hB : ∀ c k j, ¬ be_inH i0 c k → a4 c k j = a c k j := fun c k j h => by
      have h' := h
      unfold be_inH at h'
      rw [w4 _ _ _ (by omega) (by omega), v4 _ _ _ (by omega) (by omega), q4 _ _ _ (by omega) (by omega), hf.1 _ _ _ h]
    have hne2 : ∀ q : Nat, ¬ be_inH i0 3 q := fun q => by unfold be_inH; omega
    have hoff : ∀ q j : Nat, a4 3 q j = a 3 q j := fun q j => hB _ _ _ (hne2 q)
    refine ⟨a4, ?_, ⟨⟨?_, ?_, ?_, ?_, ?_, ?_, ?_⟩, ?_, ⟨?_, ?_, ?_⟩, ⟨?_, ?_⟩, ⟨?_, ?_⟩, ⟨?_, ?_⟩⟩, hB, ?_, ?_⟩
    · rw [q1, be_bv, am_b137_113, v1, be_bv, am_b137_124, w1, be_bv, am_b137_135]
    · rw [hA _ _ _ (by decide) (by decide), g1, o1]
    · rw [hA _ _ _ (by decide) (by decide), g2, o2]
    · rw [hA _ _ _ (by decide) (by decide), g3, o3]
    · rw [hA _ _ _ (by decide) (by decide), g4, o4]
    · rw [hu0, hoff, o5]
    · intro h hh
      obtain ⟨z0, z1, z2, z3, z4, z5, z6, z7⟩ := g6 h hh
      refine ⟨?_, ?_, ?_, ?_, ?_, ?_, ?_, ?_⟩
      all_goals first | (rw [hA _ _ _ (by decide) (by decide)]; assumption) | skip
      intro j hj
      rw [hA _ _ _ (by decide) (by decide)]; exact z7 j hj
    · intro r hr
      obtain ⟨z0, z1, z2⟩ := g5 r hr
      refine ⟨?_, ?_, ?_⟩
      all_goals (rw [hA _ _ _ (by decide) (by decide)]; assumption)
    · rw [hu0, x1]
    · rw [hu0, hoff]; exact x2.1
    · intro k hk hw
      rw [hu0, hB _ _ _ (by unfold be_inH; omega), hB _ _ _ (by unfold be_inH; omega)]
      exact x2.2.1 k hk hw
    · intro j hj
      rw [hu0, hB _ _ _ (by unfold be_inH; omega)]
      exact x2.2.2 j hj
    · rw [w4 _ _ _ (by omega) (by omega), v4 _ _ _ (by omega) (by omega), q2, hf.1 _ _ _ (by unfold be_inH; omega), s1]
    · intro k hk
      have hc : ∀ j, j < 4 → a4 19 (k + 22 * i0) j = a 19 (k + 22 * i1) j := fun j hj => by
        have := q3 k (by omega) j hj
        rw [r00, r01] at this
        rw [w4 _ _ _ (by omega) (by omega), v4 _ _ _ (by omega) (by omega), this, hf.1 _ _ _ (by unfold be_inH; omega)]
      rw [hc 0 (by decide), hc 1 (by decide), hc 2 (by decide), hc 3 (by decide)]
      exact s2 k hk
    · rw [w4 _ _ _ (by omega) (by omega), v2, q4 _ _ _ (by omega) (by omega), hf.1 _ _ _ (by unfold be_inH; omega), p1]
    · intro k hk
      have hc : ∀ j, j < 4 → a4 19 (k + (22 * i0 + 6)) j = a 19 (k + (22 * i1 + 6)) j := fun j hj => by
        have := v3 k (by omega) j hj
        rw [r10, r11] at this
        rw [w4 _ _ _ (by omega) (by omega), this, q4 _ _ _ (by omega) (by omega), hf.1 _ _ _ (by unfold be_inH; omega)]
      rw [hc 0 (by decide), hc 1 (by decide)]
      exact p2 k hk
    · rw [w2, v4 _ _ _ (by omega) (by omega), q4 _ _ _ (by omega) (by omega), hf.1 _ _ _ (by unfold be_inH; omega), k1]
    · intro k hk
      have hc : ∀ j, j < 4 → a4 19 (k + (22 * i0 + 14)) j = a 19 (k + (22 * i1 + 14)) j := fun j hj => by
        have := w3 k (by omega) j hj
        rw [r20, r21] at this
        rw [this, v4 _ _ _ (by omega) (by omega), q4 _ _ _ (by omega) (by omega), hf.1 _ _ _ (by unfold be_inH; omega)]
      rw [hc 0 (by decide), hc 1 (by decide)]
      exact k2 k hk
    · intro k; rw [hA _ _ _ (by decide) (by decide)]; exact hf.2.1 k
    · intro k; rw [hA _ _ _ (by decide) (by decide)]; exact hf.2.2 k
  have hhours : ∀ (n k : Nat) (z : Int) (a1 : Nat → Nat → Nat → Int32), k + n = be_nh e1 → z = (k : Int) → a1 2 i0 2 = a 2 i1 2 → a1 2 i0 3 = a 2 i1 3 → a1 2 i0 4 = a 2 i1 4 → a1 2 i0 6 = a 2 i1 6 → (∀ r, r < be_nr e1 → be_RR a1 (r + 5 * i0) e1 r) → (∀ h, h < k → be_HR a1 (h + 6 * i0) e1 h) → be_fr i0 a a1 →
      ∃ a', am_fix (am_sem X d) X am_P137 73 [.inr (2, i0), .inr (2, i1), am_I (be_i (z))] [] (am_sd a1 b u' e f) = some (none, am_sd a' b u' e f) ∧ be_HX a' u' i0 e1 ∧ be_fr i0 a a' := by
    intro n
    induction n with
    | zero =>
      rintro k z a1 hk rfl g1 g2 g3 g4 g5 g6 hf
      obtain rfl : k = be_nh e1 := hk
      have h3 := g2.trans o2
      obtain ⟨a', r1, r2⟩ := hrows (be_nh e1) a1 g1 g2 g3 g4 g5 g6 hf
      refine ⟨a', ?_, r2⟩
      rw [am_b137_73]
      simp (disch := (first | assumption | omega | exact (be_gB _ _ _).1 | exact (be_gB _ _ _).2)) only [be_ofI, ↓be_ofN, ↓be_0, be_add, be_sub, be_mul, be_neg, be_rem, be_bi, be_bl, be_bv, be_br, be_bE0, be_bE1, be_b1E, be_b0E, be_bkb, be_cast, Int.toNat_natCast, Int.reduceToNat, be_lt, be_le, be_eq, be_nt, be_ck, be_nz, be_bk, be_div, h3]
      rw [if_pos (by omega)]
      exact r1
    | succ n ih =>
      rintro k z a1 hk rfl g1 g2 g3 g4 g5 g6 hf
      have h3 := g2.trans o2
      obtain ⟨a2, q1, q2, q3, q4⟩ := be_m132 (X := X) (a := a1) (b := b) (u := u') (e := e) (f := f) (d := d) (x0 := k + 6 * i0) (x1 := k + 6 * i1) (by omega) (by omega)
      have hst := ih (k + 1) ((k : Int) + 1) a2 (by omega) (by omega) (by rw [q4 _ _ _ (by omega), g1]) (by rw [q4 _ _ _ (by omega), g2]) (by rw [q4 _ _ _ (by omega), g3]) (by rw [q4 _ _ _ (by omega), g4])
        (fun r hr => by
          obtain ⟨z0, z1, z2⟩ := g5 r hr
          refine ⟨?_, ?_, ?_⟩ <;> (rw [q4 _ _ _ (by omega)]; assumption))
        (fun h hh => by
          by_cases hk2 : h = k
          · subst hk2
            obtain ⟨z0, z1, z2, z3, z4, z5, z6, z7⟩ := o6 h (by omega)
            have hfr : ∀ c j, c = 1 ∨ c = 11 → a1 c (h + 6 * i1) j = a c (h + 6 * i1) j := fun c j hc => hf.1 _ _ _ (by unfold be_inH; omega)
            refine ⟨?_, ?_, ?_, ?_, ?_, ?_, ?_, ?_⟩
            · rw [q4 _ _ _ (by omega), hf.2.1]; exact (hN i0 hi0).1 h (by omega)
            · rw [q2 1 (by decide) (by decide), hfr _ _ (by decide)]; exact z1
            · rw [q2 2 (by decide) (by decide), hfr _ _ (by decide)]; exact z2
            · rw [q2 3 (by decide) (by decide), hfr _ _ (by decide)]; exact z3
            · rw [q2 4 (by decide) (by decide), hfr _ _ (by decide)]; exact z4
            · rw [q2 5 (by decide) (by decide), hfr _ _ (by decide)]; exact z5
            · rw [q2 6 (by decide) (by decide), hfr _ _ (by decide)]; exact z6
            · intro j hj; rw [q3 j hj, hfr _ _ (by decide)]; exact z7 j hj
          · obtain ⟨z0, z1, z2, z3, z4, z5, z6, z7⟩ := g6 h (by omega)
            refine ⟨?_, ?_, ?_, ?_, ?_, ?_, ?_, ?_⟩
            all_goals first | (rw [q4 _ _ _ (by omega)]; assumption) | skip
            intro j hj; rw [q4 _ _ _ (by omega)]; exact z7 j hj)
        ⟨fun c q j hq => by rw [q4 _ _ _ (by unfold be_inH at hq; omega)]; exact hf.1 _ _ _ hq, fun q => by rw [q4 _ _ _ (by omega)]; exact hf.2.1 q, fun q => by rw [q4 _ _ _ (by omega)]; exact hf.2.2 q⟩
      obtain ⟨a', r1, r2⟩ := hst
      refine ⟨a', ?_, r2⟩
      rw [am_b137_73]
      simp (disch := (first | assumption | omega | exact (be_gB _ _ _).1 | exact (be_gB _ _ _).2)) only [be_ofI, ↓be_ofN, ↓be_0, be_add, be_sub, be_mul, be_neg, be_rem, be_bi, be_bl, be_bv, be_br, be_bE0, be_bE1, be_b1E, be_b0E, be_bkb, be_cast, Int.toNat_natCast, Int.reduceToNat, be_lt, be_le, be_eq, be_nt, be_ck, be_nz, be_bk, be_div, h3, q1, am_b137_96]
      rw [if_neg (by omega)]
      exact r1
  have hrooms : ∀ (n k : Nat) (z : Int) (a1 : Nat → Nat → Nat → Int32), k + n = be_nr e1 → z = (k : Int) → a1 2 i0 2 = a 2 i1 2 → a1 2 i0 3 = a 2 i1 3 → a1 2 i0 4 = a 2 i1 4 → a1 2 i0 6 = a 2 i1 6 → (∀ r, r < k → be_RR a1 (r + 5 * i0) e1 r) → be_fr i0 a a1 →
      ∃ a', am_fix (am_sem X d) X am_P137 42 [.inr (2, i0), .inr (2, i1), am_I (be_i (z))] [] (am_sd a1 b u' e f) = some (none, am_sd a' b u' e f) ∧ be_HX a' u' i0 e1 ∧ be_fr i0 a a' := by
    intro n
    induction n with
    | zero =>
      rintro k z a1 hk rfl g1 g2 g3 g4 g5 hf
      obtain rfl : k = be_nr e1 := hk
      have h2 := g1.trans o1
      obtain ⟨a', r1, r2⟩ := hhours (be_nh e1) 0 0 a1 (Nat.zero_add _) rfl g1 g2 g3 g4 g5 (fun h hh => absurd hh (Nat.not_lt_zero _)) hf
      refine ⟨a', ?_, r2⟩
      rw [am_b137_42]
      simp (disch := (first | assumption | omega | exact (be_gB _ _ _).1 | exact (be_gB _ _ _).2)) only [be_ofI, ↓be_ofN, ↓be_0, be_add, be_sub, be_mul, be_neg, be_rem, be_bi, be_bl, be_bv, be_br, be_bE0, be_bE1, be_b1E, be_b0E, be_bkb, be_cast, Int.toNat_natCast, Int.reduceToNat, be_lt, be_le, be_eq, be_nt, be_ck, be_nz, be_bk, be_div, h2]
      rw [if_pos (by omega)]
      exact r1
    | succ n ih =>
      rintro k z a1 hk rfl g1 g2 g3 g4 g5 hf
      have h2 := g1.trans o1
      obtain ⟨z0, z1, z2⟩ := o7 k (by omega)
      have hfr : ∀ j, a1 5 (k + 5 * i1) j = a 5 (k + 5 * i1) j := fun j => hf.1 _ _ _ (by unfold be_inH; omega)
      have q1 := be_m183 (X := X) (a := a1) (b := b) (u := u') (e := e) (f := f) (d := d) (x0 := k + 5 * i0) (x1 := k + 5 * i1) (by omega) ((hfr 2).trans z2)
      rw [hfr, hfr] at q1
      have hq : ∀ c q j, ¬ (c = 5 ∧ q = k + 5 * i0 ∧ 1 ≤ j) → am_w3 (am_w3 a1 5 (k + 5 * i0) 1 (a 5 (k + 5 * i1) 1)) 5 (k + 5 * i0) 2 (a 5 (k + 5 * i1) 2) c q j = a1 c q j := fun c q j h => by
        rw [be_w3n _ _ _ _ _ _ _ _ (by omega), be_w3n _ _ _ _ _ _ _ _ (by omega)]
      have y1 : am_w3 (am_w3 a1 5 (k + 5 * i0) 1 (a 5 (k + 5 * i1) 1)) 5 (k + 5 * i0) 2 (a 5 (k + 5 * i1) 2) 5 (k + 5 * i0) 1 = be_i (be_g e1 51 k) := by rw [be_w3n _ _ _ _ _ _ _ _ (by omega), be_w3s]; exact z1
      have y2 : am_w3 (am_w3 a1 5 (k + 5 * i0) 1 (a 5 (k + 5 * i1) 1)) 5 (k + 5 * i0) 2 (a 5 (k + 5 * i1) 2) 5 (k + 5 * i0) 2 = be_i (be_b (be_ft e1 k)) := by rw [be_w3s]; exact z2
      generalize am_w3 (am_w3 a1 5 (k + 5 * i0) 1 (a 5 (k + 5 * i1) 1)) 5 (k + 5 * i0) 2 (a 5 (k + 5 * i1) 2) = a2 at q1 hq y1 y2
      obtain ⟨a', r1, r2⟩ := ih (k + 1) ((k : Int) + 1) a2 (by omega) (by omega) (by rw [hq _ _ _ (by omega), g1]) (by rw [hq _ _ _ (by omega), g2]) (by rw [hq _ _ _ (by omega), g3]) (by rw [hq _ _ _ (by omega), g4])
        (fun r hr => by
          by_cases hk2 : r = k
          · subst hk2
            refine ⟨?_, ?_, ?_⟩
            · rw [hq _ _ _ (by omega), hf.2.2]; exact (hN i0 hi0).2 r (by omega)
            · exact y1
            · exact y2
          · obtain ⟨z0, z1, z2⟩ := g5 r (by omega)
            refine ⟨?_, ?_, ?_⟩ <;> (rw [hq _ _ _ (by omega)]; assumption))
        ⟨fun c q j h => by rw [hq _ _ _ (by unfold be_inH at h; omega)]; exact hf.1 _ _ _ h, fun q => by rw [hq _ _ _ (by omega)]; exact hf.2.1 q, fun q => by rw [hq _ _ _ (by omega)]; exact hf.2.2 q⟩
      refine ⟨a', ?_, r2⟩
      rw [am_b137_42]
      simp (disch := (first | assumption | omega | exact (be_gB _ _ _).1 | exact (be_gB _ _ _).2)) only [be_ofI, ↓be_ofN, ↓be_0, be_add, be_sub, be_mul, be_neg, be_rem, be_bi, be_bl, be_bv, be_br, be_bE0, be_bE1, be_b1E, be_b0E, be_bkb, be_cast, Int.toNat_natCast, Int.reduceToNat, be_lt, be_le, be_eq, be_nt, be_ck, be_nz, be_bk, be_div, h2, q1, am_b137_65]
      rw [if_neg (by omega)]
      exact r1
  have hq : ∀ c q j, ¬ (c = 2 ∧ q = i0) → am_w3 (am_w3 (am_w3 (am_w3 a 2 i0 2 (a 2 i1 2)) 2 i0 3 (a 2 i1 3)) 2 i0 4 (a 2 i1 4)) 2 i0 6 (a 2 i1 6) c q j = a c q j := fun c q j h => by
    simp (disch := omega) only [be_w3n]
  obtain ⟨a', r1, r2⟩ := hrooms (be_nr e1) 0 0 (am_w3 (am_w3 (am_w3 (am_w3 a 2 i0 2 (a 2 i1 2)) 2 i0 3 (a 2 i1 3)) 2 i0 4 (a 2 i1 4)) 2 i0 6 (a 2 i1 6)) (Nat.zero_add _) rfl
    (by simp (disch := omega) only [be_w3n, be_w3s]) (by simp (disch := omega) only [be_w3n, be_w3s]) (by simp (disch := omega) only [be_w3n, be_w3s]) (by simp (disch := omega) only [be_w3n, be_w3s]) (fun r hr => absurd hr (Nat.not_lt_zero _))
    ⟨fun c q j h => hq _ _ _ (by unfold be_inH at h; omega), fun q => hq _ _ _ (by omega), fun q => hq _ _ _ (by omega)⟩
  refine ⟨a', ?_, r2⟩
  rw [am_s137, am_po2, ← hu', am_b137_32]
  simp (disch := omega) only [be_w3n]
  exact r1
