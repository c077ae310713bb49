/-! WAYS, 7: the reference's best way -/
variable {d : Nat} {X : am_X} {a : Nat → Nat → Nat → Int32} {b : Nat → Nat → Nat → Int64} {u : Nat → Nat} {e : Nat → Nat → Nat → Int32} {f : Nat → Nat → Nat → Int64}
def bw_SB (e1 : Nat → Nat → Nat → Int32) (n : Nat) (s : bw_S) : Prop := be_g e1 50 33 = s.1 ∧ be_g e1 50 34 = s.2.1 ∧ -1 ≤ s.1 ∧ s.1 ≤ 6 ∧ -1 ≤ s.2.1 ∧ s.2.1 ≤ 6000 ∧ (s.1 = -1 ∨ ∀ j, j < n → be_g e1 70 j = if s.2.2 j = 9 then 4 else (s.2.2 j : Int))
def bw_F (e : Nat → Nat → Nat → Int32) (h r : Nat) : Bool := decide (r < be_nr e) && be_fit e h r
def bw_W (e : Nat → Nat → Nat → Int32) (h r : Nat) : Int := be_wo e (be_F e h r)
theorem bw_c62 (x1 x2 x3 x4 x5 : Int32) : ∀ (m k : Nat) (z : Int) (e1 : Nat → Nat → Nat → Int32), k + m = 6 → z = (k : Int) → ∃ e2, am_fix (am_sem X d) X am_P62 174 [.inr (50, 0), am_I x1, am_I x2, am_I x3, am_I x4, am_I x5, am_I (be_i (z))] [] (am_sd a b u e1 f) = am_fix (am_sem X d) X am_P62 38 [.inr (50, 0), am_I x1, am_I x2, am_I (x3 + be_i 1), am_I x4, am_I x5, am_I (be_i (6))] [] (am_sd a b u e2 f) ∧
    (∀ c j, ¬ (c = 70 ∧ k ≤ j ∧ j < 6) → be_g e2 c j = be_g e1 c j) ∧ ∀ j, k ≤ j → j < 6 → be_g e2 70 j = be_g e1 69 j := by
  intro m
  induction m with
  | zero =>
    rintro k z e1 hk rfl
    obtain rfl : k = 6 := hk
    refine ⟨e1, ?_, fun _ _ _ => rfl, fun j h1 h2 => by omega⟩
    rw [am_b62_174]
    simp (disch := (first | assumption | omega | exact (be_gB _ _ _).1 | exact (be_gB _ _ _).2)) only [be_lt, be_le]
    rw [if_pos (by decide)]
    rfl
  | succ m ih =>
    rintro k z e1 hk rfl
    obtain ⟨e3, he3⟩ : ∃ e3, e3 = am_w3 e1 70 0 k (e1 69 0 k) := ⟨_, rfl⟩
    have q3 : ∀ c j, ¬ (c = 70 ∧ j = k) → be_g e3 c j = be_g e1 c j := fun c j h => by rw [he3]; exact be_gn _ _ _ _ _ _ _ (by omega)
    have r3 : be_g e3 70 k = be_g e1 69 k := by rw [he3]; unfold be_g; rw [be_w3s]
    obtain ⟨e2, g1, g2, g3⟩ := ih (k + 1) ((k : Int) + 1) e3 (by omega) (by omega)
    have w1 : ¬ (6 : Int) ≤ (k : Int) := by omega
    refine ⟨e2, ?_, fun c j hc => (g2 c j (by omega)).trans (q3 c j (by omega)), fun j h1 h2 => ?_⟩
    · rw [am_b62_174]
      simp (disch := (first | assumption | omega | exact (be_gB _ _ _).1 | exact (be_gB _ _ _).2)) only [↓reduceIte, be_ofI, ↓be_0, be_add, be_le, be_ck, be_nt, w1, show (k : Int).toNat = k from rfl, Int.toNat_natCast]
      rw [← he3]
      exact g1
    · by_cases e1 : j = k
      · subst e1; rw [g2 _ _ (by omega)]; exact r3
      · rw [g3 j (by omega) h2]; exact q3 _ _ (by omega)
theorem bw_s62 {n nr N : Nat} {F K : Nat → Nat → Bool} (hV : bw_Q F K n N 0) (hF : ∀ h r, nr ≤ r → r < 4 → F h r = false) (hn6 : n ≤ 6) {W : Nat → Nat → Int} {e1 : Nat → Nat → Nat → Int32} (h2 : be_g e1 50 2 = (n : Int)) (hw : ∀ j, j < n → be_g e1 69 j = (bw_D n N j : Int)) (h73 : ∀ h, h < n → be_g e1 73 (5 * h + 4) = 0 ∧ ∀ r, r < nr → be_g e1 73 (5 * h + r) = W h r ∧ 0 ≤ W h r ∧ W h r ≤ 1000) (x1 x2 x3 : Int32) :
    ∀ (m k : Nat) (z c w : Int), k + m = n → z = (k : Int) → c = (bw_cn n N k : Int) → w = bw_wn W n N k → 0 ≤ c → c ≤ (k : Int) → 0 ≤ w → w ≤ 1000 * (k : Int) →
      am_fix (am_sem X d) X am_P62 63 [.inr (50, 0), am_I x1, am_I x2, am_I x3, am_I (be_i (c)), am_I (be_i (w)), am_I (be_i (z))] [] (am_sd a b u e1 f) = am_fix (am_sem X d) X am_P62 63 [.inr (50, 0), am_I x1, am_I x2, am_I x3, am_I (be_i ((bw_cn n N n : Int))), am_I (be_i ((bw_wn W n N n))), am_I (be_i ((n : Int)))] [] (am_sd a b u e1 f) ∧ (bw_cn n N n : Int) ≤ (n : Int) ∧ 0 ≤ bw_wn W n N n ∧ bw_wn W n N n ≤ 1000 * (n : Int) := by
  intro m
  induction m with
  | zero =>
    rintro k z c w hk rfl rfl rfl c1 c2 c3 c4
    obtain rfl : k = n := hk
    exact ⟨rfl, c2, c3, c4⟩
  | succ m ih =>
    rintro k z c w hk rfl hc hw' c1 c2 c3 c4
    have q0 : e1 50 0 2 = be_i (n : Int) := by rw [be_gI e1, h2]
    have w1 : ¬ (n : Int) ≤ (k : Int) := by omega
    have wk : e1 69 0 k = be_i (bw_D n N k : Int) := by rw [be_gI e1, hw k (by omega)]
    have d5 := bw_D5 n N k
    have hnn : (5 * (k : Int) + (bw_D n N k : Int)).toNat = 5 * k + bw_D n N k := by omega
    have hcs : bw_cn n N (k + 1) = bw_cn n N k + (if bw_D n N k = 4 then 0 else 1) := rfl
    have hws : bw_wn W n N (k + 1) = bw_wn W n N k + (if bw_D n N k = 4 then 0 else W k (bw_D n N k)) := rfl
    obtain ⟨p1, p2⟩ := h73 k (by omega)
    by_cases h4 : bw_D n N k = 4
    · rw [if_pos h4] at hcs hws
      have g4 : (4 : Int) ≤ (bw_D n N k : Int) := by omega
      have e73 : e1 73 0 (5 * k + bw_D n N k) = be_i 0 := by rw [be_gI e1, h4, p1]
      have s := ih (k + 1) ((k : Int) + 1) (c + 0) (w + 0) (by omega) (by omega) (by omega) (by omega) (by omega) (by omega) (by omega) (by omega)
      rw [am_b62_63]
      simp (disch := (first | assumption | omega | exact (be_gB _ _ _).1 | exact (be_gB _ _ _).2)) only [↓reduceIte, be_ofI, ↓be_ofN, ↓be_0, be_add, be_sub, be_mul, be_neg, be_rem, be_bi, be_bl, be_bv, be_br, be_bE0, be_bE1, be_b1E, be_b0E, be_bkb, be_cast, Int.toNat_natCast, Int.reduceToNat, be_lt, be_le, be_eq, be_nt, be_ck, be_nz, be_bk, be_div, q0, w1, wk, g4, hnn, e73, show (k : Int).toNat = k from rfl]
      exact s
    · rw [if_neg h4] at hcs hws
      have g4 : ¬ (4 : Int) ≤ (bw_D n N k : Int) := by omega
      have hlt : bw_D n N k < nr := by
        rcases hV k (Nat.zero_le k) (by omega) with t | ⟨t1, -⟩
        · exact absurd t h4
        · refine Nat.lt_of_not_le fun hle => ?_
          rw [hF k _ hle (by omega)] at t1
          exact Bool.noConfusion t1
      obtain ⟨p3, p4, p5⟩ := p2 _ hlt
      have e73 : e1 73 0 (5 * k + bw_D n N k) = be_i (W k (bw_D n N k)) := by rw [be_gI e1, p3]
      have s := ih (k + 1) ((k : Int) + 1) (c + 1) (w + W k (bw_D n N k)) (by omega) (by omega) (by omega) (by omega) (by omega) (by omega) (by omega) (by omega)
      rw [am_b62_63]
      simp (disch := (first | assumption | omega | exact (be_gB _ _ _).1 | exact (be_gB _ _ _).2)) only [↓reduceIte, be_ofI, ↓be_ofN, ↓be_0, be_add, be_sub, be_mul, be_neg, be_rem, be_bi, be_bl, be_bv, be_br, be_bE0, be_bE1, be_b1E, be_b0E, be_bkb, be_cast, Int.toNat_natCast, Int.reduceToNat, be_lt, be_le, be_eq, be_nt, be_ck, be_nz, be_bk, be_div, q0, w1, wk, g4, hnn, e73, show (k : Int).toNat = k from rfl]
      exact s
/-- where one way has been looked at -/
theorem bw_k62 {n N : Nat} (hn6 : n ≤ 6) (q : Bool) {s : bw_S} {e1 : Nat → Nat → Nat → Int32} (h2 : be_g e1 50 2 = (n : Int)) (hS : bw_SB e1 n s) {y : Nat → Nat} {c : Nat} {w : Int} (hw : ∀ j, j < n → be_g e1 69 j = if y j = 9 then 4 else (y j : Int)) (hc : c ≤ 6) (hw1 : 0 ≤ w) (hw2 : w ≤ 6000) (hN : N < 15626) (x2 : Int32) :
    ∃ (e2 : Nat → Nat → Nat → Int32) (z : am_V), am_fix (am_sem X d) X am_P62 63 [.inr (50, 0), am_I (be_i (be_b q)), am_I x2, am_I (be_i ((N : Int))), am_I (be_i ((c : Int))), am_I (be_i (w)), am_I (be_i ((n : Int)))] [] (am_sd a b u e1 f) = am_fix (am_sem X d) X am_P62 38 [.inr (50, 0), am_I (be_i (be_b q)), am_I x2, am_I (be_i ((N : Int) + 1)), am_I (be_i ((c : Int))), am_I (be_i (w)), z] [] (am_sd a b u e2 f) ∧ (∀ c j, ¬ (c = 70 ∨ (c = 50 ∧ (j = 33 ∨ j = 34))) → be_g e2 c j = be_g e1 c j) ∧ bw_SB e2 n (bw_leaf q c w y s) := by
  obtain ⟨t1, t2, t3, t4, t5, t6, t7⟩ := hS
  have q0 : e1 50 0 2 = be_i (n : Int) := by rw [be_gI e1, h2]
  have q33 : e1 50 0 33 = be_i s.1 := by rw [be_gI e1, t1]
  have q34 : e1 50 0 34 = be_i s.2.1 := by rw [be_gI e1, t2]
  obtain ⟨e3, he3⟩ : ∃ e3, e3 = am_w3 (am_w3 e1 50 0 33 (be_i (c : Int))) 50 0 34 (be_i w) := ⟨_, rfl⟩
  have q3 : ∀ c j, ¬ (c = 50 ∧ (j = 33 ∨ j = 34)) → be_g e3 c j = be_g e1 c j := fun c j h => by rw [he3, be_gn _ _ _ _ _ _ _ (by omega), be_gn _ _ _ _ _ _ _ (by omega)]
  have r33 : be_g e3 50 33 = (c : Int) := by rw [he3, be_gn _ _ _ _ _ _ _ (by omega), be_gw _ _ _ _ _ (by omega) (by omega), if_pos ⟨rfl, rfl⟩]
  have r34 : be_g e3 50 34 = w := by rw [he3, be_gw _ _ _ _ _ (by omega) (by omega), if_pos ⟨rfl, rfl⟩]
  obtain ⟨e2, g1, g2, g3⟩ := bw_c62 (X := X) (a := a) (b := b) (u := u) (f := f) (d := d) (be_i (be_b q)) x2 (be_i (N : Int)) (be_i (c : Int)) (be_i w) 6 0 0 e3 rfl rfl
  have fr : ∀ c j, ¬ (c = 70 ∨ (c = 50 ∧ (j = 33 ∨ j = 34))) → be_g e2 c j = be_g e1 c j := fun c j hc => (g2 c j (by omega)).trans (q3 c j (by omega))
  have st : bw_SB e2 n ((c : Int), w, y) := by
    refine ⟨?_, ?_, ?_, ?_, ?_, ?_, Or.inr fun j hj => ?_⟩
    · rw [g2 _ _ (by omega), r33]
    · rw [g2 _ _ (by omega), r34]
    · dsimp only; omega
    · dsimp only; omega
    · dsimp only; omega
    · dsimp only; omega
    · rw [g3 j (by omega) (by omega), q3 _ _ (by omega)]; exact hw j hj
  have up : am_fix (am_sem X d) X am_P62 174 [.inr (50, 0), am_I (be_i (be_b q)), am_I x2, am_I (be_i ((N : Int))), am_I (be_i ((c : Int))), am_I (be_i (w)), am_I (be_i (0))] [] (am_sd a b u e3 f) = am_fix (am_sem X d) X am_P62 38 [.inr (50, 0), am_I (be_i (be_b q)), am_I x2, am_I (be_i ((N : Int) + 1)), am_I (be_i ((c : Int))), am_I (be_i (w)), am_I (be_i (6))] [] (am_sd a b u e2 f) := by
    rw [g1, be_add]
  unfold bw_leaf
  cases q with
  | false =>
    rw [cond_false]
    by_cases hb : s.2.1 < w
    · rw [decide_eq_true hb, if_pos rfl]
      refine ⟨e2, am_I (be_i 6), ?_, fr, st⟩
      rw [am_b62_63]
      simp (disch := (first | assumption | omega | exact (be_gB _ _ _).1 | exact (be_gB _ _ _).2)) only [↓reduceIte, be_ofI, ↓be_ofN, ↓be_0, be_add, be_sub, be_mul, be_neg, be_rem, be_bi, be_bl, be_bv, be_br, be_bE0, be_bE1, be_b1E, be_b0E, be_bkb, be_cast, Int.toNat_natCast, Int.reduceToNat, be_lt, be_le, be_eq, be_nt, be_ck, be_nz, be_bk, be_div, not_true_eq_false, not_false_eq_true, if_true, if_false, eq_self, Int.reduceEq, Int.reduceLT, Int.reduceLE, Bool.true_eq_false, Bool.false_eq_true, q0, q34, Int.le_refl, be_bF, hb]
      rw [← he3]
      exact up
    · rw [decide_eq_false hb, if_neg Bool.false_ne_true]
      refine ⟨e1, am_I (be_i (n : Int)), ?_, fun _ _ _ => rfl, t1, t2, t3, t4, t5, t6, t7⟩
      rw [am_b62_63]
      simp (disch := (first | assumption | omega | exact (be_gB _ _ _).1 | exact (be_gB _ _ _).2)) only [↓reduceIte, be_ofI, ↓be_ofN, ↓be_0, be_add, be_sub, be_mul, be_neg, be_rem, be_bi, be_bl, be_bv, be_br, be_bE0, be_bE1, be_b1E, be_b0E, be_bkb, be_cast, Int.toNat_natCast, Int.reduceToNat, be_lt, be_le, be_eq, be_nt, be_ck, be_nz, be_bk, be_div, not_true_eq_false, not_false_eq_true, if_true, if_false, eq_self, Int.reduceEq, Int.reduceLT, Int.reduceLE, Bool.true_eq_false, Bool.false_eq_true, q0, q34, Int.le_refl, be_bF, hb]
  | true =>
    rw [cond_true]
    by_cases h1 : (c : Int) < s.1
    · rw [decide_eq_false (by omega), if_neg Bool.false_ne_true]
      refine ⟨e1, am_I (be_i (n : Int)), ?_, fun _ _ _ => rfl, t1, t2, t3, t4, t5, t6, t7⟩
      rw [am_b62_63]
      simp (disch := (first | assumption | omega | exact (be_gB _ _ _).1 | exact (be_gB _ _ _).2)) only [↓reduceIte, be_ofI, ↓be_ofN, ↓be_0, be_add, be_sub, be_mul, be_neg, be_rem, be_bi, be_bl, be_bv, be_br, be_bE0, be_bE1, be_b1E, be_b0E, be_bkb, be_cast, Int.toNat_natCast, Int.reduceToNat, be_lt, be_le, be_eq, be_nt, be_ck, be_nz, be_bk, be_div, not_true_eq_false, not_false_eq_true, if_true, if_false, eq_self, Int.reduceEq, Int.reduceLT, Int.reduceLE, Bool.true_eq_false, Bool.false_eq_true, q0, q33, Int.le_refl, be_bT, h1]
    · by_cases h2 : (c : Int) = s.1
      · by_cases h3 : s.2.1 < w
        · rw [decide_eq_true (Or.inr ⟨h2, h3⟩), if_pos rfl]
          refine ⟨e2, am_I (be_i 6), ?_, fr, st⟩
          rw [am_b62_63]
          simp (disch := (first | assumption | omega | exact (be_gB _ _ _).1 | exact (be_gB _ _ _).2)) only [↓reduceIte, be_ofI, ↓be_ofN, ↓be_0, be_add, be_sub, be_mul, be_neg, be_rem, be_bi, be_bl, be_bv, be_br, be_bE0, be_bE1, be_b1E, be_b0E, be_bkb, be_cast, Int.toNat_natCast, Int.reduceToNat, be_lt, be_le, be_eq, be_nt, be_ck, be_nz, be_bk, be_div, not_true_eq_false, not_false_eq_true, if_true, if_false, eq_self, Int.reduceEq, Int.reduceLT, Int.reduceLE, Bool.true_eq_false, Bool.false_eq_true, q0, q33, q34, Int.le_refl, be_bT, h1, h3]
          rw [if_neg (fun h => h h2), ← he3]
          exact up
        · rw [decide_eq_false (by omega), if_neg Bool.false_ne_true]
          refine ⟨e1, am_I (be_i (n : Int)), ?_, fun _ _ _ => rfl, t1, t2, t3, t4, t5, t6, t7⟩
          rw [am_b62_63]
          simp (disch := (first | assumption | omega | exact (be_gB _ _ _).1 | exact (be_gB _ _ _).2)) only [↓reduceIte, be_ofI, ↓be_ofN, ↓be_0, be_add, be_sub, be_mul, be_neg, be_rem, be_bi, be_bl, be_bv, be_br, be_bE0, be_bE1, be_b1E, be_b0E, be_bkb, be_cast, Int.toNat_natCast, Int.reduceToNat, be_lt, be_le, be_eq, be_nt, be_ck, be_nz, be_bk, be_div, not_true_eq_false, not_false_eq_true, if_true, if_false, eq_self, Int.reduceEq, Int.reduceLT, Int.reduceLE, Bool.true_eq_false, Bool.false_eq_true, q0, q33, q34, Int.le_refl, be_bT, h1, h3]
          rw [if_neg (fun h => h h2)]
      · rw [decide_eq_true (by omega), if_pos rfl]
        refine ⟨e2, am_I (be_i 6), ?_, fr, st⟩
        rw [am_b62_63]
        simp (disch := (first | assumption | omega | exact (be_gB _ _ _).1 | exact (be_gB _ _ _).2)) only [↓reduceIte, be_ofI, ↓be_ofN, ↓be_0, be_add, be_sub, be_mul, be_neg, be_rem, be_bi, be_bl, be_bv, be_br, be_bE0, be_bE1, be_b1E, be_b0E, be_bkb, be_cast, Int.toNat_natCast, Int.reduceToNat, be_lt, be_le, be_eq, be_nt, be_ck, be_nz, be_bk, be_div, not_true_eq_false, not_false_eq_true, if_true, if_false, eq_self, Int.reduceEq, Int.reduceLT, Int.reduceLE, Bool.true_eq_false, Bool.false_eq_true, q0, q33, q34, Int.le_refl, be_bT, h1, h2]
        rw [← he3]
        exact up
