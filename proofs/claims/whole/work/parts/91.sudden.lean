/-! CALLS, 19: sudden (printed by g91.py) -/
variable {d : Nat} {X : am_X} {a : Nat → Nat → Nat → Int32} {b : Nat → Nat → Nat → Int64} {u : Nat → Nat} {e : Nat → Nat → Nat → Int32} {f : Nat → Nat → Nat → Int64}
theorem be_any_iff {P : Nat → Bool} : ∀ {n : Nat}, be_any P n = true ↔ ∃ k, k < n ∧ P k = true
  | 0 => by simp [be_any]
  | n + 1 => by
    rw [be_any, Bool.or_eq_true, be_any_iff]
    constructor
    · rintro (⟨k, h1, h2⟩ | h)
      · exact ⟨k, by omega, h2⟩
      · exact ⟨n, by omega, h⟩
    · rintro ⟨k, h1, h2⟩
      by_cases h : k = n
      · subst h; exact Or.inr h2
      · exact Or.inl ⟨k, by omega, h2⟩
theorem be_nmp {p : Prop} (h : p = (true = false)) : ¬ p := fun q => Bool.noConfusion (h.mp q)
/-- quarters of a span at which something is so -/
theorem be_anyR (P : Nat → Bool) (q : Nat) (T : Int) (hT : T ≤ 64) : (lg_cmp (be_mk P &&& be_mk (fun t => decide ((q : Int) ≤ (t : Int) ∧ (t : Int) < T))) (Int64.ofNat 0) = (0 : Int32)) = (be_any (fun i => P (q + i)) (T - q).toNat = false) := by
  rw [be_0, be_cmp0, be_mk_and, be_mk_eq0, ← Bool.not_eq_true, be_any_iff, eq_iff_iff]
  constructor
  · rintro h ⟨k, h1, h2⟩
    have := h (q + k) (by omega)
    rw [h2, Bool.true_and, decide_eq_false_iff_not] at this
    omega
  · intro h i hi
    by_cases hc : (q : Int) ≤ (i : Int) ∧ (i : Int) < T
    · cases hP : P i with
      | false => rfl
      | true => exact absurd ⟨i - q, by omega, by rw [show q + (i - q) = i by omega]; exact hP⟩ h
    · rw [decide_eq_false hc, Bool.and_false]
theorem be_su1 (hd : 7 ≤ d) (hW : be_W e) (hT : be_T2 e) {q N r : Nat} (hq : q ≤ 39) (hN : N ≤ 12) (hr : r < 4) (x1 x4 x5 : Int32) (M : Nat) (hM : M = (min ((q : Int) + N) (be_q e) - q).toNat) : ∀ (n j : Nat) (z : Int) (p g : Bool), j + n = M → z = ((q + j : Nat) : Int) → p = be_any (fun i => be_iM e (be_g e 50 3) r (be_nh e) (q + i)) j → g = !be_any (fun i => be_hM e (be_g e 50 3) r (be_nh e) (q + i)) j →
    am_fix (am_sem X d) X am_P77 85 [.inr (50, 0), am_I x1, am_I (be_i ((q : Int))), am_I (be_i ((N : Int))), am_I x4, am_I x5, am_I (be_i ((r : Int))), am_I (be_i (be_b p)), am_I (be_i (be_b g)), am_I (be_i (z))] [] (am_sd a b u e f) =
    am_fix (am_sem X d) X am_P77 98 [.inr (50, 0), am_I x1, am_I (be_i ((q : Int))), am_I (be_i ((N : Int))), am_I x4, am_I x5, am_I (be_i ((r : Int))), am_I (be_i (be_b (be_any (fun i => be_iM e (be_g e 50 3) r (be_nh e) (q + i)) M))), am_I (be_i (be_b (!be_any (fun i => be_hM e (be_g e 50 3) r (be_nh e) (q + i)) M))), am_I (be_i (((q + M : Nat) : Int)))] [am_I (be_i (min ((q : Int) + N) (be_q e))), am_I (be_i (((q + M : Nat) : Int)))] (am_sd a b u e f) := by
  have hqR := be_qR e
  have v1 := be_m33 (X := X) (a := a) (b := b) (u := u) (e := e) (f := f) (d := d) (by omega) hT.1
  have v2 := be_m3 (X := X) (a := a) (b := b) (u := u) (e := e) (f := f) (d := d) (x := (q : Int) + N) (y := be_q e) (by omega) (by omega) (by omega) (by omega) (by omega)
  have head : ∀ (z : Int) (p g : Int32), am_fix (am_sem X d) X am_P77 85 [.inr (50, 0), am_I x1, am_I (be_i ((q : Int))), am_I (be_i ((N : Int))), am_I x4, am_I x5, am_I (be_i ((r : Int))), am_I p, am_I g, am_I (be_i (z))] [] (am_sd a b u e f) = am_fix (am_sem X d) X am_P77 98 [.inr (50, 0), am_I x1, am_I (be_i ((q : Int))), am_I (be_i ((N : Int))), am_I x4, am_I x5, am_I (be_i ((r : Int))), am_I p, am_I g, am_I (be_i (z))] [am_I (be_i (min ((q : Int) + N) (be_q e))), am_I (be_i (z))] (am_sd a b u e f) := by
    intro z p g
    rw [am_b77_85, v1, be_bi, am_b77_95, be_add, v2, be_bi]
  intro n
  induction n with
  | zero =>
    rintro j z p g hj rfl rfl rfl
    obtain rfl : j = M := hj
    exact head _ _ _
  | succ n ih =>
    rintro j z p g hj rfl hp hg
    have v3 := be_m43 (X := X) (a := a) (b := b) (u := u) (e := e) (f := f) (d := d) (r := (r : Int)) (t := q + j) (by omega) hW hT (by omega) (by omega) (by omega)
    have v4 := be_m44 (X := X) (a := a) (b := b) (u := u) (e := e) (f := f) (d := d) (r := (r : Int)) (t := q + j) (by omega) hW hT (by omega) (by omega) (by omega)
    obtain ⟨b1, b2⟩ := be_SB e hW (be_g e 50 3) r (q + j)
    have w : ¬ min ((q : Int) + N) (be_q e) ≤ ((q + j : Nat) : Int) := by omega
    have ei : be_any (fun i => be_iM e (be_g e 50 3) r (be_nh e) (q + i)) (j + 1) = (p || be_iM e (be_g e 50 3) r (be_nh e) (q + j)) := by rw [hp]; rfl
    have eh : (!be_any (fun i => be_hM e (be_g e 50 3) r (be_nh e) (q + i)) (j + 1)) = (g && !be_hM e (be_g e 50 3) r (be_nh e) (q + j)) := by rw [hg, ← Bool.not_or]; rfl
    unfold be_iM at ei
    unfold be_hM at eh
    have ih' := fun p g h1 h2 => ih (j + 1) (((q + j : Nat) : Int) + 1) p g (by omega) (by omega) h1 h2
    rw [head, am_b77_98]
    cases hpb : p with
    | true =>
      rw [hpb, Bool.true_or] at ei
      cases hgb : g with
      | false =>
        rw [hgb, Bool.false_and] at eh
        simp (disch := (first | assumption | omega | exact (be_gB _ _ _).1 | exact (be_gB _ _ _).2)) only [↓reduceIte, be_ofI, ↓be_ofN, ↓be_0, be_add, be_sub, be_mul, be_neg, be_rem, be_bi, be_bl, be_bv, be_br, be_bE0, be_bE1, be_b1E, be_b0E, be_bkb, be_cast, Int.toNat_natCast, Int.reduceToNat, be_lt, be_le, be_eq, be_nt, be_ck, be_nz, be_bk, be_div, not_true_eq_false, not_false_eq_true, if_true, if_false, eq_self, Int.reduceEq, Int.reduceLT, Int.reduceLE, Bool.true_eq_false, Bool.false_eq_true, w]
        exact ih' true false ei.symm eh.symm
      | true =>
        rw [hgb, Bool.true_and] at eh
        simp (disch := (first | assumption | omega | exact (be_gB _ _ _).1 | exact (be_gB _ _ _).2)) only [↓reduceIte, be_ofI, ↓be_ofN, ↓be_0, be_add, be_sub, be_mul, be_neg, be_rem, be_bi, be_bl, be_bv, be_br, be_bE0, be_bE1, be_b1E, be_b0E, be_bkb, be_cast, Int.toNat_natCast, Int.reduceToNat, be_lt, be_le, be_eq, be_nt, be_ck, be_nz, be_bk, be_div, not_true_eq_false, not_false_eq_true, if_true, if_false, eq_self, Int.reduceEq, Int.reduceLT, Int.reduceLE, Bool.true_eq_false, Bool.false_eq_true, w]
        rw [v4, be_bi, am_b77_137]
        by_cases hz : be_hS e (be_g e 50 3) r (q + j) (be_nh e) = 0
        · rw [decide_eq_false (fun h => h hz)] at eh
          simp (disch := (first | assumption | omega | exact (be_gB _ _ _).1 | exact (be_gB _ _ _).2)) only [↓reduceIte, be_ofI, ↓be_ofN, ↓be_0, be_add, be_sub, be_mul, be_neg, be_rem, be_bi, be_bl, be_bv, be_br, be_bE0, be_bE1, be_b1E, be_b0E, be_bkb, be_cast, Int.toNat_natCast, Int.reduceToNat, be_lt, be_le, be_eq, be_nt, be_ck, be_nz, be_bk, be_div, not_true_eq_false, not_false_eq_true, if_true, if_false, eq_self, Int.reduceEq, Int.reduceLT, Int.reduceLE, Bool.true_eq_false, Bool.false_eq_true, hz, Int.natCast_zero]
          exact ih' true true ei.symm eh.symm
        · have hz' : ¬ ((be_hS e (be_g e 50 3) r (q + j) (be_nh e) : Nat) : Int) = 0 := by omega
          rw [decide_eq_true hz] at eh
          simp (disch := (first | assumption | omega | exact (be_gB _ _ _).1 | exact (be_gB _ _ _).2)) only [↓reduceIte, be_ofI, ↓be_ofN, ↓be_0, be_add, be_sub, be_mul, be_neg, be_rem, be_bi, be_bl, be_bv, be_br, be_bE0, be_bE1, be_b1E, be_b0E, be_bkb, be_cast, Int.toNat_natCast, Int.reduceToNat, be_lt, be_le, be_eq, be_nt, be_ck, be_nz, be_bk, be_div, not_true_eq_false, not_false_eq_true, if_true, if_false, eq_self, Int.reduceEq, Int.reduceLT, Int.reduceLE, Bool.true_eq_false, Bool.false_eq_true, hz']
          exact ih' true false ei.symm eh.symm
    | false =>
      rw [hpb, Bool.false_or] at ei
      simp (disch := (first | assumption | omega | exact (be_gB _ _ _).1 | exact (be_gB _ _ _).2)) only [↓reduceIte, be_ofI, ↓be_ofN, ↓be_0, be_add, be_sub, be_mul, be_neg, be_rem, be_bi, be_bl, be_bv, be_br, be_bE0, be_bE1, be_b1E, be_b0E, be_bkb, be_cast, Int.toNat_natCast, Int.reduceToNat, be_lt, be_le, be_eq, be_nt, be_ck, be_nz, be_bk, be_div, not_true_eq_false, not_false_eq_true, if_true, if_false, eq_self, Int.reduceEq, Int.reduceLT, Int.reduceLE, Bool.true_eq_false, Bool.false_eq_true, w]
      rw [v3, be_bi, am_b77_114]
      by_cases hy : be_iS e (be_g e 50 3) r (q + j) (be_nh e) = 0
      · rw [decide_eq_false (fun h => h hy)] at ei
        cases hgb : g with
        | false =>
          rw [hgb, Bool.false_and] at eh
          simp (disch := (first | assumption | omega | exact (be_gB _ _ _).1 | exact (be_gB _ _ _).2)) only [↓reduceIte, be_ofI, ↓be_ofN, ↓be_0, be_add, be_sub, be_mul, be_neg, be_rem, be_bi, be_bl, be_bv, be_br, be_bE0, be_bE1, be_b1E, be_b0E, be_bkb, be_cast, Int.toNat_natCast, Int.reduceToNat, be_lt, be_le, be_eq, be_nt, be_ck, be_nz, be_bk, be_div, not_true_eq_false, not_false_eq_true, if_true, if_false, eq_self, Int.reduceEq, Int.reduceLT, Int.reduceLE, Bool.true_eq_false, Bool.false_eq_true, hy, Int.natCast_zero]
          exact ih' false false ei.symm eh.symm
        | true =>
          rw [hgb, Bool.true_and] at eh
          simp (disch := (first | assumption | omega | exact (be_gB _ _ _).1 | exact (be_gB _ _ _).2)) only [↓reduceIte, be_ofI, ↓be_ofN, ↓be_0, be_add, be_sub, be_mul, be_neg, be_rem, be_bi, be_bl, be_bv, be_br, be_bE0, be_bE1, be_b1E, be_b0E, be_bkb, be_cast, Int.toNat_natCast, Int.reduceToNat, be_lt, be_le, be_eq, be_nt, be_ck, be_nz, be_bk, be_div, not_true_eq_false, not_false_eq_true, if_true, if_false, eq_self, Int.reduceEq, Int.reduceLT, Int.reduceLE, Bool.true_eq_false, Bool.false_eq_true, hy, Int.natCast_zero]
          rw [v4, be_bi, am_b77_137]
          by_cases hz : be_hS e (be_g e 50 3) r (q + j) (be_nh e) = 0
          · rw [decide_eq_false (fun h => h hz)] at eh
            simp (disch := (first | assumption | omega | exact (be_gB _ _ _).1 | exact (be_gB _ _ _).2)) only [↓reduceIte, be_ofI, ↓be_ofN, ↓be_0, be_add, be_sub, be_mul, be_neg, be_rem, be_bi, be_bl, be_bv, be_br, be_bE0, be_bE1, be_b1E, be_b0E, be_bkb, be_cast, Int.toNat_natCast, Int.reduceToNat, be_lt, be_le, be_eq, be_nt, be_ck, be_nz, be_bk, be_div, not_true_eq_false, not_false_eq_true, if_true, if_false, eq_self, Int.reduceEq, Int.reduceLT, Int.reduceLE, Bool.true_eq_false, Bool.false_eq_true, hz, Int.natCast_zero]
            exact ih' false true ei.symm eh.symm
          · have hz' : ¬ ((be_hS e (be_g e 50 3) r (q + j) (be_nh e) : Nat) : Int) = 0 := by omega
            rw [decide_eq_true hz] at eh
            simp (disch := (first | assumption | omega | exact (be_gB _ _ _).1 | exact (be_gB _ _ _).2)) only [↓reduceIte, be_ofI, ↓be_ofN, ↓be_0, be_add, be_sub, be_mul, be_neg, be_rem, be_bi, be_bl, be_bv, be_br, be_bE0, be_bE1, be_b1E, be_b0E, be_bkb, be_cast, Int.toNat_natCast, Int.reduceToNat, be_lt, be_le, be_eq, be_nt, be_ck, be_nz, be_bk, be_div, not_true_eq_false, not_false_eq_true, if_true, if_false, eq_self, Int.reduceEq, Int.reduceLT, Int.reduceLE, Bool.true_eq_false, Bool.false_eq_true, hz']
            exact ih' false false ei.symm eh.symm
      · have hy' : ¬ ((be_iS e (be_g e 50 3) r (q + j) (be_nh e) : Nat) : Int) = 0 := by omega
        rw [decide_eq_true hy] at ei
        cases hgb : g with
        | false =>
          rw [hgb, Bool.false_and] at eh
          simp (disch := (first | assumption | omega | exact (be_gB _ _ _).1 | exact (be_gB _ _ _).2)) only [↓reduceIte, be_ofI, ↓be_ofN, ↓be_0, be_add, be_sub, be_mul, be_neg, be_rem, be_bi, be_bl, be_bv, be_br, be_bE0, be_bE1, be_b1E, be_b0E, be_bkb, be_cast, Int.toNat_natCast, Int.reduceToNat, be_lt, be_le, be_eq, be_nt, be_ck, be_nz, be_bk, be_div, not_true_eq_false, not_false_eq_true, if_true, if_false, eq_self, Int.reduceEq, Int.reduceLT, Int.reduceLE, Bool.true_eq_false, Bool.false_eq_true, hy']
          exact ih' true false ei.symm eh.symm
        | true =>
          rw [hgb, Bool.true_and] at eh
          simp (disch := (first | assumption | omega | exact (be_gB _ _ _).1 | exact (be_gB _ _ _).2)) only [↓reduceIte, be_ofI, ↓be_ofN, ↓be_0, be_add, be_sub, be_mul, be_neg, be_rem, be_bi, be_bl, be_bv, be_br, be_bE0, be_bE1, be_b1E, be_b0E, be_bkb, be_cast, Int.toNat_natCast, Int.reduceToNat, be_lt, be_le, be_eq, be_nt, be_ck, be_nz, be_bk, be_div, not_true_eq_false, not_false_eq_true, if_true, if_false, eq_self, Int.reduceEq, Int.reduceLT, Int.reduceLE, Bool.true_eq_false, Bool.false_eq_true, hy']
          rw [v4, be_bi, am_b77_137]
          by_cases hz : be_hS e (be_g e 50 3) r (q + j) (be_nh e) = 0
          · rw [decide_eq_false (fun h => h hz)] at eh
            simp (disch := (first | assumption | omega | exact (be_gB _ _ _).1 | exact (be_gB _ _ _).2)) only [↓reduceIte, be_ofI, ↓be_ofN, ↓be_0, be_add, be_sub, be_mul, be_neg, be_rem, be_bi, be_bl, be_bv, be_br, be_bE0, be_bE1, be_b1E, be_b0E, be_bkb, be_cast, Int.toNat_natCast, Int.reduceToNat, be_lt, be_le, be_eq, be_nt, be_ck, be_nz, be_bk, be_div, not_true_eq_false, not_false_eq_true, if_true, if_false, eq_self, Int.reduceEq, Int.reduceLT, Int.reduceLE, Bool.true_eq_false, Bool.false_eq_true, hz, Int.natCast_zero]
            exact ih' true true ei.symm eh.symm
          · have hz' : ¬ ((be_hS e (be_g e 50 3) r (q + j) (be_nh e) : Nat) : Int) = 0 := by omega
            rw [decide_eq_true hz] at eh
            simp (disch := (first | assumption | omega | exact (be_gB _ _ _).1 | exact (be_gB _ _ _).2)) only [↓reduceIte, be_ofI, ↓be_ofN, ↓be_0, be_add, be_sub, be_mul, be_neg, be_rem, be_bi, be_bl, be_bv, be_br, be_bE0, be_bE1, be_b1E, be_b0E, be_bkb, be_cast, Int.toNat_natCast, Int.reduceToNat, be_lt, be_le, be_eq, be_nt, be_ck, be_nz, be_bk, be_div, not_true_eq_false, not_false_eq_true, if_true, if_false, eq_self, Int.reduceEq, Int.reduceLT, Int.reduceLE, Bool.true_eq_false, Bool.false_eq_true, hz']
            exact ih' true false ei.symm eh.symm
/-- the best room so far: its rank there and here -/
def be_RK (s : Int) (b R L : Int) : Prop := (b = -5 ∧ R = 0 ∧ L = 0) ∨ (0 ≤ b ∧ b ≤ 4 ∧ ((s ≤ R ∧ R ≤ 20 ∧ L = R) ∨ (s + 20 ≤ R ∧ R ≤ 40 ∧ L = R + 80)))
theorem be_csudden (hd : 12 ≤ d) (hI : be_IV a b u e f) {s q n : Int} (hs1 : -2147483648 ≤ s) (hs2 : s < 2147483648) (hq1 : -2147483648 ≤ q) (hq2 : q < 2147483648) (hn1 : -2147483648 ≤ n) (hn2 : n < 2147483648) : be_C X d 228 77 [am_I (be_i (s)), am_I (be_i (q)), am_I (be_i (n))] a b u e f := by
  obtain ⟨d, rfl⟩ : ∃ q, d = q + 1 := ⟨d - 1, by omega⟩
  have he := be_gI e
  obtain ⟨hW, hW2, hT, hh, hD, hth, hX⟩ := hI.1
  have hW1 := hW.1
  obtain ⟨nr, nr2⟩ := be_nrR hW
  have hqR := be_qR e
  have c1 := be_m250 (X := X) (a := a) (b := b) (u := u) (e := e) (f := f) (d := d) (x := s) (y := 1) (z := 20) (by omega) hs1 hs2 (by decide) (by decide) (by decide) (by decide)
  have c2 := be_m251 (X := X) (a := a) (b := b) (u := u) (e := e) (f := f) (d := d) (x := q) (by omega) hq1 hq2
  have c3 := be_m250 (X := X) (a := a) (b := b) (u := u) (e := e) (f := f) (d := d) (x := n) (y := 1) (z := 12) (by omega) hn1 hn2 (by decide) (by decide) (by decide) (by decide)
  have r1 := be_m8 (X := X) (a := a) (b := b) (u := u) (e := e) (f := f) (d := d) (x := s) (by omega) hs1 hs2
  have r2 := be_m7 (X := X) (a := a) (b := b) (u := u) (e := e) (f := f) (d := d) (x := q) (by omega) hq1 hq2
  have r3 := be_m1 (X := X) (a := a) (b := b) (u := u) (e := e) (f := f) (d := d) (x := n) (y := 1) (z := 12) (by omega) hn1 hn2 (by decide) (by decide) (by decide) (by decide)
  by_cases g1 : 1 ≤ s ∧ s ≤ 20
  · rw [decide_eq_true g1] at c1 r1
    by_cases g2 : 0 ≤ q ∧ q ≤ 39
    · rw [decide_eq_true g2] at c2 r2
      by_cases g3 : 1 ≤ n ∧ n ≤ 12
      · rw [decide_eq_true g3] at c3 r3
        obtain ⟨q, rfl⟩ := be_0le g2.1
        obtain ⟨N, rfl⟩ := be_0le (show 0 ≤ n by omega)
        have hsp := be_m142 (be_q e) (X := X) (a := a) (b := b) (u := u) (e := e) (f := f) (d := d) (i := 0) (x := (q : Int)) (y := (q : Int) + N) (by omega) hX.1.2.2.2.2.1 (by omega) (by omega) (by omega) (by omega) (by omega) (by omega)
        obtain ⟨M, hM⟩ : ∃ M, M = (min ((q : Int) + N) (be_q e) - q).toNat := ⟨_, rfl⟩
        have o2 : a 2 0 2 = be_i (be_nr e : Int) := by rw [hX.1.1, nr2]
        have o4 : a 2 0 4 = be_i (be_g e 50 3) := hX.1.2.2.1
        have e0 : e 50 0 0 = be_i (be_nr e : Int) := by rw [he, nr2]
        have key : ∀ (m k : Nat) (z B R L : Int) (z9 z10 z11 y7 y8 y9 : am_V), k + m = be_nr e → z = (k : Int) → be_RK s B R L → ∃ v : Int32, am_fix (am_sem X d) X am_P228 53 [.inr (9, 0), am_I (be_i (s)), am_I (be_i ((q : Int))), am_I (be_i ((N : Int))), am_J (be_mk (fun t => decide ((q : Int) ≤ (t : Int) ∧ (t : Int) < min ((q : Int) + N) (be_q e)))), am_un, am_I (be_i (B)), am_I (be_i (R)), am_I (be_i (z)), z9, z10, z11] [] (am_sd a b u e f) = some (some (am_I v), (am_sd a b u e f)) ∧
            am_fix (am_sem X d) X am_P77 40 [.inr (50, 0), am_I (be_i (s)), am_I (be_i ((q : Int))), am_I (be_i ((N : Int))), am_I (be_i (B)), am_I (be_i (L)), am_I (be_i (z)), y7, y8, y9] [] (am_sd a b u e f) = some (some (am_I v), (am_sd a b u e f)) := by
          intro m
          induction m with
          | zero =>
            rintro k z B R L z9 z10 z11 y7 y8 y9 hk rfl hR
            obtain rfl : k = be_nr e := hk
            refine ⟨be_i B, ?_, ?_⟩
            · rw [am_b228_53]
              simp (disch := (first | assumption | omega | exact (be_gB _ _ _).1 | exact (be_gB _ _ _).2)) only [↓reduceIte, be_ofI, ↓be_ofN, ↓be_0, be_add, be_sub, be_mul, be_neg, be_rem, be_bi, be_bl, be_bv, be_br, be_bE0, be_bE1, be_b1E, be_b0E, be_bkb, be_cast, Int.toNat_natCast, Int.reduceToNat, be_lt, be_le, be_eq, be_nt, be_ck, be_nz, be_bk, be_div, o2, Int.le_refl]
            · rw [am_b77_40]
              simp (disch := (first | assumption | omega | exact (be_gB _ _ _).1 | exact (be_gB _ _ _).2)) only [↓reduceIte, be_ofI, ↓be_ofN, ↓be_0, be_add, be_sub, be_mul, be_neg, be_rem, be_bi, be_bl, be_bv, be_br, be_bE0, be_bE1, be_b1E, be_b0E, be_bkb, be_cast, Int.toNat_natCast, Int.reduceToNat, be_lt, be_le, be_eq, be_nt, be_ck, be_nz, be_bk, be_div, e0, Int.le_refl]
          | succ m ih =>
            rintro k z B R L z9 z10 z11 y7 y8 y9 hk rfl hR
            have hRR := be_RR0 hX (show k < be_nr e by omega)
            have w : ¬ (be_nr e : Int) ≤ (k : Int) := by omega
            have hS := hW.2.2.1 k (by omega)
            have p1 := be_m148 (X := X) (a := a) (b := b) (u := u) (e := e) (f := f) (d := d) (i := 0) (r := k) (by omega) hW hT.1 (by omega) hX.1 (y := be_g e 50 3) (by omega) (by omega)
            have p2 := be_m147 (X := X) (a := a) (b := b) (u := u) (e := e) (f := f) (d := d) (i := 0) (r := k) (by omega) hW hT.1 (by omega) hX.1 (y := be_g e 50 3) (by omega) (by omega)
            have f1 := be_m2 (X := X) (a := a) (b := b) (u := u) (e := e) (f := f) (d := d) (x := be_g e 50 1) (k := k) (by omega) (by omega) (by omega) (by omega)
            have hft : decide (be_g e 50 1 / ((2 ^ k : Nat) : Int) % 2 = 1) = be_ft e k := rfl
            have t1 := hRR.2.1
            have t2 := hRR.2.2
            have hB5 : -5 ≤ B ∧ B ≤ 4 ∧ 0 ≤ R ∧ R ≤ 40 ∧ 0 ≤ L ∧ L ≤ 120 := by unfold be_RK at hR; omega
            by_cases hs : be_g e 51 k < s
            · cases hf : be_ft e k with
              | true =>
                rw [hf] at t2
                obtain ⟨v, v1, v2⟩ := ih (k + 1) ((k : Int) + 1) B R L (.inr (5, k)) z10 z11 y7 y8 y9 (by omega) (by omega) hR
                refine ⟨v, ?_, ?_⟩
                · rw [am_b228_53]
                  simp (disch := (first | assumption | omega | exact (be_gB _ _ _).1 | exact (be_gB _ _ _).2)) only [↓reduceIte, be_ofI, ↓be_ofN, ↓be_0, be_add, be_sub, be_mul, be_neg, be_rem, be_bi, be_bl, be_bv, be_br, be_bE0, be_bE1, be_b1E, be_b0E, be_bkb, be_cast, Int.toNat_natCast, Int.reduceToNat, be_lt, be_le, be_eq, be_nt, be_ck, be_nz, be_bk, be_div, not_true_eq_false, not_false_eq_true, if_true, if_false, eq_self, Int.reduceEq, Int.reduceLT, Int.reduceLE, Bool.true_eq_false, Bool.false_eq_true, o2, w, t2, show (k : Int).toNat = k from rfl]
                  exact v1
                · rw [am_b77_40]
                  simp (disch := (first | assumption | omega | exact (be_gB _ _ _).1 | exact (be_gB _ _ _).2)) only [↓reduceIte, be_ofI, ↓be_ofN, ↓be_0, be_add, be_sub, be_mul, be_neg, be_rem, be_bi, be_bl, be_bv, be_br, be_bE0, be_bE1, be_b1E, be_b0E, be_bkb, be_cast, Int.toNat_natCast, Int.reduceToNat, be_lt, be_le, be_eq, be_nt, be_ck, be_nz, be_bk, be_div, not_true_eq_false, not_false_eq_true, if_true, if_false, eq_self, Int.reduceEq, Int.reduceLT, Int.reduceLE, Bool.true_eq_false, Bool.false_eq_true, e0, he, w, hs, show (k : Int).toNat = k from rfl]
                  exact v2
              | false =>
                rw [hf] at t2
                obtain ⟨v, v1, v2⟩ := ih (k + 1) ((k : Int) + 1) B R L (.inr (5, k)) z10 z11 y7 y8 y9 (by omega) (by omega) hR
                refine ⟨v, ?_, ?_⟩
                · rw [am_b228_53]
                  simp (disch := (first | assumption | omega | exact (be_gB _ _ _).1 | exact (be_gB _ _ _).2)) only [↓reduceIte, be_ofI, ↓be_ofN, ↓be_0, be_add, be_sub, be_mul, be_neg, be_rem, be_bi, be_bl, be_bv, be_br, be_bE0, be_bE1, be_b1E, be_b0E, be_bkb, be_cast, Int.toNat_natCast, Int.reduceToNat, be_lt, be_le, be_eq, be_nt, be_ck, be_nz, be_bk, be_div, not_true_eq_false, not_false_eq_true, if_true, if_false, eq_self, Int.reduceEq, Int.reduceLT, Int.reduceLE, Bool.true_eq_false, Bool.false_eq_true, o2, w, t1, t2, hs, show (k : Int).toNat = k from rfl]
                  exact v1
                · rw [am_b77_40]
                  simp (disch := (first | assumption | omega | exact (be_gB _ _ _).1 | exact (be_gB _ _ _).2)) only [↓reduceIte, be_ofI, ↓be_ofN, ↓be_0, be_add, be_sub, be_mul, be_neg, be_rem, be_bi, be_bl, be_bv, be_br, be_bE0, be_bE1, be_b1E, be_b0E, be_bkb, be_cast, Int.toNat_natCast, Int.reduceToNat, be_lt, be_le, be_eq, be_nt, be_ck, be_nz, be_bk, be_div, not_true_eq_false, not_false_eq_true, if_true, if_false, eq_self, Int.reduceEq, Int.reduceLT, Int.reduceLE, Bool.true_eq_false, Bool.false_eq_true, e0, he, w, hs, show (k : Int).toNat = k from rfl]
                  exact v2
            · cases hf : be_ft e k with
              | true =>
                rw [hf] at t2
                rw [hft, hf] at f1
                obtain ⟨v, v1, v2⟩ := ih (k + 1) ((k : Int) + 1) B R L (.inr (5, k)) z10 z11 y7 y8 y9 (by omega) (by omega) hR
                refine ⟨v, ?_, ?_⟩
                · rw [am_b228_53]
                  simp (disch := (first | assumption | omega | exact (be_gB _ _ _).1 | exact (be_gB _ _ _).2)) only [↓reduceIte, be_ofI, ↓be_ofN, ↓be_0, be_add, be_sub, be_mul, be_neg, be_rem, be_bi, be_bl, be_bv, be_br, be_bE0, be_bE1, be_b1E, be_b0E, be_bkb, be_cast, Int.toNat_natCast, Int.reduceToNat, be_lt, be_le, be_eq, be_nt, be_ck, be_nz, be_bk, be_div, not_true_eq_false, not_false_eq_true, if_true, if_false, eq_self, Int.reduceEq, Int.reduceLT, Int.reduceLE, Bool.true_eq_false, Bool.false_eq_true, o2, w, t2, show (k : Int).toNat = k from rfl]
                  exact v1
                · rw [am_b77_40]
                  simp (disch := (first | assumption | omega | exact (be_gB _ _ _).1 | exact (be_gB _ _ _).2)) only [↓reduceIte, be_ofI, ↓be_ofN, ↓be_0, be_add, be_sub, be_mul, be_neg, be_rem, be_bi, be_bl, be_bv, be_br, be_bE0, be_bE1, be_b1E, be_b0E, be_bkb, be_cast, Int.toNat_natCast, Int.reduceToNat, be_lt, be_le, be_eq, be_nt, be_ck, be_nz, be_bk, be_div, not_true_eq_false, not_false_eq_true, if_true, if_false, eq_self, Int.reduceEq, Int.reduceLT, Int.reduceLE, Bool.true_eq_false, Bool.false_eq_true, e0, he, w, hs, f1, am_b77_70, show (k : Int).toNat = k from rfl]
                  exact v2
              | false =>
                rw [hf] at t2
                rw [hft, hf] at f1
                have L1 := be_su1 (X := X) (a := a) (b := b) (u := u) (e := e) (f := f) (d := d) (q := q) (N := N) (r := k) (by omega) hW hT.1 (by omega) (by omega) (by omega) (be_i s) (be_i B) (be_i L) M hM M 0 (q : Int) false true (Nat.zero_add _) rfl rfl rfl
                have a1 := be_anyR (be_iM e (be_g e 50 3) k (be_nh e)) q (min ((q : Int) + N) (be_q e)) (by omega)
                have a2 := be_anyR (be_hM e (be_g e 50 3) k (be_nh e)) q (min ((q : Int) + N) (be_q e)) (by omega)
                rw [← hM] at a1 a2
                obtain ⟨I1, hI1⟩ : ∃ I1, I1 = be_any (fun i => be_iM e (be_g e 50 3) k (be_nh e) (q + i)) M := ⟨_, rfl⟩
                obtain ⟨H1, hH1⟩ : ∃ H1, H1 = be_any (fun i => be_hM e (be_g e 50 3) k (be_nh e) (q + i)) M := ⟨_, rfl⟩
                rw [← hI1] at a1 L1
                rw [← hH1] at a2 L1
                have Cl : am_fix (am_sem X d) X am_P228 53 [.inr (9, 0), am_I (be_i (s)), am_I (be_i ((q : Int))), am_I (be_i ((N : Int))), am_J (be_mk (fun t => decide ((q : Int) ≤ (t : Int) ∧ (t : Int) < min ((q : Int) + N) (be_q e)))), am_un, am_I (be_i (B)), am_I (be_i (R)), am_I (be_i ((k : Int))), z9, z10, z11] [] (am_sd a b u e f) =
                    am_fix (am_sem X d) X am_P228 110 [.inr (9, 0), am_I (be_i (s)), am_I (be_i ((q : Int))), am_I (be_i ((N : Int))), am_J (be_mk (fun t => decide ((q : Int) ≤ (t : Int) ∧ (t : Int) < min ((q : Int) + N) (be_q e)))), am_un, am_I (be_i (B)), am_I (be_i (R)), am_I (be_i ((k : Int))), .inr (5, k), z10, z11] [am_J (be_mk (be_iM e (be_g e 50 3) k (be_nh e)))] (am_sd a b u e f) := by
                  rw [am_b228_53]
                  simp (disch := (first | assumption | omega | exact (be_gB _ _ _).1 | exact (be_gB _ _ _).2)) only [↓reduceIte, be_ofI, ↓be_ofN, ↓be_0, be_add, be_sub, be_mul, be_neg, be_rem, be_bi, be_bl, be_bv, be_br, be_bE0, be_bE1, be_b1E, be_b0E, be_bkb, be_cast, Int.toNat_natCast, Int.reduceToNat, be_lt, be_le, be_eq, be_nt, be_ck, be_nz, be_bk, be_div, not_true_eq_false, not_false_eq_true, if_true, if_false, eq_self, Int.reduceEq, Int.reduceLT, Int.reduceLE, Bool.true_eq_false, Bool.false_eq_true, o2, o4, w, t1, t2, hs, p1, show (k : Int).toNat = k from rfl]
                have Rf : am_fix (am_sem X d) X am_P77 40 [.inr (50, 0), am_I (be_i (s)), am_I (be_i ((q : Int))), am_I (be_i ((N : Int))), am_I (be_i (B)), am_I (be_i (L)), am_I (be_i ((k : Int))), y7, y8, y9] [] (am_sd a b u e f) = am_fix (am_sem X d) X am_P77 98 [.inr (50, 0), am_I (be_i (s)), am_I (be_i ((q : Int))), am_I (be_i ((N : Int))), am_I (be_i (B)), am_I (be_i (L)), am_I (be_i ((k : Int))), am_I (be_i (be_b I1)), am_I (be_i (be_b (!H1))), am_I (be_i (((q + M : Nat) : Int)))] [am_I (be_i (min ((q : Int) + N) (be_q e))), am_I (be_i (((q + M : Nat) : Int)))] (am_sd a b u e f) := by
                  rw [am_b77_40]
                  simp (disch := (first | assumption | omega | exact (be_gB _ _ _).1 | exact (be_gB _ _ _).2)) only [↓reduceIte, be_ofI, ↓be_ofN, ↓be_0, be_add, be_sub, be_mul, be_neg, be_rem, be_bi, be_bl, be_bv, be_br, be_bE0, be_bE1, be_b1E, be_b0E, be_bkb, be_cast, Int.toNat_natCast, Int.reduceToNat, be_lt, be_le, be_eq, be_nt, be_ck, be_nz, be_bk, be_div, not_true_eq_false, not_false_eq_true, if_true, if_false, eq_self, Int.reduceEq, Int.reduceLT, Int.reduceLE, Bool.true_eq_false, Bool.false_eq_true, e0, he, w, hs, f1, am_b77_70, show (k : Int).toNat = k from rfl]
                  exact L1
                have wq : min ((q : Int) + N) (be_q e) ≤ ((q + M : Nat) : Int) := by omega
                cases hi : I1 with
                | true =>
                  rw [hi] at a1 Rf
                  have a1' := be_nmp a1
                  obtain ⟨v, v1, v2⟩ := ih (k + 1) ((k : Int) + 1) B R L (.inr (5, k)) z10 z11 (am_I (be_i 1)) (am_I (be_i (be_b !H1))) (am_I (be_i (be_g e 51 k + (if H1 = true then 100 else 0)))) (by omega) (by omega) hR
                  refine ⟨v, ?_, ?_⟩
                  · rw [Cl, am_b228_110, if_neg a1']
                    simp (disch := (first | assumption | omega | exact (be_gB _ _ _).1 | exact (be_gB _ _ _).2)) only [↓reduceIte, be_ofI, ↓be_ofN, ↓be_0, be_add, be_sub, be_mul, be_neg, be_rem, be_bi, be_bl, be_bv, be_br, be_bE0, be_bE1, be_b1E, be_b0E, be_bkb, be_cast, Int.toNat_natCast, Int.reduceToNat, be_lt, be_le, be_eq, be_nt, be_ck, be_nz, be_bk, be_div, not_true_eq_false, not_false_eq_true, if_true, if_false, eq_self, Int.reduceEq, Int.reduceLT, Int.reduceLE, Bool.true_eq_false, Bool.false_eq_true]
                    exact v1
                  · rw [Rf, am_b77_98]
                    cases hh1 : H1 <;> rw [hh1] at v2 <;> simp (disch := (first | assumption | omega | exact (be_gB _ _ _).1 | exact (be_gB _ _ _).2)) only [↓reduceIte, be_ofI, ↓be_ofN, ↓be_0, be_add, be_sub, be_mul, be_neg, be_rem, be_bi, be_bl, be_bv, be_br, be_bE0, be_bE1, be_b1E, be_b0E, be_bkb, be_cast, Int.toNat_natCast, Int.reduceToNat, be_lt, be_le, be_eq, be_nt, be_ck, be_nz, be_bk, be_div, not_true_eq_false, not_false_eq_true, if_true, if_false, eq_self, Int.reduceEq, Int.reduceLT, Int.reduceLE, Bool.true_eq_false, Bool.false_eq_true, wq, he, Bool.not_true, Bool.not_false, show (k : Int).toNat = k from rfl] at v2 ⊢ <;> exact v2
                | false =>
                  rw [hi] at a1 Rf
                  have a1' := a1.mpr rfl
                  have Cl2 := Cl
                  rw [am_b228_110, if_pos a1'] at Cl2
                  simp (disch := (first | assumption | omega | exact (be_gB _ _ _).1 | exact (be_gB _ _ _).2)) only [↓reduceIte, be_ofI, ↓be_ofN, ↓be_0, be_add, be_sub, be_mul, be_neg, be_rem, be_bi, be_bl, be_bv, be_br, be_bE0, be_bE1, be_b1E, be_b0E, be_bkb, be_cast, Int.toNat_natCast, Int.reduceToNat, be_lt, be_le, be_eq, be_nt, be_ck, be_nz, be_bk, be_div, not_true_eq_false, not_false_eq_true, if_true, if_false, eq_self, Int.reduceEq, Int.reduceLT, Int.reduceLE, Bool.true_eq_false, Bool.false_eq_true, o4, p2] at Cl2
                  cases hh1 : H1 with
                  | false =>
                    rw [hh1] at a2 Rf
                    have a2' := a2.mpr rfl
                    by_cases up : B < 0 ∨ be_g e 51 k < L
                    · obtain ⟨v, v1, v2⟩ := ih (k + 1) ((k : Int) + 1) (k : Int) (be_g e 51 k) (be_g e 51 k) (.inr (5, k)) (am_I (be_i 1)) (am_I (be_i (be_g e 51 k))) (am_I (be_i 0)) (am_I (be_i 1)) (am_I (be_i (be_g e 51 k))) (by omega) (by omega) (by unfold be_RK at hR ⊢; omega)
                      refine ⟨v, ?_, ?_⟩
                      · rw [Cl2, am_b228_137, if_neg (fun h => h a2')]
                        simp (disch := (first | assumption | omega | exact (be_gB _ _ _).1 | exact (be_gB _ _ _).2)) only [↓reduceIte, be_ofI, ↓be_ofN, ↓be_0, be_add, be_sub, be_mul, be_neg, be_rem, be_bi, be_bl, be_bv, be_br, be_bE0, be_bE1, be_b1E, be_b0E, be_bkb, be_cast, Int.toNat_natCast, Int.reduceToNat, be_lt, be_le, be_eq, be_nt, be_ck, be_nz, be_bk, be_div, t1]
                        by_cases hB : B = -5
                        · simp only [hB, ↓reduceIte]; exact v1
                        · rw [if_neg hB, if_neg (by unfold be_RK at hR; omega)]; exact v1
                      · rw [Rf, am_b77_98]
                        simp (disch := (first | assumption | omega | exact (be_gB _ _ _).1 | exact (be_gB _ _ _).2)) only [↓reduceIte, be_ofI, ↓be_ofN, ↓be_0, be_add, be_sub, be_mul, be_neg, be_rem, be_bi, be_bl, be_bv, be_br, be_bE0, be_bE1, be_b1E, be_b0E, be_bkb, be_cast, Int.toNat_natCast, Int.reduceToNat, be_lt, be_le, be_eq, be_nt, be_ck, be_nz, be_bk, be_div, not_true_eq_false, not_false_eq_true, if_true, if_false, eq_self, Int.reduceEq, Int.reduceLT, Int.reduceLE, Bool.true_eq_false, Bool.false_eq_true, wq, he, Bool.not_false, Int.add_zero, show (k : Int).toNat = k from rfl]
                        by_cases hB : B < 0
                        · rw [if_pos hB]; exact v2
                        · rw [if_neg hB, if_pos (by omega)]; exact v2
                    · obtain ⟨v, v1, v2⟩ := ih (k + 1) ((k : Int) + 1) B R L (.inr (5, k)) (am_I (be_i 1)) (am_I (be_i (be_g e 51 k))) (am_I (be_i 0)) (am_I (be_i 1)) (am_I (be_i (be_g e 51 k))) (by omega) (by omega) hR
                      refine ⟨v, ?_, ?_⟩
                      · rw [Cl2, am_b228_137, if_neg (fun h => h a2')]
                        simp (disch := (first | assumption | omega | exact (be_gB _ _ _).1 | exact (be_gB _ _ _).2)) only [↓reduceIte, be_ofI, ↓be_ofN, ↓be_0, be_add, be_sub, be_mul, be_neg, be_rem, be_bi, be_bl, be_bv, be_br, be_bE0, be_bE1, be_b1E, be_b0E, be_bkb, be_cast, Int.toNat_natCast, Int.reduceToNat, be_lt, be_le, be_eq, be_nt, be_ck, be_nz, be_bk, be_div, t1]
                        rw [if_neg (by omega), if_pos (by unfold be_RK at hR; omega)]; exact v1
                      · rw [Rf, am_b77_98]
                        simp (disch := (first | assumption | omega | exact (be_gB _ _ _).1 | exact (be_gB _ _ _).2)) only [↓reduceIte, be_ofI, ↓be_ofN, ↓be_0, be_add, be_sub, be_mul, be_neg, be_rem, be_bi, be_bl, be_bv, be_br, be_bE0, be_bE1, be_b1E, be_b0E, be_bkb, be_cast, Int.toNat_natCast, Int.reduceToNat, be_lt, be_le, be_eq, be_nt, be_ck, be_nz, be_bk, be_div, not_true_eq_false, not_false_eq_true, if_true, if_false, eq_self, Int.reduceEq, Int.reduceLT, Int.reduceLE, Bool.true_eq_false, Bool.false_eq_true, wq, he, Bool.not_false, Int.add_zero, show (k : Int).toNat = k from rfl]
                        rw [if_neg (by omega), if_neg (by omega)]; exact v2
                  | true =>
                    rw [hh1] at a2 Rf
                    have a2' := be_nmp a2
                    by_cases up : B < 0 ∨ be_g e 51 k + 100 < L
                    · obtain ⟨v, v1, v2⟩ := ih (k + 1) ((k : Int) + 1) (k : Int) (be_g e 51 k + 20) (be_g e 51 k + 100) (.inr (5, k)) (am_I (be_i 0)) (am_I (be_i (be_g e 51 k + 20))) (am_I (be_i 0)) (am_I (be_i 0)) (am_I (be_i (be_g e 51 k + 100))) (by omega) (by omega) (by unfold be_RK at hR ⊢; omega)
                      refine ⟨v, ?_, ?_⟩
                      · rw [Cl2, am_b228_137, if_pos a2']
                        simp (disch := (first | assumption | omega | exact (be_gB _ _ _).1 | exact (be_gB _ _ _).2)) only [↓reduceIte, be_ofI, ↓be_ofN, ↓be_0, be_add, be_sub, be_mul, be_neg, be_rem, be_bi, be_bl, be_bv, be_br, be_bE0, be_bE1, be_b1E, be_b0E, be_bkb, be_cast, Int.toNat_natCast, Int.reduceToNat, be_lt, be_le, be_eq, be_nt, be_ck, be_nz, be_bk, be_div, t1]
                        by_cases hB : B = -5
                        · simp only [hB, ↓reduceIte]; exact v1
                        · rw [if_neg hB, if_neg (by unfold be_RK at hR; omega)]; exact v1
                      · rw [Rf, am_b77_98]
                        simp (disch := (first | assumption | omega | exact (be_gB _ _ _).1 | exact (be_gB _ _ _).2)) only [↓reduceIte, be_ofI, ↓be_ofN, ↓be_0, be_add, be_sub, be_mul, be_neg, be_rem, be_bi, be_bl, be_bv, be_br, be_bE0, be_bE1, be_b1E, be_b0E, be_bkb, be_cast, Int.toNat_natCast, Int.reduceToNat, be_lt, be_le, be_eq, be_nt, be_ck, be_nz, be_bk, be_div, not_true_eq_false, not_false_eq_true, if_true, if_false, eq_self, Int.reduceEq, Int.reduceLT, Int.reduceLE, Bool.true_eq_false, Bool.false_eq_true, wq, he, Bool.not_true, show (k : Int).toNat = k from rfl]
                        by_cases hB : B < 0
                        · rw [if_pos hB]; exact v2
                        · rw [if_neg hB, if_pos (by omega)]; exact v2
                    · obtain ⟨v, v1, v2⟩ := ih (k + 1) ((k : Int) + 1) B R L (.inr (5, k)) (am_I (be_i 0)) (am_I (be_i (be_g e 51 k + 20))) (am_I (be_i 0)) (am_I (be_i 0)) (am_I (be_i (be_g e 51 k + 100))) (by omega) (by omega) hR
                      refine ⟨v, ?_, ?_⟩
                      · rw [Cl2, am_b228_137, if_pos a2']
                        simp (disch := (first | assumption | omega | exact (be_gB _ _ _).1 | exact (be_gB _ _ _).2)) only [↓reduceIte, be_ofI, ↓be_ofN, ↓be_0, be_add, be_sub, be_mul, be_neg, be_rem, be_bi, be_bl, be_bv, be_br, be_bE0, be_bE1, be_b1E, be_b0E, be_bkb, be_cast, Int.toNat_natCast, Int.reduceToNat, be_lt, be_le, be_eq, be_nt, be_ck, be_nz, be_bk, be_div, t1]
                        rw [if_neg (by omega), if_pos (by unfold be_RK at hR; omega)]; exact v1
                      · rw [Rf, am_b77_98]
                        simp (disch := (first | assumption | omega | exact (be_gB _ _ _).1 | exact (be_gB _ _ _).2)) only [↓reduceIte, be_ofI, ↓be_ofN, ↓be_0, be_add, be_sub, be_mul, be_neg, be_rem, be_bi, be_bl, be_bv, be_br, be_bE0, be_bE1, be_b1E, be_b0E, be_bkb, be_cast, Int.toNat_natCast, Int.reduceToNat, be_lt, be_le, be_eq, be_nt, be_ck, be_nz, be_bk, be_div, not_true_eq_false, not_false_eq_true, if_true, if_false, eq_self, Int.reduceEq, Int.reduceLT, Int.reduceLE, Bool.true_eq_false, Bool.false_eq_true, wq, he, Bool.not_true, show (k : Int).toNat = k from rfl]
                        rw [if_neg (by omega), if_neg (by omega)]; exact v2
        obtain ⟨v, v1, v2⟩ := key _ 0 0 (-5) 0 0 am_un am_un am_un am_un am_un am_un (Nat.zero_add _) rfl (Or.inl ⟨rfl, rfl, rfl⟩)
        refine be_Cp (v := v) hI ?_ ?_
        · rw [am_s228]
          simp (disch := (first | assumption | omega | exact (be_gB _ _ _).1 | exact (be_gB _ _ _).2)) only [↓reduceIte, be_ofI, ↓be_ofN, ↓be_0, be_add, be_sub, be_mul, be_neg, be_rem, be_bi, be_bl, be_bv, be_br, be_bE0, be_bE1, be_b1E, be_b0E, be_bkb, be_cast, Int.toNat_natCast, Int.reduceToNat, be_lt, be_le, be_eq, be_nt, be_ck, be_nz, be_bk, be_div, not_true_eq_false, not_false_eq_true, if_true, if_false, eq_self, Int.reduceEq, Int.reduceLT, Int.reduceLE, Bool.true_eq_false, Bool.false_eq_true, c1, c2, c3, am_b228_7, am_b228_14, am_b228_24]
          rw [hsp, be_bl, am_b228_41]
          exact v1
        · rw [am_s77]
          simp (disch := (first | assumption | omega | exact (be_gB _ _ _).1 | exact (be_gB _ _ _).2)) only [↓reduceIte, be_ofI, ↓be_ofN, ↓be_0, be_add, be_sub, be_mul, be_neg, be_rem, be_bi, be_bl, be_bv, be_br, be_bE0, be_bE1, be_b1E, be_b0E, be_bkb, be_cast, Int.toNat_natCast, Int.reduceToNat, be_lt, be_le, be_eq, be_nt, be_ck, be_nz, be_bk, be_div, not_true_eq_false, not_false_eq_true, if_true, if_false, eq_self, Int.reduceEq, Int.reduceLT, Int.reduceLE, Bool.true_eq_false, Bool.false_eq_true, r1, r2, r3, am_b77_5, am_b77_13, am_b77_24]
          exact v2
      · rw [decide_eq_false g3] at c3 r3
        refine be_Cp (v := be_i (-2)) hI ?_ ?_
        · rw [am_s228]
          simp (disch := (first | assumption | omega | exact (be_gB _ _ _).1 | exact (be_gB _ _ _).2)) only [↓reduceIte, be_ofI, ↓be_ofN, ↓be_0, be_add, be_sub, be_mul, be_neg, be_rem, be_bi, be_bl, be_bv, be_br, be_bE0, be_bE1, be_b1E, be_b0E, be_bkb, be_cast, Int.toNat_natCast, Int.reduceToNat, be_lt, be_le, be_eq, be_nt, be_ck, be_nz, be_bk, be_div, not_true_eq_false, not_false_eq_true, if_true, if_false, eq_self, Int.reduceEq, Int.reduceLT, Int.reduceLE, Bool.true_eq_false, Bool.false_eq_true, c1, c2, c3, am_b228_7, am_b228_14, am_b228_24]
        · rw [am_s77]
          simp (disch := (first | assumption | omega | exact (be_gB _ _ _).1 | exact (be_gB _ _ _).2)) only [↓reduceIte, be_ofI, ↓be_ofN, ↓be_0, be_add, be_sub, be_mul, be_neg, be_rem, be_bi, be_bl, be_bv, be_br, be_bE0, be_bE1, be_b1E, be_b0E, be_bkb, be_cast, Int.toNat_natCast, Int.reduceToNat, be_lt, be_le, be_eq, be_nt, be_ck, be_nz, be_bk, be_div, not_true_eq_false, not_false_eq_true, if_true, if_false, eq_self, Int.reduceEq, Int.reduceLT, Int.reduceLE, Bool.true_eq_false, Bool.false_eq_true, r1, r2, r3, am_b77_5, am_b77_13, am_b77_24]
    · rw [decide_eq_false g2] at c2 r2
      refine be_Cp (v := be_i (-2)) hI ?_ ?_
      · rw [am_s228]
        simp (disch := (first | assumption | omega | exact (be_gB _ _ _).1 | exact (be_gB _ _ _).2)) only [↓reduceIte, be_ofI, ↓be_ofN, ↓be_0, be_add, be_sub, be_mul, be_neg, be_rem, be_bi, be_bl, be_bv, be_br, be_bE0, be_bE1, be_b1E, be_b0E, be_bkb, be_cast, Int.toNat_natCast, Int.reduceToNat, be_lt, be_le, be_eq, be_nt, be_ck, be_nz, be_bk, be_div, not_true_eq_false, not_false_eq_true, if_true, if_false, eq_self, Int.reduceEq, Int.reduceLT, Int.reduceLE, Bool.true_eq_false, Bool.false_eq_true, c1, c2, am_b228_7, am_b228_14]
      · rw [am_s77]
        simp (disch := (first | assumption | omega | exact (be_gB _ _ _).1 | exact (be_gB _ _ _).2)) only [↓reduceIte, be_ofI, ↓be_ofN, ↓be_0, be_add, be_sub, be_mul, be_neg, be_rem, be_bi, be_bl, be_bv, be_br, be_bE0, be_bE1, be_b1E, be_b0E, be_bkb, be_cast, Int.toNat_natCast, Int.reduceToNat, be_lt, be_le, be_eq, be_nt, be_ck, be_nz, be_bk, be_div, not_true_eq_false, not_false_eq_true, if_true, if_false, eq_self, Int.reduceEq, Int.reduceLT, Int.reduceLE, Bool.true_eq_false, Bool.false_eq_true, r1, r2, am_b77_5, am_b77_13]
  · rw [decide_eq_false g1] at c1 r1
    refine be_Cp (v := be_i (-2)) hI ?_ ?_
    · rw [am_s228]
      simp (disch := (first | assumption | omega | exact (be_gB _ _ _).1 | exact (be_gB _ _ _).2)) only [↓reduceIte, be_ofI, ↓be_ofN, ↓be_0, be_add, be_sub, be_mul, be_neg, be_rem, be_bi, be_bl, be_bv, be_br, be_bE0, be_bE1, be_b1E, be_b0E, be_bkb, be_cast, Int.toNat_natCast, Int.reduceToNat, be_lt, be_le, be_eq, be_nt, be_ck, be_nz, be_bk, be_div, not_true_eq_false, not_false_eq_true, if_true, if_false, eq_self, Int.reduceEq, Int.reduceLT, Int.reduceLE, Bool.true_eq_false, Bool.false_eq_true, c1, am_b228_7]
    · rw [am_s77]
      simp (disch := (first | assumption | omega | exact (be_gB _ _ _).1 | exact (be_gB _ _ _).2)) only [↓reduceIte, be_ofI, ↓be_ofN, ↓be_0, be_add, be_sub, be_mul, be_neg, be_rem, be_bi, be_bl, be_bv, be_br, be_bE0, be_bE1, be_b1E, be_b0E, be_bkb, be_cast, Int.toNat_natCast, Int.reduceToNat, be_lt, be_le, be_eq, be_nt, be_ck, be_nz, be_bk, be_div, not_true_eq_false, not_false_eq_true, if_true, if_false, eq_self, Int.reduceEq, Int.reduceLT, Int.reduceLE, Bool.true_eq_false, Bool.false_eq_true, r1, am_b77_5]
