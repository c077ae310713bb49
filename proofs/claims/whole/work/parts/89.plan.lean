/-! CALLS, 17: ends (printed by g89.py) -/
variable {d : Nat} {X : am_X} {a : Nat → Nat → Nat → Int32} {b : Nat → Nat → Nat → Int64} {u : Nat → Nat} {e : Nat → Nat → Nat → Int32} {f : Nat → Nat → Nat → Int64}
/-- another day, an hour without a room, a room without a fault: what the house says -/
theorem be_HOd {e' a' : Nat → Nat → Nat → Int32} {i : Nat} (hq : ∀ c j, ¬ (c = 50 ∧ j = 3) → be_g e' c j = be_g e c j) (r3 : 0 ≤ be_g e' 50 3 ∧ be_g e' 50 3 ≤ 19999) (hW : be_W e) (hX : be_HO a u i e)
    (ha : ∀ c k j, ¬ (c = 2 ∧ k = i ∧ j = 4) → a' c k j = a c k j) (p4 : a' 2 i 4 = be_i (be_g e' 50 3)) : be_W e' ∧ be_HO a' u i e' := by
  obtain ⟨nh, nh2⟩ := be_nhR hW
  obtain ⟨nr, nr2⟩ := be_nrR hW
  have hW1 := hW.1
  obtain ⟨qE, hE, theE, numE, tE⟩ := be_of_t (e := e) (e' := e') (fun c j h => hq _ _ (by omega)) (hq _ _ (by omega)) (hq _ _ (by omega))
  have nhE : be_nh e' = be_nh e := by unfold be_nh; rw [hq _ _ (by omega)]
  have nrE : be_nr e' = be_nr e := by unfold be_nr; rw [hq _ _ (by omega)]
  have ftE : ∀ r, be_ft e' r = be_ft e r := fun r => by unfold be_ft; rw [hq _ _ (by omega)]
  obtain ⟨o1, o2, o3, o4, o5, o6, o7⟩ := hX
  refine ⟨?_, ?_⟩
  · skip
    refine ⟨?_, ?_, ?_, ?_⟩
    · simp (disch := omega) only [hq]; omega
    · intro g hg; simp (disch := omega) only [hq]; exact hW.2.1 g hg
    · intro g hg; simp (disch := omega) only [hq]; exact hW.2.2.1 g hg
    · intro g hg; simp (disch := omega) only [hq]; exact hW.2.2.2 g hg
  · skip
    refine ⟨?_, ?_, ?_, ?_, ?_, ?_, ?_⟩
    · rw [ha _ _ _ (by omega), hq _ _ (by omega)]; exact o1
    · rw [ha _ _ _ (by omega), hq _ _ (by omega)]; exact o2
    · exact p4
    · rw [ha _ _ _ (by omega), hE]; exact o4
    · rw [ha _ _ _ (by omega), qE]; exact o5
    · intro g hg
      rw [nhE] at hg
      have z := o6 g hg
      unfold be_HR at z ⊢
      simp (disch := omega) only [ha, hq]
      exact z
    · intro g hg
      rw [nrE] at hg
      have z := o7 g hg
      unfold be_RR at z ⊢
      simp (disch := omega) only [ha, hq, ftE]
      exact z
theorem be_HOn {e' a' : Nat → Nat → Nat → Int32} {i h : Nat} (hh6 : h < be_nh e) (hq : ∀ c j, ¬ (c = 57 ∧ j = h) → be_g e' c j = be_g e c j) (r7 : be_g e' 57 h = 4) (hW : be_W e) (hX : be_HO a u i e)
    (ha : ∀ c k j, ¬ (c = 1 ∧ k = h + 6 * i ∧ j = 6) → a' c k j = a c k j) (p6 : a' 1 (h + 6 * i) 6 = be_i (-5)) : be_W e' ∧ be_HO a' u i e' := by
  obtain ⟨nh, nh2⟩ := be_nhR hW
  obtain ⟨nr, nr2⟩ := be_nrR hW
  have hW1 := hW.1
  obtain ⟨qE, hE, theE, numE, tE⟩ := be_of_t (e := e) (e' := e') (fun c j h => hq _ _ (by omega)) (hq _ _ (by omega)) (hq _ _ (by omega))
  have nhE : be_nh e' = be_nh e := by unfold be_nh; rw [hq _ _ (by omega)]
  have nrE : be_nr e' = be_nr e := by unfold be_nr; rw [hq _ _ (by omega)]
  have ftE : ∀ r, be_ft e' r = be_ft e r := fun r => by unfold be_ft; rw [hq _ _ (by omega)]
  obtain ⟨o1, o2, o3, o4, o5, o6, o7⟩ := hX
  refine ⟨?_, ?_⟩
  · skip
    refine ⟨?_, ?_, ?_, ?_⟩
    · simp (disch := omega) only [hq]; exact hW.1
    · intro g hg
      by_cases hgh : g = h
      · subst hgh; have y := hW.2.1 g hg; simp (disch := omega) only [hq]; omega
      · simp (disch := omega) only [hq]; exact hW.2.1 g hg
    · intro g hg; simp (disch := omega) only [hq]; exact hW.2.2.1 g hg
    · intro g hg; simp (disch := omega) only [hq]; exact hW.2.2.2 g hg
  · skip
    refine ⟨?_, ?_, ?_, ?_, ?_, ?_, ?_⟩
    · rw [ha _ _ _ (by omega), hq _ _ (by omega)]; exact o1
    · rw [ha _ _ _ (by omega), hq _ _ (by omega)]; exact o2
    · rw [ha _ _ _ (by omega), hq _ _ (by omega)]; exact o3
    · rw [ha _ _ _ (by omega), hE]; exact o4
    · rw [ha _ _ _ (by omega), qE]; exact o5
    · intro g hg
      rw [nhE] at hg
      obtain ⟨y0, y1, y2, y3, y4, y5, y6, y7⟩ := o6 g hg
      refine ⟨?_, ?_, ?_, ?_, ?_, ?_, ?_, ?_⟩
      · rw [ha _ _ _ (by omega)]; exact y0
      · rw [ha _ _ _ (by omega), hq _ _ (by omega)]; exact y1
      · rw [ha _ _ _ (by omega), hq _ _ (by omega)]; exact y2
      · rw [ha _ _ _ (by omega), hq _ _ (by omega)]; exact y3
      · rw [ha _ _ _ (by omega), hq _ _ (by omega)]; exact y4
      · rw [ha _ _ _ (by omega), hq _ _ (by omega)]; exact y5
      · by_cases hgh : g = h
        · subst hgh; rw [r7, if_pos rfl]; exact p6
        · rw [ha _ _ _ (by omega), hq _ _ (by omega)]; exact y6
      · intro j hj
        rw [ha _ _ _ (by omega), hq _ _ (by omega)]; exact y7 j hj
    · intro g hg
      rw [nrE] at hg
      have z := o7 g hg
      unfold be_RR at z ⊢
      simp (disch := omega) only [ha, hq, ftE]
      exact z
theorem be_HOf {e' a' : Nat → Nat → Nat → Int32} {i r : Nat} {p : Bool} (hr : r < be_nr e) (hq : ∀ c j, ¬ (c = 50 ∧ j = 1) → be_g e' c j = be_g e c j) (r1 : be_g e' 50 1 = (be_fs (be_g e 50 1).toNat r p : Int)) (hW : be_W e) (hX : be_HO a u i e)
    (ha : ∀ c k j, ¬ (c = 5 ∧ k = r + 5 * i ∧ j = 2) → a' c k j = a c k j) (p5 : a' 5 (r + 5 * i) 2 = be_i (be_b p)) : be_W e' ∧ be_HO a' u i e' := by
  obtain ⟨nh, nh2⟩ := be_nhR hW
  obtain ⟨nr, nr2⟩ := be_nrR hW
  have hW1 := hW.1
  obtain ⟨qE, hE, theE, numE, tE⟩ := be_of_t (e := e) (e' := e') (fun c j h => hq _ _ (by omega)) (hq _ _ (by omega)) (hq _ _ (by omega))
  have nhE : be_nh e' = be_nh e := by unfold be_nh; rw [hq _ _ (by omega)]
  have nrE : be_nr e' = be_nr e := by unfold be_nr; rw [hq _ _ (by omega)]
  obtain ⟨F, hF⟩ := be_0le hW1.2.2.1
  rw [hF, Int.toNat_natCast] at r1
  obtain ⟨f1, f2⟩ := be_fsR F (by omega) r (by omega) p
  have hft : ∀ g, be_ft e g = decide (F / 2 ^ g % 2 = 1) := fun g => by
    unfold be_ft
    rw [hF, Bool.eq_iff_iff, decide_eq_true_iff, decide_eq_true_iff]
    constructor
    · intro h; exact_mod_cast h
    · intro h; exact_mod_cast h
  have ftE : ∀ g, g < 4 → be_ft e' g = if g = r then p else be_ft e g := fun g hg => by
    have h1 : be_ft e' g = decide (be_fs F r p / 2 ^ g % 2 = 1) := by
      unfold be_ft
      rw [r1, Bool.eq_iff_iff, decide_eq_true_iff, decide_eq_true_iff]
      constructor
      · intro h; exact_mod_cast h
      · intro h; exact_mod_cast h
    rw [h1, f2 g hg, hft]
    split
    · cases p <;> rfl
    · rfl
  obtain ⟨o1, o2, o3, o4, o5, o6, o7⟩ := hX
  refine ⟨?_, ?_⟩
  · skip
    refine ⟨?_, ?_, ?_, ?_⟩
    · simp (disch := omega) only [hq, r1]; omega
    · intro g hg; simp (disch := omega) only [hq]; exact hW.2.1 g hg
    · intro g hg; simp (disch := omega) only [hq]; exact hW.2.2.1 g hg
    · intro g hg; simp (disch := omega) only [hq]; exact hW.2.2.2 g hg
  · skip
    refine ⟨?_, ?_, ?_, ?_, ?_, ?_, ?_⟩
    · rw [ha _ _ _ (by omega), hq _ _ (by omega)]; exact o1
    · rw [ha _ _ _ (by omega), hq _ _ (by omega)]; exact o2
    · rw [ha _ _ _ (by omega), hq _ _ (by omega)]; exact o3
    · rw [ha _ _ _ (by omega), hE]; exact o4
    · rw [ha _ _ _ (by omega), qE]; exact o5
    · intro g hg
      rw [nhE] at hg
      have z := o6 g hg
      unfold be_HR at z ⊢
      simp (disch := omega) only [ha, hq]
      exact z
    · intro g hg
      rw [nrE] at hg
      obtain ⟨y0, y1, y2⟩ := o7 g hg
      refine ⟨?_, ?_, ?_⟩
      · rw [ha _ _ _ (by omega)]; exact y0
      · rw [ha _ _ _ (by omega), hq _ _ (by omega)]; exact y1
      · rw [ftE g (by omega)]
        by_cases hgr : g = r
        · subst hgr; rw [if_pos rfl]; exact p5
        · rw [if_neg hgr, ha _ _ _ (by omega)]; exact y2
theorem be_s87 (x1 x2 : Int32) : ∀ (n k : Nat) (z : Int) (e1 : Nat → Nat → Nat → Int32), k + n = 6 → z = (k : Int) → ∃ e2, (∀ a, am_fix (am_sem X d) X am_P87 19 [.inr (50, 0), am_I x1, am_I x2, am_I (be_i (z)), am_un] [] (am_sd a b u e1 f) = am_fix (am_sem X d) X am_P87 45 [.inr (50, 0), am_I x1, am_I x2, am_I (be_i (0)), am_un] [] (am_sd a b u e2 f)) ∧ (∀ c j, ¬ (c = 84 ∧ k ≤ j ∧ j < 6) → be_g e2 c j = be_g e1 c j) ∧ ∀ j, k ≤ j → j < 6 → be_g e2 84 j = be_g e1 57 j := by
  intro n
  induction n with
  | zero =>
    rintro k z e1 hk rfl
    obtain rfl : k = 6 := hk
    refine ⟨e1, fun a => ?_, fun c j h => rfl, fun j h1 h2 => by omega⟩
    rw [am_b87_19]
    simp (disch := (first | assumption | omega | exact (be_gB _ _ _).1 | exact (be_gB _ _ _).2)) only [↓reduceIte, be_ofI, ↓be_ofN, ↓be_0, be_add, be_sub, be_mul, be_neg, be_rem, be_bi, be_bl, be_bv, be_br, be_bE0, be_bE1, be_b1E, be_b0E, be_bkb, be_cast, Int.toNat_natCast, Int.reduceToNat, be_lt, be_le, be_eq, be_nt, be_ck, be_nz, be_bk, be_div, not_true_eq_false, not_false_eq_true, if_true, if_false, eq_self, Int.reduceEq, Int.reduceLT, Int.reduceLE, Bool.true_eq_false, Bool.false_eq_true]
    rw [if_pos (by decide)]
  | succ n ih =>
    rintro k z e1 hk rfl
    obtain ⟨e3, he3⟩ : ∃ e3, e3 = am_w3 e1 84 0 k (e1 57 0 k) := ⟨_, rfl⟩
    have q3 : ∀ c j, ¬ (c = 84 ∧ j = k) → be_g e3 c j = be_g e1 c j := fun c j h => by rw [he3]; exact be_gn _ _ _ _ _ _ _ (by omega)
    have q4 : be_g e3 84 k = be_g e1 57 k := by rw [he3]; unfold be_g; rw [be_w3s]
    obtain ⟨e2, g1, g2, g3⟩ := ih (k + 1) ((k : Int) + 1) e3 (by omega) (by omega)
    refine ⟨e2, fun a => ?_, fun c j h => ?_, fun j h1 h2 => ?_⟩
    · have w : ¬ (6 : Int) ≤ (k : Int) := by omega
      rw [am_b87_19]
      simp (disch := (first | assumption | omega | exact (be_gB _ _ _).1 | exact (be_gB _ _ _).2)) only [↓reduceIte, be_ofI, ↓be_ofN, ↓be_0, be_add, be_sub, be_mul, be_neg, be_rem, be_bi, be_bl, be_bv, be_br, be_bE0, be_bE1, be_b1E, be_b0E, be_bkb, be_cast, Int.toNat_natCast, Int.reduceToNat, be_lt, be_le, be_eq, be_nt, be_ck, be_nz, be_bk, be_div, not_true_eq_false, not_false_eq_true, if_true, if_false, eq_self, Int.reduceEq, Int.reduceLT, Int.reduceLE, Bool.true_eq_false, Bool.false_eq_true, w]
      rw [← he3]
      exact g1 a
    · rw [g2 _ _ (by omega)]; exact q3 _ _ (by omega)
    · by_cases hj : j = k
      · subst hj; rw [g2 _ _ (by omega)]; exact q4
      · rw [g3 j (by omega) h2]; exact q3 _ _ (by omega)
theorem be_r87 (x1 x2 x3 : Int32) : ∀ (n k : Nat) (z : Int) (e1 : Nat → Nat → Nat → Int32), k + n = 6 → z = (k : Int) → ∃ e2, (∀ a, am_fix (am_sem X d) X am_P87 122 [.inr (50, 0), am_I x1, am_I x2, am_I x3, am_I (be_i (z))] [] (am_sd a b u e1 f) = some (some (am_I x3), am_sd a b u e2 f)) ∧ (∀ c j, ¬ (c = 57 ∧ k ≤ j ∧ j < 6) → be_g e2 c j = be_g e1 c j) ∧ ∀ j, k ≤ j → j < 6 → be_g e2 57 j = be_g e1 84 j := by
  intro n
  induction n with
  | zero =>
    rintro k z e1 hk rfl
    obtain rfl : k = 6 := hk
    refine ⟨e1, fun a => ?_, fun c j h => rfl, fun j h1 h2 => by omega⟩
    rw [am_b87_122]
    simp (disch := (first | assumption | omega | exact (be_gB _ _ _).1 | exact (be_gB _ _ _).2)) only [↓reduceIte, be_ofI, ↓be_ofN, ↓be_0, be_add, be_sub, be_mul, be_neg, be_rem, be_bi, be_bl, be_bv, be_br, be_bE0, be_bE1, be_b1E, be_b0E, be_bkb, be_cast, Int.toNat_natCast, Int.reduceToNat, be_lt, be_le, be_eq, be_nt, be_ck, be_nz, be_bk, be_div, not_true_eq_false, not_false_eq_true, if_true, if_false, eq_self, Int.reduceEq, Int.reduceLT, Int.reduceLE, Bool.true_eq_false, Bool.false_eq_true]
    rw [if_pos (by decide)]
  | succ n ih =>
    rintro k z e1 hk rfl
    obtain ⟨e3, he3⟩ : ∃ e3, e3 = am_w3 e1 57 0 k (e1 84 0 k) := ⟨_, rfl⟩
    have q3 : ∀ c j, ¬ (c = 57 ∧ j = k) → be_g e3 c j = be_g e1 c j := fun c j h => by rw [he3]; exact be_gn _ _ _ _ _ _ _ (by omega)
    have q4 : be_g e3 57 k = be_g e1 84 k := by rw [he3]; unfold be_g; rw [be_w3s]
    obtain ⟨e2, g1, g2, g3⟩ := ih (k + 1) ((k : Int) + 1) e3 (by omega) (by omega)
    refine ⟨e2, fun a => ?_, fun c j h => ?_, fun j h1 h2 => ?_⟩
    · have w : ¬ (6 : Int) ≤ (k : Int) := by omega
      rw [am_b87_122]
      simp (disch := (first | assumption | omega | exact (be_gB _ _ _).1 | exact (be_gB _ _ _).2)) only [↓reduceIte, be_ofI, ↓be_ofN, ↓be_0, be_add, be_sub, be_mul, be_neg, be_rem, be_bi, be_bl, be_bv, be_br, be_bE0, be_bE1, be_b1E, be_b0E, be_bkb, be_cast, Int.toNat_natCast, Int.reduceToNat, be_lt, be_le, be_eq, be_nt, be_ck, be_nz, be_bk, be_div, not_true_eq_false, not_false_eq_true, if_true, if_false, eq_self, Int.reduceEq, Int.reduceLT, Int.reduceLE, Bool.true_eq_false, Bool.false_eq_true, w]
      rw [← he3]
      exact g1 a
    · rw [g2 _ _ (by omega)]; exact q3 _ _ (by omega)
    · by_cases hj : j = k
      · subst hj; rw [g2 _ _ (by omega)]; exact q4
      · rw [g3 j (by omega) h2]; exact q3 _ _ (by omega)
/-- the house and the reference, a plan being done -/
def be_JP (a' a1 : Nat → Nat → Nat → Int32) (u : Nat → Nat) (e e1 e2 : Nat → Nat → Nat → Int32) (k : Nat) : Prop :=
  (∀ c i j, ¬ ((c = 2 ∧ i = 2 ∧ j = 4) ∨ (c = 1 ∧ 12 ≤ i ∧ i < 18 ∧ j = 6) ∨ (c = 5 ∧ 10 ≤ i ∧ i < 15 ∧ j = 2)) → a1 c i j = a' c i j) ∧ (∀ c j, ¬ ((c = 50 ∧ j = 3) ∨ (c = 57 ∧ j < 6)) → be_g e1 c j = be_g e c j) ∧
  (∀ c j, ¬ (c = 50 ∧ j = 1) → be_g e2 c j = be_g e1 c j) ∧ be_W e2 ∧ be_HO a1 u 2 e2 ∧ be_g e1 50 3 ≤ be_g e 50 3 + (k : Int)
theorem be_plan (hd : 1 ≤ d) (d2 : Nat) {a' : Nat → Nat → Nat → Int32} {e0 : Nat → Nat → Nat → Int32} (hW : be_W e) (hW2 : be_W2 e) (hD : be_g e 50 3 ≤ 9999) (hX : be_PL a' 2 e) (x1 x2 : Int32) : ∀ (n k : Nat) (z : Int) (v2 v3 : am_V) (a1 e1 e2 : Nat → Nat → Nat → Int32), (k : Int) + n = be_g e 50 45 → z = (k : Int) → be_JP a' a1 u e e1 e2 k →
    ∃ a3 e3 e4, am_fix (am_sem X d) X am_P157 2 [.inr (2, 2), am_I (be_i (z)), v2, v3] [] (am_sd a1 b u e0 f) = some (none, am_sd a3 b u e0 f) ∧ (∀ a, am_fix (am_sem X d2) X am_P87 45 [.inr (50, 0), am_I x1, am_I x2, am_I (be_i (z)), am_un] [] (am_sd a b u e1 f) = am_fix (am_sem X d2) X am_P87 45 [.inr (50, 0), am_I x1, am_I x2, am_I (be_i (be_g e 50 45)), am_un] [] (am_sd a b u e3 f)) ∧ be_JP a' a3 u e e3 e4 (k + n) := by
  obtain ⟨p1, p2⟩ := hX
  obtain ⟨g1, g2, g3⟩ := hW2.2.2.1
  have hW1 := hW.1
  have hP : be_g e 50 45 ≤ 8 := g2
  intro n
  induction n with
  | zero =>
    rintro k z v2 v3 a1 e1 e2 hk rfl hJ
    obtain ⟨j1, j2, j3, j4, j5, j6⟩ := hJ
    refine ⟨a1, e1, e2, ?_, fun a => ?_, j1, j2, j3, j4, j5, j6⟩
    · have hL : a1 6 (3 * 2 + 1) 1 = be_i (be_g e 50 45) := by rw [j1 _ _ _ (by omega)]; exact p1
      have w : be_g e 50 45 ≤ (k : Int) := by omega
      rw [am_b157_2]
      simp (disch := (first | assumption | omega | exact (be_gB _ _ _).1 | exact (be_gB _ _ _).2)) only [↓reduceIte, be_ofI, ↓be_ofN, ↓be_0, be_add, be_sub, be_mul, be_neg, be_rem, be_bi, be_bl, be_bv, be_br, be_bE0, be_bE1, be_b1E, be_b0E, be_bkb, be_cast, Int.toNat_natCast, Int.reduceToNat, be_lt, be_le, be_eq, be_nt, be_ck, be_nz, be_bk, be_div, not_true_eq_false, not_false_eq_true, if_true, if_false, eq_self, Int.reduceEq, Int.reduceLT, Int.reduceLE, Bool.true_eq_false, Bool.false_eq_true, hL, w]
    · rw [show (k : Int) = be_g e 50 45 by omega]
  | succ n ih =>
    rintro k z v2 v3 a1 e1 e2 hk rfl hJ
    have hJ' := hJ
    obtain ⟨j1, j2, j3, j4, j5, j6⟩ := hJ'
    have hL : a1 6 (3 * 2 + 1) 1 = be_i (be_g e 50 45) := by rw [j1 _ _ _ (by omega)]; exact p1
    have hln : am_len X 18 (3 * 2 + 1) = 8 := be_ln1 X 2 (by decide)
    have hrb : am_rb18 (3 * 2 + 1) = 22 * 2 + 6 := be_rb1 2 (by decide)
    obtain ⟨y1, y2, y3, y4⟩ := g3 k (by omega)
    obtain ⟨z1, z2⟩ := p2 k (by omega)
    have A0 : a1 19 (k + (22 * 2 + 6)) 0 = be_i (be_g e 80 k) := by rw [j1 _ _ _ (by omega)]; exact z1
    have A1 : be_g e 80 k ≠ 0 → a1 19 (k + (22 * 2 + 6)) 1 = be_i (be_g e 81 k) := fun h => by rw [j1 _ _ _ (by omega)]; exact z2 h
    have w : ¬ be_g e 50 45 ≤ (k : Int) := by omega
    have hkn : (k : Int).toNat = k := rfl
    have E45 : e1 50 0 45 = be_i (be_g e 50 45) := by rw [be_gI e1, j2 _ _ (by omega)]
    have E80 : e1 80 0 k = be_i (be_g e 80 k) := by rw [be_gI e1, j2 _ _ (by omega)]
    have E81 : e1 81 0 k = be_i (be_g e 81 k) := by rw [be_gI e1, j2 _ _ (by omega)]
    have D3 : be_g e2 50 3 = be_g e1 50 3 := j3 _ _ (by omega)
    have hw2 := j4.1
    have R0 : a1 2 2 2 = be_i (be_g e 50 0) := by rw [j5.1, j3 _ _ (by omega), j2 _ _ (by omega)]
    have R2 : a1 2 2 3 = be_i (be_g e 50 2) := by rw [j5.2.1, j3 _ _ (by omega), j2 _ _ (by omega)]
    rcases (show be_g e 80 k = 0 ∨ be_g e 80 k = 1 ∨ be_g e 80 k = 2 by omega) with t | t | t
    · obtain ⟨e3, he3⟩ : ∃ e3, e3 = am_w3 e1 50 0 3 (be_i (be_g e1 50 3 + 1)) := ⟨_, rfl⟩
      obtain ⟨e4, he4⟩ : ∃ e4, e4 = am_w3 e2 50 0 3 (be_i (be_g e1 50 3 + 1)) := ⟨_, rfl⟩
      obtain ⟨a3, ha3⟩ : ∃ a3, a3 = am_w3 a1 2 2 4 (be_i (be_g e1 50 3 + 1)) := ⟨_, rfl⟩
      have q3 : ∀ c j, ¬ (c = 50 ∧ j = 3) → be_g e3 c j = be_g e1 c j := fun c j h => by rw [he3]; exact be_gn _ _ _ _ _ _ _ (by omega)
      have q4 : ∀ c j, ¬ (c = 50 ∧ j = 3) → be_g e4 c j = be_g e2 c j := fun c j h => by rw [he4]; exact be_gn _ _ _ _ _ _ _ (by omega)
      have r3 : be_g e3 50 3 = be_g e1 50 3 + 1 := by rw [he3, be_gw _ _ _ _ _ (by omega) (by omega), if_pos ⟨rfl, rfl⟩]
      have r4 : be_g e4 50 3 = be_g e1 50 3 + 1 := by rw [he4, be_gw _ _ _ _ _ (by omega) (by omega), if_pos ⟨rfl, rfl⟩]
      have s3 : ∀ c i j, ¬ (c = 2 ∧ i = 2 ∧ j = 4) → a3 c i j = a1 c i j := fun c i j h => by rw [ha3]; exact be_w3n _ _ _ _ _ _ _ _ h
      obtain ⟨n1, n2⟩ := be_HOd (e' := e4) (a' := a3) (i := 2) q4 (by omega) j4 j5 s3 (by rw [r4, ha3]; exact be_w3s _ _ _ _ _)
      obtain ⟨a5, e5, e6, m1, m2, m3⟩ := ih (k + 1) ((k : Int) + 1) (am_I (be_i 0)) (am_I (a1 19 (k + (22 * 2 + 6)) 1)) a3 e3 e4 (by omega) (by omega) ⟨fun c i j h => (s3 _ _ _ (by omega)).trans (j1 _ _ _ h), fun c j h => (q3 _ _ (by omega)).trans (j2 _ _ h), fun c j h => by
        by_cases h3 : c = 50 ∧ j = 3
        · rw [h3.1, h3.2, r3, r4]
        · rw [q3 _ _ h3, q4 _ _ h3]; exact j3 _ _ h, n1, n2, by omega⟩
      refine ⟨a5, e5, e6, ?_, fun a => ?_, by rw [show k + (n + 1) = k + 1 + n by omega]; exact m3⟩
      · have D : a1 2 2 4 = be_i (be_g e1 50 3) := by rw [j5.2.2.1, D3]
        rw [am_b157_2]
        simp (disch := (first | assumption | omega | exact (be_gB _ _ _).1 | exact (be_gB _ _ _).2)) only [↓reduceIte, be_ofI, ↓be_ofN, ↓be_0, be_add, be_sub, be_mul, be_neg, be_rem, be_bi, be_bl, be_bv, be_br, be_bE0, be_bE1, be_b1E, be_b0E, be_bkb, be_cast, Int.toNat_natCast, Int.reduceToNat, be_lt, be_le, be_eq, be_nt, be_ck, be_nz, be_bk, be_div, not_true_eq_false, not_false_eq_true, if_true, if_false, eq_self, Int.reduceEq, Int.reduceLT, Int.reduceLE, Bool.true_eq_false, Bool.false_eq_true, hL, hln, hrb, w, hkn, A0, t, D]
        rw [← ha3, am_b157_104]
        simp (disch := (first | assumption | omega | exact (be_gB _ _ _).1 | exact (be_gB _ _ _).2)) only [↓reduceIte, be_ofI, ↓be_ofN, ↓be_0, be_add, be_sub, be_mul, be_neg, be_rem, be_bi, be_bl, be_bv, be_br, be_bE0, be_bE1, be_b1E, be_b0E, be_bkb, be_cast, Int.toNat_natCast, Int.reduceToNat, be_lt, be_le, be_eq, be_nt, be_ck, be_nz, be_bk, be_div, not_true_eq_false, not_false_eq_true, if_true, if_false, eq_self, Int.reduceEq, Int.reduceLT, Int.reduceLE, Bool.true_eq_false, Bool.false_eq_true]
        exact m1
      · rw [am_b87_45]
        simp (disch := (first | assumption | omega | exact (be_gB _ _ _).1 | exact (be_gB _ _ _).2)) only [↓reduceIte, be_ofI, ↓be_ofN, ↓be_0, be_add, be_sub, be_mul, be_neg, be_rem, be_bi, be_bl, be_bv, be_br, be_bE0, be_bE1, be_b1E, be_b0E, be_bkb, be_cast, Int.toNat_natCast, Int.reduceToNat, be_lt, be_le, be_eq, be_nt, be_ck, be_nz, be_bk, be_div, not_true_eq_false, not_false_eq_true, if_true, if_false, eq_self, Int.reduceEq, Int.reduceLT, Int.reduceLE, Bool.true_eq_false, Bool.false_eq_true, E45, E80, w, hkn, t, be_gI e1 50 3]
        rw [← he3, am_b87_72]
        have E80' : e3 80 0 k = be_i 0 := by rw [be_gI e3, q3 _ _ (by omega), j2 _ _ (by omega), t]
        simp (disch := (first | assumption | omega | exact (be_gB _ _ _).1 | exact (be_gB _ _ _).2)) only [↓reduceIte, be_ofI, ↓be_ofN, ↓be_0, be_add, be_sub, be_mul, be_neg, be_rem, be_bi, be_bl, be_bv, be_br, be_bE0, be_bE1, be_b1E, be_b0E, be_bkb, be_cast, Int.toNat_natCast, Int.reduceToNat, be_lt, be_le, be_eq, be_nt, be_ck, be_nz, be_bk, be_div, not_true_eq_false, not_false_eq_true, if_true, if_false, eq_self, Int.reduceEq, Int.reduceLT, Int.reduceLE, Bool.true_eq_false, Bool.false_eq_true, E80', hkn]
        exact m2 a
    · obtain ⟨h, hhh⟩ := be_0le (y3 t).1
      have y5 := (y3 t).2
      obtain ⟨e3, he3⟩ : ∃ e3, e3 = am_w3 e1 57 0 h (be_i 4) := ⟨_, rfl⟩
      obtain ⟨e4, he4⟩ : ∃ e4, e4 = am_w3 e2 57 0 h (be_i 4) := ⟨_, rfl⟩
      obtain ⟨a3, ha3⟩ : ∃ a3, a3 = am_w3 a1 1 (h + 6 * 2) 6 (be_i (-5)) := ⟨_, rfl⟩
      have q3 : ∀ c j, ¬ (c = 57 ∧ j = h) → be_g e3 c j = be_g e1 c j := fun c j h => by rw [he3]; exact be_gn _ _ _ _ _ _ _ (by omega)
      have q4 : ∀ c j, ¬ (c = 57 ∧ j = h) → be_g e4 c j = be_g e2 c j := fun c j h => by rw [he4]; exact be_gn _ _ _ _ _ _ _ (by omega)
      have r3 : be_g e3 57 h = 4 := by rw [he3, be_gw _ _ _ _ _ (by omega) (by omega), if_pos ⟨rfl, rfl⟩]
      have r4 : be_g e4 57 h = 4 := by rw [he4, be_gw _ _ _ _ _ (by omega) (by omega), if_pos ⟨rfl, rfl⟩]
      have s3 : ∀ c i j, ¬ (c = 1 ∧ i = h + 6 * 2 ∧ j = 6) → a3 c i j = a1 c i j := fun c i j h => by rw [ha3]; exact be_w3n _ _ _ _ _ _ _ _ h
      have hnh : h < be_nh e2 := by have := be_nhR j4; have E2 : be_g e2 50 2 = be_g e 50 2 := by rw [j3 _ _ (by omega), j2 _ _ (by omega)]
                                    omega
      obtain ⟨n1, n2⟩ := be_HOn (e' := e4) (a' := a3) (i := 2) (h := h) hnh q4 r4 j4 j5 s3 (by rw [ha3]; exact be_w3s _ _ _ _ _)
      have rr := q3 50 3 (by omega)
      obtain ⟨a5, e5, e6, m1, m2, m3⟩ := ih (k + 1) ((k : Int) + 1) (am_I (be_i 1)) (am_I (be_i (h : Int))) a3 e3 e4 (by omega) (by omega) ⟨fun c i j h => (s3 _ _ _ (by omega)).trans (j1 _ _ _ h), fun c j h => (q3 _ _ (by omega)).trans (j2 _ _ h), fun c j h' => by
        by_cases h3 : c = 57 ∧ j = h
        · rw [h3.1, h3.2, r3, r4]
        · rw [q3 _ _ h3, q4 _ _ h3]; exact j3 _ _ h', n1, n2, by omega⟩
      refine ⟨a5, e5, e6, ?_, fun a => ?_, by rw [show k + (n + 1) = k + 1 + n by omega]; exact m3⟩
      · have A2 := A1 (by omega)
        rw [hhh] at A2
        have v := be_m139 (X := X) (a := a1) (b := b) (u := u) (e := e0) (f := f) (d := d) (i := 2) (x := (h : Int)) (by omega) R2 (by omega) (by omega) (by omega) (by omega)
        rw [decide_eq_true (by omega)] at v
        rw [am_b157_2]
        simp (disch := (first | assumption | omega | exact (be_gB _ _ _).1 | exact (be_gB _ _ _).2)) only [↓reduceIte, be_ofI, ↓be_ofN, ↓be_0, be_add, be_sub, be_mul, be_neg, be_rem, be_bi, be_bl, be_bv, be_br, be_bE0, be_bE1, be_b1E, be_b0E, be_bkb, be_cast, Int.toNat_natCast, Int.reduceToNat, be_lt, be_le, be_eq, be_nt, be_ck, be_nz, be_bk, be_div, not_true_eq_false, not_false_eq_true, if_true, if_false, eq_self, Int.reduceEq, Int.reduceLT, Int.reduceLE, Bool.true_eq_false, Bool.false_eq_true, hL, hln, hrb, w, hkn, A0, A2, t, v]
        rw [am_b157_64]
        simp (disch := (first | assumption | omega | exact (be_gB _ _ _).1 | exact (be_gB _ _ _).2)) only [↓reduceIte, be_ofI, ↓be_ofN, ↓be_0, be_add, be_sub, be_mul, be_neg, be_rem, be_bi, be_bl, be_bv, be_br, be_bE0, be_bE1, be_b1E, be_b0E, be_bkb, be_cast, Int.toNat_natCast, Int.reduceToNat, be_lt, be_le, be_eq, be_nt, be_ck, be_nz, be_bk, be_div, not_true_eq_false, not_false_eq_true, if_true, if_false, eq_self, Int.reduceEq, Int.reduceLT, Int.reduceLE, Bool.true_eq_false, Bool.false_eq_true, show (h : Int).toNat = h from rfl]
        rw [← ha3, am_b157_104]
        simp (disch := (first | assumption | omega | exact (be_gB _ _ _).1 | exact (be_gB _ _ _).2)) only [↓reduceIte, be_ofI, ↓be_ofN, ↓be_0, be_add, be_sub, be_mul, be_neg, be_rem, be_bi, be_bl, be_bv, be_br, be_bE0, be_bE1, be_b1E, be_b0E, be_bkb, be_cast, Int.toNat_natCast, Int.reduceToNat, be_lt, be_le, be_eq, be_nt, be_ck, be_nz, be_bk, be_div, not_true_eq_false, not_false_eq_true, if_true, if_false, eq_self, Int.reduceEq, Int.reduceLT, Int.reduceLE, Bool.true_eq_false, Bool.false_eq_true]
        exact m1
      · rw [am_b87_45]
        simp (disch := (first | assumption | omega | exact (be_gB _ _ _).1 | exact (be_gB _ _ _).2)) only [↓reduceIte, be_ofI, ↓be_ofN, ↓be_0, be_add, be_sub, be_mul, be_neg, be_rem, be_bi, be_bl, be_bv, be_br, be_bE0, be_bE1, be_b1E, be_b0E, be_bkb, be_cast, Int.toNat_natCast, Int.reduceToNat, be_lt, be_le, be_eq, be_nt, be_ck, be_nz, be_bk, be_div, not_true_eq_false, not_false_eq_true, if_true, if_false, eq_self, Int.reduceEq, Int.reduceLT, Int.reduceLE, Bool.true_eq_false, Bool.false_eq_true, E45, E80, w, hkn, t]
        rw [am_b87_72]
        simp (disch := (first | assumption | omega | exact (be_gB _ _ _).1 | exact (be_gB _ _ _).2)) only [↓reduceIte, be_ofI, ↓be_ofN, ↓be_0, be_add, be_sub, be_mul, be_neg, be_rem, be_bi, be_bl, be_bv, be_br, be_bE0, be_bE1, be_b1E, be_b0E, be_bkb, be_cast, Int.toNat_natCast, Int.reduceToNat, be_lt, be_le, be_eq, be_nt, be_ck, be_nz, be_bk, be_div, not_true_eq_false, not_false_eq_true, if_true, if_false, eq_self, Int.reduceEq, Int.reduceLT, Int.reduceLE, Bool.true_eq_false, Bool.false_eq_true, E80, E81, hkn, t, hhh, show (h : Int).toNat = h from rfl]
        rw [← he3]
        exact m2 a
    · obtain ⟨r, hrr⟩ := be_0le (y4 t).1
      have y5 := (y4 t).2
      obtain ⟨e4, he4⟩ : ∃ e4, e4 = am_w3 e2 50 0 1 (be_i (be_fs (be_g e2 50 1).toNat r false : Int)) := ⟨_, rfl⟩
      obtain ⟨a3, ha3⟩ : ∃ a3, a3 = am_w3 a1 5 (r + 5 * 2) 2 (be_i 0) := ⟨_, rfl⟩
      have q4 : ∀ c j, ¬ (c = 50 ∧ j = 1) → be_g e4 c j = be_g e2 c j := fun c j h => by rw [he4]; exact be_gn _ _ _ _ _ _ _ (by omega)
      have r4 : be_g e4 50 1 = (be_fs (be_g e2 50 1).toNat r false : Int) := by
        have := (be_fsR (be_g e2 50 1).toNat (by omega) r (by omega) false).1
        rw [he4, be_gw _ _ _ _ _ (by omega) (by omega), if_pos ⟨rfl, rfl⟩]
      have s3 : ∀ c i j, ¬ (c = 5 ∧ i = r + 5 * 2 ∧ j = 2) → a3 c i j = a1 c i j := fun c i j h => by rw [ha3]; exact be_w3n _ _ _ _ _ _ _ _ h
      have hnr : r < be_nr e2 := by have := be_nrR j4; have E2 : be_g e2 50 0 = be_g e 50 0 := by rw [j3 _ _ (by omega), j2 _ _ (by omega)]
                                    omega
      obtain ⟨n1, n2⟩ := be_HOf (e' := e4) (a' := a3) (i := 2) (r := r) (p := false) hnr q4 r4 j4 j5 s3 (by rw [ha3]; exact be_w3s _ _ _ _ _)
      obtain ⟨a5, e5, e6, m1, m2, m3⟩ := ih (k + 1) ((k : Int) + 1) (am_I (be_i 2)) (am_I (be_i (r : Int))) a3 e1 e4 (by omega) (by omega) ⟨fun c i j h => (s3 _ _ _ (by omega)).trans (j1 _ _ _ h), j2, fun c j h => (q4 _ _ h).trans (j3 _ _ h), n1, n2, by omega⟩
      refine ⟨a5, e5, e6, ?_, fun a => ?_, by rw [show k + (n + 1) = k + 1 + n by omega]; exact m3⟩
      · have A2 := A1 (by omega)
        rw [hrr] at A2
        have v := be_m138 (X := X) (a := a1) (b := b) (u := u) (e := e0) (f := f) (d := d) (i := 2) (x := (r : Int)) (by omega) R0 (by omega) (by omega) (by omega) (by omega)
        rw [decide_eq_true (by omega)] at v
        rw [am_b157_2]
        simp (disch := (first | assumption | omega | exact (be_gB _ _ _).1 | exact (be_gB _ _ _).2)) only [↓reduceIte, be_ofI, ↓be_ofN, ↓be_0, be_add, be_sub, be_mul, be_neg, be_rem, be_bi, be_bl, be_bv, be_br, be_bE0, be_bE1, be_b1E, be_b0E, be_bkb, be_cast, Int.toNat_natCast, Int.reduceToNat, be_lt, be_le, be_eq, be_nt, be_ck, be_nz, be_bk, be_div, not_true_eq_false, not_false_eq_true, if_true, if_false, eq_self, Int.reduceEq, Int.reduceLT, Int.reduceLE, Bool.true_eq_false, Bool.false_eq_true, hL, hln, hrb, w, hkn, A0, A2, t, v]
        rw [am_b157_91]
        simp (disch := (first | assumption | omega | exact (be_gB _ _ _).1 | exact (be_gB _ _ _).2)) only [↓reduceIte, be_ofI, ↓be_ofN, ↓be_0, be_add, be_sub, be_mul, be_neg, be_rem, be_bi, be_bl, be_bv, be_br, be_bE0, be_bE1, be_b1E, be_b0E, be_bkb, be_cast, Int.toNat_natCast, Int.reduceToNat, be_lt, be_le, be_eq, be_nt, be_ck, be_nz, be_bk, be_div, not_true_eq_false, not_false_eq_true, if_true, if_false, eq_self, Int.reduceEq, Int.reduceLT, Int.reduceLE, Bool.true_eq_false, Bool.false_eq_true, show (r : Int).toNat = r from rfl]
        rw [← ha3, am_b157_104]
        simp (disch := (first | assumption | omega | exact (be_gB _ _ _).1 | exact (be_gB _ _ _).2)) only [↓reduceIte, be_ofI, ↓be_ofN, ↓be_0, be_add, be_sub, be_mul, be_neg, be_rem, be_bi, be_bl, be_bv, be_br, be_bE0, be_bE1, be_b1E, be_b0E, be_bkb, be_cast, Int.toNat_natCast, Int.reduceToNat, be_lt, be_le, be_eq, be_nt, be_ck, be_nz, be_bk, be_div, not_true_eq_false, not_false_eq_true, if_true, if_false, eq_self, Int.reduceEq, Int.reduceLT, Int.reduceLE, Bool.true_eq_false, Bool.false_eq_true]
        exact m1
      · rw [am_b87_45]
        simp (disch := (first | assumption | omega | exact (be_gB _ _ _).1 | exact (be_gB _ _ _).2)) only [↓reduceIte, be_ofI, ↓be_ofN, ↓be_0, be_add, be_sub, be_mul, be_neg, be_rem, be_bi, be_bl, be_bv, be_br, be_bE0, be_bE1, be_b1E, be_b0E, be_bkb, be_cast, Int.toNat_natCast, Int.reduceToNat, be_lt, be_le, be_eq, be_nt, be_ck, be_nz, be_bk, be_div, not_true_eq_false, not_false_eq_true, if_true, if_false, eq_self, Int.reduceEq, Int.reduceLT, Int.reduceLE, Bool.true_eq_false, Bool.false_eq_true, E45, E80, w, hkn, t]
        rw [am_b87_72]
        simp (disch := (first | assumption | omega | exact (be_gB _ _ _).1 | exact (be_gB _ _ _).2)) only [↓reduceIte, be_ofI, ↓be_ofN, ↓be_0, be_add, be_sub, be_mul, be_neg, be_rem, be_bi, be_bl, be_bv, be_br, be_bE0, be_bE1, be_b1E, be_b0E, be_bkb, be_cast, Int.toNat_natCast, Int.reduceToNat, be_lt, be_le, be_eq, be_nt, be_ck, be_nz, be_bk, be_div, not_true_eq_false, not_false_eq_true, if_true, if_false, eq_self, Int.reduceEq, Int.reduceLT, Int.reduceLE, Bool.true_eq_false, Bool.false_eq_true, E80, hkn, t]
        exact m2 a
