/-! CALLS, 12: image, undo (printed by g84.py) -/
variable {d : Nat} {X : am_X} {a : Nat → Nat → Nat → Int32} {b : Nat → Nat → Nat → Int64} {u : Nat → Nat} {e : Nat → Nat → Nat → Int32} {f : Nat → Nat → Nat → Int64}
/-- alike at the places of a house and of offices, within bounds -/
def be_Rb (e e' : Nat → Nat → Nat → Int32) : Prop := ∀ c j, (c = 50 ∧ (j = 0 ∨ j = 1 ∨ j = 2 ∨ j = 3 ∨ j = 12 ∨ j = 13 ∨ j = 29 ∨ j = 40 ∨ j = 45 ∨ j = 46)) ∨ (c = 51 ∧ j < 4) ∨ (52 ≤ c ∧ c ≤ 57 ∧ j < 6) ∨ (c = 58 ∧ j < 24) ∨ (60 ≤ c ∧ c ≤ 65) ∨ (76 ≤ c ∧ c ≤ 79 ∧ j < 6) ∨ (80 ≤ c ∧ c ≤ 83 ∧ j < 8) → be_g e' c j = be_g e c j
theorem be_Rb_I1 {e' : Nat → Nat → Nat → Int32} (hb : be_Rb e e') {i : Nat} (hI : be_I1 a u i e) : be_I1 a u i e' := by
  have q : ∀ c j, (c = 50 ∧ (j = 0 ∨ j = 1 ∨ j = 2 ∨ j = 3 ∨ j = 12 ∨ j = 13 ∨ j = 29 ∨ j = 40 ∨ j = 45 ∨ j = 46)) ∨ (c = 51 ∧ j < 4) ∨ (52 ≤ c ∧ c ≤ 57 ∧ j < 6) ∨ (c = 58 ∧ j < 24) ∨ (60 ≤ c ∧ c ≤ 65) ∨ (76 ≤ c ∧ c ≤ 79 ∧ j < 6) ∨ (80 ≤ c ∧ c ≤ 83 ∧ j < 8) → be_g e' c j = be_g e c j := hb
  obtain ⟨hW, hW2, hT, h4, h5, h6, hX⟩ := hI
  obtain ⟨qE, hE, theE, numE, tE⟩ := be_of_t (e := e) (e' := e') (fun c j h => q _ _ (by omega)) (q _ _ (by omega)) (q _ _ (by omega))
  have nhE : be_nh e' = be_nh e := by unfold be_nh; rw [q _ _ (by omega)]
  have nrE : be_nr e' = be_nr e := by unfold be_nr; rw [q _ _ (by omega)]
  have ftE : ∀ r, be_ft e' r = be_ft e r := fun r => by unfold be_ft; rw [q _ _ (by omega)]
  obtain ⟨nh, nh2⟩ := be_nhR hW
  obtain ⟨nr, nr2⟩ := be_nrR hW
  obtain ⟨w1, ⟨v1, v2, v3⟩, ⟨v4, v5, v6⟩, ⟨v7, v8, v9⟩⟩ := hW2
  obtain ⟨⟨o1, o2, o3, o4, o5, o6, o7⟩, x1, x2, ⟨s1, s2⟩, ⟨p1, p2⟩, ⟨k1, k2⟩⟩ := hX
  refine ⟨⟨?_, ?_, ?_, ?_⟩, ⟨?_, ⟨?_, ?_, ?_⟩, ⟨?_, ?_, ?_⟩, ⟨?_, ?_, ?_⟩⟩, tE hT, ?_, ?_, ?_, ⟨⟨?_, ?_, ?_, ?_, ?_, ?_, ?_⟩, ?_, ?_, ⟨?_, ?_⟩, ⟨?_, ?_⟩, ⟨?_, ?_⟩⟩⟩
  · simp (disch := omega) only [q]; exact hW.1
  · intro g hg; simp (disch := omega) only [q]; exact hW.2.1 g hg
  · intro g hg; simp (disch := omega) only [q]; exact hW.2.2.1 g hg
  · intro g hg; simp (disch := omega) only [q]; exact hW.2.2.2 g hg
  · intro g hg; rw [q 50 2 (by omega)] at hg; simp (disch := omega) only [q]; exact w1 g hg
  · rw [q _ _ (by omega)]; exact v1
  · rw [q _ _ (by omega)]; exact v2
  · intro g hg; rw [q 50 40 (by omega)] at hg; simp (disch := omega) only [q]; exact v3 g hg
  · rw [q _ _ (by omega)]; exact v4
  · rw [q _ _ (by omega)]; exact v5
  · intro g hg; rw [q 50 45 (by omega)] at hg; simp (disch := omega) only [q]; exact v6 g hg
  · rw [q _ _ (by omega)]; exact v7
  · rw [q _ _ (by omega)]; exact v8
  · intro g hg; rw [q 50 46 (by omega)] at hg; simp (disch := omega) only [q]; exact v9 g hg
  · rw [q _ _ (by omega)]; exact h4
  · rw [q _ _ (by omega)]; exact h5
  · rw [q 50 13 (by omega), q 50 12 (by omega)]; exact h6
  · rw [q _ _ (by omega)]; exact o1
  · rw [q _ _ (by omega)]; exact o2
  · rw [q _ _ (by omega)]; exact o3
  · rw [hE]; exact o4
  · rw [qE]; exact o5
  · intro g hg
    rw [nhE] at hg
    have z := o6 g hg
    unfold be_HR at z ⊢
    obtain ⟨z0, z1, z2, z3, z4, z5, z6, z7⟩ := z
    simp (disch := omega) only [q]
    refine ⟨z0, z1, z2, z3, z4, z5, z6, fun j hj => ?_⟩
    rw [q _ _ (by omega)]; exact z7 j hj
  · intro g hg
    rw [nrE] at hg
    have z := o7 g hg
    unfold be_RR at z ⊢
    simp (disch := omega) only [q, ftE]
    exact z
  · rw [q _ _ (by omega)]; exact x1
  · rw [theE, numE]; exact be_OW_t (fun c k j h => rfl) (fun c j h => q _ _ (by omega)) x2
  · rw [q _ _ (by omega)]; exact s1
  · intro g hg; rw [q 50 40 (by omega)] at hg; simp (disch := omega) only [q]; exact s2 g hg
  · rw [q _ _ (by omega)]; exact p1
  · intro g hg; rw [q 50 45 (by omega)] at hg; simp (disch := omega) only [q]; exact p2 g hg
  · rw [q _ _ (by omega)]; exact k1
  · intro g hg; rw [q 50 46 (by omega)] at hg; simp (disch := omega) only [q]; exact k2 g hg
/-! copies within the reference -/
theorem be_gW {e : Nat → Nat → Nat → Int32} (c j : Nat) (x : Int32) (c' j' : Nat) : be_g (am_w3 e c 0 j x) c' j' = if c' = c ∧ j' = j then x.toInt else be_g e c' j' := by
  unfold be_g
  rw [be_w3]
  by_cases h : c' = c ∧ j' = j
  · rw [if_pos ⟨h.1, rfl, h.2⟩, if_pos h]
  · rw [if_neg (fun q => h ⟨q.1, q.2.2⟩), if_neg h]
def be_sw (D s : Nat) (S : Nat → Nat) (c : Nat) : Nat := if c = D then s else S c
def be_CP (k : Nat) (e1 e2 : Nat → Nat → Nat → Int32) (S : Nat → Nat) : Prop := ∀ c j, be_g e2 c j = if j = k then be_g e1 (S c) j else be_g e1 c j
theorem be_cp0 (k : Nat) (e1 : Nat → Nat → Nat → Int32) : be_CP k e1 e1 id := fun c j => by split <;> rfl
theorem be_cp1 {k : Nat} {e1 e2 : Nat → Nat → Nat → Int32} {S : Nat → Nat} (D s : Nat) (h : be_CP k e1 e2 S) : be_CP k e1 (am_w3 e2 D 0 k (e1 s 0 k)) (be_sw D s S) := fun c j => by
  rw [be_gW, h c j]
  unfold be_sw
  by_cases hc : c = D
  · by_cases hj : j = k
    · subst hj; rw [if_pos ⟨hc, rfl⟩, if_pos rfl, if_pos hc]; rfl
    · rw [if_neg (fun q => hj q.2), if_neg hj, if_neg hj]
  · rw [if_neg (fun q => hc q.1), if_neg hc]
def be_CL (L k : Nat) (e1 e2 : Nat → Nat → Nat → Int32) (S : Nat → Nat) : Prop := ∀ c j, be_g e2 c j = if k ≤ j ∧ j < L then be_g e1 (S c) j else be_g e1 c j
theorem be_cl1 {L k : Nat} {e1 e2 e3 : Nat → Nat → Nat → Int32} {S : Nat → Nat} (hk : k < L) (h1 : be_CP k e1 e2 S) (h2 : be_CL L (k + 1) e2 e3 S) : be_CL L k e1 e3 S := fun c j => by
  rw [h2, h1, h1]
  by_cases hj : j = k
  · subst hj; rw [if_neg (by omega), if_pos rfl, if_pos (by omega)]
  · rw [if_neg hj, if_neg hj]
    by_cases h : k ≤ j ∧ j < L
    · rw [if_pos h, if_pos (by omega)]
    · rw [if_neg h, if_neg (by omega)]
theorem be_clS {L : Nat} {e1 e2 : Nat → Nat → Nat → Int32} {S : Nat → Nat} (h : be_CL L 0 e1 e2 S) {c : Nat} (hS : S c = c) (j : Nat) : be_g e2 c j = be_g e1 c j := by
  rw [h, hS]; split <;> rfl
theorem be_clT {L : Nat} {e1 e2 : Nat → Nat → Nat → Int32} {S : Nat → Nat} (h : be_CL L 0 e1 e2 S) (c s : Nat) (hS : S c = s) {j : Nat} (hj : j < L) : be_g e2 c j = be_g e1 s j := by
  rw [h, if_pos (by omega), hS]
def be_S91_71 : Nat → Nat := (be_sw 85 51 id)
theorem be_L91_71 : ∀ (n k : Nat) (z : Int) (e1 : Nat → Nat → Nat → Int32), k + n = 4 → z = (k : Int) → ∃ e2, am_fix (am_sem X d) X am_P91 71 [.inr (50, 0), am_I (be_i (z))] [] (am_sd a b u e1 f) = am_fix (am_sem X d) X am_P91 96 [.inr (50, 0), am_I (be_i (0))] [] (am_sd a b u e2 f) ∧ be_CL 4 k e1 e2 be_S91_71 := by
  intro n
  induction n with
  | zero =>
    rintro k z e1 hk rfl 
    obtain rfl : k = 4 := hk
    refine ⟨e1, ?_, fun c j => (if_neg (by omega)).symm⟩
    have he := be_gI e1
    rw [am_b91_71]
    rw [if_pos (by decide)]
  | succ n ih =>
    rintro k z e1 hk rfl 
    have w : ¬ (4 : Int) ≤ (k : Int) := by omega
    have hcp := (be_cp1 85 51 (be_cp0 k e1))
    obtain ⟨e2, g1, g2⟩ := ih (k + 1) ((k : Int) + 1) (am_w3 e1 85 0 k (e1 51 0 k)) (by omega) (by omega)
    refine ⟨e2, ?_, be_cl1 (by omega) hcp g2⟩
    rw [am_b91_71]
    simp (disch := (first | assumption | omega | exact (be_gB _ _ _).1 | exact (be_gB _ _ _).2)) only [↓reduceIte, be_ofI, ↓be_ofN, ↓be_0, be_add, be_sub, be_mul, be_neg, be_rem, be_bi, be_bl, be_bv, be_br, be_bE0, be_bE1, be_b1E, be_b0E, be_bkb, be_cast, Int.toNat_natCast, Int.reduceToNat, be_lt, be_le, be_eq, be_nt, be_ck, be_nz, be_bk, be_div, not_true_eq_false, not_false_eq_true, if_true, if_false, eq_self, Int.reduceEq, Int.reduceLT, Int.reduceLE, Bool.true_eq_false, Bool.false_eq_true, w]
    exact g1
def be_S91_96 : Nat → Nat := (be_sw 100 79 (be_sw 95 78 (be_sw 94 77 (be_sw 93 76 (be_sw 91 57 (be_sw 90 56 (be_sw 89 55 (be_sw 88 54 (be_sw 87 53 (be_sw 86 52 id))))))))))
theorem be_L91_96 : ∀ (n k : Nat) (z : Int) (e1 : Nat → Nat → Nat → Int32), k + n = 6 → z = (k : Int) → (∀ k, k < 6 → be_g e1 79 k = 0 ∨ be_g e1 79 k = 1) → ∃ e2, am_fix (am_sem X d) X am_P91 96 [.inr (50, 0), am_I (be_i (z))] [] (am_sd a b u e1 f) = am_fix (am_sem X d) X am_P91 230 [.inr (50, 0), am_I (be_i (0))] [] (am_sd a b u e2 f) ∧ be_CL 6 k e1 e2 be_S91_96 := by
  intro n
  induction n with
  | zero =>
    rintro k z e1 hk rfl _
    obtain rfl : k = 6 := hk
    refine ⟨e1, ?_, fun c j => (if_neg (by omega)).symm⟩
    have he := be_gI e1
    rw [am_b91_96]
    rw [if_pos (by decide)]
  | succ n ih =>
    rintro k z e1 hk rfl hb
    have w : ¬ (6 : Int) ≤ (k : Int) := by omega
    have hcp := (be_cp1 100 79 (be_cp1 95 78 (be_cp1 94 77 (be_cp1 93 76 (be_cp1 91 57 (be_cp1 90 56 (be_cp1 89 55 (be_cp1 88 54 (be_cp1 87 53 (be_cp1 86 52 (be_cp0 k e1)))))))))))
    have hbk : ∀ r, am_bk (e1 79 0 k) r = r := fun r => by rw [be_gI e1]; exact be_bk (hb k (by omega))
    obtain ⟨e2, g1, g2⟩ := ih (k + 1) ((k : Int) + 1) (am_w3 (am_w3 (am_w3 (am_w3 (am_w3 (am_w3 (am_w3 (am_w3 (am_w3 (am_w3 e1 86 0 k (e1 52 0 k)) 87 0 k (e1 53 0 k)) 88 0 k (e1 54 0 k)) 89 0 k (e1 55 0 k)) 90 0 k (e1 56 0 k)) 91 0 k (e1 57 0 k)) 93 0 k (e1 76 0 k)) 94 0 k (e1 77 0 k)) 95 0 k (e1 78 0 k)) 100 0 k (e1 79 0 k)) (by omega) (by omega) (fun j hj => by have q := hcp 79 j; rw [show ((be_sw 100 79 (be_sw 95 78 (be_sw 94 77 (be_sw 93 76 (be_sw 91 57 (be_sw 90 56 (be_sw 89 55 (be_sw 88 54 (be_sw 87 53 (be_sw 86 52 id))))))))))) 79 = 79 from rfl, ite_self] at q; rw [q]; exact hb j hj)
    refine ⟨e2, ?_, be_cl1 (by omega) hcp g2⟩
    rw [am_b91_96]
    simp (disch := (first | assumption | omega | exact (be_gB _ _ _).1 | exact (be_gB _ _ _).2)) only [↓reduceIte, be_ofI, ↓be_ofN, ↓be_0, be_add, be_sub, be_mul, be_neg, be_rem, be_bi, be_bl, be_bv, be_br, be_bE0, be_bE1, be_b1E, be_b0E, be_bkb, be_cast, Int.toNat_natCast, Int.reduceToNat, be_lt, be_le, be_eq, be_nt, be_ck, be_nz, be_bk, be_div, not_true_eq_false, not_false_eq_true, if_true, if_false, eq_self, Int.reduceEq, Int.reduceLT, Int.reduceLE, Bool.true_eq_false, Bool.false_eq_true, w, hbk]
    exact g1
def be_S91_230 : Nat → Nat := (be_sw 92 58 id)
theorem be_L91_230 : ∀ (n k : Nat) (z : Int) (e1 : Nat → Nat → Nat → Int32), k + n = 24 → z = (k : Int) → ∃ e2, am_fix (am_sem X d) X am_P91 230 [.inr (50, 0), am_I (be_i (z))] [] (am_sd a b u e1 f) = am_fix (am_sem X d) X am_P91 256 [.inr (50, 0), am_I (be_i (0))] [] (am_sd a b u e2 f) ∧ be_CL 24 k e1 e2 be_S91_230 := by
  intro n
  induction n with
  | zero =>
    rintro k z e1 hk rfl 
    obtain rfl : k = 24 := hk
    refine ⟨e1, ?_, fun c j => (if_neg (by omega)).symm⟩
    have he := be_gI e1
    rw [am_b91_230]
    rw [if_pos (by decide)]
  | succ n ih =>
    rintro k z e1 hk rfl 
    have w : ¬ (24 : Int) ≤ (k : Int) := by omega
    have hcp := (be_cp1 92 58 (be_cp0 k e1))
    obtain ⟨e2, g1, g2⟩ := ih (k + 1) ((k : Int) + 1) (am_w3 e1 92 0 k (e1 58 0 k)) (by omega) (by omega)
    refine ⟨e2, ?_, be_cl1 (by omega) hcp g2⟩
    rw [am_b91_230]
    simp (disch := (first | assumption | omega | exact (be_gB _ _ _).1 | exact (be_gB _ _ _).2)) only [↓reduceIte, be_ofI, ↓be_ofN, ↓be_0, be_add, be_sub, be_mul, be_neg, be_rem, be_bi, be_bl, be_bv, be_br, be_bE0, be_bE1, be_b1E, be_b0E, be_bkb, be_cast, Int.toNat_natCast, Int.reduceToNat, be_lt, be_le, be_eq, be_nt, be_ck, be_nz, be_bk, be_div, not_true_eq_false, not_false_eq_true, if_true, if_false, eq_self, Int.reduceEq, Int.reduceLT, Int.reduceLE, Bool.true_eq_false, Bool.false_eq_true, w]
    exact g1
def be_S91_256 : Nat → Nat := (be_sw 99 83 (be_sw 98 82 (be_sw 97 81 (be_sw 96 80 id))))
theorem be_L91_256 : ∀ (n k : Nat) (z : Int) (e1 : Nat → Nat → Nat → Int32), k + n = 8 → z = (k : Int) → ∃ e2, am_fix (am_sem X d) X am_P91 256 [.inr (50, 0), am_I (be_i (z))] [] (am_sd a b u e1 f) = some (some (am_I (be_i (be_g e2 50 2))), am_sd a b u e2 f) ∧ be_CL 8 k e1 e2 be_S91_256 := by
  intro n
  induction n with
  | zero =>
    rintro k z e1 hk rfl 
    obtain rfl : k = 8 := hk
    refine ⟨e1, ?_, fun c j => (if_neg (by omega)).symm⟩
    have he := be_gI e1
    rw [am_b91_256]
    rw [if_pos (by decide), he]
  | succ n ih =>
    rintro k z e1 hk rfl 
    have w : ¬ (8 : Int) ≤ (k : Int) := by omega
    have hcp := (be_cp1 99 83 (be_cp1 98 82 (be_cp1 97 81 (be_cp1 96 80 (be_cp0 k e1)))))
    obtain ⟨e2, g1, g2⟩ := ih (k + 1) ((k : Int) + 1) (am_w3 (am_w3 (am_w3 (am_w3 e1 96 0 k (e1 80 0 k)) 97 0 k (e1 81 0 k)) 98 0 k (e1 82 0 k)) 99 0 k (e1 83 0 k)) (by omega) (by omega)
    refine ⟨e2, ?_, be_cl1 (by omega) hcp g2⟩
    rw [am_b91_256]
    simp (disch := (first | assumption | omega | exact (be_gB _ _ _).1 | exact (be_gB _ _ _).2)) only [↓reduceIte, be_ofI, ↓be_ofN, ↓be_0, be_add, be_sub, be_mul, be_neg, be_rem, be_bi, be_bl, be_bv, be_br, be_bE0, be_bE1, be_b1E, be_b0E, be_bkb, be_cast, Int.toNat_natCast, Int.reduceToNat, be_lt, be_le, be_eq, be_nt, be_ck, be_nz, be_bk, be_div, not_true_eq_false, not_false_eq_true, if_true, if_false, eq_self, Int.reduceEq, Int.reduceLT, Int.reduceLE, Bool.true_eq_false, Bool.false_eq_true, w]
    exact g1
def be_S92_76 : Nat → Nat := (be_sw 51 85 id)
theorem be_L92_76 : ∀ (n k : Nat) (z : Int) (e1 : Nat → Nat → Nat → Int32), k + n = 4 → z = (k : Int) → ∃ e2, am_fix (am_sem X d) X am_P92 76 [.inr (50, 0), am_I (be_i (z))] [] (am_sd a b u e1 f) = am_fix (am_sem X d) X am_P92 101 [.inr (50, 0), am_I (be_i (0))] [] (am_sd a b u e2 f) ∧ be_CL 4 k e1 e2 be_S92_76 := by
  intro n
  induction n with
  | zero =>
    rintro k z e1 hk rfl 
    obtain rfl : k = 4 := hk
    refine ⟨e1, ?_, fun c j => (if_neg (by omega)).symm⟩
    have he := be_gI e1
    rw [am_b92_76]
    rw [if_pos (by decide)]
  | succ n ih =>
    rintro k z e1 hk rfl 
    have w : ¬ (4 : Int) ≤ (k : Int) := by omega
    have hcp := (be_cp1 51 85 (be_cp0 k e1))
    obtain ⟨e2, g1, g2⟩ := ih (k + 1) ((k : Int) + 1) (am_w3 e1 51 0 k (e1 85 0 k)) (by omega) (by omega)
    refine ⟨e2, ?_, be_cl1 (by omega) hcp g2⟩
    rw [am_b92_76]
    simp (disch := (first | assumption | omega | exact (be_gB _ _ _).1 | exact (be_gB _ _ _).2)) only [↓reduceIte, be_ofI, ↓be_ofN, ↓be_0, be_add, be_sub, be_mul, be_neg, be_rem, be_bi, be_bl, be_bv, be_br, be_bE0, be_bE1, be_b1E, be_b0E, be_bkb, be_cast, Int.toNat_natCast, Int.reduceToNat, be_lt, be_le, be_eq, be_nt, be_ck, be_nz, be_bk, be_div, not_true_eq_false, not_false_eq_true, if_true, if_false, eq_self, Int.reduceEq, Int.reduceLT, Int.reduceLE, Bool.true_eq_false, Bool.false_eq_true, w]
    exact g1
def be_S92_101 : Nat → Nat := (be_sw 79 100 (be_sw 78 95 (be_sw 77 94 (be_sw 76 93 (be_sw 57 91 (be_sw 56 90 (be_sw 55 89 (be_sw 54 88 (be_sw 53 87 (be_sw 52 86 id))))))))))
theorem be_L92_101 : ∀ (n k : Nat) (z : Int) (e1 : Nat → Nat → Nat → Int32), k + n = 6 → z = (k : Int) → (∀ k, k < 6 → be_g e1 100 k = 0 ∨ be_g e1 100 k = 1) → ∃ e2, am_fix (am_sem X d) X am_P92 101 [.inr (50, 0), am_I (be_i (z))] [] (am_sd a b u e1 f) = am_fix (am_sem X d) X am_P92 235 [.inr (50, 0), am_I (be_i (0))] [] (am_sd a b u e2 f) ∧ be_CL 6 k e1 e2 be_S92_101 := by
  intro n
  induction n with
  | zero =>
    rintro k z e1 hk rfl _
    obtain rfl : k = 6 := hk
    refine ⟨e1, ?_, fun c j => (if_neg (by omega)).symm⟩
    have he := be_gI e1
    rw [am_b92_101]
    rw [if_pos (by decide)]
  | succ n ih =>
    rintro k z e1 hk rfl hb
    have w : ¬ (6 : Int) ≤ (k : Int) := by omega
    have hcp := (be_cp1 79 100 (be_cp1 78 95 (be_cp1 77 94 (be_cp1 76 93 (be_cp1 57 91 (be_cp1 56 90 (be_cp1 55 89 (be_cp1 54 88 (be_cp1 53 87 (be_cp1 52 86 (be_cp0 k e1)))))))))))
    have hbk : ∀ r, am_bk (e1 100 0 k) r = r := fun r => by rw [be_gI e1]; exact be_bk (hb k (by omega))
    obtain ⟨e2, g1, g2⟩ := ih (k + 1) ((k : Int) + 1) (am_w3 (am_w3 (am_w3 (am_w3 (am_w3 (am_w3 (am_w3 (am_w3 (am_w3 (am_w3 e1 52 0 k (e1 86 0 k)) 53 0 k (e1 87 0 k)) 54 0 k (e1 88 0 k)) 55 0 k (e1 89 0 k)) 56 0 k (e1 90 0 k)) 57 0 k (e1 91 0 k)) 76 0 k (e1 93 0 k)) 77 0 k (e1 94 0 k)) 78 0 k (e1 95 0 k)) 79 0 k (e1 100 0 k)) (by omega) (by omega) (fun j hj => by have q := hcp 100 j; rw [show ((be_sw 79 100 (be_sw 78 95 (be_sw 77 94 (be_sw 76 93 (be_sw 57 91 (be_sw 56 90 (be_sw 55 89 (be_sw 54 88 (be_sw 53 87 (be_sw 52 86 id))))))))))) 100 = 100 from rfl, ite_self] at q; rw [q]; exact hb j hj)
    refine ⟨e2, ?_, be_cl1 (by omega) hcp g2⟩
    rw [am_b92_101]
    simp (disch := (first | assumption | omega | exact (be_gB _ _ _).1 | exact (be_gB _ _ _).2)) only [↓reduceIte, be_ofI, ↓be_ofN, ↓be_0, be_add, be_sub, be_mul, be_neg, be_rem, be_bi, be_bl, be_bv, be_br, be_bE0, be_bE1, be_b1E, be_b0E, be_bkb, be_cast, Int.toNat_natCast, Int.reduceToNat, be_lt, be_le, be_eq, be_nt, be_ck, be_nz, be_bk, be_div, not_true_eq_false, not_false_eq_true, if_true, if_false, eq_self, Int.reduceEq, Int.reduceLT, Int.reduceLE, Bool.true_eq_false, Bool.false_eq_true, w, hbk]
    exact g1
def be_S92_235 : Nat → Nat := (be_sw 58 92 id)
theorem be_L92_235 : ∀ (n k : Nat) (z : Int) (e1 : Nat → Nat → Nat → Int32), k + n = 24 → z = (k : Int) → ∃ e2, am_fix (am_sem X d) X am_P92 235 [.inr (50, 0), am_I (be_i (z))] [] (am_sd a b u e1 f) = am_fix (am_sem X d) X am_P92 261 [.inr (50, 0), am_I (be_i (0))] [] (am_sd a b u e2 f) ∧ be_CL 24 k e1 e2 be_S92_235 := by
  intro n
  induction n with
  | zero =>
    rintro k z e1 hk rfl 
    obtain rfl : k = 24 := hk
    refine ⟨e1, ?_, fun c j => (if_neg (by omega)).symm⟩
    have he := be_gI e1
    rw [am_b92_235]
    rw [if_pos (by decide)]
  | succ n ih =>
    rintro k z e1 hk rfl 
    have w : ¬ (24 : Int) ≤ (k : Int) := by omega
    have hcp := (be_cp1 58 92 (be_cp0 k e1))
    obtain ⟨e2, g1, g2⟩ := ih (k + 1) ((k : Int) + 1) (am_w3 e1 58 0 k (e1 92 0 k)) (by omega) (by omega)
    refine ⟨e2, ?_, be_cl1 (by omega) hcp g2⟩
    rw [am_b92_235]
    simp (disch := (first | assumption | omega | exact (be_gB _ _ _).1 | exact (be_gB _ _ _).2)) only [↓reduceIte, be_ofI, ↓be_ofN, ↓be_0, be_add, be_sub, be_mul, be_neg, be_rem, be_bi, be_bl, be_bv, be_br, be_bE0, be_bE1, be_b1E, be_b0E, be_bkb, be_cast, Int.toNat_natCast, Int.reduceToNat, be_lt, be_le, be_eq, be_nt, be_ck, be_nz, be_bk, be_div, not_true_eq_false, not_false_eq_true, if_true, if_false, eq_self, Int.reduceEq, Int.reduceLT, Int.reduceLE, Bool.true_eq_false, Bool.false_eq_true, w]
    exact g1
def be_S92_261 : Nat → Nat := (be_sw 83 99 (be_sw 82 98 (be_sw 81 97 (be_sw 80 96 id))))
theorem be_L92_261 : ∀ (n k : Nat) (z : Int) (e1 : Nat → Nat → Nat → Int32), k + n = 8 → z = (k : Int) → ∃ e2, am_fix (am_sem X d) X am_P92 261 [.inr (50, 0), am_I (be_i (z))] [] (am_sd a b u e1 f) = some (some (am_I (be_i (be_g e2 50 2))), am_sd a b u e2 f) ∧ be_CL 8 k e1 e2 be_S92_261 := by
  intro n
  induction n with
  | zero =>
    rintro k z e1 hk rfl 
    obtain rfl : k = 8 := hk
    refine ⟨e1, ?_, fun c j => (if_neg (by omega)).symm⟩
    have he := be_gI e1
    rw [am_b92_261]
    rw [if_pos (by decide), he]
  | succ n ih =>
    rintro k z e1 hk rfl 
    have w : ¬ (8 : Int) ≤ (k : Int) := by omega
    have hcp := (be_cp1 83 99 (be_cp1 82 98 (be_cp1 81 97 (be_cp1 80 96 (be_cp0 k e1)))))
    obtain ⟨e2, g1, g2⟩ := ih (k + 1) ((k : Int) + 1) (am_w3 (am_w3 (am_w3 (am_w3 e1 80 0 k (e1 96 0 k)) 81 0 k (e1 97 0 k)) 82 0 k (e1 98 0 k)) 83 0 k (e1 99 0 k)) (by omega) (by omega)
    refine ⟨e2, ?_, be_cl1 (by omega) hcp g2⟩
    rw [am_b92_261]
    simp (disch := (first | assumption | omega | exact (be_gB _ _ _).1 | exact (be_gB _ _ _).2)) only [↓reduceIte, be_ofI, ↓be_ofN, ↓be_0, be_add, be_sub, be_mul, be_neg, be_rem, be_bi, be_bl, be_bv, be_br, be_bE0, be_bE1, be_b1E, be_b0E, be_bkb, be_cast, Int.toNat_natCast, Int.reduceToNat, be_lt, be_le, be_eq, be_nt, be_ck, be_nz, be_bk, be_div, not_true_eq_false, not_false_eq_true, if_true, if_false, eq_self, Int.reduceEq, Int.reduceLT, Int.reduceLE, Bool.true_eq_false, Bool.false_eq_true, w]
    exact g1
theorem be_sk91 {c : Nat} (h : c < 85 ∨ 100 < c) : be_S91_71 c = c ∧ be_S91_96 c = c ∧ be_S91_230 c = c ∧ be_S91_256 c = c := by
  refine ⟨?_, ?_, ?_, ?_⟩
  · unfold be_S91_71 be_sw
    rw [if_neg (by omega)]; rfl
  · unfold be_S91_96 be_sw
    rw [if_neg (by omega)]; rw [if_neg (by omega)]; rw [if_neg (by omega)]; rw [if_neg (by omega)]; rw [if_neg (by omega)]; rw [if_neg (by omega)]; rw [if_neg (by omega)]; rw [if_neg (by omega)]; rw [if_neg (by omega)]; rw [if_neg (by omega)]; rfl
  · unfold be_S91_230 be_sw
    rw [if_neg (by omega)]; rfl
  · unfold be_S91_256 be_sw
    rw [if_neg (by omega)]; rw [if_neg (by omega)]; rw [if_neg (by omega)]; rw [if_neg (by omega)]; rfl
theorem be_sk92 {c : Nat} (h : ¬ (51 ≤ c ∧ c ≤ 58) ∧ ¬ (76 ≤ c ∧ c ≤ 83)) : be_S92_76 c = c ∧ be_S92_101 c = c ∧ be_S92_235 c = c ∧ be_S92_261 c = c := by
  refine ⟨?_, ?_, ?_, ?_⟩
  · unfold be_S92_76 be_sw
    rw [if_neg (by omega)]; rfl
  · unfold be_S92_101 be_sw
    rw [if_neg (by omega)]; rw [if_neg (by omega)]; rw [if_neg (by omega)]; rw [if_neg (by omega)]; rw [if_neg (by omega)]; rw [if_neg (by omega)]; rw [if_neg (by omega)]; rw [if_neg (by omega)]; rw [if_neg (by omega)]; rw [if_neg (by omega)]; rfl
  · unfold be_S92_235 be_sw
    rw [if_neg (by omega)]; rfl
  · unfold be_S92_261 be_sw
    rw [if_neg (by omega)]; rw [if_neg (by omega)]; rw [if_neg (by omega)]; rw [if_neg (by omega)]; rfl
theorem be_m91 (hd : 1 ≤ d) (h9 : be_I9 e) : ∃ e', am_sem X d 91 [.inr (50, 0)] (am_sd a b u e f) = some (some (am_I (be_i (be_g e 50 2))), am_sd a b u e' f) ∧ be_Rb e (be_im e') ∧ be_g e' 50 52 = 1 ∧ (∀ j, j < 6 → be_g e' 100 j = be_g e 79 j) ∧ ∀ c j, ¬ (c = 50 ∧ 52 ≤ j ∧ j ≤ 60) → c < 85 ∨ 100 < c → be_g e' c j = be_g e c j := by
  obtain ⟨d, rfl⟩ : ∃ q, d = q + 1 := ⟨d - 1, by omega⟩
  obtain ⟨e0, h0⟩ : ∃ e0, e0 = am_w3 (am_w3 (am_w3 (am_w3 (am_w3 (am_w3 (am_w3 (am_w3 (am_w3 e 50 0 52 (be_i 1)) 50 0 53 (e 50 0 13)) 50 0 54 (e 50 0 0)) 50 0 55 (e 50 0 1)) 50 0 56 (e 50 0 2)) 50 0 57 (e 50 0 3)) 50 0 58 (e 50 0 40)) 50 0 59 (e 50 0 45)) 50 0 60 (e 50 0 46) := ⟨_, rfl⟩
  have u0 : ∀ c j, ¬ (c = 50 ∧ 52 ≤ j ∧ j ≤ 60) → be_g e0 c j = be_g e c j := fun c j h => by rw [h0]; simp (disch := omega) only [be_gn]
  obtain ⟨e1, g1, h1⟩ := be_L91_71 (X := X) (a := a) (b := b) (u := u) (f := f) (d := d) 4 0 0 e0 rfl rfl
  obtain ⟨e2, g2, h2⟩ := be_L91_96 (X := X) (a := a) (b := b) (u := u) (f := f) (d := d) 6 0 0 e1 rfl rfl (fun k hk => by rw [be_clS h1 (c := 79) rfl, u0 _ _ (by omega)]; exact (h9 k hk).1)
  obtain ⟨e3, g3, h3⟩ := be_L91_230 (X := X) (a := a) (b := b) (u := u) (f := f) (d := d) 24 0 0 e2 rfl rfl
  obtain ⟨e4, g4, h4⟩ := be_L91_256 (X := X) (a := a) (b := b) (u := u) (f := f) (d := d) 8 0 0 e3 rfl rfl
  have sk : ∀ c j, c < 85 ∨ 100 < c → be_g e4 c j = be_g e0 c j := fun c j hc => by
    obtain ⟨s1, s2, s3, s4⟩ := be_sk91 hc
    rw [be_clS h4 s4, be_clS h3 s3, be_clS h2 s2, be_clS h1 s1]
  refine ⟨e4, ?_, ?_, ?_, ?_, ?_⟩
  · rw [am_s91]
    have g := g1.trans (g2.trans (g3.trans g4))
    rw [sk 50 2 (by omega), u0 50 2 (by omega), h0] at g
    exact g
  · intro c j hc
    have z : ∀ x, x = 50 ∨ (51 ≤ x ∧ x ≤ 58) ∨ (60 ≤ x ∧ x ≤ 65) ∨ (76 ≤ x ∧ x ≤ 83) → True := fun _ _ => trivial
    rcases (show (c = 50) ∨ c = 51 ∨ c = 52 ∨ c = 53 ∨ c = 54 ∨ c = 55 ∨ c = 56 ∨ c = 57 ∨ c = 58 ∨ (60 ≤ c ∧ c ≤ 65) ∨ c = 76 ∨ c = 77 ∨ c = 78 ∨ c = 79 ∨ c = 80 ∨ c = 81 ∨ c = 82 ∨ c = 83 by omega) with rfl | rfl | rfl | rfl | rfl | rfl | rfl | rfl | rfl | h6 | rfl | rfl | rfl | rfl | rfl | rfl | rfl | rfl
    · rcases (show j = 0 ∨ j = 1 ∨ j = 2 ∨ j = 3 ∨ j = 12 ∨ j = 13 ∨ j = 29 ∨ j = 40 ∨ j = 45 ∨ j = 46 by omega) with rfl | rfl | rfl | rfl | rfl | rfl | rfl | rfl | rfl | rfl
      · exact (sk 50 54 (by omega)).trans (by rw [h0]; (try simp (disch := omega) only [be_gn]); rw [be_gW, if_pos ⟨rfl, rfl⟩]; rfl)
      · exact (sk 50 55 (by omega)).trans (by rw [h0]; (try simp (disch := omega) only [be_gn]); rw [be_gW, if_pos ⟨rfl, rfl⟩]; rfl)
      · exact (sk 50 56 (by omega)).trans (by rw [h0]; (try simp (disch := omega) only [be_gn]); rw [be_gW, if_pos ⟨rfl, rfl⟩]; rfl)
      · exact (sk 50 57 (by omega)).trans (by rw [h0]; (try simp (disch := omega) only [be_gn]); rw [be_gW, if_pos ⟨rfl, rfl⟩]; rfl)
      · exact (sk 50 12 (by omega)).trans (u0 50 12 (by omega))
      · exact (sk 50 53 (by omega)).trans (by rw [h0]; (try simp (disch := omega) only [be_gn]); rw [be_gW, if_pos ⟨rfl, rfl⟩]; rfl)
      · exact (sk 50 29 (by omega)).trans (u0 50 29 (by omega))
      · exact (sk 50 58 (by omega)).trans (by rw [h0]; (try simp (disch := omega) only [be_gn]); rw [be_gW, if_pos ⟨rfl, rfl⟩]; rfl)
      · exact (sk 50 59 (by omega)).trans (by rw [h0]; (try simp (disch := omega) only [be_gn]); rw [be_gW, if_pos ⟨rfl, rfl⟩]; rfl)
      · exact (sk 50 60 (by omega)).trans (by rw [h0]; (try simp (disch := omega) only [be_gn]); rw [be_gW, if_pos ⟨rfl, rfl⟩]; rfl)
    · show be_g e4 85 j = be_g e 51 j
      rw [be_clS h4 (c := 85) rfl, be_clS h3 (c := 85) rfl, be_clS h2 (c := 85) rfl, be_clT h1 85 51 rfl (by omega), u0 _ _ (by omega)]
    · show be_g e4 86 j = be_g e 52 j
      rw [be_clS h4 (c := 86) rfl, be_clS h3 (c := 86) rfl, be_clT h2 86 52 rfl (by omega), be_clS h1 (c := 52) rfl, u0 _ _ (by omega)]
    · show be_g e4 87 j = be_g e 53 j
      rw [be_clS h4 (c := 87) rfl, be_clS h3 (c := 87) rfl, be_clT h2 87 53 rfl (by omega), be_clS h1 (c := 53) rfl, u0 _ _ (by omega)]
    · show be_g e4 88 j = be_g e 54 j
      rw [be_clS h4 (c := 88) rfl, be_clS h3 (c := 88) rfl, be_clT h2 88 54 rfl (by omega), be_clS h1 (c := 54) rfl, u0 _ _ (by omega)]
    · show be_g e4 89 j = be_g e 55 j
      rw [be_clS h4 (c := 89) rfl, be_clS h3 (c := 89) rfl, be_clT h2 89 55 rfl (by omega), be_clS h1 (c := 55) rfl, u0 _ _ (by omega)]
    · show be_g e4 90 j = be_g e 56 j
      rw [be_clS h4 (c := 90) rfl, be_clS h3 (c := 90) rfl, be_clT h2 90 56 rfl (by omega), be_clS h1 (c := 56) rfl, u0 _ _ (by omega)]
    · show be_g e4 91 j = be_g e 57 j
      rw [be_clS h4 (c := 91) rfl, be_clS h3 (c := 91) rfl, be_clT h2 91 57 rfl (by omega), be_clS h1 (c := 57) rfl, u0 _ _ (by omega)]
    · show be_g e4 92 j = be_g e 58 j
      rw [be_clS h4 (c := 92) rfl, be_clT h3 92 58 rfl (by omega), be_clS h2 (c := 58) rfl, be_clS h1 (c := 58) rfl, u0 _ _ (by omega)]
    · have : be_g (be_im e4) c j = be_g e4 c j := by
        unfold be_g
        rw [be_imL (by omega), if_neg (by omega), if_neg (by omega), if_neg (by omega), if_neg (by omega)]
      rw [this, sk _ _ (by omega), u0 _ _ (by omega)]
    · show be_g e4 93 j = be_g e 76 j
      rw [be_clS h4 (c := 93) rfl, be_clS h3 (c := 93) rfl, be_clT h2 93 76 rfl (by omega), be_clS h1 (c := 76) rfl, u0 _ _ (by omega)]
    · show be_g e4 94 j = be_g e 77 j
      rw [be_clS h4 (c := 94) rfl, be_clS h3 (c := 94) rfl, be_clT h2 94 77 rfl (by omega), be_clS h1 (c := 77) rfl, u0 _ _ (by omega)]
    · show be_g e4 95 j = be_g e 78 j
      rw [be_clS h4 (c := 95) rfl, be_clS h3 (c := 95) rfl, be_clT h2 95 78 rfl (by omega), be_clS h1 (c := 78) rfl, u0 _ _ (by omega)]
    · show be_g e4 100 j = be_g e 79 j
      rw [be_clS h4 (c := 100) rfl, be_clS h3 (c := 100) rfl, be_clT h2 100 79 rfl (by omega), be_clS h1 (c := 79) rfl, u0 _ _ (by omega)]
    · show be_g e4 96 j = be_g e 80 j
      rw [be_clT h4 96 80 rfl (by omega), be_clS h3 (c := 80) rfl, be_clS h2 (c := 80) rfl, be_clS h1 (c := 80) rfl, u0 _ _ (by omega)]
    · show be_g e4 97 j = be_g e 81 j
      rw [be_clT h4 97 81 rfl (by omega), be_clS h3 (c := 81) rfl, be_clS h2 (c := 81) rfl, be_clS h1 (c := 81) rfl, u0 _ _ (by omega)]
    · show be_g e4 98 j = be_g e 82 j
      rw [be_clT h4 98 82 rfl (by omega), be_clS h3 (c := 82) rfl, be_clS h2 (c := 82) rfl, be_clS h1 (c := 82) rfl, u0 _ _ (by omega)]
    · show be_g e4 99 j = be_g e 83 j
      rw [be_clT h4 99 83 rfl (by omega), be_clS h3 (c := 83) rfl, be_clS h2 (c := 83) rfl, be_clS h1 (c := 83) rfl, u0 _ _ (by omega)]
  · rw [sk 50 52 (by omega), h0]
    simp (disch := omega) only [be_gn]
    rw [be_gW, if_pos ⟨rfl, rfl⟩]; rfl
  · intro j hj
    rw [be_clS h4 (c := 100) rfl, be_clS h3 (c := 100) rfl, be_clT h2 100 79 rfl (by omega), be_clS h1 (c := 79) rfl, u0 _ _ (by omega)]
  · intro c j hc1 hc2
    rw [sk c j hc2, u0 c j hc1]
theorem be_m92 (hd : 1 ≤ d) (h9 : be_I9 e) (h52 : be_g e 50 52 = 1) : ∃ e', am_sem X d 92 [.inr (50, 0)] (am_sd a b u e f) = some (some (am_I (be_i (be_g (be_im e) 50 2))), am_sd a b u e' f) ∧ be_Rb (be_im e) e' ∧ (∀ j, j < 6 → be_g e' 79 j = be_g e 100 j) ∧ be_EH e e' := by
  obtain ⟨d, rfl⟩ : ∃ q, d = q + 1 := ⟨d - 1, by omega⟩
  obtain ⟨e0, h0⟩ : ∃ e0, e0 = am_w3 (am_w3 (am_w3 (am_w3 (am_w3 (am_w3 (am_w3 (am_w3 e 50 0 13 (e 50 0 53)) 50 0 0 (e 50 0 54)) 50 0 1 (e 50 0 55)) 50 0 2 (e 50 0 56)) 50 0 3 (e 50 0 57)) 50 0 40 (e 50 0 58)) 50 0 45 (e 50 0 59)) 50 0 46 (e 50 0 60) := ⟨_, rfl⟩
  have u0 : ∀ c j, ¬ (c = 50 ∧ (j = 13 ∨ j = 0 ∨ j = 1 ∨ j = 2 ∨ j = 3 ∨ j = 40 ∨ j = 45 ∨ j = 46)) → be_g e0 c j = be_g e c j := fun c j h => by rw [h0]; simp (disch := omega) only [be_gn]
  obtain ⟨e1, g1, h1⟩ := be_L92_76 (X := X) (a := a) (b := b) (u := u) (f := f) (d := d) 4 0 0 e0 rfl rfl
  obtain ⟨e2, g2, h2⟩ := be_L92_101 (X := X) (a := a) (b := b) (u := u) (f := f) (d := d) 6 0 0 e1 rfl rfl (fun k hk => by rw [be_clS h1 (c := 100) rfl, u0 _ _ (by omega)]; exact (h9 k hk).2)
  obtain ⟨e3, g3, h3⟩ := be_L92_235 (X := X) (a := a) (b := b) (u := u) (f := f) (d := d) 24 0 0 e2 rfl rfl
  obtain ⟨e4, g4, h4⟩ := be_L92_261 (X := X) (a := a) (b := b) (u := u) (f := f) (d := d) 8 0 0 e3 rfl rfl
  have sk : ∀ c j, ¬ (51 ≤ c ∧ c ≤ 58) ∧ ¬ (76 ≤ c ∧ c ≤ 83) → be_g e4 c j = be_g e0 c j := fun c j hc => by
    obtain ⟨s1, s2, s3, s4⟩ := be_sk92 hc
    rw [be_clS h4 s4, be_clS h3 s3, be_clS h2 s2, be_clS h1 s1]
  have hR : be_Rb (be_im e) e4 := by
    intro c j hc
    rcases (show (c = 50) ∨ c = 51 ∨ c = 52 ∨ c = 53 ∨ c = 54 ∨ c = 55 ∨ c = 56 ∨ c = 57 ∨ c = 58 ∨ (60 ≤ c ∧ c ≤ 65) ∨ c = 76 ∨ c = 77 ∨ c = 78 ∨ c = 79 ∨ c = 80 ∨ c = 81 ∨ c = 82 ∨ c = 83 by omega) with rfl | rfl | rfl | rfl | rfl | rfl | rfl | rfl | rfl | h6 | rfl | rfl | rfl | rfl | rfl | rfl | rfl | rfl
    · rcases (show j = 0 ∨ j = 1 ∨ j = 2 ∨ j = 3 ∨ j = 12 ∨ j = 13 ∨ j = 29 ∨ j = 40 ∨ j = 45 ∨ j = 46 by omega) with rfl | rfl | rfl | rfl | rfl | rfl | rfl | rfl | rfl | rfl
      · exact (sk 50 0 (by omega)).trans (by rw [h0]; (try simp (disch := omega) only [be_gn]); rw [be_gW, if_pos ⟨rfl, rfl⟩]; rfl)
      · exact (sk 50 1 (by omega)).trans (by rw [h0]; (try simp (disch := omega) only [be_gn]); rw [be_gW, if_pos ⟨rfl, rfl⟩]; rfl)
      · exact (sk 50 2 (by omega)).trans (by rw [h0]; (try simp (disch := omega) only [be_gn]); rw [be_gW, if_pos ⟨rfl, rfl⟩]; rfl)
      · exact (sk 50 3 (by omega)).trans (by rw [h0]; (try simp (disch := omega) only [be_gn]); rw [be_gW, if_pos ⟨rfl, rfl⟩]; rfl)
      · exact (sk 50 12 (by omega)).trans (u0 50 12 (by omega))
      · exact (sk 50 13 (by omega)).trans (by rw [h0]; (try simp (disch := omega) only [be_gn]); rw [be_gW, if_pos ⟨rfl, rfl⟩]; rfl)
      · exact (sk 50 29 (by omega)).trans (u0 50 29 (by omega))
      · exact (sk 50 40 (by omega)).trans (by rw [h0]; (try simp (disch := omega) only [be_gn]); rw [be_gW, if_pos ⟨rfl, rfl⟩]; rfl)
      · exact (sk 50 45 (by omega)).trans (by rw [h0]; (try simp (disch := omega) only [be_gn]); rw [be_gW, if_pos ⟨rfl, rfl⟩]; rfl)
      · exact (sk 50 46 (by omega)).trans (by rw [h0]; (try simp (disch := omega) only [be_gn]); rw [be_gW, if_pos ⟨rfl, rfl⟩]; rfl)
    · show be_g e4 51 j = be_g e 85 j
      rw [be_clS h4 (c := 51) rfl, be_clS h3 (c := 51) rfl, be_clS h2 (c := 51) rfl, be_clT h1 51 85 rfl (by omega), u0 _ _ (by omega)]
    · show be_g e4 52 j = be_g e 86 j
      rw [be_clS h4 (c := 52) rfl, be_clS h3 (c := 52) rfl, be_clT h2 52 86 rfl (by omega), be_clS h1 (c := 86) rfl, u0 _ _ (by omega)]
    · show be_g e4 53 j = be_g e 87 j
      rw [be_clS h4 (c := 53) rfl, be_clS h3 (c := 53) rfl, be_clT h2 53 87 rfl (by omega), be_clS h1 (c := 87) rfl, u0 _ _ (by omega)]
    · show be_g e4 54 j = be_g e 88 j
      rw [be_clS h4 (c := 54) rfl, be_clS h3 (c := 54) rfl, be_clT h2 54 88 rfl (by omega), be_clS h1 (c := 88) rfl, u0 _ _ (by omega)]
    · show be_g e4 55 j = be_g e 89 j
      rw [be_clS h4 (c := 55) rfl, be_clS h3 (c := 55) rfl, be_clT h2 55 89 rfl (by omega), be_clS h1 (c := 89) rfl, u0 _ _ (by omega)]
    · show be_g e4 56 j = be_g e 90 j
      rw [be_clS h4 (c := 56) rfl, be_clS h3 (c := 56) rfl, be_clT h2 56 90 rfl (by omega), be_clS h1 (c := 90) rfl, u0 _ _ (by omega)]
    · show be_g e4 57 j = be_g e 91 j
      rw [be_clS h4 (c := 57) rfl, be_clS h3 (c := 57) rfl, be_clT h2 57 91 rfl (by omega), be_clS h1 (c := 91) rfl, u0 _ _ (by omega)]
    · show be_g e4 58 j = be_g e 92 j
      rw [be_clS h4 (c := 58) rfl, be_clT h3 58 92 rfl (by omega), be_clS h2 (c := 92) rfl, be_clS h1 (c := 92) rfl, u0 _ _ (by omega)]
    · have : be_g (be_im e) c j = be_g e c j := by
        unfold be_g
        rw [be_imL (by omega), if_neg (by omega), if_neg (by omega), if_neg (by omega), if_neg (by omega)]
      rw [this, sk _ _ (by omega), u0 _ _ (by omega)]
    · show be_g e4 76 j = be_g e 93 j
      rw [be_clS h4 (c := 76) rfl, be_clS h3 (c := 76) rfl, be_clT h2 76 93 rfl (by omega), be_clS h1 (c := 93) rfl, u0 _ _ (by omega)]
    · show be_g e4 77 j = be_g e 94 j
      rw [be_clS h4 (c := 77) rfl, be_clS h3 (c := 77) rfl, be_clT h2 77 94 rfl (by omega), be_clS h1 (c := 94) rfl, u0 _ _ (by omega)]
    · show be_g e4 78 j = be_g e 95 j
      rw [be_clS h4 (c := 78) rfl, be_clS h3 (c := 78) rfl, be_clT h2 78 95 rfl (by omega), be_clS h1 (c := 95) rfl, u0 _ _ (by omega)]
    · show be_g e4 79 j = be_g e 100 j
      rw [be_clS h4 (c := 79) rfl, be_clS h3 (c := 79) rfl, be_clT h2 79 100 rfl (by omega), be_clS h1 (c := 100) rfl, u0 _ _ (by omega)]
    · show be_g e4 80 j = be_g e 96 j
      rw [be_clT h4 80 96 rfl (by omega), be_clS h3 (c := 96) rfl, be_clS h2 (c := 96) rfl, be_clS h1 (c := 96) rfl, u0 _ _ (by omega)]
    · show be_g e4 81 j = be_g e 97 j
      rw [be_clT h4 81 97 rfl (by omega), be_clS h3 (c := 97) rfl, be_clS h2 (c := 97) rfl, be_clS h1 (c := 97) rfl, u0 _ _ (by omega)]
    · show be_g e4 82 j = be_g e 98 j
      rw [be_clT h4 82 98 rfl (by omega), be_clS h3 (c := 98) rfl, be_clS h2 (c := 98) rfl, be_clS h1 (c := 98) rfl, u0 _ _ (by omega)]
    · show be_g e4 83 j = be_g e 99 j
      rw [be_clT h4 83 99 rfl (by omega), be_clS h3 (c := 99) rfl, be_clS h2 (c := 99) rfl, be_clS h1 (c := 99) rfl, u0 _ _ (by omega)]
  refine ⟨e4, ?_, hR, ?_, ?_⟩
  · have he := be_gI e
    rw [am_s92]
    have w : ¬ (1 : Int) = 0 := by decide
    have g := g1.trans (g2.trans (g3.trans g4))
    rw [hR 50 2 (by omega), h0] at g
    rw [show e 50 0 52 = be_i 1 by rw [he, h52], if_pos (by decide)]
    exact g
  · intro j hj
    rw [be_clS h4 (c := 79) rfl, be_clS h3 (c := 79) rfl, be_clT h2 79 100 rfl (by omega), be_clS h1 (c := 100) rfl, u0 _ _ (by omega)]
  · intro c j hc
    rw [sk c j (by omega), u0 c j (by omega)]
theorem be_cimage (hd : 12 ≤ d) (hI : be_IV a b u e f) : be_C X d 239 91 [] a b u e f := by
  obtain ⟨d, rfl⟩ : ∃ q, d = q + 1 := ⟨d - 1, by omega⟩
  have hI' := hI
  obtain ⟨g1, gN, g3, g4, g5, g6, g7, g8, g9⟩ := hI'
  obtain ⟨hW, hW2, hT, hh, hD, hth, hX⟩ := g1
  obtain ⟨a', q1, q2, q3⟩ := be_m137 (X := X) (a := a) (b := b) (u := u) (e := e) (f := f) (d := d) (i0 := 1) (i1 := 0) (by omega) hW hW2 (by decide) (by decide) (by decide) gN hX (fun _ => by decide)
  obtain ⟨u', hu'⟩ : ∃ u', u' = am_u u (2 * 1) (u (2 * 0)) := ⟨_, rfl⟩
  rw [← hu'] at q1 q2
  have hu0 : u' 0 = u 0 := by rw [hu', be_u1, if_neg (by decide)]
  obtain ⟨a2, ha2⟩ : ∃ a2, a2 = am_w3 a' 9 0 2 (be_i 1) := ⟨_, rfl⟩
  have hs : ∀ c k j, c ≠ 9 → a2 c k j = a' c k j := fun c k j h => by rw [ha2, be_w3n _ _ _ _ _ _ _ _ (by omega)]
  have ha : ∀ c k j, ¬ be_inH 1 c k → ¬ (c = 9 ∧ k = 0 ∧ j = 2) → a2 c k j = a c k j := fun c k j h1 h2 => by
    rw [ha2, be_w3n _ _ _ _ _ _ _ _ h2]; exact q3.1 c k j h1
  have hR2 : a' 2 0 3 = be_i (be_g e 50 2) := (q3.1 2 0 3 (by unfold be_inH; omega)).trans hX.1.2.1
  obtain ⟨e', m1, m2, m3, m4, m5⟩ := be_m91 (X := X) (a := a2) (b := b) (u := u') (e := e) (f := f) (d := d + 1) (by omega) g9
  refine ⟨be_i (be_g e 50 2), a2, b, u', e', f, ?_, m1, be_t1 (by decide) (fun c j h => m5 c j (by omega) (by omega)) (fun c k j h => ha c k j (by unfold be_inH at h ⊢; omega) (by unfold be_inH at h; omega)) hu0 ⟨hW, hW2, hT, hh, hD, hth, hX⟩, be_NM_t gN (fun k => (hs _ _ _ (by decide)).trans (q3.2.1 k)) (fun k => (hs _ _ _ (by decide)).trans (q3.2.2 k)),
    be_t3 (fun c j h => m5 c j (by omega) (by omega)) (fun c k j h => ha c k j (by unfold be_inH; omega) (by omega)) g3, be_t4 (fun c j h => m5 c j (by omega) (by omega)) (fun c k j h => ha c k j (by unfold be_inH; omega) (by omega)) g4, ⟨?_, Or.inr ⟨m3, be_Rb_I1 m2 ⟨hW, hW2, hT, hh, hD, hth, be_I1_a (fun c k j h => hs c k j (by unfold be_inH at h; omega)) rfl (by decide) hW hW2 q2⟩⟩⟩,
    be_t6 (fun c j h => m5 c j (by omega) (by omega)) (fun c k j h => ha c k j (by unfold be_inH; omega) (by omega)) (fun _ _ => rfl) (fun _ => rfl) g6, be_t7 (fun c j h => m5 c j (by omega) (by omega)) (fun c k j h => ha c k j (by unfold be_inH; omega) (by omega)) g7, g8, fun k hk => ⟨?_, ?_⟩⟩
  · rw [am_s239, q1, be_bv, am_b239_11, hR2, ha2]
  · rw [m3, ha2, be_w3s]
  · rw [m5 79 k (by omega) (by omega)]; exact (g9 k hk).1
  · rw [m4 k hk]; exact (g9 k hk).1
theorem be_cundo (hd : 12 ≤ d) (hI : be_IV a b u e f) : be_C X d 240 92 [] a b u e f := by
  obtain ⟨d, rfl⟩ : ∃ q, d = q + 1 := ⟨d - 1, by omega⟩
  have he := be_gI e
  have hI' := hI
  obtain ⟨g1, gN, g3, g4, ⟨g5, g5'⟩, g6, g7, g8, g9⟩ := hI'
  rcases g5' with h0 | ⟨h0, hW, hW2, hT, hh, hD, hth, hX⟩
  · rw [h0] at g5
    refine be_Cp (v := be_i (-3)) hI ?_ ?_
    · rw [am_s240, g5, if_neg (by decide)]
    · rw [am_s92, he, h0, if_neg (by decide)]
  · rw [h0] at g5
    obtain ⟨a', q1, q2, q3⟩ := be_m137 (X := X) (a := a) (b := b) (u := u) (e := e) (f := f) (d := d) (i0 := 0) (i1 := 1) (by omega) hW hW2 (by decide) (by decide) (by decide) gN hX (fun _ => by decide)
    obtain ⟨u', hu'⟩ : ∃ u', u' = am_u u (2 * 0) (u (2 * 1)) := ⟨_, rfl⟩
    rw [← hu'] at q1 q2
    have hu2 : u' 2 = u 2 := by rw [hu', be_u1, if_neg (by decide)]
    obtain ⟨e', m1, m2, m3, m4⟩ := be_m92 (X := X) (a := a') (b := b) (u := u') (e := e) (f := f) (d := d + 1) (by omega) g9 h0
    refine ⟨be_i (be_g (be_im e) 50 2), a', b, u', e', f, ?_, m1, be_IV_h hI q3.1 (be_NM_fr gN q3) m4 hu2 (be_Rb_I1 m2 ⟨hW, hW2, hT, hh, hD, hth, q2⟩) (fun k hk => ⟨?_, ?_⟩)⟩
    · rw [am_s240, g5, if_pos (by decide), q1, be_bv, am_b240_21, q2.1.2.1]
    · rw [m3 k hk]; exact (g9 k hk).2
    · rw [m4 100 k (by omega)]; exact (g9 k hk).2
