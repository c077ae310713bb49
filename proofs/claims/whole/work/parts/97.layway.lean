/-! WAYS, 6: one way of the reference, by its number -/
variable {d : Nat} {X : am_X} {a : Nat → Nat → Nat → Int32} {b : Nat → Nat → Nat → Int64} {u : Nat → Nat} {e : Nat → Nat → Nat → Int32} {f : Nat → Nat → Nat → Int64}
/-- from an hour on all is right -/
def bw_Q (F K : Nat → Nat → Bool) (n N h : Nat) : Prop := ∀ g, h ≤ g → g < n → bw_D n N g = 4 ∨ (F g (bw_D n N g) = true ∧ ∀ o, g < o → o < n → bw_D n N o = bw_D n N g → K g o = false)
theorem bw_Q_vl {F K : Nat → Nat → Bool} {y0 : Nat → Nat} {n N : Nat} : bw_vl F K y0 n N = true ↔ bw_Q F K n N 0 := by
  rw [bw_vlD]
  constructor
  · intro h g _ hg
    rcases h g hg with t | ⟨t1, t2⟩
    · exact Or.inl t
    · by_cases h4 : bw_D n N g = 4
      · exact Or.inl h4
      · refine Or.inr ⟨t1, fun o h1 h2 he => ?_⟩
        rcases h o h2 with s | ⟨s1, s2⟩
        · exact absurd (he.symm.trans s) h4
        · exact s2 g h1 he.symm
  · intro h g hg
    rcases h g (Nat.zero_le g) hg with t | ⟨t1, t2⟩
    · exact Or.inl t
    · by_cases h4 : bw_D n N g = 4
      · exact Or.inl h4
      · refine Or.inr ⟨t1, fun o ho he => ?_⟩
        rcases h o (Nat.zero_le o) (by omega) with s | ⟨s1, s2⟩
        · exact absurd (he.symm.trans s) h4
        · exact s2 g ho hg he.symm
theorem bw_D5 (n N h : Nat) : bw_D n N h < 5 := Nat.mod_lt _ (by decide)
/-- what stands in the reference's rows of fits and foes -/
def bw_RL (e1 : Nat → Nat → Nat → Int32) (n : Nat) (F K : Nat → Nat → Bool) : Prop := be_g e1 50 2 = (n : Int) ∧ n ≤ 6 ∧ ∀ h, h < n → (∀ r, r < 4 → be_g e1 71 (5 * h + r) = be_b (F h r)) ∧ be_g e1 71 (5 * h + 4) = 1 ∧ ∀ o, o < n → h < o → be_g e1 72 (6 * h + o) = be_b (K h o)
theorem bw_RL_t {e1 e2 : Nat → Nat → Nat → Int32} {n : Nat} {F K : Nat → Nat → Bool} (h : ∀ c j, c = 71 ∨ c = 72 ∨ (c = 50 ∧ j = 2) → be_g e2 c j = be_g e1 c j) (hL : bw_RL e1 n F K) : bw_RL e2 n F K := by
  obtain ⟨l1, l2, l3⟩ := hL
  refine ⟨by rw [h _ _ (by omega)]; exact l1, l2, fun g hg => ?_⟩
  obtain ⟨m1, m2, m3⟩ := l3 g hg
  refine ⟨fun r hr => ?_, ?_, fun o ho h2 => ?_⟩
  · rw [h _ _ (by omega)]; exact m1 r hr
  · rw [h _ _ (by omega)]; exact m2
  · rw [h _ _ (by omega)]; exact m3 o ho h2
theorem bw_m61o {n N g : Nat} {F K : Nat → Nat → Bool} (hg : g < n) (h4 : ¬ bw_D n N g = 4) (x1 x2 : Int32) : ∀ (m o : Nat) (z : Int) (e1 : Nat → Nat → Nat → Int32), o + m = n → z = (o : Int) → g < o → bw_RL e1 n F K → (∀ j, g ≤ j → j < n → be_g e1 69 j = (bw_D n N j : Int)) → (∀ o', g < o' → o' < o → bw_D n N o' = bw_D n N g → K g o' = false) →
    (am_fix (am_sem X d) X am_P61 64 [.inr (50, 0), am_I x1, am_I x2, am_I (be_i ((g : Int))), am_I (be_i (z))] [] (am_sd a b u e1 f) = am_fix (am_sem X d) X am_P61 9 [.inr (50, 0), am_I x1, am_I x2, am_I (be_i ((g : Int) - 1)), am_I (be_i ((n : Int)))] [] (am_sd a b u e1 f) ∧ ∀ o', g < o' → o' < n → bw_D n N o' = bw_D n N g → K g o' = false) ∨
    (am_fix (am_sem X d) X am_P61 64 [.inr (50, 0), am_I x1, am_I x2, am_I (be_i ((g : Int))), am_I (be_i (z))] [] (am_sd a b u e1 f) = some (some (am_I (be_i 0)), am_sd a b u e1 f) ∧ ¬ ∀ o', g < o' → o' < n → bw_D n N o' = bw_D n N g → K g o' = false) := by
  intro m
  induction m with
  | zero =>
    rintro o z e1 ho rfl hgo hL hw hK
    obtain rfl : o = n := ho
    have q0 : e1 50 0 2 = be_i (o : Int) := by rw [be_gI e1, hL.1]
    have n6 := hL.2.1
    refine Or.inl ⟨?_, hK⟩
    rw [am_b61_64]
    simp (disch := (first | assumption | omega | exact (be_gB _ _ _).1 | exact (be_gB _ _ _).2)) only [↓reduceIte, be_ofI, ↓be_ofN, ↓be_0, be_add, be_sub, be_mul, be_neg, be_rem, be_bi, be_bl, be_bv, be_br, be_bE0, be_bE1, be_b1E, be_b0E, be_bkb, be_cast, Int.toNat_natCast, Int.reduceToNat, be_lt, be_le, be_eq, be_nt, be_ck, be_nz, be_bk, be_div, q0, Int.le_refl]
    rfl
  | succ m ih =>
    rintro o z e1 ho rfl hgo hL hw hK
    obtain ⟨l1, l2, l3⟩ := hL
    have q0 : e1 50 0 2 = be_i (n : Int) := by rw [be_gI e1, l1]
    have w1 : ¬ (n : Int) ≤ (o : Int) := by omega
    have wo : e1 69 0 o = be_i (bw_D n N o : Int) := by rw [be_gI e1, hw o (by omega) (by omega)]
    have wg : e1 69 0 g = be_i (bw_D n N g : Int) := by rw [be_gI e1, hw g (by omega) (by omega)]
    have fo : e1 72 0 (6 * g + o) = be_i (be_b (K g o)) := by rw [be_gI e1, (l3 g hg).2.2 o (by omega) (by omega)]
    have d1 := bw_D5 n N o
    have d2 := bw_D5 n N g
    have hn : (6 * (g : Int) + (o : Int)).toNat = 6 * g + o := by omega
    have step := ih (o + 1) ((o : Int) + 1) e1 (by omega) (by omega) (by omega) ⟨l1, l2, l3⟩ hw
    by_cases hD : bw_D n N o = bw_D n N g
    · have hD' : (bw_D n N o : Int) = (bw_D n N g : Int) := by omega
      cases hk : K g o with
      | false =>
        rw [hk] at fo
        have s2 := step (fun o' h1 h2 h3 => by
          by_cases e1 : o' = o
          · subst e1; exact hk
          · exact hK o' h1 (by omega) h3)
        rw [am_b61_64]
        simp (disch := (first | assumption | omega | exact (be_gB _ _ _).1 | exact (be_gB _ _ _).2)) only [↓reduceIte, be_ofI, ↓be_ofN, ↓be_0, be_add, be_sub, be_mul, be_neg, be_rem, be_bi, be_bl, be_bv, be_br, be_bE0, be_bE1, be_b1E, be_b0E, be_bkb, be_cast, Int.toNat_natCast, Int.reduceToNat, be_lt, be_le, be_eq, be_nt, be_ck, be_nz, be_bk, be_div, not_true_eq_false, not_false_eq_true, if_true, if_false, eq_self, Int.reduceEq, Int.reduceLT, Int.reduceLE, Bool.true_eq_false, Bool.false_eq_true, q0, w1, wo, wg, hD', hn, fo, show (o : Int).toNat = o from rfl, show (g : Int).toNat = g from rfl]
        exact s2
      | true =>
        rw [hk] at fo
        refine Or.inr ⟨?_, fun h => ?_⟩
        · rw [am_b61_64]
          simp (disch := (first | assumption | omega | exact (be_gB _ _ _).1 | exact (be_gB _ _ _).2)) only [↓reduceIte, be_ofI, ↓be_ofN, ↓be_0, be_add, be_sub, be_mul, be_neg, be_rem, be_bi, be_bl, be_bv, be_br, be_bE0, be_bE1, be_b1E, be_b0E, be_bkb, be_cast, Int.toNat_natCast, Int.reduceToNat, be_lt, be_le, be_eq, be_nt, be_ck, be_nz, be_bk, be_div, not_true_eq_false, not_false_eq_true, if_true, if_false, eq_self, Int.reduceEq, Int.reduceLT, Int.reduceLE, Bool.true_eq_false, Bool.false_eq_true, q0, w1, wo, wg, hD', hn, fo, show (o : Int).toNat = o from rfl, show (g : Int).toNat = g from rfl]
        · rw [h o hgo (by omega) hD] at hk
          exact Bool.noConfusion hk
    · have hD' : ¬ (bw_D n N o : Int) = (bw_D n N g : Int) := by omega
      have s2 := step (fun o' h1 h2 h3 => by
        by_cases e1 : o' = o
        · subst e1; exact absurd h3 hD
        · exact hK o' h1 (by omega) h3)
      rw [am_b61_64]
      simp (disch := (first | assumption | omega | exact (be_gB _ _ _).1 | exact (be_gB _ _ _).2)) only [↓reduceIte, be_ofI, ↓be_ofN, ↓be_0, be_add, be_sub, be_mul, be_neg, be_rem, be_bi, be_bl, be_bv, be_br, be_bE0, be_bE1, be_b1E, be_b0E, be_bkb, be_cast, Int.toNat_natCast, Int.reduceToNat, be_lt, be_le, be_eq, be_nt, be_ck, be_nz, be_bk, be_div, not_true_eq_false, not_false_eq_true, if_true, if_false, eq_self, Int.reduceEq, Int.reduceLT, Int.reduceLE, Bool.true_eq_false, Bool.false_eq_true, q0, w1, wo, wg, hD', show (o : Int).toNat = o from rfl, show (g : Int).toNat = g from rfl]
      exact s2
theorem bw_m61 (hd : 1 ≤ d) {n N : Nat} {F K : Nat → Nat → Bool} (hN : N < 5 ^ n) {e0 : Nat → Nat → Nat → Int32} (hL0 : bw_RL e0 n F K) : ∃ (e' : Nat → Nat → Nat → Int32) (v : Bool), am_sem X d 61 [.inr (50, 0), am_I (be_i ((N : Int)))] (am_sd a b u e0 f) = some (some (am_I (be_i (be_b v))), am_sd a b u e' f) ∧ (∀ c j, c ≠ 69 → be_g e' c j = be_g e0 c j) ∧ (v = true ↔ bw_Q F K n N 0) ∧ (v = true → ∀ j, j < n → be_g e' 69 j = (bw_D n N j : Int)) := by
  obtain ⟨d, rfl⟩ : ∃ q, d = q + 1 := ⟨d - 1, by omega⟩
  have n6 := hL0.2.1
  have hp : 5 ^ n ≤ 5 ^ 6 := Nat.pow_le_pow_right (by decide) n6
  have key : ∀ (h : Nat) (z : Int) (R : Nat) (z4 : am_V) (e1 : Nat → Nat → Nat → Int32), h ≤ n → z = (h : Int) - 1 → R = N / 5 ^ (n - h) → (∀ c j, c ≠ 69 → be_g e1 c j = be_g e0 c j) → (∀ j, h ≤ j → j < n → be_g e1 69 j = (bw_D n N j : Int)) → bw_Q F K n N h →
      ∃ (e' : Nat → Nat → Nat → Int32) (v : Bool), am_fix (am_sem X d) X am_P61 9 [.inr (50, 0), am_I (be_i ((N : Int))), am_I (be_i ((R : Int))), am_I (be_i (z)), z4] [] (am_sd a b u e1 f) = some (some (am_I (be_i (be_b v))), am_sd a b u e' f) ∧ (∀ c j, c ≠ 69 → be_g e' c j = be_g e0 c j) ∧ (v = true ↔ bw_Q F K n N 0) ∧ (v = true → ∀ j, j < n → be_g e' 69 j = (bw_D n N j : Int)) := by
    intro h
    induction h with
    | zero =>
      rintro z R z4 e1 hh rfl hR h0 hw hQ
      refine ⟨e1, true, ?_, h0, ⟨fun _ => hQ, fun _ => rfl⟩, fun _ j hj => hw j (Nat.zero_le j) hj⟩
      rw [am_b61_9]
      simp (disch := (first | assumption | omega | exact (be_gB _ _ _).1 | exact (be_gB _ _ _).2)) only [↓reduceIte, be_ofI, ↓be_ofN, ↓be_0, be_add, be_sub, be_mul, be_neg, be_rem, be_bi, be_bl, be_bv, be_br, be_bE0, be_bE1, be_b1E, be_b0E, be_bkb, be_cast, Int.toNat_natCast, Int.reduceToNat, be_lt, be_le, be_eq, be_nt, be_ck, be_nz, be_bk, be_div]
      rw [if_pos (by decide)]
      rfl
    | succ g ih =>
      rintro z R z4 e1 hh rfl hR h0 hw hQ
      have hz : ((g + 1 : Nat) : Int) - 1 = (g : Int) := by omega
      have hRN : R ≤ N := by rw [hR]; exact Nat.div_le_self _ _
      have hDg : R % 5 = bw_D n N g := by rw [hR]; unfold bw_D; rw [show n - 1 - g = n - (g + 1) by omega]
      have hR5 : R / 5 = N / 5 ^ (n - g) := by rw [hR, Nat.div_div_eq_div_mul, ← Nat.pow_succ, show (n - (g + 1)).succ = n - g by omega]
      have d5 := bw_D5 n N g
      obtain ⟨e2, he2⟩ : ∃ e2, e2 = am_w3 e1 69 0 g (be_i (bw_D n N g : Int)) := ⟨_, rfl⟩
      have q2 : ∀ c j, ¬ (c = 69 ∧ j = g) → be_g e2 c j = be_g e1 c j := fun c j hc => by rw [he2]; exact be_gn _ _ _ _ _ _ _ (by omega)
      have r2 : be_g e2 69 g = (bw_D n N g : Int) := by rw [he2, be_gw _ _ _ _ _ (by omega) (by omega), if_pos ⟨rfl, rfl⟩]
      have hw2 : ∀ j, g ≤ j → j < n → be_g e2 69 j = (bw_D n N j : Int) := fun j h1 h2 => by
        by_cases ej : j = g
        · subst ej; exact r2
        · rw [q2 _ _ (by omega)]; exact hw j (by omega) h2
      have h02 : ∀ c j, c ≠ 69 → be_g e2 c j = be_g e0 c j := fun c j hc => (q2 c j (by omega)).trans (h0 c j hc)
      have hL2 : bw_RL e2 n F K := bw_RL_t (fun c j hc => h02 c j (by omega)) hL0
      obtain ⟨l1, l2, l3⟩ := hL2
      obtain ⟨m1, m2, m3⟩ := l3 g (by omega)
      have w1 : ¬ (g : Int) < 0 := by omega
      have hn : (5 * (g : Int) + (bw_D n N g : Int)).toNat = 5 * g + bw_D n N g := by omega
      have hmod : (R : Int) % 5 = (bw_D n N g : Int) := by omega
      have hdiv : (R : Int) / 5 = ((R / 5 : Nat) : Int) := rfl
      have e71 : ∀ j, e1 71 0 j = e2 71 0 j := fun j => by rw [be_gI e1, be_gI e2, q2 _ _ (by omega)]
      have gt : (g : Int).toNat = g := rfl
      by_cases h4 : bw_D n N g = 4
      · have fi : e1 71 0 (5 * g + bw_D n N g) = be_i 1 := by rw [e71, h4, be_gI e2, m2]
        obtain ⟨e', v, g1, g2⟩ := ih ((g : Int) - 1) (R / 5) z4 e2 (by omega) rfl hR5 h02 hw2 (fun j h1 h2 => by
          by_cases ej : j = g
          · subst ej; exact Or.inl h4
          · exact hQ j (by omega) h2)
        refine ⟨e', v, ?_, g2⟩
        have h4' : (bw_D n N g : Int) = 4 := by omega
        rw [hz, am_b61_9]
        simp (disch := (first | assumption | omega | exact (be_gB _ _ _).1 | exact (be_gB _ _ _).2)) only [↓reduceIte, be_ofI, ↓be_ofN, ↓be_0, be_add, be_sub, be_mul, be_neg, be_rem, be_bi, be_bl, be_bv, be_br, be_bE0, be_bE1, be_b1E, be_b0E, be_bkb, be_cast, Int.toNat_natCast, Int.reduceToNat, be_lt, be_le, be_eq, be_nt, be_ck, be_nz, be_bk, be_div, not_true_eq_false, not_false_eq_true, if_true, if_false, eq_self, Int.reduceEq, Int.reduceLT, Int.reduceLE, Bool.true_eq_false, Bool.false_eq_true, be_w3s, w1, gt, hmod, hn, fi]
        rw [← he2]
        simp (disch := (first | assumption | omega | exact (be_gB _ _ _).1 | exact (be_gB _ _ _).2)) only [↓reduceIte, be_ofI, ↓be_ofN, ↓be_0, be_add, be_sub, be_mul, be_neg, be_rem, be_bi, be_bl, be_bv, be_br, be_bE0, be_bE1, be_b1E, be_b0E, be_bkb, be_cast, Int.toNat_natCast, Int.reduceToNat, be_lt, be_le, be_eq, be_nt, be_ck, be_nz, be_bk, be_div, not_true_eq_false, not_false_eq_true, if_true, if_false, eq_self, Int.reduceEq, Int.reduceLT, Int.reduceLE, Bool.true_eq_false, Bool.false_eq_true, h4', hdiv]
        exact g1
      · have fi : e1 71 0 (5 * g + bw_D n N g) = be_i (be_b (F g (bw_D n N g))) := by rw [e71, be_gI e2, m1 _ (by omega)]
        have h4' : ¬ (bw_D n N g : Int) = 4 := by omega
        cases hF : F g (bw_D n N g) with
        | false =>
          rw [hF] at fi
          refine ⟨e2, false, ?_, h02, ⟨fun h => Bool.noConfusion h, fun h => ?_⟩, fun h => Bool.noConfusion h⟩
          · rw [hz, am_b61_9]
            simp (disch := (first | assumption | omega | exact (be_gB _ _ _).1 | exact (be_gB _ _ _).2)) only [↓reduceIte, be_ofI, ↓be_ofN, ↓be_0, be_add, be_sub, be_mul, be_neg, be_rem, be_bi, be_bl, be_bv, be_br, be_bE0, be_bE1, be_b1E, be_b0E, be_bkb, be_cast, Int.toNat_natCast, Int.reduceToNat, be_lt, be_le, be_eq, be_nt, be_ck, be_nz, be_bk, be_div, not_true_eq_false, not_false_eq_true, if_true, if_false, eq_self, Int.reduceEq, Int.reduceLT, Int.reduceLE, Bool.true_eq_false, Bool.false_eq_true, be_w3s, w1, gt, hmod, hn, fi]
            rw [← he2]
            rfl
          · rcases h g (Nat.zero_le g) (by omega) with t | ⟨t1, t2⟩
            · exact absurd t h4
            · rw [hF] at t1; exact Bool.noConfusion t1
        | true =>
          rw [hF] at fi
          have head : am_fix (am_sem X d) X am_P61 9 [.inr (50, 0), am_I (be_i ((N : Int))), am_I (be_i ((R : Int))), am_I (be_i (((g + 1 : Nat) : Int) - 1)), z4] [] (am_sd a b u e1 f) = am_fix (am_sem X d) X am_P61 64 [.inr (50, 0), am_I (be_i ((N : Int))), am_I (be_i (((R / 5 : Nat) : Int))), am_I (be_i ((g : Int))), am_I (be_i (((g : Int) + 1)))] [] (am_sd a b u e2 f) := by
            rw [hz, am_b61_9]
            simp (disch := (first | assumption | omega | exact (be_gB _ _ _).1 | exact (be_gB _ _ _).2)) only [↓reduceIte, be_ofI, ↓be_ofN, ↓be_0, be_add, be_sub, be_mul, be_neg, be_rem, be_bi, be_bl, be_bv, be_br, be_bE0, be_bE1, be_b1E, be_b0E, be_bkb, be_cast, Int.toNat_natCast, Int.reduceToNat, be_lt, be_le, be_eq, be_nt, be_ck, be_nz, be_bk, be_div, not_true_eq_false, not_false_eq_true, if_true, if_false, eq_self, Int.reduceEq, Int.reduceLT, Int.reduceLE, Bool.true_eq_false, Bool.false_eq_true, be_w3s, w1, gt, hmod, hn, fi]
            rw [← he2]
            simp (disch := (first | assumption | omega | exact (be_gB _ _ _).1 | exact (be_gB _ _ _).2)) only [↓reduceIte, be_ofI, ↓be_ofN, ↓be_0, be_add, be_sub, be_mul, be_neg, be_rem, be_bi, be_bl, be_bv, be_br, be_bE0, be_bE1, be_b1E, be_b0E, be_bkb, be_cast, Int.toNat_natCast, Int.reduceToNat, be_lt, be_le, be_eq, be_nt, be_ck, be_nz, be_bk, be_div, not_true_eq_false, not_false_eq_true, if_true, if_false, eq_self, Int.reduceEq, Int.reduceLT, Int.reduceLE, Bool.true_eq_false, Bool.false_eq_true, h4', hdiv]
          rcases bw_m61o (X := X) (a := a) (b := b) (u := u) (f := f) (d := d) (n := n) (N := N) (g := g) (by omega) h4 (be_i (N : Int)) (be_i ((R / 5 : Nat) : Int)) (n - (g + 1)) (g + 1) ((g : Int) + 1) e2 (by omega) (by omega) (by omega) ⟨l1, l2, l3⟩ hw2 (fun o' h1 h2 => by omega) with ⟨k1, k2⟩ | ⟨k1, k2⟩
          · obtain ⟨e', v, g1, g2⟩ := ih ((g : Int) - 1) (R / 5) (am_I (be_i (n : Int))) e2 (by omega) rfl hR5 h02 hw2 (fun j h1 h2 => by
              by_cases ej : j = g
              · subst ej; exact Or.inr ⟨hF, k2⟩
              · exact hQ j (by omega) h2)
            exact ⟨e', v, head.trans (k1.trans g1), g2⟩
          · refine ⟨e2, false, head.trans k1, h02, ⟨fun h => Bool.noConfusion h, fun h => ?_⟩, fun h => Bool.noConfusion h⟩
            rcases h g (Nat.zero_le g) (by omega) with t | ⟨t1, t2⟩
            · exact absurd t h4
            · exact absurd t2 k2
  have q0 : e0 50 0 2 = be_i (n : Int) := by rw [be_gI e0, hL0.1]
  rw [am_s61]
  simp (disch := (first | assumption | omega | exact (be_gB _ _ _).1 | exact (be_gB _ _ _).2)) only [↓reduceIte, be_ofI, ↓be_ofN, ↓be_0, be_add, be_sub, be_mul, be_neg, be_rem, be_bi, be_bl, be_bv, be_br, be_bE0, be_bE1, be_b1E, be_b0E, be_bkb, be_cast, Int.toNat_natCast, Int.reduceToNat, be_lt, be_le, be_eq, be_nt, be_ck, be_nz, be_bk, be_div, q0]
  exact key n ((n : Int) - 1) N am_un e0 (Nat.le_refl n) rfl (by rw [Nat.sub_self, Nat.pow_zero, Nat.div_one]) (fun _ _ _ => rfl) (fun j h1 h2 => by omega) (fun j h1 h2 => by omega)
