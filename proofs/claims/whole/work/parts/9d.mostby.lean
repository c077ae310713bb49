/-! WAYS, 12: the reference's sets, room by room -/
variable {d : Nat} {X : am_X} {a : Nat → Nat → Nat → Int32} {b : Nat → Nat → Nat → Int64} {u : Nat → Nat} {e : Nat → Nat → Nat → Int32} {f : Nat → Nat → Nat → Int64}
theorem bw_pw {n : Nat} (hn : n ≤ 6) : be_i 1 <<< (be_i (n : Int) &&& be_i 31) = be_i ((2 ^ n : Nat) : Int) := be_shl (by omega)
theorem bw_m67 (hd : 3 ≤ d) {n r : Nat} {F K : Nat → Nat → Bool} {fr : Nat → Bool} (hr : r ≤ 4) (hL : bw_RL e n F K) (hf : ∀ h, h < n → fr h = if r < 4 then F h r else true) (h4 : bw_T1 e 74 (2 ^ n)) :
    ∃ e', am_sem X d 67 [.inr (50, 0), am_I (be_i ((r : Int)))] (am_sd a b u e f) = some (none, am_sd a b u e' f) ∧ bw_F45 e e' ∧ bw_T1 e' 74 (2 ^ n) ∧ ∀ T, T < 2 ^ n → (be_g e' 74 T = 1 ↔ (be_g e 74 T = 1 ∨ ∃ S, 1 ≤ S ∧ S < 2 ^ n ∧ bw_sh n S fr K ∧ ∃ R, R < 2 ^ n ∧ R &&& S = 0 ∧ be_g e 74 R = 1 ∧ R ||| S = T)) := by
  obtain ⟨d, rfl⟩ : ∃ q, d = q + 1 := ⟨d - 1, by omega⟩
  have n6 := hL.2.1
  obtain ⟨N, hN⟩ : ∃ N, N = 2 ^ n := ⟨_, rfl⟩
  have hN64 : N ≤ 64 := by rw [hN]; exact Nat.pow_le_pow_right (n := 2) (by decide) n6
  have hN1 : 1 ≤ N := by rw [hN]; exact Nat.two_pow_pos n
  rw [← hN] at h4 ⊢
  obtain ⟨e1, a1, a2, a3⟩ := bw_cp9 (X := X) (a := a) (b := b) (u := u) (f := f) (d := d) hN64 (be_i (r : Int)) N 0 0 e (Nat.zero_add N) rfl h4
  have key : ∀ (m S : Nat) (z : Int) (z4 : am_V) (e2 : Nat → Nat → Nat → Int32), S + m = N → z = (S : Int) → (∀ c j, c ≠ 75 → be_g e2 c j = be_g e c j) → bw_T1 e2 75 N →
      (∀ T, T < N → (be_g e2 75 T = 1 ↔ (be_g e 74 T = 1 ∨ ∃ S', 1 ≤ S' ∧ S' < S ∧ bw_sh n S' fr K ∧ ∃ R, R < N ∧ R &&& S' = 0 ∧ be_g e 74 R = 1 ∧ R ||| S' = T))) →
      ∃ e', am_fix (am_sem X d) X am_P67 34 [.inr (50, 0), am_I (be_i ((r : Int))), am_I (be_i ((N : Int))), am_I (be_i (z)), z4] [] (am_sd a b u e2 f) = some (none, am_sd a b u e' f) ∧ bw_F45 e e' ∧ bw_T1 e' 74 N ∧ ∀ T, T < N → (be_g e' 74 T = 1 ↔ (be_g e 74 T = 1 ∨ ∃ S, 1 ≤ S ∧ S < N ∧ bw_sh n S fr K ∧ ∃ R, R < N ∧ R &&& S = 0 ∧ be_g e 74 R = 1 ∧ R ||| S = T)) := by
    intro m
    induction m with
    | zero =>
      rintro S z z4 e2 hS rfl h0 h5 h6
      obtain rfl : S = N := hS
      obtain ⟨e3, b1, b2, b3⟩ := bw_cp101 (X := X) (a := a) (b := b) (u := u) (f := f) (d := d) hN64 (be_i (r : Int)) z4 S 0 0 e2 (Nat.zero_add S) rfl h5
      refine ⟨e3, ?_, fun c j c1 c2 => (b2 c j (by omega)).trans (h0 c j c2), fun T hT => by rw [b3 T (by omega) hT]; exact h5 T hT, fun T hT => by rw [b3 T (by omega) hT]; exact h6 T hT⟩
      rw [am_b67_34, if_pos Int32.le_rfl]
      exact b1
    | succ m ih =>
      rintro S z z4 e2 hS rfl h0 h5 h6
      have w1 : ¬ be_i (N : Int) ≤ be_i (S : Int) := by rw [be_le (by omega) (by omega) (by omega) (by omega)]; omega
      obtain ⟨v, v1, v2⟩ := bw_m66 (X := X) (a := a) (b := b) (u := u) (e := e2) (f := f) (d := d) (by omega) (T := S) (r := r) (fr := fr) (by omega) hr (bw_RL_t (fun c j hc => h0 c j (by omega)) hL) hf
      have h42 : bw_T1 e2 74 N := fun T hT => by rw [h0 _ _ (by decide)]; exact h4 T hT
      cases hv : v with
      | false =>
        rw [hv] at v1 v2
        have hns : ¬ bw_sh n S fr K := fun h => Bool.noConfusion (v2.2 h)
        obtain ⟨e', g1, g2⟩ := ih (S + 1) ((S : Int) + 1) z4 e2 (by omega) (by omega) h0 h5 (fun T hT => by
          rw [h6 T hT]
          constructor
          · rintro (h | ⟨S', s1, s2, s3⟩)
            · exact Or.inl h
            · exact Or.inr ⟨S', s1, by omega, s3⟩
          · rintro (h | ⟨S', s1, s2, s3, s4⟩)
            · exact Or.inl h
            · by_cases e : S' = S
              · subst e; exact absurd s3 hns
              · exact Or.inr ⟨S', s1, by omega, s3, s4⟩)
        refine ⟨e', ?_, g2⟩
        rw [am_b67_34, if_neg w1, v1, be_bi, am_b67_45]
        simp (disch := (first | assumption | omega | exact (be_gB _ _ _).1 | exact (be_gB _ _ _).2)) only [↓reduceIte, be_ofI, ↓be_ofN, ↓be_0, be_add, be_sub, be_mul, be_neg, be_rem, be_bi, be_bl, be_bv, be_br, be_bE0, be_bE1, be_b1E, be_b0E, be_bkb, be_cast, Int.toNat_natCast, Int.reduceToNat, be_lt, be_le, be_eq, be_nt, be_ck, be_nz, be_bk, be_div, not_true_eq_false, not_false_eq_true, if_true, if_false, eq_self, Int.reduceEq, Int.reduceLT, Int.reduceLE, Bool.true_eq_false, Bool.false_eq_true]
        exact g1
      | true =>
        rw [hv] at v1 v2
        have hns : bw_sh n S fr K := v2.1 rfl
        obtain ⟨e3, c1, c2, c3, c4⟩ := bw_rest (X := X) (a := a) (b := b) (u := u) (f := f) (d := d) n6 hN (S := S) (by omega) (be_i (r : Int)) N 0 0 e2 (Nat.zero_add N) rfl h42 h5
        by_cases hS1 : 1 ≤ S
        · obtain ⟨e', g1, g2⟩ := ih (S + 1) ((S : Int) + 1) (am_I (be_i (N : Int))) e3 (by omega) (by omega) (fun c j hc => (c2 c j hc).trans (h0 c j hc)) c3 (fun T hT => by
            rw [c4 T hT, h6 T hT]
            constructor
            · rintro ((h | ⟨S', s1, s2, s3⟩) | ⟨R, r1, r2, r3, r4, r5⟩)
              · exact Or.inl h
              · exact Or.inr ⟨S', s1, by omega, s3⟩
              · exact Or.inr ⟨S, hS1, by omega, hns, R, r2, r3, by rw [← h0 _ _ (by decide)]; exact r4, r5⟩
            · rintro (h | ⟨S', s1, s2, s3, R, r1, r2, r3, r4⟩)
              · exact Or.inl (Or.inl h)
              · by_cases e : S' = S
                · subst e; exact Or.inr ⟨R, Nat.zero_le R, r1, r2, by rw [h0 _ _ (by decide)]; exact r3, r4⟩
                · exact Or.inl (Or.inr ⟨S', s1, by omega, s3, R, r1, r2, r3, r4⟩))
          refine ⟨e', ?_, g2⟩
          rw [am_b67_34, if_neg w1, v1, be_bi, am_b67_45]
          simp (disch := (first | assumption | omega | exact (be_gB _ _ _).1 | exact (be_gB _ _ _).2)) only [↓reduceIte, be_ofI, ↓be_ofN, ↓be_0, be_add, be_sub, be_mul, be_neg, be_rem, be_bi, be_bl, be_bv, be_br, be_bE0, be_bE1, be_b1E, be_b0E, be_bkb, be_cast, Int.toNat_natCast, Int.reduceToNat, be_lt, be_le, be_eq, be_nt, be_ck, be_nz, be_bk, be_div, not_true_eq_false, not_false_eq_true, if_true, if_false, eq_self, Int.reduceEq, Int.reduceLT, Int.reduceLE, Bool.true_eq_false, Bool.false_eq_true]
          exact c1.trans g1
        · obtain rfl : S = 0 := by omega
          obtain ⟨e', g1, g2⟩ := ih (0 + 1) (((0 : Nat) : Int) + 1) (am_I (be_i (N : Int))) e3 (by omega) (by omega) (fun c j hc => (c2 c j hc).trans (h0 c j hc)) c3 (fun T hT => by
            rw [c4 T hT, h6 T hT]
            constructor
            · rintro ((h | ⟨S', s1, s2, s3⟩) | ⟨R, r1, r2, r3, r4, r5⟩)
              · exact Or.inl h
              · omega
              · rw [Nat.or_zero] at r5; subst r5; rw [h0 _ _ (by decide)] at r4; exact Or.inl r4
            · rintro (h | ⟨S', s1, s2, s3, R, r1, r2, r3, r4⟩)
              · exact Or.inl (Or.inl h)
              · omega)
          refine ⟨e', ?_, g2⟩
          rw [am_b67_34, if_neg w1, v1, be_bi, am_b67_45]
          simp (disch := (first | assumption | omega | exact (be_gB _ _ _).1 | exact (be_gB _ _ _).2)) only [↓reduceIte, be_ofI, ↓be_ofN, ↓be_0, be_add, be_sub, be_mul, be_neg, be_rem, be_bi, be_bl, be_bv, be_br, be_bE0, be_bE1, be_b1E, be_b0E, be_bkb, be_cast, Int.toNat_natCast, Int.reduceToNat, be_lt, be_le, be_eq, be_nt, be_ck, be_nz, be_bk, be_div, not_true_eq_false, not_false_eq_true, if_true, if_false, eq_self, Int.reduceEq, Int.reduceLT, Int.reduceLE, Bool.true_eq_false, Bool.false_eq_true]
          exact c1.trans g1
  have q0 : e 50 0 2 = be_i (n : Int) := by rw [be_gI e, hL.1]
  obtain ⟨e', g1, g2⟩ := key (N - 1) 1 1 am_un e1 (by omega) rfl (fun c j hc => a2 c j (by omega)) (fun T hT => by rw [a3 T (by omega) hT]; exact h4 T hT) (fun T hT => by
    rw [a3 T (by omega) hT]
    constructor
    · exact Or.inl
    · rintro (h | ⟨S', s1, s2, -⟩)
      · exact h
      · omega)
  refine ⟨e', ?_, g2⟩
  rw [am_s67, q0, be_31, bw_pw n6, ← hN, a1]
  exact g1
/-- what stands in can0 -/
def bw_can (e1 : Nat → Nat → Nat → Int32) (n : Nat) (A K : Nat → Nat → Bool) : Prop := bw_T1 e1 74 (2 ^ n) ∧ ∀ T, T < 2 ^ n → (be_g e1 74 T = 1 ↔ bw_cs n A K T)
theorem bw_add (hd : 3 ≤ d) {n r : Nat} {F K A A' : Nat → Nat → Bool} {fr : Nat → Bool} (hr : r ≤ 4) (hL : bw_RL e n F K) (hf : ∀ h, h < n → fr h = if r < 4 then F h r else true) (hA : ∀ h, A h r = false) (hA' : ∀ h s, A' h s = if s = r then fr h else A h s) (hA9 : ∀ h, A h 9 = false) (hc : bw_can e n A K) :
    ∃ e', am_sem X d 67 [.inr (50, 0), am_I (be_i ((r : Int)))] (am_sd a b u e f) = some (none, am_sd a b u e' f) ∧ bw_F45 e e' ∧ bw_can e' n A' K := by
  obtain ⟨c1, c2⟩ := hc
  obtain ⟨e', g1, g2, g3, g4⟩ := bw_m67 (X := X) (a := a) (b := b) (u := u) (e := e) (f := f) (d := d) hd hr hL hf c1
  refine ⟨e', g1, g2, g3, fun T hT => ?_⟩
  rw [g4 T hT, bw_more (by omega) hA hA' hA9 hT, c2 T hT]
  constructor
  · rintro (h | ⟨S, s1, s2, s3, R, r1, r2, r3, r4⟩)
    · exact Or.inl h
    · exact Or.inr ⟨S, s1, s2, s3, R, r1, r2, (c2 R r1).1 r3, r4⟩
  · rintro (h | ⟨S, s1, s2, s3, R, r1, r2, r3, r4⟩)
    · exact Or.inl h
    · exact Or.inr ⟨S, s1, s2, s3, R, r1, r2, (c2 R r1).2 r3, r4⟩
theorem bw_m68 (hd : 1 ≤ d) : ∃ e', am_sem X d 68 [.inr (50, 0)] (am_sd a b u e f) = some (none, am_sd a b u e' f) ∧ (∀ c j, c ≠ 74 → be_g e' c j = be_g e c j) ∧ ∀ j, j < 64 → be_g e' 74 j = if j = 0 then 1 else 0 := by
  obtain ⟨d, rfl⟩ : ∃ q, d = q + 1 := ⟨d - 1, by omega⟩
  have key : ∀ (m k : Nat) (z : Int) (e1 : Nat → Nat → Nat → Int32), k + m = 64 → z = (k : Int) → (∀ c j, c ≠ 74 → be_g e1 c j = be_g e c j) → (∀ j, j < k → be_g e1 74 j = if j = 0 then 1 else 0) → ∃ e', am_fix (am_sem X d) X am_P68 2 [.inr (50, 0), am_I (be_i (z))] [] (am_sd a b u e1 f) = some (none, am_sd a b u e' f) ∧ (∀ c j, c ≠ 74 → be_g e' c j = be_g e c j) ∧ ∀ j, j < 64 → be_g e' 74 j = if j = 0 then 1 else 0 := by
    intro m
    induction m with
    | zero =>
      rintro k z e1 hk rfl h1 h2
      obtain rfl : k = 64 := hk
      refine ⟨e1, ?_, h1, h2⟩
      rw [am_b68_2]
      simp (disch := (first | assumption | omega | exact (be_gB _ _ _).1 | exact (be_gB _ _ _).2)) only [↓reduceIte, be_ofI, ↓be_ofN, ↓be_0, be_add, be_sub, be_mul, be_neg, be_rem, be_bi, be_bl, be_bv, be_br, be_bE0, be_bE1, be_b1E, be_b0E, be_bkb, be_cast, Int.toNat_natCast, Int.reduceToNat, be_lt, be_le, be_eq, be_nt, be_ck, be_nz, be_bk, be_div]
      rw [if_pos (by decide)]
    | succ m ih =>
      rintro k z e1 hk rfl h1 h2
      have w1 : ¬ (64 : Int) ≤ (k : Int) := by omega
      obtain ⟨e3, he3⟩ : ∃ e3, e3 = am_w3 e1 74 0 k (be_i (if k = 0 then 1 else 0)) := ⟨_, rfl⟩
      have q3 : ∀ c j, ¬ (c = 74 ∧ j = k) → be_g e3 c j = be_g e1 c j := fun c j h => by rw [he3]; exact be_gn _ _ _ _ _ _ _ (by omega)
      have r3 : be_g e3 74 k = if k = 0 then 1 else 0 := by rw [he3, be_gw _ _ _ _ _ (by split <;> omega) (by split <;> omega), if_pos ⟨rfl, rfl⟩]
      obtain ⟨e', g1, g2⟩ := ih (k + 1) ((k : Int) + 1) e3 (by omega) (by omega) (fun c j hc => (q3 c j (by omega)).trans (h1 c j hc)) (fun j hj => by
        by_cases e : j = k
        · subst e; exact r3
        · rw [q3 _ _ (by omega)]; exact h2 j (by omega))
      refine ⟨e', ?_, g2⟩
      rw [am_b68_2]
      by_cases h0 : k = 0
      · have h0' : (k : Int) = 0 := by omega
        rw [if_pos h0] at he3
        simp (disch := (first | assumption | omega | exact (be_gB _ _ _).1 | exact (be_gB _ _ _).2)) only [↓reduceIte, be_ofI, ↓be_ofN, ↓be_0, be_add, be_sub, be_mul, be_neg, be_rem, be_bi, be_bl, be_bv, be_br, be_bE0, be_bE1, be_b1E, be_b0E, be_bkb, be_cast, Int.toNat_natCast, Int.reduceToNat, be_lt, be_le, be_eq, be_nt, be_ck, be_nz, be_bk, be_div, w1, show (k : Int).toNat = k from rfl]
        rw [if_neg (fun h => h h0'), ← he3]
        exact g1
      · have h0' : ¬ (k : Int) = 0 := by omega
        rw [if_neg h0] at he3
        simp (disch := (first | assumption | omega | exact (be_gB _ _ _).1 | exact (be_gB _ _ _).2)) only [↓reduceIte, be_ofI, ↓be_ofN, ↓be_0, be_add, be_sub, be_mul, be_neg, be_rem, be_bi, be_bl, be_bv, be_br, be_bE0, be_bE1, be_b1E, be_b0E, be_bkb, be_cast, Int.toNat_natCast, Int.reduceToNat, be_lt, be_le, be_eq, be_nt, be_ck, be_nz, be_bk, be_div, w1, show (k : Int).toNat = k from rfl]
        rw [if_pos h0', ← he3]
        exact g1
  rw [am_s68]
  exact key 64 0 0 e rfl rfl (fun _ _ _ => rfl) (fun j hj => by omega)
theorem bw_m69 (hd : 3 ≤ d) {n : Nat} (hn : n ≤ 6) (h2 : be_g e 50 2 = (n : Int)) (h1 : bw_T1 e 74 (2 ^ n)) (h0 : be_g e 74 0 = 1) : ∃ M : Nat, am_sem X d 69 [.inr (50, 0)] (am_sd a b u e f) = some (some (am_I (be_i ((M : Int)))), (am_sd a b u e f)) ∧ M ≤ 6 ∧ (∃ T : Nat, T < 2 ^ n ∧ be_g e 74 T = 1 ∧ be_bits (T : Int) 6 = M) ∧ ∀ T : Nat, T < 2 ^ n → be_g e 74 T = 1 → be_bits (T : Int) 6 ≤ M := by
  obtain ⟨d, rfl⟩ : ∃ q, d = q + 1 := ⟨d - 1, by omega⟩
  obtain ⟨N, hN⟩ : ∃ N, N = 2 ^ n := ⟨_, rfl⟩
  have hN64 : N ≤ 64 := by rw [hN]; exact Nat.pow_le_pow_right (n := 2) (by decide) hn
  have hN1 : 1 ≤ N := by rw [hN]; exact Nat.two_pow_pos n
  have q0 : e 50 0 2 = be_i (n : Int) := by rw [be_gI e, h2]
  rw [← hN] at h1 ⊢
  have key : ∀ (m T : Nat) (z : Int) (M0 : Nat), T + m = N → z = (T : Int) → M0 ≤ 6 → (∃ T : Nat, T < N ∧ be_g e 74 T = 1 ∧ be_bits (T : Int) 6 = M0) → (∀ T' : Nat, T' < T → be_g e 74 T' = 1 → be_bits (T' : Int) 6 ≤ M0) →
      ∃ M1 : Nat, am_fix (am_sem X d) X am_P69 4 [.inr (50, 0), am_I (be_i ((M0 : Int))), am_I (be_i (z))] [] (am_sd a b u e f) = some (some (am_I (be_i ((M1 : Int)))), (am_sd a b u e f)) ∧ M1 ≤ 6 ∧ (∃ T : Nat, T < N ∧ be_g e 74 T = 1 ∧ be_bits (T : Int) 6 = M1) ∧ ∀ T : Nat, T < N → be_g e 74 T = 1 → be_bits (T : Int) 6 ≤ M1 := by
    intro m
    induction m with
    | zero =>
      rintro T z M0 hT rfl h6 ha hu
      obtain rfl : T = N := hT
      refine ⟨M0, ?_, h6, ha, hu⟩
      rw [am_b69_4, q0, be_31, bw_pw hn, ← hN, if_pos Int32.le_rfl]
    | succ m ih =>
      rintro T z M0 hT rfl h6 ha hu
      have w1 : ¬ be_i (N : Int) ≤ be_i (T : Int) := by rw [be_le (by omega) (by omega) (by omega) (by omega)]; omega
      have head : am_fix (am_sem X d) X am_P69 4 [.inr (50, 0), am_I (be_i ((M0 : Int))), am_I (be_i ((T : Int)))] [] (am_sd a b u e f) = (if e 74 0 T = be_i 0 then am_fix (am_sem X d) X am_P69 4 [.inr (50, 0), am_I (be_i ((M0 : Int))), am_I (be_i ((T : Int) + 1))] [] (am_sd a b u e f) else am_bi (am_sem X d 4 [.inr (50, 0), am_I (be_i ((T : Int)))] (am_sd a b u e f)) (fun r τ => am_fix (am_sem X d) X am_P69 28 [.inr (50, 0), am_I (be_i ((M0 : Int))), am_I (be_i ((T : Int)))] [am_I r] τ)) := by
        rw [am_b69_4, q0, be_31, bw_pw hn, ← hN, if_neg w1]
        simp (disch := (first | assumption | omega | exact (be_gB _ _ _).1 | exact (be_gB _ _ _).2)) only [↓reduceIte, be_ofI, ↓be_0, be_add, be_ck, be_nt, show (T : Int).toNat = T from rfl]
      rcases h1 T (by omega) with hz | hz
      · obtain ⟨M1, g1, g2⟩ := ih (T + 1) ((T : Int) + 1) M0 (by omega) (by omega) h6 ha (fun T' hT' h => by
          by_cases e : T' = T
          · subst e; omega
          · exact hu T' (by omega) h)
        refine ⟨M1, ?_, g2⟩
        rw [head, be_gI e 74 T, hz, if_pos rfl]
        exact g1
      · have c4 := be_m4 (X := X) (a := a) (b := b) (u := u) (e := e) (f := f) (d := d) (x := (T : Int)) (by omega) (by omega) (by omega)
        have hb := be_bits_le (T : Int) 6
        have ne : ¬ be_i 1 = be_i 0 := by decide
        by_cases hM : be_bits (T : Int) 6 ≤ M0
        · obtain ⟨M1, g1, g2⟩ := ih (T + 1) ((T : Int) + 1) M0 (by omega) (by omega) h6 ha (fun T' hT' h => by
            by_cases e : T' = T
            · subst e; exact hM
            · exact hu T' (by omega) h)
          refine ⟨M1, ?_, g2⟩
          rw [head, be_gI e 74 T, hz, if_neg ne, c4, be_bi, am_b69_28]
          simp (disch := (first | assumption | omega | exact (be_gB _ _ _).1 | exact (be_gB _ _ _).2)) only [↓reduceIte, be_ofI, ↓be_ofN, ↓be_0, be_add, be_sub, be_mul, be_neg, be_rem, be_bi, be_bl, be_bv, be_br, be_bE0, be_bE1, be_b1E, be_b0E, be_bkb, be_cast, Int.toNat_natCast, Int.reduceToNat, be_lt, be_le, be_eq, be_nt, be_ck, be_nz, be_bk, be_div]
          rw [if_pos (by omega)]
          exact g1
        · obtain ⟨M1, g1, g2⟩ := ih (T + 1) ((T : Int) + 1) (be_bits (T : Int) 6) (by omega) (by omega) hb ⟨T, by omega, hz, rfl⟩ (fun T' hT' h => by
            by_cases e : T' = T
            · subst e; exact Nat.le_refl _
            · have := hu T' (by omega) h
              omega)
          refine ⟨M1, ?_, g2⟩
          rw [head, be_gI e 74 T, hz, if_neg ne, c4, be_bi, am_b69_28]
          simp (disch := (first | assumption | omega | exact (be_gB _ _ _).1 | exact (be_gB _ _ _).2)) only [↓reduceIte, be_ofI, ↓be_ofN, ↓be_0, be_add, be_sub, be_mul, be_neg, be_rem, be_bi, be_bl, be_bv, be_br, be_bE0, be_bE1, be_b1E, be_b0E, be_bkb, be_cast, Int.toNat_natCast, Int.reduceToNat, be_lt, be_le, be_eq, be_nt, be_ck, be_nz, be_bk, be_div]
          rw [if_neg (by omega), c4, be_bi, am_b69_37]
          simp (disch := (first | assumption | omega | exact (be_gB _ _ _).1 | exact (be_gB _ _ _).2)) only [↓reduceIte, be_ofI, ↓be_ofN, ↓be_0, be_add, be_sub, be_mul, be_neg, be_rem, be_bi, be_bl, be_bv, be_br, be_bE0, be_bE1, be_b1E, be_b0E, be_bkb, be_cast, Int.toNat_natCast, Int.reduceToNat, be_lt, be_le, be_eq, be_nt, be_ck, be_nz, be_bk, be_div]
          exact g1
  rw [am_s69]
  exact key N 0 0 0 (Nat.zero_add N) rfl (by decide) ⟨0, hN1, h0, rfl⟩ (fun T' h => by omega)
theorem bw_cs0 {n : Nat} {K : Nat → Nat → Bool} {T : Nat} (hT : T < 2 ^ n) : bw_cs n (fun _ _ => false) K T ↔ T = 0 := by
  constructor
  · rintro ⟨z, z1, z2⟩
    refine Nat.eq_of_testBit_eq fun h => ?_
    rw [Nat.zero_testBit]
    by_cases hh : h < n
    · rw [← Bool.not_eq_true, z2 h hh]
      rcases z1 h hh with t | ⟨t, -⟩
      · exact fun h2 => h2 t
      · exact Bool.noConfusion t
    · exact Nat.testBit_lt_two_pow (Nat.lt_of_lt_of_le hT (Nat.pow_le_pow_right (by decide) (by omega)))
  · rintro rfl
    refine ⟨fun _ => 9, fun _ _ => Or.inl rfl, fun h hh => ?_⟩
    rw [Nat.zero_testBit]
    exact ⟨fun h => Bool.noConfusion h, fun h => absurd rfl h⟩
theorem bw_can0 {e1 : Nat → Nat → Nat → Int32} {n : Nat} {A K : Nat → Nat → Bool} (h : bw_can e1 n A K) : be_g e1 74 0 = 1 := by
  refine (h.2 0 (Nat.two_pow_pos n)).2 ⟨fun _ => 9, fun _ _ => Or.inl rfl, fun h hh => ?_⟩
  rw [Nat.zero_testBit]
  exact ⟨fun h => Bool.noConfusion h, fun h => absurd rfl h⟩
/-- the rooms of a set -/
def bw_AS (F : Nat → Nat → Bool) (S k h r : Nat) : Bool := decide (r < k) && (S.testBit r && F h r)
theorem bw_m70 (hd : 5 ≤ d) {n nr S : Nat} {F K : Nat → Nat → Bool} (hnr : nr ≤ 4) (h0 : be_g e 50 0 = (nr : Int)) (hS : S < 64) (hL : bw_RL e n F K) :
    ∃ (e' : Nat → Nat → Nat → Int32) (M : Nat), am_sem X d 70 [.inr (50, 0), am_I (be_i ((S : Int)))] (am_sd a b u e f) = some (some (am_I (be_i (M : Int))), am_sd a b u e' f) ∧ bw_F45 e e' ∧ M ≤ 6 ∧ bw_MX n (bw_AS F S nr) K M ∧ bw_can e' n (bw_AS F S nr) K := by
  obtain ⟨d, rfl⟩ : ∃ q, d = q + 1 := ⟨d - 1, by omega⟩
  have n6 := hL.2.1
  have hN64 : 2 ^ n ≤ 64 := Nat.pow_le_pow_right (n := 2) (by decide) n6
  obtain ⟨e1, c1, c2, c3⟩ := bw_m68 (X := X) (a := a) (b := b) (u := u) (e := e) (f := f) (d := d) (by omega)
  have can1 : bw_can e1 n (bw_AS F S 0) K := by
    refine ⟨fun T hT => ?_, fun T hT => ?_⟩
    · rw [c3 T (by omega)]; split
      · exact Or.inr rfl
      · exact Or.inl rfl
    · rw [show bw_AS F S 0 = fun _ _ => false from funext fun h => funext fun r => by unfold bw_AS; rw [decide_eq_false (by omega)]; rfl, bw_cs0 hT, c3 T (by omega)]
      split
      · exact ⟨fun _ => by assumption, fun _ => rfl⟩
      · exact ⟨fun h => by omega, fun h => by omega⟩
  have key : ∀ (m k : Nat) (z : Int) (e2 : Nat → Nat → Nat → Int32), k + m = nr → z = (k : Int) → bw_F45 e e2 → bw_can e2 n (bw_AS F S k) K → ∃ (e' : Nat → Nat → Nat → Int32) (M : Nat), am_fix (am_sem X d) X am_P70 6 [.inr (50, 0), am_I (be_i ((S : Int))), am_I (be_i (z))] [] (am_sd a b u e2 f) = some (some (am_I (be_i (M : Int))), am_sd a b u e' f) ∧ bw_F45 e e' ∧ M ≤ 6 ∧ bw_MX n (bw_AS F S nr) K M ∧ bw_can e' n (bw_AS F S nr) K := by
    intro m
    induction m with
    | zero =>
      rintro k z e2 hk rfl hF hc
      obtain rfl : k = nr := hk
      have q0 : e2 50 0 0 = be_i (k : Int) := by rw [be_gI e2, hF _ _ (by decide) (by decide), h0]
      obtain ⟨M, m1, m2, ⟨T, t1, t2, t3⟩, m4⟩ := bw_m69 (X := X) (a := a) (b := b) (u := u) (e := e2) (f := f) (d := d) (by omega) n6 (by rw [hF _ _ (by decide) (by decide)]; exact hL.1) hc.1 (bw_can0 hc)
      refine ⟨e2, M, ?_, hF, m2, bw_cs_MX n6 ⟨T, t1, (hc.2 T t1).1 t2, t3⟩ (fun T hT h => m4 T hT ((hc.2 T hT).2 h)), hc⟩
      rw [am_b70_6, q0, if_pos Int32.le_rfl, m1, be_bi, am_b70_38]
    | succ m ih =>
      rintro k z e2 hk rfl hF hc
      have q0 : e2 50 0 0 = be_i (nr : Int) := by rw [be_gI e2, hF _ _ (by decide) (by decide), h0]
      have w1 : ¬ be_i (nr : Int) ≤ be_i (k : Int) := by rw [be_le (by omega) (by omega) (by omega) (by omega)]; omega
      have hb := bw_has (X := X) (a := a) (b := b) (u := u) (e := e2) (f := f) (d := d) (T := S) (k := k) (by omega) (by omega) (by omega)
      cases hbit : S.testBit k with
      | false =>
        rw [hbit] at hb
        have hAS : bw_AS F S (k + 1) = bw_AS F S k := by
          funext h r
          unfold bw_AS
          by_cases e : r = k
          · subst e; rw [hbit, Bool.false_and, Bool.and_false, Bool.and_false]
          · by_cases e2 : r < k
            · rw [decide_eq_true e2, decide_eq_true (by omega)]
            · rw [decide_eq_false e2, decide_eq_false (by omega)]
        obtain ⟨e', M, g1, g2⟩ := ih (k + 1) ((k : Int) + 1) e2 (by omega) (by omega) hF (by rw [hAS]; exact hc)
        refine ⟨e', M, ?_, g2⟩
        rw [am_b70_6, q0, if_neg w1, hb, be_bi, am_b70_20]
        simp (disch := (first | assumption | omega | exact (be_gB _ _ _).1 | exact (be_gB _ _ _).2)) only [↓reduceIte, be_ofI, ↓be_ofN, ↓be_0, be_add, be_sub, be_mul, be_neg, be_rem, be_bi, be_bl, be_bv, be_br, be_bE0, be_bE1, be_b1E, be_b0E, be_bkb, be_cast, Int.toNat_natCast, Int.reduceToNat, be_lt, be_le, be_eq, be_nt, be_ck, be_nz, be_bk, be_div, not_true_eq_false, not_false_eq_true, if_true, if_false, eq_self, Int.reduceEq, Int.reduceLT, Int.reduceLE, Bool.true_eq_false, Bool.false_eq_true]
        rw [am_b70_28]
        simp (disch := (first | assumption | omega | exact (be_gB _ _ _).1 | exact (be_gB _ _ _).2)) only [↓reduceIte, be_ofI, ↓be_ofN, ↓be_0, be_add, be_sub, be_mul, be_neg, be_rem, be_bi, be_bl, be_bv, be_br, be_bE0, be_bE1, be_b1E, be_b0E, be_bkb, be_cast, Int.toNat_natCast, Int.reduceToNat, be_lt, be_le, be_eq, be_nt, be_ck, be_nz, be_bk, be_div, not_true_eq_false, not_false_eq_true, if_true, if_false, eq_self, Int.reduceEq, Int.reduceLT, Int.reduceLE, Bool.true_eq_false, Bool.false_eq_true]
        exact g1
      | true =>
        rw [hbit] at hb
        obtain ⟨e3, p1, p2, p3⟩ := bw_add (X := X) (a := a) (b := b) (u := u) (e := e2) (f := f) (d := d) (by omega) (r := k) (A := bw_AS F S k) (A' := bw_AS F S (k + 1)) (fr := fun h => F h k) (by omega) (bw_RL_t (fun c j h => hF c j (by omega) (by omega)) hL) (fun h hh => by rw [if_pos (by omega)]) (fun h => by unfold bw_AS; rw [decide_eq_false (by omega)]; rfl) (fun h s => by
          unfold bw_AS
          by_cases e : s = k
          · subst e; rw [if_pos rfl, decide_eq_true (by omega), hbit]; rfl
          · rw [if_neg e]
            by_cases e2 : s < k
            · rw [decide_eq_true e2, decide_eq_true (by omega)]
            · rw [decide_eq_false e2, decide_eq_false (by omega)]) (fun h => by unfold bw_AS; rw [decide_eq_false (by omega)]; rfl) hc
        obtain ⟨e', M, g1, g2⟩ := ih (k + 1) ((k : Int) + 1) e3 (by omega) (by omega) (fun c j c1 c2 => (p2 c j c1 c2).trans (hF c j c1 c2)) p3
        refine ⟨e', M, ?_, g2⟩
        rw [am_b70_6, q0, if_neg w1, hb, be_bi, am_b70_20]
        simp (disch := (first | assumption | omega | exact (be_gB _ _ _).1 | exact (be_gB _ _ _).2)) only [↓reduceIte, be_ofI, ↓be_ofN, ↓be_0, be_add, be_sub, be_mul, be_neg, be_rem, be_bi, be_bl, be_bv, be_br, be_bE0, be_bE1, be_b1E, be_b0E, be_bkb, be_cast, Int.toNat_natCast, Int.reduceToNat, be_lt, be_le, be_eq, be_nt, be_ck, be_nz, be_bk, be_div, not_true_eq_false, not_false_eq_true, if_true, if_false, eq_self, Int.reduceEq, Int.reduceLT, Int.reduceLE, Bool.true_eq_false, Bool.false_eq_true]
        rw [p1, be_bv, am_b70_28]
        simp (disch := (first | assumption | omega | exact (be_gB _ _ _).1 | exact (be_gB _ _ _).2)) only [↓reduceIte, be_ofI, ↓be_ofN, ↓be_0, be_add, be_sub, be_mul, be_neg, be_rem, be_bi, be_bl, be_bv, be_br, be_bE0, be_bE1, be_b1E, be_b0E, be_bkb, be_cast, Int.toNat_natCast, Int.reduceToNat, be_lt, be_le, be_eq, be_nt, be_ck, be_nz, be_bk, be_div, not_true_eq_false, not_false_eq_true, if_true, if_false, eq_self, Int.reduceEq, Int.reduceLT, Int.reduceLE, Bool.true_eq_false, Bool.false_eq_true]
        exact g1
  obtain ⟨e', M, g1, g2⟩ := key nr 0 0 e1 (Nat.zero_add nr) rfl (fun c j h1 h2 => c2 c j h1) can1
  refine ⟨e', M, ?_, g2⟩
  rw [am_s70, c1, be_bv, am_b70_4]
  exact g1
