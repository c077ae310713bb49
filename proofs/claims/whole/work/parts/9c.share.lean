/-! WAYS, 11: the reference's sets -/
variable {d : Nat} {X : am_X} {a : Nat → Nat → Nat → Int32} {b : Nat → Nat → Nat → Int64} {u : Nat → Nat} {e : Nat → Nat → Nat → Int32} {f : Nat → Nat → Nat → Int64}
theorem bw_has (hd : 1 ≤ d) {T k : Nat} (hT : T < 2147483648) (hk : k < 31) : am_sem X d 2 [.inr (50, 0), am_I (be_i ((T : Int))), am_I (be_i ((k : Int)))] (am_sd a b u e f) = some (some (am_I (be_i (be_b (T.testBit k)))), (am_sd a b u e f)) := by
  have h := be_m2 (X := X) (a := a) (b := b) (u := u) (e := e) (f := f) (d := d) (x := (T : Int)) (k := k) hd (by omega) (by omega) hk
  rw [bw_tb] at h
  exact h
theorem bw_m66o (hd : 1 ≤ d) {n T h : Nat} {F K : Nat → Nat → Bool} (hT : T < 64) (hL : bw_RL e n F K) (hh : h < n) (x2 : Int32) : ∀ (m o : Nat) (z : Int), o + m = n → z = (o : Int) → h < o → (∀ o', h < o' → o' < o → T.testBit o' = true → K h o' = false) →
    (am_fix (am_sem X d) X am_P66 47 [.inr (50, 0), am_I (be_i ((T : Int))), am_I x2, am_I (be_i ((h : Int))), am_I (be_i (z))] [] (am_sd a b u e f) = am_fix (am_sem X d) X am_P66 2 [.inr (50, 0), am_I (be_i ((T : Int))), am_I x2, am_I (be_i ((h : Int) + 1)), am_I (be_i ((n : Int)))] [] (am_sd a b u e f) ∧ ∀ o', h < o' → o' < n → T.testBit o' = true → K h o' = false) ∨
    (am_fix (am_sem X d) X am_P66 47 [.inr (50, 0), am_I (be_i ((T : Int))), am_I x2, am_I (be_i ((h : Int))), am_I (be_i (z))] [] (am_sd a b u e f) = some (some (am_I (be_i (0))), (am_sd a b u e f)) ∧ ¬ ∀ o', h < o' → o' < n → T.testBit o' = true → K h o' = false) := by
  have n6 := hL.2.1
  have q0 : e 50 0 2 = be_i (n : Int) := by rw [be_gI e, hL.1]
  intro m
  induction m with
  | zero =>
    rintro o z ho rfl hlt hK
    obtain rfl : o = n := ho
    refine Or.inl ⟨?_, hK⟩
    rw [am_b66_47]
    simp (disch := (first | assumption | omega | exact (be_gB _ _ _).1 | exact (be_gB _ _ _).2)) only [↓reduceIte, be_ofI, ↓be_ofN, ↓be_0, be_add, be_sub, be_mul, be_neg, be_rem, be_bi, be_bl, be_bv, be_br, be_bE0, be_bE1, be_b1E, be_b0E, be_bkb, be_cast, Int.toNat_natCast, Int.reduceToNat, be_lt, be_le, be_eq, be_nt, be_ck, be_nz, be_bk, be_div, q0, Int.le_refl]
  | succ m ih =>
    rintro o z ho rfl hlt hK
    have w1 : ¬ (n : Int) ≤ (o : Int) := by omega
    have hs := bw_has (X := X) (a := a) (b := b) (u := u) (e := e) (f := f) (d := d) (T := T) (k := o) hd (by omega) (by omega)
    have fo : e 72 0 (6 * h + o) = be_i (be_b (K h o)) := by rw [be_gI e, (hL.2.2 h hh).2.2 o (by omega) (by omega)]
    have hn : (6 * (h : Int) + (o : Int)).toNat = 6 * h + o := by omega
    have step := ih (o + 1) ((o : Int) + 1) (by omega) (by omega) (by omega)
    have head : am_fix (am_sem X d) X am_P66 47 [.inr (50, 0), am_I (be_i ((T : Int))), am_I x2, am_I (be_i ((h : Int))), am_I (be_i ((o : Int)))] [] (am_sd a b u e f) = am_fix (am_sem X d) X am_P66 63 [.inr (50, 0), am_I (be_i ((T : Int))), am_I x2, am_I (be_i ((h : Int))), am_I (be_i ((o : Int)))] [am_I (be_i (be_b (T.testBit o)))] (am_sd a b u e f) := by
      rw [am_b66_47]
      simp (disch := (first | assumption | omega | exact (be_gB _ _ _).1 | exact (be_gB _ _ _).2)) only [↓reduceIte, be_ofI, ↓be_ofN, ↓be_0, be_add, be_sub, be_mul, be_neg, be_rem, be_bi, be_bl, be_bv, be_br, be_bE0, be_bE1, be_b1E, be_b0E, be_bkb, be_cast, Int.toNat_natCast, Int.reduceToNat, be_lt, be_le, be_eq, be_nt, be_ck, be_nz, be_bk, be_div, q0, w1, hs]
    rw [head, am_b66_63]
    cases hb : T.testBit o with
    | false =>
      have s2 := step (fun o' h1 h2 h3 => by
        by_cases e1 : o' = o
        · subst e1; rw [hb] at h3; exact Bool.noConfusion h3
        · exact hK o' h1 (by omega) h3)
      simp (disch := (first | assumption | omega | exact (be_gB _ _ _).1 | exact (be_gB _ _ _).2)) only [↓reduceIte, be_ofI, ↓be_ofN, ↓be_0, be_add, be_sub, be_mul, be_neg, be_rem, be_bi, be_bl, be_bv, be_br, be_bE0, be_bE1, be_b1E, be_b0E, be_bkb, be_cast, Int.toNat_natCast, Int.reduceToNat, be_lt, be_le, be_eq, be_nt, be_ck, be_nz, be_bk, be_div, not_true_eq_false, not_false_eq_true, if_true, if_false, eq_self, Int.reduceEq, Int.reduceLT, Int.reduceLE, Bool.true_eq_false, Bool.false_eq_true]
      exact s2
    | true =>
      cases hk : K h o with
      | false =>
        rw [hk] at fo
        have s2 := step (fun o' h1 h2 h3 => by
          by_cases e1 : o' = o
          · subst e1; exact hk
          · exact hK o' h1 (by omega) h3)
        simp (disch := (first | assumption | omega | exact (be_gB _ _ _).1 | exact (be_gB _ _ _).2)) only [↓reduceIte, be_ofI, ↓be_ofN, ↓be_0, be_add, be_sub, be_mul, be_neg, be_rem, be_bi, be_bl, be_bv, be_br, be_bE0, be_bE1, be_b1E, be_b0E, be_bkb, be_cast, Int.toNat_natCast, Int.reduceToNat, be_lt, be_le, be_eq, be_nt, be_ck, be_nz, be_bk, be_div, not_true_eq_false, not_false_eq_true, if_true, if_false, eq_self, Int.reduceEq, Int.reduceLT, Int.reduceLE, Bool.true_eq_false, Bool.false_eq_true, hn, fo]
        exact s2
      | true =>
        rw [hk] at fo
        refine Or.inr ⟨?_, fun h2 => ?_⟩
        · simp (disch := (first | assumption | omega | exact (be_gB _ _ _).1 | exact (be_gB _ _ _).2)) only [↓reduceIte, be_ofI, ↓be_ofN, ↓be_0, be_add, be_sub, be_mul, be_neg, be_rem, be_bi, be_bl, be_bv, be_br, be_bE0, be_bE1, be_b1E, be_b0E, be_bkb, be_cast, Int.toNat_natCast, Int.reduceToNat, be_lt, be_le, be_eq, be_nt, be_ck, be_nz, be_bk, be_div, not_true_eq_false, not_false_eq_true, if_true, if_false, eq_self, Int.reduceEq, Int.reduceLT, Int.reduceLE, Bool.true_eq_false, Bool.false_eq_true, hn, fo]
        · rw [h2 o hlt (by omega) hb] at hk
          exact Bool.noConfusion hk
theorem bw_m66 (hd : 2 ≤ d) {n T r : Nat} {F K : Nat → Nat → Bool} {fr : Nat → Bool} (hT : T < 64) (hr : r ≤ 4) (hL : bw_RL e n F K) (hf : ∀ h, h < n → fr h = if r < 4 then F h r else true) : ∃ v : Bool, am_sem X d 66 [.inr (50, 0), am_I (be_i ((T : Int))), am_I (be_i ((r : Int)))] (am_sd a b u e f) = some (some (am_I (be_i (be_b v))), (am_sd a b u e f)) ∧ (v = true ↔ bw_sh n T fr K) := by
  obtain ⟨d, rfl⟩ : ∃ q, d = q + 1 := ⟨d - 1, by omega⟩
  have n6 := hL.2.1
  have q0 : e 50 0 2 = be_i (n : Int) := by rw [be_gI e, hL.1]
  have key : ∀ (m h : Nat) (z : Int) (z4 : am_V), h + m = n → z = (h : Int) → (∀ g, g < h → T.testBit g = true → fr g = true ∧ ∀ o, g < o → o < n → T.testBit o = true → K g o = false) → ∃ v : Bool, am_fix (am_sem X d) X am_P66 2 [.inr (50, 0), am_I (be_i ((T : Int))), am_I (be_i ((r : Int))), am_I (be_i (z)), z4] [] (am_sd a b u e f) = some (some (am_I (be_i (be_b v))), (am_sd a b u e f)) ∧ (v = true ↔ bw_sh n T fr K) := by
    intro m
    induction m with
    | zero =>
      rintro h z z4 hh rfl hp
      obtain rfl : h = n := hh
      refine ⟨true, ?_, fun _ g hg hb => hp g hg hb, fun _ => rfl⟩
      rw [am_b66_2]
      simp (disch := (first | assumption | omega | exact (be_gB _ _ _).1 | exact (be_gB _ _ _).2)) only [↓reduceIte, be_ofI, ↓be_ofN, ↓be_0, be_add, be_sub, be_mul, be_neg, be_rem, be_bi, be_bl, be_bv, be_br, be_bE0, be_bE1, be_b1E, be_b0E, be_bkb, be_cast, Int.toNat_natCast, Int.reduceToNat, be_lt, be_le, be_eq, be_nt, be_ck, be_nz, be_bk, be_div, q0, Int.le_refl]
      rfl
    | succ m ih =>
      rintro h z z4 hh rfl hp
      have w1 : ¬ (n : Int) ≤ (h : Int) := by omega
      have hs := bw_has (X := X) (a := a) (b := b) (u := u) (e := e) (f := f) (d := d) (T := T) (k := h) (by omega) (by omega) (by omega)
      have hn : (5 * (h : Int) + (r : Int)).toNat = 5 * h + r := by omega
      have head : am_fix (am_sem X d) X am_P66 2 [.inr (50, 0), am_I (be_i ((T : Int))), am_I (be_i ((r : Int))), am_I (be_i ((h : Int))), z4] [] (am_sd a b u e f) = am_fix (am_sem X d) X am_P66 16 [.inr (50, 0), am_I (be_i ((T : Int))), am_I (be_i ((r : Int))), am_I (be_i ((h : Int))), z4] [am_I (be_i (be_b (T.testBit h)))] (am_sd a b u e f) := by
        rw [am_b66_2]
        simp (disch := (first | assumption | omega | exact (be_gB _ _ _).1 | exact (be_gB _ _ _).2)) only [↓reduceIte, be_ofI, ↓be_ofN, ↓be_0, be_add, be_sub, be_mul, be_neg, be_rem, be_bi, be_bl, be_bv, be_br, be_bE0, be_bE1, be_b1E, be_b0E, be_bkb, be_cast, Int.toNat_natCast, Int.reduceToNat, be_lt, be_le, be_eq, be_nt, be_ck, be_nz, be_bk, be_div, q0, w1, hs]
      rw [head, am_b66_16]
      cases hb : T.testBit h with
      | false =>
        simp (disch := (first | assumption | omega | exact (be_gB _ _ _).1 | exact (be_gB _ _ _).2)) only [↓reduceIte, be_ofI, ↓be_ofN, ↓be_0, be_add, be_sub, be_mul, be_neg, be_rem, be_bi, be_bl, be_bv, be_br, be_bE0, be_bE1, be_b1E, be_b0E, be_bkb, be_cast, Int.toNat_natCast, Int.reduceToNat, be_lt, be_le, be_eq, be_nt, be_ck, be_nz, be_bk, be_div, not_true_eq_false, not_false_eq_true, if_true, if_false, eq_self, Int.reduceEq, Int.reduceLT, Int.reduceLE, Bool.true_eq_false, Bool.false_eq_true]
        exact ih (h + 1) _ z4 (by omega) (by omega) (fun g hg hgb => by
          by_cases e1 : g = h
          · subst e1; rw [hb] at hgb; exact Bool.noConfusion hgb
          · exact hp g (by omega) hgb)
      | true =>
        have go : fr h = true → ∃ v : Bool, am_fix (am_sem X d) X am_P66 47 [.inr (50, 0), am_I (be_i ((T : Int))), am_I (be_i ((r : Int))), am_I (be_i ((h : Int))), am_I (be_i ((h : Int) + 1))] [] (am_sd a b u e f) = some (some (am_I (be_i (be_b v))), (am_sd a b u e f)) ∧ (v = true ↔ bw_sh n T fr K) := by
          intro hfr
          rcases bw_m66o (X := X) (a := a) (b := b) (u := u) (e := e) (f := f) (d := d) (by omega) hT hL (h := h) (by omega) (be_i (r : Int)) (n - (h + 1)) (h + 1) ((h : Int) + 1) (by omega) (by omega) (by omega) (fun o' h1 h2 => by omega) with ⟨k1, k2⟩ | ⟨k1, k2⟩
          · obtain ⟨v, g1, g2⟩ := ih (h + 1) ((h : Int) + 1) (am_I (be_i (n : Int))) (by omega) (by omega) (fun g hg hgb => by
              by_cases e1 : g = h
              · subst e1; exact ⟨hfr, k2⟩
              · exact hp g (by omega) hgb)
            exact ⟨v, k1.trans g1, g2⟩
          · refine ⟨false, k1, fun h => Bool.noConfusion h, fun h2 => absurd (h2 h (by omega) hb).2 k2⟩
        have hfh := hf h (by omega)
        by_cases h4 : r < 4
        · rw [if_pos h4] at hfh
          have fi : e 71 0 (5 * h + r) = be_i (be_b (F h r)) := by rw [be_gI e, (hL.2.2 h (by omega)).1 r h4]
          have w4 : ¬ (4 : Int) ≤ (r : Int) := by omega
          cases hF : F h r with
          | false =>
            rw [hF] at fi hfh
            refine ⟨false, ?_, fun h => Bool.noConfusion h, fun h2 => ?_⟩
            · simp (disch := (first | assumption | omega | exact (be_gB _ _ _).1 | exact (be_gB _ _ _).2)) only [↓reduceIte, be_ofI, ↓be_ofN, ↓be_0, be_add, be_sub, be_mul, be_neg, be_rem, be_bi, be_bl, be_bv, be_br, be_bE0, be_bE1, be_b1E, be_b0E, be_bkb, be_cast, Int.toNat_natCast, Int.reduceToNat, be_lt, be_le, be_eq, be_nt, be_ck, be_nz, be_bk, be_div, not_true_eq_false, not_false_eq_true, if_true, if_false, eq_self, Int.reduceEq, Int.reduceLT, Int.reduceLE, Bool.true_eq_false, Bool.false_eq_true, w4, hn, fi]
              rfl
            · rw [(h2 h (by omega) hb).1] at hfh
              exact Bool.noConfusion hfh
          | true =>
            rw [hF] at fi hfh
            simp (disch := (first | assumption | omega | exact (be_gB _ _ _).1 | exact (be_gB _ _ _).2)) only [↓reduceIte, be_ofI, ↓be_ofN, ↓be_0, be_add, be_sub, be_mul, be_neg, be_rem, be_bi, be_bl, be_bv, be_br, be_bE0, be_bE1, be_b1E, be_b0E, be_bkb, be_cast, Int.toNat_natCast, Int.reduceToNat, be_lt, be_le, be_eq, be_nt, be_ck, be_nz, be_bk, be_div, not_true_eq_false, not_false_eq_true, if_true, if_false, eq_self, Int.reduceEq, Int.reduceLT, Int.reduceLE, Bool.true_eq_false, Bool.false_eq_true, w4, hn, fi]
            exact go hfh
        · rw [if_neg h4] at hfh
          have w4 : (4 : Int) ≤ (r : Int) := by omega
          simp (disch := (first | assumption | omega | exact (be_gB _ _ _).1 | exact (be_gB _ _ _).2)) only [↓reduceIte, be_ofI, ↓be_ofN, ↓be_0, be_add, be_sub, be_mul, be_neg, be_rem, be_bi, be_bl, be_bv, be_br, be_bE0, be_bE1, be_b1E, be_b0E, be_bkb, be_cast, Int.toNat_natCast, Int.reduceToNat, be_lt, be_le, be_eq, be_nt, be_ck, be_nz, be_bk, be_div, not_true_eq_false, not_false_eq_true, if_true, if_false, eq_self, Int.reduceEq, Int.reduceLT, Int.reduceLE, Bool.true_eq_false, Bool.false_eq_true, w4]
          exact go hfh
  rw [am_s66]
  exact key n 0 0 am_un (Nat.zero_add n) rfl (fun g hg => by omega)
theorem bw_and (x y : Nat) : be_i (x : Int) &&& be_i (y : Int) = be_i ((x &&& y : Nat) : Int) := by
  rw [← be_ofN, ← be_ofN, ← be_ofN]
  apply Int32.toBitVec_inj.1
  show BitVec.ofNat 32 x &&& BitVec.ofNat 32 y = BitVec.ofNat 32 (x &&& y)
  apply BitVec.eq_of_getLsbD_eq
  intro i hi
  simp [hi]
theorem bw_or (x y : Nat) : be_i (x : Int) ||| be_i (y : Int) = be_i ((x ||| y : Nat) : Int) := by
  rw [← be_ofN, ← be_ofN, ← be_ofN]
  apply Int32.toBitVec_inj.1
  show BitVec.ofNat 32 x ||| BitVec.ofNat 32 y = BitVec.ofNat 32 (x ||| y)
  apply BitVec.eq_of_getLsbD_eq
  intro i hi
  simp [hi]
/-- a row of truths -/
def bw_T1 (e1 : Nat → Nat → Nat → Int32) (c N : Nat) : Prop := ∀ T, T < N → be_g e1 c T = 0 ∨ be_g e1 c T = 1
def bw_F45 (e1 e2 : Nat → Nat → Nat → Int32) : Prop := ∀ c j, c ≠ 74 → c ≠ 75 → be_g e2 c j = be_g e1 c j
theorem bw_cp9 {N : Nat} (hN : N ≤ 64) (x1 : Int32) : ∀ (m k : Nat) (z : Int) (e1 : Nat → Nat → Nat → Int32), k + m = N → z = (k : Int) → bw_T1 e1 74 N → ∃ e2, am_fix (am_sem X d) X am_P67 9 [.inr (50, 0), am_I x1, am_I (be_i ((N : Int))), am_I (be_i (z)), am_un] [] (am_sd a b u e1 f) = am_fix (am_sem X d) X am_P67 34 [.inr (50, 0), am_I x1, am_I (be_i ((N : Int))), am_I (be_i (1)), am_un] [] (am_sd a b u e2 f) ∧
    (∀ c j, ¬ (c = 75 ∧ k ≤ j ∧ j < N) → be_g e2 c j = be_g e1 c j) ∧ ∀ j, k ≤ j → j < N → be_g e2 75 j = be_g e1 74 j := by
  intro m
  induction m with
  | zero =>
    rintro k z e1 hk rfl hT
    obtain rfl : k = N := hk
    refine ⟨e1, ?_, fun _ _ _ => rfl, fun j h1 h2 => by omega⟩
    rw [am_b67_9, if_pos Int32.le_rfl]
  | succ m ih =>
    rintro k z e1 hk rfl hT
    obtain ⟨e3, he3⟩ : ∃ e3, e3 = am_w3 e1 75 0 k (e1 74 0 k) := ⟨_, rfl⟩
    have q3 : ∀ c j, ¬ (c = 75 ∧ j = k) → be_g e3 c j = be_g e1 c j := fun c j h => by rw [he3]; exact be_gn _ _ _ _ _ _ _ (by omega)
    have r3 : be_g e3 75 k = be_g e1 74 k := by rw [he3]; unfold be_g; rw [be_w3s]
    obtain ⟨e2, g1, g2, g3⟩ := ih (k + 1) ((k : Int) + 1) e3 (by omega) (by omega) (fun T hTN => by rw [q3 _ _ (by omega)]; exact hT T hTN)
    have w1 : ¬ (N : Int) ≤ (k : Int) := by omega
    have hb : am_bk (e1 74 0 k) = fun r => r := funext fun r => by rw [be_gI e1]; exact be_bk (hT k (by omega))
    refine ⟨e2, ?_, fun c j hc => (g2 c j (by omega)).trans (q3 c j (by omega)), fun j h1 h2 => ?_⟩
    · rw [am_b67_9]
      simp (disch := (first | assumption | omega | exact (be_gB _ _ _).1 | exact (be_gB _ _ _).2)) only [↓reduceIte, be_ofI, ↓be_ofN, ↓be_0, be_add, be_sub, be_mul, be_neg, be_rem, be_bi, be_bl, be_bv, be_br, be_bE0, be_bE1, be_b1E, be_b0E, be_bkb, be_cast, Int.toNat_natCast, Int.reduceToNat, be_lt, be_le, be_eq, be_nt, be_ck, be_nz, be_bk, be_div, w1, show (k : Int).toNat = k from rfl, hb]
      rw [← he3]
      exact g1
    · by_cases e1 : j = k
      · subst e1; rw [g2 _ _ (by omega)]; exact r3
      · rw [g3 j (by omega) h2]; exact q3 _ _ (by omega)
theorem bw_cp101 {N : Nat} (hN : N ≤ 64) (x1 : Int32) (z4 : am_V) : ∀ (m k : Nat) (z : Int) (e1 : Nat → Nat → Nat → Int32), k + m = N → z = (k : Int) → bw_T1 e1 75 N → ∃ e2, am_fix (am_sem X d) X am_P67 101 [.inr (50, 0), am_I x1, am_I (be_i ((N : Int))), am_I (be_i (z)), z4] [] (am_sd a b u e1 f) = some (none, am_sd a b u e2 f) ∧
    (∀ c j, ¬ (c = 74 ∧ k ≤ j ∧ j < N) → be_g e2 c j = be_g e1 c j) ∧ ∀ j, k ≤ j → j < N → be_g e2 74 j = be_g e1 75 j := by
  intro m
  induction m with
  | zero =>
    rintro k z e1 hk rfl hT
    obtain rfl : k = N := hk
    refine ⟨e1, ?_, fun _ _ _ => rfl, fun j h1 h2 => by omega⟩
    rw [am_b67_101, if_pos Int32.le_rfl]
  | succ m ih =>
    rintro k z e1 hk rfl hT
    obtain ⟨e3, he3⟩ : ∃ e3, e3 = am_w3 e1 74 0 k (e1 75 0 k) := ⟨_, rfl⟩
    have q3 : ∀ c j, ¬ (c = 74 ∧ j = k) → be_g e3 c j = be_g e1 c j := fun c j h => by rw [he3]; exact be_gn _ _ _ _ _ _ _ (by omega)
    have r3 : be_g e3 74 k = be_g e1 75 k := by rw [he3]; unfold be_g; rw [be_w3s]
    obtain ⟨e2, g1, g2, g3⟩ := ih (k + 1) ((k : Int) + 1) e3 (by omega) (by omega) (fun T hTN => by rw [q3 _ _ (by omega)]; exact hT T hTN)
    have w1 : ¬ (N : Int) ≤ (k : Int) := by omega
    have hb : am_bk (e1 75 0 k) = fun r => r := funext fun r => by rw [be_gI e1]; exact be_bk (hT k (by omega))
    refine ⟨e2, ?_, fun c j hc => (g2 c j (by omega)).trans (q3 c j (by omega)), fun j h1 h2 => ?_⟩
    · rw [am_b67_101]
      simp (disch := (first | assumption | omega | exact (be_gB _ _ _).1 | exact (be_gB _ _ _).2)) only [↓reduceIte, be_ofI, ↓be_ofN, ↓be_0, be_add, be_sub, be_mul, be_neg, be_rem, be_bi, be_bl, be_bv, be_br, be_bE0, be_bE1, be_b1E, be_b0E, be_bkb, be_cast, Int.toNat_natCast, Int.reduceToNat, be_lt, be_le, be_eq, be_nt, be_ck, be_nz, be_bk, be_div, w1, show (k : Int).toNat = k from rfl, hb]
      rw [← he3]
      exact g1
    · by_cases e1 : j = k
      · subst e1; rw [g2 _ _ (by omega)]; exact r3
      · rw [g3 j (by omega) h2]; exact q3 _ _ (by omega)
/-- all that is left when a set shares the room -/
theorem bw_rest {n N S : Nat} (hn : n ≤ 6) (hN : N = 2 ^ n) (hS : S < N) (x1 : Int32) : ∀ (m R : Nat) (z : Int) (e1 : Nat → Nat → Nat → Int32), R + m = N → z = (R : Int) → bw_T1 e1 74 N → bw_T1 e1 75 N → ∃ e2, am_fix (am_sem X d) X am_P67 54 [.inr (50, 0), am_I x1, am_I (be_i ((N : Int))), am_I (be_i ((S : Int))), am_I (be_i (z))] [] (am_sd a b u e1 f) = am_fix (am_sem X d) X am_P67 34 [.inr (50, 0), am_I x1, am_I (be_i ((N : Int))), am_I (be_i ((S : Int) + 1)), am_I (be_i ((N : Int)))] [] (am_sd a b u e2 f) ∧
    (∀ c j, c ≠ 75 → be_g e2 c j = be_g e1 c j) ∧ bw_T1 e2 75 N ∧ ∀ T, T < N → (be_g e2 75 T = 1 ↔ (be_g e1 75 T = 1 ∨ ∃ R', R ≤ R' ∧ R' < N ∧ R' &&& S = 0 ∧ be_g e1 74 R' = 1 ∧ R' ||| S = T)) := by
  have hN64 : N ≤ 64 := by rw [hN]; exact Nat.pow_le_pow_right (n := 2) (by decide) hn
  intro m
  induction m with
  | zero =>
    rintro R z e1 hR rfl h4 h5
    obtain rfl : R = N := hR
    refine ⟨e1, ?_, fun _ _ _ => rfl, h5, fun T hT => ⟨Or.inl, ?_⟩⟩
    · rw [am_b67_54, if_pos Int32.le_rfl]
      simp (disch := (first | assumption | omega | exact (be_gB _ _ _).1 | exact (be_gB _ _ _).2)) only [↓reduceIte, be_ofI, ↓be_ofN, ↓be_0, be_add, be_sub, be_mul, be_neg, be_rem, be_bi, be_bl, be_bv, be_br, be_bE0, be_bE1, be_b1E, be_b0E, be_bkb, be_cast, Int.toNat_natCast, Int.reduceToNat, be_lt, be_le, be_eq, be_nt, be_ck, be_nz, be_bk, be_div]
    · rintro (h | ⟨R', h1, h2, -⟩)
      · exact h
      · omega
  | succ m ih =>
    rintro R z e1 hR rfl h4 h5
    have w1 : ¬ (N : Int) ≤ (R : Int) := by omega
    have ga : be_i (R : Int) &&& be_i (S : Int) = be_i ((R &&& S : Nat) : Int) := bw_and R S
    have go : be_i (R : Int) ||| be_i (S : Int) = be_i ((R ||| S : Nat) : Int) := bw_or R S
    have hand : R &&& S ≤ R := Nat.and_le_left
    have hor : R ||| S < N := by rw [hN]; exact Nat.or_lt_two_pow (by rw [← hN]; omega) (by rw [← hN]; omega)
    have skip : (¬ (R &&& S = 0) ∨ be_g e1 74 R = 0) → ∀ e2, (∀ T, T < N → (be_g e2 75 T = 1 ↔ (be_g e1 75 T = 1 ∨ ∃ R', R + 1 ≤ R' ∧ R' < N ∧ R' &&& S = 0 ∧ be_g e1 74 R' = 1 ∧ R' ||| S = T))) → ∀ T, T < N → (be_g e2 75 T = 1 ↔ (be_g e1 75 T = 1 ∨ ∃ R', R ≤ R' ∧ R' < N ∧ R' &&& S = 0 ∧ be_g e1 74 R' = 1 ∧ R' ||| S = T)) := by
      intro hc e2 h T hT
      rw [h T hT]
      constructor
      · rintro (h | ⟨R', h1, h2⟩)
        · exact Or.inl h
        · exact Or.inr ⟨R', by omega, h2⟩
      · rintro (h | ⟨R', h1, h2, h3, h4', h5'⟩)
        · exact Or.inl h
        · by_cases e : R' = R
          · subst e; exfalso; rcases hc with hc | hc
            · exact hc h3
            · omega
          · exact Or.inr ⟨R', by omega, h2, h3, h4', h5'⟩
    by_cases h0 : R &&& S = 0
    · rcases h4 R (by omega) with hz | hz
      · obtain ⟨e2, g1, g2, g3, g4⟩ := ih (R + 1) ((R : Int) + 1) e1 (by omega) (by omega) h4 h5
        refine ⟨e2, ?_, g2, g3, skip (Or.inr hz) e2 g4⟩
        have e74 : e1 74 0 R = be_i 0 := by rw [be_gI e1, hz]
        rw [am_b67_54]
        simp (disch := (first | assumption | omega | exact (be_gB _ _ _).1 | exact (be_gB _ _ _).2)) only [↓reduceIte, be_ofI, ↓be_ofN, ↓be_0, be_add, be_sub, be_mul, be_neg, be_rem, be_bi, be_bl, be_bv, be_br, be_bE0, be_bE1, be_b1E, be_b0E, be_bkb, be_cast, Int.toNat_natCast, Int.reduceToNat, be_lt, be_le, be_eq, be_nt, be_ck, be_nz, be_bk, be_div, not_true_eq_false, not_false_eq_true, if_true, if_false, eq_self, Int.reduceEq, Int.reduceLT, Int.reduceLE, Bool.true_eq_false, Bool.false_eq_true, w1, ga, h0, e74, show (R : Int).toNat = R from rfl, Int.natCast_zero]
        exact g1
      · obtain ⟨e3, he3⟩ : ∃ e3, e3 = am_w3 e1 75 0 (R ||| S) (be_i 1) := ⟨_, rfl⟩
        have q3 : ∀ c j, ¬ (c = 75 ∧ j = R ||| S) → be_g e3 c j = be_g e1 c j := fun c j h => by rw [he3]; exact be_gn _ _ _ _ _ _ _ (by omega)
        have r3 : be_g e3 75 (R ||| S) = 1 := by rw [he3, be_gw _ _ _ _ _ (by omega) (by omega), if_pos ⟨rfl, rfl⟩]
        obtain ⟨e2, g1, g2, g3, g4⟩ := ih (R + 1) ((R : Int) + 1) e3 (by omega) (by omega) (fun T hT => by rw [q3 _ _ (by omega)]; exact h4 T hT) (fun T hT => by
          by_cases e : T = R ||| S
          · rw [e, r3]; exact Or.inr rfl
          · rw [q3 _ _ (by omega)]; exact h5 T hT)
        refine ⟨e2, ?_, fun c j hc => (g2 c j hc).trans (q3 c j (by omega)), g3, fun T hT => ?_⟩
        · have e74 : e1 74 0 R = be_i 1 := by rw [be_gI e1, hz]
          rw [am_b67_54]
          simp (disch := (first | assumption | omega | exact (be_gB _ _ _).1 | exact (be_gB _ _ _).2)) only [↓reduceIte, be_ofI, ↓be_ofN, ↓be_0, be_add, be_sub, be_mul, be_neg, be_rem, be_bi, be_bl, be_bv, be_br, be_bE0, be_bE1, be_b1E, be_b0E, be_bkb, be_cast, Int.toNat_natCast, Int.reduceToNat, be_lt, be_le, be_eq, be_nt, be_ck, be_nz, be_bk, be_div, not_true_eq_false, not_false_eq_true, if_true, if_false, eq_self, Int.reduceEq, Int.reduceLT, Int.reduceLE, Bool.true_eq_false, Bool.false_eq_true, w1, ga, go, h0, e74, show (R : Int).toNat = R from rfl, Int.natCast_zero, Int.toNat_natCast]
          rw [← he3]
          exact g1
        · rw [g4 T hT]
          constructor
          · rintro (h | ⟨R', h1, h2, h3, h4', h5'⟩)
            · by_cases e : T = R ||| S
              · exact Or.inr ⟨R, Nat.le_refl R, by omega, h0, hz, e.symm⟩
              · rw [q3 _ _ (by omega)] at h; exact Or.inl h
            · rw [q3 _ _ (by omega)] at h4'
              exact Or.inr ⟨R', by omega, h2, h3, h4', h5'⟩
          · rintro (h | ⟨R', h1, h2, h3, h4', h5'⟩)
            · by_cases e : T = R ||| S
              · rw [e]; exact Or.inl r3
              · rw [q3 _ _ (by omega)]; exact Or.inl h
            · by_cases e : R' = R
              · subst e; rw [← h5']; exact Or.inl r3
              · exact Or.inr ⟨R', by omega, h2, h3, by rw [q3 _ _ (by omega)]; exact h4', h5'⟩
    · obtain ⟨e2, g1, g2, g3, g4⟩ := ih (R + 1) ((R : Int) + 1) e1 (by omega) (by omega) h4 h5
      refine ⟨e2, ?_, g2, g3, skip (Or.inl h0) e2 g4⟩
      have w2 : ¬ ((R &&& S : Nat) : Int) = 0 := by omega
      rw [am_b67_54]
      simp (disch := (first | assumption | omega | exact (be_gB _ _ _).1 | exact (be_gB _ _ _).2)) only [↓reduceIte, be_ofI, ↓be_ofN, ↓be_0, be_add, be_sub, be_mul, be_neg, be_rem, be_bi, be_bl, be_bv, be_br, be_bE0, be_bE1, be_b1E, be_b0E, be_bkb, be_cast, Int.toNat_natCast, Int.reduceToNat, be_lt, be_le, be_eq, be_nt, be_ck, be_nz, be_bk, be_div, not_true_eq_false, not_false_eq_true, if_true, if_false, eq_self, Int.reduceEq, Int.reduceLT, Int.reduceLE, Bool.true_eq_false, Bool.false_eq_true, w1, ga, w2]
      exact g1
