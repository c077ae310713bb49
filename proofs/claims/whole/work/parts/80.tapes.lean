/-! CALLS, 8: tapes -/
variable {d : Nat} {X : am_X} {a : Nat → Nat → Nat → Int32} {b : Nat → Nat → Nat → Int64} {u : Nat → Nat} {e : Nat → Nat → Nat → Int32} {f : Nat → Nat → Nat → Int64}
theorem be_Ct {c m : Nat} {as : List am_V} {v : Int32} {a' e' : Nat → Nat → Nat → Int32} {b' f' : Nat → Nat → Nat → Int64} (hI : be_IV a b u e f) (h1 : am_sem X d c (.inr (9, 0) :: as) (am_sd a b u e f) = some (some (am_I v), am_sd a' b' u e f)) (h2 : am_sem X d m (.inr (50, 0) :: as) (am_sd a' b' u e f) = some (some (am_I v), am_sd a' b' u e' f'))
    (hA : ∀ c k j, c ≠ 22 → c ≠ 23 → a' c k j = a c k j) (hE : ∀ c j, c ≠ 102 → c ≠ 103 → be_g e' c j = be_g e c j) (hB : ∀ r, b' 28 0 r = b 28 0 r) (h6 : be_I6 a' b' e' f') : be_C X d c m as a b u e f := by
  obtain ⟨g1, gN, g3, g4, g5, -, g7, g8⟩ := hI
  exact ⟨v, a', b', u, e', f', h1, h2, be_t1 (by decide) (fun c j h => hE _ _ (by omega) (by omega)) (fun c k j h => hA _ _ _ (by unfold be_inH at h; omega) (by unfold be_inH at h; omega)) rfl g1, be_NM_t gN (fun k => hA _ _ _ (by omega) (by omega)) (fun k => hA _ _ _ (by omega) (by omega)), be_t3 (fun c j h => hE _ _ (by omega) (by omega)) (fun c k j h => hA _ _ _ (by omega) (by omega)) g3,
    be_t4 (fun c j h => hE _ _ (by omega) (by omega)) (fun c k j h => hA _ _ _ (by omega) (by omega)) g4, be_t5 (fun c j h => hE _ _ (by omega) (by omega)) (fun c k j h => hA _ _ _ (by unfold be_inH at h; omega) (by unfold be_inH at h; omega)) rfl g5, h6, be_t7 (fun c j h => hE _ _ (by omega) (by omega)) (fun c k j h => hA _ _ _ (by omega) (by omega)) g7, fun r hr => (hB r).trans (g8.1 r hr), be_t9 (fun c j h => hE _ _ (by omega) (by omega)) g8.2⟩
theorem be_m106L {t : Nat} (ht : t < 6) {y z : Int} : ∀ (n k : Nat) (x : Int) (f1 : Nat → Nat → Nat → Int64), k + n = 60 → x = (k : Int) →
    ∃ f', am_fix (am_sem X d) X am_P106 69 [.inr (50, 0), am_I (be_i ((t : Int))), am_I (be_i (y)), am_I (be_i (z)), am_I (be_i (x))] [] (am_sd a b u e f1) = some (some (am_I (be_i 1)), am_sd a b u e f') ∧ ∀ i, f' 104 0 i = if 60 * t + k ≤ i ∧ i < 60 * t + 60 then Int64.ofNat 0 else f1 104 0 i := by
  intro n
  induction n with
  | zero =>
    rintro k x f1 hk rfl
    obtain rfl : k = 60 := hk
    refine ⟨f1, ?_, fun i => (if_neg (by omega)).symm⟩
    rw [am_b106_69]
    simp (disch := (first | assumption | omega | exact (be_gB _ _ _).1 | exact (be_gB _ _ _).2)) only [↓reduceIte, be_ofI, ↓be_ofN, ↓be_0, be_add, be_sub, be_mul, be_neg, be_rem, be_bi, be_bl, be_bv, be_br, be_bE0, be_bE1, be_b1E, be_b0E, be_bkb, be_cast, Int.toNat_natCast, Int.reduceToNat, be_lt, be_le, be_eq, be_nt, be_ck, be_nz, be_bk, be_div, not_true_eq_false, not_false_eq_true, if_true, if_false, eq_self, Int.reduceEq, Int.reduceLT, Int.reduceLE, Bool.true_eq_false, Bool.false_eq_true]
    rfl
  | succ n ih =>
    rintro k x f1 hk rfl
    have hn : (60 * (t : Int) + (k : Int)).toNat = 60 * t + k := by omega
    obtain ⟨f', g1, g2⟩ := ih (k + 1) ((k : Int) + 1) (am_w3 f1 104 0 (60 * t + k) (Int64.ofNat 0)) (by omega) (by omega)
    refine ⟨f', ?_, fun i => ?_⟩
    · rw [am_b106_69]
      simp (disch := (first | assumption | omega | exact (be_gB _ _ _).1 | exact (be_gB _ _ _).2)) only [↓reduceIte, be_ofI, ↓be_ofN, ↓be_0, be_add, be_sub, be_mul, be_neg, be_rem, be_bi, be_bl, be_bv, be_br, be_bE0, be_bE1, be_b1E, be_b0E, be_bkb, be_cast, Int.toNat_natCast, Int.reduceToNat, be_lt, be_le, be_eq, be_nt, be_ck, be_nz, be_bk, be_div, hn]
      rw [if_neg (by omega)]
      exact g1
    · rw [g2 i]
      by_cases h1 : 60 * t + (k + 1) ≤ i ∧ i < 60 * t + 60
      · rw [if_pos h1, if_pos (by omega)]
      · rw [if_neg h1]
        by_cases h2 : i = 60 * t + k
        · subst h2; rw [be_w3s, if_pos (by omega)]
        · rw [be_w3n _ _ _ _ _ _ _ _ (by omega), if_neg (by omega)]
theorem be_m195L {t : Nat} (ht : t < 6) {y z : Int} : ∀ (n k : Nat) (x : Int) (b1 : Nat → Nat → Nat → Int64), k + n = 60 → x = (k : Int) →
    ∃ b', am_fix (am_sem X d) X am_P195 17 [.inr (7, 0), am_I (be_i ((t : Int))), am_I (be_i (y)), am_I (be_i (z)), am_I (be_i (x))] [] (am_sd a b1 u e f) = some (some (am_I (be_i 1)), am_sd a b' u e f) ∧ ∀ c i j, b' c i j = if c = 21 ∧ i = t ∧ k ≤ j ∧ j < 60 then Int64.ofNat 0 else b1 c i j := by
  intro n
  induction n with
  | zero =>
    rintro k x b1 hk rfl
    obtain rfl : k = 60 := hk
    refine ⟨b1, ?_, fun c i j => (if_neg (by omega)).symm⟩
    rw [am_b195_17]
    simp (disch := (first | assumption | omega | exact (be_gB _ _ _).1 | exact (be_gB _ _ _).2)) only [↓reduceIte, be_ofI, ↓be_ofN, ↓be_0, be_add, be_sub, be_mul, be_neg, be_rem, be_bi, be_bl, be_bv, be_br, be_bE0, be_bE1, be_b1E, be_b0E, be_bkb, be_cast, Int.toNat_natCast, Int.reduceToNat, be_lt, be_le, be_eq, be_nt, be_ck, be_nz, be_bk, be_div, not_true_eq_false, not_false_eq_true, if_true, if_false, eq_self, Int.reduceEq, Int.reduceLT, Int.reduceLE, Bool.true_eq_false, Bool.false_eq_true]
    rfl
  | succ n ih =>
    rintro k x b1 hk rfl
    obtain ⟨b', g1, g2⟩ := ih (k + 1) ((k : Int) + 1) (am_w3 b1 21 t k (Int64.ofNat 0)) (by omega) (by omega)
    refine ⟨b', ?_, fun c i j => ?_⟩
    · rw [am_b195_17]
      simp (disch := (first | assumption | omega | exact (be_gB _ _ _).1 | exact (be_gB _ _ _).2)) only [↓reduceIte, be_ofI, ↓be_ofN, ↓be_0, be_add, be_sub, be_mul, be_neg, be_rem, be_bi, be_bl, be_bv, be_br, be_bE0, be_bE1, be_b1E, be_b0E, be_bkb, be_cast, Int.toNat_natCast, Int.reduceToNat, be_lt, be_le, be_eq, be_nt, be_ck, be_nz, be_bk, be_div]
      rw [if_neg (by omega)]
      exact g1
    · rw [g2]
      by_cases h1 : c = 21 ∧ i = t ∧ k + 1 ≤ j ∧ j < 60
      · rw [if_pos h1, if_pos (by omega)]
      · rw [if_neg h1]
        by_cases h2 : c = 21 ∧ i = t ∧ j = k
        · obtain ⟨rfl, rfl, rfl⟩ := h2; rw [be_w3s, if_pos (by omega)]
        · rw [be_w3n _ _ _ _ _ _ _ _ h2, if_neg (by omega)]
theorem be_ctape (hd : 12 ≤ d) (hI : be_IV a b u e f) {x y z : Int} (hx1 : -2147483648 ≤ x) (hx2 : x < 2147483648) (hy1 : -2147483648 ≤ y) (hy2 : y < 2147483648) (hz1 : -2147483648 ≤ z) (hz2 : z < 2147483648) : be_C X d 246 106 [am_I (be_i (x)), am_I (be_i (y)), am_I (be_i (z))] a b u e f := by
  obtain ⟨d, rfl⟩ : ∃ q, d = q + 1 := ⟨d - 1, by omega⟩
  have he := be_gI e
  have h6 := hI.2.2.2.2.2.1
  have c1 := be_m189 (X := X) (a := a) (b := b) (u := u) (e := e) (f := f) (d := d) (x := x) (by omega) hx1 hx2
  have c2 := fun a' b' => be_m105 (X := X) (a := a') (b := b') (u := u) (e := e) (f := f) (d := d) (x := x) (by omega) hx1 hx2
  have c3 := be_m250 (X := X) (a := a) (b := b) (u := u) (e := e) (f := f) (d := d) (x := y) (y := 0) (z := 4) (by omega) hy1 hy2 (by decide) (by decide) (by decide) (by decide)
  have c4 := fun a' b' => be_m1 (X := X) (a := a') (b := b') (u := u) (e := e) (f := f) (d := d) (x := y) (y := -1) (z := 4) (by omega) hy1 hy2 (by decide) (by decide) (by decide) (by decide)
  by_cases hx : 0 ≤ x ∧ x ≤ 5
  · rw [decide_eq_true hx] at c1 c2
    obtain ⟨t, rfl⟩ := be_0le hx.1
    by_cases hm : y = -1
    · subst hm
      rw [decide_eq_true (by omega)] at c4
      obtain ⟨a', ha'⟩ : ∃ a', a' = am_w3 (am_w3 a 22 0 t (be_i (-1))) 23 0 t (be_i 0) := ⟨_, rfl⟩
      obtain ⟨e', he'⟩ : ∃ e', e' = am_w3 (am_w3 e 102 0 t (be_i (-1))) 103 0 t (be_i 0) := ⟨_, rfl⟩
      obtain ⟨f', g1, g2⟩ := be_m106L (X := X) (a := a') (b := b) (u := u) (e := e') (d := d) (t := t) (by omega) (y := -1) (z := z) 60 0 0 f rfl rfl
      refine be_Ct (v := be_i 1) (a' := a') (b' := b) (e' := e') (f' := f') hI ?_ ?_ (fun c k j h1 h2 => by rw [ha']; simp (disch := omega) only [be_w3n]) (fun c j h1 h2 => by rw [he']; simp (disch := omega) only [be_gn]) (fun _ => rfl) ?_
      · have h194 : am_sem X d 194 [.inr (7, 0), am_I (be_i ((t : Int)))] (am_sd a b u e f) = some (some (am_I (be_i 1)), am_sd a' b u e f) := by
          obtain ⟨d, rfl⟩ : ∃ q, d = q + 1 := ⟨d - 1, by omega⟩
          rw [am_s194]
          simp (disch := (first | assumption | omega | exact (be_gB _ _ _).1 | exact (be_gB _ _ _).2)) only [↓reduceIte, be_ofI, ↓be_ofN, ↓be_0, be_add, be_sub, be_mul, be_neg, be_rem, be_bi, be_bl, be_bv, be_br, be_bE0, be_bE1, be_b1E, be_b0E, be_bkb, be_cast, Int.toNat_natCast, Int.reduceToNat, be_lt, be_le, be_eq, be_nt, be_ck, be_nz, be_bk, be_div, not_true_eq_false, not_false_eq_true, if_true, if_false, eq_self, Int.reduceEq, Int.reduceLT, Int.reduceLE, Bool.true_eq_false, Bool.false_eq_true]
          rw [ha']
        rw [am_s246]
        simp (disch := (first | assumption | omega | exact (be_gB _ _ _).1 | exact (be_gB _ _ _).2)) only [↓reduceIte, be_ofI, ↓be_ofN, ↓be_0, be_add, be_sub, be_mul, be_neg, be_rem, be_bi, be_bl, be_bv, be_br, be_bE0, be_bE1, be_b1E, be_b0E, be_bkb, be_cast, Int.toNat_natCast, Int.reduceToNat, be_lt, be_le, be_eq, be_nt, be_ck, be_nz, be_bk, be_div, not_true_eq_false, not_false_eq_true, if_true, if_false, eq_self, Int.reduceEq, Int.reduceLT, Int.reduceLE, Bool.true_eq_false, Bool.false_eq_true, c1, h194, am_b246_8, am_b246_26, am_b246_33, am_b246_64]
      · rw [am_s106]
        simp (disch := (first | assumption | omega | exact (be_gB _ _ _).1 | exact (be_gB _ _ _).2)) only [↓reduceIte, be_ofI, ↓be_ofN, ↓be_0, be_add, be_sub, be_mul, be_neg, be_rem, be_bi, be_bl, be_bv, be_br, be_bE0, be_bE1, be_b1E, be_b0E, be_bkb, be_cast, Int.toNat_natCast, Int.reduceToNat, be_lt, be_le, be_eq, be_nt, be_ck, be_nz, be_bk, be_div, not_true_eq_false, not_false_eq_true, if_true, if_false, eq_self, Int.reduceEq, Int.reduceLT, Int.reduceLE, Bool.true_eq_false, Bool.false_eq_true, c2, c4, am_b106_5, am_b106_17]
        rw [← he']
        exact g1
      · intro s hs
        obtain ⟨q1, q2, q3, q4, q5, q6, q7, q8⟩ := h6 s hs
        by_cases hst : s = t
        · subst hst
          have r1 : be_g e' 102 s = -1 := by rw [he', be_gn _ _ _ _ _ _ _ (by omega), be_gw _ _ _ _ _ (by omega) (by omega), if_pos ⟨rfl, rfl⟩]
          have r2 : be_g e' 103 s = 0 := by rw [he', be_gw _ _ _ _ _ (by omega) (by omega), if_pos ⟨rfl, rfl⟩]
          rw [r1, r2]
          refine ⟨by rw [ha']; simp (disch := omega) only [be_w3n, be_w3s], by decide, by decide, by rw [ha', be_w3s], by decide, by decide, fun _ => rfl, fun k hk => by omega⟩
        · have r1 : be_g e' 102 s = be_g e 102 s := by rw [he']; simp (disch := omega) only [be_gn]
          have r2 : be_g e' 103 s = be_g e 103 s := by rw [he']; simp (disch := omega) only [be_gn]
          rw [r1, r2]
          refine ⟨by rw [ha']; simp (disch := omega) only [be_w3n]; exact q1, q2, q3, by rw [ha']; simp (disch := omega) only [be_w3n]; exact q4, q5, q6, q7, fun k hk => ?_⟩
          rw [g2, if_neg (by omega)]
          exact q8 k hk
    · by_cases hy : 0 ≤ y ∧ y ≤ 4
      · rw [decide_eq_true hy] at c3
        rw [decide_eq_true (by omega)] at c4
        have g0 : ¬ y < 0 := by omega
        have g1 : 0 ≤ y := by omega
        by_cases hz : z ≤ 60
        · by_cases hz0 : 0 ≤ z
          · obtain ⟨a', ha'⟩ : ∃ a', a' = am_w3 (am_w3 a 22 0 t (be_i y)) 23 0 t (be_i z) := ⟨_, rfl⟩
            obtain ⟨e', he'⟩ : ∃ e', e' = am_w3 (am_w3 e 102 0 t (be_i y)) 103 0 t (be_i z) := ⟨_, rfl⟩
            obtain ⟨b', k1, k2⟩ := be_m195L (X := X) (a := a') (u := u) (e := e) (f := f) (d := d - 1) (t := t) (by omega) (y := y) (z := z) 60 0 0 b rfl rfl
            obtain ⟨f', m1, m2⟩ := be_m106L (X := X) (a := a') (b := b') (u := u) (e := e') (d := d) (t := t) (by omega) (y := y) (z := z) 60 0 0 f rfl rfl
            refine be_Ct (v := be_i 1) (a' := a') (b' := b') (e' := e') (f' := f') hI ?_ ?_ (fun c k j h1 h2 => by rw [ha']; simp (disch := omega) only [be_w3n]) (fun c j h1 h2 => by rw [he']; simp (disch := omega) only [be_gn]) (fun r => by rw [k2, if_neg (by omega)]) ?_
            · have h195 : am_sem X d 195 [.inr (7, 0), am_I (be_i ((t : Int))), am_I (be_i (y)), am_I (be_i (z))] (am_sd a b u e f) = some (some (am_I (be_i 1)), am_sd a' b' u e f) := by
                obtain ⟨d, rfl⟩ : ∃ q, d = q + 1 := ⟨d - 1, by omega⟩
                rw [am_s195]
                simp (disch := (first | assumption | omega | exact (be_gB _ _ _).1 | exact (be_gB _ _ _).2)) only [↓reduceIte, be_ofI, ↓be_ofN, ↓be_0, be_add, be_sub, be_mul, be_neg, be_rem, be_bi, be_bl, be_bv, be_br, be_bE0, be_bE1, be_b1E, be_b0E, be_bkb, be_cast, Int.toNat_natCast, Int.reduceToNat, be_lt, be_le, be_eq, be_nt, be_ck, be_nz, be_bk, be_div, not_true_eq_false, not_false_eq_true, if_true, if_false, eq_self, Int.reduceEq, Int.reduceLT, Int.reduceLE, Bool.true_eq_false, Bool.false_eq_true]
                rw [← ha']
                exact k1
              rw [am_s246]
              simp (disch := (first | assumption | omega | exact (be_gB _ _ _).1 | exact (be_gB _ _ _).2)) only [↓reduceIte, be_ofI, ↓be_ofN, ↓be_0, be_add, be_sub, be_mul, be_neg, be_rem, be_bi, be_bl, be_bv, be_br, be_bE0, be_bE1, be_b1E, be_b0E, be_bkb, be_cast, Int.toNat_natCast, Int.reduceToNat, be_lt, be_le, be_eq, be_nt, be_ck, be_nz, be_bk, be_div, not_true_eq_false, not_false_eq_true, if_true, if_false, eq_self, Int.reduceEq, Int.reduceLT, Int.reduceLE, Bool.true_eq_false, Bool.false_eq_true, c1, hm, c3, hz, hz0, h195, am_b246_8, am_b246_26, am_b246_33, am_b246_64]
            · rw [am_s106]
              simp (disch := (first | assumption | omega | exact (be_gB _ _ _).1 | exact (be_gB _ _ _).2)) only [↓reduceIte, be_ofI, ↓be_ofN, ↓be_0, be_add, be_sub, be_mul, be_neg, be_rem, be_bi, be_bl, be_bv, be_br, be_bE0, be_bE1, be_b1E, be_b0E, be_bkb, be_cast, Int.toNat_natCast, Int.reduceToNat, be_lt, be_le, be_eq, be_nt, be_ck, be_nz, be_bk, be_div, not_true_eq_false, not_false_eq_true, if_true, if_false, eq_self, Int.reduceEq, Int.reduceLT, Int.reduceLE, Bool.true_eq_false, Bool.false_eq_true, c2, c4, g0, g1, hz, hz0, am_b106_5, am_b106_17]
              rw [← he']
              exact m1
            · intro s hs
              obtain ⟨q1, q2, q3, q4, q5, q6, q7, q8⟩ := h6 s hs
              by_cases hst : s = t
              · subst hst
                have r1 : be_g e' 102 s = y := by rw [he', be_gn _ _ _ _ _ _ _ (by omega), be_gw _ _ _ _ _ (by omega) (by omega), if_pos ⟨rfl, rfl⟩]
                have r2 : be_g e' 103 s = z := by rw [he', be_gw _ _ _ _ _ (by omega) (by omega), if_pos ⟨rfl, rfl⟩]
                rw [r1, r2]
                refine ⟨by rw [ha']; simp (disch := omega) only [be_w3n, be_w3s], by omega, by omega, by rw [ha', be_w3s], by omega, by omega, fun h => by omega, fun k hk => ?_⟩
                rw [k2, if_pos (by omega), m2, if_pos (by omega)]
              · have r1 : be_g e' 102 s = be_g e 102 s := by rw [he']; simp (disch := omega) only [be_gn]
                have r2 : be_g e' 103 s = be_g e 103 s := by rw [he']; simp (disch := omega) only [be_gn]
                rw [r1, r2]
                refine ⟨by rw [ha']; simp (disch := omega) only [be_w3n]; exact q1, q2, q3, by rw [ha']; simp (disch := omega) only [be_w3n]; exact q4, q5, q6, q7, fun k hk => ?_⟩
                rw [k2, if_neg (by omega), m2, if_neg (by omega)]
                exact q8 k hk
          · refine be_Cp (v := be_i (-14)) hI ?_ ?_
            · rw [am_s246]
              simp (disch := (first | assumption | omega | exact (be_gB _ _ _).1 | exact (be_gB _ _ _).2)) only [↓reduceIte, be_ofI, ↓be_ofN, ↓be_0, be_add, be_sub, be_mul, be_neg, be_rem, be_bi, be_bl, be_bv, be_br, be_bE0, be_bE1, be_b1E, be_b0E, be_bkb, be_cast, Int.toNat_natCast, Int.reduceToNat, be_lt, be_le, be_eq, be_nt, be_ck, be_nz, be_bk, be_div, not_true_eq_false, not_false_eq_true, if_true, if_false, eq_self, Int.reduceEq, Int.reduceLT, Int.reduceLE, Bool.true_eq_false, Bool.false_eq_true, c1, hm, c3, hz, hz0, am_b246_8, am_b246_26, am_b246_33, am_b246_64]
            · rw [am_s106]
              simp (disch := (first | assumption | omega | exact (be_gB _ _ _).1 | exact (be_gB _ _ _).2)) only [↓reduceIte, be_ofI, ↓be_ofN, ↓be_0, be_add, be_sub, be_mul, be_neg, be_rem, be_bi, be_bl, be_bv, be_br, be_bE0, be_bE1, be_b1E, be_b0E, be_bkb, be_cast, Int.toNat_natCast, Int.reduceToNat, be_lt, be_le, be_eq, be_nt, be_ck, be_nz, be_bk, be_div, not_true_eq_false, not_false_eq_true, if_true, if_false, eq_self, Int.reduceEq, Int.reduceLT, Int.reduceLE, Bool.true_eq_false, Bool.false_eq_true, c2, c4, g0, g1, hz, hz0, am_b106_5, am_b106_17]
        · refine be_Cp (v := be_i (-2)) hI ?_ ?_
          · rw [am_s246]
            simp (disch := (first | assumption | omega | exact (be_gB _ _ _).1 | exact (be_gB _ _ _).2)) only [↓reduceIte, be_ofI, ↓be_ofN, ↓be_0, be_add, be_sub, be_mul, be_neg, be_rem, be_bi, be_bl, be_bv, be_br, be_bE0, be_bE1, be_b1E, be_b0E, be_bkb, be_cast, Int.toNat_natCast, Int.reduceToNat, be_lt, be_le, be_eq, be_nt, be_ck, be_nz, be_bk, be_div, not_true_eq_false, not_false_eq_true, if_true, if_false, eq_self, Int.reduceEq, Int.reduceLT, Int.reduceLE, Bool.true_eq_false, Bool.false_eq_true, c1, hm, c3, hz, am_b246_8, am_b246_26, am_b246_33, am_b246_64]
          · rw [am_s106]
            simp (disch := (first | assumption | omega | exact (be_gB _ _ _).1 | exact (be_gB _ _ _).2)) only [↓reduceIte, be_ofI, ↓be_ofN, ↓be_0, be_add, be_sub, be_mul, be_neg, be_rem, be_bi, be_bl, be_bv, be_br, be_bE0, be_bE1, be_b1E, be_b0E, be_bkb, be_cast, Int.toNat_natCast, Int.reduceToNat, be_lt, be_le, be_eq, be_nt, be_ck, be_nz, be_bk, be_div, not_true_eq_false, not_false_eq_true, if_true, if_false, eq_self, Int.reduceEq, Int.reduceLT, Int.reduceLE, Bool.true_eq_false, Bool.false_eq_true, c2, c4, g0, g1, hz, am_b106_5, am_b106_17]
      · rw [decide_eq_false hy] at c3
        rw [decide_eq_false (by omega)] at c4
        refine be_Cp (v := be_i (-2)) hI ?_ ?_
        · rw [am_s246]
          simp (disch := (first | assumption | omega | exact (be_gB _ _ _).1 | exact (be_gB _ _ _).2)) only [↓reduceIte, be_ofI, ↓be_ofN, ↓be_0, be_add, be_sub, be_mul, be_neg, be_rem, be_bi, be_bl, be_bv, be_br, be_bE0, be_bE1, be_b1E, be_b0E, be_bkb, be_cast, Int.toNat_natCast, Int.reduceToNat, be_lt, be_le, be_eq, be_nt, be_ck, be_nz, be_bk, be_div, not_true_eq_false, not_false_eq_true, if_true, if_false, eq_self, Int.reduceEq, Int.reduceLT, Int.reduceLE, Bool.true_eq_false, Bool.false_eq_true, c1, hm, c3, am_b246_8, am_b246_26, am_b246_33, am_b246_64]
        · rw [am_s106]
          simp (disch := (first | assumption | omega | exact (be_gB _ _ _).1 | exact (be_gB _ _ _).2)) only [↓reduceIte, be_ofI, ↓be_ofN, ↓be_0, be_add, be_sub, be_mul, be_neg, be_rem, be_bi, be_bl, be_bv, be_br, be_bE0, be_bE1, be_b1E, be_b0E, be_bkb, be_cast, Int.toNat_natCast, Int.reduceToNat, be_lt, be_le, be_eq, be_nt, be_ck, be_nz, be_bk, be_div, not_true_eq_false, not_false_eq_true, if_true, if_false, eq_self, Int.reduceEq, Int.reduceLT, Int.reduceLE, Bool.true_eq_false, Bool.false_eq_true, c2, c4, am_b106_5, am_b106_17]
  · rw [decide_eq_false hx] at c1 c2
    refine be_Cp (v := be_i (-1)) hI ?_ ?_
    · rw [am_s246]
      simp (disch := (first | assumption | omega | exact (be_gB _ _ _).1 | exact (be_gB _ _ _).2)) only [↓reduceIte, be_ofI, ↓be_ofN, ↓be_0, be_add, be_sub, be_mul, be_neg, be_rem, be_bi, be_bl, be_bv, be_br, be_bE0, be_bE1, be_b1E, be_b0E, be_bkb, be_cast, Int.toNat_natCast, Int.reduceToNat, be_lt, be_le, be_eq, be_nt, be_ck, be_nz, be_bk, be_div, not_true_eq_false, not_false_eq_true, if_true, if_false, eq_self, Int.reduceEq, Int.reduceLT, Int.reduceLE, Bool.true_eq_false, Bool.false_eq_true, c1, am_b246_8, am_b246_26, am_b246_33, am_b246_64]
    · rw [am_s106]
      simp (disch := (first | assumption | omega | exact (be_gB _ _ _).1 | exact (be_gB _ _ _).2)) only [↓reduceIte, be_ofI, ↓be_ofN, ↓be_0, be_add, be_sub, be_mul, be_neg, be_rem, be_bi, be_bl, be_bv, be_br, be_bE0, be_bE1, be_b1E, be_b0E, be_bkb, be_cast, Int.toNat_natCast, Int.reduceToNat, be_lt, be_le, be_eq, be_nt, be_ck, be_nz, be_bk, be_div, not_true_eq_false, not_false_eq_true, if_true, if_false, eq_self, Int.reduceEq, Int.reduceLT, Int.reduceLE, Bool.true_eq_false, Bool.false_eq_true, c2, am_b106_5]
def be_nw (s : Int) (v : Int64) : Int64 := if s = 0 then v.toInt32.toInt8.toInt32.toInt64 else if s = 1 then v.toInt32.toInt16.toInt32.toInt64 else if s = 2 then v.toInt32.toInt64 else if s = 3 then v else if v = Int64.ofNat 0 then Int64.ofNat 0 else Int64.ofNat 1
theorem be_m197 (hd : 2 ≤ d) {s : Int} {v : Int64} (h1 : 0 ≤ s) (h2 : s ≤ 4) : am_sem X d 197 [am_I (be_i (s)), am_J v] (am_sd a b u e f) = some (some (am_J (be_nw s v)), (am_sd a b u e f)) := by
  obtain ⟨d, rfl⟩ : ∃ q, d = q + 1 := ⟨d - 1, by omega⟩
  have b0 := be_m252 (X := X) (a := a) (b := b) (u := u) (e := e) (f := f) (d := d) (by omega) false
  have b1 := be_m252 (X := X) (a := a) (b := b) (u := u) (e := e) (f := f) (d := d) (by omega) true
  rw [be_bF] at b0
  rw [be_bT] at b1
  have z0 : (be_i 0).toInt64 = Int64.ofNat 0 := by decide +kernel
  have z1 : (be_i 1).toInt64 = Int64.ofNat 1 := by decide +kernel
  rw [am_s197]
  rcases (show s = 0 ∨ s = 1 ∨ s = 2 ∨ s = 3 ∨ s = 4 by omega) with rfl | rfl | rfl | rfl | rfl
  · simp (disch := (first | assumption | omega | exact (be_gB _ _ _).1 | exact (be_gB _ _ _).2)) only [↓reduceIte, be_ofI, ↓be_ofN, ↓be_0, be_add, be_sub, be_mul, be_neg, be_rem, be_bi, be_bl, be_bv, be_br, be_bE0, be_bE1, be_b1E, be_b0E, be_bkb, be_cast, Int.toNat_natCast, Int.reduceToNat, be_lt, be_le, be_eq, be_nt, be_ck, be_nz, be_bk, be_div, not_true_eq_false, not_false_eq_true, if_true, if_false, eq_self, Int.reduceEq, Int.reduceLT, Int.reduceLE, Bool.true_eq_false, Bool.false_eq_true]; rfl
  · simp (disch := (first | assumption | omega | exact (be_gB _ _ _).1 | exact (be_gB _ _ _).2)) only [↓reduceIte, be_ofI, ↓be_ofN, ↓be_0, be_add, be_sub, be_mul, be_neg, be_rem, be_bi, be_bl, be_bv, be_br, be_bE0, be_bE1, be_b1E, be_b0E, be_bkb, be_cast, Int.toNat_natCast, Int.reduceToNat, be_lt, be_le, be_eq, be_nt, be_ck, be_nz, be_bk, be_div, not_true_eq_false, not_false_eq_true, if_true, if_false, eq_self, Int.reduceEq, Int.reduceLT, Int.reduceLE, Bool.true_eq_false, Bool.false_eq_true]; rfl
  · simp (disch := (first | assumption | omega | exact (be_gB _ _ _).1 | exact (be_gB _ _ _).2)) only [↓reduceIte, be_ofI, ↓be_ofN, ↓be_0, be_add, be_sub, be_mul, be_neg, be_rem, be_bi, be_bl, be_bv, be_br, be_bE0, be_bE1, be_b1E, be_b0E, be_bkb, be_cast, Int.toNat_natCast, Int.reduceToNat, be_lt, be_le, be_eq, be_nt, be_ck, be_nz, be_bk, be_div, not_true_eq_false, not_false_eq_true, if_true, if_false, eq_self, Int.reduceEq, Int.reduceLT, Int.reduceLE, Bool.true_eq_false, Bool.false_eq_true]; rfl
  · simp (disch := (first | assumption | omega | exact (be_gB _ _ _).1 | exact (be_gB _ _ _).2)) only [↓reduceIte, be_ofI, ↓be_ofN, ↓be_0, be_add, be_sub, be_mul, be_neg, be_rem, be_bi, be_bl, be_bv, be_br, be_bE0, be_bE1, be_b1E, be_b0E, be_bkb, be_cast, Int.toNat_natCast, Int.reduceToNat, be_lt, be_le, be_eq, be_nt, be_ck, be_nz, be_bk, be_div, not_true_eq_false, not_false_eq_true, if_true, if_false, eq_self, Int.reduceEq, Int.reduceLT, Int.reduceLE, Bool.true_eq_false, Bool.false_eq_true]; rfl
  · simp (disch := (first | assumption | omega | exact (be_gB _ _ _).1 | exact (be_gB _ _ _).2)) only [↓reduceIte, be_ofI, ↓be_ofN, ↓be_0, be_add, be_sub, be_mul, be_neg, be_rem, be_bi, be_bl, be_bv, be_br, be_bE0, be_bE1, be_b1E, be_b0E, be_bkb, be_cast, Int.toNat_natCast, Int.reduceToNat, be_lt, be_le, be_eq, be_nt, be_ck, be_nz, be_bk, be_div, not_true_eq_false, not_false_eq_true, if_true, if_false, eq_self, Int.reduceEq, Int.reduceLT, Int.reduceLE, Bool.true_eq_false, Bool.false_eq_true, b0, b1, be_cmp0, z0, z1, am_b197_62]
    have : be_nw 4 v = if v = Int64.ofNat 0 then Int64.ofNat 0 else Int64.ofNat 1 := rfl
    rw [this]
    split <;> rfl
theorem be_m107 (hd : 1 ≤ d) {s : Int} {v : Int64} (h1 : 0 ≤ s) (h2 : s ≤ 4) : am_sem X d 107 [.inr (50, 0), am_I (be_i (s)), am_J v] (am_sd a b u e f) = some (some (am_J (be_nw s v)), (am_sd a b u e f)) := by
  obtain ⟨d, rfl⟩ : ∃ q, d = q + 1 := ⟨d - 1, by omega⟩
  rw [am_s107]
  rcases (show s = 0 ∨ s = 1 ∨ s = 2 ∨ s = 3 ∨ s = 4 by omega) with rfl | rfl | rfl | rfl | rfl
  · simp (disch := (first | assumption | omega | exact (be_gB _ _ _).1 | exact (be_gB _ _ _).2)) only [↓reduceIte, be_ofI, ↓be_ofN, ↓be_0, be_add, be_sub, be_mul, be_neg, be_rem, be_bi, be_bl, be_bv, be_br, be_bE0, be_bE1, be_b1E, be_b0E, be_bkb, be_cast, Int.toNat_natCast, Int.reduceToNat, be_lt, be_le, be_eq, be_nt, be_ck, be_nz, be_bk, be_div, not_true_eq_false, not_false_eq_true, if_true, if_false, eq_self, Int.reduceEq, Int.reduceLT, Int.reduceLE, Bool.true_eq_false, Bool.false_eq_true]; rfl
  · simp (disch := (first | assumption | omega | exact (be_gB _ _ _).1 | exact (be_gB _ _ _).2)) only [↓reduceIte, be_ofI, ↓be_ofN, ↓be_0, be_add, be_sub, be_mul, be_neg, be_rem, be_bi, be_bl, be_bv, be_br, be_bE0, be_bE1, be_b1E, be_b0E, be_bkb, be_cast, Int.toNat_natCast, Int.reduceToNat, be_lt, be_le, be_eq, be_nt, be_ck, be_nz, be_bk, be_div, not_true_eq_false, not_false_eq_true, if_true, if_false, eq_self, Int.reduceEq, Int.reduceLT, Int.reduceLE, Bool.true_eq_false, Bool.false_eq_true]; rfl
  · simp (disch := (first | assumption | omega | exact (be_gB _ _ _).1 | exact (be_gB _ _ _).2)) only [↓reduceIte, be_ofI, ↓be_ofN, ↓be_0, be_add, be_sub, be_mul, be_neg, be_rem, be_bi, be_bl, be_bv, be_br, be_bE0, be_bE1, be_b1E, be_b0E, be_bkb, be_cast, Int.toNat_natCast, Int.reduceToNat, be_lt, be_le, be_eq, be_nt, be_ck, be_nz, be_bk, be_div, not_true_eq_false, not_false_eq_true, if_true, if_false, eq_self, Int.reduceEq, Int.reduceLT, Int.reduceLE, Bool.true_eq_false, Bool.false_eq_true]; rfl
  · simp (disch := (first | assumption | omega | exact (be_gB _ _ _).1 | exact (be_gB _ _ _).2)) only [↓reduceIte, be_ofI, ↓be_ofN, ↓be_0, be_add, be_sub, be_mul, be_neg, be_rem, be_bi, be_bl, be_bv, be_br, be_bE0, be_bE1, be_b1E, be_b0E, be_bkb, be_cast, Int.toNat_natCast, Int.reduceToNat, be_lt, be_le, be_eq, be_nt, be_ck, be_nz, be_bk, be_div, not_true_eq_false, not_false_eq_true, if_true, if_false, eq_self, Int.reduceEq, Int.reduceLT, Int.reduceLE, Bool.true_eq_false, Bool.false_eq_true]; rfl
  · simp (disch := (first | assumption | omega | exact (be_gB _ _ _).1 | exact (be_gB _ _ _).2)) only [↓reduceIte, be_ofI, ↓be_ofN, ↓be_0, be_add, be_sub, be_mul, be_neg, be_rem, be_bi, be_bl, be_bv, be_br, be_bE0, be_bE1, be_b1E, be_b0E, be_bkb, be_cast, Int.toNat_natCast, Int.reduceToNat, be_lt, be_le, be_eq, be_nt, be_ck, be_nz, be_bk, be_div, not_true_eq_false, not_false_eq_true, if_true, if_false, eq_self, Int.reduceEq, Int.reduceLT, Int.reduceLE, Bool.true_eq_false, Bool.false_eq_true, be_cmp0]
    have : be_nw 4 v = if v = Int64.ofNat 0 then Int64.ofNat 0 else Int64.ofNat 1 := rfl
    rw [this]
    split <;> rfl
theorem be_citem (hd : 12 ≤ d) (hI : be_IV a b u e f) {x y : Int} {v : Int64} (hx1 : -2147483648 ≤ x) (hx2 : x < 2147483648) (hy1 : -2147483648 ≤ y) (hy2 : y < 2147483648) : be_C X d 247 108 [am_I (be_i (x)), am_I (be_i (y)), am_J v] a b u e f := by
  obtain ⟨d, rfl⟩ : ∃ q, d = q + 1 := ⟨d - 1, by omega⟩
  have he := be_gI e
  have h6 := hI.2.2.2.2.2.1
  have c1 := be_m189 (X := X) (a := a) (b := b) (u := u) (e := e) (f := f) (d := d) (x := x) (by omega) hx1 hx2
  have c2 := fun b' => be_m105 (X := X) (a := a) (b := b') (u := u) (e := e) (f := f) (d := d) (x := x) (by omega) hx1 hx2
  by_cases hx : 0 ≤ x ∧ x ≤ 5
  · rw [decide_eq_true hx] at c1 c2
    obtain ⟨t, rfl⟩ := be_0le hx.1
    obtain ⟨q1, q2, q3, q4, q5, q6, q7, q8⟩ := h6 t (by omega)
    have c3 := be_m190 (X := X) (a := a) (b := b) (u := u) (e := e) (f := f) (d := d) (t := t) (by omega) h6 (by omega)
    have c4 := be_m192 (X := X) (a := a) (b := b) (u := u) (e := e) (f := f) (d := d) (t := t) (x := y) (by omega) h6 (by omega) hy1 hy2
    have c5 := fun b' => be_m1 (X := X) (a := a) (b := b') (u := u) (e := e) (f := f) (d := d) (x := y) (y := 0) (z := be_g e 103 t - 1) (by omega) hy1 hy2 (by decide) (by decide) (by omega) (by omega)
    by_cases hs : be_g e 102 t = -1
    · rw [decide_eq_true hs] at c3
      refine be_Cp (v := be_i (-11)) hI ?_ ?_
      · rw [am_s247]
        simp (disch := (first | assumption | omega | exact (be_gB _ _ _).1 | exact (be_gB _ _ _).2)) only [↓reduceIte, be_ofI, ↓be_ofN, ↓be_0, be_add, be_sub, be_mul, be_neg, be_rem, be_bi, be_bl, be_bv, be_br, be_bE0, be_bE1, be_b1E, be_b0E, be_bkb, be_cast, Int.toNat_natCast, Int.reduceToNat, be_lt, be_le, be_eq, be_nt, be_ck, be_nz, be_bk, be_div, not_true_eq_false, not_false_eq_true, if_true, if_false, eq_self, Int.reduceEq, Int.reduceLT, Int.reduceLE, Bool.true_eq_false, Bool.false_eq_true, c1, c3, am_b247_8, am_b247_21, am_b247_36, am_b247_49]
      · rw [am_s108]
        simp (disch := (first | assumption | omega | exact (be_gB _ _ _).1 | exact (be_gB _ _ _).2)) only [↓reduceIte, be_ofI, ↓be_ofN, ↓be_0, be_add, be_sub, be_mul, be_neg, be_rem, be_bi, be_bl, be_bv, be_br, be_bE0, be_bE1, be_b1E, be_b0E, be_bkb, be_cast, Int.toNat_natCast, Int.reduceToNat, be_lt, be_le, be_eq, be_nt, be_ck, be_nz, be_bk, be_div, not_true_eq_false, not_false_eq_true, if_true, if_false, eq_self, Int.reduceEq, Int.reduceLT, Int.reduceLE, Bool.true_eq_false, Bool.false_eq_true, he, c2, hs, am_b108_5]
    · rw [decide_eq_false hs] at c3
      have g0 : 0 ≤ be_g e 102 t := by omega
      by_cases hy : 0 ≤ y ∧ y < be_g e 103 t
      · rw [decide_eq_true hy] at c4
        rw [decide_eq_true (by omega)] at c5
        obtain ⟨k, rfl⟩ := be_0le hy.1
        have hn : (60 * (t : Int) + (k : Int)).toNat = 60 * t + k := by omega
        have v1 := fun b' => be_m107 (X := X) (a := a) (b := b') (u := u) (e := e) (f := f) (d := d) (v := v) (by omega) g0 q3
        have hput : am_sem X d 196 [.inr (7, 0), am_I (be_i ((t : Int))), am_I (be_i ((k : Int))), am_J v] (am_sd a b u e f) = some (some (am_I (be_i 1)), am_sd a (am_w3 b 21 t k (be_nw (be_g e 102 t) v)) u e f) := by
          obtain ⟨d, rfl⟩ : ∃ q, d = q + 1 := ⟨d - 1, by omega⟩
          have v2 := be_m197 (X := X) (a := a) (b := b) (u := u) (e := e) (f := f) (d := d) (v := v) (by omega) g0 q3
          rw [am_s196]
          simp (disch := (first | assumption | omega | exact (be_gB _ _ _).1 | exact (be_gB _ _ _).2)) only [↓reduceIte, be_ofI, ↓be_ofN, ↓be_0, be_add, be_sub, be_mul, be_neg, be_rem, be_bi, be_bl, be_bv, be_br, be_bE0, be_bE1, be_b1E, be_b0E, be_bkb, be_cast, Int.toNat_natCast, Int.reduceToNat, be_lt, be_le, be_eq, be_nt, be_ck, be_nz, be_bk, be_div, not_true_eq_false, not_false_eq_true, if_true, if_false, eq_self, Int.reduceEq, Int.reduceLT, Int.reduceLE, Bool.true_eq_false, Bool.false_eq_true, q1, v2, am_b196_17]
        refine be_Ct (v := be_i 1) (a' := a) (b' := am_w3 b 21 t k (be_nw (be_g e 102 t) v)) (e' := e) (f' := am_w3 f 104 0 (60 * t + k) (be_nw (be_g e 102 t) v)) hI ?_ ?_ (fun _ _ _ _ _ => rfl) (fun _ _ _ _ => rfl) (fun r => be_w3n _ _ _ _ _ _ _ _ (by omega)) ?_
        · rw [am_s247]
          simp (disch := (first | assumption | omega | exact (be_gB _ _ _).1 | exact (be_gB _ _ _).2)) only [↓reduceIte, be_ofI, ↓be_ofN, ↓be_0, be_add, be_sub, be_mul, be_neg, be_rem, be_bi, be_bl, be_bv, be_br, be_bE0, be_bE1, be_b1E, be_b0E, be_bkb, be_cast, Int.toNat_natCast, Int.reduceToNat, be_lt, be_le, be_eq, be_nt, be_ck, be_nz, be_bk, be_div, not_true_eq_false, not_false_eq_true, if_true, if_false, eq_self, Int.reduceEq, Int.reduceLT, Int.reduceLE, Bool.true_eq_false, Bool.false_eq_true, c1, c3, c4, hput, am_b247_8, am_b247_21, am_b247_36, am_b247_49]
        · rw [am_s108]
          simp (disch := (first | assumption | omega | exact (be_gB _ _ _).1 | exact (be_gB _ _ _).2)) only [↓reduceIte, be_ofI, ↓be_ofN, ↓be_0, be_add, be_sub, be_mul, be_neg, be_rem, be_bi, be_bl, be_bv, be_br, be_bE0, be_bE1, be_b1E, be_b0E, be_bkb, be_cast, Int.toNat_natCast, Int.reduceToNat, be_lt, be_le, be_eq, be_nt, be_ck, be_nz, be_bk, be_div, not_true_eq_false, not_false_eq_true, if_true, if_false, eq_self, Int.reduceEq, Int.reduceLT, Int.reduceLE, Bool.true_eq_false, Bool.false_eq_true, he, c2, g0, c5, v1, hn, am_b108_5, am_b108_36, am_b108_63]
        · intro s hs
          obtain ⟨y1, y2, y3, y4, y5, y6, y7, y8⟩ := h6 s hs
          refine ⟨y1, y2, y3, y4, y5, y6, y7, fun j hj => ?_⟩
          by_cases hst : s = t ∧ j = k
          · obtain ⟨rfl, rfl⟩ := hst; rw [be_w3s, be_w3s]
          · rw [be_w3n _ _ _ _ _ _ _ _ (by omega), be_w3n _ _ _ _ _ _ _ _ (by omega)]; exact y8 j hj
      · rw [decide_eq_false hy] at c4
        rw [decide_eq_false (by omega)] at c5
        refine be_Cp (v := be_i (-13)) hI ?_ ?_
        · rw [am_s247]
          simp (disch := (first | assumption | omega | exact (be_gB _ _ _).1 | exact (be_gB _ _ _).2)) only [↓reduceIte, be_ofI, ↓be_ofN, ↓be_0, be_add, be_sub, be_mul, be_neg, be_rem, be_bi, be_bl, be_bv, be_br, be_bE0, be_bE1, be_b1E, be_b0E, be_bkb, be_cast, Int.toNat_natCast, Int.reduceToNat, be_lt, be_le, be_eq, be_nt, be_ck, be_nz, be_bk, be_div, not_true_eq_false, not_false_eq_true, if_true, if_false, eq_self, Int.reduceEq, Int.reduceLT, Int.reduceLE, Bool.true_eq_false, Bool.false_eq_true, c1, c3, c4, am_b247_8, am_b247_21, am_b247_36, am_b247_49]
        · rw [am_s108]
          simp (disch := (first | assumption | omega | exact (be_gB _ _ _).1 | exact (be_gB _ _ _).2)) only [↓reduceIte, be_ofI, ↓be_ofN, ↓be_0, be_add, be_sub, be_mul, be_neg, be_rem, be_bi, be_bl, be_bv, be_br, be_bE0, be_bE1, be_b1E, be_b0E, be_bkb, be_cast, Int.toNat_natCast, Int.reduceToNat, be_lt, be_le, be_eq, be_nt, be_ck, be_nz, be_bk, be_div, not_true_eq_false, not_false_eq_true, if_true, if_false, eq_self, Int.reduceEq, Int.reduceLT, Int.reduceLE, Bool.true_eq_false, Bool.false_eq_true, he, c2, g0, c5, am_b108_5, am_b108_36, am_b108_63]
  · rw [decide_eq_false hx] at c1 c2
    refine be_Cp (v := be_i (-1)) hI ?_ ?_
    · rw [am_s247]
      simp (disch := (first | assumption | omega | exact (be_gB _ _ _).1 | exact (be_gB _ _ _).2)) only [↓reduceIte, be_ofI, ↓be_ofN, ↓be_0, be_add, be_sub, be_mul, be_neg, be_rem, be_bi, be_bl, be_bv, be_br, be_bE0, be_bE1, be_b1E, be_b0E, be_bkb, be_cast, Int.toNat_natCast, Int.reduceToNat, be_lt, be_le, be_eq, be_nt, be_ck, be_nz, be_bk, be_div, not_true_eq_false, not_false_eq_true, if_true, if_false, eq_self, Int.reduceEq, Int.reduceLT, Int.reduceLE, Bool.true_eq_false, Bool.false_eq_true, c1, am_b247_8, am_b247_21, am_b247_36, am_b247_49]
    · rw [am_s108]
      simp (disch := (first | assumption | omega | exact (be_gB _ _ _).1 | exact (be_gB _ _ _).2)) only [↓reduceIte, be_ofI, ↓be_ofN, ↓be_0, be_add, be_sub, be_mul, be_neg, be_rem, be_bi, be_bl, be_bv, be_br, be_bE0, be_bE1, be_b1E, be_b0E, be_bkb, be_cast, Int.toNat_natCast, Int.reduceToNat, be_lt, be_le, be_eq, be_nt, be_ck, be_nz, be_bk, be_div, not_true_eq_false, not_false_eq_true, if_true, if_false, eq_self, Int.reduceEq, Int.reduceLT, Int.reduceLE, Bool.true_eq_false, Bool.false_eq_true, c2, am_b108_5]
