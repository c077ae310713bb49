/-! CALLS, 16: where (printed by g88.py) -/
variable {d : Nat} {X : am_X} {a : Nat → Nat → Nat → Int32} {b : Nat → Nat → Nat → Int64} {u : Nat → Nat} {e : Nat → Nat → Nat → Int32} {f : Nat → Nat → Nat → Int64}
theorem be_or16 : ∀ r, r < 4 → ∀ s : Nat, s < 2 ^ r → ∀ c : Bool, be_i ((s : Int) + 16 * be_b c) ||| be_i ((2 ^ r : Nat) : Int) = be_i (((s + 2 ^ r : Nat) : Int) + 16 * be_b c) := by
  intro r hr
  rcases (show r = 0 ∨ r = 1 ∨ r = 2 ∨ r = 3 by omega) with rfl | rfl | rfl | rfl <;> decide +kernel
theorem be_bs_min (Q : Nat → Bool) (n : Nat) : ∀ k, be_bs (fun i => decide (i < n) && Q i) k = be_bs Q (min k n)
  | 0 => by rw [Nat.zero_min]; rfl
  | k + 1 => by
    rw [be_bs, be_bs_min Q n k]
    by_cases h : k < n
    · rw [decide_eq_true h, Bool.true_and, Nat.min_eq_left (by omega), Nat.min_eq_left (by omega)]; rfl
    · rw [decide_eq_false h, Nat.min_eq_right (by omega), Nat.min_eq_right (by omega)]; rfl
def be_wq (e : Nat → Nat → Nat → Int32) (h r : Nat) : Bool := be_as (am_w3 e 57 0 h (be_i (r : Int))) (be_g (am_w3 e 57 0 h (be_i (r : Int))) 50 3) (be_ns (am_w3 e 57 0 h (be_i (r : Int))))
theorem be_cwhere (hd : 12 ≤ d) (hI : be_IV a b u e f) {x : Int} (hx1 : -2147483648 ≤ x) (hx2 : x < 2147483648) : be_C X d 231 81 [am_I (be_i (x))] a b u e f := by
  obtain ⟨d, rfl⟩ : ∃ q, d = q + 1 := ⟨d - 1, by omega⟩
  have he := be_gI e
  obtain ⟨hW, hW2, hT, hh, hD, hth, hX⟩ := hI.1
  have hW1 := hW.1
  obtain ⟨nr, nr2⟩ := be_nrR hW
  have c1 := be_hasH (X := X) (a := a) (b := b) (u := u) (e := e) (f := f) (d := d) (x := x) (by omega) hI hx1 hx2
  have c2 := fun a' u' => be_m6 (X := X) (a := a') (b := b) (u := u') (e := e) (f := f) (d := d) (x := x) (by omega) hx1 hx2 (by omega)
  by_cases hx : 0 ≤ x ∧ x ≤ be_g e 50 2 - 1
  · rw [decide_eq_true hx] at c1 c2
    obtain ⟨h, rfl⟩ := be_0le hx.1
    have hnh : h < be_nh e := by have := be_nhR hW; omega
    have hnt : (h : Int).toNat = h := rfl
    have y := hW.2.1 h (by omega)
    obtain ⟨a', u', t1, t2, t3, t4⟩ := be_tri (X := X) (a := a) (b := b) (u := u) (e := e) (f := f) (d := d) (by omega) hI
    have hHR := t2.1.2.2.2.2.2.1 h hnh
    have step : ∀ r : Nat, r = 4 ∨ r < be_nr e → be_W (am_w3 e 57 0 h (be_i (r : Int))) ∧ be_W2 (am_w3 e 57 0 h (be_i (r : Int))) ∧ be_T3 (am_w3 e 57 0 h (be_i (r : Int))) ∧ be_HX (am_w3 a' 1 (h + 12) 6 (be_i (if (r : Int) = 4 then -5 else (r : Int)))) u' 2 (am_w3 e 57 0 h (be_i (r : Int))) ∧ be_g (am_w3 e 57 0 h (be_i (r : Int))) 50 3 = be_g e 50 3 ∧ be_g (am_w3 e 57 0 h (be_i (r : Int))) 50 0 = be_g e 50 0 := by
      intro r hr
      obtain ⟨e3, he3⟩ : ∃ e3, e3 = am_w3 e 57 0 h (be_i (r : Int)) := ⟨_, rfl⟩
      obtain ⟨a3, ha3⟩ : ∃ a3, a3 = am_w3 a' 1 (h + 12) 6 (be_i (if (r : Int) = 4 then -5 else (r : Int))) := ⟨_, rfl⟩
      rw [← he3, ← ha3]
      have q3 : ∀ c j, ¬ ((c = 53 ∨ c = 57) ∧ j = h) → be_g e3 c j = be_g e c j := fun c j h => by rw [he3]; exact be_gn _ _ _ _ _ _ _ (by omega)
      have r3 : be_g e3 53 h = be_g e 53 h := by rw [he3]; exact be_gn _ _ _ _ _ _ _ (by omega)
      have r7 : be_g e3 57 h = (r : Int) := by rw [he3, be_gw _ _ _ _ _ (by omega) (by omega), if_pos ⟨rfl, rfl⟩]
      have p3 : ∀ c k j, ¬ (c = 1 ∧ k = h + 6 * 2 ∧ (j = 2 ∨ j = 6)) → a3 c k j = a' c k j := fun c k j h => by rw [ha3]; exact be_w3n _ _ _ _ _ _ _ _ (by omega)
      obtain ⟨v1, v2, v3, v4⟩ := be_HXh (e' := e3) (a' := a3) (i := 2) (h := h) (by decide) hnh q3 (by omega) (by omega) hW hW2 hT t2 p3 (by
        rw [r3, ha3, be_w3n _ _ _ _ _ _ _ _ (by omega)]; exact hHR.2.2.1) (by rw [r7, ha3]; exact be_w3s _ _ _ _ _)
      exact ⟨v1, v2, v3, v4, q3 _ _ (by omega), q3 _ _ (by omega)⟩
    have s1 : ∀ r : Nat, r = 4 ∨ r < be_nr e → am_sem X d 156 [.inr (2, 2)] (am_sd (am_w3 a' 1 (h + 12) 6 (be_i (if (r : Int) = 4 then -5 else (r : Int)))) b u' e f) = some (some (am_I (be_i (be_b (be_wq e h r)))), am_sd (am_w3 a' 1 (h + 12) 6 (be_i (if (r : Int) = 4 then -5 else (r : Int)))) b u' e f) := by
      intro r hr
      obtain ⟨v1, v2, v3, v4, d3, -⟩ := step r hr
      exact be_n156 (X := X) (b := b) (u := u') (e0 := e) (f := f) (d := d) (i := 2) (by omega) v1 v2 v3.1 (by omega) (by decide) v4
    have s2 : ∀ (r : Nat) a0, r = 4 ∨ r < be_nr e → am_sem X d 79 [.inr (50, 0)] (am_sd a0 b u' (am_w3 e 57 0 h (be_i (r : Int))) f) = some (some (am_I (be_i (be_b (be_wq e h r)))), am_sd a0 b u' (am_w3 e 57 0 h (be_i (r : Int))) f) := by
      intro r a0 hr
      obtain ⟨v1, v2, v3, v4, d3, -⟩ := step r hr
      exact be_m79 (X := X) (a := a0) (b := b) (u := u') (f := f) (d := d) (by omega) v1 v2 v3.1 (by omega)
    have key1 : ∀ (n k : Nat) (z : Int) (c : Bool) (s : Nat) (p : Int32), k + n = be_nr e → z = (k : Int) → s = be_bs (be_wq e h) k → ∃ q, am_fix (am_sem X d) X am_P231 57 [.inr (9, 0), am_I (be_i ((h : Int))), am_I (be_i ((s : Int) + 16 * be_b c)), am_I (be_i (z))] [] (am_sd (am_w3 a' 1 (h + 12) 6 p) b u' e f) = some (some (am_I (be_i ((be_bs (be_wq e h) (be_nr e) : Int) + 16 * be_b c))), am_sd (am_w3 a' 1 (h + 12) 6 q) b u' e f) := by
      intro n
      induction n with
      | zero =>
        rintro k z c s p hk rfl rfl
        obtain rfl : k = be_nr e := hk
        refine ⟨p, ?_⟩
        have o2 : am_w3 a' 1 (h + 12) 6 p 2 0 2 = be_i (be_nr e : Int) := by rw [be_w3n _ _ _ _ _ _ _ _ (by omega), t3.1 _ _ _ (by unfold be_inH; omega), hX.1.1, nr2]
        rw [am_b231_57]
        simp (disch := (first | assumption | omega | exact (be_gB _ _ _).1 | exact (be_gB _ _ _).2)) only [↓reduceIte, be_ofI, ↓be_ofN, ↓be_0, be_add, be_sub, be_mul, be_neg, be_rem, be_bi, be_bl, be_bv, be_br, be_bE0, be_bE1, be_b1E, be_b0E, be_bkb, be_cast, Int.toNat_natCast, Int.reduceToNat, be_lt, be_le, be_eq, be_nt, be_ck, be_nz, be_bk, be_div, o2, Int.le_refl]
      | succ n ih =>
        rintro k z c s p hk rfl rfl
        have o2 : am_w3 a' 1 (h + 12) 6 p 2 0 2 = be_i (be_nr e : Int) := by rw [be_w3n _ _ _ _ _ _ _ _ (by omega), t3.1 _ _ _ (by unfold be_inH; omega), hX.1.1, nr2]
        have w : ¬ (be_nr e : Int) ≤ (k : Int) := by omega
        have ss := s1 k (by omega)
        rw [if_neg (show ¬ (k : Int) = 4 by omega)] at ss
        have hl := be_bs_lt (be_wq e h) k
        have hs : be_bs (be_wq e h) (k + 1) = be_bs (be_wq e h) k + (bif be_wq e h k then 2 ^ k else 0) := rfl
        cases hB : be_wq e h k with
        | false =>
          rw [hB] at ss hs
          obtain ⟨q, hq⟩ := ih (k + 1) ((k : Int) + 1) c (be_bs (be_wq e h) k) (be_i (k : Int)) (by omega) (by omega) hs.symm
          refine ⟨q, ?_⟩
          rw [am_b231_57]
          simp (disch := (first | assumption | omega | exact (be_gB _ _ _).1 | exact (be_gB _ _ _).2)) only [↓reduceIte, be_ofI, ↓be_ofN, ↓be_0, be_add, be_sub, be_mul, be_neg, be_rem, be_bi, be_bl, be_bv, be_br, be_bE0, be_bE1, be_b1E, be_b0E, be_bkb, be_cast, Int.toNat_natCast, Int.reduceToNat, be_lt, be_le, be_eq, be_nt, be_ck, be_nz, be_bk, be_div, not_true_eq_false, not_false_eq_true, if_true, if_false, eq_self, Int.reduceEq, Int.reduceLT, Int.reduceLE, Bool.true_eq_false, Bool.false_eq_true, o2, w, be_ww, hnt]
          rw [ss, be_bi, am_b231_88]
          simp (disch := (first | assumption | omega | exact (be_gB _ _ _).1 | exact (be_gB _ _ _).2)) only [↓reduceIte, be_ofI, ↓be_ofN, ↓be_0, be_add, be_sub, be_mul, be_neg, be_rem, be_bi, be_bl, be_bv, be_br, be_bE0, be_bE1, be_b1E, be_b0E, be_bkb, be_cast, Int.toNat_natCast, Int.reduceToNat, be_lt, be_le, be_eq, be_nt, be_ck, be_nz, be_bk, be_div, not_true_eq_false, not_false_eq_true, if_true, if_false, eq_self, Int.reduceEq, Int.reduceLT, Int.reduceLE, Bool.true_eq_false, Bool.false_eq_true]
          exact hq
        | true =>
          rw [hB] at ss hs
          obtain ⟨q, hq⟩ := ih (k + 1) ((k : Int) + 1) c (be_bs (be_wq e h) k + 2 ^ k) (be_i (k : Int)) (by omega) (by omega) hs.symm
          refine ⟨q, ?_⟩
          rw [am_b231_57]
          simp (disch := (first | assumption | omega | exact (be_gB _ _ _).1 | exact (be_gB _ _ _).2)) only [↓reduceIte, be_ofI, ↓be_ofN, ↓be_0, be_add, be_sub, be_mul, be_neg, be_rem, be_bi, be_bl, be_bv, be_br, be_bE0, be_bE1, be_b1E, be_b0E, be_bkb, be_cast, Int.toNat_natCast, Int.reduceToNat, be_lt, be_le, be_eq, be_nt, be_ck, be_nz, be_bk, be_div, not_true_eq_false, not_false_eq_true, if_true, if_false, eq_self, Int.reduceEq, Int.reduceLT, Int.reduceLE, Bool.true_eq_false, Bool.false_eq_true, o2, w, be_ww, hnt]
          rw [ss, be_bi, am_b231_88]
          simp (disch := (first | assumption | omega | exact (be_gB _ _ _).1 | exact (be_gB _ _ _).2)) only [↓reduceIte, be_ofI, ↓be_ofN, ↓be_0, be_add, be_sub, be_mul, be_neg, be_rem, be_bi, be_bl, be_bv, be_br, be_bE0, be_bE1, be_b1E, be_b0E, be_bkb, be_cast, Int.toNat_natCast, Int.reduceToNat, be_lt, be_le, be_eq, be_nt, be_ck, be_nz, be_bk, be_div, not_true_eq_false, not_false_eq_true, if_true, if_false, eq_self, Int.reduceEq, Int.reduceLT, Int.reduceLE, Bool.true_eq_false, Bool.false_eq_true]
          rw [be_31, be_shl (by omega), be_or16 k (by omega) _ hl]
          exact hq
    have key2 : ∀ (n k : Nat) (z : Int) (s : Nat) (a0 : Nat → Nat → Nat → Int32) (p : Int32), k + n = 4 → z = (k : Int) → s = be_bs (fun i => decide (i < be_nr e) && be_wq e h i) k → am_fix (am_sem X d) X am_P81 22 [.inr (50, 0), am_I (be_i ((h : Int))), am_I (e 57 0 h), am_I (be_i ((s : Int))), am_I (be_i (z))] [] (am_sd a0 b u' (am_w3 e 57 0 h p) f) = some (some (am_I (be_i ((be_bs (fun i => decide (i < be_nr e) && be_wq e h i) 4 : Int) + 16 * be_b (be_wq e h 4)))), am_sd a0 b u' e f) := by
      intro n
      induction n with
      | zero =>
        rintro k z s a0 p hk rfl rfl
        obtain rfl : k = 4 := hk
        have back : ∀ q, am_w3 (am_w3 e 57 0 h q) 57 0 h (e 57 0 h) = e := fun q => by rw [be_ww]; exact be_wid rfl
        have hl := be_bs_lt (fun i => decide (i < be_nr e) && be_wq e h i) 4
        have ss := s2 4 a0 (Or.inl rfl)
        cases hB : be_wq e h 4 with
        | false =>
          rw [hB] at ss
          rw [am_b81_22]
          simp (disch := (first | assumption | omega | exact (be_gB _ _ _).1 | exact (be_gB _ _ _).2)) only [↓reduceIte, be_ofI, ↓be_ofN, ↓be_0, be_add, be_sub, be_mul, be_neg, be_rem, be_bi, be_bl, be_bv, be_br, be_bE0, be_bE1, be_b1E, be_b0E, be_bkb, be_cast, Int.toNat_natCast, Int.reduceToNat, be_lt, be_le, be_eq, be_nt, be_ck, be_nz, be_bk, be_div, not_true_eq_false, not_false_eq_true, if_true, if_false, eq_self, Int.reduceEq, Int.reduceLT, Int.reduceLE, Bool.true_eq_false, Bool.false_eq_true, be_ww, hnt]
          rw [ss, be_bi, am_b81_56]
          simp (disch := (first | assumption | omega | exact (be_gB _ _ _).1 | exact (be_gB _ _ _).2)) only [↓reduceIte, be_ofI, ↓be_ofN, ↓be_0, be_add, be_sub, be_mul, be_neg, be_rem, be_bi, be_bl, be_bv, be_br, be_bE0, be_bE1, be_b1E, be_b0E, be_bkb, be_cast, Int.toNat_natCast, Int.reduceToNat, be_lt, be_le, be_eq, be_nt, be_ck, be_nz, be_bk, be_div, not_true_eq_false, not_false_eq_true, if_true, if_false, eq_self, Int.reduceEq, Int.reduceLT, Int.reduceLE, Bool.true_eq_false, Bool.false_eq_true, be_or0]
          rw [am_b81_22]
          simp (disch := (first | assumption | omega | exact (be_gB _ _ _).1 | exact (be_gB _ _ _).2)) only [↓reduceIte, be_ofI, ↓be_ofN, ↓be_0, be_add, be_sub, be_mul, be_neg, be_rem, be_bi, be_bl, be_bv, be_br, be_bE0, be_bE1, be_b1E, be_b0E, be_bkb, be_cast, Int.toNat_natCast, Int.reduceToNat, be_lt, be_le, be_eq, be_nt, be_ck, be_nz, be_bk, be_div, not_true_eq_false, not_false_eq_true, if_true, if_false, eq_self, Int.reduceEq, Int.reduceLT, Int.reduceLE, Bool.true_eq_false, Bool.false_eq_true, back, hnt]
          rfl
        | true =>
          rw [hB] at ss
          rw [am_b81_22]
          simp (disch := (first | assumption | omega | exact (be_gB _ _ _).1 | exact (be_gB _ _ _).2)) only [↓reduceIte, be_ofI, ↓be_ofN, ↓be_0, be_add, be_sub, be_mul, be_neg, be_rem, be_bi, be_bl, be_bv, be_br, be_bE0, be_bE1, be_b1E, be_b0E, be_bkb, be_cast, Int.toNat_natCast, Int.reduceToNat, be_lt, be_le, be_eq, be_nt, be_ck, be_nz, be_bk, be_div, not_true_eq_false, not_false_eq_true, if_true, if_false, eq_self, Int.reduceEq, Int.reduceLT, Int.reduceLE, Bool.true_eq_false, Bool.false_eq_true, be_ww, hnt]
          rw [ss, be_bi, am_b81_56]
          simp (disch := (first | assumption | omega | exact (be_gB _ _ _).1 | exact (be_gB _ _ _).2)) only [↓reduceIte, be_ofI, ↓be_ofN, ↓be_0, be_add, be_sub, be_mul, be_neg, be_rem, be_bi, be_bl, be_bv, be_br, be_bE0, be_bE1, be_b1E, be_b0E, be_bkb, be_cast, Int.toNat_natCast, Int.reduceToNat, be_lt, be_le, be_eq, be_nt, be_ck, be_nz, be_bk, be_div, not_true_eq_false, not_false_eq_true, if_true, if_false, eq_self, Int.reduceEq, Int.reduceLT, Int.reduceLE, Bool.true_eq_false, Bool.false_eq_true]
          rw [be_31, be_shl (by omega), be_or (by decide) (by omega) (by omega), am_b81_22]
          simp (disch := (first | assumption | omega | exact (be_gB _ _ _).1 | exact (be_gB _ _ _).2)) only [↓reduceIte, be_ofI, ↓be_ofN, ↓be_0, be_add, be_sub, be_mul, be_neg, be_rem, be_bi, be_bl, be_bv, be_br, be_bE0, be_bE1, be_b1E, be_b0E, be_bkb, be_cast, Int.toNat_natCast, Int.reduceToNat, be_lt, be_le, be_eq, be_nt, be_ck, be_nz, be_bk, be_div, not_true_eq_false, not_false_eq_true, if_true, if_false, eq_self, Int.reduceEq, Int.reduceLT, Int.reduceLE, Bool.true_eq_false, Bool.false_eq_true, back, hnt]
          rfl
      | succ n ih =>
        rintro k z s a0 p hk rfl rfl
        have w1 : ¬ (5 : Int) ≤ (k : Int) := by omega
        have w2 : ¬ (k : Int) = 4 := by omega
        have hl := be_bs_lt (fun i => decide (i < be_nr e) && be_wq e h i) k
        have hs : be_bs (fun i => decide (i < be_nr e) && be_wq e h i) (k + 1) = be_bs (fun i => decide (i < be_nr e) && be_wq e h i) k + (bif decide (k < be_nr e) && be_wq e h k then 2 ^ k else 0) := rfl
        have gR : be_g (am_w3 e 57 0 h (be_i (k : Int))) 50 0 = be_g e 50 0 := be_gn _ _ _ _ _ _ _ (by omega)
        have c5 := be_m5 (X := X) (a := a0) (b := b) (u := u') (e := (am_w3 e 57 0 h (be_i (k : Int)))) (f := f) (d := d) (x := (k : Int)) (by omega) (by omega) (by omega) (by omega)
        rw [am_b81_22]
        simp (disch := (first | assumption | omega | exact (be_gB _ _ _).1 | exact (be_gB _ _ _).2)) only [↓reduceIte, be_ofI, ↓be_ofN, ↓be_0, be_add, be_sub, be_mul, be_neg, be_rem, be_bi, be_bl, be_bv, be_br, be_bE0, be_bE1, be_b1E, be_b0E, be_bkb, be_cast, Int.toNat_natCast, Int.reduceToNat, be_lt, be_le, be_eq, be_nt, be_ck, be_nz, be_bk, be_div, not_true_eq_false, not_false_eq_true, if_true, if_false, eq_self, Int.reduceEq, Int.reduceLT, Int.reduceLE, Bool.true_eq_false, Bool.false_eq_true, w1, w2, be_ww, hnt]
        rw [c5, be_bi, am_b81_49]
        by_cases hk2 : k < be_nr e
        · rw [decide_eq_true (show 0 ≤ (k : Int) ∧ (k : Int) ≤ be_g (am_w3 e 57 0 h (be_i (k : Int))) 50 0 - 1 by omega)]
          rw [decide_eq_true hk2, Bool.true_and] at hs
          have ss := s2 k a0 (Or.inr hk2)
          simp (disch := (first | assumption | omega | exact (be_gB _ _ _).1 | exact (be_gB _ _ _).2)) only [↓reduceIte, be_ofI, ↓be_ofN, ↓be_0, be_add, be_sub, be_mul, be_neg, be_rem, be_bi, be_bl, be_bv, be_br, be_bE0, be_bE1, be_b1E, be_b0E, be_bkb, be_cast, Int.toNat_natCast, Int.reduceToNat, be_lt, be_le, be_eq, be_nt, be_ck, be_nz, be_bk, be_div, not_true_eq_false, not_false_eq_true, if_true, if_false, eq_self, Int.reduceEq, Int.reduceLT, Int.reduceLE, Bool.true_eq_false, Bool.false_eq_true]
          rw [ss, be_bi, am_b81_56]
          cases hB : be_wq e h k with
          | false =>
            rw [hB] at hs
            simp (disch := (first | assumption | omega | exact (be_gB _ _ _).1 | exact (be_gB _ _ _).2)) only [↓reduceIte, be_ofI, ↓be_ofN, ↓be_0, be_add, be_sub, be_mul, be_neg, be_rem, be_bi, be_bl, be_bv, be_br, be_bE0, be_bE1, be_b1E, be_b0E, be_bkb, be_cast, Int.toNat_natCast, Int.reduceToNat, be_lt, be_le, be_eq, be_nt, be_ck, be_nz, be_bk, be_div, not_true_eq_false, not_false_eq_true, if_true, if_false, eq_self, Int.reduceEq, Int.reduceLT, Int.reduceLE, Bool.true_eq_false, Bool.false_eq_true, be_or0]
            exact ih (k + 1) _ _ a0 _ (by omega) (by omega) hs.symm
          | true =>
            rw [hB] at hs
            simp (disch := (first | assumption | omega | exact (be_gB _ _ _).1 | exact (be_gB _ _ _).2)) only [↓reduceIte, be_ofI, ↓be_ofN, ↓be_0, be_add, be_sub, be_mul, be_neg, be_rem, be_bi, be_bl, be_bv, be_br, be_bE0, be_bE1, be_b1E, be_b0E, be_bkb, be_cast, Int.toNat_natCast, Int.reduceToNat, be_lt, be_le, be_eq, be_nt, be_ck, be_nz, be_bk, be_div, not_true_eq_false, not_false_eq_true, if_true, if_false, eq_self, Int.reduceEq, Int.reduceLT, Int.reduceLE, Bool.true_eq_false, Bool.false_eq_true]
            rw [be_31, be_shl (by omega), be_or (by omega) (by omega) (by exact_mod_cast hl)]
            exact ih (k + 1) _ _ a0 _ (by omega) (by omega) hs.symm
        · rw [decide_eq_false (show ¬ (0 ≤ (k : Int) ∧ (k : Int) ≤ be_g (am_w3 e 57 0 h (be_i (k : Int))) 50 0 - 1) by omega)]
          rw [decide_eq_false hk2, Bool.false_and] at hs
          simp (disch := (first | assumption | omega | exact (be_gB _ _ _).1 | exact (be_gB _ _ _).2)) only [↓reduceIte, be_ofI, ↓be_ofN, ↓be_0, be_add, be_sub, be_mul, be_neg, be_rem, be_bi, be_bl, be_bv, be_br, be_bE0, be_bE1, be_b1E, be_b0E, be_bkb, be_cast, Int.toNat_natCast, Int.reduceToNat, be_lt, be_le, be_eq, be_nt, be_ck, be_nz, be_bk, be_div, not_true_eq_false, not_false_eq_true, if_true, if_false, eq_self, Int.reduceEq, Int.reduceLT, Int.reduceLE, Bool.true_eq_false, Bool.false_eq_true, be_or0]
          exact ih (k + 1) _ _ a0 _ (by omega) (by omega) hs.symm
    have b1 := s1 4 (Or.inl rfl)
    rw [if_pos (show ((4 : Nat) : Int) = 4 from rfl)] at b1
    have k2 := fun a0 p => key2 4 0 0 0 a0 p rfl rfl rfl
    rw [be_bs_min, Nat.min_eq_right nr] at k2
    obtain ⟨q, k1⟩ := key1 _ 0 0 (be_wq e h 4) 0 (be_i (-5)) (Nat.zero_add _) rfl rfl
    have hf : ∀ c k j, ¬ (c = 1 ∧ k = h + 12 ∧ j = 6) → am_w3 a' 1 (h + 12) 6 q c k j = a' c k j := fun c k j h => be_w3n _ _ _ _ _ _ _ _ h
    refine ⟨be_i ((be_bs (be_wq e h) (be_nr e) : Int) + 16 * be_b (be_wq e h 4)), am_w3 a' 1 (h + 12) 6 q, b, u', e, f, ?_, ?_, be_IV_tri hI t3 (fun c k j h => hf c k j (by unfold be_inH at h; omega)) (fun k => hf _ _ _ (by omega)) (fun k => hf _ _ _ (by omega)) t4⟩
    · rw [am_s231]
      simp (disch := (first | assumption | omega | exact (be_gB _ _ _).1 | exact (be_gB _ _ _).2)) only [↓reduceIte, be_ofI, ↓be_ofN, ↓be_0, be_add, be_sub, be_mul, be_neg, be_rem, be_bi, be_bl, be_bv, be_br, be_bE0, be_bE1, be_b1E, be_b0E, be_bkb, be_cast, Int.toNat_natCast, Int.reduceToNat, be_lt, be_le, be_eq, be_nt, be_ck, be_nz, be_bk, be_div, not_true_eq_false, not_false_eq_true, if_true, if_false, eq_self, Int.reduceEq, Int.reduceLT, Int.reduceLE, Bool.true_eq_false, Bool.false_eq_true, c1, t1, am_b231_8, am_b231_24, hnt]
      rw [b1, be_bi, am_b231_45]
      cases hB : be_wq e h 4 with
      | false =>
        rw [hB] at k1
        simp (disch := (first | assumption | omega | exact (be_gB _ _ _).1 | exact (be_gB _ _ _).2)) only [↓reduceIte, be_ofI, ↓be_ofN, ↓be_0, be_add, be_sub, be_mul, be_neg, be_rem, be_bi, be_bl, be_bv, be_br, be_bE0, be_bE1, be_b1E, be_b0E, be_bkb, be_cast, Int.toNat_natCast, Int.reduceToNat, be_lt, be_le, be_eq, be_nt, be_ck, be_nz, be_bk, be_div, not_true_eq_false, not_false_eq_true, if_true, if_false, eq_self, Int.reduceEq, Int.reduceLT, Int.reduceLE, Bool.true_eq_false, Bool.false_eq_true]
        exact k1
      | true =>
        rw [hB] at k1
        simp (disch := (first | assumption | omega | exact (be_gB _ _ _).1 | exact (be_gB _ _ _).2)) only [↓reduceIte, be_ofI, ↓be_ofN, ↓be_0, be_add, be_sub, be_mul, be_neg, be_rem, be_bi, be_bl, be_bv, be_br, be_bE0, be_bE1, be_b1E, be_b0E, be_bkb, be_cast, Int.toNat_natCast, Int.reduceToNat, be_lt, be_le, be_eq, be_nt, be_ck, be_nz, be_bk, be_div, not_true_eq_false, not_false_eq_true, if_true, if_false, eq_self, Int.reduceEq, Int.reduceLT, Int.reduceLE, Bool.true_eq_false, Bool.false_eq_true]
        exact k1
    · have hid : am_w3 e 57 0 h (e 57 0 h) = e := be_wid rfl
      have k3 := k2 (am_w3 a' 1 (h + 12) 6 q) (e 57 0 h)
      rw [hid] at k3
      rw [am_s81]
      simp (disch := (first | assumption | omega | exact (be_gB _ _ _).1 | exact (be_gB _ _ _).2)) only [↓reduceIte, be_ofI, ↓be_ofN, ↓be_0, be_add, be_sub, be_mul, be_neg, be_rem, be_bi, be_bl, be_bv, be_br, be_bE0, be_bE1, be_b1E, be_b0E, be_bkb, be_cast, Int.toNat_natCast, Int.reduceToNat, be_lt, be_le, be_eq, be_nt, be_ck, be_nz, be_bk, be_div, not_true_eq_false, not_false_eq_true, if_true, if_false, eq_self, Int.reduceEq, Int.reduceLT, Int.reduceLE, Bool.true_eq_false, Bool.false_eq_true, c2, am_b81_5, hnt]
      exact k3
  · rw [decide_eq_false hx] at c1 c2
    refine be_Cp (v := be_i (-1)) hI ?_ ?_
    · rw [am_s231]
      simp (disch := (first | assumption | omega | exact (be_gB _ _ _).1 | exact (be_gB _ _ _).2)) only [↓reduceIte, be_ofI, ↓be_ofN, ↓be_0, be_add, be_sub, be_mul, be_neg, be_rem, be_bi, be_bl, be_bv, be_br, be_bE0, be_bE1, be_b1E, be_b0E, be_bkb, be_cast, Int.toNat_natCast, Int.reduceToNat, be_lt, be_le, be_eq, be_nt, be_ck, be_nz, be_bk, be_div, not_true_eq_false, not_false_eq_true, if_true, if_false, eq_self, Int.reduceEq, Int.reduceLT, Int.reduceLE, Bool.true_eq_false, Bool.false_eq_true, c1, am_b231_8]
    · rw [am_s81]
      simp (disch := (first | assumption | omega | exact (be_gB _ _ _).1 | exact (be_gB _ _ _).2)) only [↓reduceIte, be_ofI, ↓be_ofN, ↓be_0, be_add, be_sub, be_mul, be_neg, be_rem, be_bi, be_bl, be_bv, be_br, be_bE0, be_bE1, be_b1E, be_b0E, be_bkb, be_cast, Int.toNat_natCast, Int.reduceToNat, be_lt, be_le, be_eq, be_nt, be_ck, be_nz, be_bk, be_div, not_true_eq_false, not_false_eq_true, if_true, if_false, eq_self, Int.reduceEq, Int.reduceLT, Int.reduceLE, Bool.true_eq_false, Bool.false_eq_true, c2, am_b81_5]
