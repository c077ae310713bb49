/-! CALLS, 15: can, where (printed by g87.py) -/
variable {d : Nat} {X : am_X} {a : Nat → Nat → Nat → Int32} {b : Nat → Nat → Nat → Int64} {u : Nat → Nat} {e : Nat → Nat → Nat → Int32} {f : Nat → Nat → Nat → Int64}
/-- an hour that would be otherwise -/
theorem be_HXh {e' a' : Nat → Nat → Nat → Int32} {i h : Nat} (hi : i < 3) (hh6 : h < be_nh e) (hq : ∀ c j, ¬ ((c = 53 ∨ c = 57) ∧ j = h) → be_g e' c j = be_g e c j) (r3 : 0 ≤ be_g e' 53 h ∧ be_g e' 53 h ≤ 9)
    (r7 : be_g e' 57 h = 4 ∨ (0 ≤ be_g e' 57 h ∧ be_g e' 57 h < be_g e 50 0)) (hW : be_W e) (hW2 : be_W2 e) (hT : be_T3 e) (hX : be_HX a u i e)
    (ha : ∀ c k j, ¬ (c = 1 ∧ k = h + 6 * i ∧ (j = 2 ∨ j = 6)) → a' c k j = a c k j) (p2 : a' 1 (h + 6 * i) 2 = be_i (be_g e' 53 h)) (p6 : a' 1 (h + 6 * i) 6 = be_i (if be_g e' 57 h = 4 then -5 else be_g e' 57 h)) :
    be_W e' ∧ be_W2 e' ∧ be_T3 e' ∧ be_HX a' u i e' := by
  obtain ⟨nh, nh2⟩ := be_nhR hW
  have hW1 := hW.1
  obtain ⟨qE, hE, theE, numE, tE⟩ := be_of_t (e := e) (e' := e') (fun c j h => hq _ _ (by omega)) (hq _ _ (by omega)) (hq _ _ (by omega))
  have nhE : be_nh e' = be_nh e := by unfold be_nh; rw [hq _ _ (by omega)]
  have nrE : be_nr e' = be_nr e := by unfold be_nr; rw [hq _ _ (by omega)]
  have ftE : ∀ r, be_ft e' r = be_ft e r := fun r => by unfold be_ft; rw [hq _ _ (by omega)]
  obtain ⟨⟨o1, o2, o3, o4, o5, o6, o7⟩, x1, x2, ⟨s1, s2⟩, ⟨p1, p2'⟩, ⟨k1, k2⟩⟩ := hX
  refine ⟨?_, ?_, tE hT, ?_⟩
  · skip
    refine ⟨?_, ?_, ?_, ?_⟩
    · simp (disch := omega) only [hq]; exact hW.1
    · intro g hg
      by_cases hgh : g = h
      · subst hgh; have y := hW.2.1 g hg; simp (disch := omega) only [hq]; omega
      · simp (disch := omega) only [hq]; exact hW.2.1 g hg
    · intro g hg; simp (disch := omega) only [hq]; exact hW.2.2.1 g hg
    · intro g hg; simp (disch := omega) only [hq]; exact hW.2.2.2 g hg
  · skip
    refine ⟨?_, ?_, ?_, ?_⟩
    · intro g hg
      rw [hq 50 2 (by omega)] at hg
      rw [hq 50 0 (by omega)]
      by_cases hgh : g = h
      · subst hgh; omega
      · rw [hq _ _ (by omega)]; exact hW2.1 g hg
    · refine ⟨?_, ?_, fun k hk => ?_⟩
      · simp (disch := omega) only [hq]; exact hW2.2.1.1
      · simp (disch := omega) only [hq]; exact hW2.2.1.2.1
      · simp (disch := omega) only [hq] at hk ⊢; exact hW2.2.1.2.2 k hk
    · refine ⟨?_, ?_, fun k hk => ?_⟩
      · simp (disch := omega) only [hq]; exact hW2.2.2.1.1
      · simp (disch := omega) only [hq]; exact hW2.2.2.1.2.1
      · simp (disch := omega) only [hq] at hk ⊢; exact hW2.2.2.1.2.2 k hk
    · refine ⟨?_, ?_, fun k hk => ?_⟩
      · simp (disch := omega) only [hq]; exact hW2.2.2.2.1
      · simp (disch := omega) only [hq]; exact hW2.2.2.2.2.1
      · simp (disch := omega) only [hq] at hk ⊢; exact hW2.2.2.2.2.2 k hk
  · skip
    refine ⟨⟨?_, ?_, ?_, ?_, ?_, ?_, ?_⟩, ?_, ?_, ⟨?_, ?_⟩, ⟨?_, ?_⟩, ⟨?_, ?_⟩⟩
    · rw [ha _ _ _ (by omega), hq _ _ (by omega)]; exact o1
    · rw [ha _ _ _ (by omega), hq _ _ (by omega)]; exact o2
    · rw [ha _ _ _ (by omega), hq _ _ (by omega)]; exact o3
    · rw [ha _ _ _ (by omega), hE]; exact o4
    · rw [ha _ _ _ (by omega), qE]; exact o5
    · intro g hg
      rw [nhE] at hg
      obtain ⟨y0, y1, y2, y3, y4, y5, y6, y7⟩ := o6 g hg
      refine ⟨?_, ?_, ?_, ?_, ?_, ?_, ?_, ?_⟩
      · rw [ha _ _ _ (by omega)]; exact y0
      · rw [ha _ _ _ (by omega), hq _ _ (by omega)]; exact y1
      · by_cases hgh : g = h
        · subst hgh; exact p2
        · rw [ha _ _ _ (by omega), hq _ _ (by omega)]; exact y2
      · rw [ha _ _ _ (by omega), hq _ _ (by omega)]; exact y3
      · rw [ha _ _ _ (by omega), hq _ _ (by omega)]; exact y4
      · rw [ha _ _ _ (by omega), hq _ _ (by omega)]; exact y5
      · by_cases hgh : g = h
        · subst hgh; exact p6
        · rw [ha _ _ _ (by omega), hq _ _ (by omega)]; exact y6
      · intro j hj
        rw [ha _ _ _ (by omega), hq _ _ (by omega)]; exact y7 j hj
    · intro g hg
      rw [nrE] at hg
      have z := o7 g hg
      unfold be_RR at z ⊢
      simp (disch := omega) only [ha, hq, ftE]
      exact z
    · rw [hq _ _ (by omega)]; exact x1
    · rw [theE, numE]; exact be_OW_t (fun c k j h => ha _ _ _ (by omega)) (fun c j h => hq _ _ (by omega)) x2
    · rw [ha _ _ _ (by omega), hq _ _ (by omega)]; exact s1
    · intro k hk
      simp (disch := omega) only [ha, hq] at hk ⊢
      exact s2 k hk
    · rw [ha _ _ _ (by omega), hq _ _ (by omega)]; exact p1
    · intro k hk
      simp (disch := omega) only [ha, hq] at hk ⊢
      exact p2' k hk
    · rw [ha _ _ _ (by omega), hq _ _ (by omega)]; exact k1
    · intro k hk
      simp (disch := omega) only [ha, hq] at hk ⊢
      exact k2 k hk
theorem be_ccan (hd : 12 ≤ d) (hI : be_IV a b u e f) {x w : Int} (hx1 : -2147483648 ≤ x) (hx2 : x < 2147483648) (hw1 : -2147483648 ≤ w) (hw2 : w < 2147483648) : be_C X d 230 80 [am_I (be_i (x)), am_I (be_i (w))] a b u e f := by
  obtain ⟨d, rfl⟩ : ∃ q, d = q + 1 := ⟨d - 1, by omega⟩
  have he := be_gI e
  obtain ⟨hW, hW2, hT, hh, hD, hth, hX⟩ := hI.1
  have hW1 := hW.1
  have c1 := be_hasH (X := X) (a := a) (b := b) (u := u) (e := e) (f := f) (d := d) (x := x) (by omega) hI hx1 hx2
  have c2 := fun a' u' => be_m6 (X := X) (a := a') (b := b) (u := u') (e := e) (f := f) (d := d) (x := x) (by omega) hx1 hx2 (by omega)
  have c3 := be_m250 (X := X) (a := a) (b := b) (u := u) (e := e) (f := f) (d := d) (x := w) (y := 0) (z := 1) (by omega) hw1 hw2 (by decide) (by decide) (by decide) (by decide)
  have c4 := fun a' u' => be_m1 (X := X) (a := a') (b := b) (u := u') (e := e) (f := f) (d := d) (x := w) (y := 0) (z := 1) (by omega) hw1 hw2 (by decide) (by decide) (by decide) (by decide)
  by_cases hx : 0 ≤ x ∧ x ≤ be_g e 50 2 - 1
  · rw [decide_eq_true hx] at c1 c2
    by_cases hw : 0 ≤ w ∧ w ≤ 1
    · rw [decide_eq_true hw] at c3 c4
      obtain ⟨h, rfl⟩ := be_0le hx.1
      have hnh : h < be_nh e := by have := be_nhR hW; omega
      have y := hW.2.1 h (by omega)
      obtain ⟨a', u', t1, t2, t3, t4⟩ := be_tri (X := X) (a := a) (b := b) (u := u) (e := e) (f := f) (d := d) (by omega) hI
      have hHR := t2.1.2.2.2.2.2.1 h hnh
      have key : ∀ (n : Nat) (z : Int) (m l : Int32) (a1 e1 : Nat → Nat → Nat → Int32), n ≤ 10 → z = (n : Int) - 1 → (∃ p, a1 = am_w3 a' 1 (h + 12) 2 p) → (∃ p, e1 = am_w3 e 53 0 h p) →
          ∃ (v : Int32) (a2 : Nat → Nat → Nat → Int32), am_fix (am_sem X d) X am_P230 43 [.inr (9, 0), am_I (be_i ((h : Int))), am_I (be_i (w)), am_I m, am_I l, am_I (be_i (z))] [] (am_sd a1 b u' e f) = some (some (am_I v), am_sd a2 b u' e f) ∧ (∀ a0, am_fix (am_sem X d) X am_P80 38 [.inr (50, 0), am_I (be_i ((h : Int))), am_I (be_i (w)), am_I (e 53 0 h), am_I m, am_I l, am_I (be_i (z))] [] (am_sd a0 b u' e1 f) = some (some (am_I v), am_sd a0 b u' e f)) ∧ ∃ p, a2 = am_w3 a' 1 (h + 12) 2 p := by
        intro n
        induction n with
        | zero =>
          rintro z m l a1 e1 - rfl hp ⟨q, rfl⟩
          have back : am_w3 (am_w3 e 53 0 h q) 53 0 h (e 53 0 h) = e := by rw [be_ww]; exact be_wid rfl
          have g1 : ((0 : Nat) : Int) - 1 < 0 := by omega
          refine ⟨if w = 0 then m else l, a1, ?_, fun a0 => ?_, hp⟩
          · rw [am_b230_43]
            simp (disch := (first | assumption | omega | exact (be_gB _ _ _).1 | exact (be_gB _ _ _).2)) only [↓reduceIte, be_ofI, ↓be_ofN, ↓be_0, be_add, be_sub, be_mul, be_neg, be_rem, be_bi, be_bl, be_bv, be_br, be_bE0, be_bE1, be_b1E, be_b0E, be_bkb, be_cast, Int.toNat_natCast, Int.reduceToNat, be_lt, be_le, be_eq, be_nt, be_ck, be_nz, be_bk, be_div, g1]
            (repeat' split) <;> first | rfl | omega
          · rw [am_b80_38]
            simp (disch := (first | assumption | omega | exact (be_gB _ _ _).1 | exact (be_gB _ _ _).2)) only [↓reduceIte, be_ofI, ↓be_ofN, ↓be_0, be_add, be_sub, be_mul, be_neg, be_rem, be_bi, be_bl, be_bv, be_br, be_bE0, be_bE1, be_b1E, be_b0E, be_bkb, be_cast, Int.toNat_natCast, Int.reduceToNat, be_lt, be_le, be_eq, be_nt, be_ck, be_nz, be_bk, be_div, g1]
            rw [back]
            (repeat' split) <;> first | rfl | omega
        | succ n ih =>
          rintro z m l a1 e1 hn rfl ⟨p, rfl⟩ ⟨q, rfl⟩
          obtain ⟨e3, he3⟩ : ∃ e3, e3 = am_w3 e 53 0 h (be_i (n : Int)) := ⟨_, rfl⟩
          obtain ⟨a3, ha3⟩ : ∃ a3, a3 = am_w3 a' 1 (h + 12) 2 (be_i (n : Int)) := ⟨_, rfl⟩
          have q3 : ∀ c j, ¬ ((c = 53 ∨ c = 57) ∧ j = h) → be_g e3 c j = be_g e c j := fun c j h => by rw [he3]; exact be_gn _ _ _ _ _ _ _ (by omega)
          have r3 : be_g e3 53 h = (n : Int) := by rw [he3, be_gw _ _ _ _ _ (by omega) (by omega), if_pos ⟨rfl, rfl⟩]
          have r7 : be_g e3 57 h = be_g e 57 h := by rw [he3]; exact be_gn _ _ _ _ _ _ _ (by omega)
          have p3 : ∀ c k j, ¬ (c = 1 ∧ k = h + 6 * 2 ∧ (j = 2 ∨ j = 6)) → a3 c k j = a' c k j := fun c k j h => by rw [ha3]; exact be_w3n _ _ _ _ _ _ _ _ (by omega)
          have hw3 := hW2.1 h (by omega)
          obtain ⟨v1, v2, v3, v4⟩ := be_HXh (e' := e3) (a' := a3) (i := 2) (h := h) (by decide) hnh q3 (by omega) (by omega) hW hW2 hT t2 p3 (by rw [r3, ha3]; exact be_w3s _ _ _ _ _) (by
            rw [r7, ha3, be_w3n _ _ _ _ _ _ _ _ (by omega)]; exact hHR.2.2.2.2.2.2.1)
          have d3 : be_g e3 50 3 = be_g e 50 3 := q3 _ _ (by omega)
          have s1 := be_n156 (X := X) (a := a3) (b := b) (u := u') (e0 := e) (e := e3) (f := f) (d := d) (i := 2) (by omega) v1 v2 v3.1 (by omega) (by decide) v4
          have s2 := fun a0 => be_m79 (X := X) (a := a0) (b := b) (u := u') (e := e3) (f := f) (d := d) (by omega) v1 v2 v3.1 (by omega)
          have g1 : ¬ ((n + 1 : Nat) : Int) - 1 < 0 := by omega
          have g2 : ((n + 1 : Nat) : Int) - 1 = (n : Int) := by omega
          have g3 : ((n : Int) + -1) = (n : Int) - 1 := by omega
          cases hB : be_as e3 (be_g e3 50 3) (be_ns e3) with
          | false =>
            rw [hB] at s1 s2
            obtain ⟨v, a2, k1, k2, k3⟩ := ih _ m l a3 e3 (by omega) rfl ⟨_, ha3⟩ ⟨_, he3⟩
            refine ⟨v, a2, ?_, fun a0 => ?_, k3⟩
            · rw [am_b230_43]
              simp (disch := (first | assumption | omega | exact (be_gB _ _ _).1 | exact (be_gB _ _ _).2)) only [↓reduceIte, be_ofI, ↓be_ofN, ↓be_0, be_add, be_sub, be_mul, be_neg, be_rem, be_bi, be_bl, be_bv, be_br, be_bE0, be_bE1, be_b1E, be_b0E, be_bkb, be_cast, Int.toNat_natCast, Int.reduceToNat, be_lt, be_le, be_eq, be_nt, be_ck, be_nz, be_bk, be_div, not_true_eq_false, not_false_eq_true, if_true, if_false, eq_self, Int.reduceEq, Int.reduceLT, Int.reduceLE, Bool.true_eq_false, Bool.false_eq_true, g1]
              rw [g2, be_ww, ← ha3, s1, be_bi, am_b230_69]
              simp (disch := (first | assumption | omega | exact (be_gB _ _ _).1 | exact (be_gB _ _ _).2)) only [↓reduceIte, be_ofI, ↓be_ofN, ↓be_0, be_add, be_sub, be_mul, be_neg, be_rem, be_bi, be_bl, be_bv, be_br, be_bE0, be_bE1, be_b1E, be_b0E, be_bkb, be_cast, Int.toNat_natCast, Int.reduceToNat, be_lt, be_le, be_eq, be_nt, be_ck, be_nz, be_bk, be_div, not_true_eq_false, not_false_eq_true, if_true, if_false, eq_self, Int.reduceEq, Int.reduceLT, Int.reduceLE, Bool.true_eq_false, Bool.false_eq_true, g3]
              exact k1
            · rw [am_b80_38]
              simp (disch := (first | assumption | omega | exact (be_gB _ _ _).1 | exact (be_gB _ _ _).2)) only [↓reduceIte, be_ofI, ↓be_ofN, ↓be_0, be_add, be_sub, be_mul, be_neg, be_rem, be_bi, be_bl, be_bv, be_br, be_bE0, be_bE1, be_b1E, be_b0E, be_bkb, be_cast, Int.toNat_natCast, Int.reduceToNat, be_lt, be_le, be_eq, be_nt, be_ck, be_nz, be_bk, be_div, not_true_eq_false, not_false_eq_true, if_true, if_false, eq_self, Int.reduceEq, Int.reduceLT, Int.reduceLE, Bool.true_eq_false, Bool.false_eq_true, g1]
              rw [g2, be_ww, ← he3, s2, be_bi, am_b80_55]
              simp (disch := (first | assumption | omega | exact (be_gB _ _ _).1 | exact (be_gB _ _ _).2)) only [↓reduceIte, be_ofI, ↓be_ofN, ↓be_0, be_add, be_sub, be_mul, be_neg, be_rem, be_bi, be_bl, be_bv, be_br, be_bE0, be_bE1, be_b1E, be_b0E, be_bkb, be_cast, Int.toNat_natCast, Int.reduceToNat, be_lt, be_le, be_eq, be_nt, be_ck, be_nz, be_bk, be_div, not_true_eq_false, not_false_eq_true, if_true, if_false, eq_self, Int.reduceEq, Int.reduceLT, Int.reduceLE, Bool.true_eq_false, Bool.false_eq_true, g3]
              exact k2 a0
          | true =>
            rw [hB] at s1 s2
            obtain ⟨v, a2, k1, k2, k3⟩ := ih _ (m + be_i 1) (be_i (n : Int)) a3 e3 (by omega) rfl ⟨_, ha3⟩ ⟨_, he3⟩
            refine ⟨v, a2, ?_, fun a0 => ?_, k3⟩
            · rw [am_b230_43]
              simp (disch := (first | assumption | omega | exact (be_gB _ _ _).1 | exact (be_gB _ _ _).2)) only [↓reduceIte, be_ofI, ↓be_ofN, ↓be_0, be_add, be_sub, be_mul, be_neg, be_rem, be_bi, be_bl, be_bv, be_br, be_bE0, be_bE1, be_b1E, be_b0E, be_bkb, be_cast, Int.toNat_natCast, Int.reduceToNat, be_lt, be_le, be_eq, be_nt, be_ck, be_nz, be_bk, be_div, not_true_eq_false, not_false_eq_true, if_true, if_false, eq_self, Int.reduceEq, Int.reduceLT, Int.reduceLE, Bool.true_eq_false, Bool.false_eq_true, g1]
              rw [g2, be_ww, ← ha3, s1, be_bi, am_b230_69]
              simp (disch := (first | assumption | omega | exact (be_gB _ _ _).1 | exact (be_gB _ _ _).2)) only [↓reduceIte, be_ofI, ↓be_ofN, ↓be_0, be_add, be_sub, be_mul, be_neg, be_rem, be_bi, be_bl, be_bv, be_br, be_bE0, be_bE1, be_b1E, be_b0E, be_bkb, be_cast, Int.toNat_natCast, Int.reduceToNat, be_lt, be_le, be_eq, be_nt, be_ck, be_nz, be_bk, be_div, not_true_eq_false, not_false_eq_true, if_true, if_false, eq_self, Int.reduceEq, Int.reduceLT, Int.reduceLE, Bool.true_eq_false, Bool.false_eq_true, g3]
              exact k1
            · rw [am_b80_38]
              simp (disch := (first | assumption | omega | exact (be_gB _ _ _).1 | exact (be_gB _ _ _).2)) only [↓reduceIte, be_ofI, ↓be_ofN, ↓be_0, be_add, be_sub, be_mul, be_neg, be_rem, be_bi, be_bl, be_bv, be_br, be_bE0, be_bE1, be_b1E, be_b0E, be_bkb, be_cast, Int.toNat_natCast, Int.reduceToNat, be_lt, be_le, be_eq, be_nt, be_ck, be_nz, be_bk, be_div, not_true_eq_false, not_false_eq_true, if_true, if_false, eq_self, Int.reduceEq, Int.reduceLT, Int.reduceLE, Bool.true_eq_false, Bool.false_eq_true, g1]
              rw [g2, be_ww, ← he3, s2, be_bi, am_b80_55]
              simp (disch := (first | assumption | omega | exact (be_gB _ _ _).1 | exact (be_gB _ _ _).2)) only [↓reduceIte, be_ofI, ↓be_ofN, ↓be_0, be_add, be_sub, be_mul, be_neg, be_rem, be_bi, be_bl, be_bv, be_br, be_bE0, be_bE1, be_b1E, be_b0E, be_bkb, be_cast, Int.toNat_natCast, Int.reduceToNat, be_lt, be_le, be_eq, be_nt, be_ck, be_nz, be_bk, be_div, not_true_eq_false, not_false_eq_true, if_true, if_false, eq_self, Int.reduceEq, Int.reduceLT, Int.reduceLE, Bool.true_eq_false, Bool.false_eq_true, g3]
              exact k2 a0
      obtain ⟨v, a2, k1, k2, p, rfl⟩ := key 10 9 (be_i 0) (be_i (-5)) a' e (by decide) rfl ⟨_, (be_wid rfl).symm⟩ ⟨_, (be_wid rfl).symm⟩
      have hf : ∀ c k j, ¬ (c = 1 ∧ k = h + 12 ∧ j = 2) → am_w3 a' 1 (h + 12) 2 p c k j = a' c k j := fun c k j h => be_w3n _ _ _ _ _ _ _ _ h
      refine ⟨v, _, b, u', e, f, ?_, ?_, be_IV_tri hI t3 (fun c k j h => hf c k j (by unfold be_inH at h; omega)) (fun k => hf _ _ _ (by omega)) (fun k => hf _ _ _ (by omega)) t4⟩
      · rw [am_s230]
        simp (disch := (first | assumption | omega | exact (be_gB _ _ _).1 | exact (be_gB _ _ _).2)) only [↓reduceIte, be_ofI, ↓be_ofN, ↓be_0, be_add, be_sub, be_mul, be_neg, be_rem, be_bi, be_bl, be_bv, be_br, be_bE0, be_bE1, be_b1E, be_b0E, be_bkb, be_cast, Int.toNat_natCast, Int.reduceToNat, be_lt, be_le, be_eq, be_nt, be_ck, be_nz, be_bk, be_div, not_true_eq_false, not_false_eq_true, if_true, if_false, eq_self, Int.reduceEq, Int.reduceLT, Int.reduceLE, Bool.true_eq_false, Bool.false_eq_true, c1, c3, t1, am_b230_8, am_b230_17, am_b230_33]
        exact k1
      · rw [am_s80]
        simp (disch := (first | assumption | omega | exact (be_gB _ _ _).1 | exact (be_gB _ _ _).2)) only [↓reduceIte, be_ofI, ↓be_ofN, ↓be_0, be_add, be_sub, be_mul, be_neg, be_rem, be_bi, be_bl, be_bv, be_br, be_bE0, be_bE1, be_b1E, be_b0E, be_bkb, be_cast, Int.toNat_natCast, Int.reduceToNat, be_lt, be_le, be_eq, be_nt, be_ck, be_nz, be_bk, be_div, not_true_eq_false, not_false_eq_true, if_true, if_false, eq_self, Int.reduceEq, Int.reduceLT, Int.reduceLE, Bool.true_eq_false, Bool.false_eq_true, c2, c4, am_b80_5, am_b80_15]
        exact k2 _
    · rw [decide_eq_false hw] at c3 c4
      refine be_Cp (v := be_i (-1)) hI ?_ ?_
      · rw [am_s230]
        simp (disch := (first | assumption | omega | exact (be_gB _ _ _).1 | exact (be_gB _ _ _).2)) only [↓reduceIte, be_ofI, ↓be_ofN, ↓be_0, be_add, be_sub, be_mul, be_neg, be_rem, be_bi, be_bl, be_bv, be_br, be_bE0, be_bE1, be_b1E, be_b0E, be_bkb, be_cast, Int.toNat_natCast, Int.reduceToNat, be_lt, be_le, be_eq, be_nt, be_ck, be_nz, be_bk, be_div, not_true_eq_false, not_false_eq_true, if_true, if_false, eq_self, Int.reduceEq, Int.reduceLT, Int.reduceLE, Bool.true_eq_false, Bool.false_eq_true, c1, c3, am_b230_8, am_b230_17]
      · rw [am_s80]
        simp (disch := (first | assumption | omega | exact (be_gB _ _ _).1 | exact (be_gB _ _ _).2)) only [↓reduceIte, be_ofI, ↓be_ofN, ↓be_0, be_add, be_sub, be_mul, be_neg, be_rem, be_bi, be_bl, be_bv, be_br, be_bE0, be_bE1, be_b1E, be_b0E, be_bkb, be_cast, Int.toNat_natCast, Int.reduceToNat, be_lt, be_le, be_eq, be_nt, be_ck, be_nz, be_bk, be_div, not_true_eq_false, not_false_eq_true, if_true, if_false, eq_self, Int.reduceEq, Int.reduceLT, Int.reduceLE, Bool.true_eq_false, Bool.false_eq_true, c2, c4, am_b80_5, am_b80_15]
  · rw [decide_eq_false hx] at c1 c2
    refine be_Cp (v := be_i (-1)) hI ?_ ?_
    · rw [am_s230]
      simp (disch := (first | assumption | omega | exact (be_gB _ _ _).1 | exact (be_gB _ _ _).2)) only [↓reduceIte, be_ofI, ↓be_ofN, ↓be_0, be_add, be_sub, be_mul, be_neg, be_rem, be_bi, be_bl, be_bv, be_br, be_bE0, be_bE1, be_b1E, be_b0E, be_bkb, be_cast, Int.toNat_natCast, Int.reduceToNat, be_lt, be_le, be_eq, be_nt, be_ck, be_nz, be_bk, be_div, not_true_eq_false, not_false_eq_true, if_true, if_false, eq_self, Int.reduceEq, Int.reduceLT, Int.reduceLE, Bool.true_eq_false, Bool.false_eq_true, c1, am_b230_8]
    · rw [am_s80]
      simp (disch := (first | assumption | omega | exact (be_gB _ _ _).1 | exact (be_gB _ _ _).2)) only [↓reduceIte, be_ofI, ↓be_ofN, ↓be_0, be_add, be_sub, be_mul, be_neg, be_rem, be_bi, be_bl, be_bv, be_br, be_bE0, be_bE1, be_b1E, be_b0E, be_bkb, be_cast, Int.toNat_natCast, Int.reduceToNat, be_lt, be_le, be_eq, be_nt, be_ck, be_nz, be_bk, be_div, not_true_eq_false, not_false_eq_true, if_true, if_false, eq_self, Int.reduceEq, Int.reduceLT, Int.reduceLE, Bool.true_eq_false, Bool.false_eq_true, c2, am_b80_5]
