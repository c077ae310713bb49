/-! CALLS, 7: room, hour, feed (printed by g79.py) -/
variable {d : Nat} {X : am_X} {a : Nat → Nat → Nat → Int32} {b : Nat → Nat → Nat → Int64} {u : Nat → Nat} {e : Nat → Nat → Nat → Int32} {f : Nat → Nat → Nat → Int64}
theorem be_croom (hd : 12 ≤ d) (hI : be_IV a b u e f) {x : Int} (hx1 : -2147483648 ≤ x) (hx2 : x < 2147483648) : be_C X d 204 9 [am_I (be_i (x))] a b u e f := by
  obtain ⟨d, rfl⟩ : ∃ q, d = q + 1 := ⟨d - 1, by omega⟩
  have he := be_gI e
  have hI' := hI
  obtain ⟨⟨hW, hW2, hT, hh, hD, hth, hX⟩, hN, -⟩ := hI'
  have hW1 := hW.1
  have c1 := be_m250 (X := X) (a := a) (b := b) (u := u) (e := e) (f := f) (d := d) (x := x) (y := 1) (z := 20) (by omega) hx1 hx2 (by decide) (by decide) (by decide) (by decide)
  have c2 := fun a' => be_m8 (X := X) (a := a') (b := b) (u := u) (e := e) (f := f) (d := d) (x := x) (by omega) hx1 hx2
  have o1 := hX.1.1
  by_cases hx : 1 ≤ x ∧ x ≤ 20
  · rw [decide_eq_true hx] at c1 c2
    obtain ⟨n, hn⟩ := be_0le hW1.1
    obtain ⟨F, hF⟩ := be_0le hW1.2.2.1
    by_cases hr : n = 4
    · subst hr
      rw [hn] at o1
      refine be_Cp (v := be_i (-4)) hI ?_ ?_
      · rw [am_s204]
        simp (disch := (first | assumption | omega | exact (be_gB _ _ _).1 | exact (be_gB _ _ _).2)) only [↓reduceIte, be_ofI, ↓be_ofN, ↓be_0, be_add, be_sub, be_mul, be_neg, be_rem, be_bi, be_bl, be_bv, be_br, be_bE0, be_bE1, be_b1E, be_b0E, be_bkb, be_cast, Int.toNat_natCast, Int.reduceToNat, be_lt, be_le, be_eq, be_nt, be_ck, be_nz, be_bk, be_div, not_true_eq_false, not_false_eq_true, if_true, if_false, eq_self, Int.reduceEq, Int.reduceLT, Int.reduceLE, Bool.true_eq_false, Bool.false_eq_true, c1, o1, am_b204_7, am_b204_37]
        rfl
      · rw [am_s9]
        simp (disch := (first | assumption | omega | exact (be_gB _ _ _).1 | exact (be_gB _ _ _).2)) only [↓reduceIte, be_ofI, ↓be_ofN, ↓be_0, be_add, be_sub, be_mul, be_neg, be_rem, be_bi, be_bl, be_bv, be_br, be_bE0, be_bE1, be_b1E, be_b0E, be_bkb, be_cast, Int.toNat_natCast, Int.reduceToNat, be_lt, be_le, be_eq, be_nt, be_ck, be_nz, be_bk, be_div, not_true_eq_false, not_false_eq_true, if_true, if_false, eq_self, Int.reduceEq, Int.reduceLT, Int.reduceLE, Bool.true_eq_false, Bool.false_eq_true, c2, he, hn, am_b9_5]
        rfl
    · obtain ⟨f1, f2⟩ := be_fsR F (by omega) n (by omega) false
      have hft : ∀ g, be_ft e g = decide (F / 2 ^ g % 2 = 1) := fun g => by
        unfold be_ft
        rw [hF, Bool.eq_iff_iff, decide_eq_true_iff, decide_eq_true_iff]
        constructor
        · intro h; exact_mod_cast h
        · intro h; exact_mod_cast h
      obtain ⟨e', he'⟩ : ∃ e', e' = am_w3 (am_w3 (am_w3 e 51 0 n (be_i x)) 50 0 1 (be_i (be_fs F n false : Int))) 50 0 0 (be_i ((n : Int) + 1)) := ⟨_, rfl⟩
      obtain ⟨a', ha'⟩ : ∃ a', a' = am_w3 (am_w3 (am_w3 a 5 n 1 (be_i x)) 5 n 2 (be_i 0)) 2 0 2 (be_i ((n : Int) + 1)) := ⟨_, rfl⟩
      have hq : ∀ c j, ¬ ((c = 50 ∧ (j = 1 ∨ j = 0)) ∨ (c = 51 ∧ j = n)) → be_g e' c j = be_g e c j := fun c j h => by rw [he']; simp (disch := omega) only [be_gn]
      have r0 : be_g e' 50 0 = (n : Int) + 1 := by rw [he', be_gw _ _ _ _ _ (by omega) (by omega), if_pos ⟨rfl, rfl⟩]
      have r1 : be_g e' 50 1 = (be_fs F n false : Int) := by rw [he', be_gn _ _ _ _ _ _ _ (by omega), be_gw _ _ _ _ _ (by omega) (by omega), if_pos ⟨rfl, rfl⟩]
      have r51 : be_g e' 51 n = x := by rw [he', be_gn _ _ _ _ _ _ _ (by omega), be_gn _ _ _ _ _ _ _ (by omega), be_gw _ _ _ _ _ (by omega) (by omega), if_pos ⟨rfl, rfl⟩]
      have ha : ∀ c k j, ¬ ((c = 5 ∧ k = n ∧ (j = 1 ∨ j = 2)) ∨ (c = 2 ∧ k = 0 ∧ j = 2)) → a' c k j = a c k j := fun c k j h => by rw [ha']; simp (disch := omega) only [be_w3n]
      have a2 : a' 2 0 2 = be_i ((n : Int) + 1) := by rw [ha', be_w3s]
      have a51 : a' 5 n 1 = be_i x := by rw [ha']; simp (disch := omega) only [be_w3n, be_w3s]
      have a52 : a' 5 n 2 = be_i 0 := by rw [ha']; simp (disch := omega) only [be_w3n, be_w3s]
      have hnr : be_nr e = n := by unfold be_nr; omega
      have ftE : ∀ g, g < 4 → be_ft e' g = if g = n then false else be_ft e g := fun g hg => by
        have h1 : be_ft e' g = decide (be_fs F n false / 2 ^ g % 2 = 1) := by
          unfold be_ft
          rw [r1, Bool.eq_iff_iff, decide_eq_true_iff, decide_eq_true_iff]
          constructor
          · intro h; exact_mod_cast h
          · intro h; exact_mod_cast h
        rw [h1, f2 g hg, hft]
        split
        · rfl
        · rfl
      rw [hn] at o1
      refine be_Ch (v := be_i (n : Int)) (a' := a') (e' := e') hI ?_ ?_ (fun c k j h => ha _ _ _ (by unfold be_inH at h; omega)) (fun k => ha _ _ _ (by omega)) (fun k => ha _ _ _ (by omega)) (fun c j h => hq _ _ (by omega)) ?_
      · rw [am_s204]
        have h140 : am_sem X d 140 [.inr (2, 0), am_I (be_i (x))] (am_sd a b u e f) = some (some (am_I (be_i (n : Int))), am_sd a' b u e f) := by
          obtain ⟨d, rfl⟩ : ∃ q, d = q + 1 := ⟨d - 1, by omega⟩
          rw [am_s140]
          simp (disch := (first | assumption | omega | exact (be_gB _ _ _).1 | exact (be_gB _ _ _).2)) only [↓reduceIte, be_ofI, ↓be_ofN, ↓be_0, be_add, be_sub, be_mul, be_neg, be_rem, be_bi, be_bl, be_bv, be_br, be_bE0, be_bE1, be_b1E, be_b0E, be_bkb, be_cast, Int.toNat_natCast, Int.reduceToNat, be_lt, be_le, be_eq, be_nt, be_ck, be_nz, be_bk, be_div, o1, Nat.mul_zero, Nat.add_zero]
          rw [if_pos (by omega), ha']
        simp (disch := (first | assumption | omega | exact (be_gB _ _ _).1 | exact (be_gB _ _ _).2)) only [↓reduceIte, be_ofI, ↓be_ofN, ↓be_0, be_add, be_sub, be_mul, be_neg, be_rem, be_bi, be_bl, be_bv, be_br, be_bE0, be_bE1, be_b1E, be_b0E, be_bkb, be_cast, Int.toNat_natCast, Int.reduceToNat, be_lt, be_le, be_eq, be_nt, be_ck, be_nz, be_bk, be_div, not_true_eq_false, not_false_eq_true, if_true, if_false, eq_self, Int.reduceEq, Int.reduceLT, Int.reduceLE, Bool.true_eq_false, Bool.false_eq_true, c1, o1, h140, am_b204_7, am_b204_37]
        rw [if_pos (by omega)]
      · rw [am_s9]
        simp (disch := (first | assumption | omega | exact (be_gB _ _ _).1 | exact (be_gB _ _ _).2)) only [↓reduceIte, be_ofI, ↓be_ofN, ↓be_0, be_add, be_sub, be_mul, be_neg, be_rem, be_bi, be_bl, be_bv, be_br, be_bE0, be_bE1, be_b1E, be_b0E, be_bkb, be_cast, Int.toNat_natCast, Int.reduceToNat, be_lt, be_le, be_eq, be_nt, be_ck, be_nz, be_bk, be_div, not_true_eq_false, not_false_eq_true, if_true, if_false, eq_self, Int.reduceEq, Int.reduceLT, Int.reduceLE, Bool.true_eq_false, Bool.false_eq_true, c2, he, hn, hF, be_31, be_fs0, am_b9_5]
        rw [if_pos (by omega), he', show (n : Int) + 1 - 1 = n by omega]
      · skip
        obtain ⟨qE, hE, theE, numE, tE⟩ := be_of_t (e := e) (e' := e') (fun c j h => hq _ _ (by omega)) (hq _ _ (by omega)) (hq _ _ (by omega))
        have nhE : be_nh e' = be_nh e := by unfold be_nh; rw [hq _ _ (by omega)]
        have nrE : be_nr e' = n + 1 := by unfold be_nr at hnr ⊢; rw [r0]; omega
        obtain ⟨⟨o1, o2, o3, o4, o5, o6, o7⟩, x1, x2, ⟨s1, s2⟩, ⟨p1, p2⟩, ⟨k1, k2⟩⟩ := hX
        refine ⟨?_, ?_, tE hT, ?_, ?_, ?_, ?_⟩
        · skip
          refine ⟨?_, ?_, ?_, ?_⟩
          · have y := hW.1
            simp (disch := omega) only [hq, r0, r1]
            omega
          · intro g hg; simp (disch := omega) only [hq]; exact hW.2.1 g hg
          · intro g hg
            by_cases hgn : g = n
            · subst hgn; rw [r51]; omega
            · rw [hq _ _ (by omega)]; exact hW.2.2.1 g hg
          · intro g hg; simp (disch := omega) only [hq]; exact hW.2.2.2 g hg
        · skip
          refine ⟨?_, ?_, ?_, ?_⟩
          · intro g hg
            rw [hq 50 2 (by omega)] at hg
            rw [r0, hq 57 g (by omega)]
            have := hW2.1 g hg; omega
          · refine ⟨?_, ?_, fun k hk => ?_⟩
            · simp (disch := omega) only [hq]; exact hW2.2.1.1
            · simp (disch := omega) only [hq]; exact hW2.2.1.2.1
            · simp (disch := omega) only [hq, r0] at hk ⊢
              have := hW2.2.1.2.2 k hk; omega
          · refine ⟨?_, ?_, fun k hk => ?_⟩
            · simp (disch := omega) only [hq]; exact hW2.2.2.1.1
            · simp (disch := omega) only [hq]; exact hW2.2.2.1.2.1
            · simp (disch := omega) only [hq, r0] at hk ⊢
              have := hW2.2.2.1.2.2 k hk; omega
          · refine ⟨?_, ?_, fun k hk => ?_⟩
            · simp (disch := omega) only [hq]; exact hW2.2.2.2.1
            · simp (disch := omega) only [hq]; exact hW2.2.2.2.2.1
            · simp (disch := omega) only [hq] at hk ⊢
              have := hW2.2.2.2.2.2 k hk; omega
        · rw [hq _ _ (by omega)]; exact hh
        · rw [hq _ _ (by omega)]; exact hD
        · rw [hq _ _ (by omega), hq _ _ (by omega)]; exact hth
        · skip
          refine ⟨⟨?_, ?_, ?_, ?_, ?_, ?_, ?_⟩, ?_, ?_, ⟨?_, ?_⟩, ⟨?_, ?_⟩, ⟨?_, ?_⟩⟩
          · rw [a2, r0]
          · rw [ha _ _ _ (by omega), hq _ _ (by omega)]; exact o2
          · rw [ha _ _ _ (by omega), hq _ _ (by omega)]; exact o3
          · rw [ha _ _ _ (by omega), hE]; exact o4
          · rw [ha _ _ _ (by omega), qE]; exact o5
          · intro g hg
            rw [nhE] at hg
            have z := o6 g hg
            unfold be_HR at z ⊢
            simp (disch := omega) only [ha, hq]
            exact z
          · intro g hg
            rw [nrE] at hg
            by_cases hgn : g = n
            · subst hgn
              refine ⟨?_, ?_, ?_⟩
              · rw [ha _ _ _ (by omega)]; exact (hN 0 (by decide)).2 g (by omega)
              · rw [r51]; exact a51
              · rw [ftE g (by omega), if_pos rfl]; exact a52
            · obtain ⟨y0, y1, y2⟩ := o7 g (by omega)
              refine ⟨?_, ?_, ?_⟩
              · rw [ha _ _ _ (by omega)]; exact y0
              · rw [ha _ _ _ (by omega), hq _ _ (by omega)]; exact y1
              · rw [ftE g (by omega), if_neg hgn, ha _ _ _ (by omega)]; exact y2
          · rw [hq _ _ (by omega)]; exact x1
          · rw [theE, numE]; exact be_OW_t (fun c k j h => ha _ _ _ (by omega)) (fun c j h => hq _ _ (by omega)) x2
          · rw [ha _ _ _ (by omega), hq _ _ (by omega)]; exact s1
          · intro k hk
            simp (disch := omega) only [ha, hq] at hk ⊢
            exact s2 k hk
          · rw [ha _ _ _ (by omega), hq _ _ (by omega)]; exact p1
          · intro k hk
            simp (disch := omega) only [ha, hq] at hk ⊢
            exact p2 k hk
          · rw [ha _ _ _ (by omega), hq _ _ (by omega)]; exact k1
          · intro k hk
            simp (disch := omega) only [ha, hq] at hk ⊢
            exact k2 k hk
  · rw [decide_eq_false hx] at c1 c2
    refine be_Cp (v := be_i (-2)) hI ?_ ?_
    · rw [am_s204]
      simp (disch := (first | assumption | omega | exact (be_gB _ _ _).1 | exact (be_gB _ _ _).2)) only [↓reduceIte, be_ofI, ↓be_ofN, ↓be_0, be_add, be_sub, be_mul, be_neg, be_rem, be_bi, be_bl, be_bv, be_br, be_bE0, be_bE1, be_b1E, be_b0E, be_bkb, be_cast, Int.toNat_natCast, Int.reduceToNat, be_lt, be_le, be_eq, be_nt, be_ck, be_nz, be_bk, be_div, not_true_eq_false, not_false_eq_true, if_true, if_false, eq_self, Int.reduceEq, Int.reduceLT, Int.reduceLE, Bool.true_eq_false, Bool.false_eq_true, c1, am_b204_7]
    · rw [am_s9]
      simp (disch := (first | assumption | omega | exact (be_gB _ _ _).1 | exact (be_gB _ _ _).2)) only [↓reduceIte, be_ofI, ↓be_ofN, ↓be_0, be_add, be_sub, be_mul, be_neg, be_rem, be_bi, be_bl, be_bv, be_br, be_bE0, be_bE1, be_b1E, be_b0E, be_bkb, be_cast, Int.toNat_natCast, Int.reduceToNat, be_lt, be_le, be_eq, be_nt, be_ck, be_nz, be_bk, be_div, not_true_eq_false, not_false_eq_true, if_true, if_false, eq_self, Int.reduceEq, Int.reduceLT, Int.reduceLE, Bool.true_eq_false, Bool.false_eq_true, c2, am_b9_5]
theorem be_chour (hd : 12 ≤ d) (hI : be_IV a b u e f) {x v t l p : Int} (hx1 : -2147483648 ≤ x) (hx2 : x < 2147483648) (hv1 : -2147483648 ≤ v) (hv2 : v < 2147483648) (ht1 : -2147483648 ≤ t) (ht2 : t < 2147483648) (hl1 : -2147483648 ≤ l) (hl2 : l < 2147483648) (hp1 : -2147483648 ≤ p) (hp2 : p < 2147483648) : be_C X d 205 10 [am_I (be_i (x)), am_I (be_i (v)), am_I (be_i (t)), am_I (be_i (l)), am_I (be_i (p))] a b u e f := by
  obtain ⟨d, rfl⟩ : ∃ q, d = q + 1 := ⟨d - 1, by omega⟩
  have he := be_gI e
  have hI' := hI
  obtain ⟨⟨hW, hW2, hT, hh, hD, hth, hX⟩, hN, -⟩ := hI'
  have hW1 := hW.1
  have o2 := hX.1.2.1
  have cx := be_m250 (X := X) (a := a) (b := b) (u := u) (e := e) (f := f) (d := d) (x := x) (y := 0) (z := 6) (by omega) hx1 hx2 (by decide) (by decide) (by decide) (by decide)
  have cv := be_m250 (X := X) (a := a) (b := b) (u := u) (e := e) (f := f) (d := d) (x := v) (y := 0) (z := 9) (by omega) hv1 hv2 (by decide) (by decide) (by decide) (by decide)
  have ct := be_m250 (X := X) (a := a) (b := b) (u := u) (e := e) (f := f) (d := d) (x := t) (y := 0) (z := 39) (by omega) ht1 ht2 (by decide) (by decide) (by decide) (by decide)
  have cl := be_m250 (X := X) (a := a) (b := b) (u := u) (e := e) (f := f) (d := d) (x := l) (y := 1) (z := 12) (by omega) hl1 hl2 (by decide) (by decide) (by decide) (by decide)
  have cp := be_m250 (X := X) (a := a) (b := b) (u := u) (e := e) (f := f) (d := d) (x := p) (y := 1) (z := 20) (by omega) hp1 hp2 (by decide) (by decide) (by decide) (by decide)
  have mx := fun a' => be_m1 (X := X) (a := a') (b := b) (u := u) (e := e) (f := f) (d := d) (x := x) (y := 0) (z := 6) (by omega) hx1 hx2 (by decide) (by decide) (by decide) (by decide)
  have mv := fun a' => be_m1 (X := X) (a := a') (b := b) (u := u) (e := e) (f := f) (d := d) (x := v) (y := 0) (z := 9) (by omega) hv1 hv2 (by decide) (by decide) (by decide) (by decide)
  have mt := fun a' => be_m7 (X := X) (a := a') (b := b) (u := u) (e := e) (f := f) (d := d) (x := t) (by omega) ht1 ht2
  have ml := fun a' => be_m1 (X := X) (a := a') (b := b) (u := u) (e := e) (f := f) (d := d) (x := l) (y := 1) (z := 12) (by omega) hl1 hl2 (by decide) (by decide) (by decide) (by decide)
  have mp := fun a' => be_m8 (X := X) (a := a') (b := b) (u := u) (e := e) (f := f) (d := d) (x := p) (by omega) hp1 hp2
  by_cases gx : 0 ≤ x ∧ x ≤ 6
  · rw [decide_eq_true gx] at cx mx
    by_cases gv : 0 ≤ v ∧ v ≤ 9
    · rw [decide_eq_true gv] at cv mv
      by_cases gt : 0 ≤ t ∧ t ≤ 39
      · rw [decide_eq_true gt] at ct mt
        by_cases gl : 1 ≤ l ∧ l ≤ 12
        · rw [decide_eq_true gl] at cl ml
          by_cases gp : 1 ≤ p ∧ p ≤ 20
          · rw [decide_eq_true gp] at cp mp
            obtain ⟨n, hn⟩ := be_0le hW1.2.2.2.2.1
            rw [hn] at o2
            by_cases hr : n = 6
            · subst hr
              refine be_Cp (v := be_i (-4)) hI ?_ ?_
              · rw [am_s205]
                simp (disch := (first | assumption | omega | exact (be_gB _ _ _).1 | exact (be_gB _ _ _).2)) only [↓reduceIte, be_ofI, ↓be_ofN, ↓be_0, be_add, be_sub, be_mul, be_neg, be_rem, be_bi, be_bl, be_bv, be_br, be_bE0, be_bE1, be_b1E, be_b0E, be_bkb, be_cast, Int.toNat_natCast, Int.reduceToNat, be_lt, be_le, be_eq, be_nt, be_ck, be_nz, be_bk, be_div, not_true_eq_false, not_false_eq_true, if_true, if_false, eq_self, Int.reduceEq, Int.reduceLT, Int.reduceLE, Bool.true_eq_false, Bool.false_eq_true, cx, cv, ct, cl, cp, o2, am_b205_7, am_b205_19, am_b205_29, am_b205_40, am_b205_51, am_b205_109]
                rfl
              · rw [am_s10]
                simp (disch := (first | assumption | omega | exact (be_gB _ _ _).1 | exact (be_gB _ _ _).2)) only [↓reduceIte, be_ofI, ↓be_ofN, ↓be_0, be_add, be_sub, be_mul, be_neg, be_rem, be_bi, be_bl, be_bv, be_br, be_bE0, be_bE1, be_b1E, be_b0E, be_bkb, be_cast, Int.toNat_natCast, Int.reduceToNat, be_lt, be_le, be_eq, be_nt, be_ck, be_nz, be_bk, be_div, not_true_eq_false, not_false_eq_true, if_true, if_false, eq_self, Int.reduceEq, Int.reduceLT, Int.reduceLE, Bool.true_eq_false, Bool.false_eq_true, mx, mv, mt, ml, mp, he, hn, am_b10_8, am_b10_21, am_b10_29, am_b10_41, am_b10_50]
                rfl
            · obtain ⟨a1, h131, p1, p2, p3, p4, p5, p6, p7, p8⟩ := be_m131 (X := X) (a := a) (b := b) (u := u) (e := e) (f := f) (d := d) (x0 := n) (y1 := be_i x) (y2 := be_i v) (y3 := be_i t) (y4 := be_i l) (y5 := be_i p) (by omega)
              obtain ⟨e', he'⟩ : ∃ e', e' = am_w3 (am_w3 (am_w3 (am_w3 (am_w3 (am_w3 (am_w3 (am_w3 (am_w3 (am_w3 (am_w3 e 52 0 n (be_i x)) 53 0 n (be_i v)) 54 0 n (be_i t)) 55 0 n (be_i l)) 56 0 n (be_i p)) 57 0 n (be_i 4)) 58 0 (4 * n) (be_i 0)) 58 0 (4 * n + 1) (be_i 0)) 58 0 (4 * n + 2) (be_i 0)) 58 0 (4 * n + 3) (be_i 0)) 50 0 2 (be_i ((n : Int) + 1)) := ⟨_, rfl⟩
              obtain ⟨a', ha'⟩ : ∃ a', a' = am_w3 a1 2 0 3 (be_i ((n : Int) + 1)) := ⟨_, rfl⟩
              have hq : ∀ c j, ¬ ((c = 50 ∧ j = 2) ∨ ((52 ≤ c ∧ c ≤ 57) ∧ j = n) ∨ (c = 58 ∧ 4 * n ≤ j ∧ j < 4 * n + 4)) → be_g e' c j = be_g e c j := fun c j h => by rw [he']; simp (disch := omega) only [be_gn]
              have r2 : be_g e' 50 2 = (n : Int) + 1 := by rw [he', be_gw _ _ _ _ _ (by omega) (by omega), if_pos ⟨rfl, rfl⟩]
              have r52 : be_g e' 52 n = x := by rw [he']; simp (disch := omega) only [be_gn]; rw [be_gw _ _ _ _ _ (by omega) (by omega), if_pos ⟨rfl, rfl⟩]
              have r53 : be_g e' 53 n = v := by rw [he']; simp (disch := omega) only [be_gn]; rw [be_gw _ _ _ _ _ (by omega) (by omega), if_pos ⟨rfl, rfl⟩]
              have r54 : be_g e' 54 n = t := by rw [he']; simp (disch := omega) only [be_gn]; rw [be_gw _ _ _ _ _ (by omega) (by omega), if_pos ⟨rfl, rfl⟩]
              have r55 : be_g e' 55 n = l := by rw [he']; simp (disch := omega) only [be_gn]; rw [be_gw _ _ _ _ _ (by omega) (by omega), if_pos ⟨rfl, rfl⟩]
              have r56 : be_g e' 56 n = p := by rw [he']; simp (disch := omega) only [be_gn]; rw [be_gw _ _ _ _ _ (by omega) (by omega), if_pos ⟨rfl, rfl⟩]
              have r57 : be_g e' 57 n = 4 := by rw [he']; simp (disch := omega) only [be_gn]; rw [be_gw _ _ _ _ _ (by omega) (by omega), if_pos ⟨rfl, rfl⟩]
              have r58 : ∀ j, j < 4 → be_g e' 58 (4 * n + j) = 0 := fun j hj => by
                rw [he']
                rcases (show j = 0 ∨ j = 1 ∨ j = 2 ∨ j = 3 by omega) with rfl | rfl | rfl | rfl
                · simp (disch := omega) only [be_gn]; rw [be_gw _ _ _ _ _ (by omega) (by omega), if_pos ⟨rfl, rfl⟩]
                · simp (disch := omega) only [be_gn]; rw [be_gw _ _ _ _ _ (by omega) (by omega), if_pos ⟨rfl, rfl⟩]
                · simp (disch := omega) only [be_gn]; rw [be_gw _ _ _ _ _ (by omega) (by omega), if_pos ⟨rfl, rfl⟩]
                · simp (disch := omega) only [be_gn]; rw [be_gw _ _ _ _ _ (by omega) (by omega), if_pos ⟨rfl, rfl⟩]
              have ha : ∀ c k j, ¬ ((k = n ∧ (c = 1 ∧ 1 ≤ j ∧ j ≤ 6 ∨ c = 11 ∧ j < 4)) ∨ (c = 2 ∧ k = 0 ∧ j = 3)) → a' c k j = a c k j := fun c k j h => by rw [ha', be_w3n _ _ _ _ _ _ _ _ (by omega)]; exact p8 _ _ _ (by omega)
              have a2 : a' 2 0 3 = be_i ((n : Int) + 1) := by rw [ha', be_w3s]
              have aq : ∀ c j, ¬ c = 2 → a' c n j = a1 c n j := fun c j h => by rw [ha']; exact be_w3n _ _ _ _ _ _ _ _ (by omega)
              have a1o : a1 2 0 3 = be_i (n : Int) := by rw [p8 _ _ _ (by omega)]; exact o2
              have hnh : be_nh e = n := by unfold be_nh; omega
              refine be_Ch (v := be_i (n : Int)) (a' := a') (e' := e') hI ?_ ?_ (fun c k j h => ha _ _ _ (by unfold be_inH at h; omega)) (fun k => ha _ _ _ (by omega)) (fun k => ha _ _ _ (by omega)) (fun c j h => hq _ _ (by omega)) ?_
              · rw [am_s205]
                simp (disch := (first | assumption | omega | exact (be_gB _ _ _).1 | exact (be_gB _ _ _).2)) only [↓reduceIte, be_ofI, ↓be_ofN, ↓be_0, be_add, be_sub, be_mul, be_neg, be_rem, be_bi, be_bl, be_bv, be_br, be_bE0, be_bE1, be_b1E, be_b0E, be_bkb, be_cast, Int.toNat_natCast, Int.reduceToNat, be_lt, be_le, be_eq, be_nt, be_ck, be_nz, be_bk, be_div, not_true_eq_false, not_false_eq_true, if_true, if_false, eq_self, Int.reduceEq, Int.reduceLT, Int.reduceLE, Bool.true_eq_false, Bool.false_eq_true, cx, cv, ct, cl, cp, o2, h131, a1o, am_b205_7, am_b205_19, am_b205_29, am_b205_40, am_b205_51, am_b205_109]
                rw [if_pos (by omega), ha']
              · have i0 : (4 * (n : Int) + 0).toNat = 4 * n := by omega
                have i1 : (4 * (n : Int) + 1).toNat = 4 * n + 1 := by omega
                have i2 : (4 * (n : Int) + 2).toNat = 4 * n + 2 := by omega
                have i3 : (4 * (n : Int) + 3).toNat = 4 * n + 3 := by omega
                rw [am_s10]
                simp (disch := (first | assumption | omega | exact (be_gB _ _ _).1 | exact (be_gB _ _ _).2)) only [↓reduceIte, be_ofI, ↓be_ofN, ↓be_0, be_add, be_sub, be_mul, be_neg, be_rem, be_bi, be_bl, be_bv, be_br, be_bE0, be_bE1, be_b1E, be_b0E, be_bkb, be_cast, Int.toNat_natCast, Int.reduceToNat, be_lt, be_le, be_eq, be_nt, be_ck, be_nz, be_bk, be_div, not_true_eq_false, not_false_eq_true, if_true, if_false, eq_self, Int.reduceEq, Int.reduceLT, Int.reduceLE, Bool.true_eq_false, Bool.false_eq_true, mx, mv, mt, ml, mp, he, hn, am_b10_8, am_b10_21, am_b10_29, am_b10_41, am_b10_50]
                rw [if_pos (by omega), am_b10_133]
                simp (disch := (first | assumption | omega | exact (be_gB _ _ _).1 | exact (be_gB _ _ _).2)) only [↓reduceIte, be_ofI, ↓be_ofN, ↓be_0, be_add, be_sub, be_mul, be_neg, be_rem, be_bi, be_bl, be_bv, be_br, be_bE0, be_bE1, be_b1E, be_b0E, be_bkb, be_cast, Int.toNat_natCast, Int.reduceToNat, be_lt, be_le, be_eq, be_nt, be_ck, be_nz, be_bk, be_div, not_true_eq_false, not_false_eq_true, if_true, if_false, eq_self, Int.reduceEq, Int.reduceLT, Int.reduceLE, Bool.true_eq_false, Bool.false_eq_true, be_w3n, he, hn, i0, Int.reduceAdd]
                rw [am_b10_133]
                simp (disch := (first | assumption | omega | exact (be_gB _ _ _).1 | exact (be_gB _ _ _).2)) only [↓reduceIte, be_ofI, ↓be_ofN, ↓be_0, be_add, be_sub, be_mul, be_neg, be_rem, be_bi, be_bl, be_bv, be_br, be_bE0, be_bE1, be_b1E, be_b0E, be_bkb, be_cast, Int.toNat_natCast, Int.reduceToNat, be_lt, be_le, be_eq, be_nt, be_ck, be_nz, be_bk, be_div, not_true_eq_false, not_false_eq_true, if_true, if_false, eq_self, Int.reduceEq, Int.reduceLT, Int.reduceLE, Bool.true_eq_false, Bool.false_eq_true, be_w3n, he, hn, i1, Int.reduceAdd]
                rw [am_b10_133]
                simp (disch := (first | assumption | omega | exact (be_gB _ _ _).1 | exact (be_gB _ _ _).2)) only [↓reduceIte, be_ofI, ↓be_ofN, ↓be_0, be_add, be_sub, be_mul, be_neg, be_rem, be_bi, be_bl, be_bv, be_br, be_bE0, be_bE1, be_b1E, be_b0E, be_bkb, be_cast, Int.toNat_natCast, Int.reduceToNat, be_lt, be_le, be_eq, be_nt, be_ck, be_nz, be_bk, be_div, not_true_eq_false, not_false_eq_true, if_true, if_false, eq_self, Int.reduceEq, Int.reduceLT, Int.reduceLE, Bool.true_eq_false, Bool.false_eq_true, be_w3n, he, hn, i2, Int.reduceAdd]
                rw [am_b10_133]
                simp (disch := (first | assumption | omega | exact (be_gB _ _ _).1 | exact (be_gB _ _ _).2)) only [↓reduceIte, be_ofI, ↓be_ofN, ↓be_0, be_add, be_sub, be_mul, be_neg, be_rem, be_bi, be_bl, be_bv, be_br, be_bE0, be_bE1, be_b1E, be_b0E, be_bkb, be_cast, Int.toNat_natCast, Int.reduceToNat, be_lt, be_le, be_eq, be_nt, be_ck, be_nz, be_bk, be_div, not_true_eq_false, not_false_eq_true, if_true, if_false, eq_self, Int.reduceEq, Int.reduceLT, Int.reduceLE, Bool.true_eq_false, Bool.false_eq_true, be_w3n, he, hn, i3, Int.reduceAdd]
                rw [am_b10_133]
                simp (disch := (first | assumption | omega | exact (be_gB _ _ _).1 | exact (be_gB _ _ _).2)) only [↓reduceIte, be_ofI, ↓be_ofN, ↓be_0, be_add, be_sub, be_mul, be_neg, be_rem, be_bi, be_bl, be_bv, be_br, be_bE0, be_bE1, be_b1E, be_b0E, be_bkb, be_cast, Int.toNat_natCast, Int.reduceToNat, be_lt, be_le, be_eq, be_nt, be_ck, be_nz, be_bk, be_div, not_true_eq_false, not_false_eq_true, if_true, if_false, eq_self, Int.reduceEq, Int.reduceLT, Int.reduceLE, Bool.true_eq_false, Bool.false_eq_true, be_w3n, he, hn]
                rw [he', show (n : Int) + 1 - 1 = n by omega]
              · skip
                obtain ⟨qE, hE, theE, numE, tE⟩ := be_of_t (e := e) (e' := e') (fun c j h => hq _ _ (by omega)) (hq _ _ (by omega)) (hq _ _ (by omega))
                have nhE : be_nh e' = n + 1 := by unfold be_nh at hnh ⊢; rw [r2]; omega
                have nrE : be_nr e' = be_nr e := by unfold be_nr; rw [hq _ _ (by omega)]
                have ftE : ∀ r, be_ft e' r = be_ft e r := fun r => by unfold be_ft; rw [hq _ _ (by omega)]
                obtain ⟨⟨o1, o2, o3, o4, o5, o6, o7⟩, x1, x2, ⟨s1, s2⟩, ⟨p1, p2⟩, ⟨k1, k2⟩⟩ := hX
                refine ⟨?_, ?_, tE hT, ?_, ?_, ?_, ?_⟩
                · skip
                  refine ⟨?_, ?_, ?_, ?_⟩
                  · have y := hW.1
                    simp (disch := omega) only [hq, r2]
                    omega
                  · intro g hg
                    by_cases hgn : g = n
                    · subst hgn; rw [r52, r53, r54, r55, r56, r57]; omega
                    · simp (disch := omega) only [hq]; exact hW.2.1 g hg
                  · intro g hg; simp (disch := omega) only [hq]; exact hW.2.2.1 g hg
                  · intro g hg
                    by_cases hgn : 4 * n ≤ g ∧ g < 4 * n + 4
                    · have := r58 (g - 4 * n) (by omega)
                      rw [show 4 * n + (g - 4 * n) = g by omega] at this
                      rw [this]; omega
                    · rw [hq _ _ (by omega)]; exact hW.2.2.2 g hg
                · skip
                  refine ⟨?_, ?_, ?_, ?_⟩
                  · intro g hg
                    rw [r2] at hg
                    by_cases hgn : g = n
                    · subst hgn; exact Or.inl r57
                    · rw [hq 57 g (by omega), hq 50 0 (by omega)]; exact hW2.1 g (by omega)
                  · refine ⟨?_, ?_, fun k hk => ?_⟩
                    · simp (disch := omega) only [hq]; exact hW2.2.1.1
                    · simp (disch := omega) only [hq]; exact hW2.2.1.2.1
                    · simp (disch := omega) only [hq] at hk ⊢; exact hW2.2.1.2.2 k hk
                  · refine ⟨?_, ?_, fun k hk => ?_⟩
                    · simp (disch := omega) only [hq]; exact hW2.2.2.1.1
                    · simp (disch := omega) only [hq]; exact hW2.2.2.1.2.1
                    · simp (disch := omega) only [hq, r2] at hk ⊢
                      have := hW2.2.2.1.2.2 k hk; omega
                  · refine ⟨?_, ?_, fun k hk => ?_⟩
                    · simp (disch := omega) only [hq]; exact hW2.2.2.2.1
                    · simp (disch := omega) only [hq]; exact hW2.2.2.2.2.1
                    · simp (disch := omega) only [hq, r2] at hk ⊢
                      have := hW2.2.2.2.2.2 k hk; omega
                · rw [hq _ _ (by omega)]; exact hh
                · rw [hq _ _ (by omega)]; exact hD
                · rw [hq _ _ (by omega), hq _ _ (by omega)]; exact hth
                · skip
                  refine ⟨⟨?_, ?_, ?_, ?_, ?_, ?_, ?_⟩, ?_, ?_, ⟨?_, ?_⟩, ⟨?_, ?_⟩, ⟨?_, ?_⟩⟩
                  · rw [ha _ _ _ (by omega), hq _ _ (by omega)]; exact o1
                  · rw [a2, r2]
                  · rw [ha _ _ _ (by omega), hq _ _ (by omega)]; exact o3
                  · rw [ha _ _ _ (by omega), hE]; exact o4
                  · rw [ha _ _ _ (by omega), qE]; exact o5
                  · intro g hg
                    rw [nhE] at hg
                    by_cases hgn : g = n
                    · subst hgn
                      refine ⟨?_, ?_, ?_, ?_, ?_, ?_, ?_, ?_⟩
                      · rw [ha _ _ _ (by omega)]; exact (hN 0 (by decide)).1 g (by omega)
                      · rw [r52]; exact (aq 1 1 (by decide)).trans p1
                      · rw [r53]; exact (aq 1 2 (by decide)).trans p2
                      · rw [r54]; exact (aq 1 3 (by decide)).trans p3
                      · rw [r55]; exact (aq 1 4 (by decide)).trans p4
                      · rw [r56]; exact (aq 1 5 (by decide)).trans p5
                      · rw [r57, if_pos rfl]; exact (aq 1 6 (by decide)).trans p6
                      · intro j hj; rw [r58 j hj]; exact (aq 11 j (by decide)).trans (p7 j hj)
                    · obtain ⟨y0, y1, y2, y3, y4, y5, y6, y7⟩ := o6 g (by omega)
                      refine ⟨?_, ?_, ?_, ?_, ?_, ?_, ?_, ?_⟩
                      · rw [ha _ _ _ (by omega)]; exact y0
                      · rw [ha _ _ _ (by omega), hq _ _ (by omega)]; exact y1
                      · rw [ha _ _ _ (by omega), hq _ _ (by omega)]; exact y2
                      · rw [ha _ _ _ (by omega), hq _ _ (by omega)]; exact y3
                      · rw [ha _ _ _ (by omega), hq _ _ (by omega)]; exact y4
                      · rw [ha _ _ _ (by omega), hq _ _ (by omega)]; exact y5
                      · rw [ha _ _ _ (by omega), hq _ _ (by omega)]; exact y6
                      · intro j hj; rw [ha _ _ _ (by omega), hq _ _ (by omega)]; exact y7 j hj
                  · intro g hg
                    rw [nrE] at hg
                    have z := o7 g hg
                    unfold be_RR at z ⊢
                    simp (disch := omega) only [ha, hq, ftE]
                    exact z
                  · rw [hq _ _ (by omega)]; exact x1
                  · rw [theE, numE]; exact be_OW_t (fun c k j h => ha _ _ _ (by omega)) (fun c j h => hq _ _ (by omega)) x2
                  · rw [ha _ _ _ (by omega), hq _ _ (by omega)]; exact s1
                  · intro k hk
                    simp (disch := omega) only [ha, hq] at hk ⊢
                    exact s2 k hk
                  · rw [ha _ _ _ (by omega), hq _ _ (by omega)]; exact p1
                  · intro k hk
                    simp (disch := omega) only [ha, hq] at hk ⊢
                    exact p2 k hk
                  · rw [ha _ _ _ (by omega), hq _ _ (by omega)]; exact k1
                  · intro k hk
                    simp (disch := omega) only [ha, hq] at hk ⊢
                    exact k2 k hk
          · rw [decide_eq_false gp] at cp mp
            refine be_Cp (v := be_i (-2)) hI ?_ ?_
            · rw [am_s205]
              simp (disch := (first | assumption | omega | exact (be_gB _ _ _).1 | exact (be_gB _ _ _).2)) only [↓reduceIte, be_ofI, ↓be_ofN, ↓be_0, be_add, be_sub, be_mul, be_neg, be_rem, be_bi, be_bl, be_bv, be_br, be_bE0, be_bE1, be_b1E, be_b0E, be_bkb, be_cast, Int.toNat_natCast, Int.reduceToNat, be_lt, be_le, be_eq, be_nt, be_ck, be_nz, be_bk, be_div, not_true_eq_false, not_false_eq_true, if_true, if_false, eq_self, Int.reduceEq, Int.reduceLT, Int.reduceLE, Bool.true_eq_false, Bool.false_eq_true, cx, cv, ct, cl, cp, am_b205_7, am_b205_19, am_b205_29, am_b205_40, am_b205_51]
            · rw [am_s10]
              simp (disch := (first | assumption | omega | exact (be_gB _ _ _).1 | exact (be_gB _ _ _).2)) only [↓reduceIte, be_ofI, ↓be_ofN, ↓be_0, be_add, be_sub, be_mul, be_neg, be_rem, be_bi, be_bl, be_bv, be_br, be_bE0, be_bE1, be_b1E, be_b0E, be_bkb, be_cast, Int.toNat_natCast, Int.reduceToNat, be_lt, be_le, be_eq, be_nt, be_ck, be_nz, be_bk, be_div, not_true_eq_false, not_false_eq_true, if_true, if_false, eq_self, Int.reduceEq, Int.reduceLT, Int.reduceLE, Bool.true_eq_false, Bool.false_eq_true, mx, mv, mt, ml, mp, am_b10_8, am_b10_21, am_b10_29, am_b10_41, am_b10_50]
        · rw [decide_eq_false gl] at cl ml
          refine be_Cp (v := be_i (-2)) hI ?_ ?_
          · rw [am_s205]
            simp (disch := (first | assumption | omega | exact (be_gB _ _ _).1 | exact (be_gB _ _ _).2)) only [↓reduceIte, be_ofI, ↓be_ofN, ↓be_0, be_add, be_sub, be_mul, be_neg, be_rem, be_bi, be_bl, be_bv, be_br, be_bE0, be_bE1, be_b1E, be_b0E, be_bkb, be_cast, Int.toNat_natCast, Int.reduceToNat, be_lt, be_le, be_eq, be_nt, be_ck, be_nz, be_bk, be_div, not_true_eq_false, not_false_eq_true, if_true, if_false, eq_self, Int.reduceEq, Int.reduceLT, Int.reduceLE, Bool.true_eq_false, Bool.false_eq_true, cx, cv, ct, cl, am_b205_7, am_b205_19, am_b205_29, am_b205_40]
          · rw [am_s10]
            simp (disch := (first | assumption | omega | exact (be_gB _ _ _).1 | exact (be_gB _ _ _).2)) only [↓reduceIte, be_ofI, ↓be_ofN, ↓be_0, be_add, be_sub, be_mul, be_neg, be_rem, be_bi, be_bl, be_bv, be_br, be_bE0, be_bE1, be_b1E, be_b0E, be_bkb, be_cast, Int.toNat_natCast, Int.reduceToNat, be_lt, be_le, be_eq, be_nt, be_ck, be_nz, be_bk, be_div, not_true_eq_false, not_false_eq_true, if_true, if_false, eq_self, Int.reduceEq, Int.reduceLT, Int.reduceLE, Bool.true_eq_false, Bool.false_eq_true, mx, mv, mt, ml, am_b10_8, am_b10_21, am_b10_29, am_b10_41]
      · rw [decide_eq_false gt] at ct mt
        refine be_Cp (v := be_i (-2)) hI ?_ ?_
        · rw [am_s205]
          simp (disch := (first | assumption | omega | exact (be_gB _ _ _).1 | exact (be_gB _ _ _).2)) only [↓reduceIte, be_ofI, ↓be_ofN, ↓be_0, be_add, be_sub, be_mul, be_neg, be_rem, be_bi, be_bl, be_bv, be_br, be_bE0, be_bE1, be_b1E, be_b0E, be_bkb, be_cast, Int.toNat_natCast, Int.reduceToNat, be_lt, be_le, be_eq, be_nt, be_ck, be_nz, be_bk, be_div, not_true_eq_false, not_false_eq_true, if_true, if_false, eq_self, Int.reduceEq, Int.reduceLT, Int.reduceLE, Bool.true_eq_false, Bool.false_eq_true, cx, cv, ct, am_b205_7, am_b205_19, am_b205_29]
        · rw [am_s10]
          simp (disch := (first | assumption | omega | exact (be_gB _ _ _).1 | exact (be_gB _ _ _).2)) only [↓reduceIte, be_ofI, ↓be_ofN, ↓be_0, be_add, be_sub, be_mul, be_neg, be_rem, be_bi, be_bl, be_bv, be_br, be_bE0, be_bE1, be_b1E, be_b0E, be_bkb, be_cast, Int.toNat_natCast, Int.reduceToNat, be_lt, be_le, be_eq, be_nt, be_ck, be_nz, be_bk, be_div, not_true_eq_false, not_false_eq_true, if_true, if_false, eq_self, Int.reduceEq, Int.reduceLT, Int.reduceLE, Bool.true_eq_false, Bool.false_eq_true, mx, mv, mt, am_b10_8, am_b10_21, am_b10_29]
    · rw [decide_eq_false gv] at cv mv
      refine be_Cp (v := be_i (-2)) hI ?_ ?_
      · rw [am_s205]
        simp (disch := (first | assumption | omega | exact (be_gB _ _ _).1 | exact (be_gB _ _ _).2)) only [↓reduceIte, be_ofI, ↓be_ofN, ↓be_0, be_add, be_sub, be_mul, be_neg, be_rem, be_bi, be_bl, be_bv, be_br, be_bE0, be_bE1, be_b1E, be_b0E, be_bkb, be_cast, Int.toNat_natCast, Int.reduceToNat, be_lt, be_le, be_eq, be_nt, be_ck, be_nz, be_bk, be_div, not_true_eq_false, not_false_eq_true, if_true, if_false, eq_self, Int.reduceEq, Int.reduceLT, Int.reduceLE, Bool.true_eq_false, Bool.false_eq_true, cx, cv, am_b205_7, am_b205_19]
      · rw [am_s10]
        simp (disch := (first | assumption | omega | exact (be_gB _ _ _).1 | exact (be_gB _ _ _).2)) only [↓reduceIte, be_ofI, ↓be_ofN, ↓be_0, be_add, be_sub, be_mul, be_neg, be_rem, be_bi, be_bl, be_bv, be_br, be_bE0, be_bE1, be_b1E, be_b0E, be_bkb, be_cast, Int.toNat_natCast, Int.reduceToNat, be_lt, be_le, be_eq, be_nt, be_ck, be_nz, be_bk, be_div, not_true_eq_false, not_false_eq_true, if_true, if_false, eq_self, Int.reduceEq, Int.reduceLT, Int.reduceLE, Bool.true_eq_false, Bool.false_eq_true, mx, mv, am_b10_8, am_b10_21]
  · rw [decide_eq_false gx] at cx mx
    refine be_Cp (v := be_i (-1)) hI ?_ ?_
    · rw [am_s205]
      simp (disch := (first | assumption | omega | exact (be_gB _ _ _).1 | exact (be_gB _ _ _).2)) only [↓reduceIte, be_ofI, ↓be_ofN, ↓be_0, be_add, be_sub, be_mul, be_neg, be_rem, be_bi, be_bl, be_bv, be_br, be_bE0, be_bE1, be_b1E, be_b0E, be_bkb, be_cast, Int.toNat_natCast, Int.reduceToNat, be_lt, be_le, be_eq, be_nt, be_ck, be_nz, be_bk, be_div, not_true_eq_false, not_false_eq_true, if_true, if_false, eq_self, Int.reduceEq, Int.reduceLT, Int.reduceLE, Bool.true_eq_false, Bool.false_eq_true, cx, am_b205_7]
    · rw [am_s10]
      simp (disch := (first | assumption | omega | exact (be_gB _ _ _).1 | exact (be_gB _ _ _).2)) only [↓reduceIte, be_ofI, ↓be_ofN, ↓be_0, be_add, be_sub, be_mul, be_neg, be_rem, be_bi, be_bl, be_bv, be_br, be_bE0, be_bE1, be_b1E, be_b0E, be_bkb, be_cast, Int.toNat_natCast, Int.reduceToNat, be_lt, be_le, be_eq, be_nt, be_ck, be_nz, be_bk, be_div, not_true_eq_false, not_false_eq_true, if_true, if_false, eq_self, Int.reduceEq, Int.reduceLT, Int.reduceLE, Bool.true_eq_false, Bool.false_eq_true, mx, am_b10_8]
theorem be_cfeed (hd : 12 ≤ d) (hI : be_IV a b u e f) {x : Int} (hx1 : -2147483648 ≤ x) (hx2 : x < 2147483648) : be_C X d 214 13 [am_I (be_i (x))] a b u e f := by
  obtain ⟨d, rfl⟩ : ∃ q, d = q + 1 := ⟨d - 1, by omega⟩
  obtain ⟨d, rfl⟩ : ∃ q, d = q + 1 := ⟨d - 1, by omega⟩
  have he := be_gI e
  have hI' := hI
  obtain ⟨h1, hN, h3, h4, h5, h6, h7, h8⟩ := hI'
  obtain ⟨t1, t2, t3, t4, t5⟩ := h4
  have c1 := be_m250 (X := X) (a := a) (b := b) (u := u) (e := e) (f := f) (d := d + 1) (x := x) (y := 0) (z := 127) (by omega) hx1 hx2 (by decide) (by decide) (by decide) (by decide)
  have c2 := fun a' => be_m1 (X := X) (a := a') (b := b) (u := u) (e := e) (f := f) (d := d + 1) (x := x) (y := 0) (z := 127) (by omega) hx1 hx2 (by decide) (by decide) (by decide) (by decide)
  have hbyte : ∀ n : Nat, n < 128 → (be_i (n : Int)).toInt8.toInt32.toInt8.toInt32 = be_i (n : Int) := by decide +kernel
  by_cases hx : 0 ≤ x ∧ x ≤ 127
  · rw [decide_eq_true hx] at c1 c2
    obtain ⟨s, rfl⟩ := be_0le hx.1
    have hby := hbyte s (by omega)
    obtain ⟨n, hn⟩ := be_0le t2
    rw [hn] at t1
    by_cases hr : n = 100
    · subst hr
      refine be_Cp (v := be_i (-4)) hI ?_ ?_
      · rw [am_s214, c1, be_bi, am_b214_7, am_s168]
        simp (disch := (first | assumption | omega | exact (be_gB _ _ _).1 | exact (be_gB _ _ _).2)) only [↓reduceIte, be_ofI, ↓be_ofN, ↓be_0, be_add, be_sub, be_mul, be_neg, be_rem, be_bi, be_bl, be_bv, be_br, be_bE0, be_bE1, be_b1E, be_b0E, be_bkb, be_cast, Int.toNat_natCast, Int.reduceToNat, be_lt, be_le, be_eq, be_nt, be_ck, be_nz, be_bk, be_div, not_true_eq_false, not_false_eq_true, if_true, if_false, eq_self, Int.reduceEq, Int.reduceLT, Int.reduceLE, Bool.true_eq_false, Bool.false_eq_true, t1]
        rw [if_neg (by omega), be_bi, am_b214_18]
      · rw [am_s13]
        simp (disch := (first | assumption | omega | exact (be_gB _ _ _).1 | exact (be_gB _ _ _).2)) only [↓reduceIte, be_ofI, ↓be_ofN, ↓be_0, be_add, be_sub, be_mul, be_neg, be_rem, be_bi, be_bl, be_bv, be_br, be_bE0, be_bE1, be_b1E, be_b0E, be_bkb, be_cast, Int.toNat_natCast, Int.reduceToNat, be_lt, be_le, be_eq, be_nt, be_ck, be_nz, be_bk, be_div, not_true_eq_false, not_false_eq_true, if_true, if_false, eq_self, Int.reduceEq, Int.reduceLT, Int.reduceLE, Bool.true_eq_false, Bool.false_eq_true, c2, he, hn, am_b13_8]
        rfl
    · obtain ⟨e', he'⟩ : ∃ e', e' = am_w3 (am_w3 e 59 0 n (be_i (s : Int))) 50 0 14 (be_i ((n : Int) + 1)) := ⟨_, rfl⟩
      obtain ⟨a', ha'⟩ : ∃ a', a' = am_w3 (am_w3 a 17 0 n (be_i (s : Int))) 4 0 1 (be_i ((n : Int) + 1)) := ⟨_, rfl⟩
      have hq : ∀ c j, ¬ ((c = 50 ∧ j = 14) ∨ (c = 59 ∧ j = n)) → be_g e' c j = be_g e c j := fun c j h => by rw [he']; simp (disch := omega) only [be_gn]
      have r1 : be_g e' 50 14 = (n : Int) + 1 := by rw [he', be_gw _ _ _ _ _ (by omega) (by omega), if_pos ⟨rfl, rfl⟩]
      have r2 : be_g e' 59 n = (s : Int) := by rw [he', be_gn _ _ _ _ _ _ _ (by omega), be_gw _ _ _ _ _ (by omega) (by omega), if_pos ⟨rfl, rfl⟩]
      have ha : ∀ c k j, ¬ ((c = 4 ∧ k = 0 ∧ j = 1) ∨ (c = 17 ∧ k = 0 ∧ j = n)) → a' c k j = a c k j := fun c k j h => by rw [ha']; simp (disch := omega) only [be_w3n]
      have s1 : a' 4 0 1 = be_i ((n : Int) + 1) := by rw [ha', be_w3s]
      have s2 : a' 17 0 n = be_i (s : Int) := by rw [ha']; simp (disch := omega) only [be_w3n, be_w3s]
      refine ⟨be_i ((n : Int) + 1), a', b, u, e', f, ?_, ?_, be_t1 (by decide) (fun c j h => hq _ _ (by omega)) (fun c k j h => ha _ _ _ (by unfold be_inH at h; omega)) rfl h1, be_NM_t hN (fun k => ha _ _ _ (by omega)) (fun k => ha _ _ _ (by omega)), be_t3 (fun c j h => hq _ _ (by omega)) (fun c k j h => ha _ _ _ (by omega)) h3, ⟨?_, ?_, ?_, ?_, ?_⟩, be_t5 (fun c j h => hq _ _ (by omega)) (fun c k j h => ha _ _ _ (by unfold be_inH at h; omega)) rfl h5, be_t6 (fun c j h => hq _ _ (by omega)) (fun c k j h => ha _ _ _ (by omega)) (fun _ _ => rfl) (fun _ => rfl) h6, be_t7 (fun c j h => hq _ _ (by omega)) (fun c k j h => ha _ _ _ (by omega)) h7, h8.1, be_t9 (fun c j h => hq _ _ (by omega)) h8.2⟩
      · rw [am_s214, c1, be_bi, am_b214_7, am_s168]
        simp (disch := (first | assumption | omega | exact (be_gB _ _ _).1 | exact (be_gB _ _ _).2)) only [↓reduceIte, be_ofI, ↓be_ofN, ↓be_0, be_add, be_sub, be_mul, be_neg, be_rem, be_bi, be_bl, be_bv, be_br, be_bE0, be_bE1, be_b1E, be_b0E, be_bkb, be_cast, Int.toNat_natCast, Int.reduceToNat, be_lt, be_le, be_eq, be_nt, be_ck, be_nz, be_bk, be_div, not_true_eq_false, not_false_eq_true, if_true, if_false, eq_self, Int.reduceEq, Int.reduceLT, Int.reduceLE, Bool.true_eq_false, Bool.false_eq_true, t1, hby]
        rw [if_pos (by omega), ha', be_bi, am_b214_18]
      · rw [am_s13]
        simp (disch := (first | assumption | omega | exact (be_gB _ _ _).1 | exact (be_gB _ _ _).2)) only [↓reduceIte, be_ofI, ↓be_ofN, ↓be_0, be_add, be_sub, be_mul, be_neg, be_rem, be_bi, be_bl, be_bv, be_br, be_bE0, be_bE1, be_b1E, be_b0E, be_bkb, be_cast, Int.toNat_natCast, Int.reduceToNat, be_lt, be_le, be_eq, be_nt, be_ck, be_nz, be_bk, be_div, not_true_eq_false, not_false_eq_true, if_true, if_false, eq_self, Int.reduceEq, Int.reduceLT, Int.reduceLE, Bool.true_eq_false, Bool.false_eq_true, c2, he, hn, am_b13_8]
        rw [if_pos (by omega), he']
      · rw [r1]; exact s1
      · rw [r1]; omega
      · rw [r1]; omega
      · intro k hk
        rw [r1] at hk
        by_cases hkn : k = n
        · subst hkn; rw [r2]; exact ⟨s2, by omega, by omega⟩
        · rw [ha _ _ _ (by omega), hq _ _ (by omega)]; exact t4 k (by omega)
      · intro k hk
        rw [hq _ _ (by omega)]; exact t5 k hk
  · rw [decide_eq_false hx] at c1 c2
    refine be_Cp (v := be_i (-2)) hI ?_ ?_
    · rw [am_s214]
      simp (disch := (first | assumption | omega | exact (be_gB _ _ _).1 | exact (be_gB _ _ _).2)) only [↓reduceIte, be_ofI, ↓be_ofN, ↓be_0, be_add, be_sub, be_mul, be_neg, be_rem, be_bi, be_bl, be_bv, be_br, be_bE0, be_bE1, be_b1E, be_b0E, be_bkb, be_cast, Int.toNat_natCast, Int.reduceToNat, be_lt, be_le, be_eq, be_nt, be_ck, be_nz, be_bk, be_div, not_true_eq_false, not_false_eq_true, if_true, if_false, eq_self, Int.reduceEq, Int.reduceLT, Int.reduceLE, Bool.true_eq_false, Bool.false_eq_true, c1, am_b214_7]
    · rw [am_s13]
      simp (disch := (first | assumption | omega | exact (be_gB _ _ _).1 | exact (be_gB _ _ _).2)) only [↓reduceIte, be_ofI, ↓be_ofN, ↓be_0, be_add, be_sub, be_mul, be_neg, be_rem, be_bi, be_bl, be_bv, be_br, be_bE0, be_bE1, be_b1E, be_b0E, be_bkb, be_cast, Int.toNat_natCast, Int.reduceToNat, be_lt, be_le, be_eq, be_nt, be_ck, be_nz, be_bk, be_div, not_true_eq_false, not_false_eq_true, if_true, if_false, eq_self, Int.reduceEq, Int.reduceLT, Int.reduceLE, Bool.true_eq_false, Bool.false_eq_true, c2, am_b13_8]
