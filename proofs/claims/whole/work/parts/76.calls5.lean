/-! CALLS, 5: see, plan, book (printed by g76.py) -/
variable {d : Nat} {X : am_X} {a : Nat → Nat → Nat → Int32} {b : Nat → Nat → Nat → Int64} {u : Nat → Nat} {e : Nat → Nat → Nat → Int32} {f : Nat → Nat → Nat → Int64}
theorem be_m186 (hd : 1 ≤ d) {x0 L n : Nat} (hl : am_len X 18 x0 = L) (hL : L ≤ 8) (hn : a 6 x0 1 = be_i (n : Int)) {y1 y2 y3 y4 : Int32} :
    (n < L → ∃ a2, am_sem X d 186 [.inr (6, x0), am_I y1, am_I y2, am_I y3, am_I y4] (am_sd a b u e f) = some (some (am_I (be_i ((n : Int) + 1))), am_sd a2 b u e f) ∧ a2 6 x0 1 = be_i ((n : Int) + 1) ∧ a2 19 (n + am_rb18 x0) 0 = y1 ∧ a2 19 (n + am_rb18 x0) 1 = y2 ∧ a2 19 (n + am_rb18 x0) 2 = y3 ∧ a2 19 (n + am_rb18 x0) 3 = y4 ∧ ∀ c k j, ¬ (c = 6 ∧ k = x0 ∧ j = 1) → ¬ (c = 19 ∧ k = n + am_rb18 x0) → a2 c k j = a c k j) ∧
    (n = L → am_sem X d 186 [.inr (6, x0), am_I y1, am_I y2, am_I y3, am_I y4] (am_sd a b u e f) = some (some (am_I (be_i (-4))), (am_sd a b u e f))) := by
  obtain ⟨d, rfl⟩ : ∃ q, d = q + 1 := ⟨d - 1, by omega⟩
  constructor
  · intro h
    refine ⟨am_w3 (am_w3 (am_w3 (am_w3 (am_w3 a 19 (n + am_rb18 x0) 0 y1) 19 (n + am_rb18 x0) 1 y2) 19 (n + am_rb18 x0) 2 y3) 19 (n + am_rb18 x0) 3 y4) 6 x0 1 (be_i ((n : Int) + 1)), ?_, ?_, ?_, ?_, ?_, ?_, ?_⟩
    · rw [am_s186]
      simp (disch := (first | assumption | omega | exact (be_gB _ _ _).1 | exact (be_gB _ _ _).2)) only [↓reduceIte, be_ofI, ↓be_ofN, ↓be_0, be_add, be_sub, be_mul, be_neg, be_rem, be_bi, be_bl, be_bv, be_br, be_bE0, be_bE1, be_b1E, be_b0E, be_bkb, be_cast, Int.toNat_natCast, Int.reduceToNat, be_lt, be_le, be_eq, be_nt, be_ck, be_nz, be_bk, be_div, hn, hl, be_w3s]
      rw [if_pos (by omega)]
    · rw [be_w3s]
    · simp (disch := omega) only [be_w3n, be_w3s]
    · simp (disch := omega) only [be_w3n, be_w3s]
    · simp (disch := omega) only [be_w3n, be_w3s]
    · simp (disch := omega) only [be_w3n, be_w3s]
    · intro c k j h1 h2
      simp (disch := omega) only [be_w3n]
  · intro h
    rw [am_s186]
    simp (disch := (first | assumption | omega | exact (be_gB _ _ _).1 | exact (be_gB _ _ _).2)) only [be_ofI, ↓be_ofN, ↓be_0, hn, hl, be_lt]
    rw [if_neg (by omega)]
theorem be_csee (hd : 12 ≤ d) (hI : be_IV a b u e f) {x y z : Int} {p : Bool} (hx1 : -2147483648 ≤ x) (hx2 : x < 2147483648) (hy1 : -2147483648 ≤ y) (hy2 : y < 2147483648) (hz1 : -2147483648 ≤ z) (hz2 : z < 2147483648) : be_C X d 229 78 [am_I (be_i (x)), am_I (be_i (y)), am_I (be_i (be_b p)), am_I (be_i (z))] a b u e f := by
  obtain ⟨d, rfl⟩ : ∃ q, d = q + 1 := ⟨d - 1, by omega⟩
  have he := be_gI e
  have hI' := hI
  obtain ⟨⟨hW, hW2, hT, hh, hD, hth, hX⟩, -⟩ := hI'
  have hW1 := hW.1
  obtain ⟨nr, nr2⟩ := be_nrR hW
  obtain ⟨nh, nh2⟩ := be_nhR hW
  obtain ⟨ws1, ws2, ws3⟩ := hW2.2.1
  by_cases hxm : x = -1
  · subst hxm
    obtain ⟨e', he'⟩ : ∃ e', e' = am_w3 e 50 0 40 (be_i 0) := ⟨_, rfl⟩
    obtain ⟨a', ha'⟩ : ∃ a', a' = am_w3 a 6 0 1 (be_i 0) := ⟨_, rfl⟩
    have hq : ∀ c j, ¬ (c = 50 ∧ j = 40) → be_g e' c j = be_g e c j := fun c j h => by rw [he']; exact be_gn _ _ _ _ _ _ _ (by omega)
    have hq3 : be_g e' 50 40 = 0 := by rw [he', be_gw _ _ _ _ _ (by omega) (by omega), if_pos ⟨rfl, rfl⟩]
    have ha : ∀ c k j, ¬ (c = 6 ∧ k = 0 ∧ j = 1) → a' c k j = a c k j := fun c k j h => by rw [ha']; exact be_w3n _ _ _ _ _ _ _ _ h
    have ha3 : a' 6 0 1 = be_i 0 := by rw [ha', be_w3s]
    have h185 : am_sem X d 185 [.inr (6, 0)] (am_sd a b u e f) = some (some (am_I (be_i 0)), am_sd a' b u e f) := by
      obtain ⟨d, rfl⟩ : ∃ q, d = q + 1 := ⟨d - 1, by omega⟩
      rw [am_s185, ha']
    refine be_Ch (v := be_i 0) (a' := a') (e' := e') hI ?_ ?_ (fun c k j h => ha _ _ _ (by unfold be_inH at h; omega)) (fun k => ha _ _ _ (by omega)) (fun k => ha _ _ _ (by omega)) (fun c j h => hq _ _ (by omega)) ?_
    · rw [am_s229]
      simp (disch := (first | assumption | omega | exact (be_gB _ _ _).1 | exact (be_gB _ _ _).2)) only [↓reduceIte, be_ofI, ↓be_ofN, ↓be_0, be_add, be_sub, be_mul, be_neg, be_rem, be_bi, be_bl, be_bv, be_br, be_bE0, be_bE1, be_b1E, be_b0E, be_bkb, be_cast, Int.toNat_natCast, Int.reduceToNat, be_lt, be_le, be_eq, be_nt, be_ck, be_nz, be_bk, be_div, not_true_eq_false, not_false_eq_true, if_true, if_false, eq_self, Int.reduceEq, Int.reduceLT, Int.reduceLE, Bool.true_eq_false, Bool.false_eq_true, h185, am_b229_15]
    · rw [am_s78]
      simp (disch := (first | assumption | omega | exact (be_gB _ _ _).1 | exact (be_gB _ _ _).2)) only [↓reduceIte, be_ofI, ↓be_ofN, ↓be_0, be_add, be_sub, be_mul, be_neg, be_rem, be_bi, be_bl, be_bv, be_br, be_bE0, be_bE1, be_b1E, be_b0E, be_bkb, be_cast, Int.toNat_natCast, Int.reduceToNat, be_lt, be_le, be_eq, be_nt, be_ck, be_nz, be_bk, be_div, not_true_eq_false, not_false_eq_true, if_true, if_false, eq_self, Int.reduceEq, Int.reduceLT, Int.reduceLE, Bool.true_eq_false, Bool.false_eq_true]
      rw [he']
    · skip
      obtain ⟨qE, hE, theE, numE, tE⟩ := be_of_t (e := e) (e' := e') (fun c j h => hq _ _ (by omega)) (hq _ _ (by omega)) (hq _ _ (by omega))
      have nhE : be_nh e' = be_nh e := by unfold be_nh; rw [hq _ _ (by omega)]
      have nrE : be_nr e' = be_nr e := by unfold be_nr; rw [hq _ _ (by omega)]
      have ftE : ∀ r, be_ft e' r = be_ft e r := fun r => by unfold be_ft; rw [hq _ _ (by omega)]
      obtain ⟨⟨o1, o2, o3, o4, o5, o6, o7⟩, x1, x2, ⟨s1, s2⟩, ⟨p1, p2⟩, ⟨k1, k2⟩⟩ := hX
      refine ⟨?_, ?_, tE hT, ?_, ?_, ?_, ?_⟩
      · skip
        refine ⟨?_, ?_, ?_, ?_⟩
        · simp (disch := omega) only [hq]; exact hW.1
        · intro g hg; simp (disch := omega) only [hq]; exact hW.2.1 g hg
        · intro g hg; simp (disch := omega) only [hq]; exact hW.2.2.1 g hg
        · intro g hg; simp (disch := omega) only [hq]; exact hW.2.2.2 g hg
      · skip
        refine ⟨?_, ?_, ?_, ?_⟩
        · intro g hg; simp (disch := omega) only [hq] at hg ⊢; exact hW2.1 g hg
        · refine ⟨?_, ?_, fun k hk => ?_⟩
          · rw [hq3]; decide
          · rw [hq3]; decide
          · rw [hq3] at hk; omega
        · refine ⟨?_, ?_, fun k hk => ?_⟩
          · simp (disch := omega) only [hq]; exact hW2.2.2.1.1
          · simp (disch := omega) only [hq]; exact hW2.2.2.1.2.1
          · simp (disch := omega) only [hq] at hk ⊢; exact hW2.2.2.1.2.2 k hk
        · refine ⟨?_, ?_, fun k hk => ?_⟩
          · simp (disch := omega) only [hq]; exact hW2.2.2.2.1
          · simp (disch := omega) only [hq]; exact hW2.2.2.2.2.1
          · simp (disch := omega) only [hq] at hk ⊢; exact hW2.2.2.2.2.2 k hk
      · rw [hq _ _ (by omega)]; exact hh
      · rw [hq _ _ (by omega)]; exact hD
      · rw [hq _ _ (by omega), hq _ _ (by omega)]; exact hth
      · skip
        refine ⟨⟨?_, ?_, ?_, ?_, ?_, ?_, ?_⟩, ?_, ?_, ⟨?_, ?_⟩, ⟨?_, ?_⟩, ⟨?_, ?_⟩⟩
        · rw [ha _ _ _ (by omega), hq _ _ (by omega)]; exact o1
        · rw [ha _ _ _ (by omega), hq _ _ (by omega)]; exact o2
        · rw [ha _ _ _ (by omega), hq _ _ (by omega)]; exact o3
        · rw [ha _ _ _ (by omega), hE]; exact o4
        · rw [ha _ _ _ (by omega), qE]; exact o5
        · intro g hg
          rw [nhE] at hg
          have z := o6 g hg
          unfold be_HR at z ⊢
          simp (disch := omega) only [ha, hq]
          exact z
        · intro g hg
          rw [nrE] at hg
          have z := o7 g hg
          unfold be_RR at z ⊢
          simp (disch := omega) only [ha, hq, ftE]
          exact z
        · rw [hq _ _ (by omega)]; exact x1
        · rw [theE, numE]; exact be_OW_t (fun c k j h => ha _ _ _ (by omega)) (fun c j h => hq _ _ (by omega)) x2
        · rw [show 3 * 0 = 0 from rfl, ha3, hq3]
        · intro k hk
          rw [hq3] at hk
          omega
        · rw [ha _ _ _ (by omega), hq _ _ (by omega)]; exact p1
        · intro k hk
          simp (disch := omega) only [ha, hq] at hk ⊢
          exact p2 k hk
        · rw [ha _ _ _ (by omega), hq _ _ (by omega)]; exact k1
        · intro k hk
          simp (disch := omega) only [ha, hq] at hk ⊢
          exact k2 k hk
  · have c1 := be_hasR (X := X) (a := a) (b := b) (u := u) (e := e) (f := f) (d := d) (by omega) hI hx1 hx2
    have c2 := fun a' => be_m5 (X := X) (a := a') (b := b) (u := u) (e := e) (f := f) (d := d) (by omega) hx1 hx2 hW1.1
    have c3 := be_m251 (X := X) (a := a) (b := b) (u := u) (e := e) (f := f) (d := d) (x := y) (by omega) hy1 hy2
    have c4 := fun a' => be_m7 (X := X) (a := a') (b := b) (u := u) (e := e) (f := f) (d := d) (x := y) (by omega) hy1 hy2
    have c5 := be_m250 (X := X) (a := a) (b := b) (u := u) (e := e) (f := f) (d := d) (x := z) (y := 0) (z := 20) (by omega) hz1 hz2 (by decide) (by decide) (by decide) (by decide)
    have c6 := fun a' => be_m1 (X := X) (a := a') (b := b) (u := u) (e := e) (f := f) (d := d) (x := z) (y := 0) (z := 20) (by omega) hz1 hz2 (by decide) (by decide) (by decide) (by decide)
    by_cases hx : 0 ≤ x ∧ x ≤ be_g e 50 0 - 1
    · rw [decide_eq_true hx] at c1 c2
      by_cases hy : 0 ≤ y ∧ y ≤ 39
      · rw [decide_eq_true hy] at c3 c4
        by_cases hz : 0 ≤ z ∧ z ≤ 20
        · rw [decide_eq_true hz] at c5 c6
          obtain ⟨n, hn⟩ := be_0le ws1
          have s1 := hX.2.2.2.1.1
          rw [hn] at s1
          obtain ⟨g1, g2⟩ := be_m186 (X := X) (a := a) (b := b) (u := u) (e := e) (f := f) (d := d) (x0 := 0) (L := 6) (n := n) (y1 := be_i x) (y2 := be_i y) (y3 := be_i (be_b p)) (y4 := be_i z) (by omega) (be_ln0 X 0 (by decide)) (by decide) s1
          rw [show am_rb18 0 = 0 from rfl] at g1
          by_cases hf : n = 6
          · have g2 := g2 hf
            refine be_Cp (v := be_i (-4)) hI ?_ ?_
            · rw [am_s229]
              simp (disch := (first | assumption | omega | exact (be_gB _ _ _).1 | exact (be_gB _ _ _).2)) only [↓reduceIte, be_ofI, ↓be_ofN, ↓be_0, be_add, be_sub, be_mul, be_neg, be_rem, be_bi, be_bl, be_bv, be_br, be_bE0, be_bE1, be_b1E, be_b0E, be_bkb, be_cast, Int.toNat_natCast, Int.reduceToNat, be_lt, be_le, be_eq, be_nt, be_ck, be_nz, be_bk, be_div, not_true_eq_false, not_false_eq_true, if_true, if_false, eq_self, Int.reduceEq, Int.reduceLT, Int.reduceLE, Bool.true_eq_false, Bool.false_eq_true, hxm, c1, c3, c5, be_m252, g2, am_b229_15, am_b229_24, am_b229_31, am_b229_44, am_b229_60, am_b229_65]
            · rw [am_s78]
              subst hf
              simp (disch := (first | assumption | omega | exact (be_gB _ _ _).1 | exact (be_gB _ _ _).2)) only [↓reduceIte, be_ofI, ↓be_ofN, ↓be_0, be_add, be_sub, be_mul, be_neg, be_rem, be_bi, be_bl, be_bv, be_br, be_bE0, be_bE1, be_b1E, be_b0E, be_bkb, be_cast, Int.toNat_natCast, Int.reduceToNat, be_lt, be_le, be_eq, be_nt, be_ck, be_nz, be_bk, be_div, not_true_eq_false, not_false_eq_true, if_true, if_false, eq_self, Int.reduceEq, Int.reduceLT, Int.reduceLE, Bool.true_eq_false, Bool.false_eq_true, hxm, c2, c4, c6, he, hn, am_b78_17, am_b78_25, am_b78_39]
              rfl
          · obtain ⟨a', g3, q1, q2, q3, q4, q5, q6⟩ := g1 (by omega)
            obtain ⟨e', he'⟩ : ∃ e', e' = am_w3 (am_w3 (am_w3 (am_w3 (am_w3 e 76 0 n (be_i x)) 77 0 n (be_i y)) 79 0 n (be_i (be_b p))) 78 0 n (be_i z)) 50 0 40 (be_i ((n : Int) + 1)) := ⟨_, rfl⟩
            have hbp := be_bR p
            have hq : ∀ c j, ¬ (((76 ≤ c ∧ c ≤ 79) ∧ j = n) ∨ (c = 50 ∧ j = 40)) → be_g e' c j = be_g e c j := fun c j h => by rw [he']; simp (disch := omega) only [be_gn]
            have hq3 : be_g e' 50 40 = (n : Int) + 1 := by rw [he', be_gw _ _ _ _ _ (by omega) (by omega), if_pos ⟨rfl, rfl⟩]
            have r76 : be_g e' 76 n = x := by rw [he']; simp (disch := omega) only [be_gn]; rw [be_gw _ _ _ _ _ (by omega) (by omega), if_pos ⟨rfl, rfl⟩]
            have r77 : be_g e' 77 n = y := by rw [he']; simp (disch := omega) only [be_gn]; rw [be_gw _ _ _ _ _ (by omega) (by omega), if_pos ⟨rfl, rfl⟩]
            have r79 : be_g e' 79 n = be_b p := by rw [he']; simp (disch := omega) only [be_gn]; rw [be_gw _ _ _ _ _ (by omega) (by omega), if_pos ⟨rfl, rfl⟩]
            have r78 : be_g e' 78 n = z := by rw [he']; simp (disch := omega) only [be_gn]; rw [be_gw _ _ _ _ _ (by omega) (by omega), if_pos ⟨rfl, rfl⟩]
            have ha : ∀ c k j, ¬ ((c = 6 ∧ k = 0 ∧ j = 1) ∨ (c = 19 ∧ k = n)) → a' c k j = a c k j := fun c k j h => q6 c k j (by omega) (by omega)
            have h9 : be_I9 e' := fun k hk => by
              have q9 := hI.2.2.2.2.2.2.2.2 k hk
              refine ⟨?_, ?_⟩
              · by_cases hkn : k = n
                · subst hkn; rw [r79]; cases p
                  · exact Or.inl rfl
                  · exact Or.inr rfl
                · rw [hq _ _ (by omega)]; exact q9.1
              · rw [hq _ _ (by omega)]; exact q9.2
            refine be_Chs (v := be_i ((n : Int) + 1)) (a' := a') (e' := e') hI ?_ ?_ (fun c k j h => ha _ _ _ (by unfold be_inH at h; omega)) (fun k => ha _ _ _ (by omega)) (fun k => ha _ _ _ (by omega)) (fun c j h => hq _ _ (by omega)) h9 ?_
            · rw [am_s229]
              simp (disch := (first | assumption | omega | exact (be_gB _ _ _).1 | exact (be_gB _ _ _).2)) only [↓reduceIte, be_ofI, ↓be_ofN, ↓be_0, be_add, be_sub, be_mul, be_neg, be_rem, be_bi, be_bl, be_bv, be_br, be_bE0, be_bE1, be_b1E, be_b0E, be_bkb, be_cast, Int.toNat_natCast, Int.reduceToNat, be_lt, be_le, be_eq, be_nt, be_ck, be_nz, be_bk, be_div, not_true_eq_false, not_false_eq_true, if_true, if_false, eq_self, Int.reduceEq, Int.reduceLT, Int.reduceLE, Bool.true_eq_false, Bool.false_eq_true, hxm, c1, c3, c5, be_m252, g3, am_b229_15, am_b229_24, am_b229_31, am_b229_44, am_b229_60, am_b229_65]
            · rw [am_s78]
              simp (disch := (first | assumption | omega | exact (be_gB _ _ _).1 | exact (be_gB _ _ _).2)) only [↓reduceIte, be_ofI, ↓be_ofN, ↓be_0, be_add, be_sub, be_mul, be_neg, be_rem, be_bi, be_bl, be_bv, be_br, be_bE0, be_bE1, be_b1E, be_b0E, be_bkb, be_cast, Int.toNat_natCast, Int.reduceToNat, be_lt, be_le, be_eq, be_nt, be_ck, be_nz, be_bk, be_div, not_true_eq_false, not_false_eq_true, if_true, if_false, eq_self, Int.reduceEq, Int.reduceLT, Int.reduceLE, Bool.true_eq_false, Bool.false_eq_true, hxm, c2, c4, c6, he, hn, am_b78_17, am_b78_25, am_b78_39]
              rw [if_pos (by omega), he']
            · skip
              obtain ⟨qE, hE, theE, numE, tE⟩ := be_of_t (e := e) (e' := e') (fun c j h => hq _ _ (by omega)) (hq _ _ (by omega)) (hq _ _ (by omega))
              have nhE : be_nh e' = be_nh e := by unfold be_nh; rw [hq _ _ (by omega)]
              have nrE : be_nr e' = be_nr e := by unfold be_nr; rw [hq _ _ (by omega)]
              have ftE : ∀ r, be_ft e' r = be_ft e r := fun r => by unfold be_ft; rw [hq _ _ (by omega)]
              obtain ⟨⟨o1, o2, o3, o4, o5, o6, o7⟩, x1, x2, ⟨s1, s2⟩, ⟨p1, p2⟩, ⟨k1, k2⟩⟩ := hX
              refine ⟨?_, ?_, tE hT, ?_, ?_, ?_, ?_⟩
              · skip
                refine ⟨?_, ?_, ?_, ?_⟩
                · simp (disch := omega) only [hq]; exact hW.1
                · intro g hg; simp (disch := omega) only [hq]; exact hW.2.1 g hg
                · intro g hg; simp (disch := omega) only [hq]; exact hW.2.2.1 g hg
                · intro g hg; simp (disch := omega) only [hq]; exact hW.2.2.2 g hg
              · skip
                refine ⟨?_, ?_, ?_, ?_⟩
                · intro g hg; simp (disch := omega) only [hq] at hg ⊢; exact hW2.1 g hg
                · refine ⟨?_, ?_, fun k hk => ?_⟩
                  · rw [hq3]; omega
                  · rw [hq3]; omega
                  · rw [hq3] at hk
                    rw [hq 50 0 (by omega)]
                    by_cases hkn : k = n
                    · subst hkn
                      rw [r76, r77, r78, r79]
                      omega
                    · simp (disch := omega) only [hq]
                      exact ws3 k (by omega)
                · refine ⟨?_, ?_, fun k hk => ?_⟩
                  · simp (disch := omega) only [hq]; exact hW2.2.2.1.1
                  · simp (disch := omega) only [hq]; exact hW2.2.2.1.2.1
                  · simp (disch := omega) only [hq] at hk ⊢; exact hW2.2.2.1.2.2 k hk
                · refine ⟨?_, ?_, fun k hk => ?_⟩
                  · simp (disch := omega) only [hq]; exact hW2.2.2.2.1
                  · simp (disch := omega) only [hq]; exact hW2.2.2.2.2.1
                  · simp (disch := omega) only [hq] at hk ⊢; exact hW2.2.2.2.2.2 k hk
              · rw [hq _ _ (by omega)]; exact hh
              · rw [hq _ _ (by omega)]; exact hD
              · rw [hq _ _ (by omega), hq _ _ (by omega)]; exact hth
              · skip
                refine ⟨⟨?_, ?_, ?_, ?_, ?_, ?_, ?_⟩, ?_, ?_, ⟨?_, ?_⟩, ⟨?_, ?_⟩, ⟨?_, ?_⟩⟩
                · rw [ha _ _ _ (by omega), hq _ _ (by omega)]; exact o1
                · rw [ha _ _ _ (by omega), hq _ _ (by omega)]; exact o2
                · rw [ha _ _ _ (by omega), hq _ _ (by omega)]; exact o3
                · rw [ha _ _ _ (by omega), hE]; exact o4
                · rw [ha _ _ _ (by omega), qE]; exact o5
                · intro g hg
                  rw [nhE] at hg
                  have z := o6 g hg
                  unfold be_HR at z ⊢
                  simp (disch := omega) only [ha, hq]
                  exact z
                · intro g hg
                  rw [nrE] at hg
                  have z := o7 g hg
                  unfold be_RR at z ⊢
                  simp (disch := omega) only [ha, hq, ftE]
                  exact z
                · rw [hq _ _ (by omega)]; exact x1
                · rw [theE, numE]; exact be_OW_t (fun c k j h => ha _ _ _ (by omega)) (fun c j h => hq _ _ (by omega)) x2
                · rw [hq3]; exact q1
                · intro k hk
                  rw [hq3] at hk
                  by_cases hkn : k = n
                  · subst hkn
                    rw [r76, r77, r78, r79]
                    exact ⟨q2, q3, q4, q5⟩
                  · simp (disch := omega) only [ha, hq]
                    exact s2 k (by omega)
                · rw [ha _ _ _ (by omega), hq _ _ (by omega)]; exact p1
                · intro k hk
                  simp (disch := omega) only [ha, hq] at hk ⊢
                  exact p2 k hk
                · rw [ha _ _ _ (by omega), hq _ _ (by omega)]; exact k1
                · intro k hk
                  simp (disch := omega) only [ha, hq] at hk ⊢
                  exact k2 k hk
        · rw [decide_eq_false hz] at c5 c6
          refine be_Cp (v := be_i (-2)) hI ?_ ?_
          · rw [am_s229]
            simp (disch := (first | assumption | omega | exact (be_gB _ _ _).1 | exact (be_gB _ _ _).2)) only [↓reduceIte, be_ofI, ↓be_ofN, ↓be_0, be_add, be_sub, be_mul, be_neg, be_rem, be_bi, be_bl, be_bv, be_br, be_bE0, be_bE1, be_b1E, be_b0E, be_bkb, be_cast, Int.toNat_natCast, Int.reduceToNat, be_lt, be_le, be_eq, be_nt, be_ck, be_nz, be_bk, be_div, not_true_eq_false, not_false_eq_true, if_true, if_false, eq_self, Int.reduceEq, Int.reduceLT, Int.reduceLE, Bool.true_eq_false, Bool.false_eq_true, hxm, c1, c3, c5, am_b229_15, am_b229_24, am_b229_31, am_b229_44, am_b229_60, am_b229_65]
          · rw [am_s78]
            simp (disch := (first | assumption | omega | exact (be_gB _ _ _).1 | exact (be_gB _ _ _).2)) only [↓reduceIte, be_ofI, ↓be_ofN, ↓be_0, be_add, be_sub, be_mul, be_neg, be_rem, be_bi, be_bl, be_bv, be_br, be_bE0, be_bE1, be_b1E, be_b0E, be_bkb, be_cast, Int.toNat_natCast, Int.reduceToNat, be_lt, be_le, be_eq, be_nt, be_ck, be_nz, be_bk, be_div, not_true_eq_false, not_false_eq_true, if_true, if_false, eq_self, Int.reduceEq, Int.reduceLT, Int.reduceLE, Bool.true_eq_false, Bool.false_eq_true, hxm, c2, c4, c6, am_b78_17, am_b78_25, am_b78_39]
      · rw [decide_eq_false hy] at c3 c4
        refine be_Cp (v := be_i (-1)) hI ?_ ?_
        · rw [am_s229]
          simp (disch := (first | assumption | omega | exact (be_gB _ _ _).1 | exact (be_gB _ _ _).2)) only [↓reduceIte, be_ofI, ↓be_ofN, ↓be_0, be_add, be_sub, be_mul, be_neg, be_rem, be_bi, be_bl, be_bv, be_br, be_bE0, be_bE1, be_b1E, be_b0E, be_bkb, be_cast, Int.toNat_natCast, Int.reduceToNat, be_lt, be_le, be_eq, be_nt, be_ck, be_nz, be_bk, be_div, not_true_eq_false, not_false_eq_true, if_true, if_false, eq_self, Int.reduceEq, Int.reduceLT, Int.reduceLE, Bool.true_eq_false, Bool.false_eq_true, hxm, c1, c3, am_b229_15, am_b229_24, am_b229_31, am_b229_44, am_b229_60, am_b229_65]
        · rw [am_s78]
          simp (disch := (first | assumption | omega | exact (be_gB _ _ _).1 | exact (be_gB _ _ _).2)) only [↓reduceIte, be_ofI, ↓be_ofN, ↓be_0, be_add, be_sub, be_mul, be_neg, be_rem, be_bi, be_bl, be_bv, be_br, be_bE0, be_bE1, be_b1E, be_b0E, be_bkb, be_cast, Int.toNat_natCast, Int.reduceToNat, be_lt, be_le, be_eq, be_nt, be_ck, be_nz, be_bk, be_div, not_true_eq_false, not_false_eq_true, if_true, if_false, eq_self, Int.reduceEq, Int.reduceLT, Int.reduceLE, Bool.true_eq_false, Bool.false_eq_true, hxm, c2, c4, am_b78_17, am_b78_25]
    · rw [decide_eq_false hx] at c1 c2
      refine be_Cp (v := be_i (-1)) hI ?_ ?_
      · rw [am_s229]
        simp (disch := (first | assumption | omega | exact (be_gB _ _ _).1 | exact (be_gB _ _ _).2)) only [↓reduceIte, be_ofI, ↓be_ofN, ↓be_0, be_add, be_sub, be_mul, be_neg, be_rem, be_bi, be_bl, be_bv, be_br, be_bE0, be_bE1, be_b1E, be_b0E, be_bkb, be_cast, Int.toNat_natCast, Int.reduceToNat, be_lt, be_le, be_eq, be_nt, be_ck, be_nz, be_bk, be_div, not_true_eq_false, not_false_eq_true, if_true, if_false, eq_self, Int.reduceEq, Int.reduceLT, Int.reduceLE, Bool.true_eq_false, Bool.false_eq_true, hxm, c1, am_b229_15, am_b229_24, am_b229_31, am_b229_44, am_b229_60, am_b229_65]
      · rw [am_s78]
        simp (disch := (first | assumption | omega | exact (be_gB _ _ _).1 | exact (be_gB _ _ _).2)) only [↓reduceIte, be_ofI, ↓be_ofN, ↓be_0, be_add, be_sub, be_mul, be_neg, be_rem, be_bi, be_bl, be_bv, be_br, be_bE0, be_bE1, be_b1E, be_b0E, be_bkb, be_cast, Int.toNat_natCast, Int.reduceToNat, be_lt, be_le, be_eq, be_nt, be_ck, be_nz, be_bk, be_div, not_true_eq_false, not_false_eq_true, if_true, if_false, eq_self, Int.reduceEq, Int.reduceLT, Int.reduceLE, Bool.true_eq_false, Bool.false_eq_true, hxm, c2, am_b78_17]
theorem be_cplan (hd : 12 ≤ d) (hI : be_IV a b u e f) {x y : Int} (hx1 : -2147483648 ≤ x) (hx2 : x < 2147483648) (hy1 : -2147483648 ≤ y) (hy2 : y < 2147483648) : be_C X d 234 86 [am_I (be_i (x)), am_I (be_i (y))] a b u e f := by
  obtain ⟨d, rfl⟩ : ∃ q, d = q + 1 := ⟨d - 1, by omega⟩
  have he := be_gI e
  have hI' := hI
  obtain ⟨⟨hW, hW2, hT, hh, hD, hth, hX⟩, -⟩ := hI'
  have hW1 := hW.1
  obtain ⟨nr, nr2⟩ := be_nrR hW
  obtain ⟨nh, nh2⟩ := be_nhR hW
  obtain ⟨ws1, ws2, ws3⟩ := hW2.2.2.1
  by_cases hxm : x = -1
  · subst hxm
    obtain ⟨e', he'⟩ : ∃ e', e' = am_w3 e 50 0 45 (be_i 0) := ⟨_, rfl⟩
    obtain ⟨a', ha'⟩ : ∃ a', a' = am_w3 a 6 1 1 (be_i 0) := ⟨_, rfl⟩
    have hq : ∀ c j, ¬ (c = 50 ∧ j = 45) → be_g e' c j = be_g e c j := fun c j h => by rw [he']; exact be_gn _ _ _ _ _ _ _ (by omega)
    have hq3 : be_g e' 50 45 = 0 := by rw [he', be_gw _ _ _ _ _ (by omega) (by omega), if_pos ⟨rfl, rfl⟩]
    have ha : ∀ c k j, ¬ (c = 6 ∧ k = 1 ∧ j = 1) → a' c k j = a c k j := fun c k j h => by rw [ha']; exact be_w3n _ _ _ _ _ _ _ _ h
    have ha3 : a' 6 1 1 = be_i 0 := by rw [ha', be_w3s]
    have h185 : am_sem X d 185 [.inr (6, 1)] (am_sd a b u e f) = some (some (am_I (be_i 0)), am_sd a' b u e f) := by
      obtain ⟨d, rfl⟩ : ∃ q, d = q + 1 := ⟨d - 1, by omega⟩
      rw [am_s185, ha']
    refine be_Ch (v := be_i 0) (a' := a') (e' := e') hI ?_ ?_ (fun c k j h => ha _ _ _ (by unfold be_inH at h; omega)) (fun k => ha _ _ _ (by omega)) (fun k => ha _ _ _ (by omega)) (fun c j h => hq _ _ (by omega)) ?_
    · rw [am_s234]
      simp (disch := (first | assumption | omega | exact (be_gB _ _ _).1 | exact (be_gB _ _ _).2)) only [↓reduceIte, be_ofI, ↓be_ofN, ↓be_0, be_add, be_sub, be_mul, be_neg, be_rem, be_bi, be_bl, be_bv, be_br, be_bE0, be_bE1, be_b1E, be_b0E, be_bkb, be_cast, Int.toNat_natCast, Int.reduceToNat, be_lt, be_le, be_eq, be_nt, be_ck, be_nz, be_bk, be_div, not_true_eq_false, not_false_eq_true, if_true, if_false, eq_self, Int.reduceEq, Int.reduceLT, Int.reduceLE, Bool.true_eq_false, Bool.false_eq_true, h185, am_b234_15]
    · rw [am_s86]
      simp (disch := (first | assumption | omega | exact (be_gB _ _ _).1 | exact (be_gB _ _ _).2)) only [↓reduceIte, be_ofI, ↓be_ofN, ↓be_0, be_add, be_sub, be_mul, be_neg, be_rem, be_bi, be_bl, be_bv, be_br, be_bE0, be_bE1, be_b1E, be_b0E, be_bkb, be_cast, Int.toNat_natCast, Int.reduceToNat, be_lt, be_le, be_eq, be_nt, be_ck, be_nz, be_bk, be_div, not_true_eq_false, not_false_eq_true, if_true, if_false, eq_self, Int.reduceEq, Int.reduceLT, Int.reduceLE, Bool.true_eq_false, Bool.false_eq_true]
      rw [he']
    · skip
      obtain ⟨qE, hE, theE, numE, tE⟩ := be_of_t (e := e) (e' := e') (fun c j h => hq _ _ (by omega)) (hq _ _ (by omega)) (hq _ _ (by omega))
      have nhE : be_nh e' = be_nh e := by unfold be_nh; rw [hq _ _ (by omega)]
      have nrE : be_nr e' = be_nr e := by unfold be_nr; rw [hq _ _ (by omega)]
      have ftE : ∀ r, be_ft e' r = be_ft e r := fun r => by unfold be_ft; rw [hq _ _ (by omega)]
      obtain ⟨⟨o1, o2, o3, o4, o5, o6, o7⟩, x1, x2, ⟨s1, s2⟩, ⟨p1, p2⟩, ⟨k1, k2⟩⟩ := hX
      refine ⟨?_, ?_, tE hT, ?_, ?_, ?_, ?_⟩
      · skip
        refine ⟨?_, ?_, ?_, ?_⟩
        · simp (disch := omega) only [hq]; exact hW.1
        · intro g hg; simp (disch := omega) only [hq]; exact hW.2.1 g hg
        · intro g hg; simp (disch := omega) only [hq]; exact hW.2.2.1 g hg
        · intro g hg; simp (disch := omega) only [hq]; exact hW.2.2.2 g hg
      · skip
        refine ⟨?_, ?_, ?_, ?_⟩
        · intro g hg; simp (disch := omega) only [hq] at hg ⊢; exact hW2.1 g hg
        · refine ⟨?_, ?_, fun k hk => ?_⟩
          · simp (disch := omega) only [hq]; exact hW2.2.1.1
          · simp (disch := omega) only [hq]; exact hW2.2.1.2.1
          · simp (disch := omega) only [hq] at hk ⊢; exact hW2.2.1.2.2 k hk
        · refine ⟨?_, ?_, fun k hk => ?_⟩
          · rw [hq3]; decide
          · rw [hq3]; decide
          · rw [hq3] at hk; omega
        · refine ⟨?_, ?_, fun k hk => ?_⟩
          · simp (disch := omega) only [hq]; exact hW2.2.2.2.1
          · simp (disch := omega) only [hq]; exact hW2.2.2.2.2.1
          · simp (disch := omega) only [hq] at hk ⊢; exact hW2.2.2.2.2.2 k hk
      · rw [hq _ _ (by omega)]; exact hh
      · rw [hq _ _ (by omega)]; exact hD
      · rw [hq _ _ (by omega), hq _ _ (by omega)]; exact hth
      · skip
        refine ⟨⟨?_, ?_, ?_, ?_, ?_, ?_, ?_⟩, ?_, ?_, ⟨?_, ?_⟩, ⟨?_, ?_⟩, ⟨?_, ?_⟩⟩
        · rw [ha _ _ _ (by omega), hq _ _ (by omega)]; exact o1
        · rw [ha _ _ _ (by omega), hq _ _ (by omega)]; exact o2
        · rw [ha _ _ _ (by omega), hq _ _ (by omega)]; exact o3
        · rw [ha _ _ _ (by omega), hE]; exact o4
        · rw [ha _ _ _ (by omega), qE]; exact o5
        · intro g hg
          rw [nhE] at hg
          have z := o6 g hg
          unfold be_HR at z ⊢
          simp (disch := omega) only [ha, hq]
          exact z
        · intro g hg
          rw [nrE] at hg
          have z := o7 g hg
          unfold be_RR at z ⊢
          simp (disch := omega) only [ha, hq, ftE]
          exact z
        · rw [hq _ _ (by omega)]; exact x1
        · rw [theE, numE]; exact be_OW_t (fun c k j h => ha _ _ _ (by omega)) (fun c j h => hq _ _ (by omega)) x2
        · rw [ha _ _ _ (by omega), hq _ _ (by omega)]; exact s1
        · intro k hk
          simp (disch := omega) only [ha, hq] at hk ⊢
          exact s2 k hk
        · rw [show 3 * 0 + 1 = 1 from rfl, ha3, hq3]
        · intro k hk
          rw [hq3] at hk
          omega
        · rw [ha _ _ _ (by omega), hq _ _ (by omega)]; exact k1
        · intro k hk
          simp (disch := omega) only [ha, hq] at hk ⊢
          exact k2 k hk
  · have c1 := be_hasR (X := X) (a := a) (b := b) (u := u) (e := e) (f := f) (d := d) (x := y) (by omega) hI hy1 hy2
    have c2 := fun a' => be_m5 (X := X) (a := a') (b := b) (u := u) (e := e) (f := f) (d := d) (x := y) (by omega) hy1 hy2 hW1.1
    have c3 := be_hasH (X := X) (a := a) (b := b) (u := u) (e := e) (f := f) (d := d) (x := y) (by omega) hI hy1 hy2
    have c4 := fun a' => be_m6 (X := X) (a := a') (b := b) (u := u) (e := e) (f := f) (d := d) (x := y) (by omega) hy1 hy2 (by omega)
    have c5 := be_m250 (X := X) (a := a) (b := b) (u := u) (e := e) (f := f) (d := d) (x := x) (y := 0) (z := 2) (by omega) hx1 hx2 (by decide) (by decide) (by decide) (by decide)
    have c6 := fun a' => be_m1 (X := X) (a := a') (b := b) (u := u) (e := e) (f := f) (d := d) (x := x) (y := 0) (z := 2) (by omega) hx1 hx2 (by decide) (by decide) (by decide) (by decide)
    by_cases hx : 0 ≤ x ∧ x ≤ 2
    · rw [decide_eq_true hx] at c5 c6
      rcases (show x = 0 ∨ x = 1 ∨ x = 2 by omega) with rfl | rfl | rfl
      · skip
        obtain ⟨n, hn⟩ := be_0le ws1
        have s1 := hX.2.2.2.2.1.1
        rw [hn] at s1
        obtain ⟨g1, g2⟩ := be_m186 (X := X) (a := a) (b := b) (u := u) (e := e) (f := f) (d := d) (x0 := 1) (L := 8) (n := n) (y1 := be_i 0) (y2 := be_i y) (y3 := be_i 0) (y4 := be_i 0) (by omega) (be_ln1 X 0 (by decide)) (by decide) s1
        rw [show am_rb18 1 = 6 from rfl] at g1
        by_cases hf : n = 8
        · have g2 := g2 hf
          subst hf
          refine be_Cp (v := be_i (-4)) hI ?_ ?_
          · rw [am_s234]
            simp (disch := (first | assumption | omega | exact (be_gB _ _ _).1 | exact (be_gB _ _ _).2)) only [↓reduceIte, be_ofI, ↓be_ofN, ↓be_0, be_add, be_sub, be_mul, be_neg, be_rem, be_bi, be_bl, be_bv, be_br, be_bE0, be_bE1, be_b1E, be_b0E, be_bkb, be_cast, Int.toNat_natCast, Int.reduceToNat, be_lt, be_le, be_eq, be_nt, be_ck, be_nz, be_bk, be_div, not_true_eq_false, not_false_eq_true, if_true, if_false, eq_self, Int.reduceEq, Int.reduceLT, Int.reduceLE, Bool.true_eq_false, Bool.false_eq_true, hxm, c5, g2, am_b234_15, am_b234_22, am_b234_38, am_b234_54, am_b234_73]
          · rw [am_s86]
            simp (disch := (first | assumption | omega | exact (be_gB _ _ _).1 | exact (be_gB _ _ _).2)) only [↓reduceIte, be_ofI, ↓be_ofN, ↓be_0, be_add, be_sub, be_mul, be_neg, be_rem, be_bi, be_bl, be_bv, be_br, be_bE0, be_bE1, be_b1E, be_b0E, be_bkb, be_cast, Int.toNat_natCast, Int.reduceToNat, be_lt, be_le, be_eq, be_nt, be_ck, be_nz, be_bk, be_div, not_true_eq_false, not_false_eq_true, if_true, if_false, eq_self, Int.reduceEq, Int.reduceLT, Int.reduceLE, Bool.true_eq_false, Bool.false_eq_true, hxm, c6, he, hn, am_b86_19, am_b86_32, am_b86_45]
            rfl
        · obtain ⟨a', g3, q1, q2, q3, q4, q5, q6⟩ := g1 (by omega)
          obtain ⟨e', he'⟩ : ∃ e', e' = am_w3 (am_w3 (am_w3 e 80 0 n (be_i 0)) 81 0 n (be_i 0)) 50 0 45 (be_i ((n : Int) + 1)) := ⟨_, rfl⟩
          have hq : ∀ c j, ¬ (((80 ≤ c ∧ c ≤ 81) ∧ j = n) ∨ (c = 50 ∧ j = 45)) → be_g e' c j = be_g e c j := fun c j h => by rw [he']; simp (disch := omega) only [be_gn]
          have hq3 : be_g e' 50 45 = (n : Int) + 1 := by rw [he', be_gw _ _ _ _ _ (by omega) (by omega), if_pos ⟨rfl, rfl⟩]
          have r80 : be_g e' 80 n = 0 := by rw [he']; simp (disch := omega) only [be_gn]; rw [be_gw _ _ _ _ _ (by omega) (by omega), if_pos ⟨rfl, rfl⟩]
          have r81 : be_g e' 81 n = 0 := by rw [he']; simp (disch := omega) only [be_gn]; rw [be_gw _ _ _ _ _ (by omega) (by omega), if_pos ⟨rfl, rfl⟩]
          have ha : ∀ c k j, ¬ ((c = 6 ∧ k = 1 ∧ j = 1) ∨ (c = 19 ∧ k = n + 6)) → a' c k j = a c k j := fun c k j h => q6 c k j (by omega) (by omega)
          refine be_Ch (v := be_i ((n : Int) + 1)) (a' := a') (e' := e') hI ?_ ?_ (fun c k j h => ha _ _ _ (by unfold be_inH at h; omega)) (fun k => ha _ _ _ (by omega)) (fun k => ha _ _ _ (by omega)) (fun c j h => hq _ _ (by omega)) ?_
          · rw [am_s234]
            simp (disch := (first | assumption | omega | exact (be_gB _ _ _).1 | exact (be_gB _ _ _).2)) only [↓reduceIte, be_ofI, ↓be_ofN, ↓be_0, be_add, be_sub, be_mul, be_neg, be_rem, be_bi, be_bl, be_bv, be_br, be_bE0, be_bE1, be_b1E, be_b0E, be_bkb, be_cast, Int.toNat_natCast, Int.reduceToNat, be_lt, be_le, be_eq, be_nt, be_ck, be_nz, be_bk, be_div, not_true_eq_false, not_false_eq_true, if_true, if_false, eq_self, Int.reduceEq, Int.reduceLT, Int.reduceLE, Bool.true_eq_false, Bool.false_eq_true, hxm, c5, g3, am_b234_15, am_b234_22, am_b234_38, am_b234_54, am_b234_73]
          · rw [am_s86]
            simp (disch := (first | assumption | omega | exact (be_gB _ _ _).1 | exact (be_gB _ _ _).2)) only [↓reduceIte, be_ofI, ↓be_ofN, ↓be_0, be_add, be_sub, be_mul, be_neg, be_rem, be_bi, be_bl, be_bv, be_br, be_bE0, be_bE1, be_b1E, be_b0E, be_bkb, be_cast, Int.toNat_natCast, Int.reduceToNat, be_lt, be_le, be_eq, be_nt, be_ck, be_nz, be_bk, be_div, not_true_eq_false, not_false_eq_true, if_true, if_false, eq_self, Int.reduceEq, Int.reduceLT, Int.reduceLE, Bool.true_eq_false, Bool.false_eq_true, hxm, c6, he, hn, am_b86_19, am_b86_32, am_b86_45]
            rw [if_pos (by omega), he']
          · skip
            obtain ⟨qE, hE, theE, numE, tE⟩ := be_of_t (e := e) (e' := e') (fun c j h => hq _ _ (by omega)) (hq _ _ (by omega)) (hq _ _ (by omega))
            have nhE : be_nh e' = be_nh e := by unfold be_nh; rw [hq _ _ (by omega)]
            have nrE : be_nr e' = be_nr e := by unfold be_nr; rw [hq _ _ (by omega)]
            have ftE : ∀ r, be_ft e' r = be_ft e r := fun r => by unfold be_ft; rw [hq _ _ (by omega)]
            obtain ⟨⟨o1, o2, o3, o4, o5, o6, o7⟩, x1, x2, ⟨s1, s2⟩, ⟨p1, p2⟩, ⟨k1, k2⟩⟩ := hX
            refine ⟨?_, ?_, tE hT, ?_, ?_, ?_, ?_⟩
            · skip
              refine ⟨?_, ?_, ?_, ?_⟩
              · simp (disch := omega) only [hq]; exact hW.1
              · intro g hg; simp (disch := omega) only [hq]; exact hW.2.1 g hg
              · intro g hg; simp (disch := omega) only [hq]; exact hW.2.2.1 g hg
              · intro g hg; simp (disch := omega) only [hq]; exact hW.2.2.2 g hg
            · skip
              refine ⟨?_, ?_, ?_, ?_⟩
              · intro g hg; simp (disch := omega) only [hq] at hg ⊢; exact hW2.1 g hg
              · refine ⟨?_, ?_, fun k hk => ?_⟩
                · simp (disch := omega) only [hq]; exact hW2.2.1.1
                · simp (disch := omega) only [hq]; exact hW2.2.1.2.1
                · simp (disch := omega) only [hq] at hk ⊢; exact hW2.2.1.2.2 k hk
              · refine ⟨?_, ?_, fun k hk => ?_⟩
                · rw [hq3]; omega
                · rw [hq3]; omega
                · rw [hq3] at hk
                  rw [hq 50 0 (by omega), hq 50 2 (by omega)]
                  by_cases hkn : k = n
                  · subst hkn
                    rw [r80, r81]
                    omega
                  · simp (disch := omega) only [hq]
                    exact ws3 k (by omega)
              · refine ⟨?_, ?_, fun k hk => ?_⟩
                · simp (disch := omega) only [hq]; exact hW2.2.2.2.1
                · simp (disch := omega) only [hq]; exact hW2.2.2.2.2.1
                · simp (disch := omega) only [hq] at hk ⊢; exact hW2.2.2.2.2.2 k hk
            · rw [hq _ _ (by omega)]; exact hh
            · rw [hq _ _ (by omega)]; exact hD
            · rw [hq _ _ (by omega), hq _ _ (by omega)]; exact hth
            · skip
              refine ⟨⟨?_, ?_, ?_, ?_, ?_, ?_, ?_⟩, ?_, ?_, ⟨?_, ?_⟩, ⟨?_, ?_⟩, ⟨?_, ?_⟩⟩
              · rw [ha _ _ _ (by omega), hq _ _ (by omega)]; exact o1
              · rw [ha _ _ _ (by omega), hq _ _ (by omega)]; exact o2
              · rw [ha _ _ _ (by omega), hq _ _ (by omega)]; exact o3
              · rw [ha _ _ _ (by omega), hE]; exact o4
              · rw [ha _ _ _ (by omega), qE]; exact o5
              · intro g hg
                rw [nhE] at hg
                have z := o6 g hg
                unfold be_HR at z ⊢
                simp (disch := omega) only [ha, hq]
                exact z
              · intro g hg
                rw [nrE] at hg
                have z := o7 g hg
                unfold be_RR at z ⊢
                simp (disch := omega) only [ha, hq, ftE]
                exact z
              · rw [hq _ _ (by omega)]; exact x1
              · rw [theE, numE]; exact be_OW_t (fun c k j h => ha _ _ _ (by omega)) (fun c j h => hq _ _ (by omega)) x2
              · rw [ha _ _ _ (by omega), hq _ _ (by omega)]; exact s1
              · intro k hk
                rw [hq _ _ (by omega)] at hk
                have hb := hW2.2.1.2.1
                simp (disch := omega) only [ha, hq]
                exact s2 k hk
              · rw [hq3]; exact q1
              · intro k hk
                rw [hq3] at hk
                by_cases hkn : k = n
                · subst hkn
                  rw [r80, r81]
                  exact ⟨q2, fun h => absurd rfl h⟩
                · simp (disch := omega) only [ha, hq]
                  exact p2 k (by omega)
              · rw [ha _ _ _ (by omega), hq _ _ (by omega)]; exact k1
              · intro k hk
                simp (disch := omega) only [ha, hq] at hk ⊢
                exact k2 k hk
      · by_cases hy : 0 ≤ y ∧ y ≤ be_g e 50 2 - 1
        · rw [decide_eq_true hy] at c3 c4
          obtain ⟨n, hn⟩ := be_0le ws1
          have s1 := hX.2.2.2.2.1.1
          rw [hn] at s1
          obtain ⟨g1, g2⟩ := be_m186 (X := X) (a := a) (b := b) (u := u) (e := e) (f := f) (d := d) (x0 := 1) (L := 8) (n := n) (y1 := be_i 1) (y2 := be_i y) (y3 := be_i 0) (y4 := be_i 0) (by omega) (be_ln1 X 0 (by decide)) (by decide) s1
          rw [show am_rb18 1 = 6 from rfl] at g1
          by_cases hf : n = 8
          · have g2 := g2 hf
            subst hf
            refine be_Cp (v := be_i (-4)) hI ?_ ?_
            · rw [am_s234]
              simp (disch := (first | assumption | omega | exact (be_gB _ _ _).1 | exact (be_gB _ _ _).2)) only [↓reduceIte, be_ofI, ↓be_ofN, ↓be_0, be_add, be_sub, be_mul, be_neg, be_rem, be_bi, be_bl, be_bv, be_br, be_bE0, be_bE1, be_b1E, be_b0E, be_bkb, be_cast, Int.toNat_natCast, Int.reduceToNat, be_lt, be_le, be_eq, be_nt, be_ck, be_nz, be_bk, be_div, not_true_eq_false, not_false_eq_true, if_true, if_false, eq_self, Int.reduceEq, Int.reduceLT, Int.reduceLE, Bool.true_eq_false, Bool.false_eq_true, hxm, c5, c3, g2, am_b234_15, am_b234_22, am_b234_38, am_b234_54, am_b234_73]
            · rw [am_s86]
              simp (disch := (first | assumption | omega | exact (be_gB _ _ _).1 | exact (be_gB _ _ _).2)) only [↓reduceIte, be_ofI, ↓be_ofN, ↓be_0, be_add, be_sub, be_mul, be_neg, be_rem, be_bi, be_bl, be_bv, be_br, be_bE0, be_bE1, be_b1E, be_b0E, be_bkb, be_cast, Int.toNat_natCast, Int.reduceToNat, be_lt, be_le, be_eq, be_nt, be_ck, be_nz, be_bk, be_div, not_true_eq_false, not_false_eq_true, if_true, if_false, eq_self, Int.reduceEq, Int.reduceLT, Int.reduceLE, Bool.true_eq_false, Bool.false_eq_true, hxm, c6, c4, he, hn, am_b86_19, am_b86_32, am_b86_45]
              rfl
          · obtain ⟨a', g3, q1, q2, q3, q4, q5, q6⟩ := g1 (by omega)
            obtain ⟨e', he'⟩ : ∃ e', e' = am_w3 (am_w3 (am_w3 e 80 0 n (be_i 1)) 81 0 n (be_i y)) 50 0 45 (be_i ((n : Int) + 1)) := ⟨_, rfl⟩
            have hq : ∀ c j, ¬ (((80 ≤ c ∧ c ≤ 81) ∧ j = n) ∨ (c = 50 ∧ j = 45)) → be_g e' c j = be_g e c j := fun c j h => by rw [he']; simp (disch := omega) only [be_gn]
            have hq3 : be_g e' 50 45 = (n : Int) + 1 := by rw [he', be_gw _ _ _ _ _ (by omega) (by omega), if_pos ⟨rfl, rfl⟩]
            have r80 : be_g e' 80 n = 1 := by rw [he']; simp (disch := omega) only [be_gn]; rw [be_gw _ _ _ _ _ (by omega) (by omega), if_pos ⟨rfl, rfl⟩]
            have r81 : be_g e' 81 n = y := by rw [he']; simp (disch := omega) only [be_gn]; rw [be_gw _ _ _ _ _ (by omega) (by omega), if_pos ⟨rfl, rfl⟩]
            have ha : ∀ c k j, ¬ ((c = 6 ∧ k = 1 ∧ j = 1) ∨ (c = 19 ∧ k = n + 6)) → a' c k j = a c k j := fun c k j h => q6 c k j (by omega) (by omega)
            refine be_Ch (v := be_i ((n : Int) + 1)) (a' := a') (e' := e') hI ?_ ?_ (fun c k j h => ha _ _ _ (by unfold be_inH at h; omega)) (fun k => ha _ _ _ (by omega)) (fun k => ha _ _ _ (by omega)) (fun c j h => hq _ _ (by omega)) ?_
            · rw [am_s234]
              simp (disch := (first | assumption | omega | exact (be_gB _ _ _).1 | exact (be_gB _ _ _).2)) only [↓reduceIte, be_ofI, ↓be_ofN, ↓be_0, be_add, be_sub, be_mul, be_neg, be_rem, be_bi, be_bl, be_bv, be_br, be_bE0, be_bE1, be_b1E, be_b0E, be_bkb, be_cast, Int.toNat_natCast, Int.reduceToNat, be_lt, be_le, be_eq, be_nt, be_ck, be_nz, be_bk, be_div, not_true_eq_false, not_false_eq_true, if_true, if_false, eq_self, Int.reduceEq, Int.reduceLT, Int.reduceLE, Bool.true_eq_false, Bool.false_eq_true, hxm, c5, c3, g3, am_b234_15, am_b234_22, am_b234_38, am_b234_54, am_b234_73]
            · rw [am_s86]
              simp (disch := (first | assumption | omega | exact (be_gB _ _ _).1 | exact (be_gB _ _ _).2)) only [↓reduceIte, be_ofI, ↓be_ofN, ↓be_0, be_add, be_sub, be_mul, be_neg, be_rem, be_bi, be_bl, be_bv, be_br, be_bE0, be_bE1, be_b1E, be_b0E, be_bkb, be_cast, Int.toNat_natCast, Int.reduceToNat, be_lt, be_le, be_eq, be_nt, be_ck, be_nz, be_bk, be_div, not_true_eq_false, not_false_eq_true, if_true, if_false, eq_self, Int.reduceEq, Int.reduceLT, Int.reduceLE, Bool.true_eq_false, Bool.false_eq_true, hxm, c6, c4, he, hn, am_b86_19, am_b86_32, am_b86_45]
              rw [if_pos (by omega), he']
            · skip
              obtain ⟨qE, hE, theE, numE, tE⟩ := be_of_t (e := e) (e' := e') (fun c j h => hq _ _ (by omega)) (hq _ _ (by omega)) (hq _ _ (by omega))
              have nhE : be_nh e' = be_nh e := by unfold be_nh; rw [hq _ _ (by omega)]
              have nrE : be_nr e' = be_nr e := by unfold be_nr; rw [hq _ _ (by omega)]
              have ftE : ∀ r, be_ft e' r = be_ft e r := fun r => by unfold be_ft; rw [hq _ _ (by omega)]
              obtain ⟨⟨o1, o2, o3, o4, o5, o6, o7⟩, x1, x2, ⟨s1, s2⟩, ⟨p1, p2⟩, ⟨k1, k2⟩⟩ := hX
              refine ⟨?_, ?_, tE hT, ?_, ?_, ?_, ?_⟩
              · skip
                refine ⟨?_, ?_, ?_, ?_⟩
                · simp (disch := omega) only [hq]; exact hW.1
                · intro g hg; simp (disch := omega) only [hq]; exact hW.2.1 g hg
                · intro g hg; simp (disch := omega) only [hq]; exact hW.2.2.1 g hg
                · intro g hg; simp (disch := omega) only [hq]; exact hW.2.2.2 g hg
              · skip
                refine ⟨?_, ?_, ?_, ?_⟩
                · intro g hg; simp (disch := omega) only [hq] at hg ⊢; exact hW2.1 g hg
                · refine ⟨?_, ?_, fun k hk => ?_⟩
                  · simp (disch := omega) only [hq]; exact hW2.2.1.1
                  · simp (disch := omega) only [hq]; exact hW2.2.1.2.1
                  · simp (disch := omega) only [hq] at hk ⊢; exact hW2.2.1.2.2 k hk
                · refine ⟨?_, ?_, fun k hk => ?_⟩
                  · rw [hq3]; omega
                  · rw [hq3]; omega
                  · rw [hq3] at hk
                    rw [hq 50 0 (by omega), hq 50 2 (by omega)]
                    by_cases hkn : k = n
                    · subst hkn
                      rw [r80, r81]
                      omega
                    · simp (disch := omega) only [hq]
                      exact ws3 k (by omega)
                · refine ⟨?_, ?_, fun k hk => ?_⟩
                  · simp (disch := omega) only [hq]; exact hW2.2.2.2.1
                  · simp (disch := omega) only [hq]; exact hW2.2.2.2.2.1
                  · simp (disch := omega) only [hq] at hk ⊢; exact hW2.2.2.2.2.2 k hk
              · rw [hq _ _ (by omega)]; exact hh
              · rw [hq _ _ (by omega)]; exact hD
              · rw [hq _ _ (by omega), hq _ _ (by omega)]; exact hth
              · skip
                refine ⟨⟨?_, ?_, ?_, ?_, ?_, ?_, ?_⟩, ?_, ?_, ⟨?_, ?_⟩, ⟨?_, ?_⟩, ⟨?_, ?_⟩⟩
                · rw [ha _ _ _ (by omega), hq _ _ (by omega)]; exact o1
                · rw [ha _ _ _ (by omega), hq _ _ (by omega)]; exact o2
                · rw [ha _ _ _ (by omega), hq _ _ (by omega)]; exact o3
                · rw [ha _ _ _ (by omega), hE]; exact o4
                · rw [ha _ _ _ (by omega), qE]; exact o5
                · intro g hg
                  rw [nhE] at hg
                  have z := o6 g hg
                  unfold be_HR at z ⊢
                  simp (disch := omega) only [ha, hq]
                  exact z
                · intro g hg
                  rw [nrE] at hg
                  have z := o7 g hg
                  unfold be_RR at z ⊢
                  simp (disch := omega) only [ha, hq, ftE]
                  exact z
                · rw [hq _ _ (by omega)]; exact x1
                · rw [theE, numE]; exact be_OW_t (fun c k j h => ha _ _ _ (by omega)) (fun c j h => hq _ _ (by omega)) x2
                · rw [ha _ _ _ (by omega), hq _ _ (by omega)]; exact s1
                · intro k hk
                  rw [hq _ _ (by omega)] at hk
                  have hb := hW2.2.1.2.1
                  simp (disch := omega) only [ha, hq]
                  exact s2 k hk
                · rw [hq3]; exact q1
                · intro k hk
                  rw [hq3] at hk
                  by_cases hkn : k = n
                  · subst hkn
                    rw [r80, r81]
                    exact ⟨q2, fun _ => q3⟩
                  · simp (disch := omega) only [ha, hq]
                    exact p2 k (by omega)
                · rw [ha _ _ _ (by omega), hq _ _ (by omega)]; exact k1
                · intro k hk
                  simp (disch := omega) only [ha, hq] at hk ⊢
                  exact k2 k hk
        · rw [decide_eq_false hy] at c3 c4
          refine be_Cp (v := be_i (-1)) hI ?_ ?_
          · rw [am_s234]
            simp (disch := (first | assumption | omega | exact (be_gB _ _ _).1 | exact (be_gB _ _ _).2)) only [↓reduceIte, be_ofI, ↓be_ofN, ↓be_0, be_add, be_sub, be_mul, be_neg, be_rem, be_bi, be_bl, be_bv, be_br, be_bE0, be_bE1, be_b1E, be_b0E, be_bkb, be_cast, Int.toNat_natCast, Int.reduceToNat, be_lt, be_le, be_eq, be_nt, be_ck, be_nz, be_bk, be_div, not_true_eq_false, not_false_eq_true, if_true, if_false, eq_self, Int.reduceEq, Int.reduceLT, Int.reduceLE, Bool.true_eq_false, Bool.false_eq_true, hxm, c5, c3, am_b234_15, am_b234_22, am_b234_38, am_b234_54, am_b234_73]
          · rw [am_s86]
            simp (disch := (first | assumption | omega | exact (be_gB _ _ _).1 | exact (be_gB _ _ _).2)) only [↓reduceIte, be_ofI, ↓be_ofN, ↓be_0, be_add, be_sub, be_mul, be_neg, be_rem, be_bi, be_bl, be_bv, be_br, be_bE0, be_bE1, be_b1E, be_b0E, be_bkb, be_cast, Int.toNat_natCast, Int.reduceToNat, be_lt, be_le, be_eq, be_nt, be_ck, be_nz, be_bk, be_div, not_true_eq_false, not_false_eq_true, if_true, if_false, eq_self, Int.reduceEq, Int.reduceLT, Int.reduceLE, Bool.true_eq_false, Bool.false_eq_true, hxm, c6, c4, am_b86_19, am_b86_32, am_b86_45]
      · by_cases hy : 0 ≤ y ∧ y ≤ be_g e 50 0 - 1
        · rw [decide_eq_true hy] at c1 c2
          obtain ⟨n, hn⟩ := be_0le ws1
          have s1 := hX.2.2.2.2.1.1
          rw [hn] at s1
          obtain ⟨g1, g2⟩ := be_m186 (X := X) (a := a) (b := b) (u := u) (e := e) (f := f) (d := d) (x0 := 1) (L := 8) (n := n) (y1 := be_i 2) (y2 := be_i y) (y3 := be_i 0) (y4 := be_i 0) (by omega) (be_ln1 X 0 (by decide)) (by decide) s1
          rw [show am_rb18 1 = 6 from rfl] at g1
          by_cases hf : n = 8
          · have g2 := g2 hf
            subst hf
            refine be_Cp (v := be_i (-4)) hI ?_ ?_
            · rw [am_s234]
              simp (disch := (first | assumption | omega | exact (be_gB _ _ _).1 | exact (be_gB _ _ _).2)) only [↓reduceIte, be_ofI, ↓be_ofN, ↓be_0, be_add, be_sub, be_mul, be_neg, be_rem, be_bi, be_bl, be_bv, be_br, be_bE0, be_bE1, be_b1E, be_b0E, be_bkb, be_cast, Int.toNat_natCast, Int.reduceToNat, be_lt, be_le, be_eq, be_nt, be_ck, be_nz, be_bk, be_div, not_true_eq_false, not_false_eq_true, if_true, if_false, eq_self, Int.reduceEq, Int.reduceLT, Int.reduceLE, Bool.true_eq_false, Bool.false_eq_true, hxm, c5, c1, g2, am_b234_15, am_b234_22, am_b234_38, am_b234_54, am_b234_73]
            · rw [am_s86]
              simp (disch := (first | assumption | omega | exact (be_gB _ _ _).1 | exact (be_gB _ _ _).2)) only [↓reduceIte, be_ofI, ↓be_ofN, ↓be_0, be_add, be_sub, be_mul, be_neg, be_rem, be_bi, be_bl, be_bv, be_br, be_bE0, be_bE1, be_b1E, be_b0E, be_bkb, be_cast, Int.toNat_natCast, Int.reduceToNat, be_lt, be_le, be_eq, be_nt, be_ck, be_nz, be_bk, be_div, not_true_eq_false, not_false_eq_true, if_true, if_false, eq_self, Int.reduceEq, Int.reduceLT, Int.reduceLE, Bool.true_eq_false, Bool.false_eq_true, hxm, c6, c2, he, hn, am_b86_19, am_b86_32, am_b86_45]
              rfl
          · obtain ⟨a', g3, q1, q2, q3, q4, q5, q6⟩ := g1 (by omega)
            obtain ⟨e', he'⟩ : ∃ e', e' = am_w3 (am_w3 (am_w3 e 80 0 n (be_i 2)) 81 0 n (be_i y)) 50 0 45 (be_i ((n : Int) + 1)) := ⟨_, rfl⟩
            have hq : ∀ c j, ¬ (((80 ≤ c ∧ c ≤ 81) ∧ j = n) ∨ (c = 50 ∧ j = 45)) → be_g e' c j = be_g e c j := fun c j h => by rw [he']; simp (disch := omega) only [be_gn]
            have hq3 : be_g e' 50 45 = (n : Int) + 1 := by rw [he', be_gw _ _ _ _ _ (by omega) (by omega), if_pos ⟨rfl, rfl⟩]
            have r80 : be_g e' 80 n = 2 := by rw [he']; simp (disch := omega) only [be_gn]; rw [be_gw _ _ _ _ _ (by omega) (by omega), if_pos ⟨rfl, rfl⟩]
            have r81 : be_g e' 81 n = y := by rw [he']; simp (disch := omega) only [be_gn]; rw [be_gw _ _ _ _ _ (by omega) (by omega), if_pos ⟨rfl, rfl⟩]
            have ha : ∀ c k j, ¬ ((c = 6 ∧ k = 1 ∧ j = 1) ∨ (c = 19 ∧ k = n + 6)) → a' c k j = a c k j := fun c k j h => q6 c k j (by omega) (by omega)
            refine be_Ch (v := be_i ((n : Int) + 1)) (a' := a') (e' := e') hI ?_ ?_ (fun c k j h => ha _ _ _ (by unfold be_inH at h; omega)) (fun k => ha _ _ _ (by omega)) (fun k => ha _ _ _ (by omega)) (fun c j h => hq _ _ (by omega)) ?_
            · rw [am_s234]
              simp (disch := (first | assumption | omega | exact (be_gB _ _ _).1 | exact (be_gB _ _ _).2)) only [↓reduceIte, be_ofI, ↓be_ofN, ↓be_0, be_add, be_sub, be_mul, be_neg, be_rem, be_bi, be_bl, be_bv, be_br, be_bE0, be_bE1, be_b1E, be_b0E, be_bkb, be_cast, Int.toNat_natCast, Int.reduceToNat, be_lt, be_le, be_eq, be_nt, be_ck, be_nz, be_bk, be_div, not_true_eq_false, not_false_eq_true, if_true, if_false, eq_self, Int.reduceEq, Int.reduceLT, Int.reduceLE, Bool.true_eq_false, Bool.false_eq_true, hxm, c5, c1, g3, am_b234_15, am_b234_22, am_b234_38, am_b234_54, am_b234_73]
            · rw [am_s86]
              simp (disch := (first | assumption | omega | exact (be_gB _ _ _).1 | exact (be_gB _ _ _).2)) only [↓reduceIte, be_ofI, ↓be_ofN, ↓be_0, be_add, be_sub, be_mul, be_neg, be_rem, be_bi, be_bl, be_bv, be_br, be_bE0, be_bE1, be_b1E, be_b0E, be_bkb, be_cast, Int.toNat_natCast, Int.reduceToNat, be_lt, be_le, be_eq, be_nt, be_ck, be_nz, be_bk, be_div, not_true_eq_false, not_false_eq_true, if_true, if_false, eq_self, Int.reduceEq, Int.reduceLT, Int.reduceLE, Bool.true_eq_false, Bool.false_eq_true, hxm, c6, c2, he, hn, am_b86_19, am_b86_32, am_b86_45]
              rw [if_pos (by omega), he']
            · skip
              obtain ⟨qE, hE, theE, numE, tE⟩ := be_of_t (e := e) (e' := e') (fun c j h => hq _ _ (by omega)) (hq _ _ (by omega)) (hq _ _ (by omega))
              have nhE : be_nh e' = be_nh e := by unfold be_nh; rw [hq _ _ (by omega)]
              have nrE : be_nr e' = be_nr e := by unfold be_nr; rw [hq _ _ (by omega)]
              have ftE : ∀ r, be_ft e' r = be_ft e r := fun r => by unfold be_ft; rw [hq _ _ (by omega)]
              obtain ⟨⟨o1, o2, o3, o4, o5, o6, o7⟩, x1, x2, ⟨s1, s2⟩, ⟨p1, p2⟩, ⟨k1, k2⟩⟩ := hX
              refine ⟨?_, ?_, tE hT, ?_, ?_, ?_, ?_⟩
              · skip
                refine ⟨?_, ?_, ?_, ?_⟩
                · simp (disch := omega) only [hq]; exact hW.1
                · intro g hg; simp (disch := omega) only [hq]; exact hW.2.1 g hg
                · intro g hg; simp (disch := omega) only [hq]; exact hW.2.2.1 g hg
                · intro g hg; simp (disch := omega) only [hq]; exact hW.2.2.2 g hg
              · skip
                refine ⟨?_, ?_, ?_, ?_⟩
                · intro g hg; simp (disch := omega) only [hq] at hg ⊢; exact hW2.1 g hg
                · refine ⟨?_, ?_, fun k hk => ?_⟩
                  · simp (disch := omega) only [hq]; exact hW2.2.1.1
                  · simp (disch := omega) only [hq]; exact hW2.2.1.2.1
                  · simp (disch := omega) only [hq] at hk ⊢; exact hW2.2.1.2.2 k hk
                · refine ⟨?_, ?_, fun k hk => ?_⟩
                  · rw [hq3]; omega
                  · rw [hq3]; omega
                  · rw [hq3] at hk
                    rw [hq 50 0 (by omega), hq 50 2 (by omega)]
                    by_cases hkn : k = n
                    · subst hkn
                      rw [r80, r81]
                      omega
                    · simp (disch := omega) only [hq]
                      exact ws3 k (by omega)
                · refine ⟨?_, ?_, fun k hk => ?_⟩
                  · simp (disch := omega) only [hq]; exact hW2.2.2.2.1
                  · simp (disch := omega) only [hq]; exact hW2.2.2.2.2.1
                  · simp (disch := omega) only [hq] at hk ⊢; exact hW2.2.2.2.2.2 k hk
              · rw [hq _ _ (by omega)]; exact hh
              · rw [hq _ _ (by omega)]; exact hD
              · rw [hq _ _ (by omega), hq _ _ (by omega)]; exact hth
              · skip
                refine ⟨⟨?_, ?_, ?_, ?_, ?_, ?_, ?_⟩, ?_, ?_, ⟨?_, ?_⟩, ⟨?_, ?_⟩, ⟨?_, ?_⟩⟩
                · rw [ha _ _ _ (by omega), hq _ _ (by omega)]; exact o1
                · rw [ha _ _ _ (by omega), hq _ _ (by omega)]; exact o2
                · rw [ha _ _ _ (by omega), hq _ _ (by omega)]; exact o3
                · rw [ha _ _ _ (by omega), hE]; exact o4
                · rw [ha _ _ _ (by omega), qE]; exact o5
                · intro g hg
                  rw [nhE] at hg
                  have z := o6 g hg
                  unfold be_HR at z ⊢
                  simp (disch := omega) only [ha, hq]
                  exact z
                · intro g hg
                  rw [nrE] at hg
                  have z := o7 g hg
                  unfold be_RR at z ⊢
                  simp (disch := omega) only [ha, hq, ftE]
                  exact z
                · rw [hq _ _ (by omega)]; exact x1
                · rw [theE, numE]; exact be_OW_t (fun c k j h => ha _ _ _ (by omega)) (fun c j h => hq _ _ (by omega)) x2
                · rw [ha _ _ _ (by omega), hq _ _ (by omega)]; exact s1
                · intro k hk
                  rw [hq _ _ (by omega)] at hk
                  have hb := hW2.2.1.2.1
                  simp (disch := omega) only [ha, hq]
                  exact s2 k hk
                · rw [hq3]; exact q1
                · intro k hk
                  rw [hq3] at hk
                  by_cases hkn : k = n
                  · subst hkn
                    rw [r80, r81]
                    exact ⟨q2, fun _ => q3⟩
                  · simp (disch := omega) only [ha, hq]
                    exact p2 k (by omega)
                · rw [ha _ _ _ (by omega), hq _ _ (by omega)]; exact k1
                · intro k hk
                  simp (disch := omega) only [ha, hq] at hk ⊢
                  exact k2 k hk
        · rw [decide_eq_false hy] at c1 c2
          refine be_Cp (v := be_i (-1)) hI ?_ ?_
          · rw [am_s234]
            simp (disch := (first | assumption | omega | exact (be_gB _ _ _).1 | exact (be_gB _ _ _).2)) only [↓reduceIte, be_ofI, ↓be_ofN, ↓be_0, be_add, be_sub, be_mul, be_neg, be_rem, be_bi, be_bl, be_bv, be_br, be_bE0, be_bE1, be_b1E, be_b0E, be_bkb, be_cast, Int.toNat_natCast, Int.reduceToNat, be_lt, be_le, be_eq, be_nt, be_ck, be_nz, be_bk, be_div, not_true_eq_false, not_false_eq_true, if_true, if_false, eq_self, Int.reduceEq, Int.reduceLT, Int.reduceLE, Bool.true_eq_false, Bool.false_eq_true, hxm, c5, c1, am_b234_15, am_b234_22, am_b234_38, am_b234_54, am_b234_73]
          · rw [am_s86]
            simp (disch := (first | assumption | omega | exact (be_gB _ _ _).1 | exact (be_gB _ _ _).2)) only [↓reduceIte, be_ofI, ↓be_ofN, ↓be_0, be_add, be_sub, be_mul, be_neg, be_rem, be_bi, be_bl, be_bv, be_br, be_bE0, be_bE1, be_b1E, be_b0E, be_bkb, be_cast, Int.toNat_natCast, Int.reduceToNat, be_lt, be_le, be_eq, be_nt, be_ck, be_nz, be_bk, be_div, not_true_eq_false, not_false_eq_true, if_true, if_false, eq_self, Int.reduceEq, Int.reduceLT, Int.reduceLE, Bool.true_eq_false, Bool.false_eq_true, hxm, c6, c2, am_b86_19, am_b86_32, am_b86_45]
    · rw [decide_eq_false hx] at c5 c6
      refine be_Cp (v := be_i (-1)) hI ?_ ?_
      · rw [am_s234]
        simp (disch := (first | assumption | omega | exact (be_gB _ _ _).1 | exact (be_gB _ _ _).2)) only [↓reduceIte, be_ofI, ↓be_ofN, ↓be_0, be_add, be_sub, be_mul, be_neg, be_rem, be_bi, be_bl, be_bv, be_br, be_bE0, be_bE1, be_b1E, be_b0E, be_bkb, be_cast, Int.toNat_natCast, Int.reduceToNat, be_lt, be_le, be_eq, be_nt, be_ck, be_nz, be_bk, be_div, not_true_eq_false, not_false_eq_true, if_true, if_false, eq_self, Int.reduceEq, Int.reduceLT, Int.reduceLE, Bool.true_eq_false, Bool.false_eq_true, hxm, c5, am_b234_15, am_b234_22, am_b234_38, am_b234_54, am_b234_73]
      · rw [am_s86]
        simp (disch := (first | assumption | omega | exact (be_gB _ _ _).1 | exact (be_gB _ _ _).2)) only [↓reduceIte, be_ofI, ↓be_ofN, ↓be_0, be_add, be_sub, be_mul, be_neg, be_rem, be_bi, be_bl, be_bv, be_br, be_bE0, be_bE1, be_b1E, be_b0E, be_bkb, be_cast, Int.toNat_natCast, Int.reduceToNat, be_lt, be_le, be_eq, be_nt, be_ck, be_nz, be_bk, be_div, not_true_eq_false, not_false_eq_true, if_true, if_false, eq_self, Int.reduceEq, Int.reduceLT, Int.reduceLE, Bool.true_eq_false, Bool.false_eq_true, hxm, c6, am_b86_19, am_b86_32, am_b86_45]
theorem be_cbook (hd : 12 ≤ d) (hI : be_IV a b u e f) {x y : Int} (hx1 : -2147483648 ≤ x) (hx2 : x < 2147483648) (hy1 : -2147483648 ≤ y) (hy2 : y < 2147483648) : be_C X d 236 88 [am_I (be_i (x)), am_I (be_i (y))] a b u e f := by
  obtain ⟨d, rfl⟩ : ∃ q, d = q + 1 := ⟨d - 1, by omega⟩
  have he := be_gI e
  have hI' := hI
  obtain ⟨⟨hW, hW2, hT, hh, hD, hth, hX⟩, -⟩ := hI'
  have hW1 := hW.1
  obtain ⟨nr, nr2⟩ := be_nrR hW
  obtain ⟨nh, nh2⟩ := be_nhR hW
  obtain ⟨ws1, ws2, ws3⟩ := hW2.2.2.2
  by_cases hxm : x = -1
  · subst hxm
    obtain ⟨e', he'⟩ : ∃ e', e' = am_w3 e 50 0 46 (be_i 0) := ⟨_, rfl⟩
    obtain ⟨a', ha'⟩ : ∃ a', a' = am_w3 a 6 2 1 (be_i 0) := ⟨_, rfl⟩
    have hq : ∀ c j, ¬ (c = 50 ∧ j = 46) → be_g e' c j = be_g e c j := fun c j h => by rw [he']; exact be_gn _ _ _ _ _ _ _ (by omega)
    have hq3 : be_g e' 50 46 = 0 := by rw [he', be_gw _ _ _ _ _ (by omega) (by omega), if_pos ⟨rfl, rfl⟩]
    have ha : ∀ c k j, ¬ (c = 6 ∧ k = 2 ∧ j = 1) → a' c k j = a c k j := fun c k j h => by rw [ha']; exact be_w3n _ _ _ _ _ _ _ _ h
    have ha3 : a' 6 2 1 = be_i 0 := by rw [ha', be_w3s]
    have h185 : am_sem X d 185 [.inr (6, 2)] (am_sd a b u e f) = some (some (am_I (be_i 0)), am_sd a' b u e f) := by
      obtain ⟨d, rfl⟩ : ∃ q, d = q + 1 := ⟨d - 1, by omega⟩
      rw [am_s185, ha']
    refine be_Ch (v := be_i 0) (a' := a') (e' := e') hI ?_ ?_ (fun c k j h => ha _ _ _ (by unfold be_inH at h; omega)) (fun k => ha _ _ _ (by omega)) (fun k => ha _ _ _ (by omega)) (fun c j h => hq _ _ (by omega)) ?_
    · rw [am_s236]
      simp (disch := (first | assumption | omega | exact (be_gB _ _ _).1 | exact (be_gB _ _ _).2)) only [↓reduceIte, be_ofI, ↓be_ofN, ↓be_0, be_add, be_sub, be_mul, be_neg, be_rem, be_bi, be_bl, be_bv, be_br, be_bE0, be_bE1, be_b1E, be_b0E, be_bkb, be_cast, Int.toNat_natCast, Int.reduceToNat, be_lt, be_le, be_eq, be_nt, be_ck, be_nz, be_bk, be_div, not_true_eq_false, not_false_eq_true, if_true, if_false, eq_self, Int.reduceEq, Int.reduceLT, Int.reduceLE, Bool.true_eq_false, Bool.false_eq_true, h185, am_b236_15]
    · rw [am_s88]
      simp (disch := (first | assumption | omega | exact (be_gB _ _ _).1 | exact (be_gB _ _ _).2)) only [↓reduceIte, be_ofI, ↓be_ofN, ↓be_0, be_add, be_sub, be_mul, be_neg, be_rem, be_bi, be_bl, be_bv, be_br, be_bE0, be_bE1, be_b1E, be_b0E, be_bkb, be_cast, Int.toNat_natCast, Int.reduceToNat, be_lt, be_le, be_eq, be_nt, be_ck, be_nz, be_bk, be_div, not_true_eq_false, not_false_eq_true, if_true, if_false, eq_self, Int.reduceEq, Int.reduceLT, Int.reduceLE, Bool.true_eq_false, Bool.false_eq_true]
      rw [he']
    · skip
      obtain ⟨qE, hE, theE, numE, tE⟩ := be_of_t (e := e) (e' := e') (fun c j h => hq _ _ (by omega)) (hq _ _ (by omega)) (hq _ _ (by omega))
      have nhE : be_nh e' = be_nh e := by unfold be_nh; rw [hq _ _ (by omega)]
      have nrE : be_nr e' = be_nr e := by unfold be_nr; rw [hq _ _ (by omega)]
      have ftE : ∀ r, be_ft e' r = be_ft e r := fun r => by unfold be_ft; rw [hq _ _ (by omega)]
      obtain ⟨⟨o1, o2, o3, o4, o5, o6, o7⟩, x1, x2, ⟨s1, s2⟩, ⟨p1, p2⟩, ⟨k1, k2⟩⟩ := hX
      refine ⟨?_, ?_, tE hT, ?_, ?_, ?_, ?_⟩
      · skip
        refine ⟨?_, ?_, ?_, ?_⟩
        · simp (disch := omega) only [hq]; exact hW.1
        · intro g hg; simp (disch := omega) only [hq]; exact hW.2.1 g hg
        · intro g hg; simp (disch := omega) only [hq]; exact hW.2.2.1 g hg
        · intro g hg; simp (disch := omega) only [hq]; exact hW.2.2.2 g hg
      · skip
        refine ⟨?_, ?_, ?_, ?_⟩
        · intro g hg; simp (disch := omega) only [hq] at hg ⊢; exact hW2.1 g hg
        · refine ⟨?_, ?_, fun k hk => ?_⟩
          · simp (disch := omega) only [hq]; exact hW2.2.1.1
          · simp (disch := omega) only [hq]; exact hW2.2.1.2.1
          · simp (disch := omega) only [hq] at hk ⊢; exact hW2.2.1.2.2 k hk
        · refine ⟨?_, ?_, fun k hk => ?_⟩
          · simp (disch := omega) only [hq]; exact hW2.2.2.1.1
          · simp (disch := omega) only [hq]; exact hW2.2.2.1.2.1
          · simp (disch := omega) only [hq] at hk ⊢; exact hW2.2.2.1.2.2 k hk
        · refine ⟨?_, ?_, fun k hk => ?_⟩
          · rw [hq3]; decide
          · rw [hq3]; decide
          · rw [hq3] at hk; omega
      · rw [hq _ _ (by omega)]; exact hh
      · rw [hq _ _ (by omega)]; exact hD
      · rw [hq _ _ (by omega), hq _ _ (by omega)]; exact hth
      · skip
        refine ⟨⟨?_, ?_, ?_, ?_, ?_, ?_, ?_⟩, ?_, ?_, ⟨?_, ?_⟩, ⟨?_, ?_⟩, ⟨?_, ?_⟩⟩
        · rw [ha _ _ _ (by omega), hq _ _ (by omega)]; exact o1
        · rw [ha _ _ _ (by omega), hq _ _ (by omega)]; exact o2
        · rw [ha _ _ _ (by omega), hq _ _ (by omega)]; exact o3
        · rw [ha _ _ _ (by omega), hE]; exact o4
        · rw [ha _ _ _ (by omega), qE]; exact o5
        · intro g hg
          rw [nhE] at hg
          have z := o6 g hg
          unfold be_HR at z ⊢
          simp (disch := omega) only [ha, hq]
          exact z
        · intro g hg
          rw [nrE] at hg
          have z := o7 g hg
          unfold be_RR at z ⊢
          simp (disch := omega) only [ha, hq, ftE]
          exact z
        · rw [hq _ _ (by omega)]; exact x1
        · rw [theE, numE]; exact be_OW_t (fun c k j h => ha _ _ _ (by omega)) (fun c j h => hq _ _ (by omega)) x2
        · rw [ha _ _ _ (by omega), hq _ _ (by omega)]; exact s1
        · intro k hk
          simp (disch := omega) only [ha, hq] at hk ⊢
          exact s2 k hk
        · rw [ha _ _ _ (by omega), hq _ _ (by omega)]; exact p1
        · intro k hk
          simp (disch := omega) only [ha, hq] at hk ⊢
          exact p2 k hk
        · rw [show 3 * 0 + 2 = 2 from rfl, ha3, hq3]
        · intro k hk
          rw [hq3] at hk
          omega
  · have c1 := be_hasR (X := X) (a := a) (b := b) (u := u) (e := e) (f := f) (d := d) (x := y) (by omega) hI hy1 hy2
    have c2 := fun a' => be_m5 (X := X) (a := a') (b := b) (u := u) (e := e) (f := f) (d := d) (x := y) (by omega) hy1 hy2 hW1.1
    have c3 := be_hasH (X := X) (a := a) (b := b) (u := u) (e := e) (f := f) (d := d) (x := x) (by omega) hI hx1 hx2
    have c4 := fun a' => be_m6 (X := X) (a := a') (b := b) (u := u) (e := e) (f := f) (d := d) (x := x) (by omega) hx1 hx2 (by omega)
    by_cases hx : 0 ≤ x ∧ x ≤ be_g e 50 2 - 1
    · rw [decide_eq_true hx] at c3 c4
      by_cases h4 : y = 4
      · subst h4
        obtain ⟨n, hn⟩ := be_0le ws1
        have s1 := hX.2.2.2.2.2.1
        rw [hn] at s1
        obtain ⟨g1, g2⟩ := be_m186 (X := X) (a := a) (b := b) (u := u) (e := e) (f := f) (d := d) (x0 := 2) (L := 8) (n := n) (y1 := be_i x) (y2 := be_i 4) (y3 := be_i 0) (y4 := be_i 0) (by omega) (be_ln2 X 0 (by decide)) (by decide) s1
        rw [show am_rb18 2 = 14 from rfl] at g1
        by_cases hf : n = 8
        · have g2 := g2 hf
          subst hf
          refine be_Cp (v := be_i (-4)) hI ?_ ?_
          · rw [am_s236]
            simp (disch := (first | assumption | omega | exact (be_gB _ _ _).1 | exact (be_gB _ _ _).2)) only [↓reduceIte, be_ofI, ↓be_ofN, ↓be_0, be_add, be_sub, be_mul, be_neg, be_rem, be_bi, be_bl, be_bv, be_br, be_bE0, be_bE1, be_b1E, be_b0E, be_bkb, be_cast, Int.toNat_natCast, Int.reduceToNat, be_lt, be_le, be_eq, be_nt, be_ck, be_nz, be_bk, be_div, not_true_eq_false, not_false_eq_true, if_true, if_false, eq_self, Int.reduceEq, Int.reduceLT, Int.reduceLE, Bool.true_eq_false, Bool.false_eq_true, hxm, c3, g2, am_b236_15, am_b236_24, am_b236_40, am_b236_59]
          · rw [am_s88]
            simp (disch := (first | assumption | omega | exact (be_gB _ _ _).1 | exact (be_gB _ _ _).2)) only [↓reduceIte, be_ofI, ↓be_ofN, ↓be_0, be_add, be_sub, be_mul, be_neg, be_rem, be_bi, be_bl, be_bv, be_br, be_bE0, be_bE1, be_b1E, be_b0E, be_bkb, be_cast, Int.toNat_natCast, Int.reduceToNat, be_lt, be_le, be_eq, be_nt, be_ck, be_nz, be_bk, be_div, not_true_eq_false, not_false_eq_true, if_true, if_false, eq_self, Int.reduceEq, Int.reduceLT, Int.reduceLE, Bool.true_eq_false, Bool.false_eq_true, hxm, c4, he, hn, am_b88_17, am_b88_30]
            rfl
        · obtain ⟨a', g3, q1, q2, q3, q4, q5, q6⟩ := g1 (by omega)
          obtain ⟨e', he'⟩ : ∃ e', e' = am_w3 (am_w3 (am_w3 e 82 0 n (be_i x)) 83 0 n (be_i 4)) 50 0 46 (be_i ((n : Int) + 1)) := ⟨_, rfl⟩
          have hq : ∀ c j, ¬ (((82 ≤ c ∧ c ≤ 83) ∧ j = n) ∨ (c = 50 ∧ j = 46)) → be_g e' c j = be_g e c j := fun c j h => by rw [he']; simp (disch := omega) only [be_gn]
          have hq3 : be_g e' 50 46 = (n : Int) + 1 := by rw [he', be_gw _ _ _ _ _ (by omega) (by omega), if_pos ⟨rfl, rfl⟩]
          have r82 : be_g e' 82 n = x := by rw [he']; simp (disch := omega) only [be_gn]; rw [be_gw _ _ _ _ _ (by omega) (by omega), if_pos ⟨rfl, rfl⟩]
          have r83 : be_g e' 83 n = 4 := by rw [he']; simp (disch := omega) only [be_gn]; rw [be_gw _ _ _ _ _ (by omega) (by omega), if_pos ⟨rfl, rfl⟩]
          have ha : ∀ c k j, ¬ ((c = 6 ∧ k = 2 ∧ j = 1) ∨ (c = 19 ∧ k = n + 14)) → a' c k j = a c k j := fun c k j h => q6 c k j (by omega) (by omega)
          refine be_Ch (v := be_i ((n : Int) + 1)) (a' := a') (e' := e') hI ?_ ?_ (fun c k j h => ha _ _ _ (by unfold be_inH at h; omega)) (fun k => ha _ _ _ (by omega)) (fun k => ha _ _ _ (by omega)) (fun c j h => hq _ _ (by omega)) ?_
          · rw [am_s236]
            simp (disch := (first | assumption | omega | exact (be_gB _ _ _).1 | exact (be_gB _ _ _).2)) only [↓reduceIte, be_ofI, ↓be_ofN, ↓be_0, be_add, be_sub, be_mul, be_neg, be_rem, be_bi, be_bl, be_bv, be_br, be_bE0, be_bE1, be_b1E, be_b0E, be_bkb, be_cast, Int.toNat_natCast, Int.reduceToNat, be_lt, be_le, be_eq, be_nt, be_ck, be_nz, be_bk, be_div, not_true_eq_false, not_false_eq_true, if_true, if_false, eq_self, Int.reduceEq, Int.reduceLT, Int.reduceLE, Bool.true_eq_false, Bool.false_eq_true, hxm, c3, g3, am_b236_15, am_b236_24, am_b236_40, am_b236_59]
          · rw [am_s88]
            simp (disch := (first | assumption | omega | exact (be_gB _ _ _).1 | exact (be_gB _ _ _).2)) only [↓reduceIte, be_ofI, ↓be_ofN, ↓be_0, be_add, be_sub, be_mul, be_neg, be_rem, be_bi, be_bl, be_bv, be_br, be_bE0, be_bE1, be_b1E, be_b0E, be_bkb, be_cast, Int.toNat_natCast, Int.reduceToNat, be_lt, be_le, be_eq, be_nt, be_ck, be_nz, be_bk, be_div, not_true_eq_false, not_false_eq_true, if_true, if_false, eq_self, Int.reduceEq, Int.reduceLT, Int.reduceLE, Bool.true_eq_false, Bool.false_eq_true, hxm, c4, he, hn, am_b88_17, am_b88_30]
            rw [if_pos (by omega), he']
          · skip
            obtain ⟨qE, hE, theE, numE, tE⟩ := be_of_t (e := e) (e' := e') (fun c j h => hq _ _ (by omega)) (hq _ _ (by omega)) (hq _ _ (by omega))
            have nhE : be_nh e' = be_nh e := by unfold be_nh; rw [hq _ _ (by omega)]
            have nrE : be_nr e' = be_nr e := by unfold be_nr; rw [hq _ _ (by omega)]
            have ftE : ∀ r, be_ft e' r = be_ft e r := fun r => by unfold be_ft; rw [hq _ _ (by omega)]
            obtain ⟨⟨o1, o2, o3, o4, o5, o6, o7⟩, x1, x2, ⟨s1, s2⟩, ⟨p1, p2⟩, ⟨k1, k2⟩⟩ := hX
            refine ⟨?_, ?_, tE hT, ?_, ?_, ?_, ?_⟩
            · skip
              refine ⟨?_, ?_, ?_, ?_⟩
              · simp (disch := omega) only [hq]; exact hW.1
              · intro g hg; simp (disch := omega) only [hq]; exact hW.2.1 g hg
              · intro g hg; simp (disch := omega) only [hq]; exact hW.2.2.1 g hg
              · intro g hg; simp (disch := omega) only [hq]; exact hW.2.2.2 g hg
            · skip
              refine ⟨?_, ?_, ?_, ?_⟩
              · intro g hg; simp (disch := omega) only [hq] at hg ⊢; exact hW2.1 g hg
              · refine ⟨?_, ?_, fun k hk => ?_⟩
                · simp (disch := omega) only [hq]; exact hW2.2.1.1
                · simp (disch := omega) only [hq]; exact hW2.2.1.2.1
                · simp (disch := omega) only [hq] at hk ⊢; exact hW2.2.1.2.2 k hk
              · refine ⟨?_, ?_, fun k hk => ?_⟩
                · simp (disch := omega) only [hq]; exact hW2.2.2.1.1
                · simp (disch := omega) only [hq]; exact hW2.2.2.1.2.1
                · simp (disch := omega) only [hq] at hk ⊢; exact hW2.2.2.1.2.2 k hk
              · refine ⟨?_, ?_, fun k hk => ?_⟩
                · rw [hq3]; omega
                · rw [hq3]; omega
                · rw [hq3] at hk
                  rw [hq 50 2 (by omega)]
                  by_cases hkn : k = n
                  · subst hkn
                    rw [r82, r83]
                    omega
                  · simp (disch := omega) only [hq]
                    exact ws3 k (by omega)
            · rw [hq _ _ (by omega)]; exact hh
            · rw [hq _ _ (by omega)]; exact hD
            · rw [hq _ _ (by omega), hq _ _ (by omega)]; exact hth
            · skip
              refine ⟨⟨?_, ?_, ?_, ?_, ?_, ?_, ?_⟩, ?_, ?_, ⟨?_, ?_⟩, ⟨?_, ?_⟩, ⟨?_, ?_⟩⟩
              · rw [ha _ _ _ (by omega), hq _ _ (by omega)]; exact o1
              · rw [ha _ _ _ (by omega), hq _ _ (by omega)]; exact o2
              · rw [ha _ _ _ (by omega), hq _ _ (by omega)]; exact o3
              · rw [ha _ _ _ (by omega), hE]; exact o4
              · rw [ha _ _ _ (by omega), qE]; exact o5
              · intro g hg
                rw [nhE] at hg
                have z := o6 g hg
                unfold be_HR at z ⊢
                simp (disch := omega) only [ha, hq]
                exact z
              · intro g hg
                rw [nrE] at hg
                have z := o7 g hg
                unfold be_RR at z ⊢
                simp (disch := omega) only [ha, hq, ftE]
                exact z
              · rw [hq _ _ (by omega)]; exact x1
              · rw [theE, numE]; exact be_OW_t (fun c k j h => ha _ _ _ (by omega)) (fun c j h => hq _ _ (by omega)) x2
              · rw [ha _ _ _ (by omega), hq _ _ (by omega)]; exact s1
              · intro k hk
                rw [hq _ _ (by omega)] at hk
                have hb := hW2.2.1.2.1
                simp (disch := omega) only [ha, hq]
                exact s2 k hk
              · rw [ha _ _ _ (by omega), hq _ _ (by omega)]; exact p1
              · intro k hk
                rw [hq _ _ (by omega)] at hk
                have hb := hW2.2.2.1.2.1
                simp (disch := omega) only [ha, hq]
                exact p2 k hk
              · rw [hq3]; exact q1
              · intro k hk
                rw [hq3] at hk
                by_cases hkn : k = n
                · subst hkn
                  rw [r82, r83]
                  exact ⟨q2, q3⟩
                · simp (disch := omega) only [ha, hq]
                  exact k2 k (by omega)
      · by_cases hy : 0 ≤ y ∧ y ≤ be_g e 50 0 - 1
        · rw [decide_eq_true hy] at c1 c2
          obtain ⟨n, hn⟩ := be_0le ws1
          have s1 := hX.2.2.2.2.2.1
          rw [hn] at s1
          obtain ⟨g1, g2⟩ := be_m186 (X := X) (a := a) (b := b) (u := u) (e := e) (f := f) (d := d) (x0 := 2) (L := 8) (n := n) (y1 := be_i x) (y2 := be_i y) (y3 := be_i 0) (y4 := be_i 0) (by omega) (be_ln2 X 0 (by decide)) (by decide) s1
          rw [show am_rb18 2 = 14 from rfl] at g1
          by_cases hf : n = 8
          · have g2 := g2 hf
            subst hf
            refine be_Cp (v := be_i (-4)) hI ?_ ?_
            · rw [am_s236]
              simp (disch := (first | assumption | omega | exact (be_gB _ _ _).1 | exact (be_gB _ _ _).2)) only [↓reduceIte, be_ofI, ↓be_ofN, ↓be_0, be_add, be_sub, be_mul, be_neg, be_rem, be_bi, be_bl, be_bv, be_br, be_bE0, be_bE1, be_b1E, be_b0E, be_bkb, be_cast, Int.toNat_natCast, Int.reduceToNat, be_lt, be_le, be_eq, be_nt, be_ck, be_nz, be_bk, be_div, not_true_eq_false, not_false_eq_true, if_true, if_false, eq_self, Int.reduceEq, Int.reduceLT, Int.reduceLE, Bool.true_eq_false, Bool.false_eq_true, hxm, h4, c3, c1, g2, am_b236_15, am_b236_24, am_b236_40, am_b236_59]
            · rw [am_s88]
              simp (disch := (first | assumption | omega | exact (be_gB _ _ _).1 | exact (be_gB _ _ _).2)) only [↓reduceIte, be_ofI, ↓be_ofN, ↓be_0, be_add, be_sub, be_mul, be_neg, be_rem, be_bi, be_bl, be_bv, be_br, be_bE0, be_bE1, be_b1E, be_b0E, be_bkb, be_cast, Int.toNat_natCast, Int.reduceToNat, be_lt, be_le, be_eq, be_nt, be_ck, be_nz, be_bk, be_div, not_true_eq_false, not_false_eq_true, if_true, if_false, eq_self, Int.reduceEq, Int.reduceLT, Int.reduceLE, Bool.true_eq_false, Bool.false_eq_true, hxm, h4, c4, c2, he, hn, am_b88_17, am_b88_30]
              rfl
          · obtain ⟨a', g3, q1, q2, q3, q4, q5, q6⟩ := g1 (by omega)
            obtain ⟨e', he'⟩ : ∃ e', e' = am_w3 (am_w3 (am_w3 e 82 0 n (be_i x)) 83 0 n (be_i y)) 50 0 46 (be_i ((n : Int) + 1)) := ⟨_, rfl⟩
            have hq : ∀ c j, ¬ (((82 ≤ c ∧ c ≤ 83) ∧ j = n) ∨ (c = 50 ∧ j = 46)) → be_g e' c j = be_g e c j := fun c j h => by rw [he']; simp (disch := omega) only [be_gn]
            have hq3 : be_g e' 50 46 = (n : Int) + 1 := by rw [he', be_gw _ _ _ _ _ (by omega) (by omega), if_pos ⟨rfl, rfl⟩]
            have r82 : be_g e' 82 n = x := by rw [he']; simp (disch := omega) only [be_gn]; rw [be_gw _ _ _ _ _ (by omega) (by omega), if_pos ⟨rfl, rfl⟩]
            have r83 : be_g e' 83 n = y := by rw [he']; simp (disch := omega) only [be_gn]; rw [be_gw _ _ _ _ _ (by omega) (by omega), if_pos ⟨rfl, rfl⟩]
            have ha : ∀ c k j, ¬ ((c = 6 ∧ k = 2 ∧ j = 1) ∨ (c = 19 ∧ k = n + 14)) → a' c k j = a c k j := fun c k j h => q6 c k j (by omega) (by omega)
            refine be_Ch (v := be_i ((n : Int) + 1)) (a' := a') (e' := e') hI ?_ ?_ (fun c k j h => ha _ _ _ (by unfold be_inH at h; omega)) (fun k => ha _ _ _ (by omega)) (fun k => ha _ _ _ (by omega)) (fun c j h => hq _ _ (by omega)) ?_
            · rw [am_s236]
              simp (disch := (first | assumption | omega | exact (be_gB _ _ _).1 | exact (be_gB _ _ _).2)) only [↓reduceIte, be_ofI, ↓be_ofN, ↓be_0, be_add, be_sub, be_mul, be_neg, be_rem, be_bi, be_bl, be_bv, be_br, be_bE0, be_bE1, be_b1E, be_b0E, be_bkb, be_cast, Int.toNat_natCast, Int.reduceToNat, be_lt, be_le, be_eq, be_nt, be_ck, be_nz, be_bk, be_div, not_true_eq_false, not_false_eq_true, if_true, if_false, eq_self, Int.reduceEq, Int.reduceLT, Int.reduceLE, Bool.true_eq_false, Bool.false_eq_true, hxm, h4, c3, c1, g3, am_b236_15, am_b236_24, am_b236_40, am_b236_59]
            · rw [am_s88]
              simp (disch := (first | assumption | omega | exact (be_gB _ _ _).1 | exact (be_gB _ _ _).2)) only [↓reduceIte, be_ofI, ↓be_ofN, ↓be_0, be_add, be_sub, be_mul, be_neg, be_rem, be_bi, be_bl, be_bv, be_br, be_bE0, be_bE1, be_b1E, be_b0E, be_bkb, be_cast, Int.toNat_natCast, Int.reduceToNat, be_lt, be_le, be_eq, be_nt, be_ck, be_nz, be_bk, be_div, not_true_eq_false, not_false_eq_true, if_true, if_false, eq_self, Int.reduceEq, Int.reduceLT, Int.reduceLE, Bool.true_eq_false, Bool.false_eq_true, hxm, h4, c4, c2, he, hn, am_b88_17, am_b88_30]
              rw [if_pos (by omega), he']
            · skip
              obtain ⟨qE, hE, theE, numE, tE⟩ := be_of_t (e := e) (e' := e') (fun c j h => hq _ _ (by omega)) (hq _ _ (by omega)) (hq _ _ (by omega))
              have nhE : be_nh e' = be_nh e := by unfold be_nh; rw [hq _ _ (by omega)]
              have nrE : be_nr e' = be_nr e := by unfold be_nr; rw [hq _ _ (by omega)]
              have ftE : ∀ r, be_ft e' r = be_ft e r := fun r => by unfold be_ft; rw [hq _ _ (by omega)]
              obtain ⟨⟨o1, o2, o3, o4, o5, o6, o7⟩, x1, x2, ⟨s1, s2⟩, ⟨p1, p2⟩, ⟨k1, k2⟩⟩ := hX
              refine ⟨?_, ?_, tE hT, ?_, ?_, ?_, ?_⟩
              · skip
                refine ⟨?_, ?_, ?_, ?_⟩
                · simp (disch := omega) only [hq]; exact hW.1
                · intro g hg; simp (disch := omega) only [hq]; exact hW.2.1 g hg
                · intro g hg; simp (disch := omega) only [hq]; exact hW.2.2.1 g hg
                · intro g hg; simp (disch := omega) only [hq]; exact hW.2.2.2 g hg
              · skip
                refine ⟨?_, ?_, ?_, ?_⟩
                · intro g hg; simp (disch := omega) only [hq] at hg ⊢; exact hW2.1 g hg
                · refine ⟨?_, ?_, fun k hk => ?_⟩
                  · simp (disch := omega) only [hq]; exact hW2.2.1.1
                  · simp (disch := omega) only [hq]; exact hW2.2.1.2.1
                  · simp (disch := omega) only [hq] at hk ⊢; exact hW2.2.1.2.2 k hk
                · refine ⟨?_, ?_, fun k hk => ?_⟩
                  · simp (disch := omega) only [hq]; exact hW2.2.2.1.1
                  · simp (disch := omega) only [hq]; exact hW2.2.2.1.2.1
                  · simp (disch := omega) only [hq] at hk ⊢; exact hW2.2.2.1.2.2 k hk
                · refine ⟨?_, ?_, fun k hk => ?_⟩
                  · rw [hq3]; omega
                  · rw [hq3]; omega
                  · rw [hq3] at hk
                    rw [hq 50 2 (by omega)]
                    by_cases hkn : k = n
                    · subst hkn
                      rw [r82, r83]
                      omega
                    · simp (disch := omega) only [hq]
                      exact ws3 k (by omega)
              · rw [hq _ _ (by omega)]; exact hh
              · rw [hq _ _ (by omega)]; exact hD
              · rw [hq _ _ (by omega), hq _ _ (by omega)]; exact hth
              · skip
                refine ⟨⟨?_, ?_, ?_, ?_, ?_, ?_, ?_⟩, ?_, ?_, ⟨?_, ?_⟩, ⟨?_, ?_⟩, ⟨?_, ?_⟩⟩
                · rw [ha _ _ _ (by omega), hq _ _ (by omega)]; exact o1
                · rw [ha _ _ _ (by omega), hq _ _ (by omega)]; exact o2
                · rw [ha _ _ _ (by omega), hq _ _ (by omega)]; exact o3
                · rw [ha _ _ _ (by omega), hE]; exact o4
                · rw [ha _ _ _ (by omega), qE]; exact o5
                · intro g hg
                  rw [nhE] at hg
                  have z := o6 g hg
                  unfold be_HR at z ⊢
                  simp (disch := omega) only [ha, hq]
                  exact z
                · intro g hg
                  rw [nrE] at hg
                  have z := o7 g hg
                  unfold be_RR at z ⊢
                  simp (disch := omega) only [ha, hq, ftE]
                  exact z
                · rw [hq _ _ (by omega)]; exact x1
                · rw [theE, numE]; exact be_OW_t (fun c k j h => ha _ _ _ (by omega)) (fun c j h => hq _ _ (by omega)) x2
                · rw [ha _ _ _ (by omega), hq _ _ (by omega)]; exact s1
                · intro k hk
                  rw [hq _ _ (by omega)] at hk
                  have hb := hW2.2.1.2.1
                  simp (disch := omega) only [ha, hq]
                  exact s2 k hk
                · rw [ha _ _ _ (by omega), hq _ _ (by omega)]; exact p1
                · intro k hk
                  rw [hq _ _ (by omega)] at hk
                  have hb := hW2.2.2.1.2.1
                  simp (disch := omega) only [ha, hq]
                  exact p2 k hk
                · rw [hq3]; exact q1
                · intro k hk
                  rw [hq3] at hk
                  by_cases hkn : k = n
                  · subst hkn
                    rw [r82, r83]
                    exact ⟨q2, q3⟩
                  · simp (disch := omega) only [ha, hq]
                    exact k2 k (by omega)
        · rw [decide_eq_false hy] at c1 c2
          refine be_Cp (v := be_i (-1)) hI ?_ ?_
          · rw [am_s236]
            simp (disch := (first | assumption | omega | exact (be_gB _ _ _).1 | exact (be_gB _ _ _).2)) only [↓reduceIte, be_ofI, ↓be_ofN, ↓be_0, be_add, be_sub, be_mul, be_neg, be_rem, be_bi, be_bl, be_bv, be_br, be_bE0, be_bE1, be_b1E, be_b0E, be_bkb, be_cast, Int.toNat_natCast, Int.reduceToNat, be_lt, be_le, be_eq, be_nt, be_ck, be_nz, be_bk, be_div, not_true_eq_false, not_false_eq_true, if_true, if_false, eq_self, Int.reduceEq, Int.reduceLT, Int.reduceLE, Bool.true_eq_false, Bool.false_eq_true, hxm, h4, c3, c1, am_b236_15, am_b236_24, am_b236_40, am_b236_59]
          · rw [am_s88]
            simp (disch := (first | assumption | omega | exact (be_gB _ _ _).1 | exact (be_gB _ _ _).2)) only [↓reduceIte, be_ofI, ↓be_ofN, ↓be_0, be_add, be_sub, be_mul, be_neg, be_rem, be_bi, be_bl, be_bv, be_br, be_bE0, be_bE1, be_b1E, be_b0E, be_bkb, be_cast, Int.toNat_natCast, Int.reduceToNat, be_lt, be_le, be_eq, be_nt, be_ck, be_nz, be_bk, be_div, not_true_eq_false, not_false_eq_true, if_true, if_false, eq_self, Int.reduceEq, Int.reduceLT, Int.reduceLE, Bool.true_eq_false, Bool.false_eq_true, hxm, h4, c4, c2, am_b88_17, am_b88_30]
    · rw [decide_eq_false hx] at c3 c4
      refine be_Cp (v := be_i (-1)) hI ?_ ?_
      · rw [am_s236]
        simp (disch := (first | assumption | omega | exact (be_gB _ _ _).1 | exact (be_gB _ _ _).2)) only [↓reduceIte, be_ofI, ↓be_ofN, ↓be_0, be_add, be_sub, be_mul, be_neg, be_rem, be_bi, be_bl, be_bv, be_br, be_bE0, be_bE1, be_b1E, be_b0E, be_bkb, be_cast, Int.toNat_natCast, Int.reduceToNat, be_lt, be_le, be_eq, be_nt, be_ck, be_nz, be_bk, be_div, not_true_eq_false, not_false_eq_true, if_true, if_false, eq_self, Int.reduceEq, Int.reduceLT, Int.reduceLE, Bool.true_eq_false, Bool.false_eq_true, hxm, c3, am_b236_15, am_b236_24, am_b236_40, am_b236_59]
      · rw [am_s88]
        simp (disch := (first | assumption | omega | exact (be_gB _ _ _).1 | exact (be_gB _ _ _).2)) only [↓reduceIte, be_ofI, ↓be_ofN, ↓be_0, be_add, be_sub, be_mul, be_neg, be_rem, be_bi, be_bl, be_bv, be_br, be_bE0, be_bE1, be_b1E, be_b0E, be_bkb, be_cast, Int.toNat_natCast, Int.reduceToNat, be_lt, be_le, be_eq, be_nt, be_ck, be_nz, be_bk, be_div, not_true_eq_false, not_false_eq_true, if_true, if_false, eq_self, Int.reduceEq, Int.reduceLT, Int.reduceLE, Bool.true_eq_false, Bool.false_eq_true, hxm, c4, am_b88_17, am_b88_30]
