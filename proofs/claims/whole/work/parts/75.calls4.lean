/-! CALLS, 4: pass, fault, row, give (printed by g75.py) -/
variable {d : Nat} {X : am_X} {a : Nat → Nat → Nat → Int32} {b : Nat → Nat → Nat → Int64} {u : Nat → Nat} {e : Nat → Nat → Nat → Int32} {f : Nat → Nat → Nat → Int64}
theorem be_of_t {e' : Nat → Nat → Nat → Int32} (h : ∀ c j, 60 ≤ c ∧ c ≤ 65 → be_g e' c j = be_g e c j) (h1 : be_g e' 50 13 = be_g e 50 13) (h2 : be_g e' 50 29 = be_g e 50 29) : be_q e' = be_q e ∧ be_h e' = be_h e ∧ be_the e' = be_the e ∧ be_num e' = be_num e ∧ (be_T3 e → be_T3 e') := by
  have hb : be_beg e' = be_beg e := by unfold be_beg; rw [h1]
  have hn : be_num e' = be_num e := by unfold be_num; simp (disch := omega) only [h1, h]
  have hl : ∀ w z n, be_last e' w z n = be_last e w z n := by
    intro w z n
    induction n with
    | zero => rfl
    | succ n ih => rw [be_last, be_last, ih, hb]; simp (disch := omega) only [h]
  have ht : be_the e' = be_the e := by unfold be_the; rw [h1]
  refine ⟨by unfold be_q; rw [hn, hl], by unfold be_h; rw [hn, hl, h2], ht, hn, fun hT => ⟨⟨?_, by rw [h2]; exact hT.1.2.1, by rw [h2]; exact hT.1.2.2⟩, fun h0 => ?_⟩⟩
  · obtain ⟨⟨⟨w1, w2, w3, w4⟩, -⟩, -⟩ := hT
    refine ⟨by rw [h1]; exact w1, by rw [h1]; exact w2, ?_, ?_⟩
    · simp (disch := omega) only [h1, h]; exact w3
    · intro c hc; rw [h _ _ (by omega)]; exact w4 c hc
  · rw [h1] at h0
    rw [ht]
    exact (be_EH_OF h _).1 (hT.2 h0)
theorem be_OW_t {a' : Nat → Nat → Nat → Int32} {e' : Nat → Nat → Nat → Int32} {o f' n : Nat} (ha : ∀ c k j, c = 3 ∨ c = 14 ∨ c = 15 ∨ c = 16 → a' c k j = a c k j) (h : ∀ c j, 60 ≤ c ∧ c ≤ 65 → be_g e' c j = be_g e c j) (hO : be_OW a o e f' n) : be_OW a' o e' f' n := by
  refine (be_EH_OF h f').2.2.2.2 a' o n ⟨?_, ?_, ?_⟩
  · rw [ha _ _ _ (by omega)]; exact hO.1
  · intro k hk hw; rw [ha _ _ _ (by omega), ha _ _ _ (by omega)]; exact hO.2.1 k hk hw
  · intro j hj; rw [ha _ _ _ (by omega)]; exact hO.2.2 j hj
theorem be_NM_t {a' : Nat → Nat → Nat → Int32} (hN : be_NM a) (h1 : ∀ k, a' 1 k 0 = a 1 k 0) (h2 : ∀ k, a' 5 k 0 = a 5 k 0) : be_NM a' := fun i hi => ⟨fun h hh => by rw [h1]; exact (hN i hi).1 h hh, fun r hr => by rw [h2]; exact (hN i hi).2 r hr⟩
/-- a call that changes the house now -/
def be_EH9 (e e' : Nat → Nat → Nat → Int32) : Prop := ∀ c j, ((c = 50 ∧ (j = 12 ∨ j = 14 ∨ j = 29 ∨ (52 ≤ j ∧ j ≤ 60) ∨ j = 77)) ∨ (59 ≤ c ∧ c ≤ 65) ∨ c = 67 ∨ (85 ≤ c ∧ c ≤ 103)) ∨ c = 79 → be_g e' c j = be_g e c j
theorem be_Chs {c m : Nat} {as : List am_V} {v : Int32} {a' e' : Nat → Nat → Nat → Int32} (hI : be_IV a b u e f) (h1 : am_sem X d c (.inr (9, 0) :: as) (am_sd a b u e f) = some (some (am_I v), am_sd a' b u e f)) (h2 : am_sem X d m (.inr (50, 0) :: as) (am_sd a' b u e f) = some (some (am_I v), am_sd a' b u e' f))
    (hA : ∀ c k j, ¬ be_inH 0 c k → a' c k j = a c k j) (n1 : ∀ k, a' 1 k 0 = a 1 k 0) (n2 : ∀ k, a' 5 k 0 = a 5 k 0) (hE : be_EH e e') (h9 : be_I9 e') (h3 : be_I1 a' u 0 e') : be_C X d c m as a b u e f :=
  ⟨v, a', b, u, e', f, h1, h2, be_IV_h hI hA (be_NM_t hI.2.1 n1 n2) hE rfl h3 h9⟩
theorem be_Ch {c m : Nat} {as : List am_V} {v : Int32} {a' e' : Nat → Nat → Nat → Int32} (hI : be_IV a b u e f) (h1 : am_sem X d c (.inr (9, 0) :: as) (am_sd a b u e f) = some (some (am_I v), am_sd a' b u e f)) (h2 : am_sem X d m (.inr (50, 0) :: as) (am_sd a' b u e f) = some (some (am_I v), am_sd a' b u e' f))
    (hA : ∀ c k j, ¬ be_inH 0 c k → a' c k j = a c k j) (n1 : ∀ k, a' 1 k 0 = a 1 k 0) (n2 : ∀ k, a' 5 k 0 = a 5 k 0) (hE : be_EH9 e e') (h3 : be_I1 a' u 0 e') : be_C X d c m as a b u e f :=
  ⟨v, a', b, u, e', f, h1, h2, be_IV_h hI hA (be_NM_t hI.2.1 n1 n2) (fun c j h => hE c j (Or.inl h)) rfl h3 (be_t9 (fun c j h => hE c j (by omega)) hI.2.2.2.2.2.2.2.2)⟩
theorem be_cpass (hd : 12 ≤ d) (hI : be_IV a b u e f) {x : Int} (hx1 : -2147483648 ≤ x) (hx2 : x < 2147483648) : be_C X d 217 56 [am_I (be_i (x))] a b u e f := by
  obtain ⟨d, rfl⟩ : ∃ q, d = q + 1 := ⟨d - 1, by omega⟩
  have he := be_gI e
  have hI' := hI
  obtain ⟨⟨hW, hW2, hT, hh, hD, hth, hX⟩, -⟩ := hI'
  have hW1 := hW.1
  have c1 := be_m250 (X := X) (a := a) (b := b) (u := u) (e := e) (f := f) (d := d) (x := x) (y := 0) (z := 60) (by omega) hx1 hx2 (by decide) (by decide) (by decide) (by decide)
  have c2 := fun a' => be_m1 (X := X) (a := a') (b := b) (u := u) (e := e) (f := f) (d := d) (x := x) (y := 0) (z := 60) (by omega) hx1 hx2 (by decide) (by decide) (by decide) (by decide)
  have k3 := hX.1.2.2.1
  by_cases hx : 0 ≤ x ∧ x ≤ 60
  · rw [decide_eq_true hx] at c1 c2
    by_cases hr : be_g e 50 3 + x ≤ 9999
    · obtain ⟨e', he'⟩ : ∃ e', e' = am_w3 e 50 0 3 (be_i (be_g e 50 3 + x)) := ⟨_, rfl⟩
      obtain ⟨a', ha'⟩ : ∃ a', a' = am_w3 a 2 0 4 (be_i (be_g e 50 3 + x)) := ⟨_, rfl⟩
      have hq : ∀ c j, ¬ (c = 50 ∧ j = 3) → be_g e' c j = be_g e c j := fun c j h => by rw [he']; exact be_gn _ _ _ _ _ _ _ (by omega)
      have hq3 : be_g e' 50 3 = be_g e 50 3 + x := by rw [he', be_gw _ _ _ _ _ (by omega) (by omega), if_pos ⟨rfl, rfl⟩]
      have ha : ∀ c k j, ¬ (c = 2 ∧ k = 0 ∧ j = 4) → a' c k j = a c k j := fun c k j h => by rw [ha']; exact be_w3n _ _ _ _ _ _ _ _ h
      have ha3 : a' 2 0 4 = be_i (be_g e 50 3 + x) := by rw [ha', be_w3s]
      refine be_Ch (v := be_i (be_g e 50 3 + x)) (a' := a') (e' := e') hI ?_ ?_ (fun c k j h => ha _ _ _ (by unfold be_inH at h; omega)) (fun k => ha _ _ _ (by omega)) (fun k => ha _ _ _ (by omega)) (fun c j h => hq _ _ (by omega)) ?_
      · rw [am_s217]
        simp (disch := (first | assumption | omega | exact (be_gB _ _ _).1 | exact (be_gB _ _ _).2)) only [↓reduceIte, be_ofI, ↓be_ofN, ↓be_0, be_add, be_sub, be_mul, be_neg, be_rem, be_bi, be_bl, be_bv, be_br, be_bE0, be_bE1, be_b1E, be_b0E, be_bkb, be_cast, Int.toNat_natCast, Int.reduceToNat, be_lt, be_le, be_eq, be_nt, be_ck, be_nz, be_bk, be_div, not_true_eq_false, not_false_eq_true, if_true, if_false, eq_self, Int.reduceEq, Int.reduceLT, Int.reduceLE, Bool.true_eq_false, Bool.false_eq_true, c1, k3, am_b217_7]
        rw [if_pos hr, ha']
      · rw [am_s56]
        simp (disch := (first | assumption | omega | exact (be_gB _ _ _).1 | exact (be_gB _ _ _).2)) only [↓reduceIte, be_ofI, ↓be_ofN, ↓be_0, be_add, be_sub, be_mul, be_neg, be_rem, be_bi, be_bl, be_bv, be_br, be_bE0, be_bE1, be_b1E, be_b0E, be_bkb, be_cast, Int.toNat_natCast, Int.reduceToNat, be_lt, be_le, be_eq, be_nt, be_ck, be_nz, be_bk, be_div, not_true_eq_false, not_false_eq_true, if_true, if_false, eq_self, Int.reduceEq, Int.reduceLT, Int.reduceLE, Bool.true_eq_false, Bool.false_eq_true, c2, he, am_b56_8]
        rw [if_pos hr, he']
      · skip
        obtain ⟨qE, hE, theE, numE, tE⟩ := be_of_t (e := e) (e' := e') (fun c j h => hq _ _ (by omega)) (hq _ _ (by omega)) (hq _ _ (by omega))
        have nhE : be_nh e' = be_nh e := by unfold be_nh; rw [hq _ _ (by omega)]
        have nrE : be_nr e' = be_nr e := by unfold be_nr; rw [hq _ _ (by omega)]
        have ftE : ∀ r, be_ft e' r = be_ft e r := fun r => by unfold be_ft; rw [hq _ _ (by omega)]
        obtain ⟨⟨o1, o2, o3, o4, o5, o6, o7⟩, x1, x2, ⟨s1, s2⟩, ⟨p1, p2⟩, ⟨k1, k2⟩⟩ := hX
        refine ⟨?_, ?_, tE hT, ?_, ?_, ?_, ?_⟩
        · skip
          refine ⟨?_, ?_, ?_, ?_⟩
          · have y := hW.1
            simp (disch := omega) only [hq, hq3]
            omega
          · intro g hg; simp (disch := omega) only [hq]; exact hW.2.1 g hg
          · intro g hg; simp (disch := omega) only [hq]; exact hW.2.2.1 g hg
          · intro g hg; simp (disch := omega) only [hq]; exact hW.2.2.2 g hg
        · skip
          refine ⟨?_, ?_, ?_, ?_⟩
          · intro g hg; simp (disch := omega) only [hq] at hg ⊢; exact hW2.1 g hg
          · refine ⟨?_, ?_, fun k hk => ?_⟩
            · simp (disch := omega) only [hq]; exact hW2.2.1.1
            · simp (disch := omega) only [hq]; exact hW2.2.1.2.1
            · simp (disch := omega) only [hq] at hk ⊢; exact hW2.2.1.2.2 k hk
          · refine ⟨?_, ?_, fun k hk => ?_⟩
            · simp (disch := omega) only [hq]; exact hW2.2.2.1.1
            · simp (disch := omega) only [hq]; exact hW2.2.2.1.2.1
            · simp (disch := omega) only [hq] at hk ⊢; exact hW2.2.2.1.2.2 k hk
          · refine ⟨?_, ?_, fun k hk => ?_⟩
            · simp (disch := omega) only [hq]; exact hW2.2.2.2.1
            · simp (disch := omega) only [hq]; exact hW2.2.2.2.2.1
            · simp (disch := omega) only [hq] at hk ⊢; exact hW2.2.2.2.2.2 k hk
        · rw [hq _ _ (by omega)]; exact hh
        · rw [hq3]; exact hr
        · rw [hq _ _ (by omega), hq _ _ (by omega)]; exact hth
        · skip
          refine ⟨⟨?_, ?_, ?_, ?_, ?_, ?_, ?_⟩, ?_, ?_, ⟨?_, ?_⟩, ⟨?_, ?_⟩, ⟨?_, ?_⟩⟩
          · rw [ha _ _ _ (by omega), hq _ _ (by omega)]; exact o1
          · rw [ha _ _ _ (by omega), hq _ _ (by omega)]; exact o2
          · rw [ha3, hq3]
          · rw [ha _ _ _ (by omega), hE]; exact o4
          · rw [ha _ _ _ (by omega), qE]; exact o5
          · intro g hg
            rw [nhE] at hg
            have z := o6 g hg
            unfold be_HR at z ⊢
            simp (disch := omega) only [ha, hq]
            exact z
          · intro g hg
            rw [nrE] at hg
            have z := o7 g hg
            unfold be_RR at z ⊢
            simp (disch := omega) only [ha, hq, ftE]
            exact z
          · rw [hq _ _ (by omega)]; exact x1
          · rw [theE, numE]; exact be_OW_t (fun c k j h => ha _ _ _ (by omega)) (fun c j h => hq _ _ (by omega)) x2
          · rw [ha _ _ _ (by omega), hq _ _ (by omega)]; exact s1
          · intro k hk
            simp (disch := omega) only [ha, hq] at hk ⊢
            exact s2 k hk
          · rw [ha _ _ _ (by omega), hq _ _ (by omega)]; exact p1
          · intro k hk
            simp (disch := omega) only [ha, hq] at hk ⊢
            exact p2 k hk
          · rw [ha _ _ _ (by omega), hq _ _ (by omega)]; exact k1
          · intro k hk
            simp (disch := omega) only [ha, hq] at hk ⊢
            exact k2 k hk
    · refine be_Cp (v := be_i (-3)) hI ?_ ?_
      · rw [am_s217]
        simp (disch := (first | assumption | omega | exact (be_gB _ _ _).1 | exact (be_gB _ _ _).2)) only [↓reduceIte, be_ofI, ↓be_ofN, ↓be_0, be_add, be_sub, be_mul, be_neg, be_rem, be_bi, be_bl, be_bv, be_br, be_bE0, be_bE1, be_b1E, be_b0E, be_bkb, be_cast, Int.toNat_natCast, Int.reduceToNat, be_lt, be_le, be_eq, be_nt, be_ck, be_nz, be_bk, be_div, not_true_eq_false, not_false_eq_true, if_true, if_false, eq_self, Int.reduceEq, Int.reduceLT, Int.reduceLE, Bool.true_eq_false, Bool.false_eq_true, c1, k3, am_b217_7]
        rw [if_neg hr]
      · rw [am_s56]
        simp (disch := (first | assumption | omega | exact (be_gB _ _ _).1 | exact (be_gB _ _ _).2)) only [↓reduceIte, be_ofI, ↓be_ofN, ↓be_0, be_add, be_sub, be_mul, be_neg, be_rem, be_bi, be_bl, be_bv, be_br, be_bE0, be_bE1, be_b1E, be_b0E, be_bkb, be_cast, Int.toNat_natCast, Int.reduceToNat, be_lt, be_le, be_eq, be_nt, be_ck, be_nz, be_bk, be_div, not_true_eq_false, not_false_eq_true, if_true, if_false, eq_self, Int.reduceEq, Int.reduceLT, Int.reduceLE, Bool.true_eq_false, Bool.false_eq_true, c2, he, am_b56_8]
        rw [if_neg hr]
  · rw [decide_eq_false hx] at c1 c2
    refine be_Cp (v := be_i (-2)) hI ?_ ?_
    · rw [am_s217]
      simp (disch := (first | assumption | omega | exact (be_gB _ _ _).1 | exact (be_gB _ _ _).2)) only [↓reduceIte, be_ofI, ↓be_ofN, ↓be_0, be_add, be_sub, be_mul, be_neg, be_rem, be_bi, be_bl, be_bv, be_br, be_bE0, be_bE1, be_b1E, be_b0E, be_bkb, be_cast, Int.toNat_natCast, Int.reduceToNat, be_lt, be_le, be_eq, be_nt, be_ck, be_nz, be_bk, be_div, not_true_eq_false, not_false_eq_true, if_true, if_false, eq_self, Int.reduceEq, Int.reduceLT, Int.reduceLE, Bool.true_eq_false, Bool.false_eq_true, c1, am_b217_7]
    · rw [am_s56]
      simp (disch := (first | assumption | omega | exact (be_gB _ _ _).1 | exact (be_gB _ _ _).2)) only [↓reduceIte, be_ofI, ↓be_ofN, ↓be_0, be_add, be_sub, be_mul, be_neg, be_rem, be_bi, be_bl, be_bv, be_br, be_bE0, be_bE1, be_b1E, be_b0E, be_bkb, be_cast, Int.toNat_natCast, Int.reduceToNat, be_lt, be_le, be_eq, be_nt, be_ck, be_nz, be_bk, be_div, not_true_eq_false, not_false_eq_true, if_true, if_false, eq_self, Int.reduceEq, Int.reduceLT, Int.reduceLE, Bool.true_eq_false, Bool.false_eq_true, c2, am_b56_8]
def be_fs (F r : Nat) (p : Bool) : Nat := F - F / 2 ^ r % 2 * 2 ^ r + (bif p then 2 ^ r else 0)
theorem be_fs1 : ∀ F : Nat, F < 16 → ∀ r : Nat, r < 4 → (be_i (F : Int) ||| (be_i 1 <<< (be_i (r : Int) &&& be_i 31))) = be_i (be_fs F r true : Int) := by decide +kernel
theorem be_fs0 : ∀ F : Nat, F < 16 → ∀ r : Nat, r < 4 → (be_i (F : Int) &&& ((be_i 1 <<< (be_i (r : Int) &&& be_i 31)) ^^^ be_i (-1))) = be_i (be_fs F r false : Int) := by decide +kernel
theorem be_fsR : ∀ F : Nat, F < 16 → ∀ r : Nat, r < 4 → ∀ p : Bool, be_fs F r p < 16 ∧ ∀ r', r' < 4 → be_fs F r p / 2 ^ r' % 2 = (if r' = r then (bif p then 1 else 0) else F / 2 ^ r' % 2) := by decide +kernel
theorem be_cfault (hd : 12 ≤ d) (hI : be_IV a b u e f) {x : Int} {p : Bool} (hx1 : -2147483648 ≤ x) (hx2 : x < 2147483648) : be_C X d 209 11 [am_I (be_i (x)), am_I (be_i (be_b p))] a b u e f := by
  obtain ⟨d, rfl⟩ : ∃ q, d = q + 1 := ⟨d - 1, by omega⟩
  have he := be_gI e
  have hI' := hI
  obtain ⟨⟨hW, hW2, hT, hh, hD, hth, hX⟩, -⟩ := hI'
  have hW1 := hW.1
  obtain ⟨nr, nr2⟩ := be_nrR hW
  have c1 := be_hasR (X := X) (a := a) (b := b) (u := u) (e := e) (f := f) (d := d) (by omega) hI hx1 hx2
  have c2 := fun a' => be_m5 (X := X) (a := a') (b := b) (u := u) (e := e) (f := f) (d := d) (by omega) hx1 hx2 hW1.1
  by_cases hx : 0 ≤ x ∧ x ≤ be_g e 50 0 - 1
  · rw [decide_eq_true hx] at c1 c2
    obtain ⟨r, rfl⟩ := be_0le hx.1
    obtain ⟨F, hF⟩ := be_0le hW1.2.2.1
    obtain ⟨z0, z1, z2⟩ := be_RR0 hX (show r < be_nr e by omega)
    obtain ⟨f1, f2⟩ := be_fsR F (by omega) r (by omega) p
    have hft : ∀ g, be_ft e g = decide (F / 2 ^ g % 2 = 1) := fun g => by
      unfold be_ft
      rw [hF, Bool.eq_iff_iff, decide_eq_true_iff, decide_eq_true_iff]
      constructor
      · intro h; exact_mod_cast h
      · intro h; exact_mod_cast h
    obtain ⟨e', he'⟩ : ∃ e', e' = am_w3 e 50 0 1 (be_i (be_fs F r p : Int)) := ⟨_, rfl⟩
    obtain ⟨a', ha'⟩ : ∃ a', a' = am_w3 a 5 r 2 (be_i (be_b p)) := ⟨_, rfl⟩
    have hq : ∀ c j, ¬ (c = 50 ∧ j = 1) → be_g e' c j = be_g e c j := fun c j h => by rw [he']; exact be_gn _ _ _ _ _ _ _ (by omega)
    have hq3 : be_g e' 50 1 = (be_fs F r p : Int) := by rw [he', be_gw _ _ _ _ _ (by omega) (by omega), if_pos ⟨rfl, rfl⟩]
    have ha : ∀ c k j, ¬ (c = 5 ∧ k = r ∧ j = 2) → a' c k j = a c k j := fun c k j h => by rw [ha']; exact be_w3n _ _ _ _ _ _ _ _ h
    have ha3 : a' 5 r 2 = be_i (be_b p) := by rw [ha', be_w3s]
    have ftE : ∀ g, g < 4 → be_ft e' g = if g = r then p else be_ft e g := fun g hg => by
      have h1 : be_ft e' g = decide (be_fs F r p / 2 ^ g % 2 = 1) := by
        unfold be_ft
        rw [hq3, Bool.eq_iff_iff, decide_eq_true_iff, decide_eq_true_iff]
        constructor
        · intro h; exact_mod_cast h
        · intro h; exact_mod_cast h
      rw [h1, f2 g hg, hft]
      split
      · cases p <;> rfl
      · rfl
    have v2 := fun a' => be_m2 (X := X) (a := a') (b := b) (u := u) (e := e) (f := f) (d := d) (x := (F : Int)) (k := r) (by omega) (by omega) (by omega) (by omega)
    refine be_Ch (v := be_i (be_b (be_ft e r))) (a' := a') (e' := e') hI ?_ ?_ (fun c k j h => ha _ _ _ (by unfold be_inH at h; omega)) (fun k => ha _ _ _ (by omega)) (fun k => ha _ _ _ (by omega)) (fun c j h => hq _ _ (by omega)) ?_
    · rw [am_s209]
      simp (disch := (first | assumption | omega | exact (be_gB _ _ _).1 | exact (be_gB _ _ _).2)) only [↓reduceIte, be_ofI, ↓be_ofN, ↓be_0, be_add, be_sub, be_mul, be_neg, be_rem, be_bi, be_bl, be_bv, be_br, be_bE0, be_bE1, be_b1E, be_b0E, be_bkb, be_cast, Int.toNat_natCast, Int.reduceToNat, be_lt, be_le, be_eq, be_nt, be_ck, be_nz, be_bk, be_div, not_true_eq_false, not_false_eq_true, if_true, if_false, eq_self, Int.reduceEq, Int.reduceLT, Int.reduceLE, Bool.true_eq_false, Bool.false_eq_true, c1, z2, be_m252, am_b209_8, am_b209_28]
      rw [ha']
    · rw [am_s11]
      have hd1 : decide ((F : Int) / ((2 ^ r : Nat) : Int) % 2 = 1) = be_ft e r := by unfold be_ft; rw [hF]
      rw [hd1] at v2
      simp (disch := (first | assumption | omega | exact (be_gB _ _ _).1 | exact (be_gB _ _ _).2)) only [↓reduceIte, be_ofI, ↓be_ofN, ↓be_0, be_add, be_sub, be_mul, be_neg, be_rem, be_bi, be_bl, be_bv, be_br, be_bE0, be_bE1, be_b1E, be_b0E, be_bkb, be_cast, Int.toNat_natCast, Int.reduceToNat, be_lt, be_le, be_eq, be_nt, be_ck, be_nz, be_bk, be_div, not_true_eq_false, not_false_eq_true, if_true, if_false, eq_self, Int.reduceEq, Int.reduceLT, Int.reduceLE, Bool.true_eq_false, Bool.false_eq_true, c2, he, hF, v2, am_b11_5, am_b11_19, be_31, be_fs1, be_fs0]
      rw [he']
      cases be_ft e r <;> cases p <;> simp only [Bool.true_eq_false, Bool.false_eq_true, if_true, if_false, be_bT, be_bF]
    · skip
      obtain ⟨qE, hE, theE, numE, tE⟩ := be_of_t (e := e) (e' := e') (fun c j h => hq _ _ (by omega)) (hq _ _ (by omega)) (hq _ _ (by omega))
      have nhE : be_nh e' = be_nh e := by unfold be_nh; rw [hq _ _ (by omega)]
      have nrE : be_nr e' = be_nr e := by unfold be_nr; rw [hq _ _ (by omega)]
      obtain ⟨⟨o1, o2, o3, o4, o5, o6, o7⟩, x1, x2, ⟨s1, s2⟩, ⟨p1, p2⟩, ⟨k1, k2⟩⟩ := hX
      refine ⟨?_, ?_, tE hT, ?_, ?_, ?_, ?_⟩
      · skip
        refine ⟨?_, ?_, ?_, ?_⟩
        · have y := hW.1
          simp (disch := omega) only [hq, hq3]
          omega
        · intro g hg; simp (disch := omega) only [hq]; exact hW.2.1 g hg
        · intro g hg; simp (disch := omega) only [hq]; exact hW.2.2.1 g hg
        · intro g hg; simp (disch := omega) only [hq]; exact hW.2.2.2 g hg
      · skip
        refine ⟨?_, ?_, ?_, ?_⟩
        · intro g hg; simp (disch := omega) only [hq] at hg ⊢; exact hW2.1 g hg
        · refine ⟨?_, ?_, fun k hk => ?_⟩
          · simp (disch := omega) only [hq]; exact hW2.2.1.1
          · simp (disch := omega) only [hq]; exact hW2.2.1.2.1
          · simp (disch := omega) only [hq] at hk ⊢; exact hW2.2.1.2.2 k hk
        · refine ⟨?_, ?_, fun k hk => ?_⟩
          · simp (disch := omega) only [hq]; exact hW2.2.2.1.1
          · simp (disch := omega) only [hq]; exact hW2.2.2.1.2.1
          · simp (disch := omega) only [hq] at hk ⊢; exact hW2.2.2.1.2.2 k hk
        · refine ⟨?_, ?_, fun k hk => ?_⟩
          · simp (disch := omega) only [hq]; exact hW2.2.2.2.1
          · simp (disch := omega) only [hq]; exact hW2.2.2.2.2.1
          · simp (disch := omega) only [hq] at hk ⊢; exact hW2.2.2.2.2.2 k hk
      · rw [hq _ _ (by omega)]; exact hh
      · rw [hq _ _ (by omega)]; exact hD
      · rw [hq _ _ (by omega), hq _ _ (by omega)]; exact hth
      · skip
        refine ⟨⟨?_, ?_, ?_, ?_, ?_, ?_, ?_⟩, ?_, ?_, ⟨?_, ?_⟩, ⟨?_, ?_⟩, ⟨?_, ?_⟩⟩
        · rw [ha _ _ _ (by omega), hq _ _ (by omega)]; exact o1
        · rw [ha _ _ _ (by omega), hq _ _ (by omega)]; exact o2
        · rw [ha _ _ _ (by omega), hq _ _ (by omega)]; exact o3
        · rw [ha _ _ _ (by omega), hE]; exact o4
        · rw [ha _ _ _ (by omega), qE]; exact o5
        · intro g hg
          rw [nhE] at hg
          have z := o6 g hg
          unfold be_HR at z ⊢
          simp (disch := omega) only [ha, hq]
          exact z
        · intro g hg
          rw [nrE] at hg
          obtain ⟨y0, y1, y2⟩ := o7 g hg
          refine ⟨?_, ?_, ?_⟩
          · rw [ha _ _ _ (by omega)]; exact y0
          · rw [ha _ _ _ (by omega), hq _ _ (by omega)]; exact y1
          · rw [ftE g (by omega)]
            by_cases hgr : g = r
            · subst hgr; rw [if_pos rfl]; exact ha3
            · rw [if_neg hgr, ha _ _ _ (by omega)]; exact y2
        · rw [hq _ _ (by omega)]; exact x1
        · rw [theE, numE]; exact be_OW_t (fun c k j h => ha _ _ _ (by omega)) (fun c j h => hq _ _ (by omega)) x2
        · rw [ha _ _ _ (by omega), hq _ _ (by omega)]; exact s1
        · intro k hk
          simp (disch := omega) only [ha, hq] at hk ⊢
          exact s2 k hk
        · rw [ha _ _ _ (by omega), hq _ _ (by omega)]; exact p1
        · intro k hk
          simp (disch := omega) only [ha, hq] at hk ⊢
          exact p2 k hk
        · rw [ha _ _ _ (by omega), hq _ _ (by omega)]; exact k1
        · intro k hk
          simp (disch := omega) only [ha, hq] at hk ⊢
          exact k2 k hk
  · rw [decide_eq_false hx] at c1 c2
    refine be_Cp (v := be_i (-1)) hI ?_ ?_
    · rw [am_s209]
      simp (disch := (first | assumption | omega | exact (be_gB _ _ _).1 | exact (be_gB _ _ _).2)) only [↓reduceIte, be_ofI, ↓be_ofN, ↓be_0, be_add, be_sub, be_mul, be_neg, be_rem, be_bi, be_bl, be_bv, be_br, be_bE0, be_bE1, be_b1E, be_b0E, be_bkb, be_cast, Int.toNat_natCast, Int.reduceToNat, be_lt, be_le, be_eq, be_nt, be_ck, be_nz, be_bk, be_div, not_true_eq_false, not_false_eq_true, if_true, if_false, eq_self, Int.reduceEq, Int.reduceLT, Int.reduceLE, Bool.true_eq_false, Bool.false_eq_true, c1, am_b209_8]
    · rw [am_s11, c2, be_bi]
      simp (disch := (first | assumption | omega | exact (be_gB _ _ _).1 | exact (be_gB _ _ _).2)) only [↓reduceIte, be_ofI, ↓be_ofN, ↓be_0, be_add, be_sub, be_mul, be_neg, be_rem, be_bi, be_bl, be_bv, be_br, be_bE0, be_bE1, be_b1E, be_b0E, be_bkb, be_cast, Int.toNat_natCast, Int.reduceToNat, be_lt, be_le, be_eq, be_nt, be_ck, be_nz, be_bk, be_div, not_true_eq_false, not_false_eq_true, if_true, if_false, eq_self, Int.reduceEq, Int.reduceLT, Int.reduceLE, Bool.true_eq_false, Bool.false_eq_true, am_b11_5, am_b11_19]
theorem be_crow (hd : 12 ≤ d) (hI : be_IV a b u e f) {x y z : Int} (hx1 : -2147483648 ≤ x) (hx2 : x < 2147483648) (hy1 : -2147483648 ≤ y) (hy2 : y < 2147483648) (hz1 : -2147483648 ≤ z) (hz2 : z < 2147483648) : be_C X d 210 12 [am_I (be_i (x)), am_I (be_i (y)), am_I (be_i (z))] a b u e f := by
  obtain ⟨d, rfl⟩ : ∃ q, d = q + 1 := ⟨d - 1, by omega⟩
  have he := be_gI e
  have hI' := hI
  obtain ⟨⟨hW, hW2, hT, hh, hD, hth, hX⟩, -⟩ := hI'
  have hW1 := hW.1
  obtain ⟨nh, nh2⟩ := be_nhR hW
  have c1 := be_hasH (X := X) (a := a) (b := b) (u := u) (e := e) (f := f) (d := d) (by omega) hI hx1 hx2
  have c2 := fun a' => be_m6 (X := X) (a := a') (b := b) (u := u) (e := e) (f := f) (d := d) (by omega) hx1 hx2 (by omega)
  have c3 := be_m250 (X := X) (a := a) (b := b) (u := u) (e := e) (f := f) (d := d) (x := y) (y := 0) (z := 3) (by omega) hy1 hy2 (by decide) (by decide) (by decide) (by decide)
  have c4 := fun a' => be_m1 (X := X) (a := a') (b := b) (u := u) (e := e) (f := f) (d := d) (x := y) (y := 0) (z := 3) (by omega) hy1 hy2 (by decide) (by decide) (by decide) (by decide)
  have c5 := be_m250 (X := X) (a := a) (b := b) (u := u) (e := e) (f := f) (d := d) (x := z) (y := 0) (z := 9) (by omega) hz1 hz2 (by decide) (by decide) (by decide) (by decide)
  have c6 := fun a' => be_m1 (X := X) (a := a') (b := b) (u := u) (e := e) (f := f) (d := d) (x := z) (y := 0) (z := 9) (by omega) hz1 hz2 (by decide) (by decide) (by decide) (by decide)
  by_cases hx : 0 ≤ x ∧ x ≤ be_g e 50 2 - 1
  · rw [decide_eq_true hx] at c1 c2
    obtain ⟨h, rfl⟩ := be_0le hx.1
    by_cases hy : 0 ≤ y ∧ y ≤ 3
    · rw [decide_eq_true hy] at c3 c4
      obtain ⟨p, rfl⟩ := be_0le hy.1
      by_cases hz : 0 ≤ z ∧ z ≤ 9
      · rw [decide_eq_true hz] at c5 c6
        have w1 := hW.2.1 h (by omega)
        have w4 := hW.2.2.2 (4 * h + p) (by omega)
        obtain ⟨z0, z1, z2, z3, z4, z5, z6, z7⟩ := be_HR0 hX (show h < be_nh e by omega)
        have z7 := z7 p (by omega)
        have hn : (4 * (h : Int) + (p : Int)).toNat = 4 * h + p := by omega
        by_cases hk : be_g e 52 h = 6
        · obtain ⟨e', he'⟩ : ∃ e', e' = am_w3 e 58 0 (4 * h + p) (be_i z) := ⟨_, rfl⟩
          obtain ⟨a', ha'⟩ : ∃ a', a' = am_w3 a 11 h p (be_i z) := ⟨_, rfl⟩
          have hq : ∀ c j, ¬ (c = 58 ∧ j = 4 * h + p) → be_g e' c j = be_g e c j := fun c j h => by rw [he']; exact be_gn _ _ _ _ _ _ _ (by omega)
          have hq3 : be_g e' 58 (4 * h + p) = z := by rw [he', be_gw _ _ _ _ _ (by omega) (by omega), if_pos ⟨rfl, rfl⟩]
          have ha : ∀ c k j, ¬ (c = 11 ∧ k = h ∧ j = p) → a' c k j = a c k j := fun c k j h => by rw [ha']; exact be_w3n _ _ _ _ _ _ _ _ h
          have ha3 : a' 11 h p = be_i z := by rw [ha', be_w3s]
          refine be_Ch (v := be_i (be_g e 58 (4 * h + p))) (a' := a') (e' := e') hI ?_ ?_ (fun c k j h => ha _ _ _ (by unfold be_inH at h; omega)) (fun k => ha _ _ _ (by omega)) (fun k => ha _ _ _ (by omega)) (fun c j h => hq _ _ (by omega)) ?_
          · rw [am_s210]
            simp (disch := (first | assumption | omega | exact (be_gB _ _ _).1 | exact (be_gB _ _ _).2)) only [↓reduceIte, be_ofI, ↓be_ofN, ↓be_0, be_add, be_sub, be_mul, be_neg, be_rem, be_bi, be_bl, be_bv, be_br, be_bE0, be_bE1, be_b1E, be_b0E, be_bkb, be_cast, Int.toNat_natCast, Int.reduceToNat, be_lt, be_le, be_eq, be_nt, be_ck, be_nz, be_bk, be_div, not_true_eq_false, not_false_eq_true, if_true, if_false, eq_self, Int.reduceEq, Int.reduceLT, Int.reduceLE, Bool.true_eq_false, Bool.false_eq_true, c1, c3, c5, z1, hk, z7, am_b210_8, am_b210_17, am_b210_29]
            rw [ha']
          · rw [am_s12]
            simp (disch := (first | assumption | omega | exact (be_gB _ _ _).1 | exact (be_gB _ _ _).2)) only [↓reduceIte, be_ofI, ↓be_ofN, ↓be_0, be_add, be_sub, be_mul, be_neg, be_rem, be_bi, be_bl, be_bv, be_br, be_bE0, be_bE1, be_b1E, be_b0E, be_bkb, be_cast, Int.toNat_natCast, Int.reduceToNat, be_lt, be_le, be_eq, be_nt, be_ck, be_nz, be_bk, be_div, not_true_eq_false, not_false_eq_true, if_true, if_false, eq_self, Int.reduceEq, Int.reduceLT, Int.reduceLE, Bool.true_eq_false, Bool.false_eq_true, c2, c4, c6, he, hk, hn, am_b12_5, am_b12_15, am_b12_28]
            rw [he']
          · skip
            obtain ⟨qE, hE, theE, numE, tE⟩ := be_of_t (e := e) (e' := e') (fun c j h => hq _ _ (by omega)) (hq _ _ (by omega)) (hq _ _ (by omega))
            have nhE : be_nh e' = be_nh e := by unfold be_nh; rw [hq _ _ (by omega)]
            have nrE : be_nr e' = be_nr e := by unfold be_nr; rw [hq _ _ (by omega)]
            have ftE : ∀ r, be_ft e' r = be_ft e r := fun r => by unfold be_ft; rw [hq _ _ (by omega)]
            obtain ⟨⟨o1, o2, o3, o4, o5, o6, o7⟩, x1, x2, ⟨s1, s2⟩, ⟨p1, p2⟩, ⟨k1, k2⟩⟩ := hX
            refine ⟨?_, ?_, tE hT, ?_, ?_, ?_, ?_⟩
            · skip
              refine ⟨?_, ?_, ?_, ?_⟩
              · simp (disch := omega) only [hq]; exact hW.1
              · intro g hg; simp (disch := omega) only [hq]; exact hW.2.1 g hg
              · intro g hg; simp (disch := omega) only [hq]; exact hW.2.2.1 g hg
              · intro g hg
                by_cases hgp : g = 4 * h + p
                · subst hgp; rw [hq3]; exact hz
                · rw [hq _ _ (by omega)]; exact hW.2.2.2 g hg
            · skip
              refine ⟨?_, ?_, ?_, ?_⟩
              · intro g hg; simp (disch := omega) only [hq] at hg ⊢; exact hW2.1 g hg
              · refine ⟨?_, ?_, fun k hk => ?_⟩
                · simp (disch := omega) only [hq]; exact hW2.2.1.1
                · simp (disch := omega) only [hq]; exact hW2.2.1.2.1
                · simp (disch := omega) only [hq] at hk ⊢; exact hW2.2.1.2.2 k hk
              · refine ⟨?_, ?_, fun k hk => ?_⟩
                · simp (disch := omega) only [hq]; exact hW2.2.2.1.1
                · simp (disch := omega) only [hq]; exact hW2.2.2.1.2.1
                · simp (disch := omega) only [hq] at hk ⊢; exact hW2.2.2.1.2.2 k hk
              · refine ⟨?_, ?_, fun k hk => ?_⟩
                · simp (disch := omega) only [hq]; exact hW2.2.2.2.1
                · simp (disch := omega) only [hq]; exact hW2.2.2.2.2.1
                · simp (disch := omega) only [hq] at hk ⊢; exact hW2.2.2.2.2.2 k hk
            · rw [hq _ _ (by omega)]; exact hh
            · rw [hq _ _ (by omega)]; exact hD
            · rw [hq _ _ (by omega), hq _ _ (by omega)]; exact hth
            · skip
              refine ⟨⟨?_, ?_, ?_, ?_, ?_, ?_, ?_⟩, ?_, ?_, ⟨?_, ?_⟩, ⟨?_, ?_⟩, ⟨?_, ?_⟩⟩
              · rw [ha _ _ _ (by omega), hq _ _ (by omega)]; exact o1
              · rw [ha _ _ _ (by omega), hq _ _ (by omega)]; exact o2
              · rw [ha _ _ _ (by omega), hq _ _ (by omega)]; exact o3
              · rw [ha _ _ _ (by omega), hE]; exact o4
              · rw [ha _ _ _ (by omega), qE]; exact o5
              · intro g hg
                rw [nhE] at hg
                obtain ⟨y0, y1, y2, y3, y4, y5, y6, y7⟩ := o6 g hg
                refine ⟨?_, ?_, ?_, ?_, ?_, ?_, ?_, ?_⟩
                · rw [ha _ _ _ (by omega)]; exact y0
                · rw [ha _ _ _ (by omega), hq _ _ (by omega)]; exact y1
                · rw [ha _ _ _ (by omega), hq _ _ (by omega)]; exact y2
                · rw [ha _ _ _ (by omega), hq _ _ (by omega)]; exact y3
                · rw [ha _ _ _ (by omega), hq _ _ (by omega)]; exact y4
                · rw [ha _ _ _ (by omega), hq _ _ (by omega)]; exact y5
                · rw [ha _ _ _ (by omega), hq _ _ (by omega)]; exact y6
                · intro j hj
                  by_cases hgj : g = h ∧ j = p
                  · obtain ⟨rfl, rfl⟩ := hgj; rw [hq3]; exact ha3
                  · rw [ha _ _ _ (by omega), hq _ _ (by omega)]; exact y7 j hj
              · intro g hg
                rw [nrE] at hg
                have z := o7 g hg
                unfold be_RR at z ⊢
                simp (disch := omega) only [ha, hq, ftE]
                exact z
              · rw [hq _ _ (by omega)]; exact x1
              · rw [theE, numE]; exact be_OW_t (fun c k j h => ha _ _ _ (by omega)) (fun c j h => hq _ _ (by omega)) x2
              · rw [ha _ _ _ (by omega), hq _ _ (by omega)]; exact s1
              · intro k hk
                simp (disch := omega) only [ha, hq] at hk ⊢
                exact s2 k hk
              · rw [ha _ _ _ (by omega), hq _ _ (by omega)]; exact p1
              · intro k hk
                simp (disch := omega) only [ha, hq] at hk ⊢
                exact p2 k hk
              · rw [ha _ _ _ (by omega), hq _ _ (by omega)]; exact k1
              · intro k hk
                simp (disch := omega) only [ha, hq] at hk ⊢
                exact k2 k hk
        · refine be_Cp (v := be_i (-3)) hI ?_ ?_
          · rw [am_s210]
            simp (disch := (first | assumption | omega | exact (be_gB _ _ _).1 | exact (be_gB _ _ _).2)) only [↓reduceIte, be_ofI, ↓be_ofN, ↓be_0, be_add, be_sub, be_mul, be_neg, be_rem, be_bi, be_bl, be_bv, be_br, be_bE0, be_bE1, be_b1E, be_b0E, be_bkb, be_cast, Int.toNat_natCast, Int.reduceToNat, be_lt, be_le, be_eq, be_nt, be_ck, be_nz, be_bk, be_div, not_true_eq_false, not_false_eq_true, if_true, if_false, eq_self, Int.reduceEq, Int.reduceLT, Int.reduceLE, Bool.true_eq_false, Bool.false_eq_true, c1, c3, c5, z1, hk, am_b210_8, am_b210_17, am_b210_29]
          · rw [am_s12]
            simp (disch := (first | assumption | omega | exact (be_gB _ _ _).1 | exact (be_gB _ _ _).2)) only [↓reduceIte, be_ofI, ↓be_ofN, ↓be_0, be_add, be_sub, be_mul, be_neg, be_rem, be_bi, be_bl, be_bv, be_br, be_bE0, be_bE1, be_b1E, be_b0E, be_bkb, be_cast, Int.toNat_natCast, Int.reduceToNat, be_lt, be_le, be_eq, be_nt, be_ck, be_nz, be_bk, be_div, not_true_eq_false, not_false_eq_true, if_true, if_false, eq_self, Int.reduceEq, Int.reduceLT, Int.reduceLE, Bool.true_eq_false, Bool.false_eq_true, c2, c4, c6, he, hk, am_b12_5, am_b12_15, am_b12_28]
      · rw [decide_eq_false hz] at c5 c6
        refine be_Cp (v := be_i (-2)) hI ?_ ?_
        · rw [am_s210]
          simp (disch := (first | assumption | omega | exact (be_gB _ _ _).1 | exact (be_gB _ _ _).2)) only [↓reduceIte, be_ofI, ↓be_ofN, ↓be_0, be_add, be_sub, be_mul, be_neg, be_rem, be_bi, be_bl, be_bv, be_br, be_bE0, be_bE1, be_b1E, be_b0E, be_bkb, be_cast, Int.toNat_natCast, Int.reduceToNat, be_lt, be_le, be_eq, be_nt, be_ck, be_nz, be_bk, be_div, not_true_eq_false, not_false_eq_true, if_true, if_false, eq_self, Int.reduceEq, Int.reduceLT, Int.reduceLE, Bool.true_eq_false, Bool.false_eq_true, c1, c3, c5, am_b210_8, am_b210_17, am_b210_29]
        · rw [am_s12]
          simp (disch := (first | assumption | omega | exact (be_gB _ _ _).1 | exact (be_gB _ _ _).2)) only [↓reduceIte, be_ofI, ↓be_ofN, ↓be_0, be_add, be_sub, be_mul, be_neg, be_rem, be_bi, be_bl, be_bv, be_br, be_bE0, be_bE1, be_b1E, be_b0E, be_bkb, be_cast, Int.toNat_natCast, Int.reduceToNat, be_lt, be_le, be_eq, be_nt, be_ck, be_nz, be_bk, be_div, not_true_eq_false, not_false_eq_true, if_true, if_false, eq_self, Int.reduceEq, Int.reduceLT, Int.reduceLE, Bool.true_eq_false, Bool.false_eq_true, c2, c4, c6, am_b12_5, am_b12_15, am_b12_28]
    · rw [decide_eq_false hy] at c3 c4
      refine be_Cp (v := be_i (-1)) hI ?_ ?_
      · rw [am_s210]
        simp (disch := (first | assumption | omega | exact (be_gB _ _ _).1 | exact (be_gB _ _ _).2)) only [↓reduceIte, be_ofI, ↓be_ofN, ↓be_0, be_add, be_sub, be_mul, be_neg, be_rem, be_bi, be_bl, be_bv, be_br, be_bE0, be_bE1, be_b1E, be_b0E, be_bkb, be_cast, Int.toNat_natCast, Int.reduceToNat, be_lt, be_le, be_eq, be_nt, be_ck, be_nz, be_bk, be_div, not_true_eq_false, not_false_eq_true, if_true, if_false, eq_self, Int.reduceEq, Int.reduceLT, Int.reduceLE, Bool.true_eq_false, Bool.false_eq_true, c1, c3, am_b210_8, am_b210_17]
      · rw [am_s12]
        simp (disch := (first | assumption | omega | exact (be_gB _ _ _).1 | exact (be_gB _ _ _).2)) only [↓reduceIte, be_ofI, ↓be_ofN, ↓be_0, be_add, be_sub, be_mul, be_neg, be_rem, be_bi, be_bl, be_bv, be_br, be_bE0, be_bE1, be_b1E, be_b0E, be_bkb, be_cast, Int.toNat_natCast, Int.reduceToNat, be_lt, be_le, be_eq, be_nt, be_ck, be_nz, be_bk, be_div, not_true_eq_false, not_false_eq_true, if_true, if_false, eq_self, Int.reduceEq, Int.reduceLT, Int.reduceLE, Bool.true_eq_false, Bool.false_eq_true, c2, c4, am_b12_5, am_b12_15, am_b12_28]
  · rw [decide_eq_false hx] at c1 c2
    refine be_Cp (v := be_i (-1)) hI ?_ ?_
    · rw [am_s210]
      simp (disch := (first | assumption | omega | exact (be_gB _ _ _).1 | exact (be_gB _ _ _).2)) only [↓reduceIte, be_ofI, ↓be_ofN, ↓be_0, be_add, be_sub, be_mul, be_neg, be_rem, be_bi, be_bl, be_bv, be_br, be_bE0, be_bE1, be_b1E, be_b0E, be_bkb, be_cast, Int.toNat_natCast, Int.reduceToNat, be_lt, be_le, be_eq, be_nt, be_ck, be_nz, be_bk, be_div, not_true_eq_false, not_false_eq_true, if_true, if_false, eq_self, Int.reduceEq, Int.reduceLT, Int.reduceLE, Bool.true_eq_false, Bool.false_eq_true, c1, am_b210_8]
    · rw [am_s12]
      simp (disch := (first | assumption | omega | exact (be_gB _ _ _).1 | exact (be_gB _ _ _).2)) only [↓reduceIte, be_ofI, ↓be_ofN, ↓be_0, be_add, be_sub, be_mul, be_neg, be_rem, be_bi, be_bl, be_bv, be_br, be_bE0, be_bE1, be_b1E, be_b0E, be_bkb, be_cast, Int.toNat_natCast, Int.reduceToNat, be_lt, be_le, be_eq, be_nt, be_ck, be_nz, be_bk, be_div, not_true_eq_false, not_false_eq_true, if_true, if_false, eq_self, Int.reduceEq, Int.reduceLT, Int.reduceLE, Bool.true_eq_false, Bool.false_eq_true, c2, am_b12_5, am_b12_15, am_b12_28]
