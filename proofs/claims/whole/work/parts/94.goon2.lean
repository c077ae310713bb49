/-! WAYS, 3: the class looks them through, on -/
variable {d : Nat} {X : am_X} {a : Nat → Nat → Nat → Int32} {b : Nat → Nat → Nat → Int64} {u : Nat → Nat} {e : Nat → Nat → Nat → Int32} {f : Nat → Nat → Nat → Int64}
theorem bw_go {n nr : Nat} {q : Bool} {B : Nat → Nat → Bool} {K F : Nat → Nat → Bool} {W : Nat → Nat → Int} (hK : ∀ o h, o < n → h < n → (K o h = false ↔ ∀ t, t < 64 → (B o t && B h t) = false)) :
    ∀ (k d h c : Nat) (w : Int) (y : Nat → Nat) (s : bw_S) (a : Nat → Nat → Nat → Int32) (b : Nat → Nat → Nat → Int64), k + 2 ≤ d → h + k = n → bw_SI a b n nr q B F W → bw_Fu b nr B y h → bw_Wy a y h → bw_St a n s → c ≤ h → 0 ≤ w → w ≤ 1000 * (h : Int) →
      ∃ a', am_sem X d 201 [.inr (8, 0), am_I (be_i ((h : Int))), am_I (be_i ((c : Int))), am_I (be_i (w))] (am_sd a b u e f) = some (none, am_sd a' b u e f) ∧ bw_Fr a a' h ∧ bw_St a' n (bw_sc q nr F K W k h y c w s) := by
  intro k
  induction k with
  | zero =>
    intro d h c w y s a b hd hk hS hF hy hs hc hw1 hw2
    obtain ⟨d, rfl⟩ : ∃ q, d = q + 1 := ⟨d - 1, by omega⟩
    obtain rfl : h = n := hk
    obtain ⟨a', g1, g2, g3⟩ := bw_kb (X := X) (b := b) (u := u) (e := e) (f := f) (d := d) (a := a) (by omega) hS hs hy (c := c) (w := w) (by have := hS.2.2.2.1; omega) hw1 (by have := hS.2.2.2.1; omega)
    obtain ⟨s1, s2, s3, s4, s5, s6⟩ := hS
    obtain ⟨t1, t2, t3, t4, t5, t6, t7⟩ := hs
    rw [am_s201]
    cases q with
    | false =>
      refine ⟨a', ?_, g2, g3⟩
      simp (disch := (first | assumption | omega | exact (be_gB _ _ _).1 | exact (be_gB _ _ _).2)) only [↓reduceIte, be_ofI, ↓be_ofN, ↓be_0, be_add, be_sub, be_mul, be_neg, be_rem, be_bi, be_bl, be_bv, be_br, be_bE0, be_bE1, be_b1E, be_b0E, be_bkb, be_cast, Int.toNat_natCast, Int.reduceToNat, be_lt, be_le, be_eq, be_nt, be_ck, be_nz, be_bk, be_div, not_true_eq_false, not_false_eq_true, if_true, if_false, eq_self, Int.reduceEq, Int.reduceLT, Int.reduceLE, Bool.true_eq_false, Bool.false_eq_true, s1, s3, be_bF, Int.lt_irrefl, g1, am_b201_37]
    | true =>
      by_cases hp : ((c + 0 : Nat) : Int) < s.1
      · rw [bw_prune nr F K W 0 h y c w s hp]
        refine ⟨a, ?_, fun _ _ _ _ => rfl, t1, t2, t3, t4, t5, t6, t7⟩
        simp (disch := (first | assumption | omega | exact (be_gB _ _ _).1 | exact (be_gB _ _ _).2)) only [↓reduceIte, be_ofI, ↓be_ofN, ↓be_0, be_add, be_sub, be_mul, be_neg, be_rem, be_bi, be_bl, be_bv, be_br, be_bE0, be_bE1, be_b1E, be_b0E, be_bkb, be_cast, Int.toNat_natCast, Int.reduceToNat, be_lt, be_le, be_eq, be_nt, be_ck, be_nz, be_bk, be_div, not_true_eq_false, not_false_eq_true, if_true, if_false, eq_self, Int.reduceEq, Int.reduceLT, Int.reduceLE, Bool.true_eq_false, Bool.false_eq_true, s1, s3, be_bT, t1, show ¬ s.1 ≤ (c : Int) + (h : Int) - (h : Int) by omega]
      · refine ⟨a', ?_, g2, g3⟩
        simp (disch := (first | assumption | omega | exact (be_gB _ _ _).1 | exact (be_gB _ _ _).2)) only [↓reduceIte, be_ofI, ↓be_ofN, ↓be_0, be_add, be_sub, be_mul, be_neg, be_rem, be_bi, be_bl, be_bv, be_br, be_bE0, be_bE1, be_b1E, be_b0E, be_bkb, be_cast, Int.toNat_natCast, Int.reduceToNat, be_lt, be_le, be_eq, be_nt, be_ck, be_nz, be_bk, be_div, not_true_eq_false, not_false_eq_true, if_true, if_false, eq_self, Int.reduceEq, Int.reduceLT, Int.reduceLE, Bool.true_eq_false, Bool.false_eq_true, s1, s3, be_bT, t1, Int.lt_irrefl, g1, am_b201_37, show s.1 ≤ (c : Int) + (h : Int) - (h : Int) by omega]
  | succ k ih =>
    intro d h c w y s a b hd hk hS hF hy hs hc hw1 hw2
    obtain ⟨d, rfl⟩ : ∃ q, d = q + 1 := ⟨d - 1, by omega⟩
    have hS' := hS
    obtain ⟨s1, s2, s3, s4, s5, s6⟩ := hS'
    obtain ⟨z1, z2, z3⟩ := s6 h (by omega)
    have key : ∀ (m r : Nat) (z : Int) (s : bw_S) (a : Nat → Nat → Nat → Int32), r + m = nr → z = (r : Int) → bw_SI a b n nr q B F W → bw_Wy a y h → bw_St a n s →
        ∃ a', am_fix (am_sem X d) X am_P201 41 [.inr (8, 0), am_I (be_i ((h : Int))), am_I (be_i ((c : Int))), am_I (be_i (w)), am_I (be_i (z))] [] (am_sd a b u e f) = some (none, am_sd a' b u e f) ∧ bw_Fr a a' h ∧
          bw_St a' n (bw_sc q nr F K W k (h + 1) (am_u y h 9) c w (bw_fold (fun i s => bif bw_ok F K y h (r + i) then bw_sc q nr F K W k (h + 1) (am_u y h (r + i)) (c + 1) (w + W h (r + i)) s else s) m s)) := by
      intro m
      induction m with
      | zero =>
        rintro r z s a hr rfl hS hy hs
        obtain rfl : r = nr := hr
        obtain ⟨s1, s2, s3, s4, s5, s6⟩ := hS
        obtain ⟨a0, ha0⟩ : ∃ a0, a0 = am_w3 a 29 0 h (be_i (-5)) := ⟨_, rfl⟩
        have fr0 : bw_Fr a a0 h := fun c i j hn => by rw [ha0]; exact be_w3n _ _ _ _ _ _ _ _ (by omega)
        obtain ⟨a', g1, g2, g3⟩ := ih d (h + 1) c w (am_u y h 9) s a0 b (by omega) (by omega) (bw_SI_t fr0 (fun _ => rfl) ⟨s1, s2, s3, s4, s5, s6⟩) (fun r' hr' => by
          rw [hF r' hr']
          refine be_mk_congr fun t ht => ?_
          rw [be_any, be_ub, if_pos rfl, decide_eq_false (by omega), Bool.false_and, Bool.or_false, Bool.eq_iff_iff, be_any_iff, be_any_iff]
          constructor
          · rintro ⟨o, ho, hq⟩; exact ⟨o, ho, by rw [be_ub, if_neg (by omega)]; exact hq⟩
          · rintro ⟨o, ho, hq⟩; exact ⟨o, ho, by rw [be_ub, if_neg (by omega)] at hq; exact hq⟩) (fun o ho => by
          rw [be_ub]
          by_cases e1 : o = h
          · subst e1; rw [if_pos rfl, if_pos rfl, ha0]; exact be_w3s _ _ _ _ _
          · rw [if_neg e1, ha0, be_w3n _ _ _ _ _ _ _ _ (by omega)]; exact hy o (by omega)) (by
          obtain ⟨t1, t2, t3, t4, t5, t6, t7⟩ := hs
          refine ⟨?_, ?_, t3, t4, t5, t6, t7.imp id fun t7 j hj => ?_⟩
          · rw [ha0, be_w3n _ _ _ _ _ _ _ _ (by omega)]; exact t1
          · rw [ha0, be_w3n _ _ _ _ _ _ _ _ (by omega)]; exact t2
          · rw [ha0, be_w3n _ _ _ _ _ _ _ _ (by omega)]; exact t7 j hj) (by omega) hw1 (by omega)
        refine ⟨a', ?_, bw_Fr_tr (by omega) fr0 g2, g3⟩
        rw [am_b201_41]
        simp (disch := (first | assumption | omega | exact (be_gB _ _ _).1 | exact (be_gB _ _ _).2)) only [↓reduceIte, be_ofI, ↓be_ofN, ↓be_0, be_add, be_sub, be_mul, be_neg, be_rem, be_bi, be_bl, be_bv, be_br, be_bE0, be_bE1, be_b1E, be_b0E, be_bkb, be_cast, Int.toNat_natCast, Int.reduceToNat, be_lt, be_le, be_eq, be_nt, be_ck, be_nz, be_bk, be_div, not_true_eq_false, not_false_eq_true, if_true, if_false, eq_self, Int.reduceEq, Int.reduceLT, Int.reduceLE, Bool.true_eq_false, Bool.false_eq_true, s2, Int.le_refl, ← ha0]
        rw [show (h : Int) + 1 = ((h + 1 : Nat) : Int) from rfl, g1, be_bv, am_b201_171]
      | succ m ih2 =>
        rintro r z s a hr rfl hS hy hs
        have hS0 := hS
        obtain ⟨s1, s2, s3, s4, s5, s6⟩ := hS
        obtain ⟨z1, z2, z3⟩ := s6 h (by omega)
        obtain ⟨z4, z5, z6⟩ := z3 r (by omega)
        have w1 : ¬ (nr : Int) ≤ (r : Int) := by omega
        have hbl : be_bs (F h) nr < 32 := Nat.lt_of_lt_of_le (be_bs_lt _ _) (Nat.pow_le_pow_right (by decide) s5 : 2 ^ nr ≤ 2 ^ 5)
        have sh := be_shr (x := (be_bs (F h) nr : Int)) (k := r) (by omega) (by omega) (by omega)
        have an := be_and1 (x := (be_bs (F h) nr : Int) / ((2 ^ r : Nat) : Int)) (Int.ediv_nonneg (by omega) (Int.natCast_nonneg _))
        have bt := bw_bit (F h) s5 (show r < nr by omega)
        have shift : ∀ s0 : bw_S, bw_fold (fun i s => bif bw_ok F K y h (r + i) then bw_sc q nr F K W k (h + 1) (am_u y h (r + i)) (c + 1) (w + W h (r + i)) s else s) (m + 1) s0 = bw_fold (fun i s => bif bw_ok F K y h (r + 1 + i) then bw_sc q nr F K W k (h + 1) (am_u y h (r + 1 + i)) (c + 1) (w + W h (r + 1 + i)) s else s) m (bif bw_ok F K y h r then bw_sc q nr F K W k (h + 1) (am_u y h r) (c + 1) (w + W h r) s0 else s0) := by
          intro s0
          rw [Nat.add_comm m 1, bw_fold_add]
          refine (bw_fold_congr (fun i hi s => ?_) _).trans rfl
          rw [Nat.add_assoc r 1 i]
        rw [shift]
        have mt := bw_meet (y := y) (r := r) hK (show h < n by omega)
        unfold bw_ok
        cases hFr : F h r with
        | false =>
          rw [hFr] at bt
          rw [Bool.false_and, cond_false]
          obtain ⟨a', g1, g2, g3⟩ := ih2 (r + 1) ((r : Int) + 1) s a (by omega) (by omega) hS0 hy hs
          refine ⟨a', ?_, g2, g3⟩
          rw [am_b201_41]
          simp (disch := (first | assumption | omega | exact (be_gB _ _ _).1 | exact (be_gB _ _ _).2)) only [↓reduceIte, be_ofI, ↓be_ofN, ↓be_0, be_add, be_sub, be_mul, be_neg, be_rem, be_bi, be_bl, be_bv, be_br, be_bE0, be_bE1, be_b1E, be_b0E, be_bkb, be_cast, Int.toNat_natCast, Int.reduceToNat, be_lt, be_le, be_eq, be_nt, be_ck, be_nz, be_bk, be_div, s2, w1, show (h : Int).toNat = h from rfl, z1]
          rw [be_31, sh, an, if_pos (bt.mpr rfl)]
          exact g1
        | true =>
          rw [hFr] at bt
          have bt' := be_nmp bt
          rw [Bool.true_and]
          cases hAny : be_any (fun o => decide (y o = r) && K o h) h with
          | true =>
            rw [hAny] at mt
            have mt' := be_nmp mt
            rw [Bool.not_true, cond_false]
            obtain ⟨a', g1, g2, g3⟩ := ih2 (r + 1) ((r : Int) + 1) s a (by omega) (by omega) hS0 hy hs
            refine ⟨a', ?_, g2, g3⟩
            rw [am_b201_41]
            simp (disch := (first | assumption | omega | exact (be_gB _ _ _).1 | exact (be_gB _ _ _).2)) only [↓reduceIte, be_ofI, ↓be_ofN, ↓be_0, be_add, be_sub, be_mul, be_neg, be_rem, be_bi, be_bl, be_bv, be_br, be_bE0, be_bE1, be_b1E, be_b0E, be_bkb, be_cast, Int.toNat_natCast, Int.reduceToNat, be_lt, be_le, be_eq, be_nt, be_ck, be_nz, be_bk, be_div, s2, w1, show (h : Int).toNat = h from rfl, show (r : Int).toNat = r from rfl, z1, z2, hF r (by omega)]
            rw [be_31, sh, an, if_neg bt', if_pos mt']
            exact g1
          | false =>
            rw [hAny] at mt
            have mt' := mt.mpr rfl
            rw [Bool.not_false, cond_true]
            obtain ⟨a0, ha0⟩ : ∃ a0, a0 = am_w3 a 29 0 h (be_i (r : Int)) := ⟨_, rfl⟩
            obtain ⟨b0, hb0⟩ : ∃ b0, b0 = am_w3 b 28 0 r (be_mk (fun t => be_any (fun o => decide (y o = r) && B o t) h || B h t)) := ⟨_, rfl⟩
            have fr0 : bw_Fr a a0 h := fun c i j hn => by rw [ha0]; exact be_w3n _ _ _ _ _ _ _ _ (by omega)
            obtain ⟨a1, g1, g2, g3⟩ := ih d (h + 1) (c + 1) (w + W h r) (am_u y h r) s a0 b0 (by omega) (by omega) (bw_SI_t fr0 (fun _ => by rw [hb0]; exact be_w3n _ _ _ _ _ _ _ _ (by omega)) hS0) (fun r' hr' => by
              by_cases er : r' = r
              · subst er
                rw [hb0, be_w3s]
                refine be_mk_congr fun t ht => ?_
                rw [be_any, be_ub, if_pos rfl, decide_eq_true rfl, Bool.true_and]
                congr 1
                rw [Bool.eq_iff_iff, be_any_iff, be_any_iff]
                constructor
                · rintro ⟨o, ho, hq⟩; exact ⟨o, ho, by rw [be_ub, if_neg (by omega)]; exact hq⟩
                · rintro ⟨o, ho, hq⟩; exact ⟨o, ho, by rw [be_ub, if_neg (by omega)] at hq; exact hq⟩
              · rw [hb0, be_w3n _ _ _ _ _ _ _ _ (by omega), hF r' hr']
                refine be_mk_congr fun t ht => ?_
                rw [be_any, be_ub, if_pos rfl, decide_eq_false (by omega), Bool.false_and, Bool.or_false, Bool.eq_iff_iff, be_any_iff, be_any_iff]
                constructor
                · rintro ⟨o, ho, hq⟩; exact ⟨o, ho, by rw [be_ub, if_neg (by omega)]; exact hq⟩
                · rintro ⟨o, ho, hq⟩; exact ⟨o, ho, by rw [be_ub, if_neg (by omega)] at hq; exact hq⟩) (fun o ho => by
              rw [be_ub]
              by_cases e1 : o = h
              · subst e1; rw [if_pos rfl, if_neg (by omega), ha0]; exact be_w3s _ _ _ _ _
              · rw [if_neg e1, ha0, be_w3n _ _ _ _ _ _ _ _ (by omega)]; exact hy o (by omega)) (by
              obtain ⟨t1, t2, t3, t4, t5, t6, t7⟩ := hs
              refine ⟨?_, ?_, t3, t4, t5, t6, t7.imp id fun t7 j hj => ?_⟩
              · rw [ha0, be_w3n _ _ _ _ _ _ _ _ (by omega)]; exact t1
              · rw [ha0, be_w3n _ _ _ _ _ _ _ _ (by omega)]; exact t2
              · rw [ha0, be_w3n _ _ _ _ _ _ _ _ (by omega)]; exact t7 j hj) (by omega) (by omega) (by omega)
            have fr1 := bw_Fr_tr (by omega) fr0 g2
            obtain ⟨a', k1, k2, k3⟩ := ih2 (r + 1) ((r : Int) + 1) _ a1 (by omega) (by omega) (bw_SI_t fr1 (fun _ => rfl) hS0) (fun o ho => by rw [fr1 _ _ _ (by omega)]; exact hy o ho) g3
            refine ⟨a', ?_, bw_Fr_tr (Nat.le_refl _) fr1 k2, k3⟩
            have back : am_w3 b0 28 0 r (b0 28 0 r &&& (b0 25 0 h ^^^ Int64.ofNat 18446744073709551615)) = b := by
              have e1 : b0 28 0 r = be_mk (fun t => be_any (fun o => decide (y o = r) && B o t) h || B h t) := by rw [hb0, be_w3s]
              have e2 : b0 25 0 h = be_mk (B h) := by rw [hb0, be_w3n _ _ _ _ _ _ _ _ (by omega)]; exact z2
              rw [e1, e2, be_mk_not, be_mk_and, hb0, be_ww]
              refine be_wid ?_
              rw [hF r (by omega)]
              refine be_mk_congr fun t ht => ?_
              have m2 := (be_cmp0 _ _).mp mt'
              rw [be_mk_and, be_mk_eq0] at m2
              have := m2 t ht
              cases h1 : be_any (fun o => decide (y o = r) && B o t) h <;> cases h2 : B h t <;> rw [h1, h2] at this <;> first | rfl | exact this.symm | exact this
            rw [am_b201_41]
            simp (disch := (first | assumption | omega | exact (be_gB _ _ _).1 | exact (be_gB _ _ _).2)) only [↓reduceIte, be_ofI, ↓be_ofN, ↓be_0, be_add, be_sub, be_mul, be_neg, be_rem, be_bi, be_bl, be_bv, be_br, be_bE0, be_bE1, be_b1E, be_b0E, be_bkb, be_cast, Int.toNat_natCast, Int.reduceToNat, be_lt, be_le, be_eq, be_nt, be_ck, be_nz, be_bk, be_div, s2, w1, show (h : Int).toNat = h from rfl, show (r : Int).toNat = r from rfl, z1, z2, z4, hF r (by omega), be_mk_or]
            rw [be_31, sh, an, if_neg bt', if_neg (fun h => h mt'), ← ha0, ← hb0, show (h : Int) + 1 = ((h + 1 : Nat) : Int) from rfl, show (c : Int) + 1 = ((c + 1 : Nat) : Int) from rfl, g1, be_bv, am_b201_128]
            simp (disch := (first | assumption | omega | exact (be_gB _ _ _).1 | exact (be_gB _ _ _).2)) only [↓reduceIte, be_ofI, ↓be_ofN, ↓be_0, be_add, be_sub, be_mul, be_neg, be_rem, be_bi, be_bl, be_bv, be_br, be_bE0, be_bE1, be_b1E, be_b0E, be_bkb, be_cast, Int.toNat_natCast, Int.reduceToNat, be_lt, be_le, be_eq, be_nt, be_ck, be_nz, be_bk, be_div, show (h : Int).toNat = h from rfl, show (r : Int).toNat = r from rfl]
            rw [back]
            exact k1
    obtain ⟨a', g1, g2, g3⟩ := key nr 0 0 s a (Nat.zero_add _) rfl hS hy hs
    have eqf : (fun i s => bif bw_ok F K y h (0 + i) then bw_sc q nr F K W k (h + 1) (am_u y h (0 + i)) (c + 1) (w + W h (0 + i)) s else s) = fun r s => bif bw_ok F K y h r then bw_sc q nr F K W k (h + 1) (am_u y h r) (c + 1) (w + W h r) s else s := by
      funext i s
      rw [Nat.zero_add]
    rw [eqf] at g3
    obtain ⟨t1, t2, t3, t4, t5, t6, t7⟩ := hs
    have hlt : (h : Int) < (n : Int) := by omega
    rw [am_s201]
    cases q with
    | false =>
      refine ⟨a', ?_, g2, g3⟩
      simp (disch := (first | assumption | omega | exact (be_gB _ _ _).1 | exact (be_gB _ _ _).2)) only [↓reduceIte, be_ofI, ↓be_ofN, ↓be_0, be_add, be_sub, be_mul, be_neg, be_rem, be_bi, be_bl, be_bv, be_br, be_bE0, be_bE1, be_b1E, be_b0E, be_bkb, be_cast, Int.toNat_natCast, Int.reduceToNat, be_lt, be_le, be_eq, be_nt, be_ck, be_nz, be_bk, be_div, not_true_eq_false, not_false_eq_true, if_true, if_false, eq_self, Int.reduceEq, Int.reduceLT, Int.reduceLE, Bool.true_eq_false, Bool.false_eq_true, s1, s3, be_bF, hlt]
      exact g1
    | true =>
      by_cases hp : ((c + (k + 1) : Nat) : Int) < s.1
      · rw [bw_prune nr F K W (k + 1) h y c w s hp]
        refine ⟨a, ?_, fun _ _ _ _ => rfl, t1, t2, t3, t4, t5, t6, t7⟩
        simp (disch := (first | assumption | omega | exact (be_gB _ _ _).1 | exact (be_gB _ _ _).2)) only [↓reduceIte, be_ofI, ↓be_ofN, ↓be_0, be_add, be_sub, be_mul, be_neg, be_rem, be_bi, be_bl, be_bv, be_br, be_bE0, be_bE1, be_b1E, be_b0E, be_bkb, be_cast, Int.toNat_natCast, Int.reduceToNat, be_lt, be_le, be_eq, be_nt, be_ck, be_nz, be_bk, be_div, not_true_eq_false, not_false_eq_true, if_true, if_false, eq_self, Int.reduceEq, Int.reduceLT, Int.reduceLE, Bool.true_eq_false, Bool.false_eq_true, s1, s3, be_bT, t1, show ¬ s.1 ≤ (c : Int) + (n : Int) - (h : Int) by omega]
      · refine ⟨a', ?_, g2, g3⟩
        simp (disch := (first | assumption | omega | exact (be_gB _ _ _).1 | exact (be_gB _ _ _).2)) only [↓reduceIte, be_ofI, ↓be_ofN, ↓be_0, be_add, be_sub, be_mul, be_neg, be_rem, be_bi, be_bl, be_bv, be_br, be_bE0, be_bE1, be_b1E, be_b0E, be_bkb, be_cast, Int.toNat_natCast, Int.reduceToNat, be_lt, be_le, be_eq, be_nt, be_ck, be_nz, be_bk, be_div, not_true_eq_false, not_false_eq_true, if_true, if_false, eq_self, Int.reduceEq, Int.reduceLT, Int.reduceLE, Bool.true_eq_false, Bool.false_eq_true, s1, s3, be_bT, t1, hlt, show s.1 ≤ (c : Int) + (n : Int) - (h : Int) by omega]
        exact g1
