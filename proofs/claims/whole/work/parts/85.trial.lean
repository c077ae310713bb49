/-! CALLS, 13: holds, can, where -/
variable {d : Nat} {X : am_X} {a : Nat → Nat → Nat → Int32} {b : Nat → Nat → Nat → Int64} {u : Nat → Nat} {e : Nat → Nat → Nat → Int32} {f : Nat → Nat → Nat → Int64}
theorem be_m79 (hd : 9 ≤ d) (hW : be_W e) (hW2 : be_W2 e) (hT : be_T2 e) (hD : be_g e 50 3 ≤ 10100) : am_sem X d 79 [.inr (50, 0)] (am_sd a b u e f) = some (some (am_I (be_i (be_b (be_as e (be_g e 50 3) (be_ns e))))), (am_sd a b u e f)) := by
  obtain ⟨d, rfl⟩ : ∃ q, d = q + 1 := ⟨d - 1, by omega⟩
  have he := be_gI e
  have hW1 := hW.1
  obtain ⟨w1, w2, w3⟩ := hW2.2.1
  have hns : be_g e 50 40 = (be_ns e : Int) := by unfold be_ns; omega
  have key : ∀ (n k : Nat) (z : Int), k + n = be_ns e → z = (k : Int) → be_as e (be_g e 50 3) k = true → am_fix (am_sem X d) X am_P79 4 [.inr (50, 0), am_I (be_i (1)), am_I (be_i (z))] [] (am_sd a b u e f) = some (some (am_I (be_i (be_b (be_as e (be_g e 50 3) (be_ns e))))), (am_sd a b u e f)) := by
    intro n
    induction n with
    | zero =>
      rintro k z hk rfl hs
      obtain rfl : k = be_ns e := hk
      rw [am_b79_4, hs]
      simp (disch := (first | assumption | omega | exact (be_gB _ _ _).1 | exact (be_gB _ _ _).2)) only [↓reduceIte, be_ofI, ↓be_ofN, ↓be_0, be_add, be_sub, be_mul, be_neg, be_rem, be_bi, be_bl, be_bv, be_br, be_bE0, be_bE1, be_b1E, be_b0E, be_bkb, be_cast, Int.toNat_natCast, Int.reduceToNat, be_lt, be_le, be_eq, be_nt, be_ck, be_nz, be_bk, be_div, not_true_eq_false, not_false_eq_true, if_true, if_false, eq_self, Int.reduceEq, Int.reduceLT, Int.reduceLE, Bool.true_eq_false, Bool.false_eq_true, he, hns, Int.le_refl]
      rfl
    | succ n ih =>
      rintro k z hk rfl hs
      obtain ⟨y1, y2, y3, y4, y5, y6, y7, y8⟩ := w3 k (by omega)
      obtain ⟨t, ht⟩ := be_0le y3
      obtain ⟨e', he'⟩ : ∃ e', e' = am_w3 e 50 0 3 (be_i (be_g e 50 3 + be_g e 78 k)) := ⟨_, rfl⟩
      have hA : be_A e e' := by rw [he']; exact be_A_dy _
      have r3 : be_g e' 50 3 = be_g e 50 3 + be_g e 78 k := by rw [he', be_gw _ _ _ _ _ (by omega) (by omega), if_pos ⟨rfl, rfl⟩]
      have r1 : be_g e' 50 1 = be_g e 50 1 := by rw [he']; exact be_gn _ _ _ _ _ _ _ (by omega)
      have r3' : e' 50 0 3 = be_i (be_g e 50 3 + be_g e 78 k) := by rw [he', be_w3s]
      have r78 : e' 78 0 k = be_i (be_g e 78 k) := by rw [he', be_w3n _ _ _ _ _ _ _ _ (by omega), he]
      have r79 : e' 79 0 k = be_i (be_g e 79 k) := by rw [he', be_w3n _ _ _ _ _ _ _ _ (by omega), he]
      have nhE : be_nh e' = be_nh e := by unfold be_nh; rw [hA.2 2 (by omega)]
      have back : am_w3 e' 50 0 3 (be_i (be_g e 50 3)) = e := by rw [he', be_ww]; exact be_wid (he 50 3).symm
      have v := be_m43 (X := X) (a := a) (b := b) (u := u) (e := e') (f := f) (d := d) (r := be_g e 76 k) (t := t) (by omega) (be_A_W hA (by omega) (by omega) (by omega) (by omega) hW) (be_A_T hA hT) (by omega) (by omega) (by omega)
      rw [r3, be_A_iS hA, nhE] at v
      have hstep : be_as e (be_g e 50 3) (k + 1) = (be_as e (be_g e 50 3) k && (be_iM e (be_g e 50 3 + be_g e 78 k) (be_g e 76 k) (be_nh e) (be_g e 77 k).toNat == decide (be_g e 79 k = 1))) := rfl
      rw [hs, Bool.true_and, ht, Int.toNat_natCast] at hstep
      have w : ¬ (be_ns e : Int) ≤ (k : Int) := by omega
      have hb := be_bs_lt (fun h => decide (be_g e 57 h = be_g e 76 k) && be_in e (be_g e 50 3 + be_g e 78 k) h t) (be_nh e)
      rw [am_b79_4]
      simp (disch := (first | assumption | omega | exact (be_gB _ _ _).1 | exact (be_gB _ _ _).2)) only [↓reduceIte, be_ofI, ↓be_ofN, ↓be_0, be_add, be_sub, be_mul, be_neg, be_rem, be_bi, be_bl, be_bv, be_br, be_bE0, be_bE1, be_b1E, be_b0E, be_bkb, be_cast, Int.toNat_natCast, Int.reduceToNat, be_lt, be_le, be_eq, be_nt, be_ck, be_nz, be_bk, be_div, not_true_eq_false, not_false_eq_true, if_true, if_false, eq_self, Int.reduceEq, Int.reduceLT, Int.reduceLE, Bool.true_eq_false, Bool.false_eq_true, he, hns, ht, w]
      rw [← he', v, be_bi, am_b79_47]
      unfold be_iM at hstep
      have hlt : ((be_iS e (be_g e 50 3 + be_g e 78 k) (be_g e 76 k) t (be_nh e) : Nat) : Int) < 2147483648 := by
        have h1 := be_bs_lt (fun h => decide (be_g e 57 h = be_g e 76 k) && be_in e (be_g e 50 3 + be_g e 78 k) h t) (be_nh e)
        have h2 : 2 ^ be_nh e ≤ 2 ^ 6 := Nat.pow_le_pow_right (by decide) (be_nhR hW).1
        have h3 : be_iS e (be_g e 50 3 + be_g e 78 k) (be_g e 76 k) t (be_nh e) < 2 ^ be_nh e := be_bs_lt _ _
        omega
      by_cases hz : be_iS e (be_g e 50 3 + be_g e 78 k) (be_g e 76 k) t (be_nh e) = 0
      · rw [hz]
        rw [decide_eq_false (fun h => h hz)] at hstep
        rcases (show be_g e 79 k = 0 ∨ be_g e 79 k = 1 by omega) with h9 | h9
        · rw [h9, show (false == decide ((0 : Int) = 1)) = true by decide] at hstep
          simp (disch := (first | assumption | omega | exact (be_gB _ _ _).1 | exact (be_gB _ _ _).2)) only [↓reduceIte, be_ofI, ↓be_ofN, ↓be_0, be_add, be_sub, be_mul, be_neg, be_rem, be_bi, be_bl, be_bv, be_br, be_bE0, be_bE1, be_b1E, be_b0E, be_bkb, be_cast, Int.toNat_natCast, Int.reduceToNat, be_lt, be_le, be_eq, be_nt, be_ck, be_nz, be_bk, be_div, not_true_eq_false, not_false_eq_true, if_true, if_false, eq_self, Int.reduceEq, Int.reduceLT, Int.reduceLE, Bool.true_eq_false, Bool.false_eq_true, r3', r78, r79, h9, Int.add_sub_cancel, back, Int.natCast_zero]
          exact ih (k + 1) _ (by omega) (by omega) hstep
        · rw [h9, show (false == decide ((1 : Int) = 1)) = false by decide] at hstep
          simp (disch := (first | assumption | omega | exact (be_gB _ _ _).1 | exact (be_gB _ _ _).2)) only [↓reduceIte, be_ofI, ↓be_ofN, ↓be_0, be_add, be_sub, be_mul, be_neg, be_rem, be_bi, be_bl, be_bv, be_br, be_bE0, be_bE1, be_b1E, be_b0E, be_bkb, be_cast, Int.toNat_natCast, Int.reduceToNat, be_lt, be_le, be_eq, be_nt, be_ck, be_nz, be_bk, be_div, not_true_eq_false, not_false_eq_true, if_true, if_false, eq_self, Int.reduceEq, Int.reduceLT, Int.reduceLE, Bool.true_eq_false, Bool.false_eq_true, r3', r78, r79, h9, Int.add_sub_cancel, back, Int.natCast_zero]
          rw [am_b79_4, be_as_f e _ hstep (n := be_ns e) (by omega)]
          simp (disch := (first | assumption | omega | exact (be_gB _ _ _).1 | exact (be_gB _ _ _).2)) only [↓reduceIte, be_ofI, ↓be_ofN, ↓be_0, be_add, be_sub, be_mul, be_neg, be_rem, be_bi, be_bl, be_bv, be_br, be_bE0, be_bE1, be_b1E, be_b0E, be_bkb, be_cast, Int.toNat_natCast, Int.reduceToNat, be_lt, be_le, be_eq, be_nt, be_ck, be_nz, be_bk, be_div, not_true_eq_false, not_false_eq_true, if_true, if_false, eq_self, Int.reduceEq, Int.reduceLT, Int.reduceLE, Bool.true_eq_false, Bool.false_eq_true]
          split <;> rfl
      · have hz' : ¬ ((be_iS e (be_g e 50 3 + be_g e 78 k) (be_g e 76 k) t (be_nh e) : Nat) : Int) = 0 := by omega
        rw [decide_eq_true hz] at hstep
        rcases (show be_g e 79 k = 0 ∨ be_g e 79 k = 1 by omega) with h9 | h9
        · rw [h9, show (true == decide ((0 : Int) = 1)) = false by decide] at hstep
          simp (disch := (first | assumption | omega | exact (be_gB _ _ _).1 | exact (be_gB _ _ _).2)) only [↓reduceIte, be_ofI, ↓be_ofN, ↓be_0, be_add, be_sub, be_mul, be_neg, be_rem, be_bi, be_bl, be_bv, be_br, be_bE0, be_bE1, be_b1E, be_b0E, be_bkb, be_cast, Int.toNat_natCast, Int.reduceToNat, be_lt, be_le, be_eq, be_nt, be_ck, be_nz, be_bk, be_div, not_true_eq_false, not_false_eq_true, if_true, if_false, eq_self, Int.reduceEq, Int.reduceLT, Int.reduceLE, Bool.true_eq_false, Bool.false_eq_true, r3', r78, r79, h9, hz', Int.add_sub_cancel, back]
          rw [am_b79_4, be_as_f e _ hstep (n := be_ns e) (by omega)]
          simp (disch := (first | assumption | omega | exact (be_gB _ _ _).1 | exact (be_gB _ _ _).2)) only [↓reduceIte, be_ofI, ↓be_ofN, ↓be_0, be_add, be_sub, be_mul, be_neg, be_rem, be_bi, be_bl, be_bv, be_br, be_bE0, be_bE1, be_b1E, be_b0E, be_bkb, be_cast, Int.toNat_natCast, Int.reduceToNat, be_lt, be_le, be_eq, be_nt, be_ck, be_nz, be_bk, be_div, not_true_eq_false, not_false_eq_true, if_true, if_false, eq_self, Int.reduceEq, Int.reduceLT, Int.reduceLE, Bool.true_eq_false, Bool.false_eq_true]
          split <;> rfl
        · rw [h9, show (true == decide ((1 : Int) = 1)) = true by decide] at hstep
          simp (disch := (first | assumption | omega | exact (be_gB _ _ _).1 | exact (be_gB _ _ _).2)) only [↓reduceIte, be_ofI, ↓be_ofN, ↓be_0, be_add, be_sub, be_mul, be_neg, be_rem, be_bi, be_bl, be_bv, be_br, be_bE0, be_bE1, be_b1E, be_b0E, be_bkb, be_cast, Int.toNat_natCast, Int.reduceToNat, be_lt, be_le, be_eq, be_nt, be_ck, be_nz, be_bk, be_div, not_true_eq_false, not_false_eq_true, if_true, if_false, eq_self, Int.reduceEq, Int.reduceLT, Int.reduceLE, Bool.true_eq_false, Bool.false_eq_true, r3', r78, r79, h9, hz', Int.add_sub_cancel, back]
          exact ih (k + 1) _ (by omega) (by omega) hstep
  rw [am_s79]
  exact key _ 0 0 (Nat.zero_add _) rfl rfl
/-- the trial house -/
theorem be_tri (hd : 3 ≤ d) (hI : be_IV a b u e f) : ∃ a' u', am_sem X d 137 [.inr (2, 2), .inr (2, 0)] (am_sd a b u e f) = some (none, am_sd a' b u' e f) ∧ be_HX a' u' 2 e ∧ be_fr 2 a a' ∧ ∀ k, k < 4 → u' k = u k := by
  obtain ⟨hW, hW2, hT, hh, hD, hth, hX⟩ := hI.1
  obtain ⟨a', q1, q2, q3⟩ := be_m137 (X := X) (a := a) (b := b) (u := u) (e := e) (f := f) (d := d) (i0 := 2) (i1 := 0) (by omega) hW hW2 (by decide) (by decide) (by decide) hI.2.1 hX (fun _ => by decide)
  exact ⟨a', _, q1, q2, q3, fun k hk => by rw [be_u1, if_neg (by omega)]⟩
theorem be_IV_tri {a1 : Nat → Nat → Nat → Int32} {u' : Nat → Nat} (hI : be_IV a b u e f) {a' : Nat → Nat → Nat → Int32} (hf : be_fr 2 a a') (ha : ∀ c k j, ¬ be_inH 2 c k → a1 c k j = a' c k j) (h1 : ∀ k, a1 1 k 0 = a' 1 k 0) (h5 : ∀ k, a1 5 k 0 = a' 5 k 0) (hu : ∀ k, k < 4 → u' k = u k) : be_IV a1 b u' e f :=
  be_IV_q hI (fun c k j c1 c2 c3 c4 c5 h => (ha c k j h).trans (hf.1 c k j h)) (be_NM_t hI.2.1 (fun k => (h1 k).trans (hf.2.1 k)) (fun k => (h5 k).trans (hf.2.2 k))) (fun _ _ => rfl) hI.2.2.2.2.2.2.2.1 hu
