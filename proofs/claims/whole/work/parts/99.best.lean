/-! WAYS, 8: the reference's best way, whole -/
variable {d : Nat} {X : am_X} {a : Nat → Nat → Nat → Int32} {b : Nat → Nat → Nat → Int64} {u : Nat → Nat} {e : Nat → Nat → Nat → Int32} {f : Nat → Nat → Nat → Int64}
theorem bw_LF_RL {e1 : Nat → Nat → Nat → Int32} (hW : be_W e) (h2 : be_g e1 50 2 = be_g e 50 2) (hL : ∀ h, h < be_nh e → bw_LF e1 e h (be_nr e) (be_nh e)) : bw_RL e1 (be_nh e) (bw_F e) (be_cl e) := by
  obtain ⟨nh, nh2⟩ := be_nhR hW
  refine ⟨by rw [h2, nh2], nh, fun h hh => ?_⟩
  obtain ⟨l1, l2, l3, l4, l5⟩ := hL h hh
  refine ⟨fun r hr => ?_, l3, fun o ho hlt => ?_⟩
  · unfold bw_F
    by_cases h1 : r < be_nr e
    · rw [(l1 r h1).1, decide_eq_true h1, Bool.true_and]
    · rw [l2 r (by omega) hr, decide_eq_false h1, Bool.false_and]; rfl
  · rw [l5 o ho, decide_eq_true (show ¬ o = h by omega), Bool.true_and]
theorem bw_m62 (hd : 7 ≤ d) (hW : be_W e) (hT : be_T3 e) (q : Bool) {e0 : Nat → Nat → Nat → Int32} (hE0 : bw_E e e0) : ∃ e', am_sem X d 62 [.inr (50, 0), am_I (be_i (be_b q))] (am_sd a b u e0 f) = some (none, am_sd a b u e' f) ∧ bw_E e e' ∧ bw_SB e' (be_nh e) (bw_sc q (be_nr e) (bw_F e) (be_cl e) (bw_W e) (be_nh e) 0 (fun _ => 9) 0 0 (-1, -1, fun _ => 9)) := by
  obtain ⟨d, rfl⟩ : ∃ q, d = q + 1 := ⟨d - 1, by omega⟩
  obtain ⟨nh, nh2⟩ := be_nhR hW
  obtain ⟨nr, nr2⟩ := be_nrR hW
  have hF : ∀ h r, be_nr e ≤ r → r < 4 → bw_F e h r = false := fun h r h1 h2 => by unfold bw_F; rw [decide_eq_false (by omega)]; rfl
  obtain ⟨n, hn⟩ : ∃ n, n = be_nh e := ⟨_, rfl⟩
  rw [← hn] at nh nh2 ⊢
  have hp : 5 ^ n ≤ 5 ^ 6 := Nat.pow_le_pow_right (by decide) nh
  obtain ⟨eL, g1, g2, g3⟩ := bw_m60 (X := X) (a := a) (b := b) (u := u) (e := e) (f := f) (d := d) (by omega) hW hT hE0
  have EL : bw_E e eL := fun c j c1 c2 c3 c4 c5 c6 c7 c8 c9 => (g2 c j c1 c4 c5 c6).trans (hE0 c j c1 c2 c3 c4 c5 c6 c7 c8 c9)
  have hRL := bw_LF_RL hW (EL 50 2 (by decide) (by decide) (by decide) (by decide) (by decide) (by decide) (by decide) (by decide) (by omega)) g3
  rw [← hn] at hRL
  have L2 : be_g eL 50 2 = (n : Int) := hRL.1
  have h73 : ∀ h, h < n → be_g eL 73 (5 * h + 4) = 0 ∧ ∀ r, r < be_nr e → be_g eL 73 (5 * h + r) = bw_W e h r ∧ 0 ≤ bw_W e h r ∧ bw_W e h r ≤ 1000 := fun h hh => by
    obtain ⟨l1, l2, l3, l4, l5⟩ := g3 h (by omega)
    exact ⟨l4, fun r hr => ⟨(l1 r hr).2, be_woR hT _⟩⟩
  have pw : ∀ (m k : Nat) (z x : Int), k + m = n → z = (k : Int) → x = ((5 ^ k : Nat) : Int) → am_fix (am_sem X d) X am_P62 8 [.inr (50, 0), am_I (be_i (be_b q)), am_I (be_i (x)), am_I (be_i (z)), am_un, am_un, am_un] [] (am_sd a b u eL f) = am_fix (am_sem X d) X am_P62 38 [.inr (50, 0), am_I (be_i (be_b q)), am_I (be_i (((5 ^ n : Nat) : Int))), am_I (be_i (0)), am_un, am_un, am_un] [] (am_sd a b u (am_w3 (am_w3 eL 50 0 33 (be_i (-1))) 50 0 34 (be_i (-1))) f) := by
    intro m
    induction m with
    | zero =>
      rintro k z x hk rfl rfl
      obtain rfl : k = n := hk
      have q0 : eL 50 0 2 = be_i (k : Int) := by rw [be_gI eL, L2]
      rw [am_b62_8]
      simp (disch := (first | assumption | omega | exact (be_gB _ _ _).1 | exact (be_gB _ _ _).2)) only [↓reduceIte, be_ofI, ↓be_ofN, ↓be_0, be_add, be_sub, be_mul, be_neg, be_rem, be_bi, be_bl, be_bv, be_br, be_bE0, be_bE1, be_b1E, be_b0E, be_bkb, be_cast, Int.toNat_natCast, Int.reduceToNat, be_lt, be_le, be_eq, be_nt, be_ck, be_nz, be_bk, be_div, q0, Int.le_refl]
    | succ m ih =>
      rintro k z x hk rfl rfl
      have q0 : eL 50 0 2 = be_i (n : Int) := by rw [be_gI eL, L2]
      have w1 : ¬ (n : Int) ≤ (k : Int) := by omega
      rw [am_b62_8]
      simp (disch := (first | assumption | omega | exact (be_gB _ _ _).1 | exact (be_gB _ _ _).2)) only [↓reduceIte, be_ofI, ↓be_ofN, ↓be_0, be_add, be_sub, be_mul, be_neg, be_rem, be_bi, be_bl, be_bv, be_br, be_bE0, be_bE1, be_b1E, be_b0E, be_bkb, be_cast, Int.toNat_natCast, Int.reduceToNat, be_lt, be_le, be_eq, be_nt, be_ck, be_nz, be_bk, be_div, q0, w1]
      exact ih (k + 1) _ _ (by omega) (by omega) (by rw [Nat.pow_succ, Int.natCast_mul]; rfl)
  obtain ⟨e2, he2⟩ : ∃ e2, e2 = am_w3 (am_w3 eL 50 0 33 (be_i (-1))) 50 0 34 (be_i (-1)) := ⟨_, rfl⟩
  have q2 : ∀ c j, ¬ (c = 50 ∧ (j = 33 ∨ j = 34)) → be_g e2 c j = be_g eL c j := fun c j h => by rw [he2, be_gn _ _ _ _ _ _ _ (by omega), be_gn _ _ _ _ _ _ _ (by omega)]
  have r33 : be_g e2 50 33 = -1 := by rw [he2, be_gn _ _ _ _ _ _ _ (by omega), be_gw _ _ _ _ _ (by omega) (by omega), if_pos ⟨rfl, rfl⟩]
  have r34 : be_g e2 50 34 = -1 := by rw [he2, be_gw _ _ _ _ _ (by omega) (by omega), if_pos ⟨rfl, rfl⟩]
  have key : ∀ (m N : Nat) (z : Int) (z4 z5 z6 : am_V) (e1 : Nat → Nat → Nat → Int32), N + m = 5 ^ n → z = (N : Int) → (∀ c j, c ≠ 69 → c ≠ 70 → ¬ (c = 50 ∧ (j = 33 ∨ j = 34)) → be_g e1 c j = be_g eL c j) → bw_SB e1 n (bw_fold (bw_lf q (bw_F e) (be_cl e) (bw_W e) (fun _ => 9) n) N (-1, -1, fun _ => 9)) →
      ∃ e', am_fix (am_sem X d) X am_P62 38 [.inr (50, 0), am_I (be_i (be_b q)), am_I (be_i (((5 ^ n : Nat) : Int))), am_I (be_i (z)), z4, z5, z6] [] (am_sd a b u e1 f) = some (none, am_sd a b u e' f) ∧ (∀ c j, c ≠ 69 → c ≠ 70 → ¬ (c = 50 ∧ (j = 33 ∨ j = 34)) → be_g e' c j = be_g eL c j) ∧ bw_SB e' n (bw_fold (bw_lf q (bw_F e) (be_cl e) (bw_W e) (fun _ => 9) n) (5 ^ n) (-1, -1, fun _ => 9)) := by
    intro m
    induction m with
    | zero =>
      rintro N z z4 z5 z6 e1 hN rfl h0 hS
      obtain rfl : N = 5 ^ n := hN
      refine ⟨e1, ?_, h0, hS⟩
      rw [am_b62_38, if_pos Int32.le_rfl]
    | succ m ih =>
      rintro N z z4 z5 z6 e1 hN rfl h0 hS
      have hR1 : bw_RL e1 n (bw_F e) (be_cl e) := bw_RL_t (fun c j hc => h0 c j (by omega) (by omega) (by omega)) hRL
      obtain ⟨e3, v, k1, k2, k3, k4⟩ := bw_m61 (X := X) (a := a) (b := b) (u := u) (f := f) (d := d) (by omega) (N := N) (by omega) hR1
      have w1 : ¬ be_i ((5 ^ n : Nat) : Int) ≤ be_i (N : Int) := by rw [be_le (by omega) (by omega) (by omega) (by omega)]; omega
      have h03 : ∀ c j, c ≠ 69 → c ≠ 70 → ¬ (c = 50 ∧ (j = 33 ∨ j = 34)) → be_g e3 c j = be_g eL c j := fun c j c1 c2 c3 => (k2 c j c1).trans (h0 c j c1 c2 c3)
      have S3 : bw_SB e3 n (bw_fold (bw_lf q (bw_F e) (be_cl e) (bw_W e) (fun _ => 9) n) N (-1, -1, fun _ => 9)) := by
        obtain ⟨t1, t2, t3, t4, t5, t6, t7⟩ := hS
        exact ⟨by rw [k2 _ _ (by decide)]; exact t1, by rw [k2 _ _ (by decide)]; exact t2, t3, t4, t5, t6, t7.imp id fun t7 j hj => by rw [k2 _ _ (by decide)]; exact t7 j hj⟩
      have fs : bw_fold (bw_lf q (bw_F e) (be_cl e) (bw_W e) (fun _ => 9) n) (N + 1) (-1, -1, fun _ => 9) = bw_lf q (bw_F e) (be_cl e) (bw_W e) (fun _ => 9) n N (bw_fold (bw_lf q (bw_F e) (be_cl e) (bw_W e) (fun _ => 9) n) N (-1, -1, fun _ => 9)) := rfl
      obtain ⟨s, hs⟩ : ∃ s, s = bw_fold (bw_lf q (bw_F e) (be_cl e) (bw_W e) (fun _ => 9) n) N (-1, -1, fun _ => 9) := ⟨_, rfl⟩
      rw [← hs] at S3 fs
      unfold bw_lf at fs
      cases hv : v with
      | false =>
        rw [hv] at k1
        have hvl : bw_vl (bw_F e) (be_cl e) (fun _ => 9) n N = false := by
          rw [← Bool.not_eq_true, bw_Q_vl, ← k3, hv]
          exact Bool.false_ne_true
        rw [hvl, cond_false] at fs
        obtain ⟨e', m1, m2, m3⟩ := ih (N + 1) ((N : Int) + 1) z4 z5 z6 e3 (by omega) (by omega) h03 (by
          have : bw_SB e3 n (bw_fold (bw_lf q (bw_F e) (be_cl e) (bw_W e) (fun _ => 9) n) (N + 1) (-1, -1, fun _ => 9)) := fs ▸ S3
          exact this)
        refine ⟨e', ?_, m2, m3⟩
        rw [am_b62_38, if_neg w1, k1, be_bi, am_b62_48]
        simp (disch := (first | assumption | omega | exact (be_gB _ _ _).1 | exact (be_gB _ _ _).2)) only [↓reduceIte, be_ofI, ↓be_ofN, ↓be_0, be_add, be_sub, be_mul, be_neg, be_rem, be_bi, be_bl, be_bv, be_br, be_bE0, be_bE1, be_b1E, be_b0E, be_bkb, be_cast, Int.toNat_natCast, Int.reduceToNat, be_lt, be_le, be_eq, be_nt, be_ck, be_nz, be_bk, be_div, not_true_eq_false, not_false_eq_true, if_true, if_false, eq_self, Int.reduceEq, Int.reduceLT, Int.reduceLE, Bool.true_eq_false, Bool.false_eq_true, be_bF]
        exact m1
      | true =>
        rw [hv] at k1
        have hQ := k3.1 hv
        have hvl : bw_vl (bw_F e) (be_cl e) (fun _ => 9) n N = true := bw_Q_vl.2 hQ
        rw [hvl, cond_true, bw_ctD, bw_wtD] at fs
        have hw := k4 hv
        obtain ⟨l1, l2, l3, l4⟩ := bw_s62 (X := X) (a := a) (b := b) (u := u) (f := f) (d := d) hQ hF nh (W := bw_W e) (e1 := e3) (by rw [h03 _ _ (by decide) (by decide) (by decide)]; exact L2) hw (fun h hh => by
          obtain ⟨p1, p2⟩ := h73 h hh
          refine ⟨by rw [h03 _ _ (by decide) (by decide) (by omega)]; exact p1, fun r hr => ?_⟩
          rw [h03 _ _ (by decide) (by decide) (by omega)]
          exact p2 r hr) (be_i (be_b q)) (be_i ((5 ^ n : Nat) : Int)) (be_i (N : Int)) n 0 0 0 0 (Nat.zero_add _) rfl rfl rfl (Int.le_refl _) (Int.le_refl _) (Int.le_refl _) (by omega)
        obtain ⟨e4, z', n1, n2, n3⟩ := bw_k62 (X := X) (a := a) (b := b) (u := u) (f := f) (d := d) nh q (e1 := e3) (s := s) (by rw [h03 _ _ (by decide) (by decide) (by decide)]; exact L2) S3 (y := bw_yy (fun _ => 9) n N) (c := bw_cn n N n) (w := bw_wn (bw_W e) n N n) (N := N) (fun j hj => by
          rw [hw j hj, bw_yyD _ _ _ _ hj]
          have := bw_D5 n N j
          unfold bw_d9
          by_cases h4 : bw_D n N j = 4
          · rw [if_pos h4, if_pos rfl, h4]; rfl
          · rw [if_neg h4, if_neg (by omega)]) (by omega) l3 (by omega) (by omega) (be_i ((5 ^ n : Nat) : Int))
        obtain ⟨e', m1, m2, m3⟩ := ih (N + 1) ((N : Int) + 1) _ _ z' e4 (by omega) (by omega) (fun c j c1 c2 c3 => (n2 c j (by omega)).trans (h03 c j c1 c2 c3)) (by
          have : bw_SB e4 n (bw_fold (bw_lf q (bw_F e) (be_cl e) (bw_W e) (fun _ => 9) n) (N + 1) (-1, -1, fun _ => 9)) := fs ▸ n3
          exact this)
        refine ⟨e', ?_, m2, m3⟩
        rw [am_b62_38, if_neg w1, k1, be_bi, am_b62_48]
        simp (disch := (first | assumption | omega | exact (be_gB _ _ _).1 | exact (be_gB _ _ _).2)) only [↓reduceIte, be_ofI, ↓be_ofN, ↓be_0, be_add, be_sub, be_mul, be_neg, be_rem, be_bi, be_bl, be_bv, be_br, be_bE0, be_bE1, be_b1E, be_b0E, be_bkb, be_cast, Int.toNat_natCast, Int.reduceToNat, be_lt, be_le, be_eq, be_nt, be_ck, be_nz, be_bk, be_div, not_true_eq_false, not_false_eq_true, if_true, if_false, eq_self, Int.reduceEq, Int.reduceLT, Int.reduceLE, Bool.true_eq_false, Bool.false_eq_true, be_bT]
        exact l1.trans (n1.trans m1)
  obtain ⟨e', m1, m2, m3⟩ := key (5 ^ n) 0 0 am_un am_un am_un e2 (Nat.zero_add _) rfl (fun c j c1 c2 c3 => q2 c j c3) ⟨r33, r34, Int.le_refl (-1), (show (-1 : Int) ≤ 6 by decide), Int.le_refl (-1), (show (-1 : Int) ≤ 6000 by decide), Or.inl rfl⟩
  rw [bw_enum q (be_nr e) (by omega) (bw_F e) (be_cl e) hF] at m3
  refine ⟨e', ?_, fun c j c1 c2 c3 c4 c5 c6 c7 c8 c9 => (m2 c j c2 c3 c9).trans (EL c j c1 c2 c3 c4 c5 c6 c7 c8 c9), m3⟩
  have p0 := pw n 0 0 1 (Nat.zero_add _) rfl rfl
  rw [am_s62, g1, be_bv, am_b62_4, p0, ← he2]
  exact m1
