/-! THE OFFICE, 6: one, both, either -/
variable {d : Nat} {X : am_X} {a : Nat → Nat → Nat → Int32} {b : Nat → Nat → Nat → Int64} {u : Nat → Nat} {e : Nat → Nat → Nat → Int32} {f : Nat → Nat → Nat → Int64}
variable {n o q p z dd : Nat} {T : Nat → Int}
theorem bo_l9 {cs0 cs : List Int} {k : Nat} : cs0 ++ cs ++ List.replicate (k + 1) (-33) = cs0 ++ (cs ++ [-33]) ++ List.replicate k (-33) := by
  rw [List.replicate_succ, List.append_assoc, List.append_assoc, List.append_assoc, List.singleton_append]
theorem bo_pf1 {l : List Int} {r : Nat} (h : bo_pf r l = some (r + 1)) : bo_pf r (l ++ [-33]) = some (r + 1) := by
  rw [bo_pfa h, bo_pf, if_pos rfl, if_pos (by omega), bo_pf]
theorem bo_pf2 {l l' : List Int} {c : Int} (hc : c = -38 ∨ c = -124) {r : Nat} (h : bo_pf r l = some (r + 1)) (h' : bo_pf (r + 1) l' = some (r + 1 + 1)) : bo_pf r (l ++ l' ++ [c]) = some (r + 1) := by
  rw [List.append_assoc, bo_pfa h, bo_pfa h', bo_pf, if_neg (by omega), if_pos hc, if_pos (by omega), bo_pf]
  rfl
theorem bo_one (H1 : ∀ p', p < p' → bo_ONE X n T o p') (H3 : ∀ p', p < p' → bo_EITHER X n T o p') : bo_ONE X n T o p := by
  intro d a b u e f z dd hdd hd ho h
  have hpn := h.2.2.2.2.1
  have hzp := h.2.2.2.2.2
  have hn := h.1.1.1
  obtain ⟨d, rfl⟩ : ∃ q, d = q + 1 := ⟨d - 1, by omega⟩
  by_cases h4 : dd = 4
  · subst h4
    have c4 : be_i 4 ≤ be_i ((4 : Nat) : Int) := by decide
    have := bo_tail (X := X) (b := b) (u := u) (e := e) (f := f) (d := d) (dd := 4) (by omega) ho hdd h (by omega) (x1 := be_i ((4 : Nat) : Int))
    obtain ⟨a', g1, g2⟩ := this
    refine ⟨a', ?_, g2⟩
    rw [am_s178, if_pos c4, if_pos c4, g1]
  · have c4 : ¬ be_i 4 ≤ be_i (dd : Int) := by rw [be_le (by omega) (by omega) (by omega) (by omega)]; omega
    by_cases h33 : T p = 33
    · have l0 := bo_Tn h.1.1 (k := p) (by omega)
      have k1 := bo_adv h (by omega)
      obtain ⟨a1, g1, g2⟩ := H1 (p + 1) (by omega) (d := d) (b := b) (u := u) (e := e) (f := f) (dd := dd + 1) (by omega) (by omega) ho k1.1
      have head : ∀ {τ : am_R}, am_fix (am_sem X d) X am_P178 21 [.inr (4, 0), am_I (be_i ((dd : Int))), am_un, am_un] [] (am_sd a1 b u e f) = τ → am_sem X (d + 1) 178 [.inr (4, 0), am_I (be_i ((dd : Int)))] (am_sd a b u e f) = τ := by
        intro τ hτ
        rw [am_s178, if_neg c4, bo_171y (by omega) h h33, be_bi, am_b178_11, if_neg (by decide), be_add]
        rw [show ((dd : Int) + 1) = ((dd + 1 : Nat) : Int) from rfl, g1, be_bv, hτ]
      obtain ⟨d, rfl⟩ : ∃ q, d = q + 1 := ⟨d - 1, by omega⟩
      rcases g2 with ⟨q, cs, o1, o2, o3, o4, o5, o6, o7⟩ | ⟨q, o1, o2, o3⟩
      · obtain ⟨a2, w1, w2, w3, w4⟩ := bo_160 (X := X) (b := b) (u := u) (e := e) (f := f) (d := d + 1) (by omega) o1 (by omega) (be_i (-1))
        refine ⟨a2, head ?_, Or.inl ⟨q, cs ++ [-33], ?_, bo_Et (bo_Et k1.2 o2 (Nat.le_refl _)) w3 (by omega), bo_aca.2 ⟨bo_acc (fun j h1 h2 => ?_) o3, w4.trans (congrArg be_i (by decide : (-1 : Int) = be_enc (-33))), trivial⟩, ?_, by omega, fun r hr => bo_pf1 (o6 r (by omega)), ?_⟩⟩
        · rw [am_b178_21, ho, w1, be_bv, am_b178_29, am_b178_89]
        · rw [List.length_append]; exact w2
        · exact bo_Ee w3 (by omega)
        · rw [List.length_append]; show p + (cs.length + 1) ≤ q; omega
        · intro d a b u f e0 e s0 x st cs0 z3 q1 q2 q3 q4 q5 q6 q7
          obtain ⟨e1, z1, r1, r2⟩ := bo_wopen (X := X) (a := a) (b := b) (u := u) (f := f) (d := d) (z3 := z3) (by omega) q3 (Or.inl h33) q5 hpn q7 (by omega) (by omega)
          rw [h33] at r2
          obtain ⟨e2, z2, r3, r4⟩ := o7 (a := a) (b := b) (u := u) (f := f) (z3 := z1) q1 q2 q3 trivial r2 (by rw [List.length_cons]; omega) (by rw [List.length_cons]; omega)
          refine ⟨e2, z2, r1.trans r3, ?_⟩
          rw [bo_nt, if_pos rfl, bo_dr, if_pos rfl, bo_l9] at r4
          rw [show ((dd + 1 : Nat) : Int) - ((bo_nt st + 1 : Nat) : Int) = (dd : Int) - (bo_nt st : Int) by omega] at r4
          exact r4
      · obtain ⟨a2, w1, w2, w3⟩ := bo_160f (X := X) (b := b) (u := u) (e := e) (f := f) (d := d + 1) (by omega) o1 (be_i (-1))
        refine ⟨a2, head ?_, Or.inr ⟨q, w2, bo_Et (bo_Et (bo_E0 k1.2) o2 (Nat.le_refl _)) w3 (Nat.le_refl _), ?_⟩⟩
        · rw [am_b178_21, ho, w1, be_bv, am_b178_29, am_b178_89]
        · intro d a b u f e0 e s0 x st cs0 z3 q1 q2 q3 q4 q5 q6 q7
          obtain ⟨e1, z1, r1, r2⟩ := bo_wopen (X := X) (a := a) (b := b) (u := u) (f := f) (d := d) (z3 := z3) (by omega) q3 (Or.inl h33) q5 hpn q7 (by omega) (by omega)
          rw [h33] at r2
          obtain ⟨e2, r3, r4⟩ := o3 (a := a) (b := b) (u := u) (f := f) (z3 := z1) q1 q2 q3 trivial r2 (by rw [List.length_cons]; omega) (by rw [List.length_cons]; omega)
          exact ⟨e2, r1.trans r3, r4⟩
    · have s33 := bo_171n (X := X) (b := b) (u := u) (e := e) (f := f) (d := d) (by omega) h (x := 33) (by omega) (by omega) h33
      by_cases h40 : T p = 40
      · have l0 := bo_Tn h.1.1 (k := p) (by omega)
        have k1 := bo_adv h (by omega)
        obtain ⟨a1, g1, g2⟩ := H3 (p + 1) (by omega) (d := d) (b := b) (u := u) (e := e) (f := f) (dd := dd + 1) (by omega) (by omega) ho k1.1
        have head : ∀ {τ : am_R}, am_fix (am_sem X d) X am_P178 53 [.inr (4, 0), am_I (be_i ((dd : Int))), am_un, am_un] [] (am_sd a1 b u e f) = τ → am_sem X (d + 1) 178 [.inr (4, 0), am_I (be_i ((dd : Int)))] (am_sd a b u e f) = τ := by
          intro τ hτ
          rw [am_s178, if_neg c4, s33, be_bi, am_b178_11, if_pos be_0.symm, if_neg c4, bo_171y (by omega) h h40, be_bi, am_b178_43, if_neg (by decide), be_add]
          rw [show ((dd : Int) + 1) = ((dd + 1 : Nat) : Int) from rfl, g1, be_bv, hτ]
        rcases g2 with ⟨q, cs, ⟨o1, o2, o3, o4, o5, o6, o7⟩, N1, N2⟩ | ⟨q, o1, o2, o3⟩
        · by_cases h41 : T q = 41
          · have l1 := bo_Tn h.1.1 (k := q) (by omega)
            have k2 := bo_adv o1 (by omega)
            refine ⟨_, head ?_, Or.inl ⟨q + 1, cs, k2.1, bo_Et (bo_Et k1.2 o2 (Nat.le_refl _)) k2.2 (by omega), bo_acc (fun j h1 h2 => bo_Ee k2.2 (by omega)) o3, by omega, by omega, fun r hr => o6 r (by omega), ?_⟩⟩
            · rw [am_b178_53, bo_172y (by omega) o1 h41, be_bv, am_b178_59, am_b178_89]
            · intro d a b u f e0 e s0 x st cs0 z3 q1 q2 q3 q4 q5 q6 q7
              obtain ⟨e1, z1, r1, r2⟩ := bo_wopen (X := X) (a := a) (b := b) (u := u) (f := f) (d := d) (z3 := z3) (by omega) q3 (Or.inr h40) q5 hpn q7 (by omega) (by omega)
              rw [h40] at r2
              obtain ⟨e2, z2, r3, r4⟩ := o7 (a := a) (b := b) (u := u) (f := f) (z3 := z1) q1 q2 q3 (fun c r hs => by cases hs; omega) r2 (by rw [List.length_cons]; omega) (by rw [List.length_cons]; omega)
              rw [bo_nt, if_neg (by decide), bo_dr, if_neg (by decide), List.replicate_zero, List.append_nil] at r4
              obtain ⟨e3, z4, r5, r6⟩ := bo_gclose (X := X) (a := a) (b := b) (u := u) (f := f) (d := d) (z3 := z2) q1 q2 q3 h41 r4 o1.2.2.2.2.1 (by rw [List.length_append]; omega) (by omega) (by omega) (by omega)
              refine ⟨e3, z4, r1.trans (r3.trans r5), ?_⟩
              rw [show ((dd + 1 : Nat) : Int) - ((0 : Nat) : Int) - 1 - (bo_nt st : Int) = (dd : Int) - (bo_nt st : Int) by omega] at r6
              exact r6
          · refine ⟨_, head ?_, Or.inr ⟨q, bo_failK o1, bo_Et (bo_E0 (bo_Et k1.2 o2 (Nat.le_refl _))) bo_Ef (Nat.le_refl _), ?_⟩⟩
            · rw [am_b178_53, bo_172n (by omega) o1 (by omega) (by omega) h41, be_bv, am_b178_59, am_b178_89]
            · intro d a b u f e0 e s0 x st cs0 z3 q1 q2 q3 q4 q5 q6 q7
              obtain ⟨e1, z1, r1, r2⟩ := bo_wopen (X := X) (a := a) (b := b) (u := u) (f := f) (d := d) (z3 := z3) (by omega) q3 (Or.inr h40) q5 hpn q7 (by omega) (by omega)
              rw [h40] at r2
              obtain ⟨e2, z2, r3, r4⟩ := o7 (a := a) (b := b) (u := u) (f := f) (z3 := z1) q1 q2 q3 (fun c r hs => by cases hs; omega) r2 (by rw [List.length_cons]; omega) (by rw [List.length_cons]; omega)
              rw [bo_nt, if_neg (by decide), bo_dr, if_neg (by decide), List.replicate_zero, List.append_nil] at r4
              obtain ⟨e3, r5, r6⟩ := bo_gbad (X := X) (a := a) (b := b) (u := u) (f := f) (d := d) (z3 := z2) (by omega) q2 q3 ⟨N1, N2, h41⟩ r4 o1.2.2.2.2.1 (by omega)
              exact ⟨e3, r1.trans (r3.trans r5), r6⟩
        · refine ⟨_, head ?_, Or.inr ⟨q, bo_failF o1, bo_Et (bo_Et (bo_E0 k1.2) o2 (Nat.le_refl _)) bo_Ef (Nat.le_refl _), ?_⟩⟩
          · rw [am_b178_53, bo_172f (by omega) o1 (by omega) (by omega), be_bv, am_b178_59, am_b178_89]
          · intro d a b u f e0 e s0 x st cs0 z3 q1 q2 q3 q4 q5 q6 q7
            obtain ⟨e1, z1, r1, r2⟩ := bo_wopen (X := X) (a := a) (b := b) (u := u) (f := f) (d := d) (z3 := z3) (by omega) q3 (Or.inr h40) q5 hpn q7 (by omega) (by omega)
            rw [h40] at r2
            obtain ⟨e2, r3, r4⟩ := o3 (a := a) (b := b) (u := u) (f := f) (z3 := z1) q1 q2 q3 (fun c r hs => by cases hs; omega) r2 (by rw [List.length_cons]; omega) (by rw [List.length_cons]; omega)
            exact ⟨e2, r1.trans r3, r4⟩
      · obtain ⟨a', g1, g2⟩ := bo_tail (X := X) (b := b) (u := u) (e := e) (f := f) (d := d) (dd := dd) (by omega) ho hdd h (Or.inl ⟨h33, h40⟩) (x1 := be_i (dd : Int))
        refine ⟨a', ?_, g2⟩
        rw [am_s178, if_neg c4, s33, be_bi, am_b178_11, if_pos be_0.symm, if_neg c4, bo_171n (by omega) h (by omega) (by omega) h40, be_bi, am_b178_43, if_pos be_0.symm, g1]
/-- the loop of both -/
theorem bo_loop2 (H : ∀ p', p < p' → bo_ONE X n T o p') (hd : 22 ≤ d + 3 * dd) (hdd : dd ≤ 4) (ho : u 1 = o) (hzp : z ≤ p) : ∀ (m q k : Nat) (cs : List Int) (a1 : Nat → Nat → Nat → Int32), n ≤ q + m → k < q → bo_OK X a a1 n T o p z dd q cs bo_P2 (2 * (4 - dd) + 1) →
    ∃ a', am_fix (am_sem X d) X am_P177 7 [.inr (4, 0), am_I (be_i ((dd : Int))), am_I (be_i ((k : Int)))] [] (am_sd a1 b u e f) = some (none, am_sd a' b u e f) ∧ ((∃ q cs, bo_OK X a a' n T o p z dd q cs bo_P2 (2 * (4 - dd) + 1) ∧ T q ≠ 38) ∨ ∃ q, bo_NO X a a' n T o p dd q bo_P2) := by
  intro m
  induction m with
  | zero =>
    intro q k cs a1 hm hk ⟨o1, o2, o3, o4, o5, o6, o7⟩
    have hn := o1.1.1.1
    have hqn := o1.2.2.2.2.1
    have hT : T q = -1 := o1.1.1.2.2 q (by omega)
    refine ⟨a1, ?_, Or.inl ⟨q, cs, ⟨o1, o2, o3, o4, o5, o6, o7⟩, by omega⟩⟩
    rw [am_b177_7, if_neg (by rw [be_le (by omega) (by omega) (by omega) (by omega)]; omega), bo_171n (by omega) o1 (by omega) (by omega) (by omega), be_bi, am_b177_19, if_pos be_0.symm]
  | succ m ih =>
    intro q k cs a1 hm hk ⟨o1, o2, o3, o4, o5, o6, o7⟩
    have hn := o1.1.1.1
    have hqn := o1.2.2.2.2.1
    by_cases hT : T q = 38
    · have l0 := bo_Tn o1.1.1 (k := q) (by omega)
      have k1 := bo_adv o1 (by omega)
      obtain ⟨a2, g1, g2⟩ := H (q + 1) (by omega) (d := d) (b := b) (u := u) (e := e) (f := f) (dd := dd) hdd (by omega) ho k1.1
      have head : ∀ {τ : am_R}, am_fix (am_sem X d) X am_P177 27 [.inr (4, 0), am_I (be_i ((dd : Int))), am_I (be_i ((k : Int)))] [] (am_sd a2 b u e f) = τ → am_fix (am_sem X d) X am_P177 7 [.inr (4, 0), am_I (be_i ((dd : Int))), am_I (be_i ((k : Int)))] [] (am_sd a1 b u e f) = τ := by
        intro τ hτ
        rw [am_b177_7, if_neg (by rw [be_le (by omega) (by omega) (by omega) (by omega)]; omega), bo_171y (by omega) o1 hT, be_bi, am_b177_19, if_neg (by decide), g1, be_bv, hτ]
      rcases g2 with ⟨q', cs', p1, p2, p3, p4, p5, p6, p7⟩ | ⟨q', p1, p2, p3⟩
      · have hK := p1.2.2.2.2
        obtain ⟨a3, w1, w2, w3, w4⟩ := bo_160 (X := X) (b := b) (u := u) (e := e) (f := f) (d := d) (by omega) p1 (by omega) (be_i (-2))
        have hlen : (cs ++ cs' ++ [-38]).length = cs.length + cs'.length + 1 := by rw [List.length_append, List.length_append]; rfl
        have E1 := bo_Et o2 (bo_Et k1.2 p2 (Nat.le_refl _)) (by omega)
        have RO' : bo_RO X n T p dd q' (cs ++ cs' ++ [-38]) bo_P2 := by
          intro d a b u f e0 e s0 x st cs0 z3 q1 q2 q3 q4 q5 q6 q7
          have hnt := bo_nt0 (st := st) (fun c r hs => (q4 c r hs).1)
          obtain ⟨e1, z1, r1, r2⟩ := o7 (a := a) (b := b) (u := u) (f := f) (z3 := z3) q1 q2 q3 q4 q5 q6 q7
          rw [hnt.1, hnt.2, List.replicate_zero, List.append_nil, show (dd : Int) - ((0 : Nat) : Int) = (dd : Int) by omega] at r2
          obtain ⟨e2, z2, r3, r4⟩ := bo_gpush (X := X) (a := a) (b := b) (u := u) (f := f) (d := d) (z3 := z1) (by omega) q3 (by omega) r2 hqn (fun c r hs => by have := q4 c r hs; omega) (by omega)
          rw [hT] at r4
          obtain ⟨e3, z4, r5, r6⟩ := p7 (a := a) (b := b) (u := u) (f := f) (z3 := z2) q1 q2 q3 (trivial) r4 (by rw [List.length_cons, List.length_append]; omega) (by rw [List.length_cons]; omega)
          rw [bo_nt, if_neg (by decide), bo_dr, if_neg (by decide), List.replicate_zero, List.append_nil, show (dd : Int) - ((0 : Nat) : Int) = (dd : Int) by omega] at r6
          obtain ⟨e4, r7, r8⟩ := bo_gpop (X := X) (a := a) (b := b) (u := u) (f := f) (d := d) (z3 := z4) (by omega) q3 (c := 38) (by omega) r6 p1.2.2.2.2.1 (by rw [List.length_append, List.length_append]; omega) (by omega)
          refine ⟨e4, z4, r1.trans (r3.trans (r5.trans r7)), ?_⟩
          rw [hnt.1, hnt.2, List.replicate_zero, List.append_nil, show (dd : Int) - ((0 : Nat) : Int) = (dd : Int) by omega]
          rw [List.append_assoc, List.append_assoc] at r8
          rw [List.append_assoc]
          exact r8
        obtain ⟨a', j1, j2⟩ := ih q' (k + 1) (cs ++ cs' ++ [-38]) a3 (by omega) (by omega) ⟨by rw [hlen, show z + (cs.length + cs'.length + 1) = z + cs.length + cs'.length + 1 by omega]; exact w2, bo_Et E1 w3 (by omega), bo_aca.2 ⟨bo_aca.2 ⟨bo_acc (fun j h1 h2 => (bo_Ee w3 (by omega)).trans ((bo_Ee p2 (by omega)).trans (bo_Ee k1.2 (by omega)))) o3, bo_acc (fun j h1 h2 => bo_Ee w3 (by omega)) p3⟩, by rw [List.length_append, show z + (cs.length + cs'.length) = z + cs.length + cs'.length by omega]; exact w4.trans (congrArg be_i (by decide : (-2 : Int) = be_enc (-38))), trivial⟩, by rw [hlen]; omega, by omega, fun r hr => bo_pf2 (by omega) (o6 r (by omega)) (p6 (r + 1) (by omega)), RO'⟩
        refine ⟨a', head ?_, j2⟩
        rw [am_b177_27, ho, w1, be_bv, am_b177_36, be_add]
        exact j1
      · obtain ⟨a3, w1, w2, w3⟩ := bo_160f (X := X) (b := b) (u := u) (e := e) (f := f) (d := d) (by omega) p1 (be_i (-2))
        refine ⟨a3, head ?_, Or.inr ⟨q', w2, bo_Et (bo_Et (bo_E0 (bo_Et o2 k1.2 (by omega))) p2 (Nat.le_refl _)) w3 (Nat.le_refl _), ?_⟩⟩
        · rw [am_b177_27, ho, w1, be_bv, am_b177_36, bo_l2f (by omega) w2]
        · intro d a b u f e0 e s0 x st cs0 z3 q1 q2 q3 q4 q5 q6 q7
          have hnt := bo_nt0 (st := st) (fun c r hs => (q4 c r hs).1)
          obtain ⟨e1, z1, r1, r2⟩ := o7 (a := a) (b := b) (u := u) (f := f) (z3 := z3) q1 q2 q3 q4 q5 q6 q7
          rw [hnt.1, hnt.2, List.replicate_zero, List.append_nil, show (dd : Int) - ((0 : Nat) : Int) = (dd : Int) by omega] at r2
          obtain ⟨e2, z2, r3, r4⟩ := bo_gpush (X := X) (a := a) (b := b) (u := u) (f := f) (d := d) (z3 := z1) (by omega) q3 (by omega) r2 hqn (fun c r hs => by have := q4 c r hs; omega) (by omega)
          rw [hT] at r4
          obtain ⟨e3, r5, r6⟩ := p3 (a := a) (b := b) (u := u) (f := f) (z3 := z2) q1 q2 q3 (trivial) r4 (by rw [List.length_cons, List.length_append]; omega) (by rw [List.length_cons]; omega)
          exact ⟨e3, r1.trans (r3.trans r5), r6⟩
    · refine ⟨a1, ?_, Or.inl ⟨q, cs, ⟨o1, o2, o3, o4, o5, o6, o7⟩, hT⟩⟩
      rw [am_b177_7, if_neg (by rw [be_le (by omega) (by omega) (by omega) (by omega)]; omega), bo_171n (by omega) o1 (by omega) (by omega) hT, be_bi, am_b177_19, if_pos be_0.symm]
theorem bo_both (H0 : bo_ONE X n T o p) (H : ∀ p', p < p' → bo_ONE X n T o p') : bo_BOTH X n T o p := by
  intro d a b u e f z dd hdd hd ho h
  have hpn := h.2.2.2.2.1
  have hzp := h.2.2.2.2.2
  obtain ⟨d, rfl⟩ : ∃ q, d = q + 1 := ⟨d - 1, by omega⟩
  obtain ⟨a1, g1, g2⟩ := H0 (d := d) (b := b) (u := u) (e := e) (f := f) (dd := dd) hdd (by omega) ho h
  have head : ∀ {τ : am_R}, am_fix (am_sem X d) X am_P177 7 [.inr (4, 0), am_I (be_i ((dd : Int))), am_I (be_i (((0 : Nat) : Int)))] [] (am_sd a1 b u e f) = τ → am_sem X (d + 1) 177 [.inr (4, 0), am_I (be_i ((dd : Int)))] (am_sd a b u e f) = τ := by
    intro τ hτ
    rw [am_s177, g1, be_bv, am_b177_5]
    exact hτ
  rcases g2 with ⟨q, cs, o1, o2, o3, o4, o5, o6, o7⟩ | ⟨q, o1, o2, o3⟩
  · obtain ⟨a', j1, j2⟩ := bo_loop2 (X := X) (a := a) (b := b) (u := u) (e := e) (f := f) (d := d) H (by omega) hdd ho hzp (n - q) q 0 cs a1 (by omega) (by omega) ⟨o1, o2, o3, o4, o5, fun r hr => o6 r (by omega), fun q1 q2 q3 q4 => o7 q1 q2 q3 (trivial)⟩
    exact ⟨a', head j1, j2⟩
  · exact ⟨a1, head (bo_l2f (by omega) o1), Or.inr ⟨q, o1, o2, fun q1 q2 q3 q4 => o3 q1 q2 q3 (trivial)⟩⟩
/-- the loop of either -/
theorem bo_loop3 (H : ∀ p', p < p' → bo_BOTH X n T o p') (hd : 23 ≤ d + 3 * dd) (hdd : dd ≤ 4) (ho : u 1 = o) (hzp : z ≤ p) : ∀ (m q k : Nat) (cs : List Int) (a1 : Nat → Nat → Nat → Int32), n ≤ q + m → k < q → bo_OK X a a1 n T o p z dd q cs bo_P3 (2 * (4 - dd) + 2) → T q ≠ 38 →
    ∃ a', am_fix (am_sem X d) X am_P176 7 [.inr (4, 0), am_I (be_i ((dd : Int))), am_I (be_i ((k : Int)))] [] (am_sd a1 b u e f) = some (none, am_sd a' b u e f) ∧ ((∃ q cs, bo_OK X a a' n T o p z dd q cs bo_P3 (2 * (4 - dd) + 2) ∧ T q ≠ 38 ∧ T q ≠ 124) ∨ ∃ q, bo_NO X a a' n T o p dd q bo_P3) := by
  intro m
  induction m with
  | zero =>
    intro q k cs a1 hm hk ⟨o1, o2, o3, o4, o5, o6, o7⟩ hN
    have hn := o1.1.1.1
    have hqn := o1.2.2.2.2.1
    have hT : T q = -1 := o1.1.1.2.2 q (by omega)
    refine ⟨a1, ?_, Or.inl ⟨q, cs, ⟨o1, o2, o3, o4, o5, o6, o7⟩, hN, by omega⟩⟩
    rw [am_b176_7, if_neg (by rw [be_le (by omega) (by omega) (by omega) (by omega)]; omega), bo_171n (by omega) o1 (by omega) (by omega) (by omega), be_bi, am_b176_19, if_pos be_0.symm]
  | succ m ih =>
    intro q k cs a1 hm hk ⟨o1, o2, o3, o4, o5, o6, o7⟩ hN
    have hn := o1.1.1.1
    have hqn := o1.2.2.2.2.1
    by_cases hT : T q = 124
    · have l0 := bo_Tn o1.1.1 (k := q) (by omega)
      have k1 := bo_adv o1 (by omega)
      obtain ⟨a2, g1, g2⟩ := H (q + 1) (by omega) (d := d) (b := b) (u := u) (e := e) (f := f) (dd := dd) hdd (by omega) ho k1.1
      have head : ∀ {τ : am_R}, am_fix (am_sem X d) X am_P176 27 [.inr (4, 0), am_I (be_i ((dd : Int))), am_I (be_i ((k : Int)))] [] (am_sd a2 b u e f) = τ → am_fix (am_sem X d) X am_P176 7 [.inr (4, 0), am_I (be_i ((dd : Int))), am_I (be_i ((k : Int)))] [] (am_sd a1 b u e f) = τ := by
        intro τ hτ
        rw [am_b176_7, if_neg (by rw [be_le (by omega) (by omega) (by omega) (by omega)]; omega), bo_171y (by omega) o1 hT, be_bi, am_b176_19, if_neg (by decide), g1, be_bv, hτ]
      rcases g2 with ⟨q', cs', ⟨p1, p2, p3, p4, p5, p6, p7⟩, N1⟩ | ⟨q', p1, p2, p3⟩
      · have hK := p1.2.2.2.2
        obtain ⟨a3, w1, w2, w3, w4⟩ := bo_160 (X := X) (b := b) (u := u) (e := e) (f := f) (d := d) (by omega) p1 (by omega) (be_i (-3))
        have hlen : (cs ++ cs' ++ [-124]).length = cs.length + cs'.length + 1 := by rw [List.length_append, List.length_append]; rfl
        have E1 := bo_Et o2 (bo_Et k1.2 p2 (Nat.le_refl _)) (by omega)
        have RO' : bo_RO X n T p dd q' (cs ++ cs' ++ [-124]) bo_P3 := by
          intro d a b u f e0 e s0 x st cs0 z3 q1 q2 q3 q4 q5 q6 q7
          have hnt := bo_nt0 (st := st) (fun c r hs => (q4 c r hs).1)
          obtain ⟨e1, z1, r1, r2⟩ := o7 (a := a) (b := b) (u := u) (f := f) (z3 := z3) q1 q2 q3 q4 q5 q6 q7
          rw [hnt.1, hnt.2, List.replicate_zero, List.append_nil, show (dd : Int) - ((0 : Nat) : Int) = (dd : Int) by omega] at r2
          obtain ⟨e2, z2, r3, r4⟩ := bo_gpush (X := X) (a := a) (b := b) (u := u) (f := f) (d := d) (z3 := z1) (by omega) q3 (by omega) r2 hqn (fun c r hs => by have := q4 c r hs; omega) (by omega)
          rw [hT] at r4
          obtain ⟨e3, z4, r5, r6⟩ := p7 (a := a) (b := b) (u := u) (f := f) (z3 := z2) q1 q2 q3 (fun c r hs => by cases hs; omega) r4 (by rw [List.length_cons, List.length_append]; omega) (by rw [List.length_cons]; omega)
          rw [bo_nt, if_neg (by decide), bo_dr, if_neg (by decide), List.replicate_zero, List.append_nil, show (dd : Int) - ((0 : Nat) : Int) = (dd : Int) by omega] at r6
          obtain ⟨e4, r7, r8⟩ := bo_gpop (X := X) (a := a) (b := b) (u := u) (f := f) (d := d) (z3 := z4) (by omega) q3 (c := 124) (by omega) r6 p1.2.2.2.2.1 (by rw [List.length_append, List.length_append]; omega) (by omega)
          refine ⟨e4, z4, r1.trans (r3.trans (r5.trans r7)), ?_⟩
          rw [hnt.1, hnt.2, List.replicate_zero, List.append_nil, show (dd : Int) - ((0 : Nat) : Int) = (dd : Int) by omega]
          rw [List.append_assoc, List.append_assoc] at r8
          rw [List.append_assoc]
          exact r8
        obtain ⟨a', j1, j2⟩ := ih q' (k + 1) (cs ++ cs' ++ [-124]) a3 (by omega) (by omega) ⟨by rw [hlen, show z + (cs.length + cs'.length + 1) = z + cs.length + cs'.length + 1 by omega]; exact w2, bo_Et E1 w3 (by omega), bo_aca.2 ⟨bo_aca.2 ⟨bo_acc (fun j h1 h2 => (bo_Ee w3 (by omega)).trans ((bo_Ee p2 (by omega)).trans (bo_Ee k1.2 (by omega)))) o3, bo_acc (fun j h1 h2 => bo_Ee w3 (by omega)) p3⟩, by rw [List.length_append, show z + (cs.length + cs'.length) = z + cs.length + cs'.length by omega]; exact w4.trans (congrArg be_i (by decide : (-3 : Int) = be_enc (-124))), trivial⟩, by rw [hlen]; omega, by omega, fun r hr => bo_pf2 (by omega) (o6 r (by omega)) (p6 (r + 1) (by omega)), RO'⟩ N1
        refine ⟨a', head ?_, j2⟩
        rw [am_b176_27, ho, w1, be_bv, am_b176_36, be_add]
        exact j1
      · obtain ⟨a3, w1, w2, w3⟩ := bo_160f (X := X) (b := b) (u := u) (e := e) (f := f) (d := d) (by omega) p1 (be_i (-3))
        refine ⟨a3, head ?_, Or.inr ⟨q', w2, bo_Et (bo_Et (bo_E0 (bo_Et o2 k1.2 (by omega))) p2 (Nat.le_refl _)) w3 (Nat.le_refl _), ?_⟩⟩
        · rw [am_b176_27, ho, w1, be_bv, am_b176_36, bo_l3f (by omega) w2]
        · intro d a b u f e0 e s0 x st cs0 z3 q1 q2 q3 q4 q5 q6 q7
          have hnt := bo_nt0 (st := st) (fun c r hs => (q4 c r hs).1)
          obtain ⟨e1, z1, r1, r2⟩ := o7 (a := a) (b := b) (u := u) (f := f) (z3 := z3) q1 q2 q3 q4 q5 q6 q7
          rw [hnt.1, hnt.2, List.replicate_zero, List.append_nil, show (dd : Int) - ((0 : Nat) : Int) = (dd : Int) by omega] at r2
          obtain ⟨e2, z2, r3, r4⟩ := bo_gpush (X := X) (a := a) (b := b) (u := u) (f := f) (d := d) (z3 := z1) (by omega) q3 (by omega) r2 hqn (fun c r hs => by have := q4 c r hs; omega) (by omega)
          rw [hT] at r4
          obtain ⟨e3, r5, r6⟩ := p3 (a := a) (b := b) (u := u) (f := f) (z3 := z2) q1 q2 q3 (fun c r hs => by cases hs; omega) r4 (by rw [List.length_cons, List.length_append]; omega) (by rw [List.length_cons]; omega)
          exact ⟨e3, r1.trans (r3.trans r5), r6⟩
    · refine ⟨a1, ?_, Or.inl ⟨q, cs, ⟨o1, o2, o3, o4, o5, o6, o7⟩, hN, hT⟩⟩
      rw [am_b176_7, if_neg (by rw [be_le (by omega) (by omega) (by omega) (by omega)]; omega), bo_171n (by omega) o1 (by omega) (by omega) hT, be_bi, am_b176_19, if_pos be_0.symm]
theorem bo_either (H0 : bo_BOTH X n T o p) (H : ∀ p', p < p' → bo_BOTH X n T o p') : bo_EITHER X n T o p := by
  intro d a b u e f z dd hdd hd ho h
  have hpn := h.2.2.2.2.1
  have hzp := h.2.2.2.2.2
  obtain ⟨d, rfl⟩ : ∃ q, d = q + 1 := ⟨d - 1, by omega⟩
  obtain ⟨a1, g1, g2⟩ := H0 (d := d) (b := b) (u := u) (e := e) (f := f) (dd := dd) hdd (by omega) ho h
  have head : ∀ {τ : am_R}, am_fix (am_sem X d) X am_P176 7 [.inr (4, 0), am_I (be_i ((dd : Int))), am_I (be_i (((0 : Nat) : Int)))] [] (am_sd a1 b u e f) = τ → am_sem X (d + 1) 176 [.inr (4, 0), am_I (be_i ((dd : Int)))] (am_sd a b u e f) = τ := by
    intro τ hτ
    rw [am_s176, g1, be_bv, am_b176_5]
    exact hτ
  rcases g2 with ⟨q, cs, ⟨o1, o2, o3, o4, o5, o6, o7⟩, N1⟩ | ⟨q, o1, o2, o3⟩
  · obtain ⟨a', j1, j2⟩ := bo_loop3 (X := X) (a := a) (b := b) (u := u) (e := e) (f := f) (d := d) H (by omega) hdd ho hzp (n - q) q 0 cs a1 (by omega) (by omega) ⟨o1, o2, o3, o4, o5, fun r hr => o6 r (by omega), fun q1 q2 q3 q4 => o7 q1 q2 q3 (fun c r hs => ⟨(q4 c r hs).1, (q4 c r hs).2.1⟩)⟩ N1
    exact ⟨a', head j1, j2⟩
  · exact ⟨a1, head (bo_l3f (by omega) o1), Or.inr ⟨q, o1, o2, fun q1 q2 q3 q4 => o3 q1 q2 q3 (fun c r hs => ⟨(q4 c r hs).1, (q4 c r hs).2.1⟩)⟩⟩
theorem bo_all : ∀ (m p : Nat), n + 1 ≤ p + m → bo_ONE X n T o p ∧ bo_BOTH X n T o p ∧ bo_EITHER X n T o p := by
  intro m
  induction m with
  | zero =>
    intro p hp
    refine ⟨?_, ?_, ?_⟩
    all_goals (intro d a b u e f z dd _ _ _ h; have := h.2.2.2.2.1; omega)
  | succ m ih =>
    intro p hp
    have i1 : ∀ p', p < p' → bo_ONE X n T o p' := fun p' h => (ih p' (by omega)).1
    have i2 : ∀ p', p < p' → bo_BOTH X n T o p' := fun p' h => (ih p' (by omega)).2.1
    have i3 : ∀ p', p < p' → bo_EITHER X n T o p' := fun p' h => (ih p' (by omega)).2.2
    have h1 : bo_ONE X n T o p := @bo_one X n o p T i1 i3
    have h2 : bo_BOTH X n T o p := @bo_both X n o p T h1 i1
    exact ⟨h1, h2, @bo_either X n o p T h2 i2⟩
theorem bo_E3 : bo_EITHER X n T o p := (bo_all (n + 1) p (by omega)).2.2
