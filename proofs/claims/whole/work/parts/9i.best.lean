/-! WAYS, 17: mend of the reference; best -/
variable {d : Nat} {X : am_X} {a : Nat → Nat → Nat → Int32} {b : Nat → Nat → Nat → Int64} {u : Nat → Nat} {e : Nat → Nat → Nat → Int32} {f : Nat → Nat → Nat → Int64}
theorem bw_erWT (hW : be_W e) (hT : be_T3 e) {r : Nat} (hr : r < 4) : be_W (bw_er e r) ∧ be_T3 (bw_er e r) := by
  obtain ⟨q1, q2⟩ := bw_erq hW hr
  have hW1 := hW.1
  have := (be_fsR (be_g e 50 1).toNat (by omega) r (by omega) false).1
  have hA : be_A e (bw_er e r) := ⟨fun c j h => q1 c j (by omega), fun j h => q1 50 j (by omega)⟩
  have q3 := q1 50 3 (by omega)
  exact ⟨be_A_W hA (by omega) (by omega) (by omega) (by omega) hW, (be_of_t (e := e) (e' := bw_er e r) (fun c j h => q1 _ _ (by omega)) (q1 _ _ (by omega)) (q1 _ _ (by omega))).2.2.2.2 hT⟩
theorem bw_mendR (hd : 8 ≤ d) (hW : be_W e) (hT : be_T3 e) : ∃ e', am_sem X d 74 [.inr (50, 0)] (am_sd a b u e f) = some (some (am_I (be_i (bw_md e (be_nr e)).2)), am_sd a b u e' f) ∧ bw_E e e' := by
  obtain ⟨d, rfl⟩ : ∃ q, d = q + 1 := ⟨d - 1, by omega⟩
  obtain ⟨nr, nr2⟩ := be_nrR hW
  have hW1 := hW.1
  have hp : 2 ^ be_nr e ≤ 2 ^ 4 := Nat.pow_le_pow_right (by decide) nr
  obtain ⟨e1, l1, l2, l3, -⟩ := bw_laid (X := X) (a := a) (b := b) (u := u) (e := e) (f := f) (d := d) (by omega) hW hT (e0 := e) (fun _ _ _ _ _ _ _ _ _ _ _ => rfl)
  have al := be_m71 (X := X) (a := a) (b := b) (u := u) (e := e1) (f := f) (d := d) (by omega) nr (by rw [bw_E0 l2, nr2])
  obtain ⟨e2, m1, m2, m3, m4, -⟩ := bw_countR (X := X) (a := a) (b := b) (u := u) (e := e) (f := f) (d := d) (e0 := e1) (by omega) hW l3 (bw_E0 l2) (S := 2 ^ be_nr e - 1) (by omega)
  have E2 := bw_E_45 m2 l2
  obtain ⟨F, hF⟩ := be_0le hW1.2.2.1
  have key : ∀ (m r : Nat) (z : Int) (z5 : am_V) (e3 : Nat → Nat → Nat → Int32), r + m = be_nr e → z = (r : Int) → bw_E e e3 → 0 ≤ (bw_md e r).1 → (bw_md e r).1 ≤ 6 →
      ∃ e', am_fix (am_sem X d) X am_P74 24 [.inr (50, 0), am_I (be_i ((bw_md e r).1)), am_I (be_i ((bw_md e r).2)), am_I (be_i ((F : Int))), am_I (be_i (z)), z5] [] (am_sd a b u e3 f) = some (some (am_I (be_i (bw_md e (be_nr e)).2)), am_sd a b u e' f) ∧ bw_E e e' := by
    intro m
    induction m with
    | zero =>
      rintro r z z5 e3 hr rfl hE h3 h4
      obtain rfl : r = be_nr e := hr
      refine ⟨e3, ?_, hE⟩
      have q0 : e3 50 0 0 = be_i (be_nr e : Int) := by rw [be_gI e3, bw_E0 hE, nr2]
      rw [am_b74_24, q0, if_pos Int32.le_rfl]
    | succ m ih =>
      rintro r z z5 e3 hr rfl hE h3 h4
      have q0 : e3 50 0 0 = be_i (be_nr e : Int) := by rw [be_gI e3, bw_E0 hE, nr2]
      have w1 : ¬ be_i (be_nr e : Int) ≤ be_i (r : Int) := by rw [be_le (by omega) (by omega) (by omega) (by omega)]; omega
      obtain ⟨er1, er2⟩ := bw_erq hW (r := r) (by omega)
      obtain ⟨y1, y2⟩ := bw_erWT hW hT (r := r) (by omega)
      obtain ⟨nr', nr2'⟩ := be_nrR y1
      have nrE : be_nr (bw_er e r) = be_nr e := by unfold be_nr; rw [er1 _ _ (by omega)]
      obtain ⟨e4, he4⟩ : ∃ e4, e4 = am_w3 e3 50 0 1 (be_i (be_fs F r false : Int)) := ⟨_, rfl⟩
      have fs := (be_fsR F (by omega) r (by omega) false).1
      have q4 : ∀ c j, ¬ (c = 50 ∧ j = 1) → be_g e4 c j = be_g e3 c j := fun c j hc => by rw [he4]; exact be_gn _ _ _ _ _ _ _ (by omega)
      have r4 : be_g e4 50 1 = (be_fs F r false : Int) := by rw [he4, be_gw _ _ _ _ _ (by omega) (by omega), if_pos ⟨rfl, rfl⟩]
      have E4 : bw_E (bw_er e r) e4 := fun c j c1 c2 c3 c4 c5 c6 c7 c8 c9 => by
        by_cases hc : c = 50 ∧ j = 1
        · rw [hc.1, hc.2, r4, er2, hF, Int.toNat_natCast]
        · rw [q4 c j hc, er1 c j hc]; exact hE c j c1 c2 c3 c4 c5 c6 c7 c8 c9
      obtain ⟨e5, k1, k2, k3, -⟩ := bw_laid (X := X) (a := a) (b := b) (u := u) (e := bw_er e r) (f := f) (d := d) (by omega) y1 y2 (e0 := e4) E4
      have al5 := be_m71 (X := X) (a := a) (b := b) (u := u) (e := e5) (f := f) (d := d) (by omega) nr' (by rw [bw_E0 k2, nr2'])
      obtain ⟨e6, n1, n2, n3, n4, -⟩ := bw_countR (X := X) (a := a) (b := b) (u := u) (e := bw_er e r) (f := f) (d := d) (e0 := e5) (by omega) y1 k3 (bw_E0 k2) (S := 2 ^ be_nr (bw_er e r) - 1) (by rw [nrE]; omega)
      have hV : bw_Mx (be_nh (bw_er e r)) (bw_AH (bw_er e r) (2 ^ be_nr (bw_er e r) - 1)) (be_cl (bw_er e r)) = bw_V e r := rfl
      rw [hV] at n1 n3
      obtain ⟨e7, he7⟩ : ∃ e7, e7 = am_w3 e6 50 0 1 (be_i (F : Int)) := ⟨_, rfl⟩
      have q7 : ∀ c j, ¬ (c = 50 ∧ j = 1) → be_g e7 c j = be_g e6 c j := fun c j hc => by rw [he7]; exact be_gn _ _ _ _ _ _ _ (by omega)
      have r7 : be_g e7 50 1 = (F : Int) := by rw [he7, be_gw _ _ _ _ _ (by omega) (by omega), if_pos ⟨rfl, rfl⟩]
      have E6 := bw_E_45 n2 k2
      have E7 : bw_E e e7 := fun c j c1 c2 c3 c4 c5 c6 c7 c8 c9 => by
        by_cases hc : c = 50 ∧ j = 1
        · rw [hc.1, hc.2, r7, hF]
        · rw [q7 c j hc, E6 c j c1 c2 c3 c4 c5 c6 c7 c8 c9, er1 c j hc]
      have hs : bw_md e (r + 1) = if (bw_md e r).1 < (bw_V e r : Int) then ((bw_V e r : Int), (r : Int)) else bw_md e r := rfl
      have head : am_fix (am_sem X d) X am_P74 24 [.inr (50, 0), am_I (be_i ((bw_md e r).1)), am_I (be_i ((bw_md e r).2)), am_I (be_i ((F : Int))), am_I (be_i ((r : Int))), z5] [] (am_sd a b u e3 f) = am_fix (am_sem X d) X am_P74 57 [.inr (50, 0), am_I (be_i ((bw_md e r).1)), am_I (be_i ((bw_md e r).2)), am_I (be_i ((F : Int))), am_I (be_i ((r : Int))), z5] [am_I (be_i ((bw_V e r : Int)))] (am_sd a b u e6 f) := by
        rw [am_b74_24, q0, if_neg w1, be_31, be_fs0 F (by omega) r (by omega), ← he4, k1, be_bv, am_b74_49, al5, be_bi, am_b74_54, n1, be_bi]
      rw [head, am_b74_57, ← he7, be_add]
      by_cases hlt : (bw_md e r).1 < (bw_V e r : Int)
      · rw [if_pos hlt] at hs
        have g := ih (r + 1) ((r : Int) + 1) (am_I (be_i (bw_V e r : Int))) e7 (by omega) (by omega) E7 (by rw [hs]; dsimp only; omega) (by rw [hs]; dsimp only; omega)
        rw [hs] at g
        rw [if_pos (by rw [be_lt (by omega) (by omega) (by omega) (by omega)]; omega)]
        exact g
      · rw [if_neg hlt] at hs
        have g := ih (r + 1) ((r : Int) + 1) (am_I (be_i (bw_V e r : Int))) e7 (by omega) (by omega) E7 (by rw [hs]; exact h3) (by rw [hs]; exact h4)
        rw [hs] at g
        rw [if_neg (by rw [be_lt (by omega) (by omega) (by omega) (by omega)]; omega)]
        exact g
  obtain ⟨e', g1, g2⟩ := key (be_nr e) 0 0 am_un e2 (Nat.zero_add _) rfl E2 (by rw [bw_md]; dsimp only; omega) (by rw [bw_md]; dsimp only; omega)
  refine ⟨e', ?_, g2⟩
  have q1 : e2 50 0 1 = be_i (F : Int) := by rw [be_gI e2, E2 50 1 (by decide) (by decide) (by decide) (by decide) (by decide) (by decide) (by decide) (by decide) (by omega), hF]
  rw [am_s74, l1, be_bv, am_b74_4, al, be_bi, am_b74_9, m1, be_bi, am_b74_12, q1]
  exact g1
theorem be_cbest (hd : 20 ≤ d) (hI : be_IV a b u e f) {x : Int} (hx1 : -2147483648 ≤ x) (hx2 : x < 2147483648) : be_C X d 223 75 [am_I (be_i (x))] a b u e f := by
  obtain ⟨d, rfl⟩ : ∃ q, d = q + 1 := ⟨d - 1, by omega⟩
  obtain ⟨hW, hW2, hT, hh, hD, hth, hX⟩ := hI.1
  have toRA : ∀ {e'}, bw_E e e' → be_RA e e' := fun hE c j hc => hE c j (by omega) (by omega) (by omega) (by omega) (by omega) (by omega) (by omega) (by omega) (by omega)
  by_cases h0 : x = 0
  · subst h0
    obtain ⟨a', b', B, g1, g2, g3, g4, g5, g6⟩ := bw_roomyC (X := X) (a := a) (b := b) (u := u) (e := e) (f := f) (d := d) (by omega) hI rfl rfl
    obtain ⟨e', B', k1, k2, k4, k5, k6⟩ := bw_roomyR (X := X) (a := a') (b := b') (u := u) (e := e) (f := f) (d := d) (by omega) hW hT rfl rfl
    have hB : B = B' := bw_le_u (G := fun s => bw_Mx (be_nh e) (bw_AH e s) (be_cl e) = bw_Mx (be_nh e) (bw_AH e (2 ^ be_nr e - 1)) (be_cl e)) ⟨g4, g5⟩ ⟨k4, k5⟩ g6 k6
    rw [← hB] at k1
    refine ⟨be_i (B : Int), a', b', u, e', f, ?_, ?_, be_RA_IV (toRA k2) (fun _ => rfl) (be_IV_q hI (fun c k j c1 c2 c3 c4 c5 hn => g2 c k j c1 c2 c3 c4 c5) (be_NM_t hI.2.1 (fun k => g2 _ _ _ (by decide) (by decide) (by decide) (by decide) (by decide)) (fun k => g2 _ _ _ (by decide) (by decide) (by decide) (by decide) (by decide))) (fun k j => g3 _ _ _ (by decide)) (fun r hr => by rw [g3 _ _ _ (by decide)]; exact hI.2.2.2.2.2.2.2.1 r hr) (fun _ _ => rfl))⟩
    · rw [am_s223, if_pos rfl, g1, be_bi, am_b223_32]
    · rw [am_s75, if_pos rfl, k1, be_bi, am_b75_32]
  · have n0 : ¬ be_i x = be_i 0 := by rw [be_eq hx1 hx2 (by decide) (by decide)]; exact h0
    by_cases h1 : x = 1
    · subst h1
      obtain ⟨a', b', u', g1, g2⟩ := bw_moreC (X := X) (a := a) (b := b) (u := u) (e := e) (f := f) (d := d) (by omega) hI
      obtain ⟨e', k1, k2⟩ := bw_moreR (X := X) (a := a') (b := b') (u := u') (e := e) (f := f) (d := d) (by omega) hW hT
      refine ⟨be_i ((bw_Mx (be_nh e) (bw_A5 e) (be_cl e) : Int) - (bw_Mx (be_nh e) (bw_AH e (2 ^ be_nr e - 1)) (be_cl e) : Int)), a', b', u', e', f, ?_, ?_, be_RA_IV (toRA k2) (fun _ => rfl) g2⟩
      · rw [am_s223, if_neg n0, if_pos rfl, g1, be_bi, am_b223_37]
      · rw [am_s75, if_neg n0, if_pos rfl, k1, be_bi, am_b75_37]
    · have n1 : ¬ be_i x = be_i 1 := by rw [be_eq hx1 hx2 (by decide) (by decide)]; exact h1
      by_cases h2 : x = 2
      · subst h2
        obtain ⟨a', b', u', g1, g2⟩ := bw_mendC (X := X) (a := a) (b := b) (u := u) (e := e) (f := f) (d := d) (by omega) hI
        obtain ⟨e', k1, k2⟩ := bw_mendR (X := X) (a := a') (b := b') (u := u') (e := e) (f := f) (d := d) (by omega) hW hT
        refine ⟨be_i (bw_md e (be_nr e)).2, a', b', u', e', f, ?_, ?_, be_RA_IV (toRA k2) (fun _ => rfl) g2⟩
        · rw [am_s223, if_neg n0, if_neg n1, if_pos rfl, g1, be_bi, am_b223_42]
        · rw [am_s75, if_neg n0, if_neg n1, if_pos rfl, k1, be_bi, am_b75_42]
      · have n2 : ¬ be_i x = be_i 2 := by rw [be_eq hx1 hx2 (by decide) (by decide)]; exact h2
        refine be_Cp (v := be_i (-1)) hI ?_ ?_
        · rw [am_s223, if_neg n0, if_neg n1, if_neg n2]
        · rw [am_s75, if_neg n0, if_neg n1, if_neg n2]
