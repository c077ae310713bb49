/-! THE OFFICE, 15 -/
variable {d : Nat} {X : am_X} {a : Nat → Nat → Nat → Int32} {b : Nat → Nat → Nat → Int64} {u : Nat → Nat} {e : Nat → Nat → Nat → Int32} {f : Nat → Nat → Nat → Int64}
variable {F : Nat} {a' e' : Nat → Nat → Nat → Int32} {u' : Nat → Nat}
def bo_FE (e e' : Nat → Nat → Nat → Int32) (F : Nat) : Prop := ∀ c j, ¬ (c = 50 ∧ ((12 ≤ j ∧ j ≤ 16) ∨ j = 25 ∨ j = 26 ∨ j = 27)) → c ≠ 66 → ¬ (c = 60 ∧ j = F) → ¬ (61 ≤ c ∧ c ≤ 64 ∧ 10 * F ≤ j ∧ j < 10 * F + 10) → ¬ (c = 65 ∧ 100 * F ≤ j) → be_g e' c j = be_g e c j
def bo_FA (a a' : Nat → Nat → Nat → Int32) (o : Nat) : Prop := ∀ c i j, ¬ (c = 4 ∧ i = 0 ∧ (j = 1 ∨ j = 2 ∨ j = 3)) → ¬ (c = 3 ∧ i = o) → ¬ ((c = 14 ∨ c = 15 ∨ c = 16) ∧ i = o) → ¬ (c = 2 ∧ i = 0 ∧ j = 6) → ¬ (c = 9 ∧ i = 0 ∧ j = 5) → a' c i j = a c i j
theorem bo_FES (h : bo_FE e e' F) {f0 : Nat} (hf : f0 < F) : bo_SO e e' f0 :=
  ⟨h 60 f0 (by omega) (by omega) (by omega) (by omega) (by omega), fun c k h1 h2 h3 _ => h c _ (by omega) (by omega) (by omega) (by omega) (by omega), fun j hj => h 65 _ (by omega) (by omega) (by omega) (by omega) (by omega)⟩
theorem bo_FEH (h : bo_FE e e' F) : bo_HE e e' := fun c j hc => h c j (by omega) (by omega) (by omega) (by omega) (by omega)
theorem bo_FAH {o : Nat} (h : bo_FA a a' o) : bo_HA a a' := fun c i j hc => h c i j (by omega) (by omega) (by omega) (by omega) (by omega)
theorem bo_IVt (hI : be_IV a b u e f) (fe : bo_FE e e' F) (fa : bo_FA a a' (F + 1)) (hF : be_g e 50 12 = (F : Int)) (hF5 : F ≤ 5) (h14 : be_g e' 50 14 = 0) (h41 : a' 4 0 1 = be_i 0) (hbd : ∀ c, c < 60 → 0 ≤ be_g e' 61 c ∧ be_g e' 61 c ≤ 3 ∧ 0 ≤ be_g e' 62 c ∧ be_g e' 62 c ≤ 99) (hu2 : u' 2 = u 2) (hI1 : be_I1 a' u' 0 e') (h95 : a' 9 0 5 = be_i (be_g e' 50 12)) (h12 : be_g e' 50 12 = (F : Int) ∨ be_g e' 50 12 = (F : Int) + 1) (hnew : be_g e' 50 12 = (F : Int) + 1 → be_OF e' F ∧ be_OS a' (F + 1) e' F (be_nc e' F)) : be_IV a' b u' e' f := by
  have q : ∀ c j, ¬ (c = 50 ∧ ((12 ≤ j ∧ j ≤ 16) ∨ j = 25 ∨ j = 26 ∨ j = 27)) → c ≠ 66 → ¬ (c = 60 ∧ j = F) → ¬ (61 ≤ c ∧ c ≤ 64 ∧ 10 * F ≤ j ∧ j < 10 * F + 10) → ¬ (c = 65 ∧ 100 * F ≤ j) → be_g e' c j = be_g e c j := fe
  have qa : ∀ c i j, ¬ (c = 4 ∧ i = 0 ∧ (j = 1 ∨ j = 2 ∨ j = 3)) → ¬ (c = 3 ∧ i = F + 1) → ¬ ((c = 14 ∨ c = 15 ∨ c = 16) ∧ i = F + 1) → ¬ (c = 2 ∧ i = 0 ∧ j = 6) → ¬ (c = 9 ∧ i = 0 ∧ j = 5) → a' c i j = a c i j := fa
  obtain ⟨-, h2, h3, h4, h5, h6, h7, h8, h9⟩ := hI
  obtain ⟨g1, g2, g3, g4, g5, g6, g7, g8⟩ := h3
  refine ⟨hI1, ?_, ⟨h95, by omega, by omega, ?_, ?_, ?_, ?_, hbd⟩, ⟨?_, by omega, by omega, ?_, ?_⟩, ⟨?_, ?_⟩, ?_, ⟨?_, ?_⟩, h8, ?_⟩
  · intro i hi
    obtain ⟨n1, n2⟩ := h2 i hi
    exact ⟨fun h hh => (qa _ _ _ (by omega) (by omega) (by omega) (by omega) (by omega)).trans (n1 h hh), fun r hr => (qa _ _ _ (by omega) (by omega) (by omega) (by omega) (by omega)).trans (n2 r hr)⟩
  · intro f0 hf0
    by_cases hl : f0 < F
    · obtain ⟨o1, o2⟩ := g4 f0 (by omega)
      have hS := bo_FES fe hl
      have hnc : be_nc e' f0 = be_nc e f0 := by unfold be_nc; rw [hS.1]
      have hn : be_g e 60 f0 = ((be_nc e f0 : Nat) : Int) := by have := o1.1; unfold be_nc; omega
      have h10 : be_nc e f0 ≤ 10 := by have := o1.2.1; omega
      have hV := (bo_OFV hn h10).1 o1
      refine ⟨bo_SOOF hS o1, ?_⟩
      rw [hnc]
      exact bo_OSa (fun c i j hc => qa c i j (by omega) (by omega) (by omega) (by omega) (by omega)) (bo_SOOS hS.2 h10 (bo_VFpos hV _ (Nat.le_refl _)) o2)
    · obtain rfl : f0 = F := by omega
      exact hnew (by omega)
  · exact (qa _ _ _ (by omega) (by omega) (by omega) (by omega) (by omega)).trans g5
  · exact (qa _ _ _ (by omega) (by omega) (by omega) (by omega) (by omega)).trans g6
  · exact (qa _ _ _ (by omega) (by omega) (by omega) (by omega) (by omega)).trans g7
  · rw [h41, h14]
  · intro k hk; omega
  · intro k hk
    rw [q 67 k (by omega) (by omega) (by omega) (by omega) (by omega)]
    exact h4.2.2.2.2 k hk
  · rw [qa 9 0 2 (by omega) (by omega) (by omega) (by omega) (by omega), q 50 52 (by omega) (by omega) (by omega) (by omega) (by omega)]
    exact h5.1
  · rw [q 50 52 (by omega) (by omega) (by omega) (by omega) (by omega)]
    rcases h5.2 with h | ⟨h, hJ⟩
    · exact Or.inl h
    · refine Or.inr ⟨h, ?_⟩
      have him := bo_imE (e := e) (e' := e') (fun c j hc => q c j (by omega) (by omega) (by omega) (by omega) (by omega))
      have h13F : be_g (be_im e) 50 13 < (F : Int) := by
        have := hJ.2.2.2.2.2.1
        rw [bo_im12, hF] at this
        exact this
      have e13 := him 50 13 (by omega)
      refine bo_old hJ h13F hF5 (fun c j hc => him c j (by omega)) (bo_FAH fa) e13 ?_ (fun f0 hf => bo_imS (bo_FES fe hf)) ?_ (qa 2 1 6 (by omega) (by omega) (by omega) (by omega) (by omega)) (fun c o j hc ho => qa c o j (by omega) (by omega) (by omega) (by omega) (by omega)) hu2
      · rw [e13, bo_im12]; omega
      · intro c hc
        rw [bo_imO (by omega)]
        exact (hbd c hc).2.2
  · unfold be_I6
    simp (disch := omega) only [q, qa]
    exact h6
  · rw [qa _ _ _ (by omega) (by omega) (by omega) (by omega) (by omega), q 50 77 (by omega) (by omega) (by omega) (by omega) (by omega)]
    exact h7.1
  · rw [q 50 77 (by omega) (by omega) (by omega) (by omega) (by omega)]
    refine ⟨h7.2.1, h7.2.2.1, fun k hk1 hk2 => ?_⟩
    rw [qa _ _ _ (by omega) (by omega) (by omega) (by omega) (by omega), q 101 k (by omega) (by omega) (by omega) (by omega) (by omega)]
    exact h7.2.2.2 k hk1 hk2
  · exact be_t9 (fun c j hc => q c j (by omega) (by omega) (by omega) (by omega) (by omega)) h9
theorem be_coffice (hd : 60 ≤ d) (hI : be_IV a b u e f) : be_C X d 215 28 [] a b u e f := by
  have hI0 := hI
  obtain ⟨h1, h2, h3, h4, h5, h6, h7, h8, h9⟩ := hI
  obtain ⟨g1, g2, g3, g4, g5, g6, g7, g8⟩ := h3
  obtain ⟨l1, l2, l3, l4, l5⟩ := h4
  obtain ⟨d, rfl⟩ : ∃ q, d = q + 1 := ⟨d - 1, by omega⟩
  by_cases h66 : be_g e 50 12 = 6
  · refine be_Cp (v := be_i (-4)) hI0 ?_ ?_
    · rw [am_s215, if_neg (by rw [g1, h66]; decide)]
    · rw [am_s28, if_neg (by rw [bo_e h66]; exact fun h => h rfl)]
  obtain ⟨F, hF⟩ : ∃ F : Nat, be_g e 50 12 = (F : Int) := ⟨(be_g e 50 12).toNat, by omega⟩
  have hF5 : F ≤ 5 := by omega
  obtain ⟨n, hn⟩ : ∃ n : Nat, be_g e 50 14 = (n : Int) := ⟨(be_g e 50 14).toNat, by omega⟩
  obtain ⟨T, hTd⟩ : ∃ T : Nat → Int, T = fun k : Nat => if (k : Int) < be_g e 50 14 then be_g e 59 k else -1 := ⟨_, rfl⟩
  have hT1 : ∀ k, k < n → T k = be_g e 59 k := fun k hk => by rw [hTd]; exact if_pos (by omega)
  have hT2 : ∀ k, n ≤ k → T k = -1 := fun k hk => by rw [hTd]; exact if_neg (by omega)
  have hT : bo_T n T := ⟨by omega, fun k hk => by rw [hT1 k hk]; exact (l4 k (by omega)).2, hT2⟩
  have hX : bo_X a n T := ⟨hT, by rw [l1, hn], fun k hk => by rw [hT1 k hk]; exact (l4 k (by omega)).1⟩
  have hY : bo_Y e n T := ⟨hT, hn, fun k hk => (hT1 k hk).symm⟩
  obtain ⟨a1, r, k1, k2, k3⟩ := bo_read (X := X) (b := b) (u := u) (e := e) (f := f) (d := d) (o := F + 1) (by omega) hF5 hX hY l5
  have fa1 : ∀ c i j, ¬ (c = 4 ∧ i = 0 ∧ (j = 1 ∨ j = 2 ∨ j = 3)) → ¬ (c = 3 ∧ i = F + 1) → ¬ ((c = 14 ∨ c = 15 ∨ c = 16) ∧ i = F + 1) → a1 c i j = a c i j := fun c i j c1 c2 c3 => by
    rcases k2.2 c i j with h | h | h | h
    · exact absurd h c1
    · exact absurd h c2
    · exact absurd h c3
    · exact h
  have g1F : a 9 0 5 = be_i (F : Int) := by rw [g1, hF]
  have a95 : a1 9 0 5 = be_i (F : Int) := (fa1 9 0 5 (by omega) (by omega) (by omega)).trans g1F
  have e12 : e 50 0 12 = be_i (F : Int) := bo_e hF
  have s1 : ∀ {τ : am_R}, am_fix (am_sem X d) X am_P215 28 [.inr (9, 0), am_un] [am_I (be_i (r))] (am_sd a1 b (am_u u 1 (F + 1)) e f) = τ → am_sem X (d + 1) 215 [.inr (9, 0)] (am_sd a b u e f) = τ := by
    intro τ hτ
    rw [am_s215, g1F, if_pos (by rw [be_lt (by omega) (by omega) (by omega) (by omega)]; omega), be_ck (by omega) (by omega) (by omega), be_ntN (by omega), k1, be_bi, hτ]
  have feG : ∀ {e1 : Nat → Nat → Nat → Int32}, bo_GG e e1 F → bo_FE e e1 F := fun h c j c1 c2 c3 c4 c5 => by
    rcases h.1 c j with h' | h' | h' | h' | h' | h'
    · omega
    · omega
    · omega
    · omega
    · omega
    · exact h'
  have bdG : ∀ {e1 : Nat → Nat → Nat → Int32}, bo_GG e e1 F → ∀ c, c < 60 → 0 ≤ be_g e1 61 c ∧ be_g e1 61 c ≤ 3 ∧ 0 ≤ be_g e1 62 c ∧ be_g e1 62 c ≤ 99 := fun h c hc => by
    have q := g8 c hc
    have q1 := (h.2 c).1
    have q2 := (h.2 c).2
    omega
  have n6 : ¬ be_i (F : Int) = be_i 6 := by rw [be_eq (by omega) (by omega) (by omega) (by omega)]; omega
  have h13 := h1.2.2.2.2.2.1
  rcases k3 with ⟨rfl, N, eV, j1, j2, j3, j4, j5⟩ | ⟨q, j1, rfl, j2⟩
  · obtain ⟨e1, m1, m2, m3, m4⟩ := j5 d (am_w3 (am_w3 a1 2 0 6 (a1 3 (F + 1) 0)) 9 0 5 (be_i ((F : Int) + 1))) b (am_u (am_u u 1 (F + 1)) 0 (F + 1)) f e (by omega) hY l5
    obtain ⟨a2, ha2⟩ : ∃ a2, a2 = am_w3 (am_w3 a1 2 0 6 (a1 3 (F + 1) 0)) 9 0 5 (be_i ((F : Int) + 1)) := ⟨_, rfl⟩
    obtain ⟨u2, hu2⟩ : ∃ u2, u2 = am_u (am_u u 1 (F + 1)) 0 (F + 1) := ⟨_, rfl⟩
    obtain ⟨e2, he2⟩ : ∃ e2, e2 = am_w3 (am_w3 (am_w3 e1 50 0 14 (be_i 0)) 50 0 13 (be_i (F : Int))) 50 0 12 (be_i ((F : Int) + 1)) := ⟨_, rfl⟩
    have e12' : be_g e1 50 12 = (F : Int) := by
      rcases m4.1 50 12 with h | h | h | h | h | h
      · omega
      · omega
      · omega
      · omega
      · omega
      · exact h.trans hF
    have w2 : ∀ c j, ¬ (c = 50 ∧ (j = 12 ∨ j = 13 ∨ j = 14)) → be_g e2 c j = be_g e1 c j := fun c j hc => by
      rw [he2, bo_gwn (by omega), bo_gwn (by omega), bo_gwn (by omega)]
    have x12 : be_g e2 50 12 = (F : Int) + 1 := by rw [he2, bo_gws (by omega) (by omega)]
    have x13 : be_g e2 50 13 = (F : Int) := by rw [he2, bo_gwn (by omega), bo_gws (by omega) (by omega)]
    have x14 : be_g e2 50 14 = 0 := by rw [he2, bo_gwn (by omega), bo_gwn (by omega), bo_gws (by omega) (by omega)]
    have fe : bo_FE e e2 F := fun c j c1 c2 c3 c4 c5 => (w2 c j (by omega)).trans (feG m4 c j c1 c2 c3 c4 c5)
    have wa : ∀ c i j, ¬ (c = 2 ∧ i = 0 ∧ j = 6) → ¬ (c = 9 ∧ i = 0 ∧ j = 5) → a2 c i j = a1 c i j := fun c i j c1 c2 => by
      rw [ha2, be_w3n _ _ _ _ _ _ _ _ c2, be_w3n _ _ _ _ _ _ _ _ c1]
    have fa : bo_FA a a2 (F + 1) := fun c i j c1 c2 c3 c4 c5 => (wa c i j c4 c5).trans (fa1 c i j c1 c2 c3)
    have hSN : bo_SN eV e2 F N (be_pos eV F N) := ⟨fun c k c1 c2 c3 c4 => (w2 c _ (by omega)).trans (m3.1 c k c1 c2 c3 c4), fun j hj => (w2 65 _ (by omega)).trans (m3.2 j hj)⟩
    have x60 : be_g e2 60 F = (N : Int) := (w2 60 F (by omega)).trans m2
    have hVF : bo_VF e2 F N := bo_SOVF hSN (Nat.le_refl _) (Nat.le_refl _) j4
    have hOF : be_OF e2 F := (bo_OFV x60 j2).2 hVF
    have hOS1 : be_OS a1 (F + 1) e2 F N := bo_SOOS hSN (Nat.le_refl _) (Nat.le_refl _) j3
    have hOS : be_OS a2 (F + 1) e2 F N := bo_OSa (fun c i j hc => wa c i j (by omega) (by omega)) hOS1
    have hnc : be_nc e2 F = N := by unfold be_nc; rw [x60]; rfl
    have hthe : be_the e2 = F := by unfold be_the; rw [x13]; rfl
    have hnum : be_num e2 = N := by
      unfold be_num
      rw [x13, if_neg (by omega), Int.toNat_natCast, x60]
      rfl
    have x29 : be_g e2 50 29 = -1 := (fe 50 29 (by omega) (by omega) (by omega) (by omega) (by omega)).trans h1.2.2.2.1
    have hbd : ∀ c, c < 60 → 0 ≤ be_g e2 61 c ∧ be_g e2 61 c ≤ 3 ∧ 0 ≤ be_g e2 62 c ∧ be_g e2 62 c ≤ 99 := fun c hc => by
      rw [w2 61 c (by omega), w2 62 c (by omega)]
      exact bdG m4 c hc
    have hh : be_h e2 = be_lastF e2 F 2 2 N := by
      unfold be_h
      rw [x29, if_neg (by omega), hnum, bo_last x13]
    have hq : be_q e2 = be_clamp (be_lastF e2 F 3 40 N) := by
      unfold be_q
      rw [hnum, bo_last x13]
      rfl
    have hu0 : u2 0 = F + 1 := by rw [hu2]; rfl
    have hu2' : u2 2 = u 2 := by rw [hu2]; rfl
    have a26 : a2 2 0 6 = be_i (be_h e2) := by
      rw [ha2, be_w3n _ _ _ _ _ _ _ _ (by omega), be_w3s, hh]
      exact hOS1.1
    have hI1 : be_I1 a2 u2 0 e2 := by
      refine bo_I1n h1 (bo_FEH fe) (bo_FAH fa) ⟨⟨⟨by omega, by omega, fun _ => ?_, fun c hc => (hbd c hc).2.2⟩, by omega, by omega⟩, fun _ => by rw [hthe]; exact hOF⟩ (by omega) a26 ?_ ?_ ?_
      · rw [x13, Int.toNat_natCast, x60]; omega
      · rw [show u2 (2 * 0) = F + 1 from hu0, hq]; exact hOS.2.1
      · rw [show u2 (2 * 0) = F + 1 from hu0, x13]; omega
      · rw [show u2 (2 * 0) = F + 1 from hu0, hthe, hnum]; exact hOS.2.2
    refine ⟨be_i (F : Int), a2, b, u2, e2, f, ?_, ?_, bo_IVt hI0 fe fa hF hF5 x14 ?_ hbd hu2' hI1 ?_ (Or.inr x12) (fun _ => ⟨hOF, by rw [hnc]; exact hOS⟩)⟩
    · refine s1 ?_
      obtain ⟨d, rfl⟩ : ∃ q, d = q + 1 := ⟨d - 1, by omega⟩
      have b95 : am_w3 a1 2 0 6 (a1 3 (F + 1) 0) 9 0 5 = be_i (F : Int) := (be_w3n _ _ _ _ _ _ _ _ (by omega)).trans a95
      rw [am_b215_28, if_pos (by decide), a95, be_ck (by omega) (by omega) (by omega), be_ntN (by omega), am_s141, am_po2, am_b141_5, be_bv, am_b215_54, b95, be_add, ha2, hu2]
    · have m1' : am_sem X d 27 [.inr (50, 0), am_I (be_i ((F : Int)))] (am_sd a2 b u2 e f) = some (some (am_I (be_i 1)), am_sd a2 b u2 e1 f) := by rw [ha2, hu2]; exact m1
      rw [am_s28, e12, if_pos n6, m1', be_bi, am_b28_20, if_pos (by decide), bo_e e12', be_add, he2]
    · rw [wa 4 0 1 (by omega) (by omega)]; exact k2.1
    · rw [ha2, be_w3s, x12]
  · obtain ⟨e1, m1, m2, m3⟩ := j2 d a1 b (am_u u 1 (F + 1)) f e (by omega) hY l5
    have x12 : be_g e1 50 12 = (F : Int) := by
      rcases m3.1 50 12 with h | h | h | h | h | h
      · omega
      · omega
      · omega
      · omega
      · omega
      · exact h.trans hF
    have x13 : be_g e1 50 13 = be_g e 50 13 := by
      rcases m3.1 50 13 with h | h | h | h | h | h
      · omega
      · omega
      · omega
      · omega
      · omega
      · exact h
    have w2 : ∀ c j, ¬ (c = 50 ∧ j = 14) → be_g (am_w3 e1 50 0 14 (be_i 0)) c j = be_g e1 c j := fun c j hc => bo_gwn hc
    have fe : bo_FE e (am_w3 e1 50 0 14 (be_i 0)) F := fun c j c1 c2 c3 c4 c5 => (w2 c j (by omega)).trans (feG m3 c j c1 c2 c3 c4 c5)
    have fa : bo_FA a a1 (F + 1) := fun c i j c1 c2 c3 _ _ => fa1 c i j c1 c2 c3
    have hbd : ∀ c, c < 60 → 0 ≤ be_g (am_w3 e1 50 0 14 (be_i 0)) 61 c ∧ be_g (am_w3 e1 50 0 14 (be_i 0)) 61 c ≤ 3 ∧ 0 ≤ be_g (am_w3 e1 50 0 14 (be_i 0)) 62 c ∧ be_g (am_w3 e1 50 0 14 (be_i 0)) 62 c ≤ 99 := fun c hc => by
      rw [w2 61 c (by omega), w2 62 c (by omega)]
      exact bdG m3 c hc
    have hI1 : be_I1 a1 (am_u u 1 (F + 1)) 0 (am_w3 e1 50 0 14 (be_i 0)) := bo_old h1 (by omega) hF5 (bo_FEH fe) (bo_FAH fa) ((w2 50 13 (by omega)).trans x13) (by rw [w2 50 13 (by omega), w2 50 12 (by omega), x12, x13]; omega) (fun f0 hf => bo_FES fe hf) (fun c hc => (hbd c hc).2.2) (fa1 2 0 6 (by omega) (by omega) (by omega)) (fun c o j hc ho => fa1 c o j (by omega) (by omega) (by omega)) rfl
    refine ⟨be_i (-10 - (q : Int)), a1, b, am_u u 1 (F + 1), am_w3 e1 50 0 14 (be_i 0), f, ?_, ?_, bo_IVt hI0 fe fa hF hF5 (bo_gws (by omega) (by omega)) k2.1 hbd rfl hI1 ?_ (Or.inl ((w2 50 12 (by omega)).trans x12)) (fun h => by rw [w2 50 12 (by omega), x12] at h; omega)⟩
    · refine s1 ?_
      rw [am_b215_28, if_neg (by rw [be_0, be_lt (by omega) (by omega) (by omega) (by omega)]; omega), be_sub]
    · rw [am_s28, e12, if_pos n6, m1, be_bi, am_b28_20, if_neg (by decide), bo_e m2, be_sub]
    · rw [a95, w2 50 12 (by omega), x12]
