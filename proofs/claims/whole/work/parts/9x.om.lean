/-! THE OFFICE, 13: the whole text -/
variable {d : Nat} {X : am_X} {a : Nat → Nat → Nat → Int32} {b : Nat → Nat → Nat → Int64} {u : Nat → Nat} {e : Nat → Nat → Nat → Int32} {f : Nat → Nat → Nat → Int64}
variable {n o q p z s w F k : Nat} {T : Nat → Int}
def bo_R27 (X : am_X) (n : Nat) (T : Nat → Int) (F : Nat) (y : Int) (P : (Nat → Nat → Nat → Int32) → (Nat → Nat → Nat → Int32) → Prop) : Prop :=
  ∀ (d : Nat) (a : Nat → Nat → Nat → Int32) (b : Nat → Nat → Nat → Int64) (u : Nat → Nat) (f : Nat → Nat → Nat → Int64) (e : Nat → Nat → Nat → Int32), 14 ≤ d → bo_Y e n T → bo_LT e → ∃ e', am_sem X d 27 [.inr (50, 0), am_I (be_i ((F : Int)))] (am_sd a b u e f) = some (some (am_I (be_i y)), am_sd a b u e' f) ∧ P e e'
theorem bo_st (hF : F ≤ 5) (hY : bo_Y e n T) (hL : bo_LT e) : ∃ e1, am_sem X (d + 1) 27 [.inr (50, 0), am_I (be_i ((F : Int)))] (am_sd a b u e f) = am_bi (am_sem X d 26 [.inr (50, 0), am_I (be_i (((10 * F + 0 : Nat) : Int)))] (am_sd a b u e1 f)) (fun r τ => am_fix (am_sem X d) X am_P27 25 [.inr (50, 0), am_I (be_i ((F : Int))), am_I (be_i (((0 : Nat) : Int)))] [am_I r] τ) ∧ bo_RS e1 n T 0 F 0 ∧ bo_GG e e1 F := by
  refine ⟨am_w3 (am_w3 e 50 0 15 (be_i 0)) 50 0 25 (be_i (100 * (F : Int))), ?_, ⟨bo_Yw (bo_Yw hY (by omega)) (by omega), bo_LTw (bo_LTw hL (by omega)) (by omega), ?_, ?_⟩, bo_GGt (bo_GGw (by omega)) (bo_GGw (by omega))⟩
  · rw [am_s27, be_mul, am_b27_15, be_mul, be_add]
    rfl
  · rw [bo_gwn (by omega), bo_gws (by omega) (by omega)]; rfl
  · rw [bo_gws (by omega) (by omega)]; omega
theorem bo_read (hd : 42 ≤ d) (hF : F ≤ 5) (hX : bo_X a n T) (hY : bo_Y e n T) (hL : bo_LT e) :
    ∃ a' r, am_sem X d 169 [.inr (4, 0), .inr (3, o)] (am_sd a b u e f) = some (some (am_I (be_i r)), am_sd a' b (am_u u 1 o) e f) ∧ bo_LA a a' o ∧ ((r = -1 ∧ ∃ N eV', 1 ≤ N ∧ N ≤ 10 ∧ be_OS a' o eV' F N ∧ bo_VF eV' F N ∧ bo_R27 X n T F 1 (bo_PO eV' F N)) ∨ ∃ q : Nat, q ≤ 100 ∧ r = (q : Int) ∧ bo_R27 X n T F 0 (bo_PF F q)) := by
  obtain ⟨d, rfl⟩ : ∃ q, d = q + 1 := ⟨d - 1, by omega⟩
  have hu : am_u u 1 o 1 = o := rfl
  obtain ⟨aC, haC⟩ : ∃ aC, aC = am_w3 (am_w3 (am_w3 (am_w3 (am_w3 (am_w3 a 3 o 0 (be_i 2)) 3 o 1 (be_i 40)) 3 o 2 (be_i 0)) 3 o 6 (be_i 0)) 4 0 2 (be_i 0)) 4 0 3 (be_i 0) := ⟨_, rfl⟩
  have hn : ∀ c i j, ¬ (c = 3 ∧ i = o ∧ (j = 0 ∨ j = 1 ∨ j = 2 ∨ j = 6)) → ¬ (c = 4 ∧ i = 0 ∧ (j = 2 ∨ j = 3)) → aC c i j = a c i j := fun c i j h1 h2 => by
    rw [haC, be_w3n _ _ _ _ _ _ _ _ (by omega), be_w3n _ _ _ _ _ _ _ _ (by omega), be_w3n _ _ _ _ _ _ _ _ (by omega), be_w3n _ _ _ _ _ _ _ _ (by omega), be_w3n _ _ _ _ _ _ _ _ (by omega), be_w3n _ _ _ _ _ _ _ _ (by omega)]
  have c0 : aC 3 o 0 = be_i 2 := by rw [haC, be_w3n _ _ _ _ _ _ _ _ (by omega), be_w3n _ _ _ _ _ _ _ _ (by omega), be_w3n _ _ _ _ _ _ _ _ (by omega), be_w3n _ _ _ _ _ _ _ _ (by omega), be_w3n _ _ _ _ _ _ _ _ (by omega), be_w3s]
  have c1 : aC 3 o 1 = be_i 40 := by rw [haC, be_w3n _ _ _ _ _ _ _ _ (by omega), be_w3n _ _ _ _ _ _ _ _ (by omega), be_w3n _ _ _ _ _ _ _ _ (by omega), be_w3n _ _ _ _ _ _ _ _ (by omega), be_w3s]
  have c2 : aC 3 o 2 = be_i 0 := by rw [haC, be_w3n _ _ _ _ _ _ _ _ (by omega), be_w3n _ _ _ _ _ _ _ _ (by omega), be_w3n _ _ _ _ _ _ _ _ (by omega), be_w3s]
  have c6 : aC 3 o 6 = be_i 0 := by rw [haC, be_w3n _ _ _ _ _ _ _ _ (by omega), be_w3n _ _ _ _ _ _ _ _ (by omega), be_w3s]
  have hK : bo_K aC n T o 0 0 := ⟨⟨hX.1, (hn _ _ _ (by omega) (by omega)).trans hX.2.1, fun k hk => (hn _ _ _ (by omega) (by omega)).trans (hX.2.2 k hk)⟩, by rw [haC, be_w3n _ _ _ _ _ _ _ _ (by omega), be_w3s]; rfl, by rw [haC, be_w3s], c6, Nat.zero_le _, Nat.le_refl _⟩
  have hEF : bo_EF a aC o := fun c i j => by
    by_cases h1 : c = 3 ∧ i = o ∧ (j = 0 ∨ j = 1 ∨ j = 2 ∨ j = 6)
    · exact Or.inr (Or.inl ⟨h1.1, h1.2.1⟩)
    · by_cases h2 : c = 4 ∧ i = 0 ∧ (j = 2 ∨ j = 3)
      · exact Or.inl h2
      · exact Or.inr (Or.inr (Or.inr (hn c i j h1 h2)))
  obtain ⟨a1, g1, g2⟩ := bo_clause (X := X) (b := b) (u := am_u u 1 o) (e := e) (f := f) (d := d) (w := 0) (by omega) hu (p := 0) (s := 0) hK c2 (by omega)
  have head : ∀ {τ : am_R}, am_fix (am_sem X d) X am_P169 28 [.inr (4, 0), .inr (3, o), am_I (be_i (((0 + 1 : Nat) : Int)))] [] (am_sd a1 b (am_u u 1 o) e f) = τ → am_sem X (d + 1) 169 [.inr (4, 0), .inr (3, o)] (am_sd a b u e f) = τ := by
    intro τ hτ
    obtain ⟨d, rfl⟩ : ∃ q, d = q + 1 := ⟨d - 1, by omega⟩
    rw [am_s169, am_po4, am_b169_5, hu, am_s159, be_bv, am_b169_12, ← haC, g1, be_bv, am_b169_26]
    exact hτ
  rcases g2 with ⟨q, v, cs, hC⟩ | ⟨q, f1, f2, f3⟩
  · have hRCO := hC.2.2.2.2.2.2.2.2.2.2.2
    have hK1 := hC.1
    obtain ⟨eW, -, w2, -⟩ := bo_st (X := X) (a := fun _ _ _ => 0) (b := fun _ _ _ => 0) (u := fun _ => 0) (f := fun _ _ _ => 0) (d := 13) hF hY hL
    obtain ⟨eV', -, v2, v3, v4, v5, v6, v7, v8⟩ := hRCO 13 (fun _ _ _ => 0) (fun _ _ _ => 0) (fun _ => 0) (fun _ _ _ => 0) eW F (10 * F + 0) (by omega) (by omega) hF w2.1 w2.2.1 w2.2.2.1 w2.2.2.2
    have hOS0 : be_OS aC o eW F 0 := ⟨c0, c1, c2, fun k hk => absurd hk (Nat.not_lt_zero _), fun j hj => absurd hj (Nat.not_lt_zero _)⟩
    obtain ⟨t1, t2, t3, t4⟩ := bo_step (a := aC) hF (k := 0) (by omega) (s := 0) rfl (w := 0) rfl hOS0 (fun k hk => absurd hk (Nat.not_lt_zero _)) hC v4 v5 v6 v7 v8
    rw [← t3] at hK1
    have hRS' : bo_RS eV' n T q F (be_pos eV' F (0 + 1)) := ⟨bo_YGK v8 w2.1, bo_LTG v8 w2.2.1, v2, by rw [t3, ← Nat.add_assoc]; exact v3⟩
    obtain ⟨a2, r, i1, i2, i3⟩ := bo_loop (X := X) (b := b) (u := am_u u 1 o) (e := e) (f := f) (d := d) (by omega) hu hF (x1 := o) 9 0 q a1 eV' (by omega) hK1 t1 t2 hRS'
    have conv : ∀ {y : Int} {P : (Nat → Nat → Nat → Int32) → (Nat → Nat → Nat → Int32) → Prop}, (∀ e e2 e', bo_GG e e2 F → P e2 e' → P e e') → bo_R25 X n T F 0 q (be_pos eV' F (0 + 1)) eV' y P → bo_R27 X n T F y P := by
      intro y P hP hR d a b u f e h1 h2 h3
      obtain ⟨d, rfl⟩ : ∃ q, d = q + 1 := ⟨d - 1, by omega⟩
      obtain ⟨e1, x1, x2, x4⟩ := bo_st (X := X) (a := a) (b := b) (u := u) (f := f) (d := d) hF h2 h3
      obtain ⟨e2, y1, y2, y3, y4, y5, y6, y7, y8⟩ := hRCO d a b u f e1 F (10 * F + 0) (by omega) (by omega) hF x2.1 x2.2.1 x2.2.2.1 x2.2.2.2
      have hk4 := bo_wkR T 0
      have hvv : 0 ≤ v ∧ v ≤ 99 := ⟨hC.2.2.1, hC.2.2.2.1⟩
      have hz : bo_SN eW e1 F 0 0 := ⟨fun c k _ _ hk => absurd hk (Nat.not_lt_zero _), fun j hj => absurd hj (Nat.not_lt_zero _)⟩
      obtain ⟨e3, z1, z2⟩ := hR d a b u f e2 (by omega) ⟨bo_YGK y8 x2.1, bo_LTG y8 x2.2.1, y2, by rw [t3, ← Nat.add_assoc]; exact y3⟩ (by rw [t3]; exact bo_stepN hz t4 v4 v5 v6 v7 y4 y5 y6 y7 y8)
      refine ⟨e3, ?_, hP e e2 e3 (bo_GGt x4 (bo_GGK (by omega) y8 (by omega) (Or.inr (by omega)))) z2⟩
      rw [x1, y1, be_bi, z1]
    refine ⟨a2, r, head i1, bo_LAt (bo_EFt hEF (bo_ECF hC.2.2.2.2.2.2.2.2.2.2.1)) i2, ?_⟩
    rcases i3 with ⟨j1, N, eU, j2, j3, j4, j5, j6⟩ | ⟨q', j1, j2, j3⟩
    · exact Or.inl ⟨j1, N, eU, j2, j3, j4, j5, conv (fun e e2 e' g1 g2 => ⟨g2.1, g2.2.1, bo_GGt g1 g2.2.2⟩) j6⟩
    · exact Or.inr ⟨q', j1, j2, conv (fun e e2 e' g1 g2 => ⟨g2.1, bo_GGt g1 g2.2⟩) j3⟩
  · refine ⟨_, (q : Int), head (bo_xf (by omega) f1), bo_LAt (bo_EFt hEF f2) bo_LA0, Or.inr ⟨q, ?_, rfl, ?_⟩⟩
    · have := f1.2.2.2.1; have := hX.1.1; omega
    · intro d a b u f e h1 h2 h3
      obtain ⟨d, rfl⟩ : ∃ q, d = q + 1 := ⟨d - 1, by omega⟩
      obtain ⟨e1, x1, x2, x4⟩ := bo_st (X := X) (a := a) (b := b) (u := u) (f := f) (d := d) hF h2 h3
      obtain ⟨e2, y1, y2, y3, y4, y5, y6⟩ := f3 d a b u f e1 F (10 * F + 0) (by omega) (by omega) hF x2.1 x2.2.1 x2.2.2.1 x2.2.2.2
      refine ⟨e2, ?_, y2, bo_GGt x4 (bo_GGK (by omega) y3 ⟨y4, y5⟩ y6)⟩
      rw [x1, y1, be_bi, am_b27_25, if_neg (by decide)]
