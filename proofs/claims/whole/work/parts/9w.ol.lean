/-! THE OFFICE, 12: the text -/
variable {d : Nat} {X : am_X} {a : Nat → Nat → Nat → Int32} {b : Nat → Nat → Nat → Int64} {u : Nat → Nat} {e : Nat → Nat → Nat → Int32} {f : Nat → Nat → Nat → Int64}
variable {n o q p z s w F k : Nat} {T : Nat → Int}
theorem bo_OSa {a' : Nat → Nat → Nat → Int32} {f0 N : Nat} (h : ∀ c i j, (c = 3 ∧ i = o ∧ j ≤ 2) ∨ ((c = 14 ∨ c = 15 ∨ c = 16) ∧ i = o) → a' c i j = a c i j) (hO : be_OS a o e f0 N) : be_OS a' o e f0 N := by
  obtain ⟨h1, h2, h3, h4, h5⟩ := hO
  refine ⟨(h _ _ _ (by omega)).trans h1, (h _ _ _ (by omega)).trans h2, (h _ _ _ (by omega)).trans h3, fun k hk hw => ?_, fun j hj => (h _ _ _ (by omega)).trans (h5 j hj)⟩
  rw [h _ _ _ (by omega), h _ _ _ (by omega)]
  exact h4 k hk hw
def bo_LA (a a' : Nat → Nat → Nat → Int32) (o : Nat) : Prop := a' 4 0 1 = be_i 0 ∧ ∀ c i j, (c = 4 ∧ i = 0 ∧ (j = 1 ∨ j = 2 ∨ j = 3)) ∨ (c = 3 ∧ i = o) ∨ ((c = 14 ∨ c = 15 ∨ c = 16) ∧ i = o) ∨ a' c i j = a c i j
theorem bo_LAt {a1 a2 : Nat → Nat → Nat → Int32} (h1 : bo_EF a a1 o) (h2 : bo_LA a1 a2 o) : bo_LA a a2 o := ⟨h2.1, fun c i j => by
  rcases h2.2 c i j with h | h | h | h
  · exact Or.inl h
  · exact Or.inr (Or.inl h)
  · exact Or.inr (Or.inr (Or.inl h))
  · rcases h1 c i j with h' | h' | h' | h'
    · exact Or.inl (by omega)
    · exact Or.inr (Or.inl h')
    · exact Or.inr (Or.inr (Or.inl h'))
    · exact Or.inr (Or.inr (Or.inr (h.trans h')))⟩
theorem bo_LA0 : bo_LA a (am_w3 a 4 0 1 (be_i 0)) o := ⟨be_w3s _ _ _ _ _, fun c i j => by
  by_cases hc : c = 4 ∧ i = 0 ∧ j = 1
  · exact Or.inl (by omega)
  · exact Or.inr (Or.inr (Or.inr (be_w3n _ _ _ _ _ _ _ _ hc)))⟩
theorem bo_ECF {a1 : Nat → Nat → Nat → Int32} (h : bo_EC a a1 o s w) : bo_EF a a1 o := fun c i j => by
  rcases h c i j with h | h | h | h | h
  · exact Or.inl h
  · exact Or.inr (Or.inl h)
  · exact Or.inr (Or.inr (Or.inl (by omega)))
  · exact Or.inr (Or.inr (Or.inl (by omega)))
  · exact Or.inr (Or.inr (Or.inr h))
theorem bo_xf (hd : 2 ≤ d) (h : bo_F a n T o q) {x1 : Nat} {x2 : Int32} : am_fix (am_sem X d) X am_P169 28 [.inr (4, 0), .inr (3, x1), am_I x2] [] (am_sd a b u e f) = some (some (am_I (be_i (q : Int))), am_sd (am_w3 a 4 0 1 (be_i 0)) b u e f) := by
  have h3 : ¬ a 4 0 3 = (0 : Int32) := by rw [h.2.2.1]; decide
  rw [am_b169_28]
  split
  · first | rw [if_pos h3, h.2.1] | rw [h.2.1]
  · rw [bo_171f hd h (by omega) (by omega), be_bi, am_b169_40, if_pos be_0.symm, if_pos h3, h.2.1]
/-- the reference goes on behind a clause; or into one -/
def bo_R25 (X : am_X) (n : Nat) (T : Nat → Int) (F k p s : Nat) (eV : Nat → Nat → Nat → Int32) (y : Int) (P : (Nat → Nat → Nat → Int32) → (Nat → Nat → Nat → Int32) → Prop) : Prop :=
  ∀ (d : Nat) (a : Nat → Nat → Nat → Int32) (b : Nat → Nat → Nat → Int64) (u : Nat → Nat) (f : Nat → Nat → Nat → Int64) (e : Nat → Nat → Nat → Int32), 13 ≤ d → bo_RS e n T p F s → bo_SN eV e F (k + 1) s →
    ∃ e', am_fix (am_sem X d) X am_P27 25 [.inr (50, 0), am_I (be_i ((F : Int))), am_I (be_i ((k : Int)))] [am_I (be_i (1))] (am_sd a b u e f) = some (some (am_I (be_i y)), am_sd a b u e' f) ∧ P e e'
def bo_PO (eV' : Nat → Nat → Nat → Int32) (F N : Nat) (e e' : Nat → Nat → Nat → Int32) : Prop := be_g e' 60 F = (N : Int) ∧ bo_SN eV' e' F N (be_pos eV' F N) ∧ bo_GG e e' F
def bo_PF (F q : Nat) (e e' : Nat → Nat → Nat → Int32) : Prop := be_g e' 50 15 = (q : Int) ∧ bo_GG e e' F
theorem bo_SNx {eV e1 eW : Nat → Nat → Nat → Int32} {N Z : Nat} (h1 : bo_SN eV e1 F N Z) (h2 : bo_SN eV eW F N Z) : bo_SN eW e1 F N Z :=
  ⟨fun c k q1 q2 q3 q4 => by
    have e61 := h2.1 61 k (by omega) (by omega) q3 (by omega)
    rw [h1.1 c k q1 q2 q3 (by omega), h2.1 c k q1 q2 q3 (by omega)], fun j hj => by rw [h1.2 j hj, h2.2 j hj]⟩
theorem bo_SNr {N Z : Nat} : bo_SN e e F N Z := ⟨fun _ _ _ _ _ _ => rfl, fun _ _ => rfl⟩
theorem bo_SNw {eV : Nat → Nat → Nat → Int32} {N Z c j : Nat} {y : Int32} (h : bo_SN eV e F N Z) (hc : c < 61) : bo_SN eV (am_w3 e c 0 j y) F N Z :=
  ⟨fun c' i h1 h2 h3 h4 => (bo_gwn (by omega)).trans (h.1 c' i h1 h2 h3 h4), fun j' hj => (bo_gwn (by omega)).trans (h.2 j' hj)⟩
theorem bo_LTw {c j : Nat} {y : Int32} (h : bo_LT e) (hc : c ≠ 67) : bo_LT (am_w3 e c 0 j y) := fun k hk => (bo_gwn (by omega)).trans (h k hk)
theorem bo_LTG {e1 : Nat → Nat → Nat → Int32} {x s0 : Nat} (h : bo_GK e e1 x s0) (hL : bo_LT e) : bo_LT e1 := fun k hk => (bo_GKg h (by omega)).trans (hL k hk)
/-- the text is at its end -/
theorem bo_e1 (hF : F ≤ 5) (hk : k < 10) {eV : Nat → Nat → Nat → Int32} (hs : s = be_pos eV F (k + 1)) (hp : p = n) : bo_R25 X n T F k p s eV 1 (bo_PO eV F (k + 1)) := by
  intro d a b u f e h1 h2 h3
  obtain ⟨r1, r2, r3, r4⟩ := h2
  refine ⟨am_w3 e 60 0 F (be_i ((k : Int) + 1)), ?_, ?_, ?_, bo_GGw (by omega)⟩
  · rw [am_b27_25, if_pos (by decide), be_ck (by omega) (by omega) (by omega), be_ntN (by omega), if_neg (by rw [bo_e r3, bo_e r1.2.1, hp]; exact fun h => h rfl), be_add]
  · exact bo_gws (by omega) (by omega)
  · rw [← hs]; exact bo_SNw h3 (by omega)
/-- no further clause -/
theorem bo_e0 (hF : F ≤ 5) (hk : k < 10) {eV : Nat → Nat → Nat → Int32} (hpn : p < n) (hx : k = 9 ∨ T p ≠ 59) : bo_R25 X n T F k p s eV 0 (bo_PF F p) := by
  intro d a b u f e h1 h2 h3
  obtain ⟨r1, r2, r3, r4⟩ := h2
  have hn := r1.1.1
  refine ⟨am_w3 e 60 0 F (be_i ((k : Int) + 1)), ?_, (bo_gwn (by omega)).trans r3, bo_GGw (by omega)⟩
  rw [am_b27_25, if_pos (by decide), be_ck (by omega) (by omega) (by omega), be_ntN (by omega), if_pos (by rw [bo_e r3, bo_e r1.2.1, be_eq (by omega) (by omega) (by omega) (by omega)]; omega), be_add]
  by_cases hk9 : k = 9
  · subst hk9
    rw [if_pos (by decide)]
  · rw [if_neg (by rw [be_eq (by omega) (by omega) (by omega) (by omega)]; omega), bo_15n (by omega) (bo_Yw r1 (by omega)) ((bo_gwn (by omega)).trans r3) (by omega) (by omega) (by omega) (by omega), be_bi, am_b27_65, if_neg (by decide)]
/-- into the next clause -/
theorem bo_nx (hF : F ≤ 5) (hk : k < 9) (hT : T p = 59) (hd : 13 ≤ d) {eV : Nat → Nat → Nat → Int32} (h2 : bo_RS e n T p F s) (hpn : p < n) (h3 : bo_SN eV e F (k + 1) s) :
    ∃ e1, am_fix (am_sem X d) X am_P27 25 [.inr (50, 0), am_I (be_i ((F : Int))), am_I (be_i ((k : Int)))] [am_I (be_i (1))] (am_sd a b u e f) = am_bi (am_sem X d 26 [.inr (50, 0), am_I (be_i (((10 * F + (k + 1) : Nat) : Int)))] (am_sd a b u e1 f)) (fun r τ => am_fix (am_sem X d) X am_P27 25 [.inr (50, 0), am_I (be_i ((F : Int))), am_I (be_i (((k + 1 : Nat) : Int)))] [am_I r] τ) ∧ bo_RS e1 n T (p + 1) F s ∧ bo_SN eV e1 F (k + 1) s ∧ bo_GG e e1 F ∧ e1 = am_w3 (am_w3 e 60 0 F (be_i ((k : Int) + 1))) 50 0 15 (be_i ((p : Int) + 1)) := by
  obtain ⟨r1, r2, r3, r4⟩ := h2
  have hn := r1.1.1
  refine ⟨_, ?_, ⟨bo_Yw (bo_Yw r1 (by omega)) (by omega), bo_LTw (bo_LTw r2 (by omega)) (by omega), bo_gws (by omega) (by omega), (bo_gwn (by omega)).trans ((bo_gwn (by omega)).trans r4)⟩, bo_SNw (bo_SNw h3 (by omega)) (by omega), bo_GGt (bo_GGw (by omega)) (bo_GGw (by omega)), rfl⟩
  rw [am_b27_25, if_pos (by decide), be_ck (by omega) (by omega) (by omega), be_ntN (by omega), if_pos (by rw [bo_e r3, bo_e r1.2.1, be_eq (by omega) (by omega) (by omega) (by omega)]; omega), be_add, if_neg (by rw [be_eq (by omega) (by omega) (by omega) (by omega)]; omega), bo_15y (by omega) (bo_Yw r1 (by omega)) ((bo_gwn (by omega)).trans r3) (by omega) hT, be_bi, am_b27_65, if_pos (by decide), am_b27_15, be_mul, be_add]
  rfl
def bo_OUT (X : am_X) (a a' : Nat → Nat → Nat → Int32) (n : Nat) (T : Nat → Int) (o F k p s : Nat) (eV : Nat → Nat → Nat → Int32) (r : Int) : Prop :=
  bo_LA a a' o ∧ ((r = -1 ∧ ∃ N eV', 1 ≤ N ∧ N ≤ 10 ∧ be_OS a' o eV' F N ∧ bo_VF eV' F N ∧ bo_R25 X n T F k p s eV 1 (bo_PO eV' F N)) ∨ ∃ q : Nat, q ≤ 100 ∧ r = (q : Int) ∧ bo_R25 X n T F k p s eV 0 (bo_PF F q))
/-- behind a clause that stands -/
theorem bo_loop (hd : 41 ≤ d) (ho : u 1 = o) (hF : F ≤ 5) {x1 : Nat} : ∀ (m k p : Nat) (a eV : Nat → Nat → Nat → Int32), k + m = 9 → bo_K a n T o p (be_pos eV F (k + 1)) → be_OS a o eV F (k + 1) → bo_VF eV F (k + 1) → bo_RS eV n T p F (be_pos eV F (k + 1)) →
    ∃ a' r, am_fix (am_sem X d) X am_P169 28 [.inr (4, 0), .inr (3, x1), am_I (be_i (((k + 1 : Nat) : Int)))] [] (am_sd a b u e f) = some (some (am_I (be_i r)), am_sd a' b u e f) ∧ bo_OUT X a a' n T o F k p (be_pos eV F (k + 1)) eV r := by
  intro m
  have ends : ∀ (k p : Nat) (a eV : Nat → Nat → Nat → Int32), k < 10 → bo_K a n T o p (be_pos eV F (k + 1)) → be_OS a o eV F (k + 1) → bo_VF eV F (k + 1) → (k = 9 ∨ T p ≠ 59) → ∃ a' r, (if ¬ a 4 0 3 = (0 : Int32) then some (some (am_I (a 4 0 2)), am_sd (am_w3 a 4 0 1 (be_i 0)) b u e f) else if ¬ a 4 0 2 = a 4 0 1 then some (some (am_I (a 4 0 2)), am_sd (am_w3 a 4 0 1 (be_i 0)) b u e f) else some (some (am_I (be_i (-1))), am_sd (am_w3 a 4 0 1 (be_i 0)) b u e f)) = some (some (am_I (be_i r)), am_sd a' b u e f) ∧ bo_OUT X a a' n T o F k p (be_pos eV F (k + 1)) eV r := by
    intro k p a eV hk hK hOS hVF hx
    have hn := hK.1.1.1
    have hpn := hK.2.2.2.2.1
    rw [if_neg (by rw [hK.2.2.1]; exact fun h => h rfl), hK.2.1, hK.1.2.1]
    by_cases hp : p = n
    · refine ⟨am_w3 a 4 0 1 (be_i 0), -1, ?_, bo_LA0, Or.inl ⟨rfl, k + 1, eV, by omega, by omega, bo_OSa (fun c i j hc => be_w3n _ _ _ _ _ _ _ _ (by omega)) hOS, hVF, bo_e1 hF hk rfl hp⟩⟩
      rw [hp, if_neg (fun h => h rfl)]
    · refine ⟨am_w3 a 4 0 1 (be_i 0), (p : Int), ?_, bo_LA0, Or.inr ⟨p, by omega, rfl, bo_e0 hF hk (by omega) hx⟩⟩
      rw [if_pos (by rw [be_eq (by omega) (by omega) (by omega) (by omega)]; omega)]
  induction m with
  | zero =>
    intro k p a eV hm hK hOS hVF _
    obtain rfl : k = 9 := by omega
    obtain ⟨a', r, g1, g2⟩ := ends 9 p a eV (by omega) hK hOS hVF (Or.inl rfl)
    refine ⟨a', r, ?_, g2⟩
    rw [am_b169_28, if_pos (by decide), g1]
  | succ m ih =>
    intro k p a eV hm hK hOS hVF hRS
    have hn := hK.1.1.1
    have hpn := hK.2.2.2.2.1
    have n10 : ¬ be_i 10 ≤ be_i ((k + 1 : Nat) : Int) := by rw [be_le (by omega) (by omega) (by omega) (by omega)]; omega
    by_cases hT : T p = 59
    · have hl := bo_Tn hK.1.1 (k := p) (by omega)
      have k1 := bo_adv hK (by omega)
      obtain ⟨w, hw⟩ : ∃ w, w = be_wn eV F (k + 1) := ⟨_, rfl⟩
      have hw9 : w ≤ 9 := by have := be_wn_le eV F (k + 1); omega
      obtain ⟨a1, c1, c2⟩ := bo_clause (X := X) (b := b) (u := u) (e := e) (f := f) (d := d) (w := w) (by omega) ho (p := p + 1) (s := be_pos eV F (k + 1)) k1.1 (by rw [hw, bo_Ee k1.2 (by omega)]; exact hOS.2.2.1) hw9
      have head : ∀ {τ : am_R}, am_fix (am_sem X d) X am_P169 28 [.inr (4, 0), .inr (3, x1), am_I (be_i (((k + 1 + 1 : Nat) : Int)))] [] (am_sd a1 b u e f) = τ → am_fix (am_sem X d) X am_P169 28 [.inr (4, 0), .inr (3, x1), am_I (be_i (((k + 1 : Nat) : Int)))] [] (am_sd a b u e f) = τ := by
        intro τ hτ
        rw [am_b169_28, if_neg n10, bo_171y (by omega) hK hT, be_bi, am_b169_40, if_neg (by decide), c1, be_bv, am_b169_47, be_add]
        exact hτ
      obtain ⟨eW, -, w2, w3, -, w5⟩ := bo_nx (X := X) (a := fun _ _ _ => 0) (b := fun _ _ _ => 0) (u := fun _ => 0) (f := fun _ _ _ => 0) (d := 13) (T := T) (p := p) hF (by omega) hT (by omega) hRS hl (bo_SNr (e := eV) (F := F) (N := k + 1) (Z := be_pos eV F (k + 1)))
      rcases c2 with ⟨q, v, cs, hC⟩ | ⟨q, f1, f2, f3⟩
      · have hRCO := hC.2.2.2.2.2.2.2.2.2.2.2
        have hK1 := hC.1
        have hZ : be_pos eW F (k + 1) = be_pos eV F (k + 1) := bo_SOpos w3 _ (Nat.le_refl _)
        obtain ⟨eV', -, v2, v3, v4, v5, v6, v7, v8⟩ := hRCO 13 (fun _ _ _ => 0) (fun _ _ _ => 0) (fun _ => 0) (fun _ _ _ => 0) eW F (10 * F + (k + 1)) (by omega) (by omega) hF w2.1 w2.2.1 w2.2.2.1 w2.2.2.2
        have hOS1 : be_OS (am_w3 a 4 0 2 (be_i ((p : Int) + 1))) o eW F (k + 1) := bo_OSa (fun c i j hc => be_w3n _ _ _ _ _ _ _ _ (by omega)) (bo_SOOS w3 (Nat.le_refl _) (Nat.le_refl _) hOS)
        obtain ⟨t1, t2, t3, t4⟩ := bo_step (a := am_w3 a 4 0 2 (be_i ((p : Int) + 1))) hF (k := k + 1) (by omega) hZ.symm (hw.trans (bo_SOwn w3 _ (Nat.le_refl _)).symm) hOS1 (bo_SOVF w3 (Nat.le_refl _) (Nat.le_refl _) hVF) hC v4 v5 v6 v7 v8
        rw [← t3] at hK1
        have hRS' : bo_RS eV' n T q F (be_pos eV' F (k + 1 + 1)) := ⟨bo_YGK v8 w2.1, bo_LTG v8 w2.2.1, v2, by rw [t3, ← Nat.add_assoc]; exact v3⟩
        obtain ⟨a2, r, i1, i2, i3⟩ := ih (k + 1) q a1 eV' (by omega) hK1 t1 t2 hRS'
        have conv : ∀ {y : Int} {P : (Nat → Nat → Nat → Int32) → (Nat → Nat → Nat → Int32) → Prop}, (∀ e e2 e', bo_GG e e2 F → P e2 e' → P e e') → bo_R25 X n T F (k + 1) q (be_pos eV' F (k + 1 + 1)) eV' y P → bo_R25 X n T F k p (be_pos eV F (k + 1)) eV y P := by
          intro y P hP hR d a b u f e h1 h2 h3
          obtain ⟨e1, x1, x2, x3, x4, -⟩ := bo_nx (X := X) (a := a) (b := b) (u := u) (f := f) (d := d) (T := T) (p := p) hF (by omega) hT (by omega) h2 hl h3
          obtain ⟨e2, y1, y2, y3, y4, y5, y6, y7, y8⟩ := hRCO d a b u f e1 F (10 * F + (k + 1)) (by omega) (by omega) hF x2.1 x2.2.1 x2.2.2.1 x2.2.2.2
          have hk4 := bo_wkR T (p + 1)
          have hvv : 0 ≤ v ∧ v ≤ 99 := ⟨hC.2.2.1, hC.2.2.2.1⟩
          obtain ⟨e3, z1, z2⟩ := hR d a b u f e2 h1 ⟨bo_YGK y8 x2.1, bo_LTG y8 x2.2.1, y2, by rw [t3, ← Nat.add_assoc]; exact y3⟩ (by rw [t3]; exact bo_stepN (bo_SNx x3 w3) t4 v4 v5 v6 v7 y4 y5 y6 y7 y8)
          refine ⟨e3, ?_, hP e e2 e3 (bo_GGt x4 (bo_GGK (by omega) y8 (by omega) (Or.inr (by omega)))) z2⟩
          rw [x1, y1, be_bi, z1]
        refine ⟨a2, r, head i1, bo_LAt (bo_EFt (bo_EEF k1.2) (bo_ECF hC.2.2.2.2.2.2.2.2.2.2.1)) i2, ?_⟩
        rcases i3 with ⟨j1, N, eU, j2, j3, j4, j5, j6⟩ | ⟨q', j1, j2, j3⟩
        · exact Or.inl ⟨j1, N, eU, j2, j3, j4, j5, conv (fun e e2 e' g1 g2 => ⟨g2.1, g2.2.1, bo_GGt g1 g2.2.2⟩) j6⟩
        · exact Or.inr ⟨q', j1, j2, conv (fun e e2 e' g1 g2 => ⟨g2.1, bo_GGt g1 g2.2⟩) j3⟩
      · refine ⟨_, (q : Int), head (bo_xf (by omega) f1), bo_LAt (bo_EFt (bo_EEF k1.2) f2) bo_LA0, Or.inr ⟨q, ?_, rfl, ?_⟩⟩
        · have := f1.2.2.2.1; omega
        · intro d a b u f e h1 h2 h3
          obtain ⟨e1, x1, x2, x3, x4, -⟩ := bo_nx (X := X) (a := a) (b := b) (u := u) (f := f) (d := d) (T := T) (p := p) hF (by omega) hT (by omega) h2 hl h3
          obtain ⟨e2, y1, y2, y3, y4, y5, y6⟩ := f3 d a b u f e1 F (10 * F + (k + 1)) (by omega) (by omega) hF x2.1 x2.2.1 x2.2.2.1 x2.2.2.2
          refine ⟨e2, ?_, y2, bo_GGt x4 (bo_GGK (by omega) y3 ⟨y4, y5⟩ y6)⟩
          rw [x1, y1, be_bi, am_b27_25, if_neg (by decide)]
    · obtain ⟨a', r, g1, g2⟩ := ends k p a eV (by omega) hK hOS hVF (Or.inr hT)
      refine ⟨a', r, ?_, g2⟩
      rw [am_b169_28, if_neg n10, bo_171n (by omega) hK (by omega) (by omega) hT, be_bi, am_b169_40, if_pos be_0.symm, g1]
