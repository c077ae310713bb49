/-! THE OFFICE, 10: the class's clause -/
variable {d : Nat} {X : am_X} {a : Nat → Nat → Nat → Int32} {b : Nat → Nat → Nat → Int64} {u : Nat → Nat} {e : Nat → Nat → Nat → Int32} {f : Nat → Nat → Nat → Int64}
variable {n o q p z s w : Nat} {T : Nat → Int}
def bo_EC (a a' : Nat → Nat → Nat → Int32) (o s w : Nat) : Prop := ∀ c i j, (c = 4 ∧ i = 0 ∧ (j = 2 ∨ j = 3)) ∨ (c = 3 ∧ i = o) ∨ (c = 16 ∧ i = o ∧ s ≤ j) ∨ ((c = 14 ∨ c = 15) ∧ i = o ∧ j = w) ∨ a' c i j = a c i j
theorem bo_ECE {a1 : Nat → Nat → Nat → Int32} (h : bo_E a a1 o s) : bo_EC a a1 o s w := fun c i j => by
  rcases h c i j with h | h | h | h
  · exact Or.inl h
  · exact Or.inr (Or.inl ⟨h.1, h.2.1⟩)
  · exact Or.inr (Or.inr (Or.inl h))
  · exact Or.inr (Or.inr (Or.inr (Or.inr h)))
theorem bo_ECw {a1 : Nat → Nat → Nat → Int32} {c i j : Nat} {y : Int32} (h : bo_EC a a1 o s w) (hc : (c = 3 ∧ i = o) ∨ ((c = 14 ∨ c = 15) ∧ i = o ∧ j = w)) : bo_EC a (am_w3 a1 c i j y) o s w := fun c' i' j' => by
  by_cases hq : c' = c ∧ i' = i ∧ j' = j
  · obtain ⟨rfl, rfl, rfl⟩ := hq
    rcases hc with h | h
    · exact Or.inr (Or.inl h)
    · exact Or.inr (Or.inr (Or.inr (Or.inl h)))
  · rw [be_w3n _ _ _ _ _ _ _ _ hq]
    exact h c' i' j'
def bo_CK (X : am_X) (a a' : Nat → Nat → Nat → Int32) (n : Nat) (T : Nat → Int) (o p s w q : Nat) (v : Int) (cs : List Int) : Prop :=
  bo_K a' n T o q (s + cs.length) ∧ p < q ∧ 0 ≤ v ∧ v ≤ 99 ∧ bo_ac (a' 16 o) s cs ∧ (bo_wk T p < 2 → bo_pf 0 cs = some 1) ∧ (2 ≤ bo_wk T p → cs = []) ∧
  a' 3 o 0 = (if bo_wk T p = 2 then be_i v else a 3 o 0) ∧ a' 3 o 1 = (if bo_wk T p = 3 then be_i (be_clamp v) else a 3 o 1) ∧
  (if bo_wk T p < 2 then a' 3 o 2 = be_i ((w : Int) + 1) ∧ a' 14 o w = be_i (if bo_wk T p = 0 then v else -v) ∧ a' 15 o w = be_i ((s + cs.length : Nat) : Int) else a' 3 o 2 = be_i (w : Int)) ∧ bo_EC a a' o s w ∧ bo_RCO X n T p s q v cs
theorem bo_wrn {T : Nat → Int} (hT : bo_T n T) (hpn : p ≤ n) : p ≤ (bo_wr T p).2 ∧ (bo_wr T p).2 ≤ n := by
  have hw := bo_wiR (T p)
  unfold bo_wr
  split
  · exact ⟨Nat.le_refl _, hpn⟩
  · exact bo_wdn hT _ _ hpn (by
      intro c hc
      have : ∀ i, i ≤ 4 → ∀ c, c ∈ bo_L i → 0 ≤ c := by decide
      exact this _ hw c hc)
theorem bo_clm {v : Int} (h0 : 0 ≤ v) (h9 : v ≤ 99) : (if be_i 1 < (if be_i 40 < be_i v then be_i 40 else be_i v) then (if be_i 40 < be_i v then be_i 40 else be_i v) else be_i 1) = be_i (be_clamp v) := by
  have e1 : (if be_i 40 < be_i v then be_i 40 else be_i v) = be_i (if 40 < v then 40 else v) := by
    by_cases h : 40 < v
    · have c : be_i 40 < be_i v := by rw [be_lt (by omega) (by omega) (by omega) (by omega)]; exact h
      rw [if_pos c, if_pos h]
    · have c : ¬ be_i 40 < be_i v := by rw [be_lt (by omega) (by omega) (by omega) (by omega)]; exact h
      rw [if_neg c, if_neg h]
  rw [e1]
  have e2 : ∀ m : Int, 0 ≤ m → m ≤ 99 → (if be_i 1 < be_i m then be_i m else be_i 1) = be_i (if 1 < m then m else 1) := by
    intro m m1 m2
    by_cases h : 1 < m
    · have c : be_i 1 < be_i m := by rw [be_lt (by omega) (by omega) (by omega) (by omega)]; exact h
      rw [if_pos c, if_pos h]
    · have c : ¬ be_i 1 < be_i m := by rw [be_lt (by omega) (by omega) (by omega) (by omega)]; exact h
      rw [if_neg c, if_neg h]
  rw [e2 _ (by split <;> omega) (by split <;> omega)]
  unfold be_clamp
  congr 1
  (repeat' split) <;> omega
theorem bo_clause (hd : 40 ≤ d) (ho : u 1 = o) (h : bo_K a n T o p s) (hw : a 3 o 2 = be_i (w : Int)) (hw9 : w ≤ 9) :
    ∃ a', am_sem X d 173 [.inr (4, 0)] (am_sd a b u e f) = some (none, am_sd a' b u e f) ∧ ((∃ q v cs, bo_CK X a a' n T o p s w q v cs) ∨ ∃ q, bo_F a' n T o q ∧ bo_EF a a' o ∧ bo_RCF X n T p s q) := by
  obtain ⟨d, rfl⟩ : ∃ q, d = q + 1 := ⟨d - 1, by omega⟩
  have hT := h.1.1
  have hpn := h.2.2.2.2.1
  have hsp := h.2.2.2.2.2
  have hn := hT.1
  have hR := bo_TR hT p
  have hk := bo_wkR T p
  obtain ⟨hqp, hq⟩ := bo_wrn hT hpn
  obtain ⟨a1, g1, g2, g3⟩ := bo_174 (X := X) (b := b) (u := u) (e := e) (f := f) (d := d) (by omega) h
  have s1 : ∀ {τ : am_R}, am_fix (am_sem X d) X am_P173 10 [.inr (4, 0), am_I (be_i (T p)), am_un] [] (am_sd a1 b u e f) = τ → am_sem X (d + 1) 173 [.inr (4, 0)] (am_sd a b u e f) = τ := by
    intro τ hτ
    rw [am_s173, bo_170 (by omega) h, be_bi, am_b173_4, g1, be_bv, hτ]
  cases hwr : (bo_wr T p).1 with
  | false =>
    obtain ⟨hF, hE⟩ := g3 hwr
    obtain ⟨a', k1, k2, k3⟩ := bo_c10f (X := X) (b := b) (u := u) (e := e) (f := f) (d := d) (by omega) ho hF ((bo_Ee hE (by omega)).trans hw) (by omega) (y := be_i (T p))
    exact ⟨a', s1 k1, Or.inr ⟨_, k2, bo_EFt (bo_EEF hE) k3, bo_rc1 hpn hwr⟩⟩
  | true =>
    obtain ⟨hK, hE⟩ := g2 hwr
    by_cases hx : bo_dg (T (bo_wr T p).2)
    · obtain ⟨a2, v1, v2, v3⟩ := bo_180 (X := X) (b := b) (u := u) (e := e) (f := f) (d := d) (by omega) hK hx
      have nR := bo_nR hx
      have hE2 := bo_Et hE v3 (Nat.le_refl _)
      have hw2 : a2 3 o 2 = be_i (w : Int) := (bo_Ee hE2 (by omega)).trans hw
      have s2 : ∀ {τ : am_R}, am_fix (am_sem X d) X am_P173 14 [.inr (4, 0), am_I (be_i (T p)), am_un] [am_I (be_i (bo_nv T (bo_wr T p).2))] (am_sd a2 b u e f) = τ → am_sem X (d + 1) 173 [.inr (4, 0)] (am_sd a b u e f) = τ := by
        intro τ hτ
        refine s1 ?_
        rw [am_b173_10, v1, be_bi, hτ]
      by_cases h1 : T p = 104
      · have hwk : bo_wk T p = 2 := if_pos h1
        refine ⟨am_w3 a2 3 o 0 (be_i (bo_nv T (bo_wr T p).2)), s2 ?_, Or.inl ⟨bo_np T (bo_wr T p).2, bo_nv T (bo_wr T p).2, [], bo_Kw v2 (by omega), by omega, nR.1, nR.2.1, trivial, fun h => by omega, fun _ => rfl, ?_, ?_, ?_, bo_ECw (bo_ECE hE2) (by omega), bo_rc4 hpn hwr hq hx (by omega)⟩⟩
        · rw [am_b173_14, if_neg (fun h => h (by rw [h1])), ho, am_b173_88]
        · rw [if_pos hwk, be_w3s]
        · rw [if_neg (by omega), be_w3n _ _ _ _ _ _ _ _ (by omega), bo_Ee hE2 (by omega)]
        · rw [if_neg (by omega), be_w3n _ _ _ _ _ _ _ _ (by omega), hw2]
      · have n104 : ¬ be_i (T p) = be_i 104 := by rw [be_eq (by omega) (by omega) (by omega) (by omega)]; exact h1
        by_cases h2 : T p = 100
        · have hwk : bo_wk T p = 3 := (if_neg h1).trans ((if_neg (by omega)).trans (if_neg (by omega)))
          refine ⟨am_w3 a2 3 o 1 (be_i (be_clamp (bo_nv T (bo_wr T p).2))), s2 ?_, Or.inl ⟨bo_np T (bo_wr T p).2, bo_nv T (bo_wr T p).2, [], bo_Kw v2 (by omega), by omega, nR.1, nR.2.1, trivial, fun h => by omega, fun _ => rfl, ?_, ?_, ?_, bo_ECw (bo_ECE hE2) (by omega), bo_rc4 hpn hwr hq hx (by omega)⟩⟩
          · rw [am_b173_14, if_pos n104, if_neg (fun h => h (by rw [h2])), ho, bo_clm nR.1 nR.2.1, am_b173_88]
          · rw [if_neg (by omega), be_w3n _ _ _ _ _ _ _ _ (by omega), bo_Ee hE2 (by omega)]
          · rw [if_pos hwk, be_w3s]
          · rw [if_neg (by omega), be_w3n _ _ _ _ _ _ _ _ (by omega), hw2]
        · have n100 : ¬ be_i (T p) = be_i 100 := by rw [be_eq (by omega) (by omega) (by omega) (by omega)]; exact h2
          have h89 : T p = 108 ∨ T p = 109 := by
            by_cases h3 : T p = 108
            · exact Or.inl h3
            · by_cases h4 : T p = 109
              · exact Or.inr h4
              · exfalso
                have : bo_wr T p = (false, p) := by
                  unfold bo_wr bo_wi
                  rw [if_neg h1, if_neg h2, if_neg h3, if_neg h4, if_pos rfl]
                rw [this] at hwr
                cases hwr
          have hwk : bo_wk T p = if T p = 108 then 0 else 1 := by
            unfold bo_wk
            rw [if_neg h1]
            rcases h89 with h | h
            · rw [if_pos h, if_pos h]
            · rw [if_neg (by omega), if_pos h, if_neg (by omega)]
          have hk2 : bo_wk T p < 2 := by rw [hwk]; split <;> omega
          have s3 : ∀ {τ : am_R}, am_bv (am_sem X d 172 [.inr (4, 0), am_I (be_i (32))] (am_sd a2 b u e f)) (fun σ => am_fix (am_sem X d) X am_P173 64 [.inr (4, 0), am_I (be_i (T p)), am_I (be_i (bo_nv T (bo_wr T p).2))] [] σ) = τ → am_sem X (d + 1) 173 [.inr (4, 0)] (am_sd a b u e f) = τ := by
            intro τ hτ
            refine s2 ?_
            rw [am_b173_14, if_pos n104, if_pos n100, hτ]
          by_cases hb : T (bo_np T (bo_wr T p).2) = 32
          · have hl := bo_Tn hT (k := bo_np T (bo_wr T p).2) (by omega)
            have k3 := bo_adv v2 (by omega)
            obtain ⟨a4, m1, m2⟩ := bo_E3 (X := X) (n := n) (o := o) (p := bo_np T (bo_wr T p).2 + 1) (T := T) (d := d) (b := b) (u := u) (e := e) (f := f) (dd := 0) (by omega) (by omega) ho k3.1
            rw [show be_i ((0 : Nat) : Int) = be_i 0 from rfl] at m1
            have s4 : ∀ {τ : am_R}, am_fix (am_sem X d) X am_P173 69 [.inr (4, 0), am_I (be_i (T p)), am_I (be_i (bo_nv T (bo_wr T p).2))] [] (am_sd a4 b u e f) = τ → am_sem X (d + 1) 173 [.inr (4, 0)] (am_sd a b u e f) = τ := by
              intro τ hτ
              refine s3 ?_
              rw [bo_172y (by omega) v2 hb, be_bv, am_b173_64, m1, be_bv, hτ]
            rcases m2 with ⟨q', cs, ⟨o1, o2, o3, o4, o5, o6, o7⟩, N1, N2⟩ | ⟨q', o1, o2, o3⟩
            · have hE4 := bo_Et (bo_Et hE2 k3.2 (Nat.le_refl _)) o2 (Nat.le_refl _)
              have hw4 : a4 3 o 2 = be_i (w : Int) := (bo_Ee hE4 (by omega)).trans hw
              have w1 := bo_162 (X := X) (b := b) (u := u) (e := e) (f := f) (d := d) (by omega) hw4 (by omega) (v := be_i (if T p = 108 then bo_nv T (bo_wr T p).2 else -bo_nv T (bo_wr T p).2))
              refine ⟨am_w3 (am_w3 (am_w3 a4 14 o w (be_i (if T p = 108 then bo_nv T (bo_wr T p).2 else -bo_nv T (bo_wr T p).2))) 15 o w (a4 3 o 6)) 3 o 2 (be_i ((w : Int) + 1)), s4 ?_, Or.inl ⟨q', bo_nv T (bo_wr T p).2, cs, bo_Kw (bo_Kw (bo_Kw o1 (by omega)) (by omega)) (by omega), by omega, nR.1, nR.2.1, bo_acc (fun j h1 h2 => ?_) o3, fun _ => o6 0 (by omega), fun h => by omega, ?_, ?_, ?_, bo_ECw (bo_ECw (bo_ECw (bo_ECE hE4) (by omega)) (by omega)) (by omega), bo_rc8 hT hsp hpn hwr hqp hq hx hk2 hb o1.2.2.2.2.1 o1.2.2.2.2.2 N1 N2 o7⟩⟩
              · rw [am_b173_69, ho]
                by_cases h8 : T p = 108
                · rw [if_pos h8] at w1
                  rw [if_neg (fun h => h (by rw [h8])), w1, be_bv, am_b173_88, if_pos h8]
                · rw [if_neg h8] at w1
                  rw [if_pos (by rw [be_eq (by omega) (by omega) (by omega) (by omega)]; exact h8), be_neg, w1, be_bv, am_b173_88, if_neg h8]
              · rw [be_w3n _ _ _ _ _ _ _ _ (by omega), be_w3n _ _ _ _ _ _ _ _ (by omega), be_w3n _ _ _ _ _ _ _ _ (by omega)]
              · rw [if_neg (by omega : ¬ bo_wk T p = 2), be_w3n _ _ _ _ _ _ _ _ (by omega), be_w3n _ _ _ _ _ _ _ _ (by omega), be_w3n _ _ _ _ _ _ _ _ (by omega), bo_Ee hE4 (by omega)]
              · rw [if_neg (by omega : ¬ bo_wk T p = 3), be_w3n _ _ _ _ _ _ _ _ (by omega), be_w3n _ _ _ _ _ _ _ _ (by omega), be_w3n _ _ _ _ _ _ _ _ (by omega), bo_Ee hE4 (by omega)]
              · rw [if_pos hk2, be_w3s, be_w3n _ _ _ _ _ _ _ _ (by omega), be_w3n _ _ _ _ _ _ _ _ (by omega), be_w3s, be_w3n _ _ _ _ _ _ _ _ (by omega), be_w3s, o1.2.2.2.1, hwk]
                refine ⟨rfl, ?_, rfl⟩
                by_cases h8 : T p = 108
                · rw [if_pos h8, if_pos h8, if_pos rfl]
                · rw [if_neg h8, if_neg h8, if_neg (by decide)]
            · obtain ⟨a', k4, k5, k6⟩ := bo_c69f (X := X) (b := b) (u := u) (e := e) (f := f) (d := d) (by omega) ho o1 ((bo_Ee o2 (by omega)).trans ((bo_Ee k3.2 (by omega)).trans hw2)) (by omega) (y := be_i (T p)) (v := be_i (bo_nv T (bo_wr T p).2))
              exact ⟨a', s4 k4, Or.inr ⟨q', k5, bo_EFt (bo_EFt (bo_EFt (bo_EEF hE2) (bo_EEF k3.2)) (bo_EEF o2)) k6, bo_rc7 hT hsp hpn hwr hqp hq hx hk2 hb o3⟩⟩
          · obtain ⟨a', k4, k5, k6⟩ := bo_c64f (X := X) (b := b) (u := u) (e := e) (f := f) (d := d) (by omega) ho (bo_failK v2) ((be_w3n _ _ _ _ _ _ _ _ (by omega)).trans hw2) (by omega) (y := be_i (T p)) (v := be_i (bo_nv T (bo_wr T p).2))
            refine ⟨a', s3 ?_, Or.inr ⟨_, k5, bo_EFt (bo_EFt (bo_EEF hE2) (bo_EFw (by omega))) k6, bo_rc5 hT hpn hwr hq hx hk2 hb⟩⟩
            rw [bo_172n (by omega) v2 (by omega) (by omega) hb, be_bv, k4]
    · obtain ⟨a', k1, k2, k3⟩ := bo_c14f (X := X) (b := b) (u := u) (e := e) (f := f) (d := d) (by omega) ho (bo_failK hK) ((be_w3n _ _ _ _ _ _ _ _ (by omega)).trans ((bo_Ee hE (by omega)).trans hw)) (by omega) (y := be_i (T p)) (v := be_i 0)
      refine ⟨a', s1 ?_, Or.inr ⟨_, k2, bo_EFt (bo_EFt (bo_EEF hE) (bo_EFw (by omega))) k3, bo_rc2 hpn hwr hq hx⟩⟩
      rw [am_b173_10, bo_180n (by omega) hK hx, be_bi, k1]
