/-! WAYS, 14: roomy of the reference; more -/
variable {d : Nat} {X : am_X} {a : Nat → Nat → Nat → Int32} {b : Nat → Nat → Nat → Int64} {u : Nat → Nat} {e : Nat → Nat → Nat → Int32} {f : Nat → Nat → Nat → Int64}
theorem bw_E_45 {e1 e2 : Nat → Nat → Nat → Int32} (h : bw_F45 e1 e2) (hE : bw_E e e1) : bw_E e e2 := fun c j c1 c2 c3 c4 c5 c6 c7 c8 c9 => (h c j c7 c8).trans (hE c j c1 c2 c3 c4 c5 c6 c7 c8 c9)
theorem bw_RL_45 {e1 e2 : Nat → Nat → Nat → Int32} {n : Nat} {F K : Nat → Nat → Bool} (h : bw_F45 e1 e2) (hR : bw_RL e1 n F K) : bw_RL e2 n F K := bw_RL_t (fun c j hc => h c j (by omega) (by omega)) hR
/-- laid out -/
theorem bw_laid (hd : 6 ≤ d) (hW : be_W e) (hT : be_T3 e) {e0 : Nat → Nat → Nat → Int32} (hE0 : bw_E e e0) : ∃ e', am_sem X d 60 [.inr (50, 0)] (am_sd a b u e0 f) = some (none, am_sd a b u e' f) ∧ bw_E e e' ∧ bw_RL e' (be_nh e) (bw_F e) (be_cl e) ∧ (∀ c j, c ≠ 68 → c ≠ 71 → c ≠ 72 → c ≠ 73 → be_g e' c j = be_g e0 c j) := by
  obtain ⟨e', g1, g2, g3⟩ := bw_m60 (X := X) (a := a) (b := b) (u := u) (e := e) (f := f) (d := d) hd hW hT hE0
  have EL : bw_E e e' := fun c j c1 c2 c3 c4 c5 c6 c7 c8 c9 => (g2 c j c1 c4 c5 c6).trans (hE0 c j c1 c2 c3 c4 c5 c6 c7 c8 c9)
  exact ⟨e', g1, EL, bw_LF_RL hW (EL 50 2 (by decide) (by decide) (by decide) (by decide) (by decide) (by decide) (by decide) (by decide) (by omega)) g3, g2⟩
theorem bw_E0 {e1 : Nat → Nat → Nat → Int32} (hE : bw_E e e1) : be_g e1 50 0 = be_g e 50 0 := hE 50 0 (by decide) (by decide) (by decide) (by decide) (by decide) (by decide) (by decide) (by decide) (by omega)
theorem bw_roomyR (hd : 8 ≤ d) (hW : be_W e) (hT : be_T3 e) {all : Nat} (hall : all = 2 ^ be_nr e - 1) {due : Nat} (hdue : due = bw_Mx (be_nh e) (bw_AH e all) (be_cl e)) :
    ∃ (e' : Nat → Nat → Nat → Int32) (B : Nat), am_sem X d 72 [.inr (50, 0)] (am_sd a b u e f) = some (some (am_I (be_i (B : Int))), am_sd a b u e' f) ∧ bw_E e e' ∧ bw_Mx (be_nh e) (bw_AH e B) (be_cl e) = due ∧ B ≤ all ∧ ∀ s, s ≤ all → bw_Mx (be_nh e) (bw_AH e s) (be_cl e) = due → bw_le B s := by
  obtain ⟨d, rfl⟩ : ∃ q, d = q + 1 := ⟨d - 1, by omega⟩
  obtain ⟨nr, nr2⟩ := be_nrR hW
  have hp : 2 ^ be_nr e ≤ 2 ^ 4 := Nat.pow_le_pow_right (by decide) nr
  obtain ⟨e1, l1, l2, l3, -⟩ := bw_laid (X := X) (a := a) (b := b) (u := u) (e := e) (f := f) (d := d) (by omega) hW hT (e0 := e) (fun _ _ _ _ _ _ _ _ _ _ _ => rfl)
  have al : ∀ {e2}, bw_E e e2 → am_sem X d 71 [.inr (50, 0)] (am_sd a b u e2 f) = some (some (am_I (be_i (all : Int))), am_sd a b u e2 f) := fun {e2} hE => by
    rw [hall]
    exact be_m71 (X := X) (a := a) (b := b) (u := u) (e := e2) (f := f) (d := d) (by omega) nr (by rw [bw_E0 hE, nr2])
  obtain ⟨e2, m1, m2, m3, m4, -⟩ := bw_countR (X := X) (a := a) (b := b) (u := u) (e := e) (f := f) (d := d) (e0 := e1) (by omega) hW l3 (bw_E0 l2) (S := all) (by omega)
  rw [← hdue] at m1 m3 m4
  have hb6 : ∀ k : Nat, be_bits (k : Int) 6 ≤ 6 := fun k => be_bits_le _ 6
  have key : ∀ (k : Nat) (z : Int) (B : Nat) (e3 : Nat → Nat → Nat → Int32), k ≤ all + 1 → z = (k : Int) - 1 → bw_E e e3 → bw_RL e3 (be_nh e) (bw_F e) (be_cl e) → bw_Mx (be_nh e) (bw_AH e B) (be_cl e) = due → B ≤ all → (k ≤ B ∨ (k = all + 1 ∧ B = all)) → (∀ s, k ≤ s → s ≤ all → bw_Mx (be_nh e) (bw_AH e s) (be_cl e) = due → bw_le B s) →
      ∃ (e' : Nat → Nat → Nat → Int32) (B' : Nat), am_fix (am_sem X d) X am_P72 23 [.inr (50, 0), am_I (be_i ((due : Int))), am_I (be_i ((B : Int))), am_I (be_i (z))] [] (am_sd a b u e3 f) = some (some (am_I (be_i (B' : Int))), am_sd a b u e' f) ∧ bw_E e e' ∧ bw_Mx (be_nh e) (bw_AH e B') (be_cl e) = due ∧ B' ≤ all ∧ ∀ s, s ≤ all → bw_Mx (be_nh e) (bw_AH e s) (be_cl e) = due → bw_le B' s := by
    intro k
    induction k with
    | zero =>
      rintro z B e3 hk rfl hE hR h3 h4 h5 h6
      refine ⟨e3, B, ?_, hE, h3, h4, fun s hs hg => h6 s (by omega) hs hg⟩
      rw [am_b72_23, if_pos (by decide)]
    | succ k ih =>
      rintro z B e3 hk rfl hE hR h3 h4 h5 h6
      have hz : ((k + 1 : Nat) : Int) - 1 = (k : Int) := by omega
      have w1 : ¬ be_i (k : Int) < (0 : Int32) := by rw [be_0, be_lt (by omega) (by omega) (by omega) (by omega)]; omega
      have c1 := be_m4 (X := X) (a := a) (b := b) (u := u) (e := e3) (f := f) (d := d) (x := (k : Int)) (by omega) (by omega) (by omega)
      have c2 := be_m4 (X := X) (a := a) (b := b) (u := u) (e := e3) (f := f) (d := d) (x := (B : Int)) (by omega) (by omega) (by omega)
      have k6 := hb6 k
      have B6 := hb6 B
      have sub1 : be_i (k : Int) + be_i (-1) = be_i ((k : Int) - 1) := be_add _ _
      by_cases hc : be_bits (B : Int) 6 < be_bits (k : Int) 6
      · obtain ⟨e', B', g1, g2⟩ := ih ((k : Int) - 1) B e3 (by omega) rfl hE hR h3 h4 (by
          rcases h5 with h | ⟨h, h'⟩
          · omega
          · have : k = all := by omega
            subst this; subst h'; omega) (fun s hs1 hs2 hg => by
          by_cases e1 : s = k
          · subst e1; exact Or.inl hc
          · exact h6 s (by omega) hs2 hg)
        refine ⟨e', B', ?_, g2⟩
        rw [hz, am_b72_23, if_neg w1, c1, be_bi, am_b72_32, c2, be_bi, am_b72_37, if_pos (by rw [be_lt (by omega) (by omega) (by omega) (by omega)]; omega), sub1]
        exact g1
      · obtain ⟨e4, t1, t2, t3, t4, -⟩ := bw_countR (X := X) (a := a) (b := b) (u := u) (e := e) (f := f) (d := d) (e0 := e3) (by omega) hW hR (bw_E0 hE) (S := k) (by omega)
        have hle : bw_Mx (be_nh e) (bw_AH e k) (be_cl e) ≤ due := bw_MX_mono (fun h r hh => by
          rw [← bw_AH_e] at hh ⊢
          rw [Bool.and_eq_true, Bool.and_eq_true] at hh
          dsimp only
          rw [hall, bw_all_bit, hh.1, hh.2.1]
          rfl) t4 m4
        have head : am_fix (am_sem X d) X am_P72 23 [.inr (50, 0), am_I (be_i ((due : Int))), am_I (be_i ((B : Int))), am_I (be_i (((k + 1 : Nat) : Int) - 1))] [] (am_sd a b u e3 f) = am_fix (am_sem X d) X am_P72 45 [.inr (50, 0), am_I (be_i ((due : Int))), am_I (be_i ((B : Int))), am_I (be_i ((k : Int)))] [am_I (be_i ((bw_Mx (be_nh e) (bw_AH e k) (be_cl e) : Int)))] (am_sd a b u e4 f) := by
          rw [hz, am_b72_23, if_neg w1, c1, be_bi, am_b72_32, c2, be_bi, am_b72_37, if_neg (by rw [be_lt (by omega) (by omega) (by omega) (by omega)]; omega), t1, be_bi]
        by_cases hg : bw_Mx (be_nh e) (bw_AH e k) (be_cl e) = due
        · obtain ⟨e', B', g1, g2⟩ := ih ((k : Int) - 1) k e4 (by omega) rfl (bw_E_45 t2 hE) (bw_RL_45 t2 hR) hg (by omega) (by omega) (fun s hs1 hs2 hgs => by
            by_cases e1 : s = k
            · subst e1; unfold bw_le; omega
            · have := h6 s (by omega) hs2 hgs
              unfold bw_le at this ⊢
              omega)
          refine ⟨e', B', ?_, g2⟩
          rw [head, am_b72_45, if_neg (by rw [hg]; exact Int32.lt_irrefl), sub1]
          exact g1
        · have hlt : bw_Mx (be_nh e) (bw_AH e k) (be_cl e) < due := by omega
          have hka : ¬ k = all := fun h => hg (by rw [h]; exact hdue.symm)
          obtain ⟨e', B', g1, g2⟩ := ih ((k : Int) - 1) B e4 (by omega) rfl (bw_E_45 t2 hE) (bw_RL_45 t2 hR) h3 h4 (by omega) (fun s hs1 hs2 hgs => by
            by_cases e1 : s = k
            · subst e1; exact absurd hgs hg
            · exact h6 s (by omega) hs2 hgs)
          refine ⟨e', B', ?_, g2⟩
          rw [head, am_b72_45, if_pos (by rw [be_lt (by omega) (by omega) (by omega) (by omega)]; omega), sub1]
          exact g1
  have E2 := bw_E_45 m2 l2
  obtain ⟨e', B, g1, g2⟩ := key (all + 1) (all : Int) all e2 (Nat.le_refl _) (by omega) E2 (bw_RL_45 m2 l3) hdue.symm (Nat.le_refl _) (Or.inr ⟨rfl, rfl⟩) (fun s h1 h2 => by omega)
  refine ⟨e', B, ?_, g2⟩
  rw [am_s72, l1, be_bv, am_b72_4, al l2, be_bi, am_b72_9, m1, be_bi, am_b72_12, al E2, be_bi, am_b72_17, al E2, be_bi, am_b72_22]
  exact g1
/-- another name for a room -/
theorem bw_ren {n p q : Nat} {A A' K : Nat → Nat → Bool} {M : Nat} (hp : p < 9) (hq : q < 9) (h1 : ∀ h, A h p = A' h q) (h2 : ∀ h s, s ≠ p → s ≠ q → A h s = A' h s) (h3 : p ≠ q → ∀ h, A h q = false) (h4 : p ≠ q → ∀ h, A' h p = false) (hM : bw_MX n A K M) : bw_MX n A' K M := by
  have tr : ∀ (p q : Nat) (A A' : Nat → Nat → Bool), p < 9 → q < 9 → (∀ h, A h p = A' h q) → (∀ h s, s ≠ p → s ≠ q → A h s = A' h s) → (p ≠ q → ∀ h, A h q = false) → ∀ z, bw_va n A K z → ∃ z', bw_va n A' K z' ∧ bw_cz z' n = bw_cz z n := by
    intro p q A A' hp hq h1 h2 h3 z hz
    refine ⟨fun h => if z h = p then q else z h, fun h hh => ?_, be_cnt_congr fun h hh => ?_⟩
    · dsimp only
      rcases hz h hh with t | ⟨t1, t2⟩
      · rw [if_neg (by omega)]; exact Or.inl t
      · by_cases e : z h = p
        · rw [if_pos e]
          rw [e, h1] at t1
          refine Or.inr ⟨t1, fun o ho he => ?_⟩
          by_cases e2 : z o = p
          · exact t2 o ho (by omega)
          · rw [if_neg e2] at he
            rcases hz o (by omega) with s | ⟨s1, -⟩
            · omega
            · rw [he, h3 (by omega)] at s1; exact Bool.noConfusion s1
        · rw [if_neg e]
          by_cases e9 : z h = 9
          · exact Or.inl e9
          · by_cases eq : z h = q
            · rw [eq, h3 (by omega)] at t1; exact Bool.noConfusion t1
            · refine Or.inr ⟨by rw [← h2 h _ e eq]; exact t1, fun o ho he => ?_⟩
              by_cases e2 : z o = p
              · rw [if_pos e2] at he; exact absurd he.symm eq
              · rw [if_neg e2] at he; exact t2 o ho he
    · rw [Bool.eq_iff_iff, decide_eq_true_iff, decide_eq_true_iff]
      dsimp only
      by_cases e : z h = p
      · rw [if_pos e]; omega
      · rw [if_neg e]
  obtain ⟨⟨z, z1, z2⟩, z3⟩ := hM
  obtain ⟨z', y1, y2⟩ := tr p q A A' hp hq h1 h2 h3 z z1
  refine ⟨⟨z', y1, by omega⟩, fun w hw => ?_⟩
  obtain ⟨w', x1, x2⟩ := tr q p A' A hq hp (fun h => (h1 h).symm) (fun h s s1 s2 => (h2 h s s2 s1).symm) (fun hn h => h4 (fun h => hn h.symm) h) w hw
  have := z3 w' x1
  omega
