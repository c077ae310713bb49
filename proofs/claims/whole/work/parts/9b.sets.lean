/-! WAYS, 10: how many hours can have a room at all -/
/-- a way among rooms, 9: none -/
def bw_va (n : Nat) (A K : Nat → Nat → Bool) (z : Nat → Nat) : Prop := ∀ h, h < n → z h = 9 ∨ (A h (z h) = true ∧ ∀ o, o < h → z o = z h → K o h = false)
def bw_cz (z : Nat → Nat) (n : Nat) : Nat := be_cnt (fun h => decide (¬ z h = 9)) n
/-- the most hours that can have a room -/
def bw_MX (n : Nat) (A K : Nat → Nat → Bool) (M : Nat) : Prop := (∃ z, bw_va n A K z ∧ bw_cz z n = M) ∧ ∀ z, bw_va n A K z → bw_cz z n ≤ M
theorem bw_MX_u {n : Nat} {A K : Nat → Nat → Bool} {M M' : Nat} (h1 : bw_MX n A K M) (h2 : bw_MX n A K M') : M = M' := by
  obtain ⟨⟨z1, a1, a2⟩, a3⟩ := h1
  obtain ⟨⟨z2, b1, b2⟩, b3⟩ := h2
  have := a3 z2 b1
  have := b3 z1 a1
  omega
theorem bw_mono {nr : Nat} {F K : Nat → Nat → Bool} {W : Nat → Nat → Int} : ∀ (k g : Nat) (y : Nat → Nat) (c : Nat) (w : Int) (s : bw_S), s.1 ≤ (bw_sc true nr F K W k g y c w s).1
  | 0, g, y, c, w, s => by
    rw [bw_sc]
    unfold bw_leaf
    split
    · rename_i h
      rw [cond_true, decide_eq_true_iff] at h
      dsimp only
      omega
    · exact Int.le_refl _
  | k + 1, g, y, c, w, s => by
    rw [bw_sc]
    refine Int.le_trans ?_ (bw_mono k _ _ _ _ _)
    have key : ∀ m, s.1 ≤ (bw_fold (fun r s => bif bw_ok F K y g r then bw_sc true nr F K W k (g + 1) (am_u y g r) (c + 1) (w + W g r) s else s) m s).1 := by
      intro m
      induction m with
      | zero => exact Int.le_refl _
      | succ m ih =>
        rw [bw_fold]
        cases bw_ok F K y g m with
        | false => exact ih
        | true => exact Int.le_trans ih (bw_mono k _ _ _ _ _)
    exact key nr
theorem bw_foldmono {nr : Nat} {F K : Nat → Nat → Bool} {W : Nat → Nat → Int} (k g : Nat) (y : Nat → Nat) (c : Nat) (w : Int) (s : bw_S) {m : Nat} : ∀ {m' : Nat}, m ≤ m' → (bw_fold (fun r s => bif bw_ok F K y g r then bw_sc true nr F K W k (g + 1) (am_u y g r) (c + 1) (w + W g r) s else s) m s).1 ≤ (bw_fold (fun r s => bif bw_ok F K y g r then bw_sc true nr F K W k (g + 1) (am_u y g r) (c + 1) (w + W g r) s else s) m' s).1
  | 0, h => by rw [show m = 0 by omega]; exact Int.le_refl _
  | m' + 1, h => by
    by_cases e : m = m' + 1
    · rw [e]; exact Int.le_refl _
    · refine Int.le_trans (bw_foldmono k g y c w s (m' := m') (by omega)) ?_
      rw [bw_fold]
      cases bw_ok F K y g m' with
      | false => exact Int.le_refl _
      | true => exact bw_mono k _ _ _ _ _
theorem bw_upper {n nr : Nat} {F K : Nat → Nat → Bool} {W : Nat → Nat → Int} {z : Nat → Nat} (hz : bw_va n (fun h r => decide (r < nr) && F h r) K z) : ∀ (k g : Nat) (y : Nat → Nat) (c : Nat) (w : Int) (s : bw_S), g + k = n → (∀ o, o < g → y o = z o) → c = bw_cz z g → (bw_cz z n : Int) ≤ (bw_sc true nr F K W k g y c w s).1
  | 0, g, y, c, w, s, hg, hy, hc => by
    obtain rfl : g = n := hg
    rw [bw_sc, ← hc]
    unfold bw_leaf
    split
    · exact Int.le_refl _
    · rename_i h
      rw [cond_true, decide_eq_true_iff] at h
      omega
  | k + 1, g, y, c, w, s, hg, hy, hc => by
    have hcs : bw_cz z (g + 1) = bw_cz z g + (bif decide (¬ z g = 9) then 1 else 0) := rfl
    rw [bw_sc]
    rcases hz g (by omega) with h9 | ⟨hA, hK⟩
    · refine bw_upper hz k (g + 1) (am_u y g 9) c w _ (by omega) (fun o ho => ?_) ?_
      · rw [be_ub]
        by_cases e : o = g
        · subst e; rw [if_pos rfl, h9]
        · rw [if_neg e]; exact hy o (by omega)
      · rw [hcs, decide_eq_false (fun h => h h9), hc]; rfl
    · rw [Bool.and_eq_true, decide_eq_true_iff] at hA
      by_cases h9 : z g = 9
      · refine bw_upper hz k (g + 1) (am_u y g 9) c w _ (by omega) (fun o ho => ?_) ?_
        · rw [be_ub]
          by_cases e : o = g
          · subst e; rw [if_pos rfl, h9]
          · rw [if_neg e]; exact hy o (by omega)
        · rw [hcs, decide_eq_false (fun h => h h9), hc]; rfl
      · refine Int.le_trans ?_ (bw_mono k _ _ _ _ _)
        refine Int.le_trans ?_ (bw_foldmono k g y c w s (m := z g + 1) (by omega))
        rw [bw_fold]
        have hok : bw_ok F K y g (z g) = true := by
          unfold bw_ok
          rw [hA.2, Bool.true_and, Bool.not_eq_true', ← Bool.not_eq_true, be_any_iff]
          rintro ⟨o, ho, hq⟩
          rw [Bool.and_eq_true, decide_eq_true_iff, hy o ho] at hq
          rw [hK o ho hq.1] at hq
          exact Bool.noConfusion hq.2
        rw [hok, cond_true]
        refine bw_upper hz k (g + 1) (am_u y g (z g)) (c + 1) _ _ (by omega) (fun o ho => ?_) ?_
        · rw [be_ub]
          by_cases e : o = g
          · subst e; rw [if_pos rfl]
          · rw [if_neg e]; exact hy o (by omega)
        · rw [hcs, decide_eq_true h9, hc]; rfl
theorem bw_attain {n nr : Nat} (hnr : nr ≤ 8) {F K : Nat → Nat → Bool} {W : Nat → Nat → Int} : ∀ (k g : Nat) (y : Nat → Nat) (c : Nat) (w : Int) (s : bw_S), g + k = n → bw_va g (fun h r => decide (r < nr) && F h r) K y → c = bw_cz y g → (s.1 = -1 ∨ ∃ z, bw_va n (fun h r => decide (r < nr) && F h r) K z ∧ s.1 = (bw_cz z n : Int)) →
    ((bw_sc true nr F K W k g y c w s).1 = -1 ∨ ∃ z, bw_va n (fun h r => decide (r < nr) && F h r) K z ∧ (bw_sc true nr F K W k g y c w s).1 = (bw_cz z n : Int))
  | 0, g, y, c, w, s, hg, hy, hc, hs => by
    obtain rfl : g = n := hg
    rw [bw_sc]
    unfold bw_leaf
    split
    · exact Or.inr ⟨y, hy, by rw [← hc]⟩
    · exact hs
  | k + 1, g, y, c, w, s, hg, hy, hc, hs => by
    rw [bw_sc]
    have cong : ∀ r, bw_cz (am_u y g r) g = bw_cz y g := fun r => be_cnt_congr fun o ho => by rw [be_ub, if_neg (by omega)]
    have ext : ∀ r, (r = 9 ∨ ((decide (r < nr) && F g r) = true ∧ ∀ o, o < g → y o = r → K o g = false)) → bw_va (g + 1) (fun h r => decide (r < nr) && F h r) K (am_u y g r) := by
      intro r hr h hh
      by_cases e : h = g
      · subst e
        rw [be_ub, if_pos rfl]
        refine hr.imp id fun ⟨h1, h2⟩ => ⟨h1, fun o ho he => ?_⟩
        rw [be_ub, if_neg (by omega)] at he
        exact h2 o ho he
      · rw [be_ub, if_neg e]
        refine (hy h (by omega)).imp id fun ⟨h1, h2⟩ => ⟨h1, fun o ho he => ?_⟩
        rw [be_ub, if_neg (by omega)] at he
        exact h2 o ho he
    refine bw_attain hnr k (g + 1) (am_u y g 9) c w _ (by omega) (ext 9 (Or.inl rfl)) ?_ ?_
    · have : bw_cz (am_u y g 9) (g + 1) = bw_cz (am_u y g 9) g + (bif decide (¬ am_u y g 9 g = 9) then 1 else 0) := rfl
      rw [this, cong, be_ub, if_pos rfl, hc]
      rfl
    · have key : ∀ m, m ≤ nr → ((bw_fold (fun r s => bif bw_ok F K y g r then bw_sc true nr F K W k (g + 1) (am_u y g r) (c + 1) (w + W g r) s else s) m s).1 = -1 ∨ ∃ z, bw_va n (fun h r => decide (r < nr) && F h r) K z ∧ (bw_fold (fun r s => bif bw_ok F K y g r then bw_sc true nr F K W k (g + 1) (am_u y g r) (c + 1) (w + W g r) s else s) m s).1 = (bw_cz z n : Int)) := by
        intro m
        induction m with
        | zero => exact fun _ => hs
        | succ m ih =>
          intro hm
          rw [bw_fold]
          cases hok : bw_ok F K y g m with
          | false => exact ih (by omega)
          | true =>
            unfold bw_ok at hok
            rw [Bool.and_eq_true, Bool.not_eq_true', ← Bool.not_eq_true, be_any_iff] at hok
            refine bw_attain hnr k (g + 1) (am_u y g m) (c + 1) _ _ (by omega) (ext m (Or.inr ⟨by rw [decide_eq_true (by omega), hok.1]; rfl, fun o ho he => ?_⟩)) ?_ (ih (by omega))
            · rw [← Bool.not_eq_true]
              intro hK
              exact hok.2 ⟨o, ho, by rw [decide_eq_true he, hK]; rfl⟩
            · have : bw_cz (am_u y g m) (g + 1) = bw_cz (am_u y g m) g + (bif decide (¬ am_u y g m g = 9) then 1 else 0) := rfl
              rw [this, cong, be_ub, if_pos rfl, hc, decide_eq_true (by omega)]
              rfl
      exact key nr (Nat.le_refl nr)
/-- what the class's search counts is the most -/
theorem bw_sc_MX {n nr : Nat} (hnr : nr ≤ 8) {F K : Nat → Nat → Bool} {W : Nat → Nat → Int} (hW : ∀ h r, 0 ≤ W h r) : ∃ M : Nat, (bw_sc true nr F K W n 0 (fun _ => 9) 0 0 (-1, -1, fun _ => 9)).1 = (M : Int) ∧ bw_MX n (fun h r => decide (r < nr) && F h r) K M := by
  have h1 := (bw_sc_P (q := true) (nr := nr) (F := F) (K := K) (W := W) hW n 0 (fun _ => 9) 0 0 (-1, -1, fun _ => 9) (fun _ => Or.inl rfl) (Int.le_refl 0) ⟨Or.inr ⟨rfl, rfl⟩, fun _ => Or.inl rfl⟩).2
  have h2 := bw_attain (n := n) hnr (F := F) (K := K) (W := W) n 0 (fun _ => 9) 0 0 (-1, -1, fun _ => 9) (Nat.zero_add n) (fun h hh => by omega) rfl (Or.inl rfl)
  have h3 := fun (z : Nat → Nat) (hz : bw_va n (fun h r => decide (r < nr) && F h r) K z) => bw_upper (nr := nr) (F := F) (K := K) (W := W) (z := z) hz n 0 (fun _ => 9) 0 0 (-1, -1, fun _ => 9) (Nat.zero_add n) (fun o ho => by omega) rfl
  rcases h2 with h | ⟨z, z1, z2⟩
  · omega
  · refine ⟨bw_cz z n, z2, ⟨z, z1, rfl⟩, fun z' hz' => ?_⟩
    have := h3 z' hz'
    omega
/-! sets of hours as numbers -/
theorem bw_tb (T k : Nat) : decide ((T : Int) / ((2 ^ k : Nat) : Int) % 2 = 1) = T.testBit k := by
  rw [Nat.testBit_eq_decide_div_mod_eq, Bool.eq_iff_iff, decide_eq_true_iff, decide_eq_true_iff]
  constructor
  · intro h; exact_mod_cast h
  · intro h; exact_mod_cast h
/-- all of a set may share a room -/
def bw_sh (n T : Nat) (f : Nat → Bool) (K : Nat → Nat → Bool) : Prop := ∀ h, h < n → T.testBit h = true → f h = true ∧ ∀ o, h < o → o < n → T.testBit o = true → K h o = false
/-- a set of hours can have rooms -/
def bw_cs (n : Nat) (A K : Nat → Nat → Bool) (T : Nat) : Prop := ∃ z, bw_va n A K z ∧ ∀ h, h < n → (T.testBit h = true ↔ ¬ z h = 9)
/-- one room more -/
theorem bw_more {n : Nat} {A A' K : Nat → Nat → Bool} {f : Nat → Bool} {r : Nat} (hr : r < 9) (hA : ∀ h, A h r = false) (hA' : ∀ h s, A' h s = if s = r then f h else A h s) (hA9 : ∀ h, A h 9 = false) {T : Nat} (hT : T < 2 ^ n) :
    bw_cs n A' K T ↔ (bw_cs n A K T ∨ ∃ S, 1 ≤ S ∧ S < 2 ^ n ∧ bw_sh n S f K ∧ ∃ R, R < 2 ^ n ∧ R &&& S = 0 ∧ bw_cs n A K R ∧ R ||| S = T) := by
  constructor
  · rintro ⟨z, z1, z2⟩
    have hS : ∀ h, h < n → (be_bs (fun h => decide (z h = r)) n).testBit h = decide (z h = r) := fun h hh => by rw [be_bs_bit, decide_eq_true hh, Bool.true_and]
    have hR : ∀ h, h < n → (be_bs (fun h => decide (¬ z h = 9 ∧ ¬ z h = r)) n).testBit h = decide (¬ z h = 9 ∧ ¬ z h = r) := fun h hh => by rw [be_bs_bit, decide_eq_true hh, Bool.true_and]
    have big : ∀ (P : Nat → Bool) h, n ≤ h → (be_bs P n).testBit h = false := fun P h hh => by rw [be_bs_bit, decide_eq_false (by omega), Bool.false_and]
    have hTb : ∀ h, n ≤ h → T.testBit h = false := fun h hh => Nat.testBit_lt_two_pow (Nat.lt_of_lt_of_le hT (Nat.pow_le_pow_right (by decide) hh))
    have cs2 : bw_cs n A K (be_bs (fun h => decide (¬ z h = 9 ∧ ¬ z h = r)) n) := by
      refine ⟨fun h => if z h = r then 9 else z h, fun h hh => ?_, fun h hh => ?_⟩
      · dsimp only
        by_cases e : z h = r
        · rw [if_pos e]; exact Or.inl rfl
        · rw [if_neg e]
          rcases z1 h hh with t | ⟨t1, t2⟩
          · exact Or.inl t
          · rw [hA', if_neg e] at t1
            refine Or.inr ⟨t1, fun o ho he => ?_⟩
            by_cases e2 : z o = r
            · rw [if_pos e2] at he
              rw [← he, hA9] at t1
              exact Bool.noConfusion t1
            · rw [if_neg e2] at he
              exact t2 o ho he
      · rw [hR h hh, decide_eq_true_iff]
        dsimp only
        by_cases e : z h = r
        · rw [if_pos e]
          constructor
          · rintro ⟨-, h2⟩; exact absurd e h2
          · intro h2; exact absurd rfl h2
        · rw [if_neg e]
          exact ⟨fun h2 => h2.1, fun h2 => ⟨h2, e⟩⟩
    have un : be_bs (fun h => decide (¬ z h = 9 ∧ ¬ z h = r)) n ||| be_bs (fun h => decide (z h = r)) n = T := by
      refine Nat.eq_of_testBit_eq fun h => ?_
      rw [Nat.testBit_or]
      by_cases hh : h < n
      · rw [hR h hh, hS h hh, Bool.eq_iff_iff, Bool.or_eq_true, decide_eq_true_iff, decide_eq_true_iff, z2 h hh]
        constructor
        · rintro (h2 | h2)
          · exact h2.1
          · omega
        · intro h2
          by_cases e : z h = r
          · exact Or.inr e
          · exact Or.inl ⟨h2, e⟩
      · rw [big _ h (by omega), big _ h (by omega), hTb h (by omega)]; rfl
    by_cases h0 : be_bs (fun h => decide (z h = r)) n = 0
    · rw [h0, Nat.or_zero] at un
      rw [← un]
      exact Or.inl cs2
    · refine Or.inr ⟨be_bs (fun h => decide (z h = r)) n, by omega, be_bs_lt _ _, fun h hh hb => ?_, be_bs (fun h => decide (¬ z h = 9 ∧ ¬ z h = r)) n, be_bs_lt _ _, ?_, cs2, un⟩
      · rw [hS h hh, decide_eq_true_iff] at hb
        refine ⟨?_, fun o h1 h2 h3 => ?_⟩
        · rcases z1 h hh with t | ⟨t1, -⟩
          · omega
          · rw [hA', if_pos hb] at t1; exact t1
        · rw [hS o h2, decide_eq_true_iff] at h3
          rcases z1 o h2 with t | ⟨-, t2⟩
          · omega
          · exact t2 h h1 (by omega)
      · refine Nat.eq_of_testBit_eq fun h => ?_
        rw [Nat.testBit_and, Nat.zero_testBit]
        by_cases hh : h < n
        · rw [hR h hh, hS h hh]
          by_cases e : z h = r
          · rw [decide_eq_false (fun h2 => h2.2 e)]; rfl
          · rw [decide_eq_false e, Bool.and_false]
        · rw [big _ h (by omega)]; rfl
  · rintro (⟨z, z1, z2⟩ | ⟨S, S1, S2, S3, R, R1, R2, ⟨z, z1, z2⟩, R4⟩)
    · refine ⟨z, fun h hh => (z1 h hh).imp id fun ⟨t1, t2⟩ => ⟨?_, t2⟩, z2⟩
      rw [hA', if_neg (fun e => by rw [e, hA] at t1; exact Bool.noConfusion t1)]
      exact t1
    · refine ⟨fun h => if S.testBit h = true then r else z h, fun h hh => ?_, fun h hh => ?_⟩
      · dsimp only
        by_cases e : S.testBit h = true
        · rw [if_pos e]
          refine Or.inr ⟨by rw [hA', if_pos rfl]; exact (S3 h hh e).1, fun o ho he => ?_⟩
          by_cases e2 : S.testBit o = true
          · exact (S3 o (by omega) e2).2 h ho hh e
          · rw [if_neg e2] at he
            rcases z1 o (by omega) with t | ⟨t1, -⟩
            · omega
            · rw [he, hA] at t1; exact Bool.noConfusion t1
        · rw [if_neg e]
          rcases z1 h hh with t | ⟨t1, t2⟩
          · exact Or.inl t
          · have nr : ¬ z h = r := fun e3 => by rw [e3, hA] at t1; exact Bool.noConfusion t1
            refine Or.inr ⟨by rw [hA', if_neg nr]; exact t1, fun o ho he => ?_⟩
            by_cases e2 : S.testBit o = true
            · rw [if_pos e2] at he; exact absurd he.symm nr
            · rw [if_neg e2] at he; exact t2 o ho he
      · dsimp only
        rw [← R4, Nat.testBit_or, Bool.or_eq_true, z2 h hh]
        by_cases e : S.testBit h = true
        · rw [if_pos e]
          exact ⟨fun _ => by omega, fun _ => Or.inr e⟩
        · rw [if_neg e]
          exact ⟨fun h2 => h2.elim id fun h3 => absurd h3 e, fun h2 => Or.inl h2⟩
theorem bw_bits (T : Nat) : ∀ n, be_bits (T : Int) n = be_cnt (fun h => T.testBit h) n
  | 0 => rfl
  | n + 1 => by
    have h := bw_tb T n
    rw [be_bits, be_cnt, bw_bits T n]
    cases hb : T.testBit n with
    | false =>
      rw [hb, decide_eq_false_iff_not] at h
      rw [if_neg h]; rfl
    | true =>
      rw [hb, decide_eq_true_iff] at h
      rw [if_pos h]; rfl
/-- the most by sets -/
theorem bw_cs_bits {n : Nat} (hn : n ≤ 6) {A K : Nat → Nat → Bool} {T : Nat} (hT : T < 2 ^ n) {z : Nat → Nat} (hz : ∀ h, h < n → (T.testBit h = true ↔ ¬ z h = 9)) : be_bits (T : Int) 6 = bw_cz z n := by
  rw [bw_bits, be_cnt_ext (m := n) (by omega) (fun i h1 _ => Nat.testBit_lt_two_pow (Nat.lt_of_lt_of_le hT (Nat.pow_le_pow_right (by decide) h1)))]
  refine be_cnt_congr fun h hh => ?_
  rw [Bool.eq_iff_iff, decide_eq_true_iff]
  exact hz h hh
theorem bw_cs_MX {n : Nat} (hn : n ≤ 6) {A K : Nat → Nat → Bool} {M : Nat} (h1 : ∃ T, T < 2 ^ n ∧ bw_cs n A K T ∧ be_bits (T : Int) 6 = M) (h2 : ∀ T : Nat, T < 2 ^ n → bw_cs n A K T → be_bits (T : Int) 6 ≤ M) : bw_MX n A K M := by
  obtain ⟨T, t1, ⟨z, z1, z2⟩, t3⟩ := h1
  refine ⟨⟨z, z1, ?_⟩, fun z' hz' => ?_⟩
  · rw [← t3, bw_cs_bits (A := A) (K := K) hn t1 z2]
  · have hb : ∀ h, h < n → ((be_bs (fun h => decide (¬ z' h = 9)) n).testBit h = true ↔ ¬ z' h = 9) := fun h hh => by rw [be_bs_bit, decide_eq_true hh, Bool.true_and, decide_eq_true_iff]
    have := h2 _ (be_bs_lt _ _) ⟨z', hz', hb⟩
    rw [bw_cs_bits (A := A) (K := K) hn (be_bs_lt _ _) hb] at this
    exact this
