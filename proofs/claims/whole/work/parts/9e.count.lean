/-! WAYS, 13: how many, on both sides; roomy -/
variable {d : Nat} {X : am_X} {a : Nat → Nat → Nat → Int32} {b : Nat → Nat → Nat → Int64} {u : Nat → Nat} {e : Nat → Nat → Nat → Int32} {f : Nat → Nat → Nat → Int64}
theorem be_m111 (hd : 1 ≤ d) {k : Nat} (hk : k < 32) : am_sem X d 111 [am_I (be_i ((k : Int)))] (am_sd a b u e f) = some (some (am_I (be_i ((be_bits (k : Int) 6 : Int)))), (am_sd a b u e f)) := by
  obtain ⟨d, rfl⟩ : ∃ q, d = q + 1 := ⟨d - 1, by omega⟩
  rw [am_s111]
  refine congrArg (fun v => some (some (am_I v), am_sd a b u e f)) ?_
  clear hd
  revert k
  decide +kernel
theorem bw_ALS : ∀ S : Nat, S < 32 → bw_AL (be_i (S : Int)) (fun r => S.testBit r) := by
  have key : ∀ S : Nat, S < 32 → ∀ r : Nat, r < 5 → be_i (S : Int) &&& (be_i 1 <<< (be_i (r : Int) &&& be_i 31)) = if S.testBit r then be_i ((2 ^ r : Nat) : Int) else be_i 0 := by decide +kernel
  exact key
noncomputable def bw_Mx (n : Nat) (A K : Nat → Nat → Bool) : Nat := Classical.epsilon (fun M => bw_MX n A K M)
theorem bw_Mx_of {n : Nat} {A K : Nat → Nat → Bool} {M : Nat} (h : bw_MX n A K M) : bw_Mx n A K = M ∧ bw_MX n A K (bw_Mx n A K) := by
  have h2 : bw_MX n A K (bw_Mx n A K) := Classical.epsilon_spec (p := fun M => bw_MX n A K M) ⟨M, h⟩
  exact ⟨bw_MX_u h2 h, h2⟩
theorem bw_MX_mono {n : Nat} {A A' K : Nat → Nat → Bool} {M M' : Nat} (hA : ∀ h r, A h r = true → A' h r = true) (h1 : bw_MX n A K M) (h2 : bw_MX n A' K M') : M ≤ M' := by
  obtain ⟨⟨z, z1, z2⟩, -⟩ := h1
  rw [← z2]
  exact h2.2 z fun h hh => (z1 h hh).imp id fun ⟨t1, t2⟩ => ⟨hA h _ t1, t2⟩
/-- the rooms of a set, in a house -/
def bw_AH (e : Nat → Nat → Nat → Int32) (S : Nat) : Nat → Nat → Bool := bw_AS (bw_F e) S (be_nr e)
theorem bw_AH_e (e : Nat → Nat → Nat → Int32) (S : Nat) : (fun h r => decide (r < be_nr e) && (be_fit e h r && S.testBit r)) = bw_AH e S := by
  funext h r
  unfold bw_AH bw_AS bw_F
  by_cases h1 : r < be_nr e
  · rw [decide_eq_true h1]; cases be_fit e h r <;> cases S.testBit r <;> rfl
  · rw [decide_eq_false h1]; rfl
theorem bw_all_bit {n r : Nat} : (2 ^ n - 1).testBit r = decide (r < n) := Nat.testBit_two_pow_sub_one n r
theorem bw_AH_all (e : Nat → Nat → Nat → Int32) : (fun h r => decide (r < be_nr e) && (be_fit e h r && true)) = bw_AH e (2 ^ be_nr e - 1) := by
  rw [← bw_AH_e]
  funext h r
  rw [bw_all_bit]
  by_cases h1 : r < be_nr e
  · rw [decide_eq_true h1]
  · rw [decide_eq_false h1]; rfl
/-- the class's count, of a house -/
theorem bw_count {e0 : Nat → Nat → Nat → Int32} (hd : 11 ≤ d) {i : Nat} (hi : i < 3) (hW : be_W e) (hW2 : be_W2 e) (hT : be_T3 e) (hX : be_HX a u i e) (h8 : be_I8 b) {al : Int32} {Al : Nat → Bool} (hal : bw_AL al Al) {S : Nat} (hS : (fun h r => decide (r < be_nr e) && (be_fit e h r && Al r)) = bw_AH e S) :
    ∃ a' b', am_sem X d 199 [.inr (8, 0), .inr (2, i), am_I al, am_I (be_i (1))] (am_sd a b u e0 f) = some (some (am_I (be_i (bw_Mx (be_nh e) (bw_AH e S) (be_cl e) : Int))), am_sd a' b' u e0 f) ∧ bw_Fa a a' ∧ (∀ c k j, c ≠ 25 → b' c k j = b c k j) ∧ bw_MX (be_nh e) (bw_AH e S) (be_cl e) (bw_Mx (be_nh e) (bw_AH e S) (be_cl e)) := by
  obtain ⟨nh, nh2⟩ := be_nhR hW
  obtain ⟨nr, nr2⟩ := be_nrR hW
  obtain ⟨d, rfl⟩ : ∃ q, d = q + 2 := ⟨d - 2, by omega⟩
  obtain ⟨a', b', g1, g2, g3, g4⟩ := bw_search (X := X) (a := a) (b := b) (u := u) (e := e0) (f := f) (d := d) (by omega) hal (bw_HCof (X := X) (a := a) (u := u) (e := e) (f := f) (d := d) (e0 := e0) (by omega) hi hW hW2 hT hX) (bw_hK hW) h8 true
  obtain ⟨M, m1, m2⟩ := bw_sc_MX (n := be_nh e) (nr := be_nr e) (by omega) (F := fun h r => be_fit e h r && Al r) (K := be_cl e) (W := bw_W e) (fun h r => (be_woR hT _).1)
  rw [hS] at m2
  obtain ⟨m3, m4⟩ := bw_Mx_of m2
  rw [m1, ← m3] at g1
  exact ⟨a', b', g1, g2, g3, m4⟩
/-- the reference's count -/
theorem bw_countR {e0 : Nat → Nat → Nat → Int32} (hd : 5 ≤ d) (hW : be_W e) (hR : bw_RL e0 (be_nh e) (bw_F e) (be_cl e)) (h0 : be_g e0 50 0 = be_g e 50 0) {S : Nat} (hS : S < 64) :
    ∃ e', am_sem X d 70 [.inr (50, 0), am_I (be_i ((S : Int)))] (am_sd a b u e0 f) = some (some (am_I (be_i (bw_Mx (be_nh e) (bw_AH e S) (be_cl e) : Int))), am_sd a b u e' f) ∧ bw_F45 e0 e' ∧ bw_Mx (be_nh e) (bw_AH e S) (be_cl e) ≤ 6 ∧ bw_MX (be_nh e) (bw_AH e S) (be_cl e) (bw_Mx (be_nh e) (bw_AH e S) (be_cl e)) ∧ bw_can e' (be_nh e) (bw_AH e S) (be_cl e) := by
  obtain ⟨nr, nr2⟩ := be_nrR hW
  obtain ⟨e', M, g1, g2, g3, g4, g5⟩ := bw_m70 (X := X) (a := a) (b := b) (u := u) (e := e0) (f := f) (d := d) hd (nr := be_nr e) (S := S) nr (by rw [h0, nr2]) hS hR
  obtain ⟨m3, m4⟩ := bw_Mx_of g4
  unfold bw_AH
  rw [m3]
  exact ⟨e', g1, g2, g3, g4, g5⟩
theorem be_m71 (hd : 1 ≤ d) {nr : Nat} (hnr : nr ≤ 4) (h0 : be_g e 50 0 = (nr : Int)) : am_sem X d 71 [.inr (50, 0)] (am_sd a b u e f) = some (some (am_I (be_i (((2 ^ nr - 1 : Nat) : Int)))), (am_sd a b u e f)) := by
  obtain ⟨d, rfl⟩ : ∃ q, d = q + 1 := ⟨d - 1, by omega⟩
  have q0 : e 50 0 0 = be_i (nr : Int) := by rw [be_gI e, h0]
  rw [am_s71, q0]
  refine congrArg (fun v => some (some (am_I v), am_sd a b u e f)) ?_
  clear hd h0 q0
  revert nr
  decide +kernel
/-! of several sets the least -/
def bw_le (B s : Nat) : Prop := be_bits (B : Int) 6 < be_bits (s : Int) 6 ∨ (be_bits (B : Int) 6 = be_bits (s : Int) 6 ∧ B ≤ s)
theorem bw_le_all : ∀ nr, nr ≤ 4 → ∀ k : Nat, k < 2 ^ nr - 1 → be_bits (k : Int) 6 < be_bits ((2 ^ nr - 1 : Nat) : Int) 6 := by decide +kernel
theorem bw_le_u {G : Nat → Prop} {all B B' : Nat} (h1 : G B ∧ B ≤ all) (h2 : G B' ∧ B' ≤ all) (m1 : ∀ s, s ≤ all → G s → bw_le B s) (m2 : ∀ s, s ≤ all → G s → bw_le B' s) : B = B' := by
  have a := m1 B' h2.2 h2.1
  have b := m2 B h1.2 h1.1
  unfold bw_le at a b
  omega
theorem bw_roomyC (hd : 12 ≤ d) (hI : be_IV a b u e f) {all : Nat} (hall : all = 2 ^ be_nr e - 1) {due : Nat} (hdue : due = bw_Mx (be_nh e) (bw_AH e all) (be_cl e)) :
    ∃ (a' : Nat → Nat → Nat → Int32) (b' : Nat → Nat → Nat → Int64) (B : Nat), am_sem X d 224 [.inr (9, 0)] (am_sd a b u e f) = some (some (am_I (be_i (B : Int))), am_sd a' b' u e f) ∧ bw_Fa a a' ∧ (∀ c k j, c ≠ 25 → b' c k j = b c k j) ∧ bw_Mx (be_nh e) (bw_AH e B) (be_cl e) = due ∧ B ≤ all ∧ ∀ s, s ≤ all → bw_Mx (be_nh e) (bw_AH e s) (be_cl e) = due → bw_le B s := by
  obtain ⟨d, rfl⟩ : ∃ q, d = q + 1 := ⟨d - 1, by omega⟩
  obtain ⟨hW, hW2, hT, hh, hD, hth, hX⟩ := hI.1
  obtain ⟨nr, nr2⟩ := be_nrR hW
  have h8 := hI.2.2.2.2.2.2.2.1
  have hp : 2 ^ be_nr e ≤ 2 ^ 4 := Nat.pow_le_pow_right (by decide) nr
  have bIV : ∀ {a1 b1}, bw_Fa a a1 → (∀ c k j, c ≠ 25 → b1 c k j = b c k j) → be_HX a1 u 0 e ∧ be_I8 b1 := fun hf hb =>
    ⟨be_I1_a (fun c k j hc => hf c k j (by unfold be_inH at hc; omega) (by unfold be_inH at hc; omega) (by unfold be_inH at hc; omega) (by unfold be_inH at hc; omega) (by unfold be_inH at hc; omega)) rfl (by decide) hW hW2 hX, fun r hr => by rw [hb _ _ _ (by decide)]; exact h8 r hr⟩
  obtain ⟨a0, b0, s1, s2, s3, s4⟩ := bw_count (X := X) (a := a) (b := b) (u := u) (e := e) (f := f) (d := d) (e0 := e) (by omega) (by decide) hW hW2 hT hX h8 bw_AL1 (bw_AH_all e)
  rw [← hall, ← hdue] at s1 s4
  have hb6 : ∀ k : Nat, be_bits (k : Int) 6 ≤ 6 := fun k => be_bits_le _ 6
  have due6 : due ≤ 6 := by
    obtain ⟨⟨z, -, z2⟩, -⟩ := s4
    have := be_cnt_le (fun h => decide (¬ z h = 9)) (be_nh e)
    have := (be_nhR hW).1
    unfold bw_cz at z2
    omega
  have key : ∀ (m k : Nat) (z : Int) (B : Nat) (a1 : Nat → Nat → Nat → Int32) (b1 : Nat → Nat → Nat → Int64), k + m = all → z = (k : Int) → bw_Fa a a1 → (∀ c k j, c ≠ 25 → b1 c k j = b c k j) → bw_Mx (be_nh e) (bw_AH e B) (be_cl e) = due → B ≤ all → (B = all ∨ B < k) → (∀ s, (s < k ∨ s = all) → bw_Mx (be_nh e) (bw_AH e s) (be_cl e) = due → bw_le B s) →
      ∃ (a' : Nat → Nat → Nat → Int32) (b' : Nat → Nat → Nat → Int64) (B' : Nat), am_fix (am_sem X d) X am_P224 31 [.inr (9, 0), am_I (be_i ((due : Int))), am_I (be_i ((all : Int))), am_I (be_i ((B : Int))), am_I (be_i (z))] [] (am_sd a1 b1 u e f) = some (some (am_I (be_i (B' : Int))), am_sd a' b' u e f) ∧ bw_Fa a a' ∧ (∀ c k j, c ≠ 25 → b' c k j = b c k j) ∧ bw_Mx (be_nh e) (bw_AH e B') (be_cl e) = due ∧ B' ≤ all ∧ ∀ s, s ≤ all → bw_Mx (be_nh e) (bw_AH e s) (be_cl e) = due → bw_le B' s := by
    intro m
    induction m with
    | zero =>
      rintro k z B a1 b1 hk rfl h1 h2 h3 h4 h5 h6
      obtain rfl : k = all := hk
      refine ⟨a1, b1, B, ?_, h1, h2, h3, h4, fun s hs hg => h6 s (by omega) hg⟩
      rw [am_b224_31, if_pos Int32.le_rfl]
    | succ m ih =>
      rintro k z B a1 b1 hk rfl h1 h2 h3 h4 h5 h6
      have w1 : ¬ be_i (all : Int) ≤ be_i (k : Int) := by rw [be_le (by omega) (by omega) (by omega) (by omega)]; omega
      have c1 := be_m111 (X := X) (a := a1) (b := b1) (u := u) (e := e) (f := f) (d := d) (by omega) (k := k) (by omega)
      have c2 := be_m111 (X := X) (a := a1) (b := b1) (u := u) (e := e) (f := f) (d := d) (by omega) (k := B) (by omega)
      have k6 := hb6 k
      have B6 := hb6 B
      have hlt := bw_le_all _ nr k (by omega)
      rw [← hall] at hlt
      by_cases hc : be_bits (B : Int) 6 ≤ be_bits (k : Int) 6
      · obtain ⟨a', b', B', g1, g2⟩ := ih (k + 1) ((k : Int) + 1) B a1 b1 (by omega) (by omega) h1 h2 h3 h4 (by omega) (fun s hs hg => by
          by_cases e1 : s = k
          · subst e1
            rcases h5 with h5 | h5
            · rw [h5] at hc; omega
            · unfold bw_le; omega
          · exact h6 s (by omega) hg)
        refine ⟨a', b', B', ?_, g2⟩
        rw [am_b224_31, if_neg w1, c1, be_bi, am_b224_42, c2, be_bi, am_b224_46, if_pos (by rw [be_le (by omega) (by omega) (by omega) (by omega)]; omega), be_add]
        exact g1
      · obtain ⟨x1, x2⟩ := bIV h1 h2
        obtain ⟨a2, b2, t1, t2, t3, t4⟩ := bw_count (X := X) (a := a1) (b := b1) (u := u) (e := e) (f := f) (d := d) (e0 := e) (by omega) (by decide) hW hW2 hT x1 x2 (bw_ALS k (by omega)) (bw_AH_e e k)
        have h1' : bw_Fa a a2 := fun c k j e1 e2 e3 e4 e5 => (t2 c k j e1 e2 e3 e4 e5).trans (h1 c k j e1 e2 e3 e4 e5)
        have h2' : ∀ c k j, c ≠ 25 → b2 c k j = b c k j := fun c k j hc => (t3 c k j hc).trans (h2 c k j hc)
        have M6 : bw_Mx (be_nh e) (bw_AH e k) (be_cl e) ≤ 6 := by
          obtain ⟨⟨z, -, z2⟩, -⟩ := t4
          have := be_cnt_le (fun h => decide (¬ z h = 9)) (be_nh e)
          have := (be_nhR hW).1
          unfold bw_cz at z2
          omega
        have head : am_fix (am_sem X d) X am_P224 31 [.inr (9, 0), am_I (be_i ((due : Int))), am_I (be_i ((all : Int))), am_I (be_i ((B : Int))), am_I (be_i ((k : Int)))] [] (am_sd a1 b1 u e f) = am_fix (am_sem X d) X am_P224 63 [.inr (9, 0), am_I (be_i ((due : Int))), am_I (be_i ((all : Int))), am_I (be_i ((B : Int))), am_I (be_i ((k : Int)))] [am_I (be_i ((bw_Mx (be_nh e) (bw_AH e k) (be_cl e) : Int)))] (am_sd a2 b2 u e f) := by
          rw [am_b224_31, if_neg w1, c1, be_bi, am_b224_42, c2, be_bi, am_b224_46, if_neg (by rw [be_le (by omega) (by omega) (by omega) (by omega)]; omega), t1, be_bi]
        by_cases hg : bw_Mx (be_nh e) (bw_AH e k) (be_cl e) = due
        · obtain ⟨a', b', B', g1, g2⟩ := ih (k + 1) ((k : Int) + 1) k a2 b2 (by omega) (by omega) h1' h2' hg (by omega) (by omega) (fun s hs hgs => by
            by_cases e1 : s = k
            · subst e1; unfold bw_le; omega
            · have := h6 s (by omega) hgs
              unfold bw_le at this ⊢
              omega)
          refine ⟨a', b', B', ?_, g2⟩
          rw [head, am_b224_63, if_neg (by rw [hg]; exact fun h => h rfl), be_add]
          exact g1
        · obtain ⟨a', b', B', g1, g2⟩ := ih (k + 1) ((k : Int) + 1) B a2 b2 (by omega) (by omega) h1' h2' h3 h4 (by omega) (fun s hs hgs => by
            by_cases e1 : s = k
            · subst e1; exact absurd hgs hg
            · exact h6 s (by omega) hgs)
          refine ⟨a', b', B', ?_, g2⟩
          rw [head, am_b224_63, if_pos (by rw [be_eq (by omega) (by omega) (by omega) (by omega)]; omega), be_add]
          exact g1
  obtain ⟨a', b', B, g1, g2⟩ := key all 0 0 all a0 b0 (Nat.zero_add all) rfl s2 s3 hdue.symm (Nat.le_refl all) (Or.inl rfl) (fun s hs hg => by
    rcases hs with h | h
    · omega
    · subst h; unfold bw_le; omega)
  refine ⟨a', b', B, ?_, g2⟩
  have q0 : a0 2 0 2 = be_i (be_nr e : Int) := by rw [s2 _ _ _ (by decide) (by decide) (by decide) (by decide) (by decide), hX.1.1, nr2]
  have qa : (be_i 1 <<< (be_i (be_nr e : Int) &&& 31)) - be_i 1 = be_i (all : Int) := by
    rw [be_31, be_shl (by omega), be_sub, hall]
    refine congrArg be_i ?_
    have := Nat.two_pow_pos (be_nr e)
    omega
  rw [am_s224, s1, be_bi, am_b224_13, q0, qa]
  exact g1
