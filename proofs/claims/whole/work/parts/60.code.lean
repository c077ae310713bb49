/-! CODE: what an office's wishes come to -/
variable {d : Nat} {X : am_X} {a : Nat → Nat → Nat → Int32} {b : Nat → Nat → Nat → Int64} {u : Nat → Nat} {e : Nat → Nat → Nat → Int32} {f : Nat → Nat → Nat → Int64}
def be_sel (g : Nat → Int) (f : Int) : Int := if f = 0 then g 0 else if f = 1 then g 1 else if f = 2 then g 2 else if f = 3 then g 3 else if f = 4 then g 4 else g 5
def be_tt (g : Nat → Int) (t : Int) : Bool := if t / 100 % 10 = 0 then decide (be_sel g (t / 1000) < t % 100) else if t / 100 % 10 = 1 then decide (be_sel g (t / 1000) = t % 100) else decide (t % 100 < be_sel g (t / 1000))
/-- how many wait behind k signs, and which -/
def be_dp (t : Nat → Int) (s : Nat) : Nat → Nat
  | 0 => 0
  | k + 1 => if t (s + k) = -33 then be_dp t s k else if t (s + k) < 0 then be_dp t s k - 1 else be_dp t s k + 1
def be_vl (g : Nat → Int) (t : Nat → Int) (s : Nat) : Nat → Nat → Bool
  | 0 => fun _ => false
  | k + 1 => if t (s + k) = -33 then am_u (be_vl g t s k) (be_dp t s k - 1) (!be_vl g t s k (be_dp t s k - 1))
    else if t (s + k) = -38 then am_u (be_vl g t s k) (be_dp t s k - 2) (be_vl g t s k (be_dp t s k - 2) && be_vl g t s k (be_dp t s k - 1))
    else if t (s + k) < 0 then am_u (be_vl g t s k) (be_dp t s k - 2) (be_vl g t s k (be_dp t s k - 2) || be_vl g t s k (be_dp t s k - 1))
    else am_u (be_vl g t s k) (be_dp t s k) (be_tt g (t (s + k)))
def be_wf (t : Nat → Int) (s m : Nat) : Prop :=
  ∀ k, k < m → (t (s + k) = -33 ∧ 1 ≤ be_dp t s k) ∨ ((t (s + k) = -38 ∨ t (s + k) = -124) ∧ 2 ≤ be_dp t s k) ∨ (0 ≤ t (s + k) ∧ t (s + k) < 6000 ∧ t (s + k) / 100 % 10 ≤ 2 ∧ be_dp t s k ≤ 24)
theorem be_dp_le {t : Nat → Int} {s m : Nat} (h : be_wf t s m) : ∀ k, k ≤ m → be_dp t s k ≤ 25 := by
  intro k
  induction k with
  | zero => intro _; exact Nat.zero_le _
  | succ k ih =>
    intro hk
    have h1 := ih (by omega)
    rw [be_dp]
    rcases h k (by omega) with ⟨h2, -⟩ | ⟨h2, -⟩ | ⟨h2, h3, -, h4⟩
    · rw [if_pos h2]; exact h1
    · rw [if_neg (by omega), if_pos (by omega)]; omega
    · rw [if_neg (by omega), if_neg (by omega)]; omega
theorem be_Gu {G : Nat → Int32} {P : Nat → Bool} {n idx n' : Nat} {x : Int32} {v : Bool} (hG : ∀ j, j < n → G j = be_i (be_b (P j))) (hx : x = be_i (be_b v)) (hn : ∀ j, j < n' → j < n ∨ j = idx) :
    ∀ j, j < n' → am_u G idx x j = be_i (be_b (am_u P idx v j)) := by
  intro j hj
  unfold am_u
  cases hb : Nat.beq j idx
  · rcases hn j hj with h | h
    · exact hG j h
    · subst h; rw [Nat.beq_refl] at hb; cases hb
  · exact hx
theorem be_w32 {α : Type} (e : Nat → Nat → Nat → α) (c i : Nat) (G : Nat → α) (j : Nat) (x : α) : am_w3 (am_w2 e c i G) c i j x = am_w2 e c i (am_u G j x) := by
  funext c' i' j'
  unfold am_w3 am_w2 am_u
  cases h1 : Nat.beq c' c <;> cases h2 : Nat.beq i' i <;> cases h3 : Nat.beq j' j <;> simp [h1, h2, h3, Nat.beq_refl]
theorem be_w22 {α : Type} (e : Nat → Nat → Nat → α) (c i : Nat) (G G' : Nat → α) : am_w2 (am_w2 e c i G) c i G' = am_w2 e c i G' := by
  funext c' i' j'
  unfold am_w2 am_u
  cases h1 : Nat.beq c' c <;> cases h2 : Nat.beq i' i <;> simp [h1, h2, Nat.beq_refl]
theorem be_r2e {α : Type} (e : Nat → Nat → Nat → α) (c i : Nat) (G : Nat → α) (j : Nat) : am_w2 e c i G c i j = G j := by
  unfold am_w2 am_u
  simp [Nat.beq_refl]
theorem be_r2n {α : Type} {e : Nat → Nat → Nat → α} {c i : Nat} {G : Nat → α} {c' i' j : Nat} (h : c' ≠ c) : am_w2 e c i G c' i' j = e c' i' j := by
  unfold am_w2 am_u
  have hb : Nat.beq c' c = false := by rw [← Bool.not_eq_true]; intro q; exact h (Nat.eq_of_beq_eq_true q)
  simp [hb]
theorem be_g2 {e : Nat → Nat → Nat → Int32} {c i : Nat} {G : Nat → Int32} {c' j : Nat} (h : c' ≠ c) : be_g (am_w2 e c i G) c' j = be_g e c' j := by
  unfold be_g; rw [be_r2n h]
theorem be_w2id {α : Type} (e : Nat → Nat → Nat → α) (c i : Nat) : am_w2 e c i (e c i) = e := by
  funext c' i' j'
  unfold am_w2 am_u
  cases h1 : Nat.beq c' c
  · rfl
  · have e1 := Nat.eq_of_beq_eq_true h1
    subst e1
    show (bif Nat.beq i' i then e c' i else e c' i') j' = e c' i' j'
    cases h2 : Nat.beq i' i
    · rfl
    · have e2 := Nat.eq_of_beq_eq_true h2
      subst e2
      rfl
theorem be_A_pl (G : Nat → Int32) : be_A e (am_w2 e 68 0 G) := ⟨fun c j h => be_g2 (by omega), fun j h => be_g2 (by omega)⟩
def be_F (e : Nat → Nat → Nat → Int32) (h r : Nat) : Nat → Int
  | 0 => h
  | 1 => r
  | 2 => be_g e 52 h
  | 3 => be_g e 53 h
  | 4 => be_g e 56 h
  | _ => be_g e 51 r
theorem be_selR {g : Nat → Int} (hg : ∀ j, 0 ≤ g j ∧ g j ≤ 99) (f : Int) : 0 ≤ be_sel g f ∧ be_sel g f ≤ 99 := by
  have h0 := hg 0; have h1 := hg 1; have h2 := hg 2; have h3 := hg 3; have h4 := hg 4; have h5 := hg 5
  unfold be_sel
  repeat' split
  all_goals assumption
theorem be_FR (hW : be_W e) {h r : Nat} (hh : h < 6) (hr : r < 4) (j : Nat) : 0 ≤ be_F e h r j ∧ be_F e h r j ≤ 99 := by
  have q1 := hW.2.1 h hh
  have q2 := hW.2.2.1 r hr
  unfold be_F
  split <;> omega
theorem be_m34 (hd : 1 ≤ d) (hW : be_W e) {f' : Int} {h r : Nat} (hf1 : 0 ≤ f') (hf2 : f' ≤ 9) (hh : h < 6) (hr : r < 4) : am_sem X d 34 [.inr (50, 0), am_I (be_i (f')), am_I (be_i ((h : Int))), am_I (be_i ((r : Int)))] (am_sd a b u e f) = some (some (am_I (be_i (be_sel (be_F e h r) f'))), (am_sd a b u e f)) := by
  obtain ⟨d, rfl⟩ : ∃ q, d = q + 1 := ⟨d - 1, by omega⟩
  have he := be_gI e
  rw [am_s34]
  simp (disch := (first | assumption | omega | exact (be_gB _ _ _).1 | exact (be_gB _ _ _).2)) only [be_ofI, ↓be_ofN, ↓be_0, be_add, be_sub, be_mul, be_neg, be_rem, be_bi, be_bl, be_bv, be_br, be_bE0, be_bE1, be_b1E, be_b0E, be_bkb, be_cast, Int.toNat_natCast, Int.reduceToNat, be_lt, be_le, be_eq, be_nt, be_ck, be_nz, be_bk, be_div, he]
  unfold be_sel
  repeat' split
  all_goals first | rfl | omega
theorem be_m35 (hd : 2 ≤ d) (hW : be_W e) {G0 : Nat → Int32} {c h r s m : Nat} (hc : c < 60) (hh : h < 6) (hr : r < 4) (h1 : be_g e 63 c = (s : Int)) (h2 : be_g e 64 c = ((s + m : Nat) : Int)) (h3 : s + m ≤ 600)
    (hwf : be_wf (be_g e 65) s m) (h1m : be_dp (be_g e 65) s m = 1) :
    ∃ G, am_sem X d 35 [.inr (50, 0), am_I (be_i ((c : Int))), am_I (be_i ((h : Int))), am_I (be_i ((r : Int)))] (am_sd a b u (am_w2 e 68 0 G0) f) = some (some (am_I (be_i (be_b (be_vl (be_F e h r) (be_g e 65) s m 0)))), am_sd a b u (am_w2 e 68 0 G) f) := by
  obtain ⟨d, rfl⟩ : ∃ q, d = q + 1 := ⟨d - 1, by omega⟩
  have he := be_gI e
  have key : ∀ (n k : Nat) (G : Nat → Int32) (z6 z7 z8 : am_V) (x4 x5 : Int), k + n = m → x4 = (be_dp (be_g e 65) s k : Int) → x5 = ((s + k : Nat) : Int) → (∀ j, j < be_dp (be_g e 65) s k → G j = be_i (be_b (be_vl (be_F e h r) (be_g e 65) s k j))) →
      ∃ G', am_fix (am_sem X d) X am_P35 11 [.inr (50, 0), am_I (be_i ((c : Int))), am_I (be_i ((h : Int))), am_I (be_i ((r : Int))), am_I (be_i (x4)), am_I (be_i (x5)), z6, z7, z8] [] (am_sd a b u (am_w2 e 68 0 G) f) = some (some (am_I (be_i (be_b (be_vl (be_F e h r) (be_g e 65) s m 0)))), am_sd a b u (am_w2 e 68 0 G') f) := by
    intro n
    induction n with
    | zero =>
      rintro k G z6 z7 z8 x4 x5 hk rfl rfl hG
      obtain rfl : k = m := hk
      refine ⟨G, ?_⟩
      rw [am_b35_11]
      have hG0 := hG 0 (by omega)
      simp (disch := (first | assumption | omega | exact (be_gB _ _ _).1 | exact (be_gB _ _ _).2)) only [be_ofI, ↓be_ofN, ↓be_0, be_add, be_sub, be_mul, be_neg, be_rem, be_bi, be_bl, be_bv, be_br, be_bE0, be_bE1, be_b1E, be_b0E, be_bkb, be_cast, Int.toNat_natCast, Int.reduceToNat, be_lt, be_le, be_eq, be_nt, be_ck, be_nz, be_bk, be_div, be_r2n, be_r2e, he, h2, hG0]
      rw [if_pos (by omega)]
    | succ n ih =>
      rintro k G z6 z7 z8 x4 x5 hk rfl rfl hG
      have hW' : be_W (am_w2 e 68 0 G) := by
        have := hW.1
        exact be_A_W (be_A_pl G) (by rw [be_g2 (by decide)]; omega) (by rw [be_g2 (by decide)]; omega) (by rw [be_g2 (by decide)]; omega) (by rw [be_g2 (by decide)]; omega) hW
      have hF : be_F (am_w2 e 68 0 G) h r = be_F e h r := by
        funext j; unfold be_F; simp only [be_g2 (show (52 : Nat) ≠ 68 by decide), be_g2 (show (53 : Nat) ≠ 68 by decide), be_g2 (show (56 : Nat) ≠ 68 by decide), be_g2 (show (51 : Nat) ≠ 68 by decide)]
      have hd5 := be_dp_le hwf k (by omega)
      rw [am_b35_11]
      rcases hwf k (by omega) with ⟨ht, hp⟩ | ⟨ht, hp⟩ | ⟨t1, t2, t3, hp⟩
      · have hi : ((be_dp (be_g e 65) s k : Int) - 1).toNat = be_dp (be_g e 65) s k - 1 := by omega
        have hg := hG (be_dp (be_g e 65) s k - 1) (by omega)
        have hv : be_vl (be_F e h r) (be_g e 65) s (k + 1) = am_u (be_vl (be_F e h r) (be_g e 65) s k) (be_dp (be_g e 65) s k - 1) (!be_vl (be_F e h r) (be_g e 65) s k (be_dp (be_g e 65) s k - 1)) := by rw [be_vl, if_pos ht]
        have hdd : be_dp (be_g e 65) s (k + 1) = be_dp (be_g e 65) s k := by rw [be_dp, if_pos ht]
        simp (disch := (first | assumption | omega | exact (be_gB _ _ _).1 | exact (be_gB _ _ _).2)) only [be_ofI, ↓be_ofN, ↓be_0, be_add, be_sub, be_mul, be_neg, be_rem, be_bi, be_bl, be_bv, be_br, be_bE0, be_bE1, be_b1E, be_b0E, be_bkb, be_cast, Int.toNat_natCast, Int.reduceToNat, be_lt, be_le, be_eq, be_nt, be_ck, be_nz, be_bk, be_div, not_true_eq_false, not_false_eq_true, if_true, if_false, eq_self, Int.reduceEq, Int.reduceLT, Int.reduceLE, be_r2n, be_r2e, be_w32, he, h2, ht, hi, hg, am_b35_75, am_b35_151, am_b35_163, am_b35_247]
        rw [if_neg (by omega)]
        split
        · rename_i hq
          refine ih (k + 1) _ _ _ _ _ _ (by omega) (by omega) (by omega) ?_
          rw [hv]
          exact be_Gu hG (by rw [eq_true_of_ne_false hq]; rfl) (fun j hj => Or.inl (by omega))
        · rename_i hq
          refine ih (k + 1) _ _ _ _ _ _ (by omega) (by omega) (by omega) ?_
          rw [hv]
          exact be_Gu hG (by rw [Decidable.not_not.mp hq]; rfl) (fun j hj => Or.inl (by omega))
      · have hi : ((be_dp (be_g e 65) s k : Int) + -1 - 1).toNat = be_dp (be_g e 65) s k - 2 := by omega
        have hi2 : ((be_dp (be_g e 65) s k : Int) + -1).toNat = be_dp (be_g e 65) s k - 1 := by omega
        have hg := hG (be_dp (be_g e 65) s k - 1) (by omega)
        have hg2 := hG (be_dp (be_g e 65) s k - 2) (by omega)
        have hdd : be_dp (be_g e 65) s (k + 1) = be_dp (be_g e 65) s k - 1 := by rw [be_dp, if_neg (by omega), if_pos (by omega)]
        rcases ht with ht | ht
        · have hv : be_vl (be_F e h r) (be_g e 65) s (k + 1) = am_u (be_vl (be_F e h r) (be_g e 65) s k) (be_dp (be_g e 65) s k - 2) (be_vl (be_F e h r) (be_g e 65) s k (be_dp (be_g e 65) s k - 2) && be_vl (be_F e h r) (be_g e 65) s k (be_dp (be_g e 65) s k - 1)) := by rw [be_vl, if_neg (by omega), if_pos ht]
          simp (disch := (first | assumption | omega | exact (be_gB _ _ _).1 | exact (be_gB _ _ _).2)) only [be_ofI, ↓be_ofN, ↓be_0, be_add, be_sub, be_mul, be_neg, be_rem, be_bi, be_bl, be_bv, be_br, be_bE0, be_bE1, be_b1E, be_b0E, be_bkb, be_cast, Int.toNat_natCast, Int.reduceToNat, be_lt, be_le, be_eq, be_nt, be_ck, be_nz, be_bk, be_div, not_true_eq_false, not_false_eq_true, if_true, if_false, eq_self, Int.reduceEq, Int.reduceLT, Int.reduceLE, be_r2n, be_r2e, be_w32, he, h2, ht, hi, hi2, hg, hg2, am_b35_75, am_b35_151, am_b35_163, am_b35_247]
          rw [if_neg (by omega)]
          repeat' split
          all_goals
            refine ih (k + 1) _ _ _ _ _ _ (by omega) (by omega) (by omega) ?_
            rw [hv]
            refine be_Gu hG ?_ (fun j hj => Or.inl (by omega))
            simp_all [be_b]
        · have hv : be_vl (be_F e h r) (be_g e 65) s (k + 1) = am_u (be_vl (be_F e h r) (be_g e 65) s k) (be_dp (be_g e 65) s k - 2) (be_vl (be_F e h r) (be_g e 65) s k (be_dp (be_g e 65) s k - 2) || be_vl (be_F e h r) (be_g e 65) s k (be_dp (be_g e 65) s k - 1)) := by rw [be_vl, if_neg (by omega), if_neg (by omega), if_pos (by omega)]
          simp (disch := (first | assumption | omega | exact (be_gB _ _ _).1 | exact (be_gB _ _ _).2)) only [be_ofI, ↓be_ofN, ↓be_0, be_add, be_sub, be_mul, be_neg, be_rem, be_bi, be_bl, be_bv, be_br, be_bE0, be_bE1, be_b1E, be_b0E, be_bkb, be_cast, Int.toNat_natCast, Int.reduceToNat, be_lt, be_le, be_eq, be_nt, be_ck, be_nz, be_bk, be_div, not_true_eq_false, not_false_eq_true, if_true, if_false, eq_self, Int.reduceEq, Int.reduceLT, Int.reduceLE, be_r2n, be_r2e, be_w32, he, h2, ht, hi, hi2, hg, hg2, am_b35_75, am_b35_151, am_b35_163, am_b35_247]
          rw [if_neg (by omega)]
          repeat' split
          all_goals
            refine ih (k + 1) _ _ _ _ _ _ (by omega) (by omega) (by omega) ?_
            rw [hv]
            refine be_Gu hG ?_ (fun j hj => Or.inl (by omega))
            simp_all [be_b]
      · have hv : be_vl (be_F e h r) (be_g e 65) s (k + 1) = am_u (be_vl (be_F e h r) (be_g e 65) s k) (be_dp (be_g e 65) s k) (be_tt (be_F e h r) (be_g e 65 (s + k))) := by rw [be_vl, if_neg (by omega), if_neg (by omega), if_neg (by omega)]
        have hdd : be_dp (be_g e 65) s (k + 1) = be_dp (be_g e 65) s k + 1 := by rw [be_dp, if_neg (by omega), if_neg (by omega)]
        have hs := be_selR (be_FR hW hh hr) (be_g e 65 (s + k) / 1000)
        have hf := be_m34 (X := X) (a := a) (b := b) (u := u) (f := f) (d := d) (e := am_w2 e 68 0 G) (f' := be_g e 65 (s + k) / 1000) (h := h) (r := r) (by omega) hW' (by omega) (by omega) hh hr
        rw [hF] at hf
        simp (disch := (first | assumption | omega | exact (be_gB _ _ _).1 | exact (be_gB _ _ _).2)) only [be_ofI, ↓be_ofN, ↓be_0, be_add, be_sub, be_mul, be_neg, be_rem, be_bi, be_bl, be_bv, be_br, be_bE0, be_bE1, be_b1E, be_b0E, be_bkb, be_cast, Int.toNat_natCast, Int.reduceToNat, be_lt, be_le, be_eq, be_nt, be_ck, be_nz, be_bk, be_div, be_r2n, be_r2e, he, h2]
        rw [if_neg (by omega), if_pos (by omega), if_pos (by omega), am_b35_151]
        simp (disch := (first | assumption | omega | exact (be_gB _ _ _).1 | exact (be_gB _ _ _).2)) only [be_ofI, ↓be_ofN, ↓be_0, be_add, be_sub, be_mul, be_neg, be_rem, be_bi, be_bl, be_bv, be_br, be_bE0, be_bE1, be_b1E, be_b0E, be_bkb, be_cast, Int.toNat_natCast, Int.reduceToNat, be_lt, be_le, be_eq, be_nt, be_ck, be_nz, be_bk, be_div, be_w32, hf, am_b35_163, am_b35_247]
        have htt : be_tt (be_F e h r) (be_g e 65 (s + k)) = (if be_g e 65 (s + k) / 100 % 10 = 0 then decide (be_sel (be_F e h r) (be_g e 65 (s + k) / 1000) < be_g e 65 (s + k) % 100) else if be_g e 65 (s + k) / 100 % 10 = 1 then decide (be_sel (be_F e h r) (be_g e 65 (s + k) / 1000) = be_g e 65 (s + k) % 100) else decide (be_g e 65 (s + k) % 100 < be_sel (be_F e h r) (be_g e 65 (s + k) / 1000))) := rfl
        repeat' split
        all_goals
          refine ih (k + 1) _ _ _ _ _ _ (by omega) (by omega) (by omega) ?_
          rw [hv]
          refine be_Gu hG ?_ (fun j hj => by omega)
          rw [htt]
          first
            | (rw [if_pos (by omega), decide_eq_true (by omega)]; rfl)
            | (rw [if_pos (by omega), decide_eq_false (by omega)]; rfl)
            | (rw [if_neg (by omega), if_pos (by omega), decide_eq_true (by omega)]; rfl)
            | (rw [if_neg (by omega), if_pos (by omega), decide_eq_false (by omega)]; rfl)
            | (rw [if_neg (by omega), if_neg (by omega), decide_eq_true (by omega)]; rfl)
            | (rw [if_neg (by omega), if_neg (by omega), decide_eq_false (by omega)]; rfl)
  have h0 := key m 0 G0 am_un am_un am_un 0 s (Nat.zero_add _) rfl rfl (fun j hj => absurd hj (Nat.not_lt_zero _))
  obtain ⟨G', h0⟩ := h0
  refine ⟨G', ?_⟩
  rw [am_s35]
  simp (disch := (first | assumption | omega | exact (be_gB _ _ _).1 | exact (be_gB _ _ _).2)) only [be_ofI, ↓be_ofN, ↓be_0, be_add, be_sub, be_mul, be_neg, be_rem, be_bi, be_bl, be_bv, be_br, be_bE0, be_bE1, be_b1E, be_b0E, be_bkb, be_cast, Int.toNat_natCast, Int.reduceToNat, be_lt, be_le, be_eq, be_nt, be_ck, be_nz, be_bk, be_div, be_r2n, he, h1]
  exact h0
