/-! WORTH, in the reference -/
variable {d : Nat} {X : am_X} {a : Nat → Nat → Nat → Int32} {b : Nat → Nat → Nat → Int64} {u : Nat → Nat} {e : Nat → Nat → Nat → Int32} {f : Nat → Nat → Nat → Int64}
def be_pos (e : Nat → Nat → Nat → Int32) (f : Nat) : Nat → Nat
  | 0 => 0
  | k + 1 => if be_g e 61 (10 * f + k) < 2 then (be_g e 64 (10 * f + k) - 100 * (f : Int)).toNat else be_pos e f k
/-- what is known of an office's wishes -/
def be_OF (e : Nat → Nat → Nat → Int32) (f : Nat) : Prop :=
  0 ≤ be_g e 60 f ∧ be_g e 60 f ≤ 10 ∧ ∀ k, k < (be_g e 60 f).toNat → 0 ≤ be_g e 61 (10 * f + k) ∧ be_g e 61 (10 * f + k) ≤ 3 ∧ 0 ≤ be_g e 62 (10 * f + k) ∧ be_g e 62 (10 * f + k) ≤ 99 ∧ (be_g e 61 (10 * f + k) < 2 →
    be_g e 63 (10 * f + k) = ((100 * f + be_pos e f k : Nat) : Int) ∧ be_g e 64 (10 * f + k) = ((100 * f + be_pos e f (k + 1) : Nat) : Int) ∧ be_pos e f k ≤ be_pos e f (k + 1) ∧ be_pos e f (k + 1) ≤ 100 ∧
    be_wf (be_g e 65) (100 * f + be_pos e f k) (be_pos e f (k + 1) - be_pos e f k) ∧ be_dp (be_g e 65) (100 * f + be_pos e f k) (be_pos e f (k + 1) - be_pos e f k) = 1)
def be_wv (e : Nat → Nat → Nat → Int32) (g : Nat → Int) (f k : Nat) : Bool := be_vl g (be_g e 65) (100 * f + be_pos e f k) (be_pos e f (k + 1) - be_pos e f k) 0
def be_wsum (e : Nat → Nat → Nat → Int32) (g : Nat → Int) (f : Nat) : Nat → Int
  | 0 => 10
  | k + 1 => be_wsum e g f k + (if be_g e 61 (10 * f + k) < 2 ∧ be_wv e g f k = true then (if be_g e 61 (10 * f + k) = 0 then be_g e 62 (10 * f + k) else -be_g e 62 (10 * f + k)) else 0)
theorem be_wsumR {f : Nat} (hO : be_OF e f) (g : Nat → Int) : ∀ k, k ≤ (be_g e 60 f).toNat → -99 * (k : Int) ≤ be_wsum e g f k - 10 ∧ be_wsum e g f k - 10 ≤ 99 * (k : Int) := by
  intro k
  induction k with
  | zero => intro _; simp [be_wsum]
  | succ k ih =>
    intro hk
    have h1 := ih (by omega)
    obtain ⟨h2, h3, h4, h5, -⟩ := hO.2.2 k (by omega)
    rw [be_wsum]
    repeat' split
    all_goals omega
def be_the (e : Nat → Nat → Nat → Int32) : Nat := (be_g e 50 13).toNat
def be_wo (e : Nat → Nat → Nat → Int32) (g : Nat → Int) : Int := max (be_wsum e g (be_the e) (be_num e)) 0
/-- what is known of the office that holds, and of its wishes -/
def be_T3 (e : Nat → Nat → Nat → Int32) : Prop := be_T2 e ∧ (0 ≤ be_g e 50 13 → be_OF e (be_the e))
theorem be_numR (hT : be_T3 e) : be_beg e = 10 * be_the e ∧ be_the e ≤ 5 ∧ (be_num e = 0 ∨ (be_OF e (be_the e) ∧ be_num e = (be_g e 60 (be_the e)).toNat ∧ be_num e ≤ 10)) := by
  obtain ⟨⟨⟨h1, h2, h3, h4⟩, h5, h6⟩, h7⟩ := hT
  refine ⟨by unfold be_beg be_the; omega, by unfold be_the; omega, ?_⟩
  unfold be_num
  by_cases h : be_g e 50 13 < 0
  · rw [if_pos h]; exact Or.inl rfl
  · rw [if_neg h]
    have h8 := h7 (by omega)
    have h9 := h8.2.1
    exact Or.inr ⟨h8, rfl, by unfold be_the at h9; omega⟩
theorem be_woR (hT : be_T3 e) (g : Nat → Int) : 0 ≤ be_wo e g ∧ be_wo e g ≤ 1000 := by
  obtain ⟨h1, h2, h3⟩ := be_numR hT
  unfold be_wo
  rcases h3 with h3 | ⟨h3, h4, h5⟩
  · rw [h3, be_wsum]; omega
  · have := be_wsumR h3 g (be_num e) (by omega)
    omega
theorem be_m36 (hd : 4 ≤ d) (hW : be_W e) (hT : be_T3 e) {G0 : Nat → Int32} {h r : Nat} (hh : h < 6) (hr : r < 4) :
    ∃ G, am_sem X d 36 [.inr (50, 0), am_I (be_i ((h : Int))), am_I (be_i ((r : Int)))] (am_sd a b u (am_w2 e 68 0 G0) f) = some (some (am_I (be_i (be_wo e (be_F e h r)))), am_sd a b u (am_w2 e 68 0 G) f) := by
  obtain ⟨d, rfl⟩ : ∃ q, d = q + 1 := ⟨d - 1, by omega⟩
  have he := be_gI e
  obtain ⟨n1, n2, n3⟩ := be_numR hT
  have hbd : ∀ k, k ≤ be_num e → -1000 ≤ be_wsum e (be_F e h r) (be_the e) k ∧ be_wsum e (be_F e h r) (be_the e) k ≤ 1010 := by
    intro k hk
    rcases n3 with n3 | ⟨n3, n4, n5⟩
    · obtain rfl : k = 0 := by omega
      rw [be_wsum]; omega
    · have := be_wsumR n3 (be_F e h r) k (by omega)
      omega
  have h29 : ∀ G : Nat → Int32, am_sem X d 29 [.inr (50, 0)] (am_sd a b u (am_w2 e 68 0 G) f) = some (some (am_I (be_i ((10 * be_the e : Nat) : Int))), am_sd a b u (am_w2 e 68 0 G) f) := fun G => by
    rw [be_m29 (by omega) (be_A_T (be_A_pl G) hT.1).1, be_A_beg (be_A_pl G), n1]
  have h30 : ∀ G : Nat → Int32, am_sem X d 30 [.inr (50, 0)] (am_sd a b u (am_w2 e 68 0 G) f) = some (some (am_I (be_i ((10 * be_the e + be_num e : Nat) : Int))), am_sd a b u (am_w2 e 68 0 G) f) := fun G => by
    rw [be_m30 (by omega) (be_A_T (be_A_pl G) hT.1).1, be_A_beg (be_A_pl G), be_A_num (be_A_pl G), n1]
  have key : ∀ (n k : Nat) (G : Nat → Int32) (y x : Int), k + n = be_num e → x = ((10 * be_the e + k : Nat) : Int) → y = be_wsum e (be_F e h r) (be_the e) k →
      ∃ G', am_fix (am_sem X d) X am_P36 9 [.inr (50, 0), am_I (be_i ((h : Int))), am_I (be_i ((r : Int))), am_I (be_i (y)), am_I (be_i (x))] [] (am_sd a b u (am_w2 e 68 0 G) f) = some (some (am_I (be_i (be_wo e (be_F e h r)))), am_sd a b u (am_w2 e 68 0 G') f) := by
    intro n
    induction n with
    | zero =>
      rintro k G y x hk rfl rfl
      obtain rfl : k = be_num e := hk
      have hb := hbd _ (Nat.le_refl _)
      refine ⟨G, ?_⟩
      rw [am_b36_9]
      simp (disch := (first | assumption | omega | exact (be_gB _ _ _).1 | exact (be_gB _ _ _).2)) only [be_ofI, ↓be_ofN, ↓be_0, be_add, be_sub, be_mul, be_neg, be_rem, be_bi, be_bl, be_bv, be_br, be_bE0, be_bE1, be_b1E, be_b0E, be_bkb, be_cast, Int.toNat_natCast, Int.reduceToNat, be_lt, be_le, be_eq, be_nt, be_ck, be_nz, be_bk, be_div, h30, am_b36_15]
      rw [if_pos (by omega)]
      unfold be_wo
      split
      · rw [show max (be_wsum e (be_F e h r) (be_the e) (be_num e)) 0 = be_wsum e (be_F e h r) (be_the e) (be_num e) by omega]
      · rw [show max (be_wsum e (be_F e h r) (be_the e) (be_num e)) 0 = 0 by omega]
    | succ n ih =>
      rintro k G y x hk rfl rfl
      have hb := hbd k (by omega)
      rcases n3 with n3 | ⟨n3, n4, n5⟩
      · omega
      obtain ⟨w1, w2, w3, w4, w5⟩ := n3.2.2 k (by omega)
      have hs : be_wsum e (be_F e h r) (be_the e) (k + 1) = be_wsum e (be_F e h r) (be_the e) k + (if be_g e 61 (10 * be_the e + k) < 2 ∧ be_wv e (be_F e h r) (be_the e) k = true then (if be_g e 61 (10 * be_the e + k) = 0 then be_g e 62 (10 * be_the e + k) else -be_g e 62 (10 * be_the e + k)) else 0) := rfl
      rw [am_b36_9]
      by_cases hw : be_g e 61 (10 * be_the e + k) < 2
      · obtain ⟨v1, v2, v3, v4, v5, v6⟩ := w5 hw
        obtain ⟨G', hG'⟩ := be_m35 (X := X) (a := a) (b := b) (u := u) (f := f) (d := d) (G0 := G) (c := 10 * be_the e + k) (s := 100 * be_the e + be_pos e (be_the e) k) (m := be_pos e (be_the e) (k + 1) - be_pos e (be_the e) k) (by omega) hW (by omega) hh hr v1 (by rw [v2]; congr 1; omega) (by omega) v5 v6
        simp (disch := (first | assumption | omega | exact (be_gB _ _ _).1 | exact (be_gB _ _ _).2)) only [be_ofI, ↓be_ofN, ↓be_0, be_add, be_sub, be_mul, be_neg, be_rem, be_bi, be_bl, be_bv, be_br, be_bE0, be_bE1, be_b1E, be_b0E, be_bkb, be_cast, Int.toNat_natCast, Int.reduceToNat, be_lt, be_le, be_eq, be_nt, be_ck, be_nz, be_bk, be_div, h30, am_b36_15, be_r2n, he, hG']
        rw [if_neg (by omega), if_neg (by omega)]
        simp (disch := (first | assumption | omega | exact (be_gB _ _ _).1 | exact (be_gB _ _ _).2)) only [be_ofI, ↓be_ofN, ↓be_0, be_add, be_sub, be_mul, be_neg, be_rem, be_bi, be_bl, be_bv, be_br, be_bE0, be_bE1, be_b1E, be_b0E, be_bkb, be_cast, Int.toNat_natCast, Int.reduceToNat, be_lt, be_le, be_eq, be_nt, be_ck, be_nz, be_bk, be_div, am_b36_37, be_r2n, he]
        have hwv : be_vl (be_F e h r) (be_g e 65) (100 * be_the e + be_pos e (be_the e) k) (be_pos e (be_the e) (k + 1) - be_pos e (be_the e) k) 0 = be_wv e (be_F e h r) (be_the e) k := rfl
        rw [hwv]
        split
        · rename_i hq
          have hq := eq_true_of_ne_false hq
          rw [if_pos ⟨hw, hq⟩] at hs
          split
          · rename_i hz
            rw [if_neg hz] at hs
            exact ih (k + 1) _ _ _ (by omega) (by omega) (by omega)
          · rename_i hz
            rw [if_pos (by omega)] at hs
            exact ih (k + 1) _ _ _ (by omega) (by omega) (by omega)
        · rename_i hq
          have hq := Decidable.not_not.mp hq
          rw [if_neg (fun q => by rw [hq] at q; exact absurd q.2 (by decide))] at hs
          exact ih (k + 1) _ _ _ (by omega) (by omega) (by omega)
      · rw [if_neg (fun q => hw q.1)] at hs
        simp (disch := (first | assumption | omega | exact (be_gB _ _ _).1 | exact (be_gB _ _ _).2)) only [be_ofI, ↓be_ofN, ↓be_0, be_add, be_sub, be_mul, be_neg, be_rem, be_bi, be_bl, be_bv, be_br, be_bE0, be_bE1, be_b1E, be_b0E, be_bkb, be_cast, Int.toNat_natCast, Int.reduceToNat, be_lt, be_le, be_eq, be_nt, be_ck, be_nz, be_bk, be_div, h30, am_b36_15, be_r2n, he]
        rw [if_neg (by omega), if_pos (by omega)]
        exact ih (k + 1) _ _ _ (by omega) (by omega) (by omega)
  rw [am_s36]
  simp (disch := (first | assumption | omega | exact (be_gB _ _ _).1 | exact (be_gB _ _ _).2)) only [be_ofI, ↓be_ofN, ↓be_0, be_add, be_sub, be_mul, be_neg, be_rem, be_bi, be_bl, be_bv, be_br, be_bE0, be_bE1, be_b1E, be_b0E, be_bkb, be_cast, Int.toNat_natCast, Int.reduceToNat, be_lt, be_le, be_eq, be_nt, be_ck, be_nz, be_bk, be_div, h29, am_b36_7]
  exact key (be_num e) 0 _ _ _ (Nat.zero_add _) (by omega) rfl
