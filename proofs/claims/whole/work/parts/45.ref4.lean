/-! THE REFERENCE, 4: what fits, what clashes, the waste of days -/
variable {d : Nat} {X : am_X} {a : Nat → Nat → Nat → Int32} {b : Nat → Nat → Nat → Int64} {u : Nat → Nat} {e : Nat → Nat → Nat → Int32} {f : Nat → Nat → Nat → Int64}
def be_ft (e : Nat → Nat → Nat → Int32) (r : Nat) : Bool := decide (be_g e 50 1 / ((2 ^ r : Nat) : Int) % 2 = 1)
def be_fit (e : Nat → Nat → Nat → Int32) (h r : Nat) : Bool := decide (be_g e 56 h ≤ be_g e 51 r) && !(decide (be_g e 52 h = 1 ∨ be_g e 52 h = 4) && be_ft e r)
def be_cl (e : Nat → Nat → Nat → Int32) (h o : Nat) : Bool := decide (max (be_g e 54 h) (be_g e 54 o) < min (be_bt e h) (be_bt e o))
theorem be_m50 (hd : 1 ≤ d) (hW : be_W e) {h : Nat} (hh : h < 6) : am_sem X d 50 [.inr (50, 0), am_I (be_i ((h : Int)))] (am_sd a b u e f) = some (some (am_I (be_i (be_b (decide (be_g e 52 h = 1 ∨ be_g e 52 h = 4))))), (am_sd a b u e f)) := by
  obtain ⟨d, rfl⟩ : ∃ q, d = q + 1 := ⟨d - 1, by omega⟩
  have he := be_gI e
  have q1 := hW.2.1 h hh
  rw [am_s50]
  simp (disch := (first | assumption | omega | exact (be_gB _ _ _).1 | exact (be_gB _ _ _).2)) only [be_ofI, ↓be_ofN, ↓be_0, be_add, be_sub, be_mul, be_neg, be_rem, be_bi, be_bl, be_bv, be_br, be_bE0, be_bE1, be_b1E, be_b0E, be_bkb, be_cast, Int.toNat_natCast, Int.reduceToNat, be_lt, be_le, be_eq, be_nt, be_ck, be_nz, be_bk, be_div, he]
  (repeat' split) <;> first | rfl | omega | (rw [decide_eq_true (by omega)]; rfl) | (rw [decide_eq_false (by omega)]; rfl)
theorem be_m51 (hd : 2 ≤ d) (hW : be_W e) {h r : Nat} (hh : h < 6) (hr : r < 4) : am_sem X d 51 [.inr (50, 0), am_I (be_i ((h : Int))), am_I (be_i ((r : Int)))] (am_sd a b u e f) = some (some (am_I (be_i (be_b (be_fit e h r)))), (am_sd a b u e f)) := by
  obtain ⟨d, rfl⟩ : ∃ q, d = q + 1 := ⟨d - 1, by omega⟩
  have he := be_gI e
  have q0 := hW.1
  have q1 := hW.2.1 h hh
  have q2 := hW.2.2.1 r hr
  rw [am_s51]
  simp (disch := (first | assumption | omega | exact (be_gB _ _ _).1 | exact (be_gB _ _ _).2)) only [be_ofI, ↓be_ofN, ↓be_0, be_add, be_sub, be_mul, be_neg, be_rem, be_bi, be_bl, be_bv, be_br, be_bE0, be_bE1, be_b1E, be_b0E, be_bkb, be_cast, Int.toNat_natCast, Int.reduceToNat, be_lt, be_le, be_eq, be_nt, be_ck, be_nz, be_bk, be_div, he, be_m50, be_m2, am_b51_20, am_b51_32]
  unfold be_fit be_ft
  repeat' split
  · rename_i hc
    rw [decide_eq_false (show ¬ be_g e 56 h ≤ be_g e 51 r by omega)]; rfl
  · rename_i hc hq
    rw [decide_eq_true (show be_g e 56 h ≤ be_g e 51 r by omega), hq]; rfl
  · rename_i hc hq hs
    rw [decide_eq_true (show be_g e 56 h ≤ be_g e 51 r by omega), eq_true_of_ne_false hq, eq_true_of_ne_false hs]; rfl
  · rename_i hc hq hs
    rw [decide_eq_true (show be_g e 56 h ≤ be_g e 51 r by omega), eq_true_of_ne_false hq, Decidable.not_not.mp hs]; rfl
theorem be_m52 (hd : 5 ≤ d) (hW : be_W e) (hT : be_T2 e) {h o : Nat} (hh : h < 6) (ho : o < 6) : am_sem X d 52 [.inr (50, 0), am_I (be_i ((h : Int))), am_I (be_i ((o : Int)))] (am_sd a b u e f) = some (some (am_I (be_i (be_b (be_cl e h o)))), (am_sd a b u e f)) := by
  obtain ⟨d, rfl⟩ : ∃ q, d = q + 1 := ⟨d - 1, by omega⟩
  have he := be_gI e
  have q1 := hW.2.1 h hh
  have q2 := hW.2.1 o ho
  have q3 := be_qR e
  have q4 : be_bt e h ≤ 60 ∧ 0 ≤ be_bt e h := by unfold be_bt; omega
  have q5 : be_bt e o ≤ 60 ∧ 0 ≤ be_bt e o := by unfold be_bt; omega
  rw [am_s52]
  simp (disch := (first | assumption | omega | exact (be_gB _ _ _).1 | exact (be_gB _ _ _).2)) only [be_ofI, ↓be_ofN, ↓be_0, be_add, be_sub, be_mul, be_neg, be_rem, be_bi, be_bl, be_bv, be_br, be_bE0, be_bE1, be_b1E, be_b0E, be_bkb, be_cast, Int.toNat_natCast, Int.reduceToNat, be_lt, be_le, be_eq, be_nt, be_ck, be_nz, be_bk, be_div, he, be_m39, be_m3, am_b52_38, am_b52_43, am_b52_46]
  unfold be_cl
  (repeat' split) <;> first | rfl | omega | (rw [decide_eq_true (by omega)]; rfl) | (rw [decide_eq_false (by omega)]; rfl)
theorem be_m57 (hd : 10 ≤ d) (hW : be_W e) (hT : be_T2 e) (hD : be_g e 50 3 ≤ 10100) {N : Nat} (hN : N ≤ 60) : am_sem X d 57 [.inr (50, 0), am_I (be_i ((N : Int)))] (am_sd a b u e f) = some (some (am_I (be_i ((be_ws e (be_g e 50 3) N : Int)))), (am_sd a b u e f)) := by
  obtain ⟨d, rfl⟩ : ∃ q, d = q + 1 := ⟨d - 1, by omega⟩
  have he := be_gI e
  have hd0 := hW.1
  rw [am_s57]
  have key : ∀ (n k : Nat) (w z x : Int), k + n = N → z = (k : Int) → w = (be_ws e (be_g e 50 3) k : Int) → x = be_g e 50 3 + k → am_fix (am_sem X d) X am_P57 10 [.inr (50, 0), am_I (be_i ((N : Int))), am_I (be_i (be_g e 50 3)), am_I (be_i (w)), am_I (be_i (z))] [] (am_sd a b u (am_w3 e 50 0 3 (be_i x)) f) = some (some (am_I (be_i ((be_ws e (be_g e 50 3) N : Int)))), (am_sd a b u e f)) := by
    intro n
    induction n with
    | zero =>
      rintro k w z x hk rfl rfl rfl
      obtain rfl : k = N := hk
      rw [am_b57_10]
      simp (disch := (first | assumption | omega | exact (be_gB _ _ _).1 | exact (be_gB _ _ _).2)) only [be_ofI, ↓be_ofN, ↓be_0, be_add, be_sub, be_mul, be_neg, be_rem, be_bi, be_bl, be_bv, be_br, be_bE0, be_bE1, be_b1E, be_b0E, be_bkb, be_cast, Int.toNat_natCast, Int.reduceToNat, be_lt, be_le, be_eq, be_nt, be_ck, be_nz, be_bk, be_div, be_ww]
      rw [if_pos (by omega), be_wid (he 50 3).symm]
    | succ n ih =>
      rintro k w z x hk rfl rfl rfl
      have hA : be_A e (am_w3 e 50 0 3 (be_i (be_g e 50 3 + k))) := be_A_dy _
      have hg : be_g (am_w3 e 50 0 3 (be_i (be_g e 50 3 + k))) 50 3 = be_g e 50 3 + k := by rw [be_gw _ _ _ _ _ (by omega) (by omega), if_pos ⟨rfl, rfl⟩]
      have hf1 : be_g (am_w3 e 50 0 3 (be_i (be_g e 50 3 + k))) 50 1 = be_g e 50 1 := be_gn _ _ _ _ _ _ _ (by decide)
      have hW' := be_A_W hA (by omega) (by omega) (by omega) (by omega) hW
      have hT' := be_A_T hA hT
      have he' := be_gI (am_w3 e 50 0 3 (be_i (be_g e 50 3 + k)))
      have hq : am_sem X d 48 [.inr (50, 0), am_I (be_i 1)] (am_sd a b u (am_w3 e 50 0 3 (be_i (be_g e 50 3 + k))) f) = some (some (am_I (be_i (be_au e (be_g e 50 3 + k) true (be_nr e) : Int))), am_sd a b u (am_w3 e 50 0 3 (be_i (be_g e 50 3 + k))) f) := by
        have := be_m48 (X := X) (a := a) (b := b) (u := u) (f := f) (d := d) (p := true) (by omega) hW' hT'
        rw [hg, be_A_au hA, be_A_nr hA] at this
        exact this
      rw [am_b57_10]
      simp (disch := (first | assumption | omega | exact (be_gB _ _ _).1 | exact (be_gB _ _ _).2)) only [be_ofI, ↓be_ofN, ↓be_0, be_add, be_sub, be_mul, be_neg, be_rem, be_bi, be_bl, be_bv, be_br, be_bE0, be_bE1, be_b1E, be_b0E, be_bkb, be_cast, Int.toNat_natCast, Int.reduceToNat, be_lt, be_le, be_eq, be_nt, be_ck, be_nz, be_bk, be_div, hq, am_b57_22, he', hg, be_ww]
      rw [if_neg (by omega)]
      refine ih (k + 1) _ _ _ (by omega) (by omega) ?_ (by omega)
      rw [be_ws]; omega
  have h0 := key N 0 0 0 (be_g e 50 3) (Nat.zero_add _) rfl rfl (by omega)
  rw [be_wid (he 50 3).symm] at h0
  simp (disch := (first | assumption | omega | exact (be_gB _ _ _).1 | exact (be_gB _ _ _).2)) only [be_ofI, ↓be_ofN, ↓be_0, be_add, be_sub, be_mul, be_neg, be_rem, be_bi, be_bl, be_bv, be_br, be_bE0, be_bE1, be_b1E, be_b0E, be_bkb, be_cast, Int.toNat_natCast, Int.reduceToNat, be_lt, be_le, be_eq, be_nt, be_ck, be_nz, be_bk, be_div, he]
  exact h0
