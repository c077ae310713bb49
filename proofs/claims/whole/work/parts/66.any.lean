/-! THE CLASS, the reference's state apart (printed by g66.py) -/
variable {d : Nat} {X : am_X} {a : Nat → Nat → Nat → Int32} {b : Nat → Nat → Nat → Int64} {u : Nat → Nat} {e : Nat → Nat → Nat → Int32} {f : Nat → Nat → Nat → Int64}
variable {e0 : Nat → Nat → Nat → Int32}
theorem be_n133 (hd : 1 ≤ d) (hW : be_W e) {h x : Nat} (hh : h < 6) (hH : be_HR a x e h) {y : Int} (hy1 : 0 ≤ y) (hy2 : y ≤ 19999) : am_sem X d 133 [.inr (1, x), am_I (be_i (y))] (am_sd a b u e0 f) = some (some (am_I (be_i (be_comes e y h))), (am_sd a b u e0 f)) := by
  obtain ⟨d, rfl⟩ : ∃ q, d = q + 1 := ⟨d - 1, by omega⟩
  have q1 := hW.2.1 h hh
  obtain ⟨-, e1, e2, e3, e4, e5, e6, e7⟩ := hH
  have e8 := e7 (y % 4).toNat (by omega)
  have hm : 0 ≤ y % 4 ∧ y % 4 < 4 := by omega
  have hv : 0 ≤ y % (be_g e 53 h + 2) ∧ y % (be_g e 53 h + 2) < 20000 := ⟨Int.emod_nonneg _ (by omega), by
    have := Int.emod_lt_of_pos y (show 0 < be_g e 53 h + 2 by omega); omega⟩
  rw [am_s133]
  simp (disch := (first | assumption | omega | exact (be_gB _ _ _).1 | exact (be_gB _ _ _).2)) only [↓reduceIte, be_ofI, ↓be_ofN, ↓be_0, be_add, be_sub, be_mul, be_neg, be_rem, be_bi, be_bl, be_bv, be_br, be_bE0, be_bE1, be_b1E, be_b0E, be_bkb, be_cast, Int.toNat_natCast, Int.reduceToNat, be_lt, be_le, be_eq, be_nt, be_ck, be_nz, be_bk, be_div, e1, e2, e3, be_and3, e8]
  unfold be_comes
  repeat' split
  all_goals first | rfl | omega
theorem be_n134 (hd : 1 ≤ d) (hW : be_W e) {h x : Nat} (hh : h < 6) (hH : be_HR a x e h) : am_sem X d 134 [.inr (1, x)] (am_sd a b u e0 f) = some (some (am_I (be_i (be_goes e h))), (am_sd a b u e0 f)) := by
  obtain ⟨d, rfl⟩ : ∃ q, d = q + 1 := ⟨d - 1, by omega⟩
  have q1 := hW.2.1 h hh
  obtain ⟨-, e1, e2, e3, e4, e5, e6, e7⟩ := hH
  rw [am_s134]
  simp (disch := (first | assumption | omega | exact (be_gB _ _ _).1 | exact (be_gB _ _ _).2)) only [↓reduceIte, be_ofI, ↓be_ofN, ↓be_0, be_add, be_sub, be_mul, be_neg, be_rem, be_bi, be_bl, be_bv, be_br, be_bE0, be_bE1, be_b1E, be_b0E, be_bkb, be_cast, Int.toNat_natCast, Int.reduceToNat, be_lt, be_le, be_eq, be_nt, be_ck, be_nz, be_bk, be_div, e1, e2, e3, e4]
  unfold be_goes
  repeat' split
  all_goals first | rfl | omega
theorem be_n135 (hd : 1 ≤ d) (hW : be_W e) {h x : Nat} (hh : h < 6) (hH : be_HR a x e h) : am_sem X d 135 [.inr (1, x)] (am_sd a b u e0 f) = some (some (am_I (be_i (be_g e 57 h))), (am_sd a b u e0 f)) := by
  obtain ⟨d, rfl⟩ : ∃ q, d = q + 1 := ⟨d - 1, by omega⟩
  have q1 := hW.2.1 h hh
  obtain ⟨-, e1, e2, e3, e4, e5, e6, e7⟩ := hH
  rw [am_s135]
  by_cases hc : be_g e 57 h = 4
  · rw [if_pos hc] at e6
    simp (disch := (first | assumption | omega | exact (be_gB _ _ _).1 | exact (be_gB _ _ _).2)) only [↓reduceIte, be_ofI, ↓be_ofN, ↓be_0, be_add, be_sub, be_mul, be_neg, be_rem, be_bi, be_bl, be_bv, be_br, be_bE0, be_bE1, be_b1E, be_b0E, be_bkb, be_cast, Int.toNat_natCast, Int.reduceToNat, be_lt, be_le, be_eq, be_nt, be_ck, be_nz, be_bk, be_div, e6, hc]
    rfl
  · rw [if_neg hc] at e6
    simp (disch := (first | assumption | omega | exact (be_gB _ _ _).1 | exact (be_gB _ _ _).2)) only [↓reduceIte, be_ofI, ↓be_ofN, ↓be_0, be_add, be_sub, be_mul, be_neg, be_rem, be_bi, be_bl, be_bv, be_br, be_bE0, be_bE1, be_b1E, be_b0E, be_bkb, be_cast, Int.toNat_natCast, Int.reduceToNat, be_lt, be_le, be_eq, be_nt, be_ck, be_nz, be_bk, be_div, e6]
    rw [if_pos (by omega)]
theorem be_n143 (hd : 2 ≤ d) (hW : be_W e) {i h x : Nat} (hh : h < 6) (hH : be_HR a x e h) (hq : a 3 (u (2 * i)) 1 = be_i (be_q e)) :
    am_sem X d 143 [.inr (2, i), .inr (1, x)] (am_sd a b u e0 f) = some (some (am_J (be_mk (fun t => decide (be_g e 54 h ≤ (t : Int) ∧ (t : Int) < be_bt e h)))), (am_sd a b u e0 f)) := by
  obtain ⟨d, rfl⟩ : ∃ q, d = q + 1 := ⟨d - 1, by omega⟩
  have q1 := hW.2.1 h hh
  have q2 := be_qR e
  obtain ⟨-, e1, e2, e3, e4, e5, e6, e7⟩ := hH
  rw [am_s143]
  simp (disch := (first | assumption | omega | exact (be_gB _ _ _).1 | exact (be_gB _ _ _).2)) only [↓reduceIte, be_ofI, ↓be_ofN, ↓be_0, be_add, be_sub, be_mul, be_neg, be_rem, be_bi, be_bl, be_bv, be_br, be_bE0, be_bE1, be_b1E, be_b0E, be_bkb, be_cast, Int.toNat_natCast, Int.reduceToNat, be_lt, be_le, be_eq, be_nt, be_ck, be_nz, be_bk, be_div, e3, e4, be_m142 (be_q e), am_b143_17]
  rfl
theorem be_n144 (hd : 2 ≤ d) (hW : be_W e) (hT : be_T2 e) {i h x : Nat} (hh : h < 6) (hH : be_HR a x e h) (hq : a 3 (u (2 * i)) 1 = be_i (be_q e)) (ho : a 2 i 6 = be_i (be_h e)) {y : Int} (hy1 : 0 ≤ y) (hy2 : y ≤ 19999) :
    am_sem X d 144 [.inr (2, i), .inr (1, x), am_I (be_i (y))] (am_sd a b u e0 f) = some (some (am_J (be_mk (be_held e y h))), (am_sd a b u e0 f)) := by
  obtain ⟨d, rfl⟩ : ∃ q, d = q + 1 := ⟨d - 1, by omega⟩
  have q1 := hW.2.1 h hh
  have q2 := be_qR e
  have q3 := be_hR hT
  have q4 := be_comesR hW (dy := y) hh
  have q5 := be_comes5 hW (y := y) hh
  have hc := be_n133 (e0 := e0) (X := X) (b := b) (u := u) (f := f) (d := d) (by omega) hW hh hH hy1 hy2
  obtain ⟨-, e1, e2, e3, e4, e5, e6, e7⟩ := hH
  rw [am_s144]
  have e8 := be_minI (x := be_g e 54 h + be_h e) (y := be_g e 54 h + be_g e 55 h) (by omega) (by omega) (by omega) (by omega)
  simp (disch := (first | assumption | omega | exact (be_gB _ _ _).1 | exact (be_gB _ _ _).2)) only [be_ofI, ↓be_ofN, ↓be_0, be_add, be_bi, be_bl, hc, e3, e4, ho, e8, be_m142 (be_q e), am_b144_5, am_b144_72, be_eq, be_le]
  have hb : ∀ z : Int, (∀ t : Nat, (be_g e 54 h ≤ (t : Int) ∧ (t : Int) < z) ↔ (be_g e 54 h ≤ (t : Int) ∧ (t : Int) < be_ht e y h)) → be_mk (fun t => decide (be_g e 54 h ≤ (t : Int) ∧ (t : Int) < z)) = be_mk (be_held e y h) := by
    intro z hz
    refine be_mk_congr fun t _ => ?_
    unfold be_held
    rw [Bool.eq_iff_iff, decide_eq_true_iff, decide_eq_true_iff, hz t]
  have hl : be_ht e y h = if be_comes e y h < 0 ∨ be_g e 54 h + be_h e < be_comes e y h then min (be_g e 54 h + be_h e) (min (be_g e 54 h + be_g e 55 h) (be_q e)) else min (be_g e 54 h + be_g e 55 h) (be_q e) := rfl
  repeat' split
  all_goals (rw [hb]; intro t; rw [hl]; (first | rw [if_pos (by omega)] | rw [if_neg (by omega)]) <;> omega)
theorem be_n145 (hd : 2 ≤ d) (hW : be_W e) {i h x : Nat} (hh : h < 6) (hH : be_HR a x e h) (hq : a 3 (u (2 * i)) 1 = be_i (be_q e)) {y : Int} (hy1 : 0 ≤ y) (hy2 : y ≤ 19999) :
    am_sem X d 145 [.inr (2, i), .inr (1, x), am_I (be_i (y))] (am_sd a b u e0 f) = some (some (am_J (be_mk (be_in e y h))), (am_sd a b u e0 f)) := by
  obtain ⟨d, rfl⟩ : ∃ q, d = q + 1 := ⟨d - 1, by omega⟩
  have q1 := hW.2.1 h hh
  have q2 := be_qR e
  have q4 := be_comesR hW (dy := y) hh
  have q5 := be_comes5 hW (y := y) hh
  have q6 : 0 ≤ be_goes e h ∧ be_goes e h ≤ 160 := by unfold be_goes; split <;> omega
  have hc := be_n133 (e0 := e0) (X := X) (b := b) (u := u) (f := f) (d := d) (by omega) hW hh hH hy1 hy2
  have hg := be_n134 (e0 := e0) (X := X) (b := b) (u := u) (f := f) (d := d) (by omega) hW hh hH
  rw [am_s145]
  simp (disch := (first | assumption | omega | exact (be_gB _ _ _).1 | exact (be_gB _ _ _).2)) only [be_ofI, ↓be_ofN, ↓be_0, be_add, be_bi, be_bl, hc, hg, be_m142 (be_q e), am_b145_5, am_b145_22, am_b145_25, be_eq]
  split
  · refine be_retJ (be_mk_congr fun t _ => ?_) _
    unfold be_in
    rw [Bool.eq_iff_iff, decide_eq_true_iff, decide_eq_true_iff]; omega
  · rw [be_mk_0]
    refine be_retJ (be_mk_congr fun t _ => ?_) _
    unfold be_in
    symm
    rw [decide_eq_false_iff_not]; omega
theorem be_n147 (hd : 3 ≤ d) (hW : be_W e) (hT : be_T2 e) {i r : Nat} (hr : r < 4) (hH : be_HO a u i e) {y : Int} (hy1 : 0 ≤ y) (hy2 : y ≤ 19999) :
    am_sem X d 147 [.inr (2, i), am_I (be_i ((r : Int))), am_I (be_i (y))] (am_sd a b u e0 f) = some (some (am_J (be_mk (be_hM e y r (be_nh e)))), (am_sd a b u e0 f)) := by
  obtain ⟨d, rfl⟩ : ∃ q, d = q + 1 := ⟨d - 1, by omega⟩
  obtain ⟨hn, hn2⟩ := be_nhR hW
  obtain ⟨e1, e2, e3, e4, e5, e6, e7⟩ := hH
  rw [am_s147]
  have key : ∀ (n k : Nat) (z : Int) (w : Int64), k + n = be_nh e → z = (k : Int) → w = be_mk (be_hM e y r k) → am_fix (am_sem X d) X am_P147 5 [.inr (2, i), am_I (be_i ((r : Int))), am_I (be_i (y)), am_J w, am_un, am_I (be_i (z))] [] (am_sd a b u e0 f) = some (some (am_J (be_mk (be_hM e y r (be_nh e)))), (am_sd a b u e0 f)) := by
    intro n
    induction n with
    | zero =>
      rintro k z w hk rfl rfl
      obtain rfl : k = be_nh e := hk
      rw [am_b147_5]
      simp (disch := (first | assumption | omega | exact (be_gB _ _ _).1 | exact (be_gB _ _ _).2)) only [↓reduceIte, be_ofI, ↓be_ofN, ↓be_0, be_add, be_sub, be_mul, be_neg, be_rem, be_bi, be_bl, be_bv, be_br, be_bE0, be_bE1, be_b1E, be_b0E, be_bkb, be_cast, Int.toNat_natCast, Int.reduceToNat, be_lt, be_le, be_eq, be_nt, be_ck, be_nz, be_bk, be_div, e2]
      rw [if_pos (by omega)]
    | succ n ih =>
      rintro k z w hk rfl rfl
      rw [am_b147_5]
      have q1 := hW.2.1 k (by omega)
      have hHR := e6 k (by omega)
      have hv := be_n144 (e0 := e0) (X := X) (b := b) (f := f) (d := d) (by omega) hW hT (by omega) hHR e5 e4 hy1 hy2
      have h6 := hHR.2.2.2.2.2.2.1
      have hb6 : -5 ≤ (if be_g e 57 k = 4 then -5 else be_g e 57 k) ∧ (if be_g e 57 k = 4 then -5 else be_g e 57 k) ≤ 4 := by split <;> omega
      simp (disch := (first | assumption | omega | exact (be_gB _ _ _).1 | exact (be_gB _ _ _).2)) only [↓reduceIte, be_ofI, ↓be_ofN, ↓be_0, be_add, be_sub, be_mul, be_neg, be_rem, be_bi, be_bl, be_bv, be_br, be_bE0, be_bE1, be_b1E, be_b0E, be_bkb, be_cast, Int.toNat_natCast, Int.reduceToNat, be_lt, be_le, be_eq, be_nt, be_ck, be_nz, be_bk, be_div, e2, h6, be_r57, hv, am_b147_41]
      rw [if_neg (by omega)]
      split
      · rename_i hc
        refine ih (k + 1) _ _ (by omega) (by omega) (be_mk_congr fun t _ => ?_)
        unfold be_hM
        rw [show be_hS e y r t (k + 1) = be_bs (fun h => decide (be_g e 57 h = (r : Int)) && be_held e y h t) (k + 1) from rfl, be_bs_s, decide_eq_false hc, Bool.false_and, Bool.or_false]
        rfl
      · rename_i hc
        have hc := Decidable.not_not.mp hc
        refine ih (k + 1) _ _ (by omega) (by omega) ?_
        rw [be_mk_or]
        refine be_mk_congr fun t _ => ?_
        unfold be_hM
        rw [show be_hS e y r t (k + 1) = be_bs (fun h => decide (be_g e 57 h = (r : Int)) && be_held e y h t) (k + 1) from rfl, be_bs_s, decide_eq_true hc, Bool.true_and]
        rfl
  exact key (be_nh e) 0 _ _ (Nat.zero_add _) rfl be_mk_0
theorem be_n148 (hd : 3 ≤ d) (hW : be_W e) (hT : be_T2 e) {i r : Nat} (hr : r < 4) (hH : be_HO a u i e) {y : Int} (hy1 : 0 ≤ y) (hy2 : y ≤ 19999) :
    am_sem X d 148 [.inr (2, i), am_I (be_i ((r : Int))), am_I (be_i (y))] (am_sd a b u e0 f) = some (some (am_J (be_mk (be_iM e y r (be_nh e)))), (am_sd a b u e0 f)) := by
  obtain ⟨d, rfl⟩ : ∃ q, d = q + 1 := ⟨d - 1, by omega⟩
  obtain ⟨hn, hn2⟩ := be_nhR hW
  obtain ⟨e1, e2, e3, e4, e5, e6, e7⟩ := hH
  rw [am_s148]
  have key : ∀ (n k : Nat) (z : Int) (w : Int64), k + n = be_nh e → z = (k : Int) → w = be_mk (be_iM e y r k) → am_fix (am_sem X d) X am_P148 5 [.inr (2, i), am_I (be_i ((r : Int))), am_I (be_i (y)), am_J w, am_un, am_I (be_i (z))] [] (am_sd a b u e0 f) = some (some (am_J (be_mk (be_iM e y r (be_nh e)))), (am_sd a b u e0 f)) := by
    intro n
    induction n with
    | zero =>
      rintro k z w hk rfl rfl
      obtain rfl : k = be_nh e := hk
      rw [am_b148_5]
      simp (disch := (first | assumption | omega | exact (be_gB _ _ _).1 | exact (be_gB _ _ _).2)) only [↓reduceIte, be_ofI, ↓be_ofN, ↓be_0, be_add, be_sub, be_mul, be_neg, be_rem, be_bi, be_bl, be_bv, be_br, be_bE0, be_bE1, be_b1E, be_b0E, be_bkb, be_cast, Int.toNat_natCast, Int.reduceToNat, be_lt, be_le, be_eq, be_nt, be_ck, be_nz, be_bk, be_div, e2]
      rw [if_pos (by omega)]
    | succ n ih =>
      rintro k z w hk rfl rfl
      rw [am_b148_5]
      have q1 := hW.2.1 k (by omega)
      have hHR := e6 k (by omega)
      have hv := be_n145 (e0 := e0) (X := X) (b := b) (f := f) (d := d) (by omega) hW (by omega) hHR e5 hy1 hy2
      have h6 := hHR.2.2.2.2.2.2.1
      have hb6 : -5 ≤ (if be_g e 57 k = 4 then -5 else be_g e 57 k) ∧ (if be_g e 57 k = 4 then -5 else be_g e 57 k) ≤ 4 := by split <;> omega
      simp (disch := (first | assumption | omega | exact (be_gB _ _ _).1 | exact (be_gB _ _ _).2)) only [↓reduceIte, be_ofI, ↓be_ofN, ↓be_0, be_add, be_sub, be_mul, be_neg, be_rem, be_bi, be_bl, be_bv, be_br, be_bE0, be_bE1, be_b1E, be_b0E, be_bkb, be_cast, Int.toNat_natCast, Int.reduceToNat, be_lt, be_le, be_eq, be_nt, be_ck, be_nz, be_bk, be_div, e2, h6, be_r57, hv, am_b148_41]
      rw [if_neg (by omega)]
      split
      · rename_i hc
        refine ih (k + 1) _ _ (by omega) (by omega) (be_mk_congr fun t _ => ?_)
        unfold be_iM
        rw [show be_iS e y r t (k + 1) = be_bs (fun h => decide (be_g e 57 h = (r : Int)) && be_in e y h t) (k + 1) from rfl, be_bs_s, decide_eq_false hc, Bool.false_and, Bool.or_false]
        rfl
      · rename_i hc
        have hc := Decidable.not_not.mp hc
        refine ih (k + 1) _ _ (by omega) (by omega) ?_
        rw [be_mk_or]
        refine be_mk_congr fun t _ => ?_
        unfold be_iM
        rw [show be_iS e y r t (k + 1) = be_bs (fun h => decide (be_g e 57 h = (r : Int)) && be_in e y h t) (k + 1) from rfl, be_bs_s, decide_eq_true hc, Bool.true_and]
        rfl
  exact key (be_nh e) 0 _ _ (Nat.zero_add _) rfl be_mk_0
theorem be_n149 (hd : 4 ≤ d) (hW : be_W e) (hT : be_T2 e) {i r : Nat} (hr : r < 4) (hH : be_HO a u i e) {y : Int} (hy1 : 0 ≤ y) (hy2 : y ≤ 19999) :
    am_sem X d 149 [.inr (2, i), am_I (be_i ((r : Int))), am_I (be_i (y))] (am_sd a b u e0 f) = some (some (am_I (be_i ((be_un e y r true (be_q e).toNat : Int)))), (am_sd a b u e0 f)) := by
  obtain ⟨d, rfl⟩ : ∃ q, d = q + 1 := ⟨d - 1, by omega⟩
  have hq := be_qR e
  rw [am_s149]
  have hv1 := be_n147 (e0 := e0) (X := X) (b := b) (f := f) (d := d) (by omega) hW hT hr hH hy1 hy2
  have hv2 := be_n148 (e0 := e0) (X := X) (b := b) (f := f) (d := d) (by omega) hW hT hr hH hy1 hy2
  simp (disch := (first | assumption | omega | exact (be_gB _ _ _).1 | exact (be_gB _ _ _).2)) only [↓reduceIte, be_ofI, ↓be_ofN, ↓be_0, be_add, be_sub, be_mul, be_neg, be_rem, be_bi, be_bl, be_bv, be_br, be_bE0, be_bE1, be_b1E, be_b0E, be_bkb, be_cast, Int.toNat_natCast, Int.reduceToNat, be_lt, be_le, be_eq, be_nt, be_ck, be_nz, be_bk, be_div, hv1, hv2, am_b149_6, am_b149_12, am_b149_20, be_mk_not, be_mk_and, be_m112]
  refine be_retI ?_ _
  rw [be_cnt_ext (m := (be_q e).toNat) (by omega) (fun t h1 h2 => by unfold be_hM; rw [be_hS_big _ _ _ _ h1]; rfl)]
  unfold be_un
  rw [be_cnt_congr]
  intro t _
  unfold be_hM be_iM be_un1
  simp only [decide_not, Bool.not_not]
  cases decide (be_iS e y r t (be_nh e) = 0) <;> cases decide (be_hS e y r t (be_nh e) = 0) <;> rfl
theorem be_n150 (hd : 4 ≤ d) (hW : be_W e) (hT : be_T2 e) {i r : Nat} (hr : r < 4) (hH : be_HO a u i e) {y : Int} (hy1 : 0 ≤ y) (hy2 : y ≤ 19999) :
    am_sem X d 150 [.inr (2, i), am_I (be_i ((r : Int))), am_I (be_i (y))] (am_sd a b u e0 f) = some (some (am_I (be_i ((be_un e y r false (be_q e).toNat : Int)))), (am_sd a b u e0 f)) := by
  obtain ⟨d, rfl⟩ : ∃ q, d = q + 1 := ⟨d - 1, by omega⟩
  have hq := be_qR e
  rw [am_s150]
  have hv1 := be_n147 (e0 := e0) (X := X) (b := b) (f := f) (d := d) (by omega) hW hT hr hH hy1 hy2
  have hv2 := be_n148 (e0 := e0) (X := X) (b := b) (f := f) (d := d) (by omega) hW hT hr hH hy1 hy2
  have e5 := hH.2.2.2.2.1
  simp (disch := (first | assumption | omega | exact (be_gB _ _ _).1 | exact (be_gB _ _ _).2)) only [↓reduceIte, be_ofI, ↓be_ofN, ↓be_0, be_add, be_sub, be_mul, be_neg, be_rem, be_bi, be_bl, be_bv, be_br, be_bE0, be_bE1, be_b1E, be_b0E, be_bkb, be_cast, Int.toNat_natCast, Int.reduceToNat, be_lt, be_le, be_eq, be_nt, be_ck, be_nz, be_bk, be_div, e5, hv1, hv2, am_b150_13, am_b150_19, am_b150_23, be_mk_or, be_m112]
  refine be_retI ?_ _
  rw [be_cnt_ext (m := (be_q e).toNat) (by omega) (fun t h1 h2 => by unfold be_hM be_iM; rw [be_hS_big _ _ _ _ h1, be_iS_big _ _ _ _ h1]; rfl)]
  have h0 := be_cnt_not (fun t => be_hM e y r (be_nh e) t || be_iM e y r (be_nh e) t) (be_q e).toNat
  have h1 : be_un e y r false (be_q e).toNat = be_cnt (fun t => !(be_hM e y r (be_nh e) t || be_iM e y r (be_nh e) t)) (be_q e).toNat := by
    unfold be_un
    refine be_cnt_congr fun t _ => ?_
    unfold be_hM be_iM be_un1
    simp only [decide_not]
    cases decide (be_iS e y r t (be_nh e) = 0) <;> cases decide (be_hS e y r t (be_nh e) = 0) <;> rfl
  omega
theorem be_n151 (hd : 5 ≤ d) (hW : be_W e) (hT : be_T2 e) {i : Nat} (hH : be_HO a u i e) {y : Int} (hy1 : 0 ≤ y) (hy2 : y ≤ 19999) :
    am_sem X d 151 [.inr (2, i), am_I (be_i (y))] (am_sd a b u e0 f) = some (some (am_I (be_i ((be_au e y true (be_nr e) : Int)))), (am_sd a b u e0 f)) := by
  obtain ⟨d, rfl⟩ : ∃ q, d = q + 1 := ⟨d - 1, by omega⟩
  obtain ⟨hn, hn2⟩ := be_nrR hW
  have e1 := hH.1
  rw [am_s151]
  have key : ∀ (n k : Nat) (w z : Int), k + n = be_nr e → z = (k : Int) → w = (be_au e y true k : Int) → am_fix (am_sem X d) X am_P151 4 [.inr (2, i), am_I (be_i (y)), am_I (be_i (w)), am_I (be_i (z))] [] (am_sd a b u e0 f) = some (some (am_I (be_i ((be_au e y true (be_nr e) : Int)))), (am_sd a b u e0 f)) := by
    intro n
    induction n with
    | zero =>
      rintro k w z hk rfl rfl
      obtain rfl : k = be_nr e := hk
      rw [am_b151_4]
      simp (disch := (first | assumption | omega | exact (be_gB _ _ _).1 | exact (be_gB _ _ _).2)) only [↓reduceIte, be_ofI, ↓be_ofN, ↓be_0, be_add, be_sub, be_mul, be_neg, be_rem, be_bi, be_bl, be_bv, be_br, be_bE0, be_bE1, be_b1E, be_b0E, be_bkb, be_cast, Int.toNat_natCast, Int.reduceToNat, be_lt, be_le, be_eq, be_nt, be_ck, be_nz, be_bk, be_div, e1]
      rw [if_pos (by omega)]
    | succ n ih =>
      rintro k w z hk rfl rfl
      have hv := be_n149 (e0 := e0) (X := X) (b := b) (f := f) (d := d) (r := k) (by omega) hW hT (by omega) hH hy1 hy2
      rw [am_b151_4]
      simp (disch := (first | assumption | omega | exact (be_gB _ _ _).1 | exact (be_gB _ _ _).2)) only [↓reduceIte, be_ofI, ↓be_ofN, ↓be_0, be_add, be_sub, be_mul, be_neg, be_rem, be_bi, be_bl, be_bv, be_br, be_bE0, be_bE1, be_b1E, be_b0E, be_bkb, be_cast, Int.toNat_natCast, Int.reduceToNat, be_lt, be_le, be_eq, be_nt, be_ck, be_nz, be_bk, be_div, e1, hv, am_b151_19]
      rw [if_neg (by omega)]
      refine ih (k + 1) _ _ (by omega) (by omega) ?_
      rw [be_au]; omega
  exact key _ 0 _ _ (Nat.zero_add _) rfl rfl
theorem be_n152 (hd : 5 ≤ d) (hW : be_W e) (hT : be_T2 e) {i : Nat} (hH : be_HO a u i e) {y : Int} (hy1 : 0 ≤ y) (hy2 : y ≤ 19999) :
    am_sem X d 152 [.inr (2, i), am_I (be_i (y))] (am_sd a b u e0 f) = some (some (am_I (be_i ((be_au e y false (be_nr e) : Int)))), (am_sd a b u e0 f)) := by
  obtain ⟨d, rfl⟩ : ∃ q, d = q + 1 := ⟨d - 1, by omega⟩
  obtain ⟨hn, hn2⟩ := be_nrR hW
  have e1 := hH.1
  rw [am_s152]
  have key : ∀ (n k : Nat) (w z : Int), k + n = be_nr e → z = (k : Int) → w = (be_au e y false k : Int) → am_fix (am_sem X d) X am_P152 4 [.inr (2, i), am_I (be_i (y)), am_I (be_i (w)), am_I (be_i (z))] [] (am_sd a b u e0 f) = some (some (am_I (be_i ((be_au e y false (be_nr e) : Int)))), (am_sd a b u e0 f)) := by
    intro n
    induction n with
    | zero =>
      rintro k w z hk rfl rfl
      obtain rfl : k = be_nr e := hk
      rw [am_b152_4]
      simp (disch := (first | assumption | omega | exact (be_gB _ _ _).1 | exact (be_gB _ _ _).2)) only [↓reduceIte, be_ofI, ↓be_ofN, ↓be_0, be_add, be_sub, be_mul, be_neg, be_rem, be_bi, be_bl, be_bv, be_br, be_bE0, be_bE1, be_b1E, be_b0E, be_bkb, be_cast, Int.toNat_natCast, Int.reduceToNat, be_lt, be_le, be_eq, be_nt, be_ck, be_nz, be_bk, be_div, e1]
      rw [if_pos (by omega)]
    | succ n ih =>
      rintro k w z hk rfl rfl
      have hv := be_n150 (e0 := e0) (X := X) (b := b) (f := f) (d := d) (r := k) (by omega) hW hT (by omega) hH hy1 hy2
      rw [am_b152_4]
      simp (disch := (first | assumption | omega | exact (be_gB _ _ _).1 | exact (be_gB _ _ _).2)) only [↓reduceIte, be_ofI, ↓be_ofN, ↓be_0, be_add, be_sub, be_mul, be_neg, be_rem, be_bi, be_bl, be_bv, be_br, be_bE0, be_bE1, be_b1E, be_b0E, be_bkb, be_cast, Int.toNat_natCast, Int.reduceToNat, be_lt, be_le, be_eq, be_nt, be_ck, be_nz, be_bk, be_div, e1, hv, am_b152_19]
      rw [if_neg (by omega)]
      refine ih (k + 1) _ _ (by omega) (by omega) ?_
      rw [be_au]; omega
  exact key _ 0 _ _ (Nat.zero_add _) rfl rfl
theorem be_n153 (hd : 6 ≤ d) (hW : be_W e) (hT : be_T2 e) (hD : be_g e 50 3 ≤ 10100) {i : Nat} (hH : be_HO a u i e) {N : Nat} (hN : N ≤ 60) :
    am_sem X d 153 [.inr (2, i), am_I (be_i ((N : Int)))] (am_sd a b u e0 f) = some (some (am_I (be_i ((be_ws e (be_g e 50 3) N : Int)))), (am_sd a b u e0 f)) := by
  obtain ⟨d, rfl⟩ : ∃ q, d = q + 1 := ⟨d - 1, by omega⟩
  have hd0 := hW.1
  have e3 := hH.2.2.1
  rw [am_s153]
  have key : ∀ (n k : Nat) (w z : Int), k + n = N → z = (k : Int) → w = (be_ws e (be_g e 50 3) k : Int) → am_fix (am_sem X d) X am_P153 4 [.inr (2, i), am_I (be_i ((N : Int))), am_I (be_i (w)), am_I (be_i (z))] [] (am_sd a b u e0 f) = some (some (am_I (be_i ((be_ws e (be_g e 50 3) N : Int)))), (am_sd a b u e0 f)) := by
    intro n
    induction n with
    | zero =>
      rintro k w z hk rfl rfl
      obtain rfl : k = N := hk
      rw [am_b153_4]
      simp (disch := (first | assumption | omega | exact (be_gB _ _ _).1 | exact (be_gB _ _ _).2)) only [↓reduceIte, be_ofI, ↓be_ofN, ↓be_0, be_add, be_sub, be_mul, be_neg, be_rem, be_bi, be_bl, be_bv, be_br, be_bE0, be_bE1, be_b1E, be_b0E, be_bkb, be_cast, Int.toNat_natCast, Int.reduceToNat, be_lt, be_le, be_eq, be_nt, be_ck, be_nz, be_bk, be_div]
      rw [if_pos (by omega)]
    | succ n ih =>
      rintro k w z hk rfl rfl
      have hv := be_n151 (e0 := e0) (X := X) (b := b) (f := f) (d := d) (y := be_g e 50 3 + k) (by omega) hW hT hH (by omega) (by omega)
      rw [am_b153_4]
      simp (disch := (first | assumption | omega | exact (be_gB _ _ _).1 | exact (be_gB _ _ _).2)) only [↓reduceIte, be_ofI, ↓be_ofN, ↓be_0, be_add, be_sub, be_mul, be_neg, be_rem, be_bi, be_bl, be_bv, be_br, be_bE0, be_bE1, be_b1E, be_b0E, be_bkb, be_cast, Int.toNat_natCast, Int.reduceToNat, be_lt, be_le, be_eq, be_nt, be_ck, be_nz, be_bk, be_div, e3, hv, am_b153_20]
      rw [if_neg (by omega)]
      refine ih (k + 1) _ _ (by omega) (by omega) ?_
      rw [be_ws]; omega
  exact key _ 0 _ _ (Nat.zero_add _) rfl rfl
theorem be_n182 (hd : 1 ≤ d) (hW : be_W e) {h r x z : Nat} (hh : h < 6) (hr : r < 4) (hH : be_HR a x e h) (hR : be_RR a z e r) : am_sem X d 182 [.inr (5, z), .inr (1, x)] (am_sd a b u e0 f) = some (some (am_I (be_i (be_b (be_fit e h r)))), (am_sd a b u e0 f)) := by
  obtain ⟨d, rfl⟩ : ∃ q, d = q + 1 := ⟨d - 1, by omega⟩
  have q1 := hW.2.1 h hh
  have q2 := hW.2.2.1 r hr
  obtain ⟨-, e1, e2, e3, e4, e5, e6, e7⟩ := hH
  obtain ⟨-, r1, r2⟩ := hR
  rw [am_s182]
  simp (disch := (first | assumption | omega | exact (be_gB _ _ _).1 | exact (be_gB _ _ _).2)) only [↓reduceIte, be_ofI, ↓be_ofN, ↓be_0, be_add, be_sub, be_mul, be_neg, be_rem, be_bi, be_bl, be_bv, be_br, be_bE0, be_bE1, be_b1E, be_b0E, be_bkb, be_cast, Int.toNat_natCast, Int.reduceToNat, be_lt, be_le, be_eq, be_nt, be_ck, be_nz, be_bk, be_div, e1, e5, r1, r2]
  have hf : be_fit e h r = (decide (be_g e 56 h ≤ be_g e 51 r) && !(decide (be_g e 52 h = 1 ∨ be_g e 52 h = 4) && be_ft e r)) := rfl
  by_cases c1 : be_g e 51 r < be_g e 56 h
  · rw [hf, decide_eq_false (show ¬ be_g e 56 h ≤ be_g e 51 r by omega)]
    simp only [if_pos c1]
    repeat' split
    all_goals rfl
  · rw [hf, decide_eq_true (show be_g e 56 h ≤ be_g e 51 r by omega)]
    simp only [if_neg c1]
    by_cases c2 : be_g e 52 h = 1 ∨ be_g e 52 h = 4
    · rw [decide_eq_true c2]
      cases hq : be_ft e r
      · repeat' split
        all_goals first | rfl | (exfalso; omega) | (rename_i q; exact absurd rfl q)
      · repeat' split
        all_goals first | rfl | (exfalso; omega) | (rename_i q; exact absurd (by decide) q)
    · rw [decide_eq_false c2]
      rw [if_neg (by omega), if_pos (by omega)]
      rfl
theorem be_n163 (hd : 3 ≤ d) {x z o f' : Nat} {g : Nat → Int} (hN : be_NR a x z g) (hg : ∀ j, 0 ≤ g j ∧ g j ≤ 99) {n0 : Nat} (hn : n0 = 0 ∨ (be_OF e f' ∧ n0 = (be_g e 60 f').toNat ∧ n0 ≤ 10)) (hW : be_OW a o e f' n0) :
    am_sem X d 163 [.inr (3, o), .inr (1, x), .inr (5, z)] (am_sd a b u e0 f) = some (some (am_I (be_i (max (be_wsum e g f' n0) 0))), (am_sd a b u e0 f)) := by
  obtain ⟨d, rfl⟩ : ∃ q, d = q + 1 := ⟨d - 1, by omega⟩
  have hbd : ∀ k, k ≤ n0 → -1000 ≤ be_wsum e g f' k ∧ be_wsum e g f' k ≤ 1010 := by
    intro k hk
    rcases hn with n3 | ⟨n3, n4, n5⟩
    · obtain rfl : k = 0 := by omega
      rw [be_wsum]; omega
    · have := be_wsumR n3 g k (by omega)
      omega
  have hn10 : n0 ≤ 10 := by omega
  obtain ⟨w1, w2, w3⟩ := hW
  have key : ∀ (n k : Nat) (w y v : Int), k + n = n0 → v = be_wsum e g f' k → y = (be_pos e f' k : Int) → w = (be_wn e f' k : Int) →
      am_fix (am_sem X d) X am_P163 9 [.inr (3, o), .inr (1, x), .inr (5, z), am_I (be_i (v)), am_I (be_i (y)), am_I (be_i (w))] [] (am_sd a b u e0 f) = some (some (am_I (be_i (max (be_wsum e g f' n0) 0))), (am_sd a b u e0 f)) := by
    intro n
    induction n with
    | zero =>
      rintro k w y v hk rfl rfl rfl
      obtain rfl : k = n0 := hk
      have hb := hbd k (by omega)
      have hle := be_wn_le e f' k
      rw [am_b163_9]
      simp (disch := (first | assumption | omega | exact (be_gB _ _ _).1 | exact (be_gB _ _ _).2)) only [be_ofI, ↓be_ofN, ↓be_0, w1, be_le]
      rw [if_pos (by omega), be_maxI (by omega) (by omega)]
    | succ n ih =>
      rintro k w y v hk rfl rfl rfl
      have hb := hbd k (by omega)
      have hle := be_wn_le e f' k
      rcases hn with n3 | ⟨hO, n4, n5⟩
      · omega
      have hs : be_wsum e g f' (k + 1) = be_wsum e g f' k + (if be_g e 61 (10 * f' + k) < 2 ∧ be_wv e g f' k = true then (if be_g e 61 (10 * f' + k) = 0 then be_g e 62 (10 * f' + k) else -be_g e 62 (10 * f' + k)) else 0) := rfl
      by_cases hw : be_g e 61 (10 * f' + k) < 2
      · obtain ⟨c1, c2, c3, c4, c5⟩ := hO.2.2 k (by omega)
        obtain ⟨v1, v2, v3, v4, v5, v6⟩ := c5 hw
        obtain ⟨q1, q2⟩ := w2 k (by omega) hw
        have hwn : be_wn e f' (k + 1) = be_wn e f' k + 1 := by rw [be_wn, if_pos hw]
        have hle2 := be_wn_mono e f' (k := k + 1) (n := n0) (by omega)
        have hle3 := be_wn_le e f' n0
        have hpm := be_pos_mono hO (k := k + 1) (n := n0) (by omega) (by omega)
        have hso := be_m164 (X := X) (a := a) (b := b) (u := u) (e := e0) (f := f) (d := d) (x := x) (z := z) (o := o) (s := 100 * f' + be_pos e f' k) (s' := be_pos e f' k) (m := be_pos e f' (k + 1) - be_pos e f' k) (g := g) (t := be_g e 65) (by omega) hN hg (by omega) v5 v6
          (fun j hj => by rw [w3 _ (by omega), Nat.add_assoc])
        rw [show be_pos e f' k + (be_pos e f' (k + 1) - be_pos e f' k) = be_pos e f' (k + 1) by omega] at hso
        have hwv : be_vl g (be_g e 65) (100 * f' + be_pos e f' k) (be_pos e f' (k + 1) - be_pos e f' k) 0 = be_wv e g f' k := rfl
        rw [hwv] at hso
        rw [am_b163_9]
        simp (disch := (first | assumption | omega | exact (be_gB _ _ _).1 | exact (be_gB _ _ _).2)) only [↓reduceIte, be_ofI, ↓be_ofN, ↓be_0, be_add, be_sub, be_mul, be_neg, be_rem, be_bi, be_bl, be_bv, be_br, be_bE0, be_bE1, be_b1E, be_b0E, be_bkb, be_cast, Int.toNat_natCast, Int.reduceToNat, be_lt, be_le, be_eq, be_nt, be_ck, be_nz, be_bk, be_div, w1, q1, q2, hso, am_b163_33]
        rw [if_neg (by omega)]
        split
        · rename_i hq
          rw [if_neg (fun p => by rw [hq] at p; exact absurd p.2 (by decide))] at hs
          exact ih (k + 1) _ _ _ (by omega) (by omega) rfl (by omega)
        · rename_i hq
          rw [if_pos ⟨hw, eq_true_of_ne_false hq⟩] at hs
          exact ih (k + 1) _ _ _ (by omega) (by omega) rfl (by omega)
      · rw [if_neg (fun q => hw q.1)] at hs
        have hwn : be_wn e f' (k + 1) = be_wn e f' k := by rw [be_wn, if_neg hw]; rfl
        have hp : be_pos e f' (k + 1) = be_pos e f' k := by rw [be_pos, if_neg hw]
        exact ih (k + 1) _ _ _ (by omega) (by omega) (by rw [hp]) (by rw [hwn])
  rw [am_s163]
  exact key n0 0 _ _ _ (Nat.zero_add _) rfl rfl rfl
theorem be_n146 (hd : 3 ≤ d) (hW : be_W e) {i h r x : Nat} (hh : h < 6) (hr : r < 4) (hH : be_HO a u i e) (hX : be_HR a x e h) :
    am_sem X d 146 [.inr (2, i), am_I (be_i ((r : Int))), .inr (1, x)] (am_sd a b u e0 f) = some (some (am_I (be_i (be_b (be_any (be_c1 e r h) (be_nh e))))), (am_sd a b u e0 f)) := by
  obtain ⟨d, rfl⟩ : ∃ q, d = q + 1 := ⟨d - 1, by omega⟩
  obtain ⟨hn, hn2⟩ := be_nhR hW
  obtain ⟨e1, e2, e3, e4, e5, e6, e7⟩ := hH
  have hx0 := hX.1
  have hbx := be_n143 (e0 := e0) (X := X) (b := b) (f := f) (d := d) (by omega) hW hh hX e5
  rw [am_s146]
  have key : ∀ (n k : Nat) (z : Int), k + n = be_nh e → z = (k : Int) → be_any (be_c1 e r h) k = false → am_fix (am_sem X d) X am_P146 2 [.inr (2, i), am_I (be_i ((r : Int))), .inr (1, x), am_I (be_i (z))] [] (am_sd a b u e0 f) = some (some (am_I (be_i (be_b (be_any (be_c1 e r h) (be_nh e))))), (am_sd a b u e0 f)) := by
    intro n
    induction n with
    | zero =>
      rintro k z hk rfl hf
      obtain rfl : k = be_nh e := hk
      rw [am_b146_2]
      simp (disch := (first | assumption | omega | exact (be_gB _ _ _).1 | exact (be_gB _ _ _).2)) only [↓reduceIte, be_ofI, ↓be_ofN, ↓be_0, be_add, be_sub, be_mul, be_neg, be_rem, be_bi, be_bl, be_bv, be_br, be_bE0, be_bE1, be_b1E, be_b0E, be_bkb, be_cast, Int.toNat_natCast, Int.reduceToNat, be_lt, be_le, be_eq, be_nt, be_ck, be_nz, be_bk, be_div, e2]
      rw [if_pos (by omega), hf]
      rfl
    | succ n ih =>
      rintro k z hk rfl hf
      rw [am_b146_2]
      have q1 := hW.2.1 k (by omega)
      have hHR := e6 k (by omega)
      have hbk := be_n143 (e0 := e0) (X := X) (b := b) (f := f) (d := d) (by omega) hW (by omega) hHR e5
      have h6 := hHR.2.2.2.2.2.2.1
      have hb6 : -5 ≤ (if be_g e 57 k = 4 then -5 else be_g e 57 k) ∧ (if be_g e 57 k = 4 then -5 else be_g e 57 k) ≤ 4 := by split <;> omega
      simp (disch := (first | assumption | omega | exact (be_gB _ _ _).1 | exact (be_gB _ _ _).2)) only [↓reduceIte, be_ofI, ↓be_ofN, ↓be_0, be_add, be_sub, be_mul, be_neg, be_rem, be_bi, be_bl, be_bv, be_br, be_bE0, be_bE1, be_b1E, be_b0E, be_bkb, be_cast, Int.toNat_natCast, Int.reduceToNat, be_lt, be_le, be_eq, be_nt, be_ck, be_nz, be_bk, be_div, e2, hx0, h6, be_r57, hbk, hbx, be_cmp0, be_cl_mk e hW, am_b146_41, am_b146_46]
      rw [if_neg (by omega)]
      have hs : be_any (be_c1 e r h) (k + 1) = (be_any (be_c1 e r h) k || be_c1 e r h k) := rfl
      have hc1 : be_c1 e r h k = (decide (¬ k = h) && (decide (be_g e 57 k = (r : Int)) && be_cl e k h)) := rfl
      split
      · rename_i hc
        refine ih (k + 1) _ (by omega) (by omega) ?_
        rw [hs, hf, hc1, decide_eq_false (by omega)]; rfl
      · rename_i hc
        split
        · rename_i hc2
          refine ih (k + 1) _ (by omega) (by omega) ?_
          rw [hs, hf, hc1, decide_eq_false hc2, Bool.false_and, Bool.and_false]; rfl
        · rename_i hc2
          have hc2 := Decidable.not_not.mp hc2
          split
          · rename_i hc3
            refine ih (k + 1) _ (by omega) (by omega) ?_
            rw [hs, hf, hc1, hc3, Bool.and_false, Bool.and_false]; rfl
          · rename_i hc3
            rw [be_any_t (k := k) (by rw [hc1, decide_eq_true (by omega), decide_eq_true hc2, eq_true_of_ne_false hc3]; rfl) (by omega)]
            rfl
  exact key (be_nh e) 0 _ (Nat.zero_add _) rfl rfl
theorem be_n154 (hd : 2 ≤ d) (hW : be_W e) (hW2 : be_W2 e) {i : Nat} (hH : be_HO a u i e) : am_sem X d 154 [.inr (2, i)] (am_sd a b u e0 f) = some (some (am_I (be_i ((be_hs e (be_nh e) : Int)))), (am_sd a b u e0 f)) := by
  obtain ⟨d, rfl⟩ : ∃ q, d = q + 1 := ⟨d - 1, by omega⟩
  obtain ⟨hn, hn2⟩ := be_nhR hW
  have hW1 := hW.1
  obtain ⟨e1, e2, e3, e4, e5, e6, e7⟩ := hH
  rw [am_s154]
  have key : ∀ (n k : Nat) (w z : Int), k + n = be_nh e → z = (k : Int) → w = (be_hs e k : Int) → am_fix (am_sem X d) X am_P154 4 [.inr (2, i), am_I (be_i (w)), am_I (be_i (z))] [] (am_sd a b u e0 f) = some (some (am_I (be_i ((be_hs e (be_nh e) : Int)))), (am_sd a b u e0 f)) := by
    intro n
    induction n with
    | zero =>
      rintro k w z hk rfl rfl
      obtain rfl : k = be_nh e := hk
      rw [am_b154_4]
      simp (disch := (first | assumption | omega | exact (be_gB _ _ _).1 | exact (be_gB _ _ _).2)) only [↓reduceIte, be_ofI, ↓be_ofN, ↓be_0, be_add, be_sub, be_mul, be_neg, be_rem, be_bi, be_bl, be_bv, be_br, be_bE0, be_bE1, be_b1E, be_b0E, be_bkb, be_cast, Int.toNat_natCast, Int.reduceToNat, be_lt, be_le, be_eq, be_nt, be_ck, be_nz, be_bk, be_div, e2]
      rw [if_pos (by omega)]
    | succ n ih =>
      rintro k w z hk rfl rfl
      rw [am_b154_4]
      have q1 := hW.2.1 k (by omega)
      have q2 := hW2.1 k (by omega)
      have hHR := e6 k (by omega)
      have h6 := hHR.2.2.2.2.2.2.1
      have hb6 : -5 ≤ (if be_g e 57 k = 4 then -5 else be_g e 57 k) ∧ (if be_g e 57 k = 4 then -5 else be_g e 57 k) ≤ 4 := by split <;> omega
      have hr := be_m138 (X := X) (a := a) (b := b) (u := u) (e := e0) (f := f) (d := d) (i := i) (n := be_g e 50 0) (x := (if be_g e 57 k = 4 then -5 else be_g e 57 k)) (by omega) e1 (by omega) (by omega) (by omega) (by omega)
      simp (disch := (first | assumption | omega | exact (be_gB _ _ _).1 | exact (be_gB _ _ _).2)) only [↓reduceIte, be_ofI, ↓be_ofN, ↓be_0, be_add, be_sub, be_mul, be_neg, be_rem, be_bi, be_bl, be_bv, be_br, be_bE0, be_bE1, be_b1E, be_b0E, be_bkb, be_cast, Int.toNat_natCast, Int.reduceToNat, be_lt, be_le, be_eq, be_nt, be_ck, be_nz, be_bk, be_div, e2, h6, hr, be_m252, am_b154_26, am_b154_29]
      rw [if_neg (by omega)]
      refine ih (k + 1) _ _ (by omega) (by omega) ?_
      have hs : be_hs e (k + 1) = be_hs e k + (bif decide (¬ be_g e 57 k = 4) then 1 else 0) := rfl
      rw [hs]
      by_cases hc : be_g e 57 k = 4
      · rw [if_pos hc, decide_eq_false (by omega), decide_eq_false (by omega)]; rfl
      · rw [if_neg hc, decide_eq_true (by omega), decide_eq_true hc]; rfl
  exact key _ 0 _ _ (Nat.zero_add _) rfl rfl
theorem be_n163o (hd : 3 ≤ d) (hW : be_W e) (hT : be_T3 e) {o x z h r : Nat} (hh : h < 6) (hr : r < 4) (hH : be_HR a x e h) (hR : be_RR a z e r) (hO : be_OW a o e (be_the e) (be_num e)) :
    am_sem X d 163 [.inr (3, o), .inr (1, x), .inr (5, z)] (am_sd a b u e0 f) = some (some (am_I (be_i (be_wo e (be_F e h r)))), (am_sd a b u e0 f)) :=
  be_n163 hd (be_NRof hH hR) (be_FR hW hh hr) (be_numR hT).2.2 hO
theorem be_n155 (hd : 4 ≤ d) (hW : be_W e) (hW2 : be_W2 e) (hT : be_T3 e) {i : Nat} (hX : be_HX a u i e) : am_sem X d 155 [.inr (2, i)] (am_sd a b u e0 f) = some (some (am_I (be_i (be_wz e (be_nh e)))), (am_sd a b u e0 f)) := by
  obtain ⟨d, rfl⟩ : ∃ q, d = q + 1 := ⟨d - 1, by omega⟩
  obtain ⟨hn, hn2⟩ := be_nhR hW
  obtain ⟨hr0, hr2⟩ := be_nrR hW
  obtain ⟨hH, x1, x2, -⟩ := hX
  obtain ⟨e1, e2, e3, e4, e5, e6, e7⟩ := hH
  rw [am_s155]
  have key : ∀ (n k : Nat) (w z : Int), k + n = be_nh e → z = (k : Int) → w = be_wz e k → am_fix (am_sem X d) X am_P155 4 [.inr (2, i), am_I (be_i (w)), am_I (be_i (z))] [] (am_sd a b u e0 f) = some (some (am_I (be_i (be_wz e (be_nh e)))), (am_sd a b u e0 f)) := by
    intro n
    induction n with
    | zero =>
      rintro k w z hk rfl rfl
      obtain rfl : k = be_nh e := hk
      rw [am_b155_4]
      simp (disch := (first | assumption | omega | exact (be_gB _ _ _).1 | exact (be_gB _ _ _).2)) only [↓reduceIte, be_ofI, ↓be_ofN, ↓be_0, be_add, be_sub, be_mul, be_neg, be_rem, be_bi, be_bl, be_bv, be_br, be_bE0, be_bE1, be_b1E, be_b0E, be_bkb, be_cast, Int.toNat_natCast, Int.reduceToNat, be_lt, be_le, be_eq, be_nt, be_ck, be_nz, be_bk, be_div, e2]
      rw [if_pos (by omega)]
    | succ n ih =>
      rintro k w z hk rfl rfl
      rw [am_b155_4]
      have q1 := hW.2.1 k (by omega)
      have q2 := hW2.1 k (by omega)
      have hHR := e6 k (by omega)
      have h6 := hHR.2.2.2.2.2.2.1
      have hs : be_wz e (k + 1) = be_wz e k + (if be_g e 57 k = 4 then 0 else be_wo e (be_F e k (be_g e 57 k).toNat)) := rfl
      by_cases hc : be_g e 57 k = 4
      · rw [if_pos hc] at h6 hs
        have hr := be_m138 (X := X) (a := a) (b := b) (u := u) (e := e0) (f := f) (d := d) (i := i) (n := be_g e 50 0) (x := -5) (by omega) e1 (by omega) (by omega) (by omega) (by omega)
        rw [decide_eq_false (by omega)] at hr
        simp (disch := (first | assumption | omega | exact (be_gB _ _ _).1 | exact (be_gB _ _ _).2)) only [↓reduceIte, be_ofI, ↓be_ofN, ↓be_0, be_add, be_sub, be_mul, be_neg, be_rem, be_bi, be_bl, be_bv, be_br, be_bE0, be_bE1, be_b1E, be_b0E, be_bkb, be_cast, Int.toNat_natCast, Int.reduceToNat, be_lt, be_le, be_eq, be_nt, be_ck, be_nz, be_bk, be_div, not_true_eq_false, not_false_eq_true, if_true, if_false, eq_self, Int.reduceEq, Int.reduceLT, Int.reduceLE, Bool.true_eq_false, Bool.false_eq_true, e2, h6, hr, am_b155_25, am_b155_56]
        rw [if_neg (by omega)]
        exact ih (k + 1) _ _ (by omega) (by omega) (by omega)
      · rw [if_neg hc] at h6 hs
        have hr := be_m138 (X := X) (a := a) (b := b) (u := u) (e := e0) (f := f) (d := d) (i := i) (n := be_g e 50 0) (x := be_g e 57 k) (by omega) e1 (by omega) (by omega) (by omega) (by omega)
        rw [decide_eq_true (by omega)] at hr
        have hRR := e7 (be_g e 57 k).toNat (by omega)
        have hw := be_n163o (e0 := e0) (X := X) (b := b) (u := u) (f := f) (d := d) (by omega) hW hT (by omega) (by omega) hHR hRR x2
        simp (disch := (first | assumption | omega | exact (be_gB _ _ _).1 | exact (be_gB _ _ _).2)) only [↓reduceIte, be_ofI, ↓be_ofN, ↓be_0, be_add, be_sub, be_mul, be_neg, be_rem, be_bi, be_bl, be_bv, be_br, be_bE0, be_bE1, be_b1E, be_b0E, be_bkb, be_cast, Int.toNat_natCast, Int.reduceToNat, be_lt, be_le, be_eq, be_nt, be_ck, be_nz, be_bk, be_div, e2, h6, hr, hw, am_b155_25, am_b155_56]
        rw [if_neg (by omega)]
        simp only [Bool.true_eq_false, if_false]
        exact ih (k + 1) _ _ (by omega) (by omega) (by omega)
  exact key _ 0 _ _ (Nat.zero_add _) rfl rfl
theorem be_n156 (hd : 4 ≤ d) (hW : be_W e) (hW2 : be_W2 e) (hT : be_T2 e) (hD : be_g e 50 3 ≤ 10100) {i : Nat} (hi : i < 3) (hX : be_HX a u i e) : am_sem X d 156 [.inr (2, i)] (am_sd a b u e0 f) = some (some (am_I (be_i (be_b (be_as e (be_g e 50 3) (be_ns e))))), (am_sd a b u e0 f)) := by
  obtain ⟨d, rfl⟩ : ∃ q, d = q + 1 := ⟨d - 1, by omega⟩
  obtain ⟨hr0, hr2⟩ := be_nrR hW
  have hW1 := hW.1
  obtain ⟨w1, w2, w3⟩ := hW2.2.1
  obtain ⟨hH, x1, x2, x3, -⟩ := hX
  have e3 := hH.2.2.1
  obtain ⟨s1, s2⟩ := x3
  have hns : be_g e 50 40 = (be_ns e : Int) := by unfold be_ns; omega
  have hl0 := be_ln0 X i hi
  have hb0 := be_rb0 i hi
  rw [am_s156]
  have key : ∀ (n k : Nat) (z : Int) (z2 z3 : am_V), k + n = be_ns e → z = (k : Int) → be_as e (be_g e 50 3) k = true → am_fix (am_sem X d) X am_P156 2 [.inr (2, i), am_I (be_i (z)), z2, z3] [] (am_sd a b u e0 f) = some (some (am_I (be_i (be_b (be_as e (be_g e 50 3) (be_ns e))))), (am_sd a b u e0 f)) := by
    intro n
    induction n with
    | zero =>
      rintro k z z2 z3 hk rfl hf
      obtain rfl : k = be_ns e := hk
      rw [am_b156_2]
      simp (disch := (first | assumption | omega | exact (be_gB _ _ _).1 | exact (be_gB _ _ _).2)) only [↓reduceIte, be_ofI, ↓be_ofN, ↓be_0, be_add, be_sub, be_mul, be_neg, be_rem, be_bi, be_bl, be_bv, be_br, be_bE0, be_bE1, be_b1E, be_b0E, be_bkb, be_cast, Int.toNat_natCast, Int.reduceToNat, be_lt, be_le, be_eq, be_nt, be_ck, be_nz, be_bk, be_div, s1]
      rw [if_pos (by omega), hf]
      rfl
    | succ n ih =>
      rintro k z z2 z3 hk rfl hf
      rw [am_b156_2]
      obtain ⟨p1, p2, p3, p4, p5, p6, p7, p8⟩ := w3 k (by omega)
      obtain ⟨c0, c1, c2, c3⟩ := s2 k (by omega)
      have hv := be_n148 (e0 := e0) (X := X) (b := b) (f := f) (d := d) (r := (be_g e 76 k).toNat) (y := be_g e 50 3 + be_g e 78 k) (by omega) hW hT (by omega) hH (by omega) (by omega)
      rw [show (((be_g e 76 k).toNat : Nat) : Int) = be_g e 76 k by omega] at hv
      have hb := be_m253 (X := X) (a := a) (b := b) (u := u) (e := e0) (f := f) (d := d) (by omega) (be_iM e (be_g e 50 3 + be_g e 78 k) (be_g e 76 k) (be_nh e)) (k := (be_g e 77 k).toNat) (by omega)
      rw [show (((be_g e 77 k).toNat : Nat) : Int) = be_g e 77 k by omega] at hb
      have hq : (be_i (be_b (be_iM e (be_g e 50 3 + be_g e 78 k) (be_g e 76 k) (be_nh e) (be_g e 77 k).toNat)) = be_i (be_g e 79 k)) = ((be_iM e (be_g e 50 3 + be_g e 78 k) (be_g e 76 k) (be_nh e) (be_g e 77 k).toNat == decide (be_g e 79 k = 1)) = true) := by
        have := be_bR (be_iM e (be_g e 50 3 + be_g e 78 k) (be_g e 76 k) (be_nh e) (be_g e 77 k).toNat)
        rw [be_eq (by omega) (by omega) (by omega) (by omega), beq_iff_eq]
        rcases (show be_g e 79 k = 0 ∨ be_g e 79 k = 1 by omega) with h | h
        · rw [h, be_b0]; rfl
        · rw [h, be_b1]; rfl
      simp (disch := (first | assumption | omega | exact (be_gB _ _ _).1 | exact (be_gB _ _ _).2)) only [↓reduceIte, be_ofI, ↓be_ofN, ↓be_0, be_add, be_sub, be_mul, be_neg, be_rem, be_bi, be_bl, be_bv, be_br, be_bE0, be_bE1, be_b1E, be_b0E, be_bkb, be_cast, Int.toNat_natCast, Int.reduceToNat, be_lt, be_le, be_eq, be_nt, be_ck, be_nz, be_bk, be_div, s1, hl0, hb0, c0, c1, c2, c3, e3, hv, hb, be_m252, hq, am_b156_38, am_b156_44, am_b156_49]
      rw [if_neg (by omega)]
      have hs : be_as e (be_g e 50 3) (k + 1) = (be_as e (be_g e 50 3) k && (be_iM e (be_g e 50 3 + be_g e 78 k) (be_g e 76 k) (be_nh e) (be_g e 77 k).toNat == decide (be_g e 79 k = 1))) := rfl
      split
      · rename_i hc
        exact ih (k + 1) _ _ _ (by omega) (by omega) (by rw [hs, hf, hc]; rfl)
      · rename_i hc
        rw [be_as_f e (be_g e 50 3) (k := k + 1) (by rw [hs, hf, eq_false_of_ne_true hc]; rfl) (by omega)]
        rfl
  exact key _ 0 _ _ _ (Nat.zero_add _) rfl rfl
