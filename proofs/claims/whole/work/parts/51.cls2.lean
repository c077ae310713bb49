/-! THE CLASS, 2: rooms at a quarter, days -/
variable {d : Nat} {X : am_X} {a : Nat → Nat → Nat → Int32} {b : Nat → Nat → Nat → Int64} {u : Nat → Nat} {e : Nat → Nat → Nat → Int32} {f : Nat → Nat → Nat → Int64}
theorem be_bs_s (P : Nat → Bool) (n : Nat) : decide (¬ be_bs P (n + 1) = 0) = (decide (¬ be_bs P n = 0) || P n) := by
  rw [be_bs]
  have := Nat.two_pow_pos n
  cases P n
  · rw [cond_false, Nat.add_zero, Bool.or_false]
  · rw [cond_true, Bool.or_true, decide_eq_true]; omega
theorem be_ht_q (e : Nat → Nat → Nat → Int32) (y : Int) (h : Nat) : be_ht e y h ≤ be_q e := by
  unfold be_ht be_bt; split <;> omega
theorem be_hS_big (e : Nat → Nat → Nat → Int32) (y r : Int) {t : Nat} (n : Nat) (ht : (be_q e).toNat ≤ t) : be_hS e y r t n = 0 := by
  refine be_bs_0.mpr fun i _ => ?_
  have : be_held e y i t = false := by
    have := be_ht_q e y i
    have := be_qR e
    unfold be_held
    rw [decide_eq_false_iff_not]; omega
  rw [this, Bool.and_false]
theorem be_iS_big (e : Nat → Nat → Nat → Int32) (y r : Int) {t : Nat} (n : Nat) (ht : (be_q e).toNat ≤ t) : be_iS e y r t n = 0 := by
  refine be_bs_0.mpr fun i _ => ?_
  have : be_in e y i t = false := by
    have := be_qR e
    unfold be_in
    rw [decide_eq_false_iff_not]; omega
  rw [this, Bool.and_false]
def be_hM (e : Nat → Nat → Nat → Int32) (y r : Int) (n t : Nat) : Bool := decide (¬ be_hS e y r t n = 0)
def be_iM (e : Nat → Nat → Nat → Int32) (y r : Int) (n t : Nat) : Bool := decide (¬ be_iS e y r t n = 0)
theorem be_r57 {x : Int} {r : Nat} (hr : r < 4) : ((if x = 4 then -5 else x) = (r : Int)) ↔ x = r := by
  split <;> omega
theorem be_m147 (hd : 3 ≤ d) (hW : be_W e) (hT : be_T2 e) {i r : Nat} (hr : r < 4) (hH : be_HO a u i e) {y : Int} (hy1 : 0 ≤ y) (hy2 : y ≤ 19999) :
    am_sem X d 147 [.inr (2, i), am_I (be_i ((r : Int))), am_I (be_i (y))] (am_sd a b u e f) = some (some (am_J (be_mk (be_hM e y r (be_nh e)))), (am_sd a b u e f)) := by
  obtain ⟨d, rfl⟩ : ∃ q, d = q + 1 := ⟨d - 1, by omega⟩
  obtain ⟨hn, hn2⟩ := be_nhR hW
  obtain ⟨e1, e2, e3, e4, e5, e6, e7⟩ := hH
  rw [am_s147]
  have key : ∀ (n k : Nat) (z : Int) (w : Int64), k + n = be_nh e → z = (k : Int) → w = be_mk (be_hM e y r k) → am_fix (am_sem X d) X am_P147 5 [.inr (2, i), am_I (be_i ((r : Int))), am_I (be_i (y)), am_J w, am_un, am_I (be_i (z))] [] (am_sd a b u e f) = some (some (am_J (be_mk (be_hM e y r (be_nh e)))), (am_sd a b u e f)) := by
    intro n
    induction n with
    | zero =>
      rintro k z w hk rfl rfl
      obtain rfl : k = be_nh e := hk
      rw [am_b147_5]
      simp (disch := (first | assumption | omega | exact (be_gB _ _ _).1 | exact (be_gB _ _ _).2)) only [be_ofI, ↓be_ofN, ↓be_0, be_add, be_sub, be_mul, be_neg, be_rem, be_bi, be_bl, be_bv, be_br, be_bE0, be_bE1, be_b1E, be_b0E, be_bkb, be_cast, Int.toNat_natCast, Int.reduceToNat, be_lt, be_le, be_eq, be_nt, be_ck, be_nz, be_bk, be_div, e2]
      rw [if_pos (by omega)]
    | succ n ih =>
      rintro k z w hk rfl rfl
      rw [am_b147_5]
      have q1 := hW.2.1 k (by omega)
      have hHR := e6 k (by omega)
      have hv := be_m144 (X := X) (b := b) (f := f) (d := d) (by omega) hW hT (by omega) hHR e5 e4 hy1 hy2
      have h6 := hHR.2.2.2.2.2.2.1
      have hb6 : -5 ≤ (if be_g e 57 k = 4 then -5 else be_g e 57 k) ∧ (if be_g e 57 k = 4 then -5 else be_g e 57 k) ≤ 4 := by split <;> omega
      simp (disch := (first | assumption | omega | exact (be_gB _ _ _).1 | exact (be_gB _ _ _).2)) only [be_ofI, ↓be_ofN, ↓be_0, be_add, be_sub, be_mul, be_neg, be_rem, be_bi, be_bl, be_bv, be_br, be_bE0, be_bE1, be_b1E, be_b0E, be_bkb, be_cast, Int.toNat_natCast, Int.reduceToNat, be_lt, be_le, be_eq, be_nt, be_ck, be_nz, be_bk, be_div, e2, h6, be_r57, hv, am_b147_41]
      rw [if_neg (by omega)]
      split
      · rename_i hc
        refine ih (k + 1) _ _ (by omega) (by omega) (be_mk_congr fun t _ => ?_)
        unfold be_hM
        rw [show be_hS e y r t (k + 1) = be_bs (fun h => decide (be_g e 57 h = (r : Int)) && be_held e y h t) (k + 1) from rfl, be_bs_s, decide_eq_false hc, Bool.false_and, Bool.or_false]
        rfl
      · rename_i hc
        have hc := Decidable.not_not.mp hc
        refine ih (k + 1) _ _ (by omega) (by omega) ?_
        rw [be_mk_or]
        refine be_mk_congr fun t _ => ?_
        unfold be_hM
        rw [show be_hS e y r t (k + 1) = be_bs (fun h => decide (be_g e 57 h = (r : Int)) && be_held e y h t) (k + 1) from rfl, be_bs_s, decide_eq_true hc, Bool.true_and]
        rfl
  exact key (be_nh e) 0 _ _ (Nat.zero_add _) rfl be_mk_0
theorem be_m148 (hd : 3 ≤ d) (hW : be_W e) (hT : be_T2 e) {i r : Nat} (hr : r < 4) (hH : be_HO a u i e) {y : Int} (hy1 : 0 ≤ y) (hy2 : y ≤ 19999) :
    am_sem X d 148 [.inr (2, i), am_I (be_i ((r : Int))), am_I (be_i (y))] (am_sd a b u e f) = some (some (am_J (be_mk (be_iM e y r (be_nh e)))), (am_sd a b u e f)) := by
  obtain ⟨d, rfl⟩ : ∃ q, d = q + 1 := ⟨d - 1, by omega⟩
  obtain ⟨hn, hn2⟩ := be_nhR hW
  obtain ⟨e1, e2, e3, e4, e5, e6, e7⟩ := hH
  rw [am_s148]
  have key : ∀ (n k : Nat) (z : Int) (w : Int64), k + n = be_nh e → z = (k : Int) → w = be_mk (be_iM e y r k) → am_fix (am_sem X d) X am_P148 5 [.inr (2, i), am_I (be_i ((r : Int))), am_I (be_i (y)), am_J w, am_un, am_I (be_i (z))] [] (am_sd a b u e f) = some (some (am_J (be_mk (be_iM e y r (be_nh e)))), (am_sd a b u e f)) := by
    intro n
    induction n with
    | zero =>
      rintro k z w hk rfl rfl
      obtain rfl : k = be_nh e := hk
      rw [am_b148_5]
      simp (disch := (first | assumption | omega | exact (be_gB _ _ _).1 | exact (be_gB _ _ _).2)) only [be_ofI, ↓be_ofN, ↓be_0, be_add, be_sub, be_mul, be_neg, be_rem, be_bi, be_bl, be_bv, be_br, be_bE0, be_bE1, be_b1E, be_b0E, be_bkb, be_cast, Int.toNat_natCast, Int.reduceToNat, be_lt, be_le, be_eq, be_nt, be_ck, be_nz, be_bk, be_div, e2]
      rw [if_pos (by omega)]
    | succ n ih =>
      rintro k z w hk rfl rfl
      rw [am_b148_5]
      have q1 := hW.2.1 k (by omega)
      have hHR := e6 k (by omega)
      have hv := be_m145 (X := X) (b := b) (f := f) (d := d) (by omega) hW (by omega) hHR e5 hy1 hy2
      have h6 := hHR.2.2.2.2.2.2.1
      have hb6 : -5 ≤ (if be_g e 57 k = 4 then -5 else be_g e 57 k) ∧ (if be_g e 57 k = 4 then -5 else be_g e 57 k) ≤ 4 := by split <;> omega
      simp (disch := (first | assumption | omega | exact (be_gB _ _ _).1 | exact (be_gB _ _ _).2)) only [be_ofI, ↓be_ofN, ↓be_0, be_add, be_sub, be_mul, be_neg, be_rem, be_bi, be_bl, be_bv, be_br, be_bE0, be_bE1, be_b1E, be_b0E, be_bkb, be_cast, Int.toNat_natCast, Int.reduceToNat, be_lt, be_le, be_eq, be_nt, be_ck, be_nz, be_bk, be_div, e2, h6, be_r57, hv, am_b148_41]
      rw [if_neg (by omega)]
      split
      · rename_i hc
        refine ih (k + 1) _ _ (by omega) (by omega) (be_mk_congr fun t _ => ?_)
        unfold be_iM
        rw [show be_iS e y r t (k + 1) = be_bs (fun h => decide (be_g e 57 h = (r : Int)) && be_in e y h t) (k + 1) from rfl, be_bs_s, decide_eq_false hc, Bool.false_and, Bool.or_false]
        rfl
      · rename_i hc
        have hc := Decidable.not_not.mp hc
        refine ih (k + 1) _ _ (by omega) (by omega) ?_
        rw [be_mk_or]
        refine be_mk_congr fun t _ => ?_
        unfold be_iM
        rw [show be_iS e y r t (k + 1) = be_bs (fun h => decide (be_g e 57 h = (r : Int)) && be_in e y h t) (k + 1) from rfl, be_bs_s, decide_eq_true hc, Bool.true_and]
        rfl
  exact key (be_nh e) 0 _ _ (Nat.zero_add _) rfl be_mk_0
theorem be_cnt_not (P : Nat → Bool) : ∀ n, be_cnt (fun t => !P t) n + be_cnt P n = n
  | 0 => rfl
  | n + 1 => by
    have := be_cnt_not P n
    rw [be_cnt, be_cnt]
    cases P n <;> simp only [Bool.not_true, Bool.not_false, cond_true, cond_false] <;> omega
theorem be_m149 (hd : 4 ≤ d) (hW : be_W e) (hT : be_T2 e) {i r : Nat} (hr : r < 4) (hH : be_HO a u i e) {y : Int} (hy1 : 0 ≤ y) (hy2 : y ≤ 19999) :
    am_sem X d 149 [.inr (2, i), am_I (be_i ((r : Int))), am_I (be_i (y))] (am_sd a b u e f) = some (some (am_I (be_i ((be_un e y r true (be_q e).toNat : Int)))), (am_sd a b u e f)) := by
  obtain ⟨d, rfl⟩ : ∃ q, d = q + 1 := ⟨d - 1, by omega⟩
  have hq := be_qR e
  rw [am_s149]
  have hv1 := be_m147 (X := X) (b := b) (f := f) (d := d) (by omega) hW hT hr hH hy1 hy2
  have hv2 := be_m148 (X := X) (b := b) (f := f) (d := d) (by omega) hW hT hr hH hy1 hy2
  simp (disch := (first | assumption | omega | exact (be_gB _ _ _).1 | exact (be_gB _ _ _).2)) only [be_ofI, ↓be_ofN, ↓be_0, be_add, be_sub, be_mul, be_neg, be_rem, be_bi, be_bl, be_bv, be_br, be_bE0, be_bE1, be_b1E, be_b0E, be_bkb, be_cast, Int.toNat_natCast, Int.reduceToNat, be_lt, be_le, be_eq, be_nt, be_ck, be_nz, be_bk, be_div, hv1, hv2, am_b149_6, am_b149_12, am_b149_20, be_mk_not, be_mk_and, be_m112]
  refine be_retI ?_ _
  rw [be_cnt_ext (m := (be_q e).toNat) (by omega) (fun t h1 h2 => by unfold be_hM; rw [be_hS_big _ _ _ _ h1]; rfl)]
  unfold be_un
  rw [be_cnt_congr]
  intro t _
  unfold be_hM be_iM be_un1
  simp only [decide_not, Bool.not_not]
  cases decide (be_iS e y r t (be_nh e) = 0) <;> cases decide (be_hS e y r t (be_nh e) = 0) <;> rfl
theorem be_m150 (hd : 4 ≤ d) (hW : be_W e) (hT : be_T2 e) {i r : Nat} (hr : r < 4) (hH : be_HO a u i e) {y : Int} (hy1 : 0 ≤ y) (hy2 : y ≤ 19999) :
    am_sem X d 150 [.inr (2, i), am_I (be_i ((r : Int))), am_I (be_i (y))] (am_sd a b u e f) = some (some (am_I (be_i ((be_un e y r false (be_q e).toNat : Int)))), (am_sd a b u e f)) := by
  obtain ⟨d, rfl⟩ : ∃ q, d = q + 1 := ⟨d - 1, by omega⟩
  have hq := be_qR e
  rw [am_s150]
  have hv1 := be_m147 (X := X) (b := b) (f := f) (d := d) (by omega) hW hT hr hH hy1 hy2
  have hv2 := be_m148 (X := X) (b := b) (f := f) (d := d) (by omega) hW hT hr hH hy1 hy2
  have e5 := hH.2.2.2.2.1
  simp (disch := (first | assumption | omega | exact (be_gB _ _ _).1 | exact (be_gB _ _ _).2)) only [be_ofI, ↓be_ofN, ↓be_0, be_add, be_sub, be_mul, be_neg, be_rem, be_bi, be_bl, be_bv, be_br, be_bE0, be_bE1, be_b1E, be_b0E, be_bkb, be_cast, Int.toNat_natCast, Int.reduceToNat, be_lt, be_le, be_eq, be_nt, be_ck, be_nz, be_bk, be_div, e5, hv1, hv2, am_b150_13, am_b150_19, am_b150_23, be_mk_or, be_m112]
  refine be_retI ?_ _
  rw [be_cnt_ext (m := (be_q e).toNat) (by omega) (fun t h1 h2 => by unfold be_hM be_iM; rw [be_hS_big _ _ _ _ h1, be_iS_big _ _ _ _ h1]; rfl)]
  have h0 := be_cnt_not (fun t => be_hM e y r (be_nh e) t || be_iM e y r (be_nh e) t) (be_q e).toNat
  have h1 : be_un e y r false (be_q e).toNat = be_cnt (fun t => !(be_hM e y r (be_nh e) t || be_iM e y r (be_nh e) t)) (be_q e).toNat := by
    unfold be_un
    refine be_cnt_congr fun t _ => ?_
    unfold be_hM be_iM be_un1
    simp only [decide_not]
    cases decide (be_iS e y r t (be_nh e) = 0) <;> cases decide (be_hS e y r t (be_nh e) = 0) <;> rfl
  omega
theorem be_m151 (hd : 5 ≤ d) (hW : be_W e) (hT : be_T2 e) {i : Nat} (hH : be_HO a u i e) {y : Int} (hy1 : 0 ≤ y) (hy2 : y ≤ 19999) :
    am_sem X d 151 [.inr (2, i), am_I (be_i (y))] (am_sd a b u e f) = some (some (am_I (be_i ((be_au e y true (be_nr e) : Int)))), (am_sd a b u e f)) := by
  obtain ⟨d, rfl⟩ : ∃ q, d = q + 1 := ⟨d - 1, by omega⟩
  obtain ⟨hn, hn2⟩ := be_nrR hW
  have e1 := hH.1
  rw [am_s151]
  have key : ∀ (n k : Nat) (w z : Int), k + n = be_nr e → z = (k : Int) → w = (be_au e y true k : Int) → am_fix (am_sem X d) X am_P151 4 [.inr (2, i), am_I (be_i (y)), am_I (be_i (w)), am_I (be_i (z))] [] (am_sd a b u e f) = some (some (am_I (be_i ((be_au e y true (be_nr e) : Int)))), (am_sd a b u e f)) := by
    intro n
    induction n with
    | zero =>
      rintro k w z hk rfl rfl
      obtain rfl : k = be_nr e := hk
      rw [am_b151_4]
      simp (disch := (first | assumption | omega | exact (be_gB _ _ _).1 | exact (be_gB _ _ _).2)) only [be_ofI, ↓be_ofN, ↓be_0, be_add, be_sub, be_mul, be_neg, be_rem, be_bi, be_bl, be_bv, be_br, be_bE0, be_bE1, be_b1E, be_b0E, be_bkb, be_cast, Int.toNat_natCast, Int.reduceToNat, be_lt, be_le, be_eq, be_nt, be_ck, be_nz, be_bk, be_div, e1]
      rw [if_pos (by omega)]
    | succ n ih =>
      rintro k w z hk rfl rfl
      have hv := be_m149 (X := X) (b := b) (f := f) (d := d) (r := k) (by omega) hW hT (by omega) hH hy1 hy2
      rw [am_b151_4]
      simp (disch := (first | assumption | omega | exact (be_gB _ _ _).1 | exact (be_gB _ _ _).2)) only [be_ofI, ↓be_ofN, ↓be_0, be_add, be_sub, be_mul, be_neg, be_rem, be_bi, be_bl, be_bv, be_br, be_bE0, be_bE1, be_b1E, be_b0E, be_bkb, be_cast, Int.toNat_natCast, Int.reduceToNat, be_lt, be_le, be_eq, be_nt, be_ck, be_nz, be_bk, be_div, e1, hv, am_b151_19]
      rw [if_neg (by omega)]
      refine ih (k + 1) _ _ (by omega) (by omega) ?_
      rw [be_au]; omega
  exact key _ 0 _ _ (Nat.zero_add _) rfl rfl
theorem be_m152 (hd : 5 ≤ d) (hW : be_W e) (hT : be_T2 e) {i : Nat} (hH : be_HO a u i e) {y : Int} (hy1 : 0 ≤ y) (hy2 : y ≤ 19999) :
    am_sem X d 152 [.inr (2, i), am_I (be_i (y))] (am_sd a b u e f) = some (some (am_I (be_i ((be_au e y false (be_nr e) : Int)))), (am_sd a b u e f)) := by
  obtain ⟨d, rfl⟩ : ∃ q, d = q + 1 := ⟨d - 1, by omega⟩
  obtain ⟨hn, hn2⟩ := be_nrR hW
  have e1 := hH.1
  rw [am_s152]
  have key : ∀ (n k : Nat) (w z : Int), k + n = be_nr e → z = (k : Int) → w = (be_au e y false k : Int) → am_fix (am_sem X d) X am_P152 4 [.inr (2, i), am_I (be_i (y)), am_I (be_i (w)), am_I (be_i (z))] [] (am_sd a b u e f) = some (some (am_I (be_i ((be_au e y false (be_nr e) : Int)))), (am_sd a b u e f)) := by
    intro n
    induction n with
    | zero =>
      rintro k w z hk rfl rfl
      obtain rfl : k = be_nr e := hk
      rw [am_b152_4]
      simp (disch := (first | assumption | omega | exact (be_gB _ _ _).1 | exact (be_gB _ _ _).2)) only [be_ofI, ↓be_ofN, ↓be_0, be_add, be_sub, be_mul, be_neg, be_rem, be_bi, be_bl, be_bv, be_br, be_bE0, be_bE1, be_b1E, be_b0E, be_bkb, be_cast, Int.toNat_natCast, Int.reduceToNat, be_lt, be_le, be_eq, be_nt, be_ck, be_nz, be_bk, be_div, e1]
      rw [if_pos (by omega)]
    | succ n ih =>
      rintro k w z hk rfl rfl
      have hv := be_m150 (X := X) (b := b) (f := f) (d := d) (r := k) (by omega) hW hT (by omega) hH hy1 hy2
      rw [am_b152_4]
      simp (disch := (first | assumption | omega | exact (be_gB _ _ _).1 | exact (be_gB _ _ _).2)) only [be_ofI, ↓be_ofN, ↓be_0, be_add, be_sub, be_mul, be_neg, be_rem, be_bi, be_bl, be_bv, be_br, be_bE0, be_bE1, be_b1E, be_b0E, be_bkb, be_cast, Int.toNat_natCast, Int.reduceToNat, be_lt, be_le, be_eq, be_nt, be_ck, be_nz, be_bk, be_div, e1, hv, am_b152_19]
      rw [if_neg (by omega)]
      refine ih (k + 1) _ _ (by omega) (by omega) ?_
      rw [be_au]; omega
  exact key _ 0 _ _ (Nat.zero_add _) rfl rfl
theorem be_m153 (hd : 6 ≤ d) (hW : be_W e) (hT : be_T2 e) (hD : be_g e 50 3 ≤ 10100) {i : Nat} (hH : be_HO a u i e) {N : Nat} (hN : N ≤ 60) :
    am_sem X d 153 [.inr (2, i), am_I (be_i ((N : Int)))] (am_sd a b u e f) = some (some (am_I (be_i ((be_ws e (be_g e 50 3) N : Int)))), (am_sd a b u e f)) := by
  obtain ⟨d, rfl⟩ : ∃ q, d = q + 1 := ⟨d - 1, by omega⟩
  have hd0 := hW.1
  have e3 := hH.2.2.1
  rw [am_s153]
  have key : ∀ (n k : Nat) (w z : Int), k + n = N → z = (k : Int) → w = (be_ws e (be_g e 50 3) k : Int) → am_fix (am_sem X d) X am_P153 4 [.inr (2, i), am_I (be_i ((N : Int))), am_I (be_i (w)), am_I (be_i (z))] [] (am_sd a b u e f) = some (some (am_I (be_i ((be_ws e (be_g e 50 3) N : Int)))), (am_sd a b u e f)) := by
    intro n
    induction n with
    | zero =>
      rintro k w z hk rfl rfl
      obtain rfl : k = N := hk
      rw [am_b153_4]
      simp (disch := (first | assumption | omega | exact (be_gB _ _ _).1 | exact (be_gB _ _ _).2)) only [be_ofI, ↓be_ofN, ↓be_0, be_add, be_sub, be_mul, be_neg, be_rem, be_bi, be_bl, be_bv, be_br, be_bE0, be_bE1, be_b1E, be_b0E, be_bkb, be_cast, Int.toNat_natCast, Int.reduceToNat, be_lt, be_le, be_eq, be_nt, be_ck, be_nz, be_bk, be_div]
      rw [if_pos (by omega)]
    | succ n ih =>
      rintro k w z hk rfl rfl
      have hv := be_m151 (X := X) (b := b) (f := f) (d := d) (y := be_g e 50 3 + k) (by omega) hW hT hH (by omega) (by omega)
      rw [am_b153_4]
      simp (disch := (first | assumption | omega | exact (be_gB _ _ _).1 | exact (be_gB _ _ _).2)) only [be_ofI, ↓be_ofN, ↓be_0, be_add, be_sub, be_mul, be_neg, be_rem, be_bi, be_bl, be_bv, be_br, be_bE0, be_bE1, be_b1E, be_b0E, be_bkb, be_cast, Int.toNat_natCast, Int.reduceToNat, be_lt, be_le, be_eq, be_nt, be_ck, be_nz, be_bk, be_div, e3, hv, am_b153_20]
      rw [if_neg (by omega)]
      refine ih (k + 1) _ _ (by omega) (by omega) ?_
      rw [be_ws]; omega
  exact key _ 0 _ _ (Nat.zero_add _) rfl rfl
theorem be_m182 (hd : 1 ≤ d) (hW : be_W e) {h r x z : Nat} (hh : h < 6) (hr : r < 4) (hH : be_HR a x e h) (hR : be_RR a z e r) : am_sem X d 182 [.inr (5, z), .inr (1, x)] (am_sd a b u e f) = some (some (am_I (be_i (be_b (be_fit e h r)))), (am_sd a b u e f)) := by
  obtain ⟨d, rfl⟩ : ∃ q, d = q + 1 := ⟨d - 1, by omega⟩
  have q1 := hW.2.1 h hh
  have q2 := hW.2.2.1 r hr
  obtain ⟨-, e1, e2, e3, e4, e5, e6, e7⟩ := hH
  obtain ⟨-, r1, r2⟩ := hR
  rw [am_s182]
  simp (disch := (first | assumption | omega | exact (be_gB _ _ _).1 | exact (be_gB _ _ _).2)) only [be_ofI, ↓be_ofN, ↓be_0, be_add, be_sub, be_mul, be_neg, be_rem, be_bi, be_bl, be_bv, be_br, be_bE0, be_bE1, be_b1E, be_b0E, be_bkb, be_cast, Int.toNat_natCast, Int.reduceToNat, be_lt, be_le, be_eq, be_nt, be_ck, be_nz, be_bk, be_div, e1, e5, r1, r2]
  have hf : be_fit e h r = (decide (be_g e 56 h ≤ be_g e 51 r) && !(decide (be_g e 52 h = 1 ∨ be_g e 52 h = 4) && be_ft e r)) := rfl
  by_cases c1 : be_g e 51 r < be_g e 56 h
  · rw [hf, decide_eq_false (show ¬ be_g e 56 h ≤ be_g e 51 r by omega)]
    simp only [if_pos c1]
    repeat' split
    all_goals rfl
  · rw [hf, decide_eq_true (show be_g e 56 h ≤ be_g e 51 r by omega)]
    simp only [if_neg c1]
    by_cases c2 : be_g e 52 h = 1 ∨ be_g e 52 h = 4
    · rw [decide_eq_true c2]
      cases hq : be_ft e r
      · repeat' split
        all_goals first | rfl | (exfalso; omega) | (rename_i q; exact absurd rfl q)
      · repeat' split
        all_goals first | rfl | (exfalso; omega) | (rename_i q; exact absurd (by decide) q)
    · rw [decide_eq_false c2]
      rw [if_neg (by omega), if_pos (by omega)]
      rfl
