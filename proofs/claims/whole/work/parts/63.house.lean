/-! THE CLASS, 3: a house whole -/
variable {d : Nat} {X : am_X} {a : Nat → Nat → Nat → Int32} {b : Nat → Nat → Nat → Int64} {u : Nat → Nat} {e : Nat → Nat → Nat → Int32} {f : Nat → Nat → Nat → Int64}
theorem be_rb0 : ∀ i, i < 3 → am_rb18 (3 * i) = 22 * i := by decide
theorem be_rb1 : ∀ i, i < 3 → am_rb18 (3 * i + 1) = 22 * i + 6 := by decide
theorem be_rb2 : ∀ i, i < 3 → am_rb18 (3 * i + 2) = 22 * i + 14 := by decide
theorem be_ln0 (X : am_X) : ∀ i, i < 3 → am_len X 18 (3 * i) = 6 := by
  intro i hi
  rcases (show i = 0 ∨ i = 1 ∨ i = 2 by omega) with rfl | rfl | rfl <;> rfl
theorem be_ln1 (X : am_X) : ∀ i, i < 3 → am_len X 18 (3 * i + 1) = 8 := by
  intro i hi
  rcases (show i = 0 ∨ i = 1 ∨ i = 2 by omega) with rfl | rfl | rfl <;> rfl
theorem be_ln2 (X : am_X) : ∀ i, i < 3 → am_len X 18 (3 * i + 2) = 8 := by
  intro i hi
  rcases (show i = 0 ∨ i = 1 ∨ i = 2 by omega) with rfl | rfl | rfl <;> rfl
/-- what is seen, planned, booked -/
def be_SE (a : Nat → Nat → Nat → Int32) (i : Nat) (e : Nat → Nat → Nat → Int32) : Prop :=
  a 6 (3 * i) 1 = be_i (be_g e 50 40) ∧ ∀ k : Nat, (k : Int) < be_g e 50 40 → a 19 (k + 22 * i) 0 = be_i (be_g e 76 k) ∧ a 19 (k + 22 * i) 1 = be_i (be_g e 77 k) ∧ a 19 (k + 22 * i) 2 = be_i (be_g e 79 k) ∧ a 19 (k + 22 * i) 3 = be_i (be_g e 78 k)
def be_PL (a : Nat → Nat → Nat → Int32) (i : Nat) (e : Nat → Nat → Nat → Int32) : Prop :=
  a 6 (3 * i + 1) 1 = be_i (be_g e 50 45) ∧ ∀ k : Nat, (k : Int) < be_g e 50 45 → a 19 (k + (22 * i + 6)) 0 = be_i (be_g e 80 k) ∧ (be_g e 80 k ≠ 0 → a 19 (k + (22 * i + 6)) 1 = be_i (be_g e 81 k))
def be_BK (a : Nat → Nat → Nat → Int32) (i : Nat) (e : Nat → Nat → Nat → Int32) : Prop :=
  a 6 (3 * i + 2) 1 = be_i (be_g e 50 46) ∧ ∀ k : Nat, (k : Int) < be_g e 50 46 → a 19 (k + (22 * i + 14)) 0 = be_i (be_g e 82 k) ∧ a 19 (k + (22 * i + 14)) 1 = be_i (be_g e 83 k)
/-- what is known of them -/
def be_W2 (e : Nat → Nat → Nat → Int32) : Prop :=
  (∀ h : Nat, (h : Int) < be_g e 50 2 → be_g e 57 h = 4 ∨ be_g e 57 h < be_g e 50 0) ∧
  (0 ≤ be_g e 50 40 ∧ be_g e 50 40 ≤ 6 ∧ ∀ k : Nat, (k : Int) < be_g e 50 40 → 0 ≤ be_g e 76 k ∧ be_g e 76 k < be_g e 50 0 ∧ 0 ≤ be_g e 77 k ∧ be_g e 77 k ≤ 39 ∧ 0 ≤ be_g e 78 k ∧ be_g e 78 k ≤ 20 ∧ 0 ≤ be_g e 79 k ∧ be_g e 79 k ≤ 1) ∧
  (0 ≤ be_g e 50 45 ∧ be_g e 50 45 ≤ 8 ∧ ∀ k : Nat, (k : Int) < be_g e 50 45 → 0 ≤ be_g e 80 k ∧ be_g e 80 k ≤ 2 ∧ (be_g e 80 k = 1 → 0 ≤ be_g e 81 k ∧ be_g e 81 k < be_g e 50 2) ∧ (be_g e 80 k = 2 → 0 ≤ be_g e 81 k ∧ be_g e 81 k < be_g e 50 0)) ∧
  (0 ≤ be_g e 50 46 ∧ be_g e 50 46 ≤ 8 ∧ ∀ k : Nat, (k : Int) < be_g e 50 46 → 0 ≤ be_g e 82 k ∧ be_g e 82 k < be_g e 50 2 ∧ 0 ≤ be_g e 83 k ∧ be_g e 83 k ≤ 4)
def be_HX (a : Nat → Nat → Nat → Int32) (u : Nat → Nat) (i : Nat) (e : Nat → Nat → Nat → Int32) : Prop :=
  be_HO a u i e ∧ u (2 * i) = (be_g e 50 13 + 1).toNat ∧ be_OW a (u (2 * i)) e (be_the e) (be_num e) ∧ be_SE a i e ∧ be_PL a i e ∧ be_BK a i e
def be_any (P : Nat → Bool) : Nat → Bool
  | 0 => false
  | n + 1 => be_any P n || P n
theorem be_any_t {P : Nat → Bool} {k : Nat} (h : P k = true) : ∀ {n : Nat}, k < n → be_any P n = true
  | 0, hk => absurd hk (Nat.not_lt_zero _)
  | n + 1, hk => by
    rw [be_any]
    by_cases hn : k = n
    · subst hn; rw [h, Bool.or_true]
    · rw [be_any_t h (n := n) (by omega), Bool.true_or]
/-- an hour that clashes in a room -/
def be_c1 (e : Nat → Nat → Nat → Int32) (r : Int) (h o : Nat) : Bool := decide (¬ o = h) && (decide (be_g e 57 o = r) && be_cl e o h)
theorem be_cl_mk (e : Nat → Nat → Nat → Int32) (hW : be_W e) {h o : Nat} (hh : h < 6) (ho : o < 6) :
    ((be_mk (fun t => decide (be_g e 54 o ≤ (t : Int) ∧ (t : Int) < be_bt e o)) &&& be_mk (fun t => decide (be_g e 54 h ≤ (t : Int) ∧ (t : Int) < be_bt e h))) = Int64.ofNat 0) = (be_cl e o h = false) := by
  have q1 := hW.2.1 h hh
  have q2 := hW.2.1 o ho
  have hb : be_bt e h ≤ 40 := by have := be_qR e; unfold be_bt; omega
  apply propext
  rw [be_mk_and, be_mk_eq0]
  unfold be_cl
  rw [decide_eq_false_iff_not]
  constructor
  · intro hz hc
    have h1 := hz (max (be_g e 54 o) (be_g e 54 h)).toNat (by omega)
    rw [decide_eq_true (by omega), decide_eq_true (by omega)] at h1
    cases h1
  · intro hz t _
    cases h1 : decide (be_g e 54 o ≤ (t : Int) ∧ (t : Int) < be_bt e o)
    · rfl
    · have h1 := of_decide_eq_true h1
      rw [Bool.true_and, decide_eq_false_iff_not]
      omega
theorem be_m146 (hd : 3 ≤ d) (hW : be_W e) {i h r x : Nat} (hh : h < 6) (hr : r < 4) (hH : be_HO a u i e) (hX : be_HR a x e h) :
    am_sem X d 146 [.inr (2, i), am_I (be_i ((r : Int))), .inr (1, x)] (am_sd a b u e f) = some (some (am_I (be_i (be_b (be_any (be_c1 e r h) (be_nh e))))), (am_sd a b u e f)) := by
  obtain ⟨d, rfl⟩ : ∃ q, d = q + 1 := ⟨d - 1, by omega⟩
  obtain ⟨hn, hn2⟩ := be_nhR hW
  obtain ⟨e1, e2, e3, e4, e5, e6, e7⟩ := hH
  have hx0 := hX.1
  have hbx := be_m143 (X := X) (b := b) (f := f) (d := d) (by omega) hW hh hX e5
  rw [am_s146]
  have key : ∀ (n k : Nat) (z : Int), k + n = be_nh e → z = (k : Int) → be_any (be_c1 e r h) k = false → am_fix (am_sem X d) X am_P146 2 [.inr (2, i), am_I (be_i ((r : Int))), .inr (1, x), am_I (be_i (z))] [] (am_sd a b u e f) = some (some (am_I (be_i (be_b (be_any (be_c1 e r h) (be_nh e))))), (am_sd a b u e f)) := by
    intro n
    induction n with
    | zero =>
      rintro k z hk rfl hf
      obtain rfl : k = be_nh e := hk
      rw [am_b146_2]
      simp (disch := (first | assumption | omega | exact (be_gB _ _ _).1 | exact (be_gB _ _ _).2)) only [be_ofI, ↓be_ofN, ↓be_0, be_add, be_sub, be_mul, be_neg, be_rem, be_bi, be_bl, be_bv, be_br, be_bE0, be_bE1, be_b1E, be_b0E, be_bkb, be_cast, Int.toNat_natCast, Int.reduceToNat, be_lt, be_le, be_eq, be_nt, be_ck, be_nz, be_bk, be_div, e2]
      rw [if_pos (by omega), hf]
      rfl
    | succ n ih =>
      rintro k z hk rfl hf
      rw [am_b146_2]
      have q1 := hW.2.1 k (by omega)
      have hHR := e6 k (by omega)
      have hbk := be_m143 (X := X) (b := b) (f := f) (d := d) (by omega) hW (by omega) hHR e5
      have h6 := hHR.2.2.2.2.2.2.1
      have hb6 : -5 ≤ (if be_g e 57 k = 4 then -5 else be_g e 57 k) ∧ (if be_g e 57 k = 4 then -5 else be_g e 57 k) ≤ 4 := by split <;> omega
      simp (disch := (first | assumption | omega | exact (be_gB _ _ _).1 | exact (be_gB _ _ _).2)) only [be_ofI, ↓be_ofN, ↓be_0, be_add, be_sub, be_mul, be_neg, be_rem, be_bi, be_bl, be_bv, be_br, be_bE0, be_bE1, be_b1E, be_b0E, be_bkb, be_cast, Int.toNat_natCast, Int.reduceToNat, be_lt, be_le, be_eq, be_nt, be_ck, be_nz, be_bk, be_div, e2, hx0, h6, be_r57, hbk, hbx, be_cmp0, be_cl_mk e hW, am_b146_41, am_b146_46]
      rw [if_neg (by omega)]
      have hs : be_any (be_c1 e r h) (k + 1) = (be_any (be_c1 e r h) k || be_c1 e r h k) := rfl
      have hc1 : be_c1 e r h k = (decide (¬ k = h) && (decide (be_g e 57 k = (r : Int)) && be_cl e k h)) := rfl
      split
      · rename_i hc
        refine ih (k + 1) _ (by omega) (by omega) ?_
        rw [hs, hf, hc1, decide_eq_false (by omega)]; rfl
      · rename_i hc
        split
        · rename_i hc2
          refine ih (k + 1) _ (by omega) (by omega) ?_
          rw [hs, hf, hc1, decide_eq_false hc2, Bool.false_and, Bool.and_false]; rfl
        · rename_i hc2
          have hc2 := Decidable.not_not.mp hc2
          split
          · rename_i hc3
            refine ih (k + 1) _ (by omega) (by omega) ?_
            rw [hs, hf, hc1, hc3, Bool.and_false, Bool.and_false]; rfl
          · rename_i hc3
            rw [be_any_t (k := k) (by rw [hc1, decide_eq_true (by omega), decide_eq_true hc2, eq_true_of_ne_false hc3]; rfl) (by omega)]
            rfl
  exact key (be_nh e) 0 _ (Nat.zero_add _) rfl rfl
def be_hs (e : Nat → Nat → Nat → Int32) (n : Nat) : Nat := be_cnt (fun h => decide (¬ be_g e 57 h = 4)) n
theorem be_m154 (hd : 2 ≤ d) (hW : be_W e) (hW2 : be_W2 e) {i : Nat} (hH : be_HO a u i e) : am_sem X d 154 [.inr (2, i)] (am_sd a b u e f) = some (some (am_I (be_i ((be_hs e (be_nh e) : Int)))), (am_sd a b u e f)) := by
  obtain ⟨d, rfl⟩ : ∃ q, d = q + 1 := ⟨d - 1, by omega⟩
  obtain ⟨hn, hn2⟩ := be_nhR hW
  have hW1 := hW.1
  obtain ⟨e1, e2, e3, e4, e5, e6, e7⟩ := hH
  rw [am_s154]
  have key : ∀ (n k : Nat) (w z : Int), k + n = be_nh e → z = (k : Int) → w = (be_hs e k : Int) → am_fix (am_sem X d) X am_P154 4 [.inr (2, i), am_I (be_i (w)), am_I (be_i (z))] [] (am_sd a b u e f) = some (some (am_I (be_i ((be_hs e (be_nh e) : Int)))), (am_sd a b u e f)) := by
    intro n
    induction n with
    | zero =>
      rintro k w z hk rfl rfl
      obtain rfl : k = be_nh e := hk
      rw [am_b154_4]
      simp (disch := (first | assumption | omega | exact (be_gB _ _ _).1 | exact (be_gB _ _ _).2)) only [be_ofI, ↓be_ofN, ↓be_0, be_add, be_sub, be_mul, be_neg, be_rem, be_bi, be_bl, be_bv, be_br, be_bE0, be_bE1, be_b1E, be_b0E, be_bkb, be_cast, Int.toNat_natCast, Int.reduceToNat, be_lt, be_le, be_eq, be_nt, be_ck, be_nz, be_bk, be_div, e2]
      rw [if_pos (by omega)]
    | succ n ih =>
      rintro k w z hk rfl rfl
      rw [am_b154_4]
      have q1 := hW.2.1 k (by omega)
      have q2 := hW2.1 k (by omega)
      have hHR := e6 k (by omega)
      have h6 := hHR.2.2.2.2.2.2.1
      have hb6 : -5 ≤ (if be_g e 57 k = 4 then -5 else be_g e 57 k) ∧ (if be_g e 57 k = 4 then -5 else be_g e 57 k) ≤ 4 := by split <;> omega
      have hr := be_m138 (X := X) (a := a) (b := b) (u := u) (e := e) (f := f) (d := d) (i := i) (n := be_g e 50 0) (x := (if be_g e 57 k = 4 then -5 else be_g e 57 k)) (by omega) e1 (by omega) (by omega) (by omega) (by omega)
      simp (disch := (first | assumption | omega | exact (be_gB _ _ _).1 | exact (be_gB _ _ _).2)) only [be_ofI, ↓be_ofN, ↓be_0, be_add, be_sub, be_mul, be_neg, be_rem, be_bi, be_bl, be_bv, be_br, be_bE0, be_bE1, be_b1E, be_b0E, be_bkb, be_cast, Int.toNat_natCast, Int.reduceToNat, be_lt, be_le, be_eq, be_nt, be_ck, be_nz, be_bk, be_div, e2, h6, hr, be_m252, am_b154_26, am_b154_29]
      rw [if_neg (by omega)]
      refine ih (k + 1) _ _ (by omega) (by omega) ?_
      have hs : be_hs e (k + 1) = be_hs e k + (bif decide (¬ be_g e 57 k = 4) then 1 else 0) := rfl
      rw [hs]
      by_cases hc : be_g e 57 k = 4
      · rw [if_pos hc, decide_eq_false (by omega), decide_eq_false (by omega)]; rfl
      · rw [if_neg hc, decide_eq_true (by omega), decide_eq_true hc]; rfl
  exact key _ 0 _ _ (Nat.zero_add _) rfl rfl
/-- the worth of those that have a room, in theirs -/
def be_wz (e : Nat → Nat → Nat → Int32) : Nat → Int
  | 0 => 0
  | n + 1 => be_wz e n + (if be_g e 57 n = 4 then 0 else be_wo e (be_F e n (be_g e 57 n).toNat))
theorem be_wzR (hT : be_T3 e) : ∀ n, 0 ≤ be_wz e n ∧ be_wz e n ≤ 1000 * (n : Int)
  | 0 => by rw [be_wz]; omega
  | n + 1 => by
    have h1 := be_wzR hT n
    have h2 := be_woR hT (be_F e n (be_g e 57 n).toNat)
    rw [be_wz]
    split <;> omega
theorem be_NRof {x z h r : Nat} (hH : be_HR a x e h) (hR : be_RR a z e r) : be_NR a x z (be_F e h r) := ⟨hH.1, hR.1, hH.2.1, hH.2.2.1, hH.2.2.2.2.2.1, hR.2.1⟩
theorem be_m163o (hd : 3 ≤ d) (hW : be_W e) (hT : be_T3 e) {o x z h r : Nat} (hh : h < 6) (hr : r < 4) (hH : be_HR a x e h) (hR : be_RR a z e r) (hO : be_OW a o e (be_the e) (be_num e)) :
    am_sem X d 163 [.inr (3, o), .inr (1, x), .inr (5, z)] (am_sd a b u e f) = some (some (am_I (be_i (be_wo e (be_F e h r)))), (am_sd a b u e f)) :=
  be_m163 hd (be_NRof hH hR) (be_FR hW hh hr) (be_numR hT).2.2 hO
theorem be_m155 (hd : 4 ≤ d) (hW : be_W e) (hW2 : be_W2 e) (hT : be_T3 e) {i : Nat} (hX : be_HX a u i e) : am_sem X d 155 [.inr (2, i)] (am_sd a b u e f) = some (some (am_I (be_i (be_wz e (be_nh e)))), (am_sd a b u e f)) := by
  obtain ⟨d, rfl⟩ : ∃ q, d = q + 1 := ⟨d - 1, by omega⟩
  obtain ⟨hn, hn2⟩ := be_nhR hW
  obtain ⟨hr0, hr2⟩ := be_nrR hW
  obtain ⟨hH, x1, x2, -⟩ := hX
  obtain ⟨e1, e2, e3, e4, e5, e6, e7⟩ := hH
  rw [am_s155]
  have key : ∀ (n k : Nat) (w z : Int), k + n = be_nh e → z = (k : Int) → w = be_wz e k → am_fix (am_sem X d) X am_P155 4 [.inr (2, i), am_I (be_i (w)), am_I (be_i (z))] [] (am_sd a b u e f) = some (some (am_I (be_i (be_wz e (be_nh e)))), (am_sd a b u e f)) := by
    intro n
    induction n with
    | zero =>
      rintro k w z hk rfl rfl
      obtain rfl : k = be_nh e := hk
      rw [am_b155_4]
      simp (disch := (first | assumption | omega | exact (be_gB _ _ _).1 | exact (be_gB _ _ _).2)) only [be_ofI, ↓be_ofN, ↓be_0, be_add, be_sub, be_mul, be_neg, be_rem, be_bi, be_bl, be_bv, be_br, be_bE0, be_bE1, be_b1E, be_b0E, be_bkb, be_cast, Int.toNat_natCast, Int.reduceToNat, be_lt, be_le, be_eq, be_nt, be_ck, be_nz, be_bk, be_div, e2]
      rw [if_pos (by omega)]
    | succ n ih =>
      rintro k w z hk rfl rfl
      rw [am_b155_4]
      have q1 := hW.2.1 k (by omega)
      have q2 := hW2.1 k (by omega)
      have hHR := e6 k (by omega)
      have h6 := hHR.2.2.2.2.2.2.1
      have hs : be_wz e (k + 1) = be_wz e k + (if be_g e 57 k = 4 then 0 else be_wo e (be_F e k (be_g e 57 k).toNat)) := rfl
      by_cases hc : be_g e 57 k = 4
      · rw [if_pos hc] at h6 hs
        have hr := be_m138 (X := X) (a := a) (b := b) (u := u) (e := e) (f := f) (d := d) (i := i) (n := be_g e 50 0) (x := -5) (by omega) e1 (by omega) (by omega) (by omega) (by omega)
        rw [decide_eq_false (by omega)] at hr
        simp (disch := (first | assumption | omega | exact (be_gB _ _ _).1 | exact (be_gB _ _ _).2)) only [be_ofI, ↓be_ofN, ↓be_0, be_add, be_sub, be_mul, be_neg, be_rem, be_bi, be_bl, be_bv, be_br, be_bE0, be_bE1, be_b1E, be_b0E, be_bkb, be_cast, Int.toNat_natCast, Int.reduceToNat, be_lt, be_le, be_eq, be_nt, be_ck, be_nz, be_bk, be_div, not_true_eq_false, not_false_eq_true, if_true, if_false, eq_self, Int.reduceEq, Int.reduceLT, Int.reduceLE, e2, h6, hr, am_b155_25, am_b155_56]
        rw [if_neg (by omega)]
        exact ih (k + 1) _ _ (by omega) (by omega) (by omega)
      · rw [if_neg hc] at h6 hs
        have hr := be_m138 (X := X) (a := a) (b := b) (u := u) (e := e) (f := f) (d := d) (i := i) (n := be_g e 50 0) (x := be_g e 57 k) (by omega) e1 (by omega) (by omega) (by omega) (by omega)
        rw [decide_eq_true (by omega)] at hr
        have hRR := e7 (be_g e 57 k).toNat (by omega)
        have hw := be_m163o (X := X) (b := b) (u := u) (f := f) (d := d) (by omega) hW hT (by omega) (by omega) hHR hRR x2
        simp (disch := (first | assumption | omega | exact (be_gB _ _ _).1 | exact (be_gB _ _ _).2)) only [be_ofI, ↓be_ofN, ↓be_0, be_add, be_sub, be_mul, be_neg, be_rem, be_bi, be_bl, be_bv, be_br, be_bE0, be_bE1, be_b1E, be_b0E, be_bkb, be_cast, Int.toNat_natCast, Int.reduceToNat, be_lt, be_le, be_eq, be_nt, be_ck, be_nz, be_bk, be_div, e2, h6, hr, hw, am_b155_25, am_b155_56]
        rw [if_neg (by omega)]
        simp only [Bool.true_eq_false, if_false]
        exact ih (k + 1) _ _ (by omega) (by omega) (by omega)
  exact key _ 0 _ _ (Nat.zero_add _) rfl rfl
/-- whether all of what is seen is so -/
def be_as (e : Nat → Nat → Nat → Int32) (dy : Int) : Nat → Bool
  | 0 => true
  | k + 1 => be_as e dy k && (be_iM e (dy + be_g e 78 k) (be_g e 76 k) (be_nh e) (be_g e 77 k).toNat == decide (be_g e 79 k = 1))
def be_ns (e : Nat → Nat → Nat → Int32) : Nat := (be_g e 50 40).toNat
theorem be_as_f (e : Nat → Nat → Nat → Int32) (dy : Int) {k : Nat} (h : be_as e dy k = false) : ∀ {n : Nat}, k ≤ n → be_as e dy n = false
  | 0, hk => by rw [show k = 0 by omega] at h; exact h
  | n + 1, hk => by
    by_cases hn : k = n + 1
    · rw [← hn]; exact h
    · rw [be_as, be_as_f e dy h (n := n) (by omega), Bool.false_and]
theorem be_m156 (hd : 4 ≤ d) (hW : be_W e) (hW2 : be_W2 e) (hT : be_T2 e) (hD : be_g e 50 3 ≤ 10100) {i : Nat} (hi : i < 3) (hX : be_HX a u i e) : am_sem X d 156 [.inr (2, i)] (am_sd a b u e f) = some (some (am_I (be_i (be_b (be_as e (be_g e 50 3) (be_ns e))))), (am_sd a b u e f)) := by
  obtain ⟨d, rfl⟩ : ∃ q, d = q + 1 := ⟨d - 1, by omega⟩
  obtain ⟨hr0, hr2⟩ := be_nrR hW
  have hW1 := hW.1
  obtain ⟨w1, w2, w3⟩ := hW2.2.1
  obtain ⟨hH, x1, x2, x3, -⟩ := hX
  have e3 := hH.2.2.1
  obtain ⟨s1, s2⟩ := x3
  have hns : be_g e 50 40 = (be_ns e : Int) := by unfold be_ns; omega
  have hl0 := be_ln0 X i hi
  have hb0 := be_rb0 i hi
  rw [am_s156]
  have key : ∀ (n k : Nat) (z : Int) (z2 z3 : am_V), k + n = be_ns e → z = (k : Int) → be_as e (be_g e 50 3) k = true → am_fix (am_sem X d) X am_P156 2 [.inr (2, i), am_I (be_i (z)), z2, z3] [] (am_sd a b u e f) = some (some (am_I (be_i (be_b (be_as e (be_g e 50 3) (be_ns e))))), (am_sd a b u e f)) := by
    intro n
    induction n with
    | zero =>
      rintro k z z2 z3 hk rfl hf
      obtain rfl : k = be_ns e := hk
      rw [am_b156_2]
      simp (disch := (first | assumption | omega | exact (be_gB _ _ _).1 | exact (be_gB _ _ _).2)) only [be_ofI, ↓be_ofN, ↓be_0, be_add, be_sub, be_mul, be_neg, be_rem, be_bi, be_bl, be_bv, be_br, be_bE0, be_bE1, be_b1E, be_b0E, be_bkb, be_cast, Int.toNat_natCast, Int.reduceToNat, be_lt, be_le, be_eq, be_nt, be_ck, be_nz, be_bk, be_div, s1]
      rw [if_pos (by omega), hf]
      rfl
    | succ n ih =>
      rintro k z z2 z3 hk rfl hf
      rw [am_b156_2]
      obtain ⟨p1, p2, p3, p4, p5, p6, p7, p8⟩ := w3 k (by omega)
      obtain ⟨c0, c1, c2, c3⟩ := s2 k (by omega)
      have hv := be_m148 (X := X) (b := b) (f := f) (d := d) (r := (be_g e 76 k).toNat) (y := be_g e 50 3 + be_g e 78 k) (by omega) hW hT (by omega) hH (by omega) (by omega)
      rw [show (((be_g e 76 k).toNat : Nat) : Int) = be_g e 76 k by omega] at hv
      have hb := be_m253 (X := X) (a := a) (b := b) (u := u) (e := e) (f := f) (d := d) (by omega) (be_iM e (be_g e 50 3 + be_g e 78 k) (be_g e 76 k) (be_nh e)) (k := (be_g e 77 k).toNat) (by omega)
      rw [show (((be_g e 77 k).toNat : Nat) : Int) = be_g e 77 k by omega] at hb
      have hq : (be_i (be_b (be_iM e (be_g e 50 3 + be_g e 78 k) (be_g e 76 k) (be_nh e) (be_g e 77 k).toNat)) = be_i (be_g e 79 k)) = ((be_iM e (be_g e 50 3 + be_g e 78 k) (be_g e 76 k) (be_nh e) (be_g e 77 k).toNat == decide (be_g e 79 k = 1)) = true) := by
        have := be_bR (be_iM e (be_g e 50 3 + be_g e 78 k) (be_g e 76 k) (be_nh e) (be_g e 77 k).toNat)
        rw [be_eq (by omega) (by omega) (by omega) (by omega), beq_iff_eq]
        rcases (show be_g e 79 k = 0 ∨ be_g e 79 k = 1 by omega) with h | h
        · rw [h, be_b0]; rfl
        · rw [h, be_b1]; rfl
      simp (disch := (first | assumption | omega | exact (be_gB _ _ _).1 | exact (be_gB _ _ _).2)) only [be_ofI, ↓be_ofN, ↓be_0, be_add, be_sub, be_mul, be_neg, be_rem, be_bi, be_bl, be_bv, be_br, be_bE0, be_bE1, be_b1E, be_b0E, be_bkb, be_cast, Int.toNat_natCast, Int.reduceToNat, be_lt, be_le, be_eq, be_nt, be_ck, be_nz, be_bk, be_div, s1, hl0, hb0, c0, c1, c2, c3, e3, hv, hb, be_m252, hq, am_b156_38, am_b156_44, am_b156_49]
      rw [if_neg (by omega)]
      have hs : be_as e (be_g e 50 3) (k + 1) = (be_as e (be_g e 50 3) k && (be_iM e (be_g e 50 3 + be_g e 78 k) (be_g e 76 k) (be_nh e) (be_g e 77 k).toNat == decide (be_g e 79 k = 1))) := rfl
      split
      · rename_i hc
        exact ih (k + 1) _ _ _ (by omega) (by omega) (by rw [hs, hf, hc]; rfl)
      · rename_i hc
        rw [be_as_f e (be_g e 50 3) (k := k + 1) (by rw [hs, hf, eq_false_of_ne_true hc]; rfl) (by omega)]
        rfl
  exact key _ 0 _ _ _ (Nat.zero_add _) rfl rfl
