/-! THE REFERENCE, 3: rooms at a quarter, days -/
variable {d : Nat} {X : am_X} {a : Nat → Nat → Nat → Int32} {b : Nat → Nat → Nat → Int64} {u : Nat → Nat} {e : Nat → Nat → Nat → Int32} {f : Nat → Nat → Nat → Int64}
theorem be_gn (e : Nat → Nat → Nat → Int32) (c i j : Nat) (x : Int32) (c' j' : Nat) (h : ¬ (c' = c ∧ 0 = i ∧ j' = j)) : be_g (am_w3 e c i j x) c' j' = be_g e c' j' := by
  unfold be_g; rw [be_w3n _ _ _ _ _ _ _ _ h]
theorem be_ww {α : Type} (f : Nat → Nat → Nat → α) (c i j : Nat) (x y : α) : am_w3 (am_w3 f c i j x) c i j y = am_w3 f c i j y := by
  funext c' i' j'
  rw [be_w3, be_w3, be_w3]
  by_cases h : c' = c ∧ i' = i ∧ j' = j
  · rw [if_pos h, if_pos h]
  · rw [if_neg h, if_neg h, if_neg h]
theorem be_wid {α : Type} {f : Nat → Nat → Nat → α} {c i j : Nat} {x : α} (h : x = f c i j) : am_w3 f c i j x = f := by
  funext c' i' j'
  rw [be_w3]
  by_cases h2 : c' = c ∧ i' = i ∧ j' = j
  · obtain ⟨rfl, rfl, rfl⟩ := h2; rw [if_pos ⟨rfl, rfl, rfl⟩, h]
  · rw [if_neg h2]
/-- alike in all that rooms, hours and offices are asked, but for the day -/
def be_A (e e' : Nat → Nat → Nat → Int32) : Prop :=
  (∀ c j, (51 ≤ c ∧ c ≤ 58) ∨ (60 ≤ c ∧ c ≤ 65) → be_g e' c j = be_g e c j) ∧ ∀ j, j = 0 ∨ j = 2 ∨ j = 13 ∨ j = 29 → be_g e' 50 j = be_g e 50 j
theorem be_A_dy (x : Int32) : be_A e (am_w3 e 50 0 3 x) := ⟨fun c j h => be_gn _ _ _ _ _ _ _ (by omega), fun j h => be_gn _ _ _ _ _ _ _ (by omega)⟩
theorem be_A_W {e' : Nat → Nat → Nat → Int32} (hA : be_A e e') (h1 : 0 ≤ be_g e' 50 3) (h2 : be_g e' 50 3 ≤ 19999) (h3 : 0 ≤ be_g e' 50 1) (h4 : be_g e' 50 1 < 16) (hW : be_W e) : be_W e' := by
  obtain ⟨⟨w1, w2, w3, w4, w5, w6, w7, w8⟩, w9, w10, w11⟩ := hW
  obtain ⟨a1, a2⟩ := hA
  refine ⟨?_, ?_, ?_, ?_⟩
  · simp (disch := omega) only [a2]; omega
  · intro h hh; simp (disch := omega) only [a1]; exact w9 h hh
  · intro h hh; simp (disch := omega) only [a1]; exact w10 h hh
  · intro h hh; simp (disch := omega) only [a1]; exact w11 h hh
theorem be_A_T {e' : Nat → Nat → Nat → Int32} (hA : be_A e e') (hT : be_T2 e) : be_T2 e' := by
  obtain ⟨⟨w1, w2, w3, w4⟩, w5, w6⟩ := hT
  obtain ⟨a1, a2⟩ := hA
  refine ⟨⟨?_, ?_, ?_, ?_⟩, ?_, ?_⟩
  all_goals simp (disch := omega) only [a1, a2]
  all_goals assumption
theorem be_A_beg {e' : Nat → Nat → Nat → Int32} (hA : be_A e e') : be_beg e' = be_beg e := by
  unfold be_beg; simp (disch := omega) only [hA.2]
theorem be_A_num {e' : Nat → Nat → Nat → Int32} (hA : be_A e e') : be_num e' = be_num e := by
  unfold be_num; simp (disch := omega) only [hA.1, hA.2]
theorem be_A_last {e' : Nat → Nat → Nat → Int32} (hA : be_A e e') (w z : Int) : ∀ n, be_last e' w z n = be_last e w z n
  | 0 => rfl
  | n + 1 => by
    rw [be_last, be_last, be_A_last hA w z n, be_A_beg hA]
    simp (disch := omega) only [hA.1]
theorem be_A_q {e' : Nat → Nat → Nat → Int32} (hA : be_A e e') : be_q e' = be_q e := by
  unfold be_q; rw [be_A_num hA, be_A_last hA]
theorem be_A_h {e' : Nat → Nat → Nat → Int32} (hA : be_A e e') : be_h e' = be_h e := by
  unfold be_h; rw [be_A_num hA, be_A_last hA]; simp (disch := omega) only [hA.2]
theorem be_A_comes {e' : Nat → Nat → Nat → Int32} (hA : be_A e e') (y : Int) (h : Nat) : be_comes e' y h = be_comes e y h := by
  unfold be_comes; simp (disch := omega) only [hA.1]
theorem be_A_goes {e' : Nat → Nat → Nat → Int32} (hA : be_A e e') (h : Nat) : be_goes e' h = be_goes e h := by
  unfold be_goes; simp (disch := omega) only [hA.1]
theorem be_A_bt {e' : Nat → Nat → Nat → Int32} (hA : be_A e e') (h : Nat) : be_bt e' h = be_bt e h := by
  unfold be_bt; simp (disch := omega) only [hA.1, be_A_q hA]
theorem be_A_ht {e' : Nat → Nat → Nat → Int32} (hA : be_A e e') (y : Int) (h : Nat) : be_ht e' y h = be_ht e y h := by
  unfold be_ht; simp (disch := omega) only [hA.1, be_A_h hA, be_A_bt hA, be_A_comes hA]
theorem be_A_held {e' : Nat → Nat → Nat → Int32} (hA : be_A e e') (y : Int) (h t : Nat) : be_held e' y h t = be_held e y h t := by
  unfold be_held; simp (disch := omega) only [hA.1, be_A_ht hA]
theorem be_A_in {e' : Nat → Nat → Nat → Int32} (hA : be_A e e') (y : Int) (h t : Nat) : be_in e' y h t = be_in e y h t := by
  unfold be_in; simp only [be_A_comes hA, be_A_goes hA, be_A_q hA]
theorem be_A_iS {e' : Nat → Nat → Nat → Int32} (hA : be_A e e') (y r : Int) (t n : Nat) : be_iS e' y r t n = be_iS e y r t n := by
  unfold be_iS; simp (disch := omega) only [hA.1, be_A_in hA]
theorem be_A_hS {e' : Nat → Nat → Nat → Int32} (hA : be_A e e') (y r : Int) (t n : Nat) : be_hS e' y r t n = be_hS e y r t n := by
  unfold be_hS; simp (disch := omega) only [hA.1, be_A_held hA]
def be_nh (e : Nat → Nat → Nat → Int32) : Nat := (be_g e 50 2).toNat
def be_nr (e : Nat → Nat → Nat → Int32) : Nat := (be_g e 50 0).toNat
theorem be_nhR (hW : be_W e) : be_nh e ≤ 6 ∧ be_g e 50 2 = (be_nh e : Int) := by
  have := hW.1; unfold be_nh; omega
theorem be_nrR (hW : be_W e) : be_nr e ≤ 4 ∧ be_g e 50 0 = (be_nr e : Int) := by
  have := hW.1; unfold be_nr; omega
/-- one quarter at which a room is held and empty, or free -/
def be_un1 (e : Nat → Nat → Nat → Int32) (dy r : Int) (p : Bool) (t : Nat) : Bool := decide (be_iS e dy r t (be_nh e) = 0) && (decide (¬ be_hS e dy r t (be_nh e) = 0) == p)
def be_un (e : Nat → Nat → Nat → Int32) (dy r : Int) (p : Bool) (n : Nat) : Nat := be_cnt (be_un1 e dy r p) n
def be_au (e : Nat → Nat → Nat → Int32) (dy : Int) (p : Bool) : Nat → Nat
  | 0 => 0
  | n + 1 => be_au e dy p n + be_un e dy n p (be_q e).toNat
def be_ws (e : Nat → Nat → Nat → Int32) (dy : Int) : Nat → Nat
  | 0 => 0
  | n + 1 => be_ws e dy n + be_au e (dy + n) true (be_nr e)
theorem be_A_nh {e' : Nat → Nat → Nat → Int32} (hA : be_A e e') : be_nh e' = be_nh e := by
  unfold be_nh; simp (disch := omega) only [hA.2]
theorem be_A_nr {e' : Nat → Nat → Nat → Int32} (hA : be_A e e') : be_nr e' = be_nr e := by
  unfold be_nr; simp (disch := omega) only [hA.2]
theorem be_A_un {e' : Nat → Nat → Nat → Int32} (hA : be_A e e') (y r : Int) (p : Bool) (n : Nat) : be_un e' y r p n = be_un e y r p n := by
  unfold be_un be_un1; simp only [be_A_iS hA, be_A_hS hA, be_A_nh hA]
theorem be_A_au {e' : Nat → Nat → Nat → Int32} (hA : be_A e e') (y : Int) (p : Bool) : ∀ n, be_au e' y p n = be_au e y p n
  | 0 => rfl
  | n + 1 => by rw [be_au, be_au, be_A_au hA y p n, be_A_un hA, be_A_q hA]
theorem be_un_le (e : Nat → Nat → Nat → Int32) (y r : Int) (p : Bool) (n : Nat) : be_un e y r p n ≤ n := be_cnt_le _ _
theorem be_au_le (e : Nat → Nat → Nat → Int32) (y : Int) (p : Bool) : ∀ n, be_au e y p n ≤ 40 * n
  | 0 => Nat.le_refl _
  | n + 1 => by
    have h1 := be_au_le e y p n
    have h2 := be_un_le e y n p (be_q e).toNat
    have h3 := be_qR e
    rw [be_au]; omega
theorem be_ws_le (hW : be_W e) (y : Int) : ∀ n, be_ws e y n ≤ 160 * n
  | 0 => Nat.le_refl _
  | n + 1 => by
    have h1 := be_ws_le hW y n
    have h2 := be_au_le e (y + n) true (be_nr e)
    have h3 := be_nrR hW
    rw [be_ws]; omega
theorem be_m43 (hd : 7 ≤ d) (hW : be_W e) (hT : be_T2 e) {r : Int} {t : Nat} (hr : -2147483648 ≤ r) (hr2 : r < 2147483648) (ht : t < 1000) : am_sem X d 43 [.inr (50, 0), am_I (be_i (r)), am_I (be_i ((t : Int)))] (am_sd a b u e f) = some (some (am_I (be_i ((be_iS e (be_g e 50 3) r t (be_nh e) : Int)))), (am_sd a b u e f)) := by
  obtain ⟨d, rfl⟩ : ∃ q, d = q + 1 := ⟨d - 1, by omega⟩
  have he := be_gI e
  obtain ⟨hn, hn2⟩ := be_nhR hW
  rw [am_s43]
  have key : ∀ (n k : Nat) (w z : Int), k + n = be_nh e → z = (k : Int) → w = (be_iS e (be_g e 50 3) r t k : Int) → am_fix (am_sem X d) X am_P43 5 [.inr (50, 0), am_I (be_i (r)), am_I (be_i ((t : Int))), am_I (be_i (w)), am_I (be_i (z))] [] (am_sd a b u e f) = some (some (am_I (be_i ((be_iS e (be_g e 50 3) r t (be_nh e) : Int)))), (am_sd a b u e f)) := by
    intro n
    induction n with
    | zero =>
      rintro k w z hk rfl rfl
      obtain rfl : k = be_nh e := hk
      rw [am_b43_5]
      simp (disch := (first | assumption | omega | exact (be_gB _ _ _).1 | exact (be_gB _ _ _).2)) only [be_ofI, ↓be_ofN, ↓be_0, be_add, be_sub, be_mul, be_neg, be_rem, be_bi, be_bl, be_bv, be_br, be_bE0, be_bE1, be_b1E, be_b0E, be_bkb, be_cast, Int.toNat_natCast, Int.reduceToNat, be_lt, be_le, be_eq, be_nt, be_ck, be_nz, be_bk, be_div, he]
      rw [if_pos (by omega)]
    | succ n ih =>
      rintro k w z hk rfl rfl
      rw [am_b43_5]
      have hlt : ((be_iS e (be_g e 50 3) r t k : Nat) : Int) < ((2 ^ k : Nat) : Int) := by exact_mod_cast be_bs_lt _ k
      simp (disch := (first | assumption | omega | exact (be_gB _ _ _).1 | exact (be_gB _ _ _).2)) only [be_ofI, ↓be_ofN, ↓be_0, be_add, be_sub, be_mul, be_neg, be_rem, be_bi, be_bl, be_bv, be_br, be_bE0, be_bE1, be_b1E, be_b0E, be_bkb, be_cast, Int.toNat_natCast, Int.reduceToNat, be_lt, be_le, be_eq, be_nt, be_ck, be_nz, be_bk, be_div, he, be_m42, am_b43_33, be_or0, be_31, be_shl, be_or]
      rw [if_neg (by omega)]
      have hs : be_iS e (be_g e 50 3) r t (k + 1) = be_iS e (be_g e 50 3) r t k + (bif decide (be_g e 57 k = r) && be_in e (be_g e 50 3) k t then 2 ^ k else 0) := rfl
      split
      · rename_i hc
        refine ih (k + 1) _ _ (by omega) (by omega) ?_
        rw [hs, decide_eq_false hc, Bool.false_and]; rfl
      · rename_i hc
        have hc : be_g e 57 k = r := by simpa using hc
        split
        · rename_i hp
          refine ih (k + 1) _ _ (by omega) (by omega) ?_
          rw [hs, decide_eq_true hc, hp]; rfl
        · rename_i hp
          have hp : be_in e (be_g e 50 3) k t = true := by simpa using hp
          refine ih (k + 1) _ _ (by omega) (by omega) ?_
          rw [hs, decide_eq_true hc, hp]; rfl
  exact key (be_nh e) 0 _ _ (by omega) rfl rfl
theorem be_m44 (hd : 7 ≤ d) (hW : be_W e) (hT : be_T2 e) {r : Int} {t : Nat} (hr : -2147483648 ≤ r) (hr2 : r < 2147483648) (ht : t < 1000) : am_sem X d 44 [.inr (50, 0), am_I (be_i (r)), am_I (be_i ((t : Int)))] (am_sd a b u e f) = some (some (am_I (be_i ((be_hS e (be_g e 50 3) r t (be_nh e) : Int)))), (am_sd a b u e f)) := by
  obtain ⟨d, rfl⟩ : ∃ q, d = q + 1 := ⟨d - 1, by omega⟩
  have he := be_gI e
  obtain ⟨hn, hn2⟩ := be_nhR hW
  rw [am_s44]
  have key : ∀ (n k : Nat) (w z : Int), k + n = be_nh e → z = (k : Int) → w = (be_hS e (be_g e 50 3) r t k : Int) → am_fix (am_sem X d) X am_P44 5 [.inr (50, 0), am_I (be_i (r)), am_I (be_i ((t : Int))), am_I (be_i (w)), am_I (be_i (z))] [] (am_sd a b u e f) = some (some (am_I (be_i ((be_hS e (be_g e 50 3) r t (be_nh e) : Int)))), (am_sd a b u e f)) := by
    intro n
    induction n with
    | zero =>
      rintro k w z hk rfl rfl
      obtain rfl : k = be_nh e := hk
      rw [am_b44_5]
      simp (disch := (first | assumption | omega | exact (be_gB _ _ _).1 | exact (be_gB _ _ _).2)) only [be_ofI, ↓be_ofN, ↓be_0, be_add, be_sub, be_mul, be_neg, be_rem, be_bi, be_bl, be_bv, be_br, be_bE0, be_bE1, be_b1E, be_b0E, be_bkb, be_cast, Int.toNat_natCast, Int.reduceToNat, be_lt, be_le, be_eq, be_nt, be_ck, be_nz, be_bk, be_div, he]
      rw [if_pos (by omega)]
    | succ n ih =>
      rintro k w z hk rfl rfl
      rw [am_b44_5]
      have hlt : ((be_hS e (be_g e 50 3) r t k : Nat) : Int) < ((2 ^ k : Nat) : Int) := by exact_mod_cast be_bs_lt _ k
      simp (disch := (first | assumption | omega | exact (be_gB _ _ _).1 | exact (be_gB _ _ _).2)) only [be_ofI, ↓be_ofN, ↓be_0, be_add, be_sub, be_mul, be_neg, be_rem, be_bi, be_bl, be_bv, be_br, be_bE0, be_bE1, be_b1E, be_b0E, be_bkb, be_cast, Int.toNat_natCast, Int.reduceToNat, be_lt, be_le, be_eq, be_nt, be_ck, be_nz, be_bk, be_div, he, be_m41, am_b44_33, be_or0, be_31, be_shl, be_or]
      rw [if_neg (by omega)]
      have hs : be_hS e (be_g e 50 3) r t (k + 1) = be_hS e (be_g e 50 3) r t k + (bif decide (be_g e 57 k = r) && be_held e (be_g e 50 3) k t then 2 ^ k else 0) := rfl
      split
      · rename_i hc
        refine ih (k + 1) _ _ (by omega) (by omega) ?_
        rw [hs, decide_eq_false hc, Bool.false_and]; rfl
      · rename_i hc
        have hc : be_g e 57 k = r := by simpa using hc
        split
        · rename_i hp
          refine ih (k + 1) _ _ (by omega) (by omega) ?_
          rw [hs, decide_eq_true hc, hp]; rfl
        · rename_i hp
          have hp : be_held e (be_g e 50 3) k t = true := by simpa using hp
          refine ih (k + 1) _ _ (by omega) (by omega) ?_
          rw [hs, decide_eq_true hc, hp]; rfl
  exact key (be_nh e) 0 _ _ (by omega) rfl rfl
theorem be_SB (e : Nat → Nat → Nat → Int32) (hW : be_W e) (y r : Int) (t : Nat) : be_iS e y r t (be_nh e) < 64 ∧ be_hS e y r t (be_nh e) < 64 := by
  obtain ⟨hn, hn2⟩ := be_nhR hW
  have h1 : be_iS e y r t (be_nh e) < 2 ^ be_nh e := be_bs_lt _ _
  have h2 : be_hS e y r t (be_nh e) < 2 ^ be_nh e := be_bs_lt _ _
  have h3 : 2 ^ be_nh e ≤ 2 ^ 6 := Nat.pow_le_pow_right (by decide) hn
  omega
theorem be_m47 (hd : 8 ≤ d) (hW : be_W e) (hT : be_T2 e) {r : Int} {p : Bool} (hr : -2147483648 ≤ r) (hr2 : r < 2147483648) : am_sem X d 47 [.inr (50, 0), am_I (be_i (r)), am_I (be_i (be_b p))] (am_sd a b u e f) = some (some (am_I (be_i ((be_un e (be_g e 50 3) r p (be_q e).toNat : Int)))), (am_sd a b u e f)) := by
  obtain ⟨d, rfl⟩ : ∃ q, d = q + 1 := ⟨d - 1, by omega⟩
  have he := be_gI e
  obtain ⟨q1, q2⟩ := be_qR e
  have hT1 := hT.1
  rw [am_s47]
  have key : ∀ (n k : Nat) (w z : Int), k + n = (be_q e).toNat → z = (k : Int) → w = (be_un e (be_g e 50 3) r p k : Int) → am_fix (am_sem X d) X am_P47 5 [.inr (50, 0), am_I (be_i (r)), am_I (be_i (be_b p)), am_I (be_i (w)), am_I (be_i (z))] [] (am_sd a b u e f) = some (some (am_I (be_i ((be_un e (be_g e 50 3) r p (be_q e).toNat : Int)))), (am_sd a b u e f)) := by
    intro n
    induction n with
    | zero =>
      rintro k w z hk rfl rfl
      obtain rfl : k = (be_q e).toNat := hk
      rw [am_b47_5]
      simp (disch := (first | assumption | omega | exact (be_gB _ _ _).1 | exact (be_gB _ _ _).2)) only [be_ofI, ↓be_ofN, ↓be_0, be_add, be_sub, be_mul, be_neg, be_rem, be_bi, be_bl, be_bv, be_br, be_bE0, be_bE1, be_b1E, be_b0E, be_bkb, be_cast, Int.toNat_natCast, Int.reduceToNat, be_lt, be_le, be_eq, be_nt, be_ck, be_nz, be_bk, be_div, be_m33, am_b47_11]
      rw [if_pos (by omega)]
    | succ n ih =>
      rintro k w z hk rfl rfl
      rw [am_b47_5]
      obtain ⟨hS1, hS2⟩ := be_SB e hW (be_g e 50 3) r k
      simp (disch := (first | assumption | omega | exact (be_gB _ _ _).1 | exact (be_gB _ _ _).2)) only [be_ofI, ↓be_ofN, ↓be_0, be_add, be_sub, be_mul, be_neg, be_rem, be_bi, be_bl, be_bv, be_br, be_bE0, be_bE1, be_b1E, be_b0E, be_bkb, be_cast, Int.toNat_natCast, Int.reduceToNat, be_lt, be_le, be_eq, be_nt, be_ck, be_nz, be_bk, be_div, be_m33, be_m43, be_m44, am_b47_11, am_b47_22, am_b47_32]
      rw [if_neg (by omega)]
      have hs : be_un e (be_g e 50 3) r p (k + 1) = be_un e (be_g e 50 3) r p k + (bif be_un1 e (be_g e 50 3) r p k then 1 else 0) := rfl
      unfold be_un1 at hs
      repeat' split
      all_goals (refine ih (k + 1) _ _ (by omega) (by omega) ?_; rw [hs]; clear hs; cases p <;> simp_all <;> done)
  exact key _ 0 _ _ (Nat.zero_add _) rfl rfl
theorem be_m48 (hd : 9 ≤ d) (hW : be_W e) (hT : be_T2 e) {p : Bool} : am_sem X d 48 [.inr (50, 0), am_I (be_i (be_b p))] (am_sd a b u e f) = some (some (am_I (be_i ((be_au e (be_g e 50 3) p (be_nr e) : Int)))), (am_sd a b u e f)) := by
  obtain ⟨d, rfl⟩ : ∃ q, d = q + 1 := ⟨d - 1, by omega⟩
  have he := be_gI e
  obtain ⟨hn, hn2⟩ := be_nrR hW
  rw [am_s48]
  have key : ∀ (n k : Nat) (w z : Int), k + n = be_nr e → z = (k : Int) → w = (be_au e (be_g e 50 3) p k : Int) → am_fix (am_sem X d) X am_P48 4 [.inr (50, 0), am_I (be_i (be_b p)), am_I (be_i (w)), am_I (be_i (z))] [] (am_sd a b u e f) = some (some (am_I (be_i ((be_au e (be_g e 50 3) p (be_nr e) : Int)))), (am_sd a b u e f)) := by
    intro n
    induction n with
    | zero =>
      rintro k w z hk rfl rfl
      obtain rfl : k = be_nr e := hk
      rw [am_b48_4]
      simp (disch := (first | assumption | omega | exact (be_gB _ _ _).1 | exact (be_gB _ _ _).2)) only [be_ofI, ↓be_ofN, ↓be_0, be_add, be_sub, be_mul, be_neg, be_rem, be_bi, be_bl, be_bv, be_br, be_bE0, be_bE1, be_b1E, be_b0E, be_bkb, be_cast, Int.toNat_natCast, Int.reduceToNat, be_lt, be_le, be_eq, be_nt, be_ck, be_nz, be_bk, be_div, he]
      rw [if_pos (by omega)]
    | succ n ih =>
      rintro k w z hk rfl rfl
      rw [am_b48_4]
      simp (disch := (first | assumption | omega | exact (be_gB _ _ _).1 | exact (be_gB _ _ _).2)) only [be_ofI, ↓be_ofN, ↓be_0, be_add, be_sub, be_mul, be_neg, be_rem, be_bi, be_bl, be_bv, be_br, be_bE0, be_bE1, be_b1E, be_b0E, be_bkb, be_cast, Int.toNat_natCast, Int.reduceToNat, be_lt, be_le, be_eq, be_nt, be_ck, be_nz, be_bk, be_div, he, be_m47, am_b48_19]
      rw [if_neg (by omega)]
      refine ih (k + 1) _ _ (by omega) (by omega) ?_
      rw [be_au]; omega
  exact key _ 0 _ _ (Nat.zero_add _) rfl rfl
