/-! WORTH, in the class: what waits stands in the bits of an int -/
variable {d : Nat} {X : am_X} {a : Nat → Nat → Nat → Int32} {b : Nat → Nat → Nat → Int64} {u : Nat → Nat} {e : Nat → Nat → Nat → Int32} {f : Nat → Nat → Nat → Int64}
def be_x (w : Int32) (j : Nat) : Bool := w.toBitVec.getLsbD j
theorem be_x_or (v w : Int32) (j : Nat) : be_x (v ||| w) j = (be_x v j || be_x w j) := by unfold be_x; rw [Int32.toBitVec_or, BitVec.getLsbD_or]
theorem be_x_and (v w : Int32) (j : Nat) : be_x (v &&& w) j = (be_x v j && be_x w j) := by unfold be_x; rw [Int32.toBitVec_and, BitVec.getLsbD_and]
theorem be_x_xor (v w : Int32) (j : Nat) : be_x (v ^^^ w) j = (be_x v j ^^ be_x w j) := by unfold be_x; rw [Int32.toBitVec_xor, BitVec.getLsbD_xor]
theorem be_x_1 : ∀ j, j < 32 → be_x (be_i 1) j = decide (j = 0) := by decide +kernel
theorem be_x_0 : ∀ j, j < 32 → be_x (be_i 0) j = false := by decide +kernel
theorem be_x_2 : ∀ j, j < 32 → be_x (be_i (-2)) j = decide (1 ≤ j) := by decide +kernel
theorem be_x_b (v : Bool) {j : Nat} (hj : j < 32) : be_x (be_i (be_b v)) j = (decide (j = 0) && v) := by
  cases v
  · show be_x (be_i 0) j = _
    rw [be_x_0 j hj, Bool.and_false]
  · show be_x (be_i 1) j = _
    rw [be_x_1 j hj, Bool.and_true]
theorem be_x_shl (w : Int32) {j : Nat} (hj : j < 32) : be_x (w <<< (be_i 1 &&& be_i 31)) j = (decide (1 ≤ j) && be_x w (j - 1)) := by
  unfold be_x
  rw [Int32.toBitVec_shiftLeft]
  show (w.toBitVec <<< ((be_i 1 &&& be_i 31).toBitVec.smod 32).toNat).getLsbD j = _
  rw [show ((be_i 1 &&& be_i 31).toBitVec.smod 32).toNat = 1 by decide +kernel, BitVec.getLsbD_shiftLeft]
  rcases Nat.lt_or_ge j 1 with h | h
  · simp [h, Nat.not_le.mpr h]
  · simp [hj, h, Nat.not_lt.mpr h]
theorem be_x_shr (w : Int32) {j : Nat} (hj : j < 31) : be_x (w >>> (be_i 1 &&& be_i 31)) j = be_x w (j + 1) := by
  unfold be_x
  rw [Int32.toBitVec_shiftRight]
  show (w.toBitVec.sshiftRight ((be_i 1 &&& be_i 31).toBitVec.smod 32).toNat).getLsbD j = _
  rw [show ((be_i 1 &&& be_i 31).toBitVec.smod 32).toNat = 1 by decide +kernel, BitVec.getLsbD_sshiftRight]
  have h1 : 1 + j < 32 := by omega
  rw [Nat.add_comm j 1]
  simp [h1, show j < 32 by omega]
theorem be_x_eq0 (w : Int32) : (w &&& be_i 1 = be_i 0) = (be_x w 0 = false) := by
  apply propext
  constructor
  · intro h
    have this : be_x (w &&& be_i 1) 0 = be_x (be_i 0) 0 := by rw [h]
    rw [be_x_and, be_x_1 0 (by decide), be_x_0 0 (by decide), decide_eq_true rfl, Bool.and_true] at this
    exact this
  · intro h
    apply Int32.toBitVec_inj.1
    apply BitVec.eq_of_getLsbD_eq
    intro j hj
    show be_x (w &&& be_i 1) j = be_x (be_i 0) j
    rw [be_x_and, be_x_1 j hj, be_x_0 j hj]
    by_cases hz : j = 0
    · subst hz; rw [h]; rfl
    · rw [decide_eq_false hz, Bool.and_false]
theorem be_ub {α : Type} (P : Nat → α) (k : Nat) (v : α) (j : Nat) : am_u P k v j = if j = k then v else P j := by
  unfold am_u
  by_cases h : j = k
  · subst h; rw [Nat.beq_refl]; simp
  · have hb : Nat.beq j k = false := by rw [← Bool.not_eq_true]; intro q; exact h (Nat.eq_of_beq_eq_true q)
    rw [hb]; simp [h]
def be_enc (t : Int) : Int := if t = -33 then -1 else if t = -38 then -2 else if t = -124 then -3 else (t / 1000 * 3 + t / 100 % 10) * 100 + t % 100
/-- the numbers that an hour and a room of the class are asked for -/
def be_NR (a : Nat → Nat → Nat → Int32) (x z : Nat) (g : Nat → Int) : Prop :=
  a 1 x 0 = be_i (g 0) ∧ a 5 z 0 = be_i (g 1) ∧ a 1 x 1 = be_i (g 2) ∧ a 1 x 2 = be_i (g 3) ∧ a 1 x 5 = be_i (g 4) ∧ a 5 z 1 = be_i (g 5)
theorem be_m166 (hd : 1 ≤ d) {x z : Nat} {g : Nat → Int} (hN : be_NR a x z g) {f' : Int} (h1 : 0 ≤ f') (h2 : f' ≤ 9) : am_sem X d 166 [am_I (be_i (f')), .inr (1, x), .inr (5, z)] (am_sd a b u e f) = some (some (am_I (be_i (be_sel g f'))), (am_sd a b u e f)) := by
  obtain ⟨d, rfl⟩ : ∃ q, d = q + 1 := ⟨d - 1, by omega⟩
  obtain ⟨e0, e1, e2, e3, e4, e5⟩ := hN
  rw [am_s166]
  simp (disch := (first | assumption | omega | exact (be_gB _ _ _).1 | exact (be_gB _ _ _).2)) only [be_ofI, ↓be_ofN, ↓be_0, be_add, be_sub, be_mul, be_neg, be_rem, be_bi, be_bl, be_bv, be_br, be_bE0, be_bE1, be_b1E, be_b0E, be_bkb, be_cast, Int.toNat_natCast, Int.reduceToNat, be_lt, be_le, be_eq, be_nt, be_ck, be_nz, be_bk, be_div, e0, e1, e2, e3, e4, e5]
  unfold be_sel
  repeat' split
  all_goals first | rfl | omega
theorem be_m165 (hd : 1 ≤ d) {t v : Int} {g : Nat → Int} (h1 : 0 ≤ t) (h2 : t < 6000) (h3 : t / 100 % 10 ≤ 2) (hv : v = be_sel g (t / 1000)) (hv1 : 0 ≤ v) (hv2 : v ≤ 99) :
    am_sem X d 165 [am_I (be_i ((t / 1000 * 3 + t / 100 % 10) * 100 + t % 100)), am_I (be_i (v))] (am_sd a b u e f) = some (some (am_I (be_i (be_b (be_tt g t)))), (am_sd a b u e f)) := by
  obtain ⟨d, rfl⟩ : ∃ q, d = q + 1 := ⟨d - 1, by omega⟩
  have e1 : ((t / 1000 * 3 + t / 100 % 10) * 100 + t % 100) / 100 % 3 = t / 100 % 10 := by omega
  have e2 : ((t / 1000 * 3 + t / 100 % 10) * 100 + t % 100) % 100 = t % 100 := by omega
  rw [am_s165]
  simp (disch := (first | assumption | omega | exact (be_gB _ _ _).1 | exact (be_gB _ _ _).2)) only [be_ofI, ↓be_ofN, ↓be_0, be_add, be_sub, be_mul, be_neg, be_rem, be_bi, be_bl, be_bv, be_br, be_bE0, be_bE1, be_b1E, be_b0E, be_bkb, be_cast, Int.toNat_natCast, Int.reduceToNat, be_lt, be_le, be_eq, be_nt, be_ck, be_nz, be_bk, be_div, e1, e2]
  have htt : be_tt g t = (if t / 100 % 10 = 0 then decide (v < t % 100) else if t / 100 % 10 = 1 then decide (v = t % 100) else decide (t % 100 < v)) := by rw [hv]; rfl
  rw [htt]
  by_cases c0 : t / 100 % 10 = 0
  · simp only [c0, not_true_eq_false, if_true, if_false]
    (repeat' split) <;> first | rfl | omega | (rw [decide_eq_true (by omega)]; rfl) | (rw [decide_eq_false (by omega)]; rfl)
  · by_cases c1 : t / 100 % 10 = 1
    · simp only [c1, not_true_eq_false, not_false_eq_true, if_true, if_false, Int.reduceEq]
      (repeat' split) <;> first | rfl | omega | (rw [decide_eq_true (by omega)]; rfl) | (rw [decide_eq_false (by omega)]; rfl)
    · simp only [c0, c1, not_false_eq_true, if_true, if_false]
      (repeat' split) <;> first | rfl | omega | (rw [decide_eq_true (by omega)]; rfl) | (rw [decide_eq_false (by omega)]; rfl)
theorem be_m164 (hd : 2 ≤ d) {x z o s s' m : Nat} {g t : Nat → Int} (hN : be_NR a x z g) (hg : ∀ j, 0 ≤ g j ∧ g j ≤ 99) (hm : s' + m ≤ 100) (hwf : be_wf t s m) (h1m : be_dp t s m = 1) (hc : ∀ k, k < m → a 16 o (s' + k) = be_i (be_enc (t (s + k)))) :
    am_sem X d 164 [.inr (3, o), am_I (be_i ((s' : Int))), am_I (be_i (((s' + m : Nat) : Int))), .inr (1, x), .inr (5, z)] (am_sd a b u e f) = some (some (am_I (be_i (be_b (be_vl g t s m 0)))), (am_sd a b u e f)) := by
  obtain ⟨d, rfl⟩ : ∃ q, d = q + 1 := ⟨d - 1, by omega⟩
  have key : ∀ (n k : Nat) (w : Int32) (z7 : am_V) (y : Int), k + n = m → y = ((s' + k : Nat) : Int) → (∀ j, j < be_dp t s k → be_x w j = be_vl g t s k (be_dp t s k - 1 - j)) →
      am_fix (am_sem X d) X am_P164 6 [.inr (3, o), am_I (be_i ((s' : Int))), am_I (be_i (((s' + m : Nat) : Int))), .inr (1, x), .inr (5, z), am_I w, am_I (be_i (y)), z7] [] (am_sd a b u e f) = some (some (am_I (be_i (be_b (be_vl g t s m 0)))), (am_sd a b u e f)) := by
    intro n
    induction n with
    | zero =>
      rintro k w z7 y hk rfl hw
      obtain rfl : k = m := hk
      have h0 := hw 0 (by omega)
      rw [am_b164_6]
      simp (disch := (first | assumption | omega | exact (be_gB _ _ _).1 | exact (be_gB _ _ _).2)) only [be_ofI, ↓be_ofN, ↓be_0, be_add, be_sub, be_mul, be_neg, be_rem, be_bi, be_bl, be_bv, be_br, be_bE0, be_bE1, be_b1E, be_b0E, be_bkb, be_cast, Int.toNat_natCast, Int.reduceToNat, be_lt, be_le, be_eq, be_nt, be_ck, be_nz, be_bk, be_div, be_x_eq0]
      rw [if_pos (by omega), h0, h1m]
      show (if be_vl g t s k 0 = false then _ else _) = _
      cases be_vl g t s k 0 <;> rfl
    | succ n ih =>
      rintro k w z7 y hk rfl hw
      have hcc := hc k (by omega)
      have hd5 := be_dp_le hwf k (by omega)
      rw [am_b164_6]
      rcases hwf k (by omega) with ⟨ht, hp⟩ | ⟨ht, hp⟩ | ⟨t1, t2, t3, hp⟩
      · have hv : be_vl g t s (k + 1) = am_u (be_vl g t s k) (be_dp t s k - 1) (!be_vl g t s k (be_dp t s k - 1)) := by rw [be_vl, if_pos ht]
        have hdd : be_dp t s (k + 1) = be_dp t s k := by rw [be_dp, if_pos ht]
        have hen : be_enc (t (s + k)) = -1 := by unfold be_enc; rw [if_pos ht]
        rw [hen] at hcc
        simp (disch := (first | assumption | omega | exact (be_gB _ _ _).1 | exact (be_gB _ _ _).2)) only [be_ofI, ↓be_ofN, ↓be_0, be_add, be_sub, be_mul, be_neg, be_rem, be_bi, be_bl, be_bv, be_br, be_bE0, be_bE1, be_b1E, be_b0E, be_bkb, be_cast, Int.toNat_natCast, Int.reduceToNat, be_lt, be_le, be_eq, be_nt, be_ck, be_nz, be_bk, be_div, not_true_eq_false, not_false_eq_true, if_true, if_false, eq_self, Int.reduceEq, Int.reduceLT, Int.reduceLE, hcc]
        rw [if_neg (by omega)]
        refine ih (k + 1) _ _ _ (by omega) (by omega) fun j hj => ?_
        rw [hdd] at hj
        rw [be_x_xor, be_x_1 j (by omega), hw j hj, hv, hdd, be_ub]
        by_cases hz : j = 0
        · subst hz; rw [decide_eq_true rfl, if_pos (by omega), Bool.xor_true, Nat.sub_zero]
        · rw [decide_eq_false hz, if_neg (by omega), Bool.xor_false]
      · have hdd : be_dp t s (k + 1) = be_dp t s k - 1 := by rw [be_dp, if_neg (by omega), if_pos (by omega)]
        rcases ht with ht | ht
        · have hv : be_vl g t s (k + 1) = am_u (be_vl g t s k) (be_dp t s k - 2) (be_vl g t s k (be_dp t s k - 2) && be_vl g t s k (be_dp t s k - 1)) := by rw [be_vl, if_neg (by omega), if_pos ht]
          have hen : be_enc (t (s + k)) = -2 := by unfold be_enc; rw [if_neg (by omega), if_pos ht]
          rw [hen] at hcc
          simp (disch := (first | assumption | omega | exact (be_gB _ _ _).1 | exact (be_gB _ _ _).2)) only [be_ofI, ↓be_ofN, ↓be_0, be_add, be_sub, be_mul, be_neg, be_rem, be_bi, be_bl, be_bv, be_br, be_bE0, be_bE1, be_b1E, be_b0E, be_bkb, be_cast, Int.toNat_natCast, Int.reduceToNat, be_lt, be_le, be_eq, be_nt, be_ck, be_nz, be_bk, be_div, not_true_eq_false, not_false_eq_true, if_true, if_false, eq_self, Int.reduceEq, Int.reduceLT, Int.reduceLE, hcc, be_31]
          rw [if_neg (by omega)]
          refine ih (k + 1) _ _ _ (by omega) (by omega) fun j hj => ?_
          rw [hdd] at hj
          rw [be_x_and, be_x_or, be_x_2 j (by omega), be_x_shr w (by omega), hw (j + 1) (by omega), hw j (by omega), hv, hdd, be_ub]
          by_cases hz : j = 0
          · subst hz; rw [if_pos (by omega), show decide (1 ≤ 0) = false from rfl, Bool.or_false]
            congr 2
          · rw [decide_eq_true (by omega), if_neg (by omega), Bool.or_true, Bool.and_true]
            congr 1; omega
        · have hv : be_vl g t s (k + 1) = am_u (be_vl g t s k) (be_dp t s k - 2) (be_vl g t s k (be_dp t s k - 2) || be_vl g t s k (be_dp t s k - 1)) := by rw [be_vl, if_neg (by omega), if_neg (by omega), if_pos (by omega)]
          have hen : be_enc (t (s + k)) = -3 := by unfold be_enc; rw [if_neg (by omega), if_neg (by omega), if_pos ht]
          rw [hen] at hcc
          simp (disch := (first | assumption | omega | exact (be_gB _ _ _).1 | exact (be_gB _ _ _).2)) only [be_ofI, ↓be_ofN, ↓be_0, be_add, be_sub, be_mul, be_neg, be_rem, be_bi, be_bl, be_bv, be_br, be_bE0, be_bE1, be_b1E, be_b0E, be_bkb, be_cast, Int.toNat_natCast, Int.reduceToNat, be_lt, be_le, be_eq, be_nt, be_ck, be_nz, be_bk, be_div, not_true_eq_false, not_false_eq_true, if_true, if_false, eq_self, Int.reduceEq, Int.reduceLT, Int.reduceLE, hcc, be_31]
          rw [if_neg (by omega)]
          refine ih (k + 1) _ _ _ (by omega) (by omega) fun j hj => ?_
          rw [hdd] at hj
          rw [be_x_or, be_x_and, be_x_1 j (by omega), be_x_shr w (by omega), hw (j + 1) (by omega), hw j (by omega), hv, hdd, be_ub]
          by_cases hz : j = 0
          · subst hz; rw [if_pos (by omega), decide_eq_true rfl, Bool.and_true]
            congr 2
          · rw [decide_eq_false hz, if_neg (by omega), Bool.and_false, Bool.or_false]
            congr 1; omega
      · have hv : be_vl g t s (k + 1) = am_u (be_vl g t s k) (be_dp t s k) (be_tt g (t (s + k))) := by rw [be_vl, if_neg (by omega), if_neg (by omega), if_neg (by omega)]
        have hdd : be_dp t s (k + 1) = be_dp t s k + 1 := by rw [be_dp, if_neg (by omega), if_neg (by omega)]
        have hen : be_enc (t (s + k)) = (t (s + k) / 1000 * 3 + t (s + k) / 100 % 10) * 100 + t (s + k) % 100 := by unfold be_enc; rw [if_neg (by omega), if_neg (by omega), if_neg (by omega)]
        rw [hen] at hcc
        have hs := be_selR hg (t (s + k) / 1000)
        have e1 : ((t (s + k) / 1000 * 3 + t (s + k) / 100 % 10) * 100 + t (s + k) % 100) / 100 / 3 = t (s + k) / 1000 := by omega
        have h65 := be_m165 (X := X) (a := a) (b := b) (u := u) (e := e) (f := f) (d := d) (t := t (s + k)) (v := be_sel g (t (s + k) / 1000)) (g := g) (by omega) t1 t2 t3 rfl hs.1 hs.2
        have h66 := be_m166 (X := X) (b := b) (u := u) (e := e) (f := f) (d := d) (f' := t (s + k) / 1000) (by omega) hN (by omega) (by omega)
        simp (disch := (first | assumption | omega | exact (be_gB _ _ _).1 | exact (be_gB _ _ _).2)) only [be_ofI, ↓be_ofN, ↓be_0, be_add, be_sub, be_mul, be_neg, be_rem, be_bi, be_bl, be_bv, be_br, be_bE0, be_bE1, be_b1E, be_b0E, be_bkb, be_cast, Int.toNat_natCast, Int.reduceToNat, be_lt, be_le, be_eq, be_nt, be_ck, be_nz, be_bk, be_div, hcc, be_31, e1]
        rw [if_neg (by omega), if_pos (by omega), if_pos (by omega), if_pos (by omega)]
        simp (disch := (first | assumption | omega | exact (be_gB _ _ _).1 | exact (be_gB _ _ _).2)) only [be_ofI, ↓be_ofN, ↓be_0, be_add, be_sub, be_mul, be_neg, be_rem, be_bi, be_bl, be_bv, be_br, be_bE0, be_bE1, be_b1E, be_b0E, be_bkb, be_cast, Int.toNat_natCast, Int.reduceToNat, be_lt, be_le, be_eq, be_nt, be_ck, be_nz, be_bk, be_div, h65, h66, be_m252, am_b164_98, am_b164_101, am_b164_104]
        refine ih (k + 1) _ _ _ (by omega) (by omega) fun j hj => ?_
        rw [hdd] at hj
        rw [be_x_or, be_x_shl w (by omega), be_x_b _ (by omega), hv, hdd, be_ub]
        by_cases hz : j = 0
        · subst hz; rw [if_pos (by omega), decide_eq_true rfl, Bool.true_and, show decide (1 ≤ 0) = false from rfl, Bool.false_and, Bool.false_or]
        · rw [decide_eq_false hz, if_neg (by omega), Bool.false_and, Bool.or_false, decide_eq_true (by omega), Bool.true_and, hw (j - 1) (by omega)]
          congr 1; omega
  rw [am_s164]
  exact key m 0 _ _ _ (Nat.zero_add _) rfl (fun j hj => absurd hj (Nat.not_lt_zero _))
def be_wn (e : Nat → Nat → Nat → Int32) (f : Nat) : Nat → Nat
  | 0 => 0
  | k + 1 => be_wn e f k + (if be_g e 61 (10 * f + k) < 2 then 1 else 0)
theorem be_wn_le (e : Nat → Nat → Nat → Int32) (f : Nat) : ∀ k, be_wn e f k ≤ k
  | 0 => Nat.le_refl _
  | k + 1 => by
    have := be_wn_le e f k
    rw [be_wn]
    split <;> omega
theorem be_wn_mono (e : Nat → Nat → Nat → Int32) (f : Nat) {k : Nat} : ∀ {n : Nat}, k ≤ n → be_wn e f k ≤ be_wn e f n
  | 0, h => by rw [show k = 0 by omega]; exact Nat.le_refl _
  | n + 1, h => by
    by_cases hk : k = n + 1
    · rw [hk]; exact Nat.le_refl _
    · have := be_wn_mono e f (k := k) (n := n) (by omega)
      rw [be_wn]; omega
/-- the class's office o says the wishes of the reference's office f -/
def be_OW (a : Nat → Nat → Nat → Int32) (o : Nat) (e : Nat → Nat → Nat → Int32) (f n : Nat) : Prop :=
  a 3 o 2 = be_i (be_wn e f n : Int) ∧ (∀ k, k < n → be_g e 61 (10 * f + k) < 2 → a 14 o (be_wn e f k) = be_i (if be_g e 61 (10 * f + k) = 0 then be_g e 62 (10 * f + k) else -be_g e 62 (10 * f + k)) ∧ a 15 o (be_wn e f k) = be_i (be_pos e f (k + 1) : Int)) ∧
  ∀ j, j < be_pos e f n → a 16 o j = be_i (be_enc (be_g e 65 (100 * f + j)))
theorem be_pos_mono {f : Nat} (hO : be_OF e f) {k : Nat} : ∀ {n : Nat}, k ≤ n → n ≤ (be_g e 60 f).toNat → be_pos e f k ≤ be_pos e f n
  | 0, h, _ => by rw [show k = 0 by omega]; exact Nat.le_refl _
  | n + 1, h, hn => by
    by_cases hk : k = n + 1
    · rw [hk]; exact Nat.le_refl _
    · have h1 := be_pos_mono hO (k := k) (n := n) (by omega) (by omega)
      by_cases hw : be_g e 61 (10 * f + n) < 2
      · have := ((hO.2.2 n (by omega)).2.2.2.2 hw).2.2.1
        omega
      · rw [be_pos, if_neg hw]; exact h1
theorem be_m163 (hd : 3 ≤ d) {x z o f' : Nat} {g : Nat → Int} (hN : be_NR a x z g) (hg : ∀ j, 0 ≤ g j ∧ g j ≤ 99) {n0 : Nat} (hn : n0 = 0 ∨ (be_OF e f' ∧ n0 = (be_g e 60 f').toNat ∧ n0 ≤ 10)) (hW : be_OW a o e f' n0) :
    am_sem X d 163 [.inr (3, o), .inr (1, x), .inr (5, z)] (am_sd a b u e f) = some (some (am_I (be_i (max (be_wsum e g f' n0) 0))), (am_sd a b u e f)) := by
  obtain ⟨d, rfl⟩ : ∃ q, d = q + 1 := ⟨d - 1, by omega⟩
  have hbd : ∀ k, k ≤ n0 → -1000 ≤ be_wsum e g f' k ∧ be_wsum e g f' k ≤ 1010 := by
    intro k hk
    rcases hn with n3 | ⟨n3, n4, n5⟩
    · obtain rfl : k = 0 := by omega
      rw [be_wsum]; omega
    · have := be_wsumR n3 g k (by omega)
      omega
  have hn10 : n0 ≤ 10 := by omega
  obtain ⟨w1, w2, w3⟩ := hW
  have key : ∀ (n k : Nat) (w y v : Int), k + n = n0 → v = be_wsum e g f' k → y = (be_pos e f' k : Int) → w = (be_wn e f' k : Int) →
      am_fix (am_sem X d) X am_P163 9 [.inr (3, o), .inr (1, x), .inr (5, z), am_I (be_i (v)), am_I (be_i (y)), am_I (be_i (w))] [] (am_sd a b u e f) = some (some (am_I (be_i (max (be_wsum e g f' n0) 0))), (am_sd a b u e f)) := by
    intro n
    induction n with
    | zero =>
      rintro k w y v hk rfl rfl rfl
      obtain rfl : k = n0 := hk
      have hb := hbd k (by omega)
      have hle := be_wn_le e f' k
      rw [am_b163_9]
      simp (disch := (first | assumption | omega | exact (be_gB _ _ _).1 | exact (be_gB _ _ _).2)) only [be_ofI, ↓be_ofN, ↓be_0, w1, be_le]
      rw [if_pos (by omega), be_maxI (by omega) (by omega)]
    | succ n ih =>
      rintro k w y v hk rfl rfl rfl
      have hb := hbd k (by omega)
      have hle := be_wn_le e f' k
      rcases hn with n3 | ⟨hO, n4, n5⟩
      · omega
      have hs : be_wsum e g f' (k + 1) = be_wsum e g f' k + (if be_g e 61 (10 * f' + k) < 2 ∧ be_wv e g f' k = true then (if be_g e 61 (10 * f' + k) = 0 then be_g e 62 (10 * f' + k) else -be_g e 62 (10 * f' + k)) else 0) := rfl
      by_cases hw : be_g e 61 (10 * f' + k) < 2
      · obtain ⟨c1, c2, c3, c4, c5⟩ := hO.2.2 k (by omega)
        obtain ⟨v1, v2, v3, v4, v5, v6⟩ := c5 hw
        obtain ⟨q1, q2⟩ := w2 k (by omega) hw
        have hwn : be_wn e f' (k + 1) = be_wn e f' k + 1 := by rw [be_wn, if_pos hw]
        have hle2 := be_wn_mono e f' (k := k + 1) (n := n0) (by omega)
        have hle3 := be_wn_le e f' n0
        have hpm := be_pos_mono hO (k := k + 1) (n := n0) (by omega) (by omega)
        have hso := be_m164 (X := X) (a := a) (b := b) (u := u) (e := e) (f := f) (d := d) (x := x) (z := z) (o := o) (s := 100 * f' + be_pos e f' k) (s' := be_pos e f' k) (m := be_pos e f' (k + 1) - be_pos e f' k) (g := g) (t := be_g e 65) (by omega) hN hg (by omega) v5 v6
          (fun j hj => by rw [w3 _ (by omega), Nat.add_assoc])
        rw [show be_pos e f' k + (be_pos e f' (k + 1) - be_pos e f' k) = be_pos e f' (k + 1) by omega] at hso
        have hwv : be_vl g (be_g e 65) (100 * f' + be_pos e f' k) (be_pos e f' (k + 1) - be_pos e f' k) 0 = be_wv e g f' k := rfl
        rw [hwv] at hso
        rw [am_b163_9]
        simp (disch := (first | assumption | omega | exact (be_gB _ _ _).1 | exact (be_gB _ _ _).2)) only [be_ofI, ↓be_ofN, ↓be_0, be_add, be_sub, be_mul, be_neg, be_rem, be_bi, be_bl, be_bv, be_br, be_bE0, be_bE1, be_b1E, be_b0E, be_bkb, be_cast, Int.toNat_natCast, Int.reduceToNat, be_lt, be_le, be_eq, be_nt, be_ck, be_nz, be_bk, be_div, w1, q1, q2, hso, am_b163_33]
        rw [if_neg (by omega)]
        split
        · rename_i hq
          rw [if_neg (fun p => by rw [hq] at p; exact absurd p.2 (by decide))] at hs
          exact ih (k + 1) _ _ _ (by omega) (by omega) rfl (by omega)
        · rename_i hq
          rw [if_pos ⟨hw, eq_true_of_ne_false hq⟩] at hs
          exact ih (k + 1) _ _ _ (by omega) (by omega) rfl (by omega)
      · rw [if_neg (fun q => hw q.1)] at hs
        have hwn : be_wn e f' (k + 1) = be_wn e f' k := by rw [be_wn, if_neg hw]; rfl
        have hp : be_pos e f' (k + 1) = be_pos e f' k := by rw [be_pos, if_neg hw]
        exact ih (k + 1) _ _ _ (by omega) (by omega) (by rw [hp]) (by rw [hwn])
  rw [am_s163]
  exact key n0 0 _ _ _ (Nat.zero_add _) rfl rfl rfl
