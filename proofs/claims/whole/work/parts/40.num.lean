/-! NUMBERS: every int is be_i of a whole number; what the machine does with them, said of whole numbers -/
theorem be_cast (n : Nat) : ((OfNat.ofNat n : Nat) : Int) = (OfNat.ofNat n : Int) := rfl
theorem be_ofI (x : Int) : Int32.ofInt x = be_i x := rfl
theorem be_ofN (k : Nat) : Int32.ofNat k = be_i (k : Int) := Int32.ofInt_eq_ofNat.symm
theorem be_0 : (0 : Int32) = be_i 0 := rfl
theorem be_1 : (1 : Int32) = be_i 1 := rfl
theorem be_31 : (31 : Int32) = be_i 31 := rfl
theorem be_add (a b : Int) : be_i a + be_i b = be_i (a + b) := (Int32.ofInt_add a b).symm
theorem be_sub (a b : Int) : be_i a - be_i b = be_i (a - b) := (Int32.ofInt_sub a b).symm
theorem be_mul (a b : Int) : be_i a * be_i b = be_i (a * b) := (Int32.ofInt_mul a b).symm
theorem be_neg (a : Int) : -be_i a = be_i (-a) := (Int32.ofInt_neg a).symm
theorem be_ti {x : Int} (h1 : -2147483648 ≤ x) (h2 : x < 2147483648) : (be_i x).toInt = x := Int32.toInt_ofInt_of_le h1 h2
theorem be_lt {x y : Int} (h1 : -2147483648 ≤ x) (h2 : x < 2147483648) (h3 : -2147483648 ≤ y) (h4 : y < 2147483648) : (be_i x < be_i y) = (x < y) := by
  rw [Int32.lt_iff_toInt_lt, be_ti h1 h2, be_ti h3 h4]
theorem be_le {x y : Int} (h1 : -2147483648 ≤ x) (h2 : x < 2147483648) (h3 : -2147483648 ≤ y) (h4 : y < 2147483648) : (be_i x ≤ be_i y) = (x ≤ y) := by
  rw [Int32.le_iff_toInt_le, be_ti h1 h2, be_ti h3 h4]
theorem be_eq {x y : Int} (h1 : -2147483648 ≤ x) (h2 : x < 2147483648) (h3 : -2147483648 ≤ y) (h4 : y < 2147483648) : (be_i x = be_i y) = (x = y) := by
  rw [← Int32.toInt_inj, be_ti h1 h2, be_ti h3 h4]
theorem be_nt {x : Int} (h1 : -2147483648 ≤ x) (h2 : x < 2147483648) : (be_i x).toNatClampNeg = x.toNat := Int32.toNatClampNeg_ofInt_of_le h1 h2
theorem be_ntN {k : Nat} (h2 : k < 2147483648) : (be_i (k : Int)).toNatClampNeg = k := by
  rw [be_nt (by omega) (by omega)]; rfl
theorem be_ex (x : Int32) : ∃ z : Int, x = be_i z ∧ -2147483648 ≤ z ∧ z < 2147483648 := ⟨x.toInt, (Int32.ofInt_toInt x).symm, Int32.le_toInt x, Int32.toInt_lt x⟩
theorem be_ck {x : Int} {n : Nat} {r : am_R} (h0 : 0 ≤ x) (h1 : x < (n : Int)) (h2 : (n : Int) ≤ 2147483647) : am_ck (be_i x) n r = r := by
  refine if_neg ?_
  rw [be_0, be_lt (by omega) (by omega) (by decide) (by decide), be_nt (by omega) (by omega)]
  omega
theorem be_div {x y : Int} (h1 : 0 ≤ x) (h2 : x < 2147483648) (h3 : 0 < y) (h4 : y < 2147483648) : be_i x / be_i y = be_i (x / y) := by
  have hq : 0 ≤ x / y := Int.ediv_nonneg h1 (by omega)
  have hq2 : x / y ≤ x := Int.ediv_le_self y h1
  apply Int32.toInt_inj.1
  rw [Int32.toInt_div_of_ne_right, be_ti (by omega) h2, be_ti (by omega) h4, be_ti (by omega) (by omega), Int.tdiv_eq_ediv_of_nonneg h1]
  intro h
  have := congrArg Int32.toInt h
  rw [be_ti (by omega) h4] at this
  have h5 : (-1 : Int32).toInt = -1 := rfl
  omega
theorem be_rem (x y : Int) : x - x / y * y = x % y := by rw [Int.emod_def, Int.mul_comm]
theorem be_nz {x : Int} {r : am_R} (h : x ≠ 0) (h1 : -2147483648 ≤ x) (h2 : x < 2147483648) : am_nz (be_i x) r = r := by
  refine if_neg ?_
  rw [be_0, be_eq h1 h2 (by decide) (by decide)]
  exact h
theorem be_bk {x : Int} {r : am_R} (h : x = 0 ∨ x = 1) : am_bk (be_i x) r = r := by
  rcases h with rfl | rfl
  · exact if_pos (Or.inl rfl)
  · exact if_pos (Or.inr rfl)
/-! what a call comes to -/
theorem be_bi (x : Int32) (σ : am_S) (f : Int32 → am_S → am_R) : am_bi (some (some (am_I x), σ)) f = f x σ := rfl
theorem be_bl (x : Int64) (σ : am_S) (f : Int64 → am_S → am_R) : am_bl (some (some (am_J x), σ)) f = f x σ := rfl
theorem be_bv (σ : am_S) (f : am_S → am_R) : am_bv (some (none, σ)) f = f σ := rfl
theorem be_br (c i : Nat) (σ : am_S) (f : Nat → Nat → am_S → am_R) : am_br (some (some (.inr (c, i)), σ)) f = f c i σ := rfl
/-! truth -/
def be_b (p : Bool) : Int := bif p then 1 else 0
theorem be_bR (p : Bool) : 0 ≤ be_b p ∧ be_b p ≤ 1 := by cases p <;> decide
theorem be_bT : be_b true = 1 := rfl
theorem be_bF : be_b false = 0 := rfl
theorem be_b0 (p : Bool) : (be_b p = 0) = (p = false) := by cases p <;> simp [be_b]
theorem be_b1 (p : Bool) : (be_b p = 1) = (p = true) := by cases p <;> simp [be_b]
theorem be_bE0 (p : Bool) : (be_i (be_b p) = be_i 0) = (p = false) := by
  rw [be_eq (by have := be_bR p; omega) (by have := be_bR p; omega) (by decide) (by decide), be_b0]
theorem be_bE1 (p : Bool) : (be_i (be_b p) = be_i 1) = (p = true) := by
  rw [be_eq (by have := be_bR p; omega) (by have := be_bR p; omega) (by decide) (by decide), be_b1]
theorem be_b1E (p : Bool) : (be_i 1 = be_i (be_b p)) = (p = true) := by rw [eq_comm (a := be_i 1), be_bE1]
theorem be_b0E (p : Bool) : (be_i 0 = be_i (be_b p)) = (p = false) := by rw [eq_comm (a := be_i 0), be_bE0]
theorem be_bkb (p : Bool) (r : am_R) : am_bk (be_i (be_b p)) r = r := be_bk (by cases p <;> simp [be_b])
theorem be_ite (c : Prop) [Decidable c] : be_b (decide c) = if c then 1 else 0 := by
  by_cases h : c
  · rw [if_pos h, decide_eq_true h]; rfl
  · rw [if_neg h, decide_eq_false h]; rfl
/-! what stands where -/
def be_g (e : Nat → Nat → Nat → Int32) (c j : Nat) : Int := (e c 0 j).toInt
theorem be_gI (e : Nat → Nat → Nat → Int32) (c j : Nat) : e c 0 j = be_i (be_g e c j) := (Int32.ofInt_toInt _).symm
theorem be_gB (e : Nat → Nat → Nat → Int32) (c j : Nat) : -2147483648 ≤ be_g e c j ∧ be_g e c j < 2147483648 := ⟨Int32.le_toInt _, Int32.toInt_lt _⟩
theorem be_w3 {α : Type} (f : Nat → Nat → Nat → α) (c i j : Nat) (x : α) (c' i' j' : Nat) : am_w3 f c i j x c' i' j' = if c' = c ∧ i' = i ∧ j' = j then x else f c' i' j' := by
  unfold am_w3
  by_cases h1 : c' = c
  · by_cases h2 : j' = j
    · by_cases h3 : i' = i
      · subst h1 h2 h3; simp [Nat.beq_refl]
      · have hb : Nat.beq i' i = false := by rw [← Bool.not_eq_true]; intro h; exact h3 (Nat.eq_of_beq_eq_true h)
        rw [hb]; simp [h3]
    · have hb : Nat.beq j' j = false := by rw [← Bool.not_eq_true]; intro h; exact h2 (Nat.eq_of_beq_eq_true h)
      rw [hb]; simp [h2]
  · have hb : Nat.beq c' c = false := by rw [← Bool.not_eq_true]; intro h; exact h1 (Nat.eq_of_beq_eq_true h)
    rw [hb]; simp [h1]
theorem be_w3s {α : Type} (f : Nat → Nat → Nat → α) (c i j : Nat) (x : α) : am_w3 f c i j x c i j = x := by rw [be_w3, if_pos ⟨rfl, rfl, rfl⟩]
theorem be_w3n {α : Type} (f : Nat → Nat → Nat → α) (c i j : Nat) (x : α) (c' i' j' : Nat) (h : ¬ (c' = c ∧ i' = i ∧ j' = j)) : am_w3 f c i j x c' i' j' = f c' i' j' := by rw [be_w3, if_neg h]
theorem be_gw {e : Nat → Nat → Nat → Int32} (c j : Nat) (x : Int) (c' j' : Nat) (h1 : -2147483648 ≤ x) (h2 : x < 2147483648) : be_g (am_w3 e c 0 j (be_i x)) c' j' = if c' = c ∧ j' = j then x else be_g e c' j' := by
  unfold be_g
  rw [be_w3]
  by_cases h : c' = c ∧ j' = j
  · rw [if_pos ⟨h.1, rfl, h.2⟩, if_pos h, be_ti h1 h2]
  · rw [if_neg (fun q => h ⟨q.1, q.2.2⟩), if_neg h]
theorem be_u1 (u : Nat → Nat) (k o j : Nat) : am_u u k o j = if j = k then o else u j := by
  unfold am_u
  by_cases h : j = k
  · subst h; rw [Nat.beq_refl]; simp
  · have hb : Nat.beq j k = false := by rw [← Bool.not_eq_true]; intro q; exact h (Nat.eq_of_beq_eq_true q)
    rw [hb]; simp [h]
/-! bits: shifts of small numbers, sets as numbers -/
theorem be_shl {k : Nat} (hk : k < 31) : be_i 1 <<< (be_i (k : Int) &&& be_i 31) = be_i ((2 ^ k : Nat) : Int) := by
  revert k
  decide +kernel
theorem be_divB {x : Int} {k : Nat} (h1 : -2147483648 ≤ x) (h2 : x < 2147483648) : -2147483648 ≤ x / ((2 ^ k : Nat) : Int) ∧ x / ((2 ^ k : Nat) : Int) < 2147483648 := by
  have hp : (0 : Int) < ((2 ^ k : Nat) : Int) := by exact_mod_cast Nat.two_pow_pos k
  constructor
  · rw [Int.le_ediv_iff_mul_le hp]
    have : (-2147483648 : Int) * ((2 ^ k : Nat) : Int) ≤ -2147483648 * 1 := Int.mul_le_mul_of_nonpos_left (by decide) (by omega)
    omega
  · rw [Int.ediv_lt_iff_lt_mul hp]
    have : (2147483648 : Int) * 1 ≤ 2147483648 * ((2 ^ k : Nat) : Int) := Int.mul_le_mul_of_nonneg_left (by omega) (by decide)
    omega
theorem be_shr {x : Int} {k : Nat} (hk : k < 31) (h1 : -2147483648 ≤ x) (h2 : x < 2147483648) : be_i x >>> (be_i (k : Int) &&& be_i 31) = be_i (x / ((2 ^ k : Nat) : Int)) := by
  have e1 : ∀ k : Nat, k < 31 → ((be_i (k : Int) &&& be_i 31).toBitVec.smod 32).toNat = k := by decide +kernel
  have hb := be_divB (k := k) h1 h2
  apply Int32.toInt_inj.1
  rw [be_ti hb.1 hb.2]
  show (be_i x >>> (be_i (k : Int) &&& be_i 31)).toBitVec.toInt = _
  rw [Int32.toBitVec_shiftRight]
  show (((be_i x).toBitVec).sshiftRight (((be_i (k : Int) &&& be_i 31).toBitVec).smod 32).toNat).toInt = _
  rw [e1 k hk, BitVec.toInt_sshiftRight, Int.shiftRight_eq_div_pow]
  show (be_i x).toInt / _ = _
  rw [be_ti h1 h2]
theorem be_and1 {x : Int} (h1 : 0 ≤ x) : be_i x &&& be_i 1 = be_i (x % 2) := by
  obtain ⟨n, rfl⟩ := Int.eq_ofNat_of_zero_le h1
  rw [show ((n : Int) % 2) = ((n % 2 : Nat) : Int) by omega, ← be_ofN, ← be_ofN, show be_i 1 = Int32.ofNat 1 from rfl]
  apply Int32.toBitVec_inj.1
  show BitVec.ofNat 32 n &&& BitVec.ofNat 32 1 = BitVec.ofNat 32 (n % 2)
  rw [← Nat.and_one_is_mod]
  have key : ∀ a b : Nat, BitVec.ofNat 32 a &&& BitVec.ofNat 32 b = BitVec.ofNat 32 (a &&& b) := by
    intro a b
    apply BitVec.eq_of_getLsbD_eq
    intro i hi
    simp [hi]
  exact key n 1
theorem be_or {x : Int} {k : Nat} (hk : k < 31) (h1 : 0 ≤ x) (h2 : x < ((2 ^ k : Nat) : Int)) : be_i x ||| be_i ((2 ^ k : Nat) : Int) = be_i (x + ((2 ^ k : Nat) : Int)) := by
  obtain ⟨n, rfl⟩ := Int.eq_ofNat_of_zero_le h1
  have h3 : n < 2 ^ k := by exact_mod_cast h2
  rw [← Int.natCast_add, ← be_ofN, ← be_ofN, ← be_ofN]
  apply Int32.toBitVec_inj.1
  show BitVec.ofNat 32 n ||| BitVec.ofNat 32 (2 ^ k) = BitVec.ofNat 32 (n + 2 ^ k)
  have h4 : n + 2 ^ k = n ||| 2 ^ k := by
    have := Nat.two_pow_add_eq_or_of_lt h3 1
    rw [Nat.mul_one] at this
    rw [Nat.add_comm, this, Nat.or_comm]
  rw [h4]
  apply BitVec.eq_of_getLsbD_eq
  intro i hi
  simp [hi]
theorem be_or0 (x : Int) : be_i x ||| be_i 0 = be_i x := by
  apply Int32.toBitVec_inj.1
  rw [Int32.toBitVec_or]
  show _ ||| 0#32 = _
  rw [BitVec.or_zero]
def be_bs (P : Nat → Bool) : Nat → Nat
  | 0 => 0
  | n + 1 => be_bs P n + (bif P n then 2 ^ n else 0)
theorem be_bs_lt (P : Nat → Bool) : ∀ n, be_bs P n < 2 ^ n
  | 0 => by simp [be_bs]
  | n + 1 => by
    have := be_bs_lt P n
    rw [be_bs, Nat.pow_succ]
    cases P n <;> simp only [cond_true, cond_false] <;> omega
theorem be_bs_bit (P : Nat → Bool) (i : Nat) : ∀ n, (be_bs P n).testBit i = (decide (i < n) && P i)
  | 0 => by simp [be_bs]
  | n + 1 => by
    have ih := be_bs_bit P i n
    have hlt := be_bs_lt P n
    rw [be_bs]
    cases hP : P n
    · rw [cond_false, Nat.add_zero, ih]
      by_cases h : i < n
      · simp [h, Nat.lt_succ_of_lt h]
      · by_cases h2 : i = n
        · subst h2; simp [hP]
        · simp [h, show ¬ i < n + 1 by omega]
    · rw [cond_true]
      have h4 : be_bs P n + 2 ^ n = be_bs P n ||| 2 ^ n := by
        have := Nat.two_pow_add_eq_or_of_lt hlt 1
        rw [Nat.mul_one] at this
        rw [Nat.add_comm, this, Nat.or_comm]
      rw [h4, Nat.testBit_or, ih, Nat.testBit_two_pow]
      by_cases h : i < n
      · simp [h, Nat.lt_succ_of_lt h, show ¬ n = i by omega]
      · by_cases h2 : i = n
        · subst h2; simp [hP]
        · simp [h, show ¬ i < n + 1 by omega, show ¬ n = i by omega]
theorem be_bs_congr {P Q : Nat → Bool} : ∀ {n : Nat}, (∀ i, i < n → P i = Q i) → be_bs P n = be_bs Q n
  | 0, _ => rfl
  | n + 1, h => by rw [be_bs, be_bs, be_bs_congr (fun i hi => h i (by omega)), h n (by omega)]
theorem be_bs_0 {P : Nat → Bool} : ∀ {n : Nat}, (be_bs P n = 0) ↔ ∀ i, i < n → P i = false
  | 0 => by simp [be_bs]
  | n + 1 => by
    rw [be_bs, Nat.add_eq_zero_iff, be_bs_0]
    constructor
    · rintro ⟨h1, h2⟩ i hi
      by_cases h : i = n
      · subst h
        cases hP : P i
        · rfl
        · rw [hP, cond_true] at h2
          exact absurd h2 (Nat.ne_of_gt (Nat.two_pow_pos i))
      · exact h1 i (by omega)
    · intro h
      refine ⟨fun i hi => h i (by omega), ?_⟩
      rw [h n (by omega)]; rfl
def be_cnt (P : Nat → Bool) : Nat → Nat
  | 0 => 0
  | n + 1 => be_cnt P n + (bif P n then 1 else 0)
theorem be_cnt_le (P : Nat → Bool) : ∀ n, be_cnt P n ≤ n
  | 0 => Nat.le_refl _
  | n + 1 => by
    have := be_cnt_le P n
    rw [be_cnt]
    cases P n <;> simp only [cond_true, cond_false] <;> omega
theorem be_cnt_congr {P Q : Nat → Bool} : ∀ {n : Nat}, (∀ i, i < n → P i = Q i) → be_cnt P n = be_cnt Q n
  | 0, _ => rfl
  | n + 1, h => by rw [be_cnt, be_cnt, be_cnt_congr (fun i hi => h i (by omega)), h n (by omega)]
theorem be_cnt_ext {P : Nat → Bool} {m : Nat} : ∀ {n : Nat}, m ≤ n → (∀ i, m ≤ i → i < n → P i = false) → be_cnt P n = be_cnt P m
  | 0, h, _ => by rw [show m = 0 by omega]
  | n + 1, h, h2 => by
    by_cases hm : m = n + 1
    · rw [hm]
    · rw [be_cnt, h2 n (by omega) (by omega), be_cnt_ext (m := m) (n := n) (by omega) (fun i h3 h4 => h2 i h3 (by omega))]
      rfl
/-! masks of quarters -/
def be_mk (P : Nat → Bool) : Int64 := Int64.ofNat (be_bs P 64)
theorem be_mk_bit (P : Nat → Bool) {i : Nat} (hi : i < 64) : (be_mk P).toBitVec.getLsbD i = P i := by
  show (BitVec.ofNat 64 (be_bs P 64)).getLsbD i = P i
  rw [BitVec.getLsbD_ofNat, be_bs_bit]
  simp [hi]
theorem be_mk_of {x : Int64} {P : Nat → Bool} (h : ∀ i, i < 64 → x.toBitVec.getLsbD i = P i) : x = be_mk P :=
  Int64.toBitVec_inj.1 (BitVec.eq_of_getLsbD_eq fun i hi => (h i hi).trans (be_mk_bit P hi).symm)
theorem be_mk_congr {P Q : Nat → Bool} (h : ∀ i, i < 64 → P i = Q i) : be_mk P = be_mk Q := by
  unfold be_mk; rw [be_bs_congr h]
theorem be_mk_or (P Q : Nat → Bool) : be_mk P ||| be_mk Q = be_mk (fun t => P t || Q t) := be_mk_of fun i hi => by
  rw [Int64.toBitVec_or, BitVec.getLsbD_or, be_mk_bit P hi, be_mk_bit Q hi]
theorem be_mk_and (P Q : Nat → Bool) : be_mk P &&& be_mk Q = be_mk (fun t => P t && Q t) := be_mk_of fun i hi => by
  rw [Int64.toBitVec_and, BitVec.getLsbD_and, be_mk_bit P hi, be_mk_bit Q hi]
theorem be_all1 : ∀ i, i < 64 → (Int64.ofNat 18446744073709551615).toBitVec.getLsbD i = true := by decide +kernel
theorem be_mk_not (P : Nat → Bool) : be_mk P ^^^ Int64.ofNat 18446744073709551615 = be_mk (fun t => !P t) := be_mk_of fun i hi => by
  rw [Int64.toBitVec_xor, BitVec.getLsbD_xor, be_mk_bit P hi, be_all1 i hi, Bool.xor_true]
theorem be_mk_0 : Int64.ofNat 0 = be_mk (fun _ => false) := be_mk_of fun i hi => by
  show (BitVec.ofNat 64 0).getLsbD i = false
  simp
theorem be_mk_eq0 (P : Nat → Bool) : (be_mk P = Int64.ofNat 0) ↔ ∀ i, i < 64 → P i = false := by
  constructor
  · intro h i hi
    rw [← be_mk_bit P hi, h]
    show (BitVec.ofNat 64 0).getLsbD i = false
    simp
  · intro h
    rw [be_mk_0]
    exact be_mk_congr h
theorem be_span : ∀ t : Nat, t < 41 → ∀ s : Nat, s < 41 → s ≤ t → (Int64.ofNat 1 <<< ((be_i (t : Int)).toInt64 &&& 63)) - (Int64.ofNat 1 <<< ((be_i (s : Int)).toInt64 &&& 63)) = be_mk (fun i => Nat.ble s i && Nat.blt i t) := by
  decide +kernel
theorem be_cmp0 (x y : Int64) : (lg_cmp x y = be_i 0) = (x = y) := propext (lg_cmp_eq x y)
theorem be_hasbit (P : Nat → Bool) : ∀ {k : Nat}, k < 64 → (((be_mk P >>> ((be_i (k : Int)).toInt64 &&& 63)) &&& Int64.ofNat 1) = Int64.ofNat 0) = (P k = false) := by
  intro k hk
  have e1 : ∀ k : Nat, k < 64 → (((be_i (k : Int)).toInt64 &&& 63).toBitVec.smod 64).toNat = k := by decide +kernel
  have key : ∀ i, i < 64 → ((be_mk P >>> ((be_i (k : Int)).toInt64 &&& 63)) &&& Int64.ofNat 1).toBitVec.getLsbD i = (decide (i = 0) && P k) := by
    intro i hi
    rw [Int64.toBitVec_and, BitVec.getLsbD_and, Int64.toBitVec_shiftRight]
    show (((be_mk P).toBitVec.sshiftRight (((be_i (k : Int)).toInt64 &&& 63).toBitVec.smod 64).toNat).getLsbD i && _) = _
    rw [e1 k hk]
    rcases i with _ | i
    · have e2 : (Int64.ofNat 1).toBitVec.getLsbD 0 = true := by decide +kernel
      rw [e2, Bool.and_true, BitVec.getLsbD_sshiftRight]
      have h0 := be_mk_bit P hk
      rw [BitVec.getLsbD_eq_getElem hk] at h0
      simp [hk, h0]
    · have e2 : ∀ i, i < 63 → (Int64.ofNat 1).toBitVec.getLsbD (i + 1) = false := by decide +kernel
      rw [e2 i (by omega), Bool.and_false]
      simp
  rw [be_mk_of key, eq_iff_iff, be_mk_eq0]
  constructor
  · intro h
    have := h 0 (by decide)
    simpa using this
  · intro h i hi
    simp [h]
