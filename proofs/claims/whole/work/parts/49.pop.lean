/-! Long.bitCount counts bits -/
variable {d : Nat} {X : am_X} {a : Nat → Nat → Nat → Int32} {b : Nat → Nat → Nat → Int64} {u : Nat → Nat} {e : Nat → Nat → Nat → Int32} {f : Nat → Nat → Nat → Int64}
def be_M (v : Nat) : Nat → Nat
  | 0 => 0
  | k + 1 => v + 256 * be_M v k
theorem be_and256 {v : Nat} (hv : v < 256) (m x : Nat) : x &&& (v + 256 * m) = (x % 256 &&& v) + 256 * (x / 256 &&& m) := by
  have h1 : (x &&& (v + 256 * m)) % 2 ^ 8 = (x % 2 ^ 8 &&& (v + 256 * m) % 2 ^ 8) := Nat.and_mod_two_pow
  have h2 : (x &&& (v + 256 * m)) / 2 ^ 8 = (x / 2 ^ 8 &&& (v + 256 * m) / 2 ^ 8) := Nat.and_div_two_pow
  rw [show (v + 256 * m) % 2 ^ 8 = v by omega] at h1
  rw [show (v + 256 * m) / 2 ^ 8 = m by omega] at h2
  rw [show (2 : Nat) ^ 8 = 256 by decide] at h1 h2
  omega
def be_F1 (k n : Nat) : Nat := n - (n / 2 &&& be_M 85 k)
def be_F2 (k n : Nat) : Nat := (n &&& be_M 51 k) + (n / 4 &&& be_M 51 k)
def be_F3 (k n : Nat) : Nat := (n + n / 16) &&& be_M 15 k
def be_f1 (b : Nat) : Nat := b - (b / 2 &&& 85)
def be_f2 (b : Nat) : Nat := (b &&& 51) + (b / 4 &&& 51)
def be_f3 (b : Nat) : Nat := (b + b / 16) &&& 15
theorem be_F1s (k n : Nat) : be_F1 (k + 1) n = be_f1 (n % 256) + 256 * be_F1 k (n / 256) := by
  have hc : ∀ b, b < 256 → ∀ c, c < 2 → (b / 2 + 128 * c) &&& 85 = b / 2 &&& 85 := by decide +kernel
  unfold be_F1 be_f1
  rw [be_M, be_and256 (by decide), show n / 2 % 256 = n % 256 / 2 + 128 * (n / 256 % 2) by omega, hc _ (by omega) _ (by omega), show n / 2 / 256 = n / 256 / 2 by omega]
  have h1 : n % 256 / 2 &&& 85 ≤ n % 256 / 2 := Nat.and_le_left
  have h2 : n / 256 / 2 &&& be_M 85 k ≤ n / 256 / 2 := Nat.and_le_left
  omega
theorem be_F2s (k n : Nat) : be_F2 (k + 1) n = be_f2 (n % 256) + 256 * be_F2 k (n / 256) := by
  have hc : ∀ b, b < 256 → ∀ c, c < 4 → (b / 4 + 64 * c) &&& 51 = b / 4 &&& 51 := by decide +kernel
  unfold be_F2 be_f2
  rw [be_M, be_and256 (by decide), be_and256 (by decide), show n / 4 % 256 = n % 256 / 4 + 64 * (n / 256 % 4) by omega, hc _ (by omega) _ (by omega), show n / 4 / 256 = n / 256 / 4 by omega]
  omega
theorem be_F3s (k n : Nat) (h1 : n % 256 ≤ 68) (h2 : n / 256 % 16 ≤ 4) : be_F3 (k + 1) n = be_f3 (n % 256) + 256 * be_F3 k (n / 256) := by
  have hc : ∀ b, b < 256 → ∀ c, c < 16 → (b + b / 16 + 16 * c) % 256 &&& 15 = b + b / 16 &&& 15 := by decide +kernel
  unfold be_F3 be_f3
  rw [be_M, be_and256 (by decide), show (n + n / 16) % 256 = (n % 256 + n % 256 / 16 + 16 * (n / 256 % 16)) % 256 by omega, hc _ (by omega) _ (by omega), show (n + n / 16) / 256 = n / 256 + n / 256 / 16 by omega]
def be_pc (b : Nat) : Nat := be_f3 (be_f2 (be_f1 b))
theorem be_fR : ∀ b, b < 256 → be_f1 b < 256 ∧ be_f2 b < 256 ∧ (b = be_f1 b → True) := by decide +kernel
theorem be_f12R : ∀ b, b < 256 → be_f1 b < 256 ∧ be_f2 (be_f1 b) ≤ 68 ∧ be_f2 (be_f1 b) % 16 ≤ 4 ∧ be_pc b ≤ 8 := by decide +kernel
def be_S : Nat → Nat → Nat
  | 0, _ => 0
  | k + 1, n => be_pc (n % 256) + 256 * be_S k (n / 256)
theorem be_F12 : ∀ k n : Nat, be_F2 k (be_F1 k n) % 256 ≤ 68 ∧ be_F2 k (be_F1 k n) % 16 ≤ 4 ∧ be_F3 k (be_F2 k (be_F1 k n)) = be_S k n := by
  intro k
  induction k with
  | zero =>
    intro n
    have h0 : ∀ x, be_F2 0 x = 0 := fun x => by unfold be_F2 be_M; rw [Nat.and_zero, Nat.and_zero]
    rw [h0]
    refine ⟨by decide, by decide, ?_⟩
    unfold be_F3 be_M be_S; rw [Nat.and_zero]
  | succ k ih =>
    intro n
    obtain ⟨i1, i2, i3⟩ := ih (n / 256)
    obtain ⟨p1, p2, p3, p4⟩ := be_f12R (n % 256) (by omega)
    have e1 : be_F1 (k + 1) n = be_f1 (n % 256) + 256 * be_F1 k (n / 256) := be_F1s k n
    have e2 : be_F2 (k + 1) (be_F1 (k + 1) n) = be_f2 (be_f1 (n % 256)) + 256 * be_F2 k (be_F1 k (n / 256)) := by
      rw [be_F2s, e1, show (be_f1 (n % 256) + 256 * be_F1 k (n / 256)) % 256 = be_f1 (n % 256) by omega, show (be_f1 (n % 256) + 256 * be_F1 k (n / 256)) / 256 = be_F1 k (n / 256) by omega]
    rw [e2]
    refine ⟨by omega, by omega, ?_⟩
    rw [be_F3s _ _ (by omega) (by omega), show (be_f2 (be_f1 (n % 256)) + 256 * be_F2 k (be_F1 k (n / 256))) % 256 = be_f2 (be_f1 (n % 256)) by omega, show (be_f2 (be_f1 (n % 256)) + 256 * be_F2 k (be_F1 k (n / 256))) / 256 = be_F2 k (be_F1 k (n / 256)) by omega, i3]
    rfl
theorem be_cnt_add (P : Nat → Bool) (m : Nat) : ∀ n, be_cnt P (m + n) = be_cnt P m + be_cnt (fun i => P (m + i)) n
  | 0 => rfl
  | n + 1 => by
    rw [← Nat.add_assoc, be_cnt, be_cnt_add P m n, be_cnt, Nat.add_assoc]
theorem be_pcC : ∀ b, b < 256 → be_pc b = be_cnt (fun j => b.testBit j) 8 := by decide +kernel
def be_Tn : Nat → Nat → Nat
  | 0, _ => 0
  | k + 1, n => be_pc (n % 256) + be_Tn k (n / 256)
theorem be_TnC : ∀ k n : Nat, be_Tn k n = be_cnt (fun j => n.testBit j) (8 * k) := by
  intro k
  induction k with
  | zero => intro n; rfl
  | succ k ih =>
    intro n
    rw [be_Tn, ih, be_pcC _ (Nat.mod_lt _ (by decide)), show 8 * (k + 1) = 8 + 8 * k by omega, be_cnt_add]
    congr 1
    · refine be_cnt_congr fun j hj => ?_
      rw [show (256 : Nat) = 2 ^ 8 by decide, Nat.testBit_mod_two_pow, decide_eq_true hj, Bool.true_and]
    · refine be_cnt_congr fun j _ => ?_
      rw [show (256 : Nat) = 2 ^ 8 by decide, Nat.testBit_div_two_pow, Nat.add_comm]
theorem be_dv {x y k : Nat} (hk : 0 < k) (h : x < k) : (x + k * y) / k = y := by
  rw [Nat.add_mul_div_left _ _ hk, Nat.div_eq_of_lt h, Nat.zero_add]
theorem be_fo1 {c0 c1 c2 T1 T2 T3 : Nat} (t1 : T1 = c1 + 256 * T2) (t2 : T2 = c2 + 256 * T3) : c0 + 256 * T1 + T1 = (c0 + c1) + 256 * (c1 + c2) + 65536 * (T2 + T3) := by omega
theorem be_fo2 {c2 c3 c4 T2 T3 T4 T5 : Nat} (t2 : T2 = c2 + 256 * T3) (t3 : T3 = c3 + 256 * T4) (t4 : T4 = c4 + 256 * T5) : T2 + T3 = (c2 + c3) + 256 * (c3 + c4) + 65536 * (T4 + T5) := by omega
theorem be_fo3 {A B C D U V W : Nat} (h1 : U = C + 256 * D + 65536 * V) (h2 : V = A + 256 * B + 65536 * W) {p q : Nat} : p + 256 * q + 65536 * U + U = (p + C) + 256 * (q + D) + 65536 * (C + A) + 16777216 * (D + B) + 4294967296 * (V + W) := by omega
theorem be_fo4 {P Q R S V W A B C D : Nat} (h1 : V = A + 256 * B + 65536 * W) (h2 : W = C + 256 * D) : P + 256 * Q + 65536 * R + 16777216 * S + 4294967296 * (V + W) + (V + W) = (P + A + C) + 128 * (2 * Q + 512 * R + 131072 * S + 33554432 * (V + W) + 2 * B + 512 * W + 2 * D) := by omega
theorem be_fold8 {c0 c1 c2 c3 c4 c5 c6 c7 : Nat} (h0 : c0 ≤ 8) (h1 : c1 ≤ 8) (h2 : c2 ≤ 8) (h3 : c3 ≤ 8) (h4 : c4 ≤ 8) (h5 : c5 ≤ 8) (h6 : c6 ≤ 8) (h7 : c7 ≤ 8) {T1 T2 T3 T4 T5 T6 S X1 X2 : Nat}
    (hS : S = c0 + 256 * T1) (t1 : T1 = c1 + 256 * T2) (t2 : T2 = c2 + 256 * T3) (t3 : T3 = c3 + 256 * T4) (t4 : T4 = c4 + 256 * T5) (t5 : T5 = c5 + 256 * T6) (t6 : T6 = c6 + 256 * c7) (hX1 : X1 = S + S / 256) (hX2 : X2 = X1 + X1 / 65536) :
    (X2 + X2 / 4294967296) % 128 = c0 + c1 + c2 + c3 + c4 + c5 + c6 + c7 := by
  have e1 : S / 256 = T1 := by rw [hS, be_dv (by decide) (by omega)]
  rw [e1, hS, be_fo1 t1 t2] at hX1
  have e3 : X1 / 65536 = T2 + T3 := by
    rw [hX1, be_dv (by decide)]
    clear hX1 hX2 hS e1 t1 t2 t3 t4 t5 t6
    omega
  have e4 : T2 + T3 = (c2 + c3) + 256 * (c3 + c4) + 65536 * (T4 + T5) := be_fo2 t2 t3 t4
  have e5 : T4 + T5 = (c4 + c5) + 256 * (c5 + c6) + 65536 * (T6 + c7) := be_fo2 t4 t5 t6
  have e6 : T6 + c7 = (c6 + c7) + 256 * c7 := by rw [t6]; clear hX1 hX2 hS e1 t1 t2 t3 t4 t5 t6 e3 e4 e5; omega
  rw [e3, hX1, be_fo3 e4 e5] at hX2
  have e7 : X2 / 4294967296 = T4 + T5 + (T6 + c7) := by
    rw [hX2, be_dv (by decide)]
    clear hX1 hX2 hS e1 t1 t2 t3 t4 t5 t6 e3 e4 e5 e6
    omega
  rw [e7, hX2, be_fo4 e5 e6, Nat.add_mul_mod_self_left, Nat.mod_eq_of_lt]
  · clear hX1 hX2 hS e1 t1 t2 t3 t4 t5 t6 e3 e4 e5 e6 e7; omega
  · clear hX1 hX2 hS e1 t1 t2 t3 t4 t5 t6 e3 e4 e5 e6 e7; omega
theorem be_fold (n : Nat) : (be_S 8 n + be_S 8 n / 256 + (be_S 8 n + be_S 8 n / 256) / 65536 + (be_S 8 n + be_S 8 n / 256 + (be_S 8 n + be_S 8 n / 256) / 65536) / 4294967296) % 128 = be_Tn 8 n ∧ be_S 8 n < 1000000000000000000 := by
  have hp : ∀ m : Nat, be_pc (m % 256) ≤ 8 := fun m => (be_f12R _ (Nat.mod_lt _ (by decide))).2.2.2
  have hs : be_S 8 n = be_pc (n % 256) + 256 * (be_pc (n / 256 % 256) + 256 * (be_pc (n / 256 / 256 % 256) + 256 * (be_pc (n / 256 / 256 / 256 % 256) + 256 * (be_pc (n / 256 / 256 / 256 / 256 % 256) + 256 * (be_pc (n / 256 / 256 / 256 / 256 / 256 % 256) + 256 * (be_pc (n / 256 / 256 / 256 / 256 / 256 / 256 % 256) + 256 * be_pc (n / 256 / 256 / 256 / 256 / 256 / 256 / 256 % 256))))))) := by
    simp only [be_S, Nat.mul_zero, Nat.add_zero]
  have ht : be_Tn 8 n = be_pc (n % 256) + be_pc (n / 256 % 256) + be_pc (n / 256 / 256 % 256) + be_pc (n / 256 / 256 / 256 % 256) + be_pc (n / 256 / 256 / 256 / 256 % 256) + be_pc (n / 256 / 256 / 256 / 256 / 256 % 256) + be_pc (n / 256 / 256 / 256 / 256 / 256 / 256 % 256) + be_pc (n / 256 / 256 / 256 / 256 / 256 / 256 / 256 % 256) := by
    simp only [be_Tn, Nat.add_assoc, Nat.add_zero]
  have h0 := hp n
  have h1 := hp (n / 256)
  have h2 := hp (n / 256 / 256)
  have h3 := hp (n / 256 / 256 / 256)
  have h4 := hp (n / 256 / 256 / 256 / 256)
  have h5 := hp (n / 256 / 256 / 256 / 256 / 256)
  have h6 := hp (n / 256 / 256 / 256 / 256 / 256 / 256)
  have h7 := hp (n / 256 / 256 / 256 / 256 / 256 / 256 / 256)
  refine ⟨(be_fold8 h0 h1 h2 h3 h4 h5 h6 h7 hs rfl rfl rfl rfl rfl rfl rfl rfl).trans ht.symm, ?_⟩
  rw [hs]
  clear hs ht hp
  generalize be_pc (n % 256) = c0 at h0 ⊢
  generalize be_pc (n / 256 % 256) = c1 at h1 ⊢
  generalize be_pc (n / 256 / 256 % 256) = c2 at h2 ⊢
  generalize be_pc (n / 256 / 256 / 256 % 256) = c3 at h3 ⊢
  generalize be_pc (n / 256 / 256 / 256 / 256 % 256) = c4 at h4 ⊢
  generalize be_pc (n / 256 / 256 / 256 / 256 / 256 % 256) = c5 at h5 ⊢
  generalize be_pc (n / 256 / 256 / 256 / 256 / 256 / 256 % 256) = c6 at h6 ⊢
  generalize be_pc (n / 256 / 256 / 256 / 256 / 256 / 256 / 256 % 256) = c7 at h7 ⊢
  omega
theorem be_jand (a b : Nat) : Int64.ofNat a &&& Int64.ofNat b = Int64.ofNat (a &&& b) := by
  apply Int64.toBitVec_inj.1
  show BitVec.ofNat 64 a &&& BitVec.ofNat 64 b = BitVec.ofNat 64 (a &&& b)
  apply BitVec.eq_of_getLsbD_eq
  intro i hi
  simp [hi]
theorem be_jshr {n k : Nat} (hn : n < 18446744073709551616) (hk : k < 64) : ((Int64.ofNat n).toUInt64 >>> ((be_i (k : Int)).toInt64.toUInt64 &&& Int64.toUInt64 63)).toInt64 = Int64.ofNat (n / 2 ^ k) := by
  have e1 : ∀ k : Nat, k < 64 → (((be_i (k : Int)).toInt64.toUInt64 &&& Int64.toUInt64 63).toBitVec % 64).toNat = k := by decide +kernel
  apply Int64.toBitVec_inj.1
  show ((Int64.ofNat n).toUInt64 >>> ((be_i (k : Int)).toInt64.toUInt64 &&& Int64.toUInt64 63)).toBitVec = BitVec.ofNat 64 (n / 2 ^ k)
  rw [UInt64.toBitVec_shiftRight]
  show (BitVec.ofNat 64 n) >>> (((be_i (k : Int)).toInt64.toUInt64 &&& Int64.toUInt64 63).toBitVec % 64).toNat = _
  rw [e1 k hk]
  apply BitVec.eq_of_toNat_eq
  have hle : n / 2 ^ k ≤ n := Nat.div_le_self _ _
  rw [BitVec.toNat_ushiftRight, BitVec.toNat_ofNat, BitVec.toNat_ofNat, Nat.mod_eq_of_lt (by omega), Nat.mod_eq_of_lt (by omega), Nat.shiftRight_eq_div_pow]
theorem be_jsub {a b : Nat} (h : b ≤ a) : Int64.ofNat a - Int64.ofNat b = Int64.ofNat (a - b) := by
  have : Int64.ofNat (a - b) + Int64.ofNat b = Int64.ofNat a := by rw [← Int64.ofNat_add, Nat.sub_add_cancel h]
  rw [← this]
  simp
theorem be_jadd (a b : Nat) : Int64.ofNat a + Int64.ofNat b = Int64.ofNat (a + b) := (Int64.ofNat_add a b).symm
theorem be_jint (w : Nat) : (Int64.ofNat w).toInt32 &&& be_i 127 = be_i ((w % 128 : Nat) : Int) := by
  rw [← be_ofN, show be_i 127 = Int32.ofNat 127 from rfl]
  apply Int32.toBitVec_inj.1
  show (BitVec.ofNat 64 w).signExtend 32 &&& BitVec.ofNat 32 127 = BitVec.ofNat 32 (w % 128)
  rw [show w % 128 = w &&& 127 from (Nat.and_two_pow_sub_one_eq_mod w 7).symm]
  apply BitVec.eq_of_getLsbD_eq
  intro i hi
  have h7 : w % 128 = w &&& 127 := (Nat.and_two_pow_sub_one_eq_mod w 7).symm
  rw [BitVec.getLsbD_and, BitVec.getLsbD_signExtend, BitVec.getLsbD_ofNat, BitVec.getLsbD_ofNat, BitVec.getLsbD_ofNat, Nat.testBit_and]
  simp [hi, show i < 64 by omega]
theorem be_m112 (hd : 1 ≤ d) (P : Nat → Bool) : am_sem X d 112 [am_J (be_mk P)] (am_sd a b u e f) = some (some (am_I (be_i ((be_cnt P 64 : Int)))), (am_sd a b u e f)) := by
  obtain ⟨d, rfl⟩ : ∃ q, d = q + 1 := ⟨d - 1, by omega⟩
  have hn : be_bs P 64 < 18446744073709551616 := be_bs_lt P 64
  have hT : be_Tn 8 (be_bs P 64) = be_cnt P 64 := by
    rw [be_TnC]
    refine be_cnt_congr fun j hj => ?_
    rw [be_bs_bit, decide_eq_true hj, Bool.true_and]
  have hE : be_mk P = Int64.ofNat (be_bs P 64) := rfl
  rw [hE, am_s112]
  generalize be_bs P 64 = n at hn hT
  have m5 : Int64.ofNat 6148914691236517205 = Int64.ofNat (be_M 85 8) := by decide +kernel
  have m3 : Int64.ofNat 3689348814741910323 = Int64.ofNat (be_M 51 8) := by decide +kernel
  have m0 : Int64.ofNat 1085102592571150095 = Int64.ofNat (be_M 15 8) := by decide +kernel
  rw [m5, m3, m0]
  obtain ⟨k1, k2, k3⟩ := be_F12 8 n
  have hF1 : be_F1 8 n ≤ n := Nat.sub_le _ _
  have s1 : Int64.ofNat n - ((((Int64.ofNat n).toUInt64 >>> ((be_i 1).toInt64.toUInt64 &&& Int64.toUInt64 63)).toInt64) &&& Int64.ofNat (be_M 85 8)) = Int64.ofNat (be_F1 8 n) := by
    rw [show (be_i 1) = be_i ((1 : Nat) : Int) from rfl, be_jshr hn (by decide), be_jand, be_jsub (Nat.le_trans Nat.and_le_left (Nat.div_le_self _ _))]
    rfl
  rw [s1]
  have s2 : (Int64.ofNat (be_F1 8 n) &&& Int64.ofNat (be_M 51 8)) + ((((Int64.ofNat (be_F1 8 n)).toUInt64 >>> ((be_i 2).toInt64.toUInt64 &&& Int64.toUInt64 63)).toInt64) &&& Int64.ofNat (be_M 51 8)) = Int64.ofNat (be_F2 8 (be_F1 8 n)) := by
    rw [show (be_i 2) = be_i ((2 : Nat) : Int) from rfl, be_jshr (by omega) (by decide), be_jand, be_jand, be_jadd]
    rfl
  rw [s2]
  have hF2 : be_F2 8 (be_F1 8 n) < 18446744073709551616 := by
    have h1 : be_F1 8 n &&& be_M 51 8 ≤ be_M 51 8 := Nat.and_le_right
    have h2 : be_F1 8 n / 4 &&& be_M 51 8 ≤ be_M 51 8 := Nat.and_le_right
    have h3 : be_M 51 8 = 3689348814741910323 := by decide +kernel
    unfold be_F2; omega
  have s3 : (Int64.ofNat (be_F2 8 (be_F1 8 n)) + (((Int64.ofNat (be_F2 8 (be_F1 8 n))).toUInt64 >>> ((be_i 4).toInt64.toUInt64 &&& Int64.toUInt64 63)).toInt64)) &&& Int64.ofNat (be_M 15 8) = Int64.ofNat (be_S 8 n) := by
    rw [show (be_i 4) = be_i ((4 : Nat) : Int) from rfl, be_jshr hF2 (by decide), be_jadd, be_jand, ← k3]
    rfl
  rw [s3]
  obtain ⟨f1, f2⟩ := be_fold n
  rw [show (be_i 8) = be_i ((8 : Nat) : Int) from rfl, be_jshr (by omega) (by decide), be_jadd]
  rw [show (be_i 16) = be_i ((16 : Nat) : Int) from rfl, be_jshr (by omega) (by decide), be_jadd]
  rw [show (be_i 32) = be_i ((32 : Nat) : Int) from rfl, be_jshr (by omega) (by decide), be_jadd]
  rw [be_jint, show (2 : Nat) ^ 8 = 256 by decide, show (2 : Nat) ^ 16 = 65536 by decide, show (2 : Nat) ^ 32 = 4294967296 by decide, f1, hT]
