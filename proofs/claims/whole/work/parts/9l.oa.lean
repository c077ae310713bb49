/-! THE OFFICE, 1: strings -/
variable {d : Nat} {X : am_X} {a : Nat → Nat → Nat → Int32} {b : Nat → Nat → Nat → Int64} {u : Nat → Nat} {e : Nat → Nat → Nat → Int32} {f : Nat → Nat → Nat → Int64}
theorem bo_fm : am_fm X = .inl .null ∨ am_fm X = .inr (205, 0) := by
  unfold am_fm
  split
  · exact Or.inl rfl
  · exact Or.inr rfl
theorem bo_ch0 : ∀ k : Nat, k < 129 → ((be_i ((k : Int) - 1)).toUInt32 % 65536).toInt32 = be_i (if k = 0 then 65535 else (k : Int) - 1) := by decide +kernel
theorem bo_ch {x : Int} (h1 : -1 ≤ x) (h2 : x ≤ 127) : ((be_i x).toUInt32 % 65536).toInt32 = be_i (if x < 0 then 65535 else x) := by
  have := bo_ch0 (x + 1).toNat (by omega)
  rw [show (((x + 1).toNat : Nat) : Int) - 1 = x by omega] at this
  rw [this]
  by_cases hx : x < 0
  · rw [if_pos hx, if_pos (by omega)]
  · rw [if_neg hx, if_neg (by omega)]
theorem bo_b80 : ∀ k : Nat, k < 128 → (be_i (k : Int)).toInt8.toInt32 = be_i (k : Int) := by decide +kernel
theorem bo_b8 {x : Int} (h1 : 0 ≤ x) (h2 : x ≤ 127) : (be_i x).toInt8.toInt32 = be_i x := by
  have := bo_b80 x.toNat (by omega)
  rw [show ((x.toNat : Nat) : Int) = x by omega] at this
  exact this
theorem bo_a0 : ∀ k : Nat, k < 128 → ((be_i (k : Int) &&& be_i 255).toUInt32 % 65536).toInt32 = be_i (k : Int) := by decide +kernel
theorem bo_a {x : Int} (h1 : 0 ≤ x) (h2 : x ≤ 127) : ((be_i x &&& be_i 255).toUInt32 % 65536).toInt32 = be_i x := by
  have := bo_a0 x.toNat (by omega)
  rw [show ((x.toNat : Nat) : Int) = x by omega] at this
  exact this
theorem bo_sh0 : ∀ k : Nat, k < 8 → be_i (k : Int) >>> (be_i 0 &&& 31) = be_i (k : Int) := by decide +kernel
/-- a string's signs -/
def bo_L : Nat → List Int
  | 0 => [108, 105, 107, 101, 32] | 1 => [109, 105, 110, 100, 32] | 2 => [104, 111, 108, 100, 32] | 3 => [100, 97, 121, 32] | 4 => [] | 5 => [104, 114, 107, 118, 112, 115] | _ => [60, 61, 62]
theorem bo_Ln : ∀ i, i < 7 → (bo_L i).length < 8 := by decide
theorem bo_LR : ∀ i, i < 7 → ∀ k, k < (bo_L i).length → 0 ≤ (bo_L i).getD k 0 ∧ (bo_L i).getD k 0 ≤ 127 := by decide
theorem bo_len {i : Nat} (hi : i < 7) : am_len X 202 i = (bo_L i).length := by
  rcases (show i = 0 ∨ i = 1 ∨ i = 2 ∨ i = 3 ∨ i = 4 ∨ i = 5 ∨ i = 6 by omega) with rfl | rfl | rfl | rfl | rfl | rfl | rfl <;> rfl
theorem bo_ro0 : ∀ i, i < 7 → ∀ k, k < (bo_L i).length → (([[108, 105, 107, 101, 32], [109, 105, 110, 100, 32], [104, 111, 108, 100, 32], [100, 97, 121, 32], [], [104, 114, 107, 118, 112, 115], [60, 61, 62]] : List (List Int32)).getD i []).getD k 0 = be_i ((bo_L i).getD k 0) := by decide +kernel
theorem bo_ro {i k : Nat} (hi : i < 7) (hk : k < (bo_L i).length) : am_ro X 202 i k = be_i ((bo_L i).getD k 0) := bo_ro0 i hi k hk
theorem bo_113 (hd : 2 ≤ d) {i : Nat} (hi : i < 7) : am_sem X d 113 [.inr (203, i)] (am_sd a b u e f) = some (some (am_I (be_i (((bo_L i).length : Int)))), (am_sd a b u e f)) := by
  obtain ⟨d, rfl⟩ : ∃ q, d = q + 2 := ⟨d - 2, by omega⟩
  rw [am_s113, am_s118, be_bi, am_b113_9, be_ofN, bo_len hi, bo_sh0 _ (bo_Ln i hi)]
theorem bo_114 (hd : 1 ≤ d) {i : Nat} (hi : i < 7) : am_sem X d 114 [.inr (203, i)] (am_sd a b u e f) = some (some (am_I (be_i (be_b (decide (i = 4))))), (am_sd a b u e f)) := by
  obtain ⟨d, rfl⟩ : ∃ q, d = q + 1 := ⟨d - 1, by omega⟩
  rw [am_s114, bo_len hi]
  rcases (show i = 0 ∨ i = 1 ∨ i = 2 ∨ i = 3 ∨ i = 4 ∨ i = 5 ∨ i = 6 by omega) with rfl | rfl | rfl | rfl | rfl | rfl | rfl <;> rfl
theorem bo_115 (hd : 4 ≤ d) {i k : Nat} (hi : i < 7) (hk : k < (bo_L i).length) : am_sem X d 115 [.inr (203, i), am_I (be_i ((k : Int)))] (am_sd a b u e f) = some (some (am_I (be_i ((bo_L i).getD k 0))), (am_sd a b u e f)) := by
  obtain ⟨d, rfl⟩ : ∃ q, d = q + 4 := ⟨d - 4, by omega⟩
  have hL := bo_Ln i hi
  have hR := bo_LR i hi k hk
  rw [am_s115, am_s119, be_bi, am_b115_4, if_neg (by decide), am_s121, am_s120, bo_len hi, be_ofN, am_s125 bo_fm, if_neg (by rw [be_0, be_lt (by omega) (by omega) (by omega) (by omega)]; omega), if_pos (by rw [be_lt (by omega) (by omega) (by omega) (by omega)]; omega), be_bi, am_b120_8, be_bv, am_b121_6, bo_len hi, be_ck (by omega) (by omega) (by omega), be_ntN (by omega), bo_ro hi hk, bo_a hR.1 hR.2, if_pos (by rw [bo_ch (by omega) hR.2, if_neg (by omega)]), be_bi, am_b115_15, if_pos (by rw [bo_ch (by omega) hR.2, if_neg (by omega)])]
/-- where a sign stands first -/
def bo_find (x : Int) : List Int → Nat → Int
  | [], _ => -1
  | c :: r, j => if c = x then (j : Int) else bo_find x r (j + 1)
theorem bo_124 {i : Nat} (hi : i < 7) {x : Int} (h1 : 0 ≤ x) (h2 : x ≤ 127) {z : Int32} : ∀ (r : List Int) (j : Nat), j + r.length = (bo_L i).length → (∀ k, k < r.length → (bo_L i).getD (j + k) 0 = r.getD k 0) → am_fix (am_sem X d) X am_P124 7 [.inr (202, i), am_I (be_i (x)), am_I z, am_I (be_i (((bo_L i).length : Int))), am_I (be_i (x)), am_I (be_i ((j : Int)))] [] (am_sd a b u e f) = some (some (am_I (be_i (bo_find x r j))), (am_sd a b u e f)) := by
  intro r
  have hL := bo_Ln i hi
  induction r with
  | nil =>
    intro j hj _
    rw [List.length_nil] at hj
    rw [am_b124_7, if_pos (by rw [be_le (by omega) (by omega) (by omega) (by omega)]; omega)]
    rfl
  | cons c r ih =>
    intro j hj hr
    rw [List.length_cons] at hj
    have hc := hr 0 (by rw [List.length_cons]; omega)
    rw [Nat.add_zero, List.getD_cons_zero] at hc
    have hR := bo_LR i hi j (by omega)
    rw [am_b124_7, if_neg (by rw [be_le (by omega) (by omega) (by omega) (by omega)]; omega), bo_len hi, be_ck (by omega) (by omega) (by omega), be_ntN (by omega), bo_ro hi (by omega), hc]
    rw [hc] at hR
    unfold bo_find
    by_cases hx : c = x
    · rw [if_pos hx, if_neg (by rw [be_eq (by omega) (by omega) (by omega) (by omega)]; omega)]
    · rw [if_neg hx, if_pos (by rw [be_eq (by omega) (by omega) (by omega) (by omega)]; omega), be_add]
      exact ih (j + 1) (by omega) (fun k hk => by
        have := hr (k + 1) (by rw [List.length_cons]; omega)
        rw [List.getD_cons_succ] at this
        rw [← this, show j + 1 + k = j + (k + 1) by omega])
theorem bo_findR (x : Int) : ∀ (r : List Int) (j : Nat), -1 ≤ bo_find x r j ∧ bo_find x r j < ((j + r.length : Nat) : Int)
  | [], j => by rw [bo_find]; constructor <;> omega
  | c :: r, j => by
    have := bo_findR x r (j + 1)
    rw [bo_find, List.length_cons]
    split <;> omega
theorem bo_116 (hd : 6 ≤ d) {i : Nat} (hi : i < 7) (h0 : i ≠ 4) {x : Int} (h1 : -1 ≤ x) (h2 : x ≤ 127) : am_sem X d 116 [.inr (203, i), am_I (((be_i x).toUInt32 % 65536).toInt32)] (am_sd a b u e f) = some (some (am_I (be_i (if x < 0 then -1 else bo_find x (bo_L i) 0))), (am_sd a b u e f)) := by
  obtain ⟨d, rfl⟩ : ∃ q, d = q + 6 := ⟨d - 6, by omega⟩
  have hL := bo_Ln i hi
  have h0L : 0 < (bo_L i).length := by
    rcases (show i = 0 ∨ i = 1 ∨ i = 2 ∨ i = 3 ∨ i = 5 ∨ i = 6 by omega) with rfl | rfl | rfl | rfl | rfl | rfl <;> decide
  rw [bo_ch h1 h2, am_s116, am_s117, am_s119, be_bi, am_b117_4, if_neg (by decide), bo_113 (by omega) hi, be_bi, am_b117_17, am_s123, am_s122]
  by_cases hx : x < 0
  · rw [if_pos hx, if_pos hx, if_neg (by decide), if_pos (by decide), be_bi, am_b123_4, if_neg (by decide), be_bi, am_b117_20, am_b117_36, be_bi, am_b116_6]
  · have e1 : (if be_i ((bo_L i).length : Int) < be_i ((bo_L i).length : Int) then be_i ((bo_L i).length : Int) else be_i ((bo_L i).length : Int)) = be_i ((bo_L i).length : Int) := ite_self _
    rw [if_neg hx, if_neg hx, if_neg (by rw [be_0, be_lt (by omega) (by omega) (by omega) (by omega)]; omega), if_neg (by rw [be_lt (by omega) (by omega) (by omega) (by omega)]; omega), be_bi, am_b123_4, if_pos (by decide), bo_len hi, be_ofN, ite_self, e1, if_pos (by rw [be_lt (by omega) (by omega) (by omega) (by omega)]; omega), am_s124, bo_b8 (by omega) h2]
    have := bo_124 (d := d + 2) (X := X) (a := a) (b := b) (u := u) (e := e) (f := f) hi (x := x) (by omega) h2 (z := be_i 0) (bo_L i) 0 (by omega) (fun k _ => by rw [Nat.zero_add])
    rw [show ((0 : Nat) : Int) = 0 from rfl] at this
    rw [this, be_bi, am_b123_36, be_bi, am_b117_20, am_b117_36, be_bi, am_b116_6]
