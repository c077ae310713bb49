/-! Long.bitCount -/
variable {d : Nat} {X : am_X} {a : Nat → Nat → Nat → Int32} {b : Nat → Nat → Nat → Int64} {u : Nat → Nat} {e : Nat → Nat → Nat → Int32} {f : Nat → Nat → Nat → Int64}
theorem be_m112 (hd : 1 ≤ d) (P : Nat → Bool) : am_sem X d 112 [am_J (be_mk P)] (am_sd a b u e f) = some (some (am_I (be_i ((be_cnt P 64 : Int)))), (am_sd a b u e f)) := by
  sorry
