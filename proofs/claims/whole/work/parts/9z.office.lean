variable {d : Nat} {X : am_X} {a : Nat → Nat → Nat → Int32} {b : Nat → Nat → Nat → Int64} {u : Nat → Nat} {e : Nat → Nat → Nat → Int32} {f : Nat → Nat → Nat → Int64}
theorem be_coffice (hd : 60 ≤ d) (hI : be_IV a b u e f) : be_C X d 215 28 [] a b u e f := by
  sorry
