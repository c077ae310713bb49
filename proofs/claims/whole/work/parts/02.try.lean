theorem try_1 (m : Nat) : m + 0 = m := rfl
