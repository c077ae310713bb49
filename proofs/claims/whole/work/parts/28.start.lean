/-! THE ENTRY: what is known of the classes, where the read-only things stand -/
theorem am_kn1 {args : Array Value} {s : State} (hts : ∀ w ∈ am_tbl, w.before args s = true) {c : Nat} (h : am_clP c) : ∃ x : ClassId × (Nat → Nat), u_Kn s (am_k c).1 (am_k c).2.1 (am_k c).2.2 x.1 x.2 := by
  obtain ⟨c1, c2, c3, c4, c5, c6, c7, c8, c9, c10⟩ := h
  rw [← c4] at c9
  obtain ⟨a, b, h⟩ := u_known (C := (am_k c).1) (T := (am_k c).2.1) (N := (am_k c).2.2) (n := (am_k c).2.2) hts c5 (hts _ c9)
  exact ⟨(a, b), h⟩
theorem am_kn {args : Array Value} {s : State} (hts : ∀ w ∈ am_tbl, w.before args s = true) (k : Nat) (hk : k < 11) : ∃ x : ClassId × (Nat → Nat), ∀ q : vw_C, am_CL[k]? = some q → u_Kn s q.1 q.2.1 q.2.2 x.1 x.2 := by
  have step : ∀ c : Nat, am_clC.any (Nat.beq c) = true → am_ci c = k → ∃ x : ClassId × (Nat → Nat), ∀ q : vw_C, am_CL[k]? = some q → u_Kn s q.1 q.2.1 q.2.2 x.1 x.2 := by
    intro c hc hk
    have hp := am_clB hc
    obtain ⟨x, hx⟩ := am_kn1 hts hp
    refine ⟨x, fun q hq => ?_⟩
    rw [← hk, hp.2.2.1] at hq
    cases hq
    exact hx
  rcases (show k = 0 ∨ k = 1 ∨ k = 2 ∨ k = 3 ∨ k = 4 ∨ k = 5 ∨ k = 6 ∨ k = 7 ∨ k = 8 ∨ k = 9 ∨ k = 10 by omega) with h | h | h | h | h | h | h | h | h | h | h
  · exact step 0 (by decide +kernel) h.symm
  · exact step 1 (by decide +kernel) h.symm
  · exact step 2 (by decide +kernel) h.symm
  · exact step 3 (by decide +kernel) h.symm
  · exact step 4 (by decide +kernel) h.symm
  · exact step 5 (by decide +kernel) h.symm
  · exact step 6 (by decide +kernel) h.symm
  · exact step 7 (by decide +kernel) h.symm
  · exact step 8 (by decide +kernel) h.symm
  · exact step 9 (by decide +kernel) h.symm
  · exact step 50 (by decide +kernel) h.symm
theorem am_knD {args : Array Value} {s : State} (hts : ∀ w ∈ am_tbl, w.before args s = true) : ∃ D : va_G, va_K D am_CL [] s := by
  have hall : ∀ k : Nat, ∃ x : ClassId × (Nat → Nat), ∀ q : vw_C, am_CL[k]? = some q → u_Kn s q.1 q.2.1 q.2.2 x.1 x.2 := by
    intro k
    rcases Nat.lt_or_ge k 11 with h | h
    · exact am_kn hts k h
    · obtain ⟨x, _⟩ := am_kn hts 0 (by decide)
      refine ⟨x, fun q hq => ?_⟩
      rw [List.getElem?_eq_none (show am_CL.length ≤ k from h)] at hq
      cases hq
  refine ⟨(fun k => (Classical.choose (hall k)).1, fun k => (Classical.choose (hall k)).2), fun k q hq => ?_, fun k q h => ?_⟩
  · exact Classical.choose_spec (hall k) q hq
  · cases h
