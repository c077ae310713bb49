/-! THE ROWS OF THE LAW, in pieces (by program) -/
theorem am_chunk {f : am_E → Bool} {P : List am_E} {n N : Nat} (hn : 0 < n) (hl : P.length ≤ n * N) (h : ∀ i, i < N → ((P.drop (n * i)).take n).all f = true) : P.all f = true := by
  refine List.all_eq_true.mpr fun e he => ?_
  obtain ⟨j, hj⟩ := List.mem_iff_getElem?.mp he
  have hlt : j < P.length := by
    rcases Nat.lt_or_ge j P.length with h | h
    · exact h
    · rw [List.getElem?_eq_none h] at hj; cases hj
  have hi : j / n < N := Nat.div_lt_of_lt_mul (Nat.lt_of_lt_of_le hlt hl)
  refine List.all_eq_true.mp (h (j / n) hi) e (List.mem_of_getElem? (i := j % n) ?_)
  rw [List.getElem?_take_of_lt (Nat.mod_lt _ hn), List.getElem?_drop, Nat.div_add_mod]
  exact hj
theorem am_lk0 : ((am_P255.drop (40 * 0)).take 40).all (am_rowB 16 false (some .boolean) code) = true := by decide +kernel
theorem am_lk1 : ((am_P255.drop (40 * 1)).take 40).all (am_rowB 16 false (some .boolean) code) = true := by decide +kernel
theorem am_lk2 : ((am_P255.drop (40 * 2)).take 40).all (am_rowB 16 false (some .boolean) code) = true := by decide +kernel
theorem am_lk3 : ((am_P255.drop (40 * 3)).take 40).all (am_rowB 16 false (some .boolean) code) = true := by decide +kernel
theorem am_lk4 : ((am_P255.drop (40 * 4)).take 40).all (am_rowB 16 false (some .boolean) code) = true := by decide +kernel
theorem am_lk5 : ((am_P255.drop (40 * 5)).take 40).all (am_rowB 16 false (some .boolean) code) = true := by decide +kernel
theorem am_lk6 : ((am_P255.drop (40 * 6)).take 40).all (am_rowB 16 false (some .boolean) code) = true := by decide +kernel
theorem am_lk7 : ((am_P255.drop (40 * 7)).take 40).all (am_rowB 16 false (some .boolean) code) = true := by decide +kernel
theorem am_lk8 : ((am_P255.drop (40 * 8)).take 40).all (am_rowB 16 false (some .boolean) code) = true := by decide +kernel
theorem am_lk9 : ((am_P255.drop (40 * 9)).take 40).all (am_rowB 16 false (some .boolean) code) = true := by decide +kernel
theorem am_lk10 : ((am_P255.drop (40 * 10)).take 40).all (am_rowB 16 false (some .boolean) code) = true := by decide +kernel
theorem am_lk11 : ((am_P255.drop (40 * 11)).take 40).all (am_rowB 16 false (some .boolean) code) = true := by decide +kernel
theorem am_lk12 : ((am_P255.drop (40 * 12)).take 40).all (am_rowB 16 false (some .boolean) code) = true := by decide +kernel
theorem am_lk13 : ((am_P255.drop (40 * 13)).take 40).all (am_rowB 16 false (some .boolean) code) = true := by decide +kernel
theorem am_lk14 : ((am_P255.drop (40 * 14)).take 40).all (am_rowB 16 false (some .boolean) code) = true := by decide +kernel
theorem am_lk15 : ((am_P255.drop (40 * 15)).take 40).all (am_rowB 16 false (some .boolean) code) = true := by decide +kernel
theorem am_lk16 : ((am_P255.drop (40 * 16)).take 40).all (am_rowB 16 false (some .boolean) code) = true := by decide +kernel
theorem am_lk17 : ((am_P255.drop (40 * 17)).take 40).all (am_rowB 16 false (some .boolean) code) = true := by decide +kernel
theorem am_lk18 : ((am_P255.drop (40 * 18)).take 40).all (am_rowB 16 false (some .boolean) code) = true := by decide +kernel
theorem am_lk19 : ((am_P255.drop (40 * 19)).take 40).all (am_rowB 16 false (some .boolean) code) = true := by decide +kernel
theorem am_lk20 : ((am_P255.drop (40 * 20)).take 40).all (am_rowB 16 false (some .boolean) code) = true := by decide +kernel
theorem am_lk21 : ((am_P255.drop (40 * 21)).take 40).all (am_rowB 16 false (some .boolean) code) = true := by decide +kernel
theorem am_lk22 : ((am_P255.drop (40 * 22)).take 40).all (am_rowB 16 false (some .boolean) code) = true := by decide +kernel
theorem am_lk23 : ((am_P255.drop (40 * 23)).take 40).all (am_rowB 16 false (some .boolean) code) = true := by decide +kernel
theorem am_lk24 : ((am_P255.drop (40 * 24)).take 40).all (am_rowB 16 false (some .boolean) code) = true := by decide +kernel
theorem am_lk25 : ((am_P255.drop (40 * 25)).take 40).all (am_rowB 16 false (some .boolean) code) = true := by decide +kernel
theorem am_lk26 : ((am_P255.drop (40 * 26)).take 40).all (am_rowB 16 false (some .boolean) code) = true := by decide +kernel
theorem am_lkA : ∀ i, i < 27 → ((am_P255.drop (40 * i)).take 40).all (am_rowB 16 false (some .boolean) code) = true := by
  intro i hi
  have hm : i ∈ ([0, 1, 2, 3, 4, 5, 6, 7, 8, 9, 10, 11, 12, 13, 14, 15, 16, 17, 18, 19, 20, 21, 22, 23, 24, 25, 26] : List Nat) := List.mem_range.mpr hi
  revert i
  suffices hs : ∀ i ∈ ([0, 1, 2, 3, 4, 5, 6, 7, 8, 9, 10, 11, 12, 13, 14, 15, 16, 17, 18, 19, 20, 21, 22, 23, 24, 25, 26] : List Nat), ((am_P255.drop (40 * i)).take 40).all (am_rowB 16 false (some .boolean) code) = true from fun i _ hm => hs i hm
  refine List.forall_mem_cons.mpr ⟨am_lk0, ?_⟩
  refine List.forall_mem_cons.mpr ⟨am_lk1, ?_⟩
  refine List.forall_mem_cons.mpr ⟨am_lk2, ?_⟩
  refine List.forall_mem_cons.mpr ⟨am_lk3, ?_⟩
  refine List.forall_mem_cons.mpr ⟨am_lk4, ?_⟩
  refine List.forall_mem_cons.mpr ⟨am_lk5, ?_⟩
  refine List.forall_mem_cons.mpr ⟨am_lk6, ?_⟩
  refine List.forall_mem_cons.mpr ⟨am_lk7, ?_⟩
  refine List.forall_mem_cons.mpr ⟨am_lk8, ?_⟩
  refine List.forall_mem_cons.mpr ⟨am_lk9, ?_⟩
  refine List.forall_mem_cons.mpr ⟨am_lk10, ?_⟩
  refine List.forall_mem_cons.mpr ⟨am_lk11, ?_⟩
  refine List.forall_mem_cons.mpr ⟨am_lk12, ?_⟩
  refine List.forall_mem_cons.mpr ⟨am_lk13, ?_⟩
  refine List.forall_mem_cons.mpr ⟨am_lk14, ?_⟩
  refine List.forall_mem_cons.mpr ⟨am_lk15, ?_⟩
  refine List.forall_mem_cons.mpr ⟨am_lk16, ?_⟩
  refine List.forall_mem_cons.mpr ⟨am_lk17, ?_⟩
  refine List.forall_mem_cons.mpr ⟨am_lk18, ?_⟩
  refine List.forall_mem_cons.mpr ⟨am_lk19, ?_⟩
  refine List.forall_mem_cons.mpr ⟨am_lk20, ?_⟩
  refine List.forall_mem_cons.mpr ⟨am_lk21, ?_⟩
  refine List.forall_mem_cons.mpr ⟨am_lk22, ?_⟩
  refine List.forall_mem_cons.mpr ⟨am_lk23, ?_⟩
  refine List.forall_mem_cons.mpr ⟨am_lk24, ?_⟩
  refine List.forall_mem_cons.mpr ⟨am_lk25, ?_⟩
  refine List.forall_mem_cons.mpr ⟨am_lk26, ?_⟩
  exact fun _ h => absurd h List.not_mem_nil
theorem am_lawP : ∀ e ∈ am_P255, am_eP (am_on 16) "law" code (some .boolean) e := am_rowBok (fun h => by cases h) (am_chunk (n := 40) (N := 27) (by decide) (by decide +kernel) am_lkA)
