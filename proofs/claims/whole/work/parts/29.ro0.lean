/-! THE ENTRY, 2: the read-only things -/
theorem am_isRef {args : Array Value} {s : State} {t : Term} (h : (Cond.isRef t).before args s = true) : ∃ (ts : Nat) (nl : Int32), t.eval args s none [] s = some (if nl = 1 then .null else .ref ts) := by
  cases hv : t.eval args s none [] s with
  | none => simp [Cond.before, Cond.holds, Cond.value, hv] at h
  | some v => cases v <;> first | exact ⟨_, 0, rfl⟩ | exact ⟨0, 1, rfl⟩ | simp [Cond.before, Cond.holds, Cond.value, hv] at h
def am_tm (i : Nat) : Term := .string "BookedEmpty$Reader" (([93, 95, 97, 99, 101, 112, 118] : List Nat).getD i 0)
def am_rd0 (ta tb ts b : Nat) (adK adV : Nat → Nat) : Nat → Nat → Nat := fun c i => if c = 200 then ta else if c = 201 then tb else if c = 202 then adV i else if c = 203 then adK i else if c = 204 then b else ts
set_option maxRecDepth 100000 in
set_option maxHeartbeats 4000000 in
theorem am_ro0 {s : State} {b L : Nat} {xs : Nat → Int32} (hts : ∀ w ∈ lw_tbl, w.before #[Value.ref b] s = true) (hgv : (Jvm.Cond.and given_1 narrow_1).before #[Value.ref b] s = true) (hX : va_X b L xs s s.heap) (hbl : b < s.heap.size) (hL : L ≤ 3072) :
    ∃ (rd : Nat → Nat → Nat) (X : am_X), X.1 = L ∧ rd 204 0 = b ∧ am_RO X (fun q => s.heap.size ≤ q) rd s s.heap := by
  have hs := flat_of_before _ hgv
  have hA : ∀ a : Nat, a < s.heap.size → ¬ (fun q : Nat => s.heap.size ≤ q) a := fun a h => Nat.not_le.mpr h
  obtain ⟨ta, ea, Ta⟩ := va_Tof (tm := .static "BookedEmpty" "ABOVE" "[I") (ty := .int) (N := 7) (f := fun j => .int (am_ro (0, fun _ => 0) 200 0 j)) (A := fun q : Nat => s.heap.size ≤ q) (by decide) (hs _ (by decide +kernel)) (va_eqt (hs _ (by decide +kernel)))
    (fun j hj => va_eqt (hs _ ((show ∀ j, j < 7 → Cond.eq (.elem (.static "BookedEmpty" "ABOVE" "[I") (.int (Int32.ofNat j))) (.int (am_ro (0, fun _ => 0) 200 0 j)) ∈ _ from by decide +kernel) j hj))) hA
  obtain ⟨tb, eb, Tb⟩ := va_Tof (tm := .static "BookedEmpty$Acts" "BODIES" "[I") (ty := .int) (N := 21) (f := fun j => .int (am_ro (0, fun _ => 0) 201 0 j)) (A := fun q : Nat => s.heap.size ≤ q) (by decide) (hs _ (by decide +kernel)) (va_eqt (hs _ (by decide +kernel)))
    (fun j hj => va_eqt (hs _ ((show ∀ j, j < 21 → Cond.eq (.elem (.static "BookedEmpty$Acts" "BODIES" "[I") (.int (Int32.ofNat j))) (.int (am_ro (0, fun _ => 0) 201 0 j)) ∈ _ from by decide +kernel) j hj))) hA
  obtain ⟨ts, nl, es⟩ := am_isRef (t := .static "jdk/internal/util/Preconditions" "SIOOBE_FORMATTER" "Ljava/util/function/BiFunction;") (hs _ (by decide +kernel))
  obtain ⟨adK, adV, hS, hev⟩ := vk_Sof (N := 7) (tm := am_tm) (len := am_slen) (byt := am_sbyt) (A := fun q : Nat => s.heap.size ≤ q) (by decide +kernel)
    (fun i hi => hs _ ((show ∀ i, i < 7 → Cond.exactly (am_tm i) "java/lang/String" ∈ _ from by decide +kernel) i hi))
    (fun i hi => hs _ ((show ∀ i, i < 7 → Cond.eq (.field (am_tm i) "java/lang/String" "coder" "B") (.int 0) ∈ _ from by decide +kernel) i hi))
    (fun i hi => hs _ ((show ∀ i, i < 7 → Cond.arrayOf (.field (am_tm i) "java/lang/String" "value" "[B") .byte ∈ _ from by decide +kernel) i hi))
    (fun i hi => hs _ ((show ∀ i, i < 7 → Cond.eq (.length (.field (am_tm i) "java/lang/String" "value" "[B")) (.int (Int32.ofNat (am_slen.getD i 0))) ∈ _ from by decide +kernel) i hi))
    (fun i hi j hj => hs _ ((show ∀ i, i < 7 → ∀ j, j < am_slen.getD i 0 → Cond.eq (.elem (.field (am_tm i) "java/lang/String" "value" "[B") (.int (Int32.ofNat j))) (.int ((am_sbyt.getD i []).getD j 0)) ∈ _ from by decide +kernel) i hi j hj))
    (fun i j hi hj hij => by
      rcases Nat.lt_or_gt_of_ne hij with h | h
      · exact Or.inl (hs _ ((show ∀ i, i < 7 → ∀ j, j < 7 → i < j → Cond.not (Cond.eq (am_tm i) (am_tm j)) ∈ _ from by decide +kernel) i hi j hj h))
      · exact Or.inr (hs _ ((show ∀ i, i < 7 → ∀ j, j < 7 → i < j → Cond.not (Cond.eq (am_tm i) (am_tm j)) ∈ _ from by decide +kernel) j hj i hi h))) hA
  have hX2 : va_X b L (fun j => if j = 4096 then nl else xs j) s s.heap := by
    obtain ⟨scr, h1, h2, h3, h4, h5⟩ := hX
    exact ⟨scr, h1, h2, h3, h4, fun j hj => (h5 j hj).trans (congrArg (fun x => some (Value.int x)) (if_neg (show ¬ j = 4096 by omega)).symm)⟩
  have e4 : am_cv (am_rd0 ta tb ts b adK adV) (am_fm (L, fun j => if j = 4096 then nl else xs j)) = (if nl = 1 then .null else .ref ts) := by
    have h4 : ((L, fun j => if j = 4096 then nl else xs j) : am_X).2 4096 = nl := rfl
    unfold am_fm
    rw [h4]
    split <;> rfl
  refine ⟨am_rd0 ta tb ts b adK adV, (L, fun j => if j = 4096 then nl else xs j), rfl, rfl, ⟨?_, Ta⟩, ⟨?_, Tb⟩, ?_, ?_, hS, ?_, ?_, ?_, ?_, ?_, hX2, Nat.not_le.mpr hbl, hbl⟩
  · exact va_Zof (hts _ (by decide +kernel)) (hts _ (by decide +kernel)) ea hA
  · exact va_Zof (hts _ (by decide +kernel)) (hts _ (by decide +kernel)) eb hA
  · exact va_Zof (hts _ (by decide +kernel)) (hts _ (by decide +kernel)) (va_eqt (hs _ (by decide +kernel))) hA
  · rw [e4]
    exact va_Zof (hts _ (by decide +kernel)) (hts _ (by decide +kernel)) es hA
  · unfold am_strs
    refine List.forall_mem_cons.mpr ⟨vk_R.of (hts _ (by decide +kernel)) (hev 0 (by decide)), ?_⟩
    refine List.forall_mem_cons.mpr ⟨vk_R.of (hts _ (by decide +kernel)) (hev 1 (by decide)), ?_⟩
    refine List.forall_mem_cons.mpr ⟨vk_R.of (hts _ (by decide +kernel)) (hev 2 (by decide)), ?_⟩
    refine List.forall_mem_cons.mpr ⟨vk_R.of (hts _ (by decide +kernel)) (hev 3 (by decide)), ?_⟩
    refine List.forall_mem_cons.mpr ⟨vk_R.of (hts _ (by decide +kernel)) (hev 4 (by decide)), ?_⟩
    refine List.forall_mem_cons.mpr ⟨vk_R.of (hts _ (by decide +kernel)) (hev 5 (by decide)), ?_⟩
    refine List.forall_mem_cons.mpr ⟨vk_R.of (hts _ (by decide +kernel)) (hev 6 (by decide)), ?_⟩
    exact fun _ h => absurd h List.not_mem_nil
  · intro x hx
    exact va_Nw.of rfl (hts _ ((show ∀ x ∈ am_nestM, Cond.methodLinkNest x.1 x.2.1 x.2.2.1 x.2.2.2 ∈ lw_tbl from by decide +kernel) x hx))
  · intro x hx
    exact va_Nw.of rfl (hts _ ((show ∀ x ∈ am_nestF, Cond.fieldLinkNest x.1 x.2.1 x.2.2.1 x.2.2.2.1 x.2.2.2.2.1 x.2.2.2.2.2 ∈ lw_tbl from by decide +kernel) x hx))
  · intro C hC
    exact va_AO.of (hts _ ((show ∀ C ∈ am_over, Cond.arrayOver (.object C) ∈ lw_tbl from by decide +kernel) C hC))
  · intro t ht
    exact hts _ ((show ∀ t ∈ am_overA, Cond.arrayOver (.array t) ∈ lw_tbl from by decide +kernel) t ht)
