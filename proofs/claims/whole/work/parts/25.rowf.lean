/-! WHAT A ROW MUST BE, by a check (by program, with the lemmas) -/
def am_clC : List Nat := [0, 1, 2, 3, 4, 5, 6, 7, 8, 9, 50]
def am_clP (c : Nat) : Prop := c < 200 ∧ am_tk c = 9 ∧ am_CL[am_ci c]? = some (am_k c) ∧ (am_k c).2.2 = am_nf c ∧ (∀ w ∈ u_ws (am_k c).1 (am_k c).2.1 (am_k c).2.2, w ∈ am_tbl) ∧
  (∃ ty0 : Nat → FieldType, (∀ k, k < (am_k c).2.2 → parseFieldDescriptor ((am_k c).2.1 k).2.2.1 = some (ty0 k)) ∧
    (∀ k, k < (am_k c).2.2 → defaultValue (ty0 k) = (match am_fk c k with | 1 => Value.long 0 | 2 => .null | _ => .int 0)) ∧
    (∀ k, k < (am_k c).2.2 → (am_fk c k = 0 → ty0 k = .int) ∧ (am_fk c k = 3 → ty0 k = .boolean) ∧ (am_fk c k = 2 → (ty0 k).isReference = true))) ∧
  (∀ a, a < (am_k c).2.2 → ∀ b, b < (am_k c).2.2 → a ≠ b → ((am_k c).2.1 a).2.1 ≠ ((am_k c).2.1 b).2.1) ∧
  (∀ k, k < (am_k c).2.2 → ((am_k c).2.1 k).1 = (am_k c).1) ∧ Cond.instantiable (am_k c).1 (am_nf c) ∈ am_tbl ∧ Cond.initialized (am_k c).1 ∈ am_tbl
theorem am_clOk : ∀ c ∈ am_clC, am_clP c := by
  unfold am_clC
  refine List.forall_mem_cons.mpr ⟨⟨by decide, by decide +kernel, by rfl, by decide +kernel, am_ly0, ⟨am_t0_0, am_t0ok0, am_df0, am_pu0⟩, am_nmd0, am_dc0, am_tb (am_in1 (List.mem_of_getElem? (i := 78) rfl)) rfl, am_tb (am_in1 (List.mem_of_getElem? (i := 3) rfl)) rfl⟩, ?_⟩
  refine List.forall_mem_cons.mpr ⟨⟨by decide, by decide +kernel, by rfl, by decide +kernel, am_ly1, ⟨am_t0_1, am_t0ok1, am_df1, am_pu1⟩, am_nmd1, am_dc1, am_tb (am_in1 (List.mem_of_getElem? (i := 194) rfl)) rfl, am_tb (am_in1 (List.mem_of_getElem? (i := 9) rfl)) rfl⟩, ?_⟩
  refine List.forall_mem_cons.mpr ⟨⟨by decide, by decide +kernel, by rfl, by decide +kernel, am_ly2, ⟨am_t0_2, am_t0ok2, am_df2, am_pu2⟩, am_nmd2, am_dc2, am_tb (am_in1 (List.mem_of_getElem? (i := 146) rfl)) rfl, am_tb (am_in1 (List.mem_of_getElem? (i := 6) rfl)) rfl⟩, ?_⟩
  refine List.forall_mem_cons.mpr ⟨⟨by decide, by decide +kernel, by rfl, by decide +kernel, am_ly3, ⟨am_t0_3, am_t0ok3, am_df3, am_pu3⟩, am_nmd3, am_dc3, am_tb (am_in1 (List.mem_of_getElem? (i := 113) rfl)) rfl, am_tb (am_in1 (List.mem_of_getElem? (i := 5) rfl)) rfl⟩, ?_⟩
  refine List.forall_mem_cons.mpr ⟨⟨by decide, by decide +kernel, by rfl, by decide +kernel, am_ly4, ⟨am_t0_4, am_t0ok4, am_df4, am_pu4⟩, am_nmd4, am_dc4, am_tb (am_in2 (List.mem_of_getElem? (i := 52) rfl)) rfl, am_tb (am_in1 (List.mem_of_getElem? (i := 10) rfl)) rfl⟩, ?_⟩
  refine List.forall_mem_cons.mpr ⟨⟨by decide, by decide +kernel, by rfl, by decide +kernel, am_ly5, ⟨am_t0_5, am_t0ok5, am_df5, am_pu5⟩, am_nmd5, am_dc5, am_tb (am_in1 (List.mem_of_getElem? (i := 173) rfl)) rfl, am_tb (am_in1 (List.mem_of_getElem? (i := 8) rfl)) rfl⟩, ?_⟩
  refine List.forall_mem_cons.mpr ⟨⟨by decide, by decide +kernel, by rfl, by decide +kernel, am_ly6, ⟨am_t0_6, am_t0ok6, am_df6, am_pu6⟩, am_nmd6, am_dc6, am_tb (am_in1 (List.mem_of_getElem? (i := 156) rfl)) rfl, am_tb (am_in1 (List.mem_of_getElem? (i := 7) rfl)) rfl⟩, ?_⟩
  refine List.forall_mem_cons.mpr ⟨⟨by decide, by decide +kernel, by rfl, by decide +kernel, am_ly7, ⟨am_t0_7, am_t0ok7, am_df7, am_pu7⟩, am_nmd7, am_dc7, am_tb (am_in1 (List.mem_of_getElem? (i := 93) rfl)) rfl, am_tb (am_in1 (List.mem_of_getElem? (i := 4) rfl)) rfl⟩, ?_⟩
  refine List.forall_mem_cons.mpr ⟨⟨by decide, by decide +kernel, by rfl, by decide +kernel, am_ly8, ⟨am_t0_8, am_t0ok8, am_df8, am_pu8⟩, am_nmd8, am_dc8, am_tb (am_in1 (List.mem_of_getElem? (i := 32) rfl)) rfl, am_tb (am_in1 (List.mem_of_getElem? (i := 2) rfl)) rfl⟩, ?_⟩
  refine List.forall_mem_cons.mpr ⟨⟨by decide, by decide +kernel, by rfl, by decide +kernel, am_ly9, ⟨am_t0_9, am_t0ok9, am_df9, am_pu9⟩, am_nmd9, am_dc9, am_tb (am_in1 (List.mem_of_getElem? (i := 22) rfl)) rfl, am_tb (am_in1 (List.mem_of_getElem? (i := 1) rfl)) rfl⟩, ?_⟩
  refine List.forall_mem_cons.mpr ⟨⟨by decide, by decide +kernel, by rfl, by decide +kernel, am_ly50, ⟨am_t0_50, am_t0ok50, am_df50, am_pu50⟩, am_nmd50, am_dc50, am_tb (am_in5 (List.mem_of_getElem? (i := 25) rfl)) rfl, am_tb (am_in1 (List.mem_of_getElem? (i := 11) rfl)) rfl⟩, ?_⟩
  exact fun _ h => absurd h List.not_mem_nil
def am_fB (o i : Nat) (r : Nat × Nat × Nat) : Bool := am_clC.any (Nat.beq r.1) && (Nat.blt r.2.1 (am_nf r.1) && (Nat.beq (am_fk r.1 r.2.1) r.2.2 && am_fll.any (fun x => Nat.beq x.1 o && (Nat.beq x.2.1 i && (Nat.beq x.2.2.1 r.1 && Nat.beq x.2.2.2 r.2.1)))))
theorem am_clB {c : Nat} (h : am_clC.any (Nat.beq c) = true) : am_clP c := by
  obtain ⟨x, hx, hb⟩ := List.any_eq_true.mp h
  have e : c = x := Nat.eq_of_beq_eq_true hb
  exact e ▸ am_clOk x hx
theorem am_fBok {o i : Nat} {r : Nat × Nat × Nat} (h : am_fB o i r = true) : am_fQ (am_on o) i r := by
  unfold am_fB at h
  rw [Bool.and_eq_true, Bool.and_eq_true, Bool.and_eq_true] at h
  obtain ⟨h1, h2, h3, h4⟩ := h
  obtain ⟨c1, c2, c3, c4, c5, ⟨ty, t1, t2, t3⟩, c6, c7, c8, c9⟩ := am_clB h1
  obtain ⟨x, hx, hb⟩ := List.any_eq_true.mp h4
  rw [Bool.and_eq_true, Bool.and_eq_true, Bool.and_eq_true] at hb
  obtain ⟨b1, b2, b3, b4⟩ := hb
  have b1 := Nat.eq_of_beq_eq_true b1
  have b2 := Nat.eq_of_beq_eq_true b2
  have b3 := Nat.eq_of_beq_eq_true b3
  have b4 := Nat.eq_of_beq_eq_true b4
  have h2 : r.2.1 < am_nf r.1 := Nat.le_of_ble_eq_true h2
  have hl := am_flOk x hx
  unfold am_flP at hl
  rw [b1, b2, b3, b4] at hl
  exact ⟨c1, c2, c3, c4, h2, Nat.eq_of_beq_eq_true h3, c7 _ (c4 ▸ h2), hl, c5⟩
def am_pB (o : Nat) (ini : Bool) (r : Nat × Nat × Nat) : Bool := !((am_k r.1).2.1 r.2.1).2.2.2 || (ini && decide ((am_k r.1).1 = am_on o))
theorem am_narrow_ref {ty : FieldType} (h : ty.isReference = true) (a : Nat) : narrow ty (.ref a) = .ref a ∧ fits ty (.ref a) = true := by
  cases ty <;> first | exact ⟨rfl, rfl⟩ | cases h
theorem am_pBok {o i : Nat} {ini : Bool} {nm : String} {r : Nat × Nat × Nat} (hi : ini = true → nm = "<init>") (h : am_fB o i r = true) (hp : am_pB o ini r = true) : am_pQ (am_on o) nm r := by
  have hf := am_fBok h
  unfold am_fB at h
  rw [Bool.and_eq_true] at h
  obtain ⟨c1, c2, c3, c4, c5, ⟨ty, t1, t2, t3⟩, c6, c7, c8, c9⟩ := am_clB h.1
  have hj : r.2.1 < (am_k r.1).2.2 := c4 ▸ hf.2.2.2.2.1
  refine ⟨⟨ty, t1⟩, c6, ?_, ty r.2.1, t1 _ hj, ?_, ?_, ?_⟩
  · unfold am_pB at hp
    rw [Bool.or_eq_true, Bool.and_eq_true] at hp
    cases hb : ((am_k r.1).2.1 r.2.1).2.2.2 with
    | false => exact Or.inl rfl
    | true =>
      rw [hb] at hp
      rcases hp with hp | hp
      · cases hp
      · exact Or.inr ⟨rfl, hi hp.1, of_decide_eq_true hp.2⟩
  · intro q; exact (t3 _ hj).1 (hf.2.2.2.2.2.1.trans q)
  · intro q; exact (t3 _ hj).2.1 (hf.2.2.2.2.2.1.trans q)
  · intro q a; exact am_narrow_ref ((t3 _ hj).2.2 (hf.2.2.2.2.2.1.trans q)) a
theorem am_newOk {o i c : Nat} {nm : String} {ret : Option FieldType} {pc : Nat} {sw : List (Int × Nat)} (h : am_clP c) (hl : Cond.classLink (am_on o) i (am_k c).1 ∈ am_tbl) : am_eQ (am_on o) nm ret pc (.new i) (c, 0, 0) sw := by
  obtain ⟨c1, c2, c3, c4, c5, ⟨ty, t1, t2, t3⟩, c6, c7, c8, c9⟩ := h
  exact ⟨c1, c2, c3, c4, hl, c8, c9, c5, ty, t1, t2⟩
def am_spP (x : Nat × Instr × (Nat × Nat × Nat)) : Prop := ∀ (nm : String) (ret : Option FieldType) (pc : Nat) (sw : List (Int × Nat)), am_eQ (am_on x.1) nm ret pc x.2.1 x.2.2 sw
theorem am_sp0 : am_spP (9, .anewarray 11, (31, 0, 0)) := fun nm ret pc sw => by
  show am_eQ _ nm ret pc _ _ sw
  unfold am_eQ
  exact ⟨by decide, by decide +kernel, "BookedEmpty$Office", by decide +kernel, by decide +kernel, am_tb (am_in1 (List.mem_of_getElem? (i := 29) rfl)) rfl⟩
theorem am_sp1 : am_spP (2, .anewarray 17, (13, 0, 0)) := fun nm ret pc sw => by
  show am_eQ _ nm ret pc _ _ sw
  unfold am_eQ
  exact ⟨by decide, by decide +kernel, "BookedEmpty$Hour", by decide +kernel, by decide +kernel, am_tb (am_in1 (List.mem_of_getElem? (i := 153) rfl)) rfl⟩
theorem am_sp2 : am_spP (2, .anewarray 9, (12, 0, 0)) := fun nm ret pc sw => by
  show am_eQ _ nm ret pc _ _ sw
  unfold am_eQ
  exact ⟨by decide, by decide +kernel, "BookedEmpty$Room", by decide +kernel, by decide +kernel, am_tb (am_in1 (List.mem_of_getElem? (i := 151) rfl)) rfl⟩
theorem am_sp3 : am_spP (13, .getfield 15, (203, 1, 0)) := fun nm ret pc sw => by
  show am_eQ _ nm ret pc _ _ sw
  unfold am_eQ
  exact Or.inr ⟨rfl, Or.inr ⟨rfl, rfl, am_tb (am_in8 (List.mem_of_getElem? (i := 4) rfl)) rfl⟩⟩
theorem am_sp4 : am_spP (13, .getfield 9, (203, 0, 2)) := fun nm ret pc sw => by
  show am_eQ _ nm ret pc _ _ sw
  unfold am_eQ
  exact Or.inr ⟨rfl, Or.inl ⟨rfl, rfl, am_tb (am_in8 (List.mem_of_getElem? (i := 3) rfl)) rfl⟩⟩
theorem am_sp5 : am_spP (13, .getstatic 1053, (205, 0, 1)) := fun nm ret pc sw => by
  show am_eQ _ nm ret pc _ _ sw
  unfold am_eQ
  exact Or.inr (Or.inl ⟨rfl, am_tb (am_in3 (List.mem_of_getElem? (i := 84) rfl)) rfl⟩)
theorem am_sp6 : am_spP (0, .getstatic 19, (201, 0, 1)) := fun nm ret pc sw => by
  show am_eQ _ nm ret pc _ _ sw
  unfold am_eQ
  exact Or.inr (Or.inr (Or.inr (Or.inl ⟨rfl, am_tb (am_in4 (List.mem_of_getElem? (i := 198) rfl)) rfl⟩)))
theorem am_sp7 : am_spP (0, .getstatic 26, (200, 0, 1)) := fun nm ret pc sw => by
  show am_eQ _ nm ret pc _ _ sw
  unfold am_eQ
  exact Or.inr (Or.inr (Or.inl ⟨rfl, Or.inr ⟨_, List.mem_of_getElem? (i := 0) rfl⟩⟩))
theorem am_sp8 : am_spP (9, .getstatic 334, (200, 0, 1)) := fun nm ret pc sw => by
  show am_eQ _ nm ret pc _ _ sw
  unfold am_eQ
  exact Or.inr (Or.inr (Or.inl ⟨rfl, Or.inl (am_tb (am_in4 (List.mem_of_getElem? (i := 218) rfl)) rfl)⟩))
theorem am_sp9 : am_spP (13, .getstatic 38, (1, 0, 0)) := fun nm ret pc sw => by
  show am_eQ _ nm ret pc _ _ sw
  unfold am_eQ
  exact Or.inl ⟨rfl, am_tb (am_in3 (List.mem_of_getElem? (i := 68) rfl)) rfl⟩
theorem am_sp10 : am_spP (7, .invokespecial 1, (0, 0, 30)) := fun nm ret pc sw => by
  show am_eQ _ nm ret pc _ _ sw
  unfold am_eQ
  exact Or.inr (Or.inl ⟨rfl, am_tb (am_in1 (List.mem_of_getElem? (i := 97) rfl)) rfl, am_tb (am_in1 (List.mem_of_getElem? (i := 27) rfl)) rfl, am_tb (am_in1 (List.mem_of_getElem? (i := 28) rfl)) rfl⟩)
theorem am_sp11 : am_spP (10, .invokespecial 1, (0, 0, 30)) := fun nm ret pc sw => by
  show am_eQ _ nm ret pc _ _ sw
  unfold am_eQ
  exact Or.inr (Or.inl ⟨rfl, am_tb (am_in5 (List.mem_of_getElem? (i := 29) rfl)) rfl, am_tb (am_in1 (List.mem_of_getElem? (i := 27) rfl)) rfl, am_tb (am_in1 (List.mem_of_getElem? (i := 28) rfl)) rfl⟩)
theorem am_sp12 : am_spP (0, .invokespecial 3, (0, 0, 30)) := fun nm ret pc sw => by
  show am_eQ _ nm ret pc _ _ sw
  unfold am_eQ
  exact Or.inr (Or.inl ⟨rfl, am_tb (am_in1 (List.mem_of_getElem? (i := 82) rfl)) rfl, am_tb (am_in1 (List.mem_of_getElem? (i := 27) rfl)) rfl, am_tb (am_in1 (List.mem_of_getElem? (i := 28) rfl)) rfl⟩)
theorem am_sp13 : am_spP (1, .invokespecial 3, (0, 0, 30)) := fun nm ret pc sw => by
  show am_eQ _ nm ret pc _ _ sw
  unfold am_eQ
  exact Or.inr (Or.inl ⟨rfl, am_tb (am_in1 (List.mem_of_getElem? (i := 198) rfl)) rfl, am_tb (am_in1 (List.mem_of_getElem? (i := 27) rfl)) rfl, am_tb (am_in1 (List.mem_of_getElem? (i := 28) rfl)) rfl⟩)
theorem am_sp14 : am_spP (2, .invokespecial 3, (0, 0, 30)) := fun nm ret pc sw => by
  show am_eQ _ nm ret pc _ _ sw
  unfold am_eQ
  exact Or.inr (Or.inl ⟨rfl, am_tb (am_in1 (List.mem_of_getElem? (i := 150) rfl)) rfl, am_tb (am_in1 (List.mem_of_getElem? (i := 27) rfl)) rfl, am_tb (am_in1 (List.mem_of_getElem? (i := 28) rfl)) rfl⟩)
theorem am_sp15 : am_spP (3, .invokespecial 3, (0, 0, 30)) := fun nm ret pc sw => by
  show am_eQ _ nm ret pc _ _ sw
  unfold am_eQ
  exact Or.inr (Or.inl ⟨rfl, am_tb (am_in1 (List.mem_of_getElem? (i := 117) rfl)) rfl, am_tb (am_in1 (List.mem_of_getElem? (i := 27) rfl)) rfl, am_tb (am_in1 (List.mem_of_getElem? (i := 28) rfl)) rfl⟩)
theorem am_sp16 : am_spP (4, .invokespecial 3, (0, 0, 30)) := fun nm ret pc sw => by
  show am_eQ _ nm ret pc _ _ sw
  unfold am_eQ
  exact Or.inr (Or.inl ⟨rfl, am_tb (am_in2 (List.mem_of_getElem? (i := 56) rfl)) rfl, am_tb (am_in1 (List.mem_of_getElem? (i := 27) rfl)) rfl, am_tb (am_in1 (List.mem_of_getElem? (i := 28) rfl)) rfl⟩)
theorem am_sp17 : am_spP (5, .invokespecial 3, (0, 0, 30)) := fun nm ret pc sw => by
  show am_eQ _ nm ret pc _ _ sw
  unfold am_eQ
  exact Or.inr (Or.inl ⟨rfl, am_tb (am_in1 (List.mem_of_getElem? (i := 177) rfl)) rfl, am_tb (am_in1 (List.mem_of_getElem? (i := 27) rfl)) rfl, am_tb (am_in1 (List.mem_of_getElem? (i := 28) rfl)) rfl⟩)
theorem am_sp18 : am_spP (6, .invokespecial 3, (0, 0, 30)) := fun nm ret pc sw => by
  show am_eQ _ nm ret pc _ _ sw
  unfold am_eQ
  exact Or.inr (Or.inl ⟨rfl, am_tb (am_in1 (List.mem_of_getElem? (i := 160) rfl)) rfl, am_tb (am_in1 (List.mem_of_getElem? (i := 27) rfl)) rfl, am_tb (am_in1 (List.mem_of_getElem? (i := 28) rfl)) rfl⟩)
theorem am_sp19 : am_spP (8, .invokespecial 3, (0, 0, 30)) := fun nm ret pc sw => by
  show am_eQ _ nm ret pc _ _ sw
  unfold am_eQ
  exact Or.inr (Or.inl ⟨rfl, am_tb (am_in1 (List.mem_of_getElem? (i := 36) rfl)) rfl, am_tb (am_in1 (List.mem_of_getElem? (i := 27) rfl)) rfl, am_tb (am_in1 (List.mem_of_getElem? (i := 28) rfl)) rfl⟩)
theorem am_sp20 : am_spP (9, .invokespecial 3, (0, 0, 30)) := fun nm ret pc sw => by
  show am_eQ _ nm ret pc _ _ sw
  unfold am_eQ
  exact Or.inr (Or.inl ⟨rfl, am_tb (am_in1 (List.mem_of_getElem? (i := 26) rfl)) rfl, am_tb (am_in1 (List.mem_of_getElem? (i := 27) rfl)) rfl, am_tb (am_in1 (List.mem_of_getElem? (i := 28) rfl)) rfl⟩)
theorem am_sp21 : am_spP (8, .invokestatic 102, (0, 0, 40)) := fun nm ret pc sw => by
  show am_eQ _ nm ret pc _ _ sw
  unfold am_eQ
  exact Or.inr (Or.inr (Or.inl ⟨rfl, am_tb (am_in4 (List.mem_of_getElem? (i := 35) rfl)) rfl, am_tb (am_in4 (List.mem_of_getElem? (i := 37) rfl)) rfl, am_tb (am_in4 (List.mem_of_getElem? (i := 36) rfl)) rfl, am_tb (am_in1 (List.mem_of_getElem? (i := 19) rfl)) rfl⟩))
theorem am_sp22 : am_spP (9, .invokestatic 359, (0, 0, 40)) := fun nm ret pc sw => by
  show am_eQ _ nm ret pc _ _ sw
  unfold am_eQ
  exact Or.inr (Or.inr (Or.inl ⟨rfl, am_tb (am_in5 (List.mem_of_getElem? (i := 23) rfl)) rfl, am_tb (am_in4 (List.mem_of_getElem? (i := 37) rfl)) rfl, am_tb (am_in4 (List.mem_of_getElem? (i := 36) rfl)) rfl, am_tb (am_in1 (List.mem_of_getElem? (i := 19) rfl)) rfl⟩))
theorem am_sp23 : am_spP (14, .invokestatic 38, (1, 2, 81)) := fun nm ret pc sw => by
  show am_eQ _ nm ret pc _ _ sw
  unfold am_eQ
  exact Or.inr (Or.inl ⟨rfl, am_tb (am_in1 (List.mem_of_getElem? (i := 12) rfl)) rfl, Or.inr ⟨by decide, am_tb (am_in3 (List.mem_of_getElem? (i := 159) rfl)) rfl, am_tb (am_in2 (List.mem_of_getElem? (i := 147) rfl)) rfl, am_tb (am_in2 (List.mem_of_getElem? (i := 148) rfl)) rfl⟩⟩)
theorem am_sp24 : am_spP (3, .invokestatic 42, (0, 2, 81)) := fun nm ret pc sw => by
  show am_eQ _ nm ret pc _ _ sw
  unfold am_eQ
  exact Or.inr (Or.inl ⟨rfl, am_tb (am_in1 (List.mem_of_getElem? (i := 12) rfl)) rfl, Or.inl ⟨rfl, am_tb (am_in2 (List.mem_of_getElem? (i := 187) rfl)) rfl, am_tb (am_in2 (List.mem_of_getElem? (i := 154) rfl)) rfl, am_tb (am_in2 (List.mem_of_getElem? (i := 155) rfl)) rfl⟩⟩)
theorem am_sp25 : am_spP (4, .invokestatic 56, (1, 2, 81)) := fun nm ret pc sw => by
  show am_eQ _ nm ret pc _ _ sw
  unfold am_eQ
  exact Or.inr (Or.inl ⟨rfl, am_tb (am_in1 (List.mem_of_getElem? (i := 12) rfl)) rfl, Or.inr ⟨by decide, am_tb (am_in3 (List.mem_of_getElem? (i := 116) rfl)) rfl, am_tb (am_in2 (List.mem_of_getElem? (i := 147) rfl)) rfl, am_tb (am_in2 (List.mem_of_getElem? (i := 148) rfl)) rfl⟩⟩)
theorem am_sp26 : am_spP (4, .invokestatic 62, (0, 2, 81)) := fun nm ret pc sw => by
  show am_eQ _ nm ret pc _ _ sw
  unfold am_eQ
  exact Or.inr (Or.inl ⟨rfl, am_tb (am_in1 (List.mem_of_getElem? (i := 12) rfl)) rfl, Or.inl ⟨rfl, am_tb (am_in3 (List.mem_of_getElem? (i := 117) rfl)) rfl, am_tb (am_in2 (List.mem_of_getElem? (i := 154) rfl)) rfl, am_tb (am_in2 (List.mem_of_getElem? (i := 155) rfl)) rfl⟩⟩)
theorem am_sp27 : am_spP (2, .invokestatic 77, (0, 2, 81)) := fun nm ret pc sw => by
  show am_eQ _ nm ret pc _ _ sw
  unfold am_eQ
  exact Or.inr (Or.inl ⟨rfl, am_tb (am_in1 (List.mem_of_getElem? (i := 12) rfl)) rfl, Or.inl ⟨rfl, am_tb (am_in2 (List.mem_of_getElem? (i := 153) rfl)) rfl, am_tb (am_in2 (List.mem_of_getElem? (i := 154) rfl)) rfl, am_tb (am_in2 (List.mem_of_getElem? (i := 155) rfl)) rfl⟩⟩)
theorem am_sp28 : am_spP (2, .invokestatic 86, (1, 2, 81)) := fun nm ret pc sw => by
  show am_eQ _ nm ret pc _ _ sw
  unfold am_eQ
  exact Or.inr (Or.inl ⟨rfl, am_tb (am_in1 (List.mem_of_getElem? (i := 12) rfl)) rfl, Or.inr ⟨by decide, am_tb (am_in2 (List.mem_of_getElem? (i := 146) rfl)) rfl, am_tb (am_in2 (List.mem_of_getElem? (i := 147) rfl)) rfl, am_tb (am_in2 (List.mem_of_getElem? (i := 148) rfl)) rfl⟩⟩)
theorem am_sp29 : am_spP (14, .invokestatic 92, (0, 2, 81)) := fun nm ret pc sw => by
  show am_eQ _ nm ret pc _ _ sw
  unfold am_eQ
  exact Or.inr (Or.inl ⟨rfl, am_tb (am_in1 (List.mem_of_getElem? (i := 12) rfl)) rfl, Or.inl ⟨rfl, am_tb (am_in3 (List.mem_of_getElem? (i := 158) rfl)) rfl, am_tb (am_in2 (List.mem_of_getElem? (i := 154) rfl)) rfl, am_tb (am_in2 (List.mem_of_getElem? (i := 155) rfl)) rfl⟩⟩)
theorem am_sp30 : am_spP (4, .ldc 101, (203, 4, 2)) := fun nm ret pc sw => by
  show am_eQ _ nm ret pc _ _ sw
  unfold am_eQ
  exact ⟨fun h => absurd h (by decide), fun _ => ⟨rfl, by decide, "", List.mem_of_getElem? (i := 4) rfl⟩⟩
theorem am_sp31 : am_spP (4, .ldc 112, (203, 5, 2)) := fun nm ret pc sw => by
  show am_eQ _ nm ret pc _ _ sw
  unfold am_eQ
  exact ⟨fun h => absurd h (by decide), fun _ => ⟨rfl, by decide, "hrkvps", List.mem_of_getElem? (i := 5) rfl⟩⟩
theorem am_sp32 : am_spP (4, .ldc 118, (203, 6, 2)) := fun nm ret pc sw => by
  show am_eQ _ nm ret pc _ _ sw
  unfold am_eQ
  exact ⟨fun h => absurd h (by decide), fun _ => ⟨rfl, by decide, "<=>", List.mem_of_getElem? (i := 6) rfl⟩⟩
theorem am_sp33 : am_spP (4, .ldc 93, (203, 0, 2)) := fun nm ret pc sw => by
  show am_eQ _ nm ret pc _ _ sw
  unfold am_eQ
  exact ⟨fun h => absurd h (by decide), fun _ => ⟨rfl, by decide, "like ", List.mem_of_getElem? (i := 0) rfl⟩⟩
theorem am_sp34 : am_spP (4, .ldc 95, (203, 1, 2)) := fun nm ret pc sw => by
  show am_eQ _ nm ret pc _ _ sw
  unfold am_eQ
  exact ⟨fun h => absurd h (by decide), fun _ => ⟨rfl, by decide, "mind ", List.mem_of_getElem? (i := 1) rfl⟩⟩
theorem am_sp35 : am_spP (4, .ldc 97, (203, 2, 2)) := fun nm ret pc sw => by
  show am_eQ _ nm ret pc _ _ sw
  unfold am_eQ
  exact ⟨fun h => absurd h (by decide), fun _ => ⟨rfl, by decide, "hold ", List.mem_of_getElem? (i := 2) rfl⟩⟩
theorem am_sp36 : am_spP (4, .ldc 99, (203, 3, 2)) := fun nm ret pc sw => by
  show am_eQ _ nm ret pc _ _ sw
  unfold am_eQ
  exact ⟨fun h => absurd h (by decide), fun _ => ⟨rfl, by decide, "day ", List.mem_of_getElem? (i := 3) rfl⟩⟩
theorem am_sp37 : am_spP (8, .multianewarray 19 2, (26, 27, 0)) := fun nm ret pc sw => by
  show am_eQ _ nm ret pc _ _ sw
  unfold am_eQ
  exact ⟨by decide, by decide, by decide, by decide, by decide +kernel, Or.inl ⟨by decide +kernel, by decide +kernel⟩, by decide +kernel, by decide +kernel, am_tb (am_in1 (List.mem_of_getElem? (i := 37) rfl)) rfl, am_tb (am_in1 (List.mem_of_getElem? (i := 75) rfl)) rfl⟩
theorem am_sp38 : am_spP (6, .multianewarray 9 2, (18, 19, 0)) := fun nm ret pc sw => by
  show am_eQ _ nm ret pc _ _ sw
  unfold am_eQ
  exact ⟨by decide, by decide, by decide, by decide, by decide +kernel, Or.inl ⟨by decide +kernel, by decide +kernel⟩, by decide +kernel, by decide +kernel, am_tb (am_in1 (List.mem_of_getElem? (i := 161) rfl)) rfl, am_tb (am_in1 (List.mem_of_getElem? (i := 75) rfl)) rfl⟩
theorem am_sp39 : am_spP (7, .multianewarray 9 2, (20, 21, 0)) := fun nm ret pc sw => by
  show am_eQ _ nm ret pc _ _ sw
  unfold am_eQ
  exact ⟨by decide, by decide, by decide, by decide, by decide +kernel, Or.inr ⟨by decide +kernel, by decide +kernel⟩, by decide +kernel, by decide +kernel, am_tb (am_in1 (List.mem_of_getElem? (i := 98) rfl)) rfl, am_tb (am_in1 (List.mem_of_getElem? (i := 76) rfl)) rfl⟩
theorem am_sp40 : am_spP (16, .new 10, (50, 0, 0)) := fun nm ret pc sw => by
  exact am_newOk (am_clB (c := 50) (by decide +kernel)) (am_tb (am_in5 (List.mem_of_getElem? (i := 24) rfl)) rfl)
theorem am_sp41 : am_spP (9, .new 11, (3, 0, 0)) := fun nm ret pc sw => by
  exact am_newOk (am_clB (c := 3) (by decide +kernel)) (am_tb (am_in1 (List.mem_of_getElem? (i := 29) rfl)) rfl)
theorem am_sp42 : am_spP (2, .new 17, (1, 0, 0)) := fun nm ret pc sw => by
  exact am_newOk (am_clB (c := 1) (by decide +kernel)) (am_tb (am_in1 (List.mem_of_getElem? (i := 153) rfl)) rfl)
theorem am_sp43 : am_spP (9, .new 17, (8, 0, 0)) := fun nm ret pc sw => by
  exact am_newOk (am_clB (c := 8) (by decide +kernel)) (am_tb (am_in1 (List.mem_of_getElem? (i := 31) rfl)) rfl)
theorem am_sp44 : am_spP (2, .new 23, (6, 0, 0)) := fun nm ret pc sw => by
  exact am_newOk (am_clB (c := 6) (by decide +kernel)) (am_tb (am_in1 (List.mem_of_getElem? (i := 155) rfl)) rfl)
theorem am_sp45 : am_spP (9, .new 24, (0, 0, 0)) := fun nm ret pc sw => by
  exact am_newOk (am_clB (c := 0) (by decide +kernel)) (am_tb (am_in1 (List.mem_of_getElem? (i := 77) rfl)) rfl)
theorem am_sp46 : am_spP (9, .new 31, (7, 0, 0)) := fun nm ret pc sw => by
  exact am_newOk (am_clB (c := 7) (by decide +kernel)) (am_tb (am_in1 (List.mem_of_getElem? (i := 92) rfl)) rfl)
theorem am_sp47 : am_spP (9, .new 39, (2, 0, 0)) := fun nm ret pc sw => by
  exact am_newOk (am_clB (c := 2) (by decide +kernel)) (am_tb (am_in1 (List.mem_of_getElem? (i := 145) rfl)) rfl)
theorem am_sp48 : am_spP (9, .new 54, (4, 0, 0)) := fun nm ret pc sw => by
  exact am_newOk (am_clB (c := 4) (by decide +kernel)) (am_tb (am_in2 (List.mem_of_getElem? (i := 51) rfl)) rfl)
theorem am_sp49 : am_spP (16, .new 7, (9, 0, 0)) := fun nm ret pc sw => by
  exact am_newOk (am_clB (c := 9) (by decide +kernel)) (am_tb (am_in1 (List.mem_of_getElem? (i := 21) rfl)) rfl)
theorem am_sp50 : am_spP (2, .new 9, (5, 0, 0)) := fun nm ret pc sw => by
  exact am_newOk (am_clB (c := 5) (by decide +kernel)) (am_tb (am_in1 (List.mem_of_getElem? (i := 151) rfl)) rfl)
theorem am_sp51 : am_spP (10, .newarray .boolean, (68, 0, 0)) := fun nm ret pc sw => by
  show am_eQ _ nm ret pc _ _ sw
  unfold am_eQ
  exact ⟨by decide, by decide +kernel, by decide +kernel, by decide +kernel, by decide +kernel, by decide +kernel, by decide +kernel, am_tb (am_in6 (List.mem_of_getElem? (i := 40) rfl)) rfl⟩
theorem am_sp52 : am_spP (10, .newarray .boolean, (71, 0, 0)) := fun nm ret pc sw => by
  show am_eQ _ nm ret pc _ _ sw
  unfold am_eQ
  exact ⟨by decide, by decide +kernel, by decide +kernel, by decide +kernel, by decide +kernel, by decide +kernel, by decide +kernel, am_tb (am_in6 (List.mem_of_getElem? (i := 40) rfl)) rfl⟩
theorem am_sp53 : am_spP (10, .newarray .boolean, (72, 0, 0)) := fun nm ret pc sw => by
  show am_eQ _ nm ret pc _ _ sw
  unfold am_eQ
  exact ⟨by decide, by decide +kernel, by decide +kernel, by decide +kernel, by decide +kernel, by decide +kernel, by decide +kernel, am_tb (am_in6 (List.mem_of_getElem? (i := 40) rfl)) rfl⟩
theorem am_sp54 : am_spP (10, .newarray .boolean, (74, 0, 0)) := fun nm ret pc sw => by
  show am_eQ _ nm ret pc _ _ sw
  unfold am_eQ
  exact ⟨by decide, by decide +kernel, by decide +kernel, by decide +kernel, by decide +kernel, by decide +kernel, by decide +kernel, am_tb (am_in6 (List.mem_of_getElem? (i := 40) rfl)) rfl⟩
theorem am_sp55 : am_spP (10, .newarray .boolean, (75, 0, 0)) := fun nm ret pc sw => by
  show am_eQ _ nm ret pc _ _ sw
  unfold am_eQ
  exact ⟨by decide, by decide +kernel, by decide +kernel, by decide +kernel, by decide +kernel, by decide +kernel, by decide +kernel, am_tb (am_in6 (List.mem_of_getElem? (i := 40) rfl)) rfl⟩
theorem am_sp56 : am_spP (10, .newarray .boolean, (79, 0, 0)) := fun nm ret pc sw => by
  show am_eQ _ nm ret pc _ _ sw
  unfold am_eQ
  exact ⟨by decide, by decide +kernel, by decide +kernel, by decide +kernel, by decide +kernel, by decide +kernel, by decide +kernel, am_tb (am_in6 (List.mem_of_getElem? (i := 40) rfl)) rfl⟩
theorem am_sp57 : am_spP (10, .newarray .boolean, (100, 0, 0)) := fun nm ret pc sw => by
  show am_eQ _ nm ret pc _ _ sw
  unfold am_eQ
  exact ⟨by decide, by decide +kernel, by decide +kernel, by decide +kernel, by decide +kernel, by decide +kernel, by decide +kernel, am_tb (am_in6 (List.mem_of_getElem? (i := 40) rfl)) rfl⟩
theorem am_sp58 : am_spP (4, .newarray .byte, (17, 0, 0)) := fun nm ret pc sw => by
  show am_eQ _ nm ret pc _ _ sw
  unfold am_eQ
  exact ⟨by decide, by decide +kernel, by decide +kernel, by decide +kernel, by decide +kernel, by decide +kernel, by decide +kernel, am_tb (am_in2 (List.mem_of_getElem? (i := 74) rfl)) rfl⟩
theorem am_sp59 : am_spP (0, .newarray .int, (10, 0, 0)) := fun nm ret pc sw => by
  show am_eQ _ nm ret pc _ _ sw
  unfold am_eQ
  exact ⟨by decide, by decide +kernel, by decide +kernel, by decide +kernel, by decide +kernel, by decide +kernel, by decide +kernel, am_tb (am_in1 (List.mem_of_getElem? (i := 75) rfl)) rfl⟩
theorem am_sp60 : am_spP (1, .newarray .int, (11, 0, 0)) := fun nm ret pc sw => by
  show am_eQ _ nm ret pc _ _ sw
  unfold am_eQ
  exact ⟨by decide, by decide +kernel, by decide +kernel, by decide +kernel, by decide +kernel, by decide +kernel, by decide +kernel, am_tb (am_in1 (List.mem_of_getElem? (i := 75) rfl)) rfl⟩
theorem am_sp61 : am_spP (3, .newarray .int, (14, 0, 0)) := fun nm ret pc sw => by
  show am_eQ _ nm ret pc _ _ sw
  unfold am_eQ
  exact ⟨by decide, by decide +kernel, by decide +kernel, by decide +kernel, by decide +kernel, by decide +kernel, by decide +kernel, am_tb (am_in1 (List.mem_of_getElem? (i := 75) rfl)) rfl⟩
theorem am_sp62 : am_spP (3, .newarray .int, (15, 0, 0)) := fun nm ret pc sw => by
  show am_eQ _ nm ret pc _ _ sw
  unfold am_eQ
  exact ⟨by decide, by decide +kernel, by decide +kernel, by decide +kernel, by decide +kernel, by decide +kernel, by decide +kernel, am_tb (am_in1 (List.mem_of_getElem? (i := 75) rfl)) rfl⟩
theorem am_sp63 : am_spP (3, .newarray .int, (16, 0, 0)) := fun nm ret pc sw => by
  show am_eQ _ nm ret pc _ _ sw
  unfold am_eQ
  exact ⟨by decide, by decide +kernel, by decide +kernel, by decide +kernel, by decide +kernel, by decide +kernel, by decide +kernel, am_tb (am_in1 (List.mem_of_getElem? (i := 75) rfl)) rfl⟩
theorem am_sp64 : am_spP (7, .newarray .int, (22, 0, 0)) := fun nm ret pc sw => by
  show am_eQ _ nm ret pc _ _ sw
  unfold am_eQ
  exact ⟨by decide, by decide +kernel, by decide +kernel, by decide +kernel, by decide +kernel, by decide +kernel, by decide +kernel, am_tb (am_in1 (List.mem_of_getElem? (i := 75) rfl)) rfl⟩
theorem am_sp65 : am_spP (7, .newarray .int, (23, 0, 0)) := fun nm ret pc sw => by
  show am_eQ _ nm ret pc _ _ sw
  unfold am_eQ
  exact ⟨by decide, by decide +kernel, by decide +kernel, by decide +kernel, by decide +kernel, by decide +kernel, by decide +kernel, am_tb (am_in1 (List.mem_of_getElem? (i := 75) rfl)) rfl⟩
theorem am_sp66 : am_spP (8, .newarray .int, (24, 0, 0)) := fun nm ret pc sw => by
  show am_eQ _ nm ret pc _ _ sw
  unfold am_eQ
  exact ⟨by decide, by decide +kernel, by decide +kernel, by decide +kernel, by decide +kernel, by decide +kernel, by decide +kernel, am_tb (am_in1 (List.mem_of_getElem? (i := 75) rfl)) rfl⟩
theorem am_sp67 : am_spP (8, .newarray .int, (29, 0, 0)) := fun nm ret pc sw => by
  show am_eQ _ nm ret pc _ _ sw
  unfold am_eQ
  exact ⟨by decide, by decide +kernel, by decide +kernel, by decide +kernel, by decide +kernel, by decide +kernel, by decide +kernel, am_tb (am_in1 (List.mem_of_getElem? (i := 75) rfl)) rfl⟩
theorem am_sp68 : am_spP (8, .newarray .int, (30, 0, 0)) := fun nm ret pc sw => by
  show am_eQ _ nm ret pc _ _ sw
  unfold am_eQ
  exact ⟨by decide, by decide +kernel, by decide +kernel, by decide +kernel, by decide +kernel, by decide +kernel, by decide +kernel, am_tb (am_in1 (List.mem_of_getElem? (i := 75) rfl)) rfl⟩
theorem am_sp69 : am_spP (10, .newarray .int, (51, 0, 0)) := fun nm ret pc sw => by
  show am_eQ _ nm ret pc _ _ sw
  unfold am_eQ
  exact ⟨by decide, by decide +kernel, by decide +kernel, by decide +kernel, by decide +kernel, by decide +kernel, by decide +kernel, am_tb (am_in1 (List.mem_of_getElem? (i := 75) rfl)) rfl⟩
theorem am_sp70 : am_spP (10, .newarray .int, (52, 0, 0)) := fun nm ret pc sw => by
  show am_eQ _ nm ret pc _ _ sw
  unfold am_eQ
  exact ⟨by decide, by decide +kernel, by decide +kernel, by decide +kernel, by decide +kernel, by decide +kernel, by decide +kernel, am_tb (am_in1 (List.mem_of_getElem? (i := 75) rfl)) rfl⟩
theorem am_sp71 : am_spP (10, .newarray .int, (53, 0, 0)) := fun nm ret pc sw => by
  show am_eQ _ nm ret pc _ _ sw
  unfold am_eQ
  exact ⟨by decide, by decide +kernel, by decide +kernel, by decide +kernel, by decide +kernel, by decide +kernel, by decide +kernel, am_tb (am_in1 (List.mem_of_getElem? (i := 75) rfl)) rfl⟩
theorem am_sp72 : am_spP (10, .newarray .int, (54, 0, 0)) := fun nm ret pc sw => by
  show am_eQ _ nm ret pc _ _ sw
  unfold am_eQ
  exact ⟨by decide, by decide +kernel, by decide +kernel, by decide +kernel, by decide +kernel, by decide +kernel, by decide +kernel, am_tb (am_in1 (List.mem_of_getElem? (i := 75) rfl)) rfl⟩
theorem am_sp73 : am_spP (10, .newarray .int, (55, 0, 0)) := fun nm ret pc sw => by
  show am_eQ _ nm ret pc _ _ sw
  unfold am_eQ
  exact ⟨by decide, by decide +kernel, by decide +kernel, by decide +kernel, by decide +kernel, by decide +kernel, by decide +kernel, am_tb (am_in1 (List.mem_of_getElem? (i := 75) rfl)) rfl⟩
theorem am_sp74 : am_spP (10, .newarray .int, (56, 0, 0)) := fun nm ret pc sw => by
  show am_eQ _ nm ret pc _ _ sw
  unfold am_eQ
  exact ⟨by decide, by decide +kernel, by decide +kernel, by decide +kernel, by decide +kernel, by decide +kernel, by decide +kernel, am_tb (am_in1 (List.mem_of_getElem? (i := 75) rfl)) rfl⟩
theorem am_sp75 : am_spP (10, .newarray .int, (57, 0, 0)) := fun nm ret pc sw => by
  show am_eQ _ nm ret pc _ _ sw
  unfold am_eQ
  exact ⟨by decide, by decide +kernel, by decide +kernel, by decide +kernel, by decide +kernel, by decide +kernel, by decide +kernel, am_tb (am_in1 (List.mem_of_getElem? (i := 75) rfl)) rfl⟩
theorem am_sp76 : am_spP (10, .newarray .int, (58, 0, 0)) := fun nm ret pc sw => by
  show am_eQ _ nm ret pc _ _ sw
  unfold am_eQ
  exact ⟨by decide, by decide +kernel, by decide +kernel, by decide +kernel, by decide +kernel, by decide +kernel, by decide +kernel, am_tb (am_in1 (List.mem_of_getElem? (i := 75) rfl)) rfl⟩
theorem am_sp77 : am_spP (10, .newarray .int, (59, 0, 0)) := fun nm ret pc sw => by
  show am_eQ _ nm ret pc _ _ sw
  unfold am_eQ
  exact ⟨by decide, by decide +kernel, by decide +kernel, by decide +kernel, by decide +kernel, by decide +kernel, by decide +kernel, am_tb (am_in1 (List.mem_of_getElem? (i := 75) rfl)) rfl⟩
theorem am_sp78 : am_spP (10, .newarray .int, (60, 0, 0)) := fun nm ret pc sw => by
  show am_eQ _ nm ret pc _ _ sw
  unfold am_eQ
  exact ⟨by decide, by decide +kernel, by decide +kernel, by decide +kernel, by decide +kernel, by decide +kernel, by decide +kernel, am_tb (am_in1 (List.mem_of_getElem? (i := 75) rfl)) rfl⟩
theorem am_sp79 : am_spP (10, .newarray .int, (61, 0, 0)) := fun nm ret pc sw => by
  show am_eQ _ nm ret pc _ _ sw
  unfold am_eQ
  exact ⟨by decide, by decide +kernel, by decide +kernel, by decide +kernel, by decide +kernel, by decide +kernel, by decide +kernel, am_tb (am_in1 (List.mem_of_getElem? (i := 75) rfl)) rfl⟩
theorem am_sp80 : am_spP (10, .newarray .int, (62, 0, 0)) := fun nm ret pc sw => by
  show am_eQ _ nm ret pc _ _ sw
  unfold am_eQ
  exact ⟨by decide, by decide +kernel, by decide +kernel, by decide +kernel, by decide +kernel, by decide +kernel, by decide +kernel, am_tb (am_in1 (List.mem_of_getElem? (i := 75) rfl)) rfl⟩
theorem am_sp81 : am_spP (10, .newarray .int, (63, 0, 0)) := fun nm ret pc sw => by
  show am_eQ _ nm ret pc _ _ sw
  unfold am_eQ
  exact ⟨by decide, by decide +kernel, by decide +kernel, by decide +kernel, by decide +kernel, by decide +kernel, by decide +kernel, am_tb (am_in1 (List.mem_of_getElem? (i := 75) rfl)) rfl⟩
theorem am_sp82 : am_spP (10, .newarray .int, (64, 0, 0)) := fun nm ret pc sw => by
  show am_eQ _ nm ret pc _ _ sw
  unfold am_eQ
  exact ⟨by decide, by decide +kernel, by decide +kernel, by decide +kernel, by decide +kernel, by decide +kernel, by decide +kernel, am_tb (am_in1 (List.mem_of_getElem? (i := 75) rfl)) rfl⟩
theorem am_sp83 : am_spP (10, .newarray .int, (65, 0, 0)) := fun nm ret pc sw => by
  show am_eQ _ nm ret pc _ _ sw
  unfold am_eQ
  exact ⟨by decide, by decide +kernel, by decide +kernel, by decide +kernel, by decide +kernel, by decide +kernel, by decide +kernel, am_tb (am_in1 (List.mem_of_getElem? (i := 75) rfl)) rfl⟩
theorem am_sp84 : am_spP (10, .newarray .int, (66, 0, 0)) := fun nm ret pc sw => by
  show am_eQ _ nm ret pc _ _ sw
  unfold am_eQ
  exact ⟨by decide, by decide +kernel, by decide +kernel, by decide +kernel, by decide +kernel, by decide +kernel, by decide +kernel, am_tb (am_in1 (List.mem_of_getElem? (i := 75) rfl)) rfl⟩
theorem am_sp85 : am_spP (10, .newarray .int, (67, 0, 0)) := fun nm ret pc sw => by
  show am_eQ _ nm ret pc _ _ sw
  unfold am_eQ
  exact ⟨by decide, by decide +kernel, by decide +kernel, by decide +kernel, by decide +kernel, by decide +kernel, by decide +kernel, am_tb (am_in1 (List.mem_of_getElem? (i := 75) rfl)) rfl⟩
theorem am_sp86 : am_spP (10, .newarray .int, (69, 0, 0)) := fun nm ret pc sw => by
  show am_eQ _ nm ret pc _ _ sw
  unfold am_eQ
  exact ⟨by decide, by decide +kernel, by decide +kernel, by decide +kernel, by decide +kernel, by decide +kernel, by decide +kernel, am_tb (am_in1 (List.mem_of_getElem? (i := 75) rfl)) rfl⟩
theorem am_sp87 : am_spP (10, .newarray .int, (70, 0, 0)) := fun nm ret pc sw => by
  show am_eQ _ nm ret pc _ _ sw
  unfold am_eQ
  exact ⟨by decide, by decide +kernel, by decide +kernel, by decide +kernel, by decide +kernel, by decide +kernel, by decide +kernel, am_tb (am_in1 (List.mem_of_getElem? (i := 75) rfl)) rfl⟩
theorem am_sp88 : am_spP (10, .newarray .int, (73, 0, 0)) := fun nm ret pc sw => by
  show am_eQ _ nm ret pc _ _ sw
  unfold am_eQ
  exact ⟨by decide, by decide +kernel, by decide +kernel, by decide +kernel, by decide +kernel, by decide +kernel, by decide +kernel, am_tb (am_in1 (List.mem_of_getElem? (i := 75) rfl)) rfl⟩
theorem am_sp89 : am_spP (10, .newarray .int, (76, 0, 0)) := fun nm ret pc sw => by
  show am_eQ _ nm ret pc _ _ sw
  unfold am_eQ
  exact ⟨by decide, by decide +kernel, by decide +kernel, by decide +kernel, by decide +kernel, by decide +kernel, by decide +kernel, am_tb (am_in1 (List.mem_of_getElem? (i := 75) rfl)) rfl⟩
theorem am_sp90 : am_spP (10, .newarray .int, (77, 0, 0)) := fun nm ret pc sw => by
  show am_eQ _ nm ret pc _ _ sw
  unfold am_eQ
  exact ⟨by decide, by decide +kernel, by decide +kernel, by decide +kernel, by decide +kernel, by decide +kernel, by decide +kernel, am_tb (am_in1 (List.mem_of_getElem? (i := 75) rfl)) rfl⟩
theorem am_sp91 : am_spP (10, .newarray .int, (78, 0, 0)) := fun nm ret pc sw => by
  show am_eQ _ nm ret pc _ _ sw
  unfold am_eQ
  exact ⟨by decide, by decide +kernel, by decide +kernel, by decide +kernel, by decide +kernel, by decide +kernel, by decide +kernel, am_tb (am_in1 (List.mem_of_getElem? (i := 75) rfl)) rfl⟩
theorem am_sp92 : am_spP (10, .newarray .int, (80, 0, 0)) := fun nm ret pc sw => by
  show am_eQ _ nm ret pc _ _ sw
  unfold am_eQ
  exact ⟨by decide, by decide +kernel, by decide +kernel, by decide +kernel, by decide +kernel, by decide +kernel, by decide +kernel, am_tb (am_in1 (List.mem_of_getElem? (i := 75) rfl)) rfl⟩
theorem am_sp93 : am_spP (10, .newarray .int, (81, 0, 0)) := fun nm ret pc sw => by
  show am_eQ _ nm ret pc _ _ sw
  unfold am_eQ
  exact ⟨by decide, by decide +kernel, by decide +kernel, by decide +kernel, by decide +kernel, by decide +kernel, by decide +kernel, am_tb (am_in1 (List.mem_of_getElem? (i := 75) rfl)) rfl⟩
theorem am_sp94 : am_spP (10, .newarray .int, (82, 0, 0)) := fun nm ret pc sw => by
  show am_eQ _ nm ret pc _ _ sw
  unfold am_eQ
  exact ⟨by decide, by decide +kernel, by decide +kernel, by decide +kernel, by decide +kernel, by decide +kernel, by decide +kernel, am_tb (am_in1 (List.mem_of_getElem? (i := 75) rfl)) rfl⟩
theorem am_sp95 : am_spP (10, .newarray .int, (83, 0, 0)) := fun nm ret pc sw => by
  show am_eQ _ nm ret pc _ _ sw
  unfold am_eQ
  exact ⟨by decide, by decide +kernel, by decide +kernel, by decide +kernel, by decide +kernel, by decide +kernel, by decide +kernel, am_tb (am_in1 (List.mem_of_getElem? (i := 75) rfl)) rfl⟩
theorem am_sp96 : am_spP (10, .newarray .int, (84, 0, 0)) := fun nm ret pc sw => by
  show am_eQ _ nm ret pc _ _ sw
  unfold am_eQ
  exact ⟨by decide, by decide +kernel, by decide +kernel, by decide +kernel, by decide +kernel, by decide +kernel, by decide +kernel, am_tb (am_in1 (List.mem_of_getElem? (i := 75) rfl)) rfl⟩
theorem am_sp97 : am_spP (10, .newarray .int, (85, 0, 0)) := fun nm ret pc sw => by
  show am_eQ _ nm ret pc _ _ sw
  unfold am_eQ
  exact ⟨by decide, by decide +kernel, by decide +kernel, by decide +kernel, by decide +kernel, by decide +kernel, by decide +kernel, am_tb (am_in1 (List.mem_of_getElem? (i := 75) rfl)) rfl⟩
theorem am_sp98 : am_spP (10, .newarray .int, (86, 0, 0)) := fun nm ret pc sw => by
  show am_eQ _ nm ret pc _ _ sw
  unfold am_eQ
  exact ⟨by decide, by decide +kernel, by decide +kernel, by decide +kernel, by decide +kernel, by decide +kernel, by decide +kernel, am_tb (am_in1 (List.mem_of_getElem? (i := 75) rfl)) rfl⟩
theorem am_sp99 : am_spP (10, .newarray .int, (87, 0, 0)) := fun nm ret pc sw => by
  show am_eQ _ nm ret pc _ _ sw
  unfold am_eQ
  exact ⟨by decide, by decide +kernel, by decide +kernel, by decide +kernel, by decide +kernel, by decide +kernel, by decide +kernel, am_tb (am_in1 (List.mem_of_getElem? (i := 75) rfl)) rfl⟩
theorem am_sp100 : am_spP (10, .newarray .int, (88, 0, 0)) := fun nm ret pc sw => by
  show am_eQ _ nm ret pc _ _ sw
  unfold am_eQ
  exact ⟨by decide, by decide +kernel, by decide +kernel, by decide +kernel, by decide +kernel, by decide +kernel, by decide +kernel, am_tb (am_in1 (List.mem_of_getElem? (i := 75) rfl)) rfl⟩
theorem am_sp101 : am_spP (10, .newarray .int, (89, 0, 0)) := fun nm ret pc sw => by
  show am_eQ _ nm ret pc _ _ sw
  unfold am_eQ
  exact ⟨by decide, by decide +kernel, by decide +kernel, by decide +kernel, by decide +kernel, by decide +kernel, by decide +kernel, am_tb (am_in1 (List.mem_of_getElem? (i := 75) rfl)) rfl⟩
theorem am_sp102 : am_spP (10, .newarray .int, (90, 0, 0)) := fun nm ret pc sw => by
  show am_eQ _ nm ret pc _ _ sw
  unfold am_eQ
  exact ⟨by decide, by decide +kernel, by decide +kernel, by decide +kernel, by decide +kernel, by decide +kernel, by decide +kernel, am_tb (am_in1 (List.mem_of_getElem? (i := 75) rfl)) rfl⟩
theorem am_sp103 : am_spP (10, .newarray .int, (91, 0, 0)) := fun nm ret pc sw => by
  show am_eQ _ nm ret pc _ _ sw
  unfold am_eQ
  exact ⟨by decide, by decide +kernel, by decide +kernel, by decide +kernel, by decide +kernel, by decide +kernel, by decide +kernel, am_tb (am_in1 (List.mem_of_getElem? (i := 75) rfl)) rfl⟩
theorem am_sp104 : am_spP (10, .newarray .int, (92, 0, 0)) := fun nm ret pc sw => by
  show am_eQ _ nm ret pc _ _ sw
  unfold am_eQ
  exact ⟨by decide, by decide +kernel, by decide +kernel, by decide +kernel, by decide +kernel, by decide +kernel, by decide +kernel, am_tb (am_in1 (List.mem_of_getElem? (i := 75) rfl)) rfl⟩
theorem am_sp105 : am_spP (10, .newarray .int, (93, 0, 0)) := fun nm ret pc sw => by
  show am_eQ _ nm ret pc _ _ sw
  unfold am_eQ
  exact ⟨by decide, by decide +kernel, by decide +kernel, by decide +kernel, by decide +kernel, by decide +kernel, by decide +kernel, am_tb (am_in1 (List.mem_of_getElem? (i := 75) rfl)) rfl⟩
theorem am_sp106 : am_spP (10, .newarray .int, (94, 0, 0)) := fun nm ret pc sw => by
  show am_eQ _ nm ret pc _ _ sw
  unfold am_eQ
  exact ⟨by decide, by decide +kernel, by decide +kernel, by decide +kernel, by decide +kernel, by decide +kernel, by decide +kernel, am_tb (am_in1 (List.mem_of_getElem? (i := 75) rfl)) rfl⟩
theorem am_sp107 : am_spP (10, .newarray .int, (95, 0, 0)) := fun nm ret pc sw => by
  show am_eQ _ nm ret pc _ _ sw
  unfold am_eQ
  exact ⟨by decide, by decide +kernel, by decide +kernel, by decide +kernel, by decide +kernel, by decide +kernel, by decide +kernel, am_tb (am_in1 (List.mem_of_getElem? (i := 75) rfl)) rfl⟩
theorem am_sp108 : am_spP (10, .newarray .int, (96, 0, 0)) := fun nm ret pc sw => by
  show am_eQ _ nm ret pc _ _ sw
  unfold am_eQ
  exact ⟨by decide, by decide +kernel, by decide +kernel, by decide +kernel, by decide +kernel, by decide +kernel, by decide +kernel, am_tb (am_in1 (List.mem_of_getElem? (i := 75) rfl)) rfl⟩
theorem am_sp109 : am_spP (10, .newarray .int, (97, 0, 0)) := fun nm ret pc sw => by
  show am_eQ _ nm ret pc _ _ sw
  unfold am_eQ
  exact ⟨by decide, by decide +kernel, by decide +kernel, by decide +kernel, by decide +kernel, by decide +kernel, by decide +kernel, am_tb (am_in1 (List.mem_of_getElem? (i := 75) rfl)) rfl⟩
theorem am_sp110 : am_spP (10, .newarray .int, (98, 0, 0)) := fun nm ret pc sw => by
  show am_eQ _ nm ret pc _ _ sw
  unfold am_eQ
  exact ⟨by decide, by decide +kernel, by decide +kernel, by decide +kernel, by decide +kernel, by decide +kernel, by decide +kernel, am_tb (am_in1 (List.mem_of_getElem? (i := 75) rfl)) rfl⟩
theorem am_sp111 : am_spP (10, .newarray .int, (99, 0, 0)) := fun nm ret pc sw => by
  show am_eQ _ nm ret pc _ _ sw
  unfold am_eQ
  exact ⟨by decide, by decide +kernel, by decide +kernel, by decide +kernel, by decide +kernel, by decide +kernel, by decide +kernel, am_tb (am_in1 (List.mem_of_getElem? (i := 75) rfl)) rfl⟩
theorem am_sp112 : am_spP (10, .newarray .int, (101, 0, 0)) := fun nm ret pc sw => by
  show am_eQ _ nm ret pc _ _ sw
  unfold am_eQ
  exact ⟨by decide, by decide +kernel, by decide +kernel, by decide +kernel, by decide +kernel, by decide +kernel, by decide +kernel, am_tb (am_in1 (List.mem_of_getElem? (i := 75) rfl)) rfl⟩
theorem am_sp113 : am_spP (10, .newarray .int, (102, 0, 0)) := fun nm ret pc sw => by
  show am_eQ _ nm ret pc _ _ sw
  unfold am_eQ
  exact ⟨by decide, by decide +kernel, by decide +kernel, by decide +kernel, by decide +kernel, by decide +kernel, by decide +kernel, am_tb (am_in1 (List.mem_of_getElem? (i := 75) rfl)) rfl⟩
theorem am_sp114 : am_spP (10, .newarray .int, (103, 0, 0)) := fun nm ret pc sw => by
  show am_eQ _ nm ret pc _ _ sw
  unfold am_eQ
  exact ⟨by decide, by decide +kernel, by decide +kernel, by decide +kernel, by decide +kernel, by decide +kernel, by decide +kernel, am_tb (am_in1 (List.mem_of_getElem? (i := 75) rfl)) rfl⟩
theorem am_sp115 : am_spP (8, .newarray .long, (25, 0, 0)) := fun nm ret pc sw => by
  show am_eQ _ nm ret pc _ _ sw
  unfold am_eQ
  exact ⟨by decide, by decide +kernel, by decide +kernel, by decide +kernel, by decide +kernel, by decide +kernel, by decide +kernel, am_tb (am_in1 (List.mem_of_getElem? (i := 76) rfl)) rfl⟩
theorem am_sp116 : am_spP (8, .newarray .long, (28, 0, 0)) := fun nm ret pc sw => by
  show am_eQ _ nm ret pc _ _ sw
  unfold am_eQ
  exact ⟨by decide, by decide +kernel, by decide +kernel, by decide +kernel, by decide +kernel, by decide +kernel, by decide +kernel, am_tb (am_in1 (List.mem_of_getElem? (i := 76) rfl)) rfl⟩
theorem am_sp117 : am_spP (10, .newarray .long, (104, 0, 0)) := fun nm ret pc sw => by
  show am_eQ _ nm ret pc _ _ sw
  unfold am_eQ
  exact ⟨by decide, by decide +kernel, by decide +kernel, by decide +kernel, by decide +kernel, by decide +kernel, by decide +kernel, am_tb (am_in1 (List.mem_of_getElem? (i := 76) rfl)) rfl⟩
theorem am_sp118 : am_spP (10, .newarray .long, (105, 0, 0)) := fun nm ret pc sw => by
  show am_eQ _ nm ret pc _ _ sw
  unfold am_eQ
  exact ⟨by decide, by decide +kernel, by decide +kernel, by decide +kernel, by decide +kernel, by decide +kernel, by decide +kernel, am_tb (am_in1 (List.mem_of_getElem? (i := 76) rfl)) rfl⟩
def am_spl : List (Nat × Instr × (Nat × Nat × Nat)) := [(9, .anewarray 11, (31, 0, 0)), (2, .anewarray 17, (13, 0, 0)), (2, .anewarray 9, (12, 0, 0)), (13, .getfield 15, (203, 1, 0)), (13, .getfield 9, (203, 0, 2)), (13, .getstatic 1053, (205, 0, 1)), (0, .getstatic 19, (201, 0, 1)), (0, .getstatic 26, (200, 0, 1)), (9, .getstatic 334, (200, 0, 1)), (13, .getstatic 38, (1, 0, 0)), (7, .invokespecial 1, (0, 0, 30)), (10, .invokespecial 1, (0, 0, 30)), (0, .invokespecial 3, (0, 0, 30)), (1, .invokespecial 3, (0, 0, 30)), (2, .invokespecial 3, (0, 0, 30)), (3, .invokespecial 3, (0, 0, 30)), (4, .invokespecial 3, (0, 0, 30)), (5, .invokespecial 3, (0, 0, 30)), (6, .invokespecial 3, (0, 0, 30)), (8, .invokespecial 3, (0, 0, 30)), (9, .invokespecial 3, (0, 0, 30)), (8, .invokestatic 102, (0, 0, 40)), (9, .invokestatic 359, (0, 0, 40)), (14, .invokestatic 38, (1, 2, 81)), (3, .invokestatic 42, (0, 2, 81)), (4, .invokestatic 56, (1, 2, 81)), (4, .invokestatic 62, (0, 2, 81)), (2, .invokestatic 77, (0, 2, 81)), (2, .invokestatic 86, (1, 2, 81)), (14, .invokestatic 92, (0, 2, 81)), (4, .ldc 101, (203, 4, 2)), (4, .ldc 112, (203, 5, 2)), (4, .ldc 118, (203, 6, 2)), (4, .ldc 93, (203, 0, 2)), (4, .ldc 95, (203, 1, 2)), (4, .ldc 97, (203, 2, 2)), (4, .ldc 99, (203, 3, 2)), (8, .multianewarray 19 2, (26, 27, 0)), (6, .multianewarray 9 2, (18, 19, 0)), (7, .multianewarray 9 2, (20, 21, 0)), (16, .new 10, (50, 0, 0)), (9, .new 11, (3, 0, 0)), (2, .new 17, (1, 0, 0)), (9, .new 17, (8, 0, 0)), (2, .new 23, (6, 0, 0)), (9, .new 24, (0, 0, 0)), (9, .new 31, (7, 0, 0)), (9, .new 39, (2, 0, 0)), (9, .new 54, (4, 0, 0)), (16, .new 7, (9, 0, 0)), (2, .new 9, (5, 0, 0)), (10, .newarray .boolean, (68, 0, 0)), (10, .newarray .boolean, (71, 0, 0)), (10, .newarray .boolean, (72, 0, 0)), (10, .newarray .boolean, (74, 0, 0)), (10, .newarray .boolean, (75, 0, 0)), (10, .newarray .boolean, (79, 0, 0)), (10, .newarray .boolean, (100, 0, 0)), (4, .newarray .byte, (17, 0, 0)), (0, .newarray .int, (10, 0, 0)), (1, .newarray .int, (11, 0, 0)), (3, .newarray .int, (14, 0, 0)), (3, .newarray .int, (15, 0, 0)), (3, .newarray .int, (16, 0, 0)), (7, .newarray .int, (22, 0, 0)), (7, .newarray .int, (23, 0, 0)), (8, .newarray .int, (24, 0, 0)), (8, .newarray .int, (29, 0, 0)), (8, .newarray .int, (30, 0, 0)), (10, .newarray .int, (51, 0, 0)), (10, .newarray .int, (52, 0, 0)), (10, .newarray .int, (53, 0, 0)), (10, .newarray .int, (54, 0, 0)), (10, .newarray .int, (55, 0, 0)), (10, .newarray .int, (56, 0, 0)), (10, .newarray .int, (57, 0, 0)), (10, .newarray .int, (58, 0, 0)), (10, .newarray .int, (59, 0, 0)), (10, .newarray .int, (60, 0, 0)), (10, .newarray .int, (61, 0, 0)), (10, .newarray .int, (62, 0, 0)), (10, .newarray .int, (63, 0, 0)), (10, .newarray .int, (64, 0, 0)), (10, .newarray .int, (65, 0, 0)), (10, .newarray .int, (66, 0, 0)), (10, .newarray .int, (67, 0, 0)), (10, .newarray .int, (69, 0, 0)), (10, .newarray .int, (70, 0, 0)), (10, .newarray .int, (73, 0, 0)), (10, .newarray .int, (76, 0, 0)), (10, .newarray .int, (77, 0, 0)), (10, .newarray .int, (78, 0, 0)), (10, .newarray .int, (80, 0, 0)), (10, .newarray .int, (81, 0, 0)), (10, .newarray .int, (82, 0, 0)), (10, .newarray .int, (83, 0, 0)), (10, .newarray .int, (84, 0, 0)), (10, .newarray .int, (85, 0, 0)), (10, .newarray .int, (86, 0, 0)), (10, .newarray .int, (87, 0, 0)), (10, .newarray .int, (88, 0, 0)), (10, .newarray .int, (89, 0, 0)), (10, .newarray .int, (90, 0, 0)), (10, .newarray .int, (91, 0, 0)), (10, .newarray .int, (92, 0, 0)), (10, .newarray .int, (93, 0, 0)), (10, .newarray .int, (94, 0, 0)), (10, .newarray .int, (95, 0, 0)), (10, .newarray .int, (96, 0, 0)), (10, .newarray .int, (97, 0, 0)), (10, .newarray .int, (98, 0, 0)), (10, .newarray .int, (99, 0, 0)), (10, .newarray .int, (101, 0, 0)), (10, .newarray .int, (102, 0, 0)), (10, .newarray .int, (103, 0, 0)), (8, .newarray .long, (25, 0, 0)), (8, .newarray .long, (28, 0, 0)), (10, .newarray .long, (104, 0, 0)), (10, .newarray .long, (105, 0, 0))]
set_option maxRecDepth 100000 in
theorem am_spOk : ∀ x ∈ am_spl, am_spP x := by
  unfold am_spl
  refine List.forall_mem_cons.mpr ⟨am_sp0, ?_⟩
  refine List.forall_mem_cons.mpr ⟨am_sp1, ?_⟩
  refine List.forall_mem_cons.mpr ⟨am_sp2, ?_⟩
  refine List.forall_mem_cons.mpr ⟨am_sp3, ?_⟩
  refine List.forall_mem_cons.mpr ⟨am_sp4, ?_⟩
  refine List.forall_mem_cons.mpr ⟨am_sp5, ?_⟩
  refine List.forall_mem_cons.mpr ⟨am_sp6, ?_⟩
  refine List.forall_mem_cons.mpr ⟨am_sp7, ?_⟩
  refine List.forall_mem_cons.mpr ⟨am_sp8, ?_⟩
  refine List.forall_mem_cons.mpr ⟨am_sp9, ?_⟩
  refine List.forall_mem_cons.mpr ⟨am_sp10, ?_⟩
  refine List.forall_mem_cons.mpr ⟨am_sp11, ?_⟩
  refine List.forall_mem_cons.mpr ⟨am_sp12, ?_⟩
  refine List.forall_mem_cons.mpr ⟨am_sp13, ?_⟩
  refine List.forall_mem_cons.mpr ⟨am_sp14, ?_⟩
  refine List.forall_mem_cons.mpr ⟨am_sp15, ?_⟩
  refine List.forall_mem_cons.mpr ⟨am_sp16, ?_⟩
  refine List.forall_mem_cons.mpr ⟨am_sp17, ?_⟩
  refine List.forall_mem_cons.mpr ⟨am_sp18, ?_⟩
  refine List.forall_mem_cons.mpr ⟨am_sp19, ?_⟩
  refine List.forall_mem_cons.mpr ⟨am_sp20, ?_⟩
  refine List.forall_mem_cons.mpr ⟨am_sp21, ?_⟩
  refine List.forall_mem_cons.mpr ⟨am_sp22, ?_⟩
  refine List.forall_mem_cons.mpr ⟨am_sp23, ?_⟩
  refine List.forall_mem_cons.mpr ⟨am_sp24, ?_⟩
  refine List.forall_mem_cons.mpr ⟨am_sp25, ?_⟩
  refine List.forall_mem_cons.mpr ⟨am_sp26, ?_⟩
  refine List.forall_mem_cons.mpr ⟨am_sp27, ?_⟩
  refine List.forall_mem_cons.mpr ⟨am_sp28, ?_⟩
  refine List.forall_mem_cons.mpr ⟨am_sp29, ?_⟩
  refine List.forall_mem_cons.mpr ⟨am_sp30, ?_⟩
  refine List.forall_mem_cons.mpr ⟨am_sp31, ?_⟩
  refine List.forall_mem_cons.mpr ⟨am_sp32, ?_⟩
  refine List.forall_mem_cons.mpr ⟨am_sp33, ?_⟩
  refine List.forall_mem_cons.mpr ⟨am_sp34, ?_⟩
  refine List.forall_mem_cons.mpr ⟨am_sp35, ?_⟩
  refine List.forall_mem_cons.mpr ⟨am_sp36, ?_⟩
  refine List.forall_mem_cons.mpr ⟨am_sp37, ?_⟩
  refine List.forall_mem_cons.mpr ⟨am_sp38, ?_⟩
  refine List.forall_mem_cons.mpr ⟨am_sp39, ?_⟩
  refine List.forall_mem_cons.mpr ⟨am_sp40, ?_⟩
  refine List.forall_mem_cons.mpr ⟨am_sp41, ?_⟩
  refine List.forall_mem_cons.mpr ⟨am_sp42, ?_⟩
  refine List.forall_mem_cons.mpr ⟨am_sp43, ?_⟩
  refine List.forall_mem_cons.mpr ⟨am_sp44, ?_⟩
  refine List.forall_mem_cons.mpr ⟨am_sp45, ?_⟩
  refine List.forall_mem_cons.mpr ⟨am_sp46, ?_⟩
  refine List.forall_mem_cons.mpr ⟨am_sp47, ?_⟩
  refine List.forall_mem_cons.mpr ⟨am_sp48, ?_⟩
  refine List.forall_mem_cons.mpr ⟨am_sp49, ?_⟩
  refine List.forall_mem_cons.mpr ⟨am_sp50, ?_⟩
  refine List.forall_mem_cons.mpr ⟨am_sp51, ?_⟩
  refine List.forall_mem_cons.mpr ⟨am_sp52, ?_⟩
  refine List.forall_mem_cons.mpr ⟨am_sp53, ?_⟩
  refine List.forall_mem_cons.mpr ⟨am_sp54, ?_⟩
  refine List.forall_mem_cons.mpr ⟨am_sp55, ?_⟩
  refine List.forall_mem_cons.mpr ⟨am_sp56, ?_⟩
  refine List.forall_mem_cons.mpr ⟨am_sp57, ?_⟩
  refine List.forall_mem_cons.mpr ⟨am_sp58, ?_⟩
  refine List.forall_mem_cons.mpr ⟨am_sp59, ?_⟩
  refine List.forall_mem_cons.mpr ⟨am_sp60, ?_⟩
  refine List.forall_mem_cons.mpr ⟨am_sp61, ?_⟩
  refine List.forall_mem_cons.mpr ⟨am_sp62, ?_⟩
  refine List.forall_mem_cons.mpr ⟨am_sp63, ?_⟩
  refine List.forall_mem_cons.mpr ⟨am_sp64, ?_⟩
  refine List.forall_mem_cons.mpr ⟨am_sp65, ?_⟩
  refine List.forall_mem_cons.mpr ⟨am_sp66, ?_⟩
  refine List.forall_mem_cons.mpr ⟨am_sp67, ?_⟩
  refine List.forall_mem_cons.mpr ⟨am_sp68, ?_⟩
  refine List.forall_mem_cons.mpr ⟨am_sp69, ?_⟩
  refine List.forall_mem_cons.mpr ⟨am_sp70, ?_⟩
  refine List.forall_mem_cons.mpr ⟨am_sp71, ?_⟩
  refine List.forall_mem_cons.mpr ⟨am_sp72, ?_⟩
  refine List.forall_mem_cons.mpr ⟨am_sp73, ?_⟩
  refine List.forall_mem_cons.mpr ⟨am_sp74, ?_⟩
  refine List.forall_mem_cons.mpr ⟨am_sp75, ?_⟩
  refine List.forall_mem_cons.mpr ⟨am_sp76, ?_⟩
  refine List.forall_mem_cons.mpr ⟨am_sp77, ?_⟩
  refine List.forall_mem_cons.mpr ⟨am_sp78, ?_⟩
  refine List.forall_mem_cons.mpr ⟨am_sp79, ?_⟩
  refine List.forall_mem_cons.mpr ⟨am_sp80, ?_⟩
  refine List.forall_mem_cons.mpr ⟨am_sp81, ?_⟩
  refine List.forall_mem_cons.mpr ⟨am_sp82, ?_⟩
  refine List.forall_mem_cons.mpr ⟨am_sp83, ?_⟩
  refine List.forall_mem_cons.mpr ⟨am_sp84, ?_⟩
  refine List.forall_mem_cons.mpr ⟨am_sp85, ?_⟩
  refine List.forall_mem_cons.mpr ⟨am_sp86, ?_⟩
  refine List.forall_mem_cons.mpr ⟨am_sp87, ?_⟩
  refine List.forall_mem_cons.mpr ⟨am_sp88, ?_⟩
  refine List.forall_mem_cons.mpr ⟨am_sp89, ?_⟩
  refine List.forall_mem_cons.mpr ⟨am_sp90, ?_⟩
  refine List.forall_mem_cons.mpr ⟨am_sp91, ?_⟩
  refine List.forall_mem_cons.mpr ⟨am_sp92, ?_⟩
  refine List.forall_mem_cons.mpr ⟨am_sp93, ?_⟩
  refine List.forall_mem_cons.mpr ⟨am_sp94, ?_⟩
  refine List.forall_mem_cons.mpr ⟨am_sp95, ?_⟩
  refine List.forall_mem_cons.mpr ⟨am_sp96, ?_⟩
  refine List.forall_mem_cons.mpr ⟨am_sp97, ?_⟩
  refine List.forall_mem_cons.mpr ⟨am_sp98, ?_⟩
  refine List.forall_mem_cons.mpr ⟨am_sp99, ?_⟩
  refine List.forall_mem_cons.mpr ⟨am_sp100, ?_⟩
  refine List.forall_mem_cons.mpr ⟨am_sp101, ?_⟩
  refine List.forall_mem_cons.mpr ⟨am_sp102, ?_⟩
  refine List.forall_mem_cons.mpr ⟨am_sp103, ?_⟩
  refine List.forall_mem_cons.mpr ⟨am_sp104, ?_⟩
  refine List.forall_mem_cons.mpr ⟨am_sp105, ?_⟩
  refine List.forall_mem_cons.mpr ⟨am_sp106, ?_⟩
  refine List.forall_mem_cons.mpr ⟨am_sp107, ?_⟩
  refine List.forall_mem_cons.mpr ⟨am_sp108, ?_⟩
  refine List.forall_mem_cons.mpr ⟨am_sp109, ?_⟩
  refine List.forall_mem_cons.mpr ⟨am_sp110, ?_⟩
  refine List.forall_mem_cons.mpr ⟨am_sp111, ?_⟩
  refine List.forall_mem_cons.mpr ⟨am_sp112, ?_⟩
  refine List.forall_mem_cons.mpr ⟨am_sp113, ?_⟩
  refine List.forall_mem_cons.mpr ⟨am_sp114, ?_⟩
  refine List.forall_mem_cons.mpr ⟨am_sp115, ?_⟩
  refine List.forall_mem_cons.mpr ⟨am_sp116, ?_⟩
  refine List.forall_mem_cons.mpr ⟨am_sp117, ?_⟩
  refine List.forall_mem_cons.mpr ⟨am_sp118, ?_⟩
  exact fun _ h => absurd h List.not_mem_nil
def am_spB (o : Nat) (ins : Instr) (r : Nat × Nat × Nat) : Bool := am_spl.any (fun x => Nat.beq x.2.2.1 r.1 && (Nat.beq x.2.2.2.1 r.2.1 && (Nat.beq x.2.2.2.2 r.2.2 && (Nat.beq x.1 o && decide (x.2.1 = ins)))))
theorem am_spBok {o : Nat} {ins : Instr} {r : Nat × Nat × Nat} {nm : String} {ret : Option FieldType} {pc : Nat} {sw : List (Int × Nat)} (h : am_spB o ins r = true) : am_eQ (am_on o) nm ret pc ins r sw := by
  obtain ⟨⟨o2, i2, r2⟩, hx, hb⟩ := List.any_eq_true.mp h
  rw [Bool.and_eq_true, Bool.and_eq_true, Bool.and_eq_true, Bool.and_eq_true] at hb
  obtain ⟨b1, b2, b3, b4, b5⟩ := hb
  have b1 : r2.1 = r.1 := Nat.eq_of_beq_eq_true b1
  have b2 : r2.2.1 = r.2.1 := Nat.eq_of_beq_eq_true b2
  have b3 : r2.2.2 = r.2.2 := Nat.eq_of_beq_eq_true b3
  have b4 : o2 = o := Nat.eq_of_beq_eq_true b4
  have b5 : i2 = ins := of_decide_eq_true b5
  have e : r2 = r := Prod.ext b1 (Prod.ext b2 b3)
  subst b4 b5 e
  exact am_spOk _ hx nm ret pc sw
def am_tsB (pc : Nat) (d lo hi : Int) (offs : Array Int) (sw : List (Int × Nat)) (df : Nat) : Bool :=
  decide ((pc : Int) + d = (df : Int)) && (decide (hi = lo + (offs.size : Int) - 1) && (decide (-2147483648 ≤ lo) && (decide (hi < 2147483648) && (Nat.beq sw.length offs.size &&
  (List.range offs.size).all (fun k => match offs[k]?, sw[k]? with | some o, some (x, t) => decide (x = lo + (k : Int)) && decide ((pc : Int) + o = (t : Int)) | _, _ => false)))))
theorem am_tsBok {pc : Nat} {d lo hi : Int} {offs : Array Int} {sw : List (Int × Nat)} {df : Nat} (h : am_tsB pc d lo hi offs sw df = true) : am_tsQ pc d lo hi offs sw df := by
  unfold am_tsB at h
  rw [Bool.and_eq_true, Bool.and_eq_true, Bool.and_eq_true, Bool.and_eq_true, Bool.and_eq_true] at h
  obtain ⟨h1, h2, h3, h4, h5, h6⟩ := h
  refine ⟨of_decide_eq_true h1, of_decide_eq_true h2, of_decide_eq_true h3, of_decide_eq_true h4, Nat.eq_of_beq_eq_true h5, fun k hk => ?_⟩
  have hq := List.all_eq_true.mp h6 k (List.mem_range.mpr hk)
  split at hq
  · rename_i o x t e1 e2
    rw [Bool.and_eq_true] at hq
    exact ⟨o, t, e1, by rw [e2, of_decide_eq_true hq.1], of_decide_eq_true hq.2⟩
  · cases hq
def am_lsB (pc : Nat) (d : Int) (ps : Array (Int × Int)) (sw : List (Int × Nat)) (df : Nat) : Bool :=
  decide ((pc : Int) + d = (df : Int)) && ((ps.toList.zip (ps.toList.drop 1)).all (fun (a, next) => a.1 < next.1) && (Nat.beq sw.length ps.toList.length &&
  (List.range ps.toList.length).all (fun k => match ps.toList[k]?, sw[k]? with | some q, some (x, t) => decide (-2147483648 ≤ q.1) && (decide (q.1 < 2147483648) && (decide (x = q.1) && decide ((pc : Int) + q.2 = (t : Int)))) | _, _ => false)))
theorem am_lsBok {pc : Nat} {d : Int} {ps : Array (Int × Int)} {sw : List (Int × Nat)} {df : Nat} (h : am_lsB pc d ps sw df = true) : am_lsQ pc d ps sw df := by
  unfold am_lsB at h
  rw [Bool.and_eq_true, Bool.and_eq_true, Bool.and_eq_true] at h
  obtain ⟨h1, h2, h3, h6⟩ := h
  refine ⟨of_decide_eq_true h1, h2, Nat.eq_of_beq_eq_true h3, fun k q hk => ?_⟩
  have hlt : k < ps.toList.length := by
    rcases Nat.lt_or_ge k ps.toList.length with h | h
    · exact h
    · rw [List.getElem?_eq_none h] at hk; cases hk
  have hq := List.all_eq_true.mp h6 k (List.mem_range.mpr hlt)
  split at hq
  · rename_i q2 x t e1 e2
    rw [e1] at hk
    cases hk
    rw [Bool.and_eq_true, Bool.and_eq_true, Bool.and_eq_true] at hq
    exact ⟨of_decide_eq_true hq.1, of_decide_eq_true hq.2.1, t, by rw [e2, of_decide_eq_true hq.2.2.1], of_decide_eq_true hq.2.2.2⟩
  · cases hq
def am_l3 (L : List (Nat × Nat × Nat)) (a b c : Nat) : Bool := L.any (fun x => Nat.beq x.1 a && (Nat.beq x.2.1 b && Nat.beq x.2.2 c))
theorem am_l3ok {L : List (Nat × Nat × Nat)} {P : Nat × Nat × Nat → Prop} (hL : ∀ x ∈ L, P x) {a b c : Nat} (h : am_l3 L a b c = true) : P (a, b, c) := by
  obtain ⟨⟨a2, b2, c2⟩, hx, hb⟩ := List.any_eq_true.mp h
  rw [Bool.and_eq_true, Bool.and_eq_true] at hb
  obtain ⟨b1, b2, b3⟩ := hb
  have b1 := Nat.eq_of_beq_eq_true b1
  have b2 := Nat.eq_of_beq_eq_true b2
  have b3 := Nat.eq_of_beq_eq_true b3
  dsimp only at b1 b2 b3
  subst b1 b2 b3
  exact hL _ hx
def am_rB (c : Nat) (cls : String) : Bool := (Nat.beq c 203 && decide (cls = "java/lang/String")) || (am_clC.any (Nat.beq c) && decide ((am_k c).1 = cls))
theorem am_rBok {c : Nat} {cls : String} (h : am_rB c cls = true) : am_rQ c cls := by
  unfold am_rB at h
  rw [Bool.or_eq_true, Bool.and_eq_true, Bool.and_eq_true] at h
  rcases h with h | h
  · exact Or.inl ⟨Nat.eq_of_beq_eq_true h.1, of_decide_eq_true h.2⟩
  · obtain ⟨c1, c2, c3, _⟩ := am_clB h.1
    exact Or.inr ⟨c1, c2, c3, of_decide_eq_true h.2⟩
theorem am_vr : (List.range am_ML.length).all (fun y => match am_ML[y]?, am_mi[y]? with | some mt, some mi => mi.1 || (!mi.2.1 || (Nat.beq (am_mc y) mt.2.2.2.2.2.1 && am_rB mt.2.2.2.2.2.1 mt.1.cls)) | _, _ => false) = true := by decide +kernel
theorem am_miGet {y : Nat} {b hs : Bool} {na : Nat} (h : am_mi[y]? = some (b, hs, na)) (rt : Nat) : ∃ mt, am_mQ y na rt b mt ∧ (hs = true → Cond.selects mt.1.cls mt.1 mt.1 ∈ am_tbl) ∧ (b = false → hs = true → am_mc y = mt.2.2.2.2.2.1 ∧ am_rQ mt.2.2.2.2.2.1 mt.1.cls) := by
  have hl : am_ML.length = am_mi.length := by decide +kernel
  have hy : y < am_mi.length := by
    rcases Nat.lt_or_ge y am_mi.length with h2 | h2
    · exact h2
    · rw [List.getElem?_eq_none h2] at h; cases h
  have hy2 : y < am_ML.length := Nat.lt_of_lt_of_eq hy hl.symm
  have hm : am_ML[y]? = some am_ML[y] := List.getElem?_eq_getElem hy2
  have hz : (am_ML.zip am_mi)[y]? = some (am_ML[y], (b, hs, na)) := List.getElem?_zip_eq_some.mpr ⟨hm, h⟩
  have hq := am_miOk _ (List.mem_of_getElem? hz)
  obtain ⟨q1, q2, q3, q4, q5, q6, q7⟩ := hq
  refine ⟨am_ML[y], ⟨hm, q1, q2, q3, q4, q5, q6⟩, q7, fun e1 e2 => ?_⟩
  have hv := List.all_eq_true.mp am_vr y (List.mem_range.mpr hy2)
  rw [hm, h] at hv
  dsimp only at hv
  rw [e1, e2, Bool.false_or, Bool.not_true, Bool.false_or, Bool.and_eq_true] at hv
  exact ⟨Nat.eq_of_beq_eq_true hv.1, am_rBok hv.2⟩
def am_rt (ret : Option FieldType) : Nat := match ret with
  | none => 0
  | some .int => 1
  | some .boolean => 2
  | some .char => 3
  | some .long => 4
  | some (.object _) => 5
  | some .byte => 6
  | _ => 9
def am_vB (o i : Nat) (r : Nat × Nat × Nat) (st : Bool) : Bool := match am_mi[r.1]? with
  | some (b, hs, na) => (match b, st with | true, true => true | false, false => true | _, _ => false) && ((st || hs) && (Nat.beq na r.2.1))
  | none => false
def am_eB (o : Nat) (ini : Bool) (ret : Option FieldType) (pc : Nat) (ins : Instr) (r : Nat × Nat × Nat) (sw : List (Int × Nat)) : Bool := match ins with
  | .bipush v => decide ((Int8.ofInt v).toInt32 = Int32.ofInt v)
  | .sipush v => decide ((Int16.ofInt v).toInt32 = Int32.ofInt v)
  | .ldc i => (Nat.beq r.2.2 1 && am_l3 am_cil o i r.1) || (Nat.beq r.2.2 2 && am_spB o (.ldc i) r) || Nat.ble 3 r.2.2
  | .ldc_w i => (Nat.beq r.2.2 1 && am_l3 am_cil o i r.1) || Nat.ble 2 r.2.2
  | .ldc2_w i => am_l3 am_cll o i r.1
  | .goto off => decide ((pc : Int) + off = (r.1 : Int))
  | .ifCond _ off => decide ((pc : Int) + off = (r.1 : Int))
  | .if_icmp _ off => decide ((pc : Int) + off = (r.1 : Int))
  | .tableswitch d lo hi offs => am_tsB pc d lo hi offs sw r.1
  | .lookupswitch d ps => am_lsB pc d ps sw r.1
  | .getfield i => am_fB o i r || am_spB o (.getfield i) r
  | .putfield i => am_fB o i r && am_pB o ini r
  | .getstatic i => Nat.ble 2 r.2.2 || am_spB o (.getstatic i) r
  | .new i => am_spB o (.new i) r
  | .newarray a => am_spB o (.newarray a) r
  | .anewarray i => am_spB o (.anewarray i) r
  | .multianewarray i k => am_spB o (.multianewarray i k) r
  | .invokevirtual i => (bif Nat.beq (r.2.2 / 10) 0 then (am_vB o i r false && am_l3 am_mlk o i r.1) else (bif Nat.beq (r.2.2 / 10) 5 then (am_vB o i r false && am_l3 am_nlk o i r.1) else true))
  | .invokestatic i => (bif Nat.beq (r.2.2 / 10) 1 then (am_vB o i r true && am_l3 am_mlk o i r.1) else (bif Nat.beq (r.2.2 / 10) 6 then (am_vB o i r true && am_l3 am_nlk o i r.1) else (bif Nat.beq (r.2.2 / 10) 4 || Nat.beq (r.2.2 / 10) 8 then am_spB o (.invokestatic i) r else true)))
  | .invokespecial i => (bif Nat.beq (r.2.2 / 10) 2 || Nat.beq (r.2.2 / 10) 7 then (match am_mi[r.1]?, am_ML[r.1]? with | some (false, _, na), some mt => Nat.beq na r.2.1 && (decide (mt.1.name = "<init>") && (mt.2.2.2.1.isNone && (bif Nat.beq (r.2.2 / 10) 2 then am_l3 am_mlk o i r.1 else am_l3 am_nlk o i r.1))) | _, _ => false) else (bif Nat.beq (r.2.2 / 10) 3 then am_spB o (.invokespecial i) r else true))
  | .return_ => Nat.beq (am_rt ret) 0
  | .ireturn => (bif Nat.beq r.1 3 then Nat.beq (am_rt ret) 6 else Nat.beq (am_rt ret) (r.1 + 1)) || Nat.ble 4 r.1
  | .lreturn => Nat.beq (am_rt ret) 4
  | .areturn => Nat.beq (am_rt ret) 5
  | _ => true
theorem am_rtN {ret : Option FieldType} (h : am_rt ret = 0) : ret = none := by
  unfold am_rt at h; split at h <;> first | rfl | cases h
theorem am_rt1 {ret : Option FieldType} (h : am_rt ret = 1) : ret = some .int := by
  unfold am_rt at h; split at h <;> first | rfl | cases h
theorem am_rt2 {ret : Option FieldType} (h : am_rt ret = 2) : ret = some .boolean := by
  unfold am_rt at h; split at h <;> first | rfl | cases h
theorem am_rt3 {ret : Option FieldType} (h : am_rt ret = 3) : ret = some .char := by
  unfold am_rt at h; split at h <;> first | rfl | cases h
theorem am_rt4 {ret : Option FieldType} (h : am_rt ret = 4) : ret = some .long := by
  unfold am_rt at h; split at h <;> first | rfl | cases h
theorem am_rt6 {ret : Option FieldType} (h : am_rt ret = 6) : ret = some .byte := by
  unfold am_rt at h; split at h <;> first | rfl | cases h
theorem am_rt5 {ret : Option FieldType} (h : am_rt ret = 5) : ∃ n, ret = some (.object n) := by
  unfold am_rt at h; split at h <;> first | exact ⟨_, rfl⟩ | cases h
theorem am_vBok {o i : Nat} {r : Nat × Nat × Nat} {st : Bool} (h : am_vB o i r st = true) : ∃ mt, am_mQ r.1 r.2.1 (r.2.2 % 10) st mt ∧ (st = false → Cond.selects mt.1.cls mt.1 mt.1 ∈ am_tbl ∧ am_mc r.1 = mt.2.2.2.2.2.1 ∧ am_rQ mt.2.2.2.2.2.1 mt.1.cls) := by
  unfold am_vB at h
  cases hm : am_mi[r.1]? with
  | none => rw [hm] at h; cases h
  | some x =>
    obtain ⟨b, hs, na⟩ := x
    rw [hm] at h
    dsimp only at h
    rw [Bool.and_eq_true, Bool.and_eq_true, Bool.or_eq_true] at h
    obtain ⟨h1, h2, h3⟩ := h
    have h3 := Nat.eq_of_beq_eq_true h3
    subst h3
    have hb : b = st := by
      cases b <;> cases st <;> first | rfl | cases h1
    subst hb
    obtain ⟨mt, q1, q2, q3⟩ := am_miGet hm (r.2.2 % 10)
    refine ⟨mt, q1, fun e => ?_⟩
    have e2 : hs = true := by
      rcases h2 with h2 | h2
      · rw [e] at h2; cases h2
      · exact h2
    exact ⟨q2 e2, (q3 e e2).1, (q3 e e2).2⟩
theorem am_eBok {o : Nat} {ini : Bool} {ret : Option FieldType} {pc : Nat} {ins : Instr} {r : Nat × Nat × Nat} {sw : List (Int × Nat)} {nm : String} (hi : ini = true → nm = "<init>") (h : am_eB o ini ret pc ins r sw = true) : am_eQ (am_on o) nm ret pc ins r sw := by
  cases ins
  case bipush v => show (Int8.ofInt v).toInt32 = Int32.ofInt v; exact of_decide_eq_true h
  case sipush v => show (Int16.ofInt v).toInt32 = Int32.ofInt v; exact of_decide_eq_true h
  case ldc i =>
    have h : ((Nat.beq r.2.2 1 && am_l3 am_cil o i r.1) || (Nat.beq r.2.2 2 && am_spB o (.ldc i) r) || Nat.ble 3 r.2.2) = true := h
    rw [Bool.or_eq_true, Bool.or_eq_true, Bool.and_eq_true, Bool.and_eq_true] at h
    rcases h with (⟨h1, h2⟩ | ⟨h1, h2⟩) | h1
    · have h1 := Nat.eq_of_beq_eq_true h1
      exact ⟨fun _ => am_l3ok am_cilOk h2, fun q => absurd q (by omega)⟩
    · exact am_spBok h2
    · have h1 := Nat.le_of_ble_eq_true h1
      exact ⟨fun q => absurd q (by omega), fun q => absurd q (by omega)⟩
  case ldc_w i =>
    have h : ((Nat.beq r.2.2 1 && am_l3 am_cil o i r.1) || Nat.ble 2 r.2.2) = true := h
    rw [Bool.or_eq_true, Bool.and_eq_true] at h
    rcases h with ⟨h1, h2⟩ | h1
    · exact fun _ => am_l3ok am_cilOk h2
    · have h1 := Nat.le_of_ble_eq_true h1
      exact fun q => absurd q (by omega)
  case ldc2_w i => exact am_l3ok am_cllOk h
  case goto off => show (pc : Int) + off = (r.1 : Int); exact of_decide_eq_true h
  case ifCond c off => show (pc : Int) + off = (r.1 : Int); exact of_decide_eq_true h
  case if_icmp c off => show (pc : Int) + off = (r.1 : Int); exact of_decide_eq_true h
  case tableswitch d lo hi offs => exact am_tsBok h
  case lookupswitch d ps => exact am_lsBok h
  case getfield i =>
    have h : (am_fB o i r || am_spB o (.getfield i) r) = true := h
    rw [Bool.or_eq_true] at h
    rcases h with h | h
    · exact Or.inl (am_fBok h)
    · exact am_spBok h
  case putfield i =>
    have h : (am_fB o i r && am_pB o ini r) = true := h
    rw [Bool.and_eq_true] at h
    exact ⟨am_fBok h.1, am_pBok hi h.1 h.2⟩
  case getstatic i =>
    have h : (Nat.ble 2 r.2.2 || am_spB o (.getstatic i) r) = true := h
    rw [Bool.or_eq_true] at h
    rcases h with h | h
    · have h := Nat.le_of_ble_eq_true h
      exact Or.inr (Or.inr (Or.inr (Or.inr ⟨by omega, by omega⟩)))
    · exact am_spBok h
  case new i => exact am_spBok h
  case newarray a => exact am_spBok h
  case anewarray i => exact am_spBok h
  case multianewarray i k => exact am_spBok h
  case invokevirtual i =>
    have h : (bif Nat.beq (r.2.2 / 10) 0 then (am_vB o i r false && am_l3 am_mlk o i r.1) else (bif Nat.beq (r.2.2 / 10) 5 then (am_vB o i r false && am_l3 am_nlk o i r.1) else true)) = true := h
    cases e0 : Nat.beq (r.2.2 / 10) 0 with
    | true =>
      rw [e0, cond_true, Bool.and_eq_true] at h
      obtain ⟨mt, hm, hr⟩ := am_vBok h.1
      obtain ⟨r1, r2, r3⟩ := hr rfl
      have e0 := Nat.eq_of_beq_eq_true e0
      exact Or.inr ⟨mt, hm, r2, r3, r1, fun _ => am_l3ok am_mlkOk h.2 mt hm.1, fun q => absurd q (by omega)⟩
    | false =>
      rw [e0, cond_false] at h
      have e0 := Nat.ne_of_beq_eq_false e0
      cases e5 : Nat.beq (r.2.2 / 10) 5 with
      | true =>
        rw [e5, cond_true, Bool.and_eq_true] at h
        obtain ⟨mt, hm, hr⟩ := am_vBok h.1
        obtain ⟨r1, r2, r3⟩ := hr rfl
        exact Or.inr ⟨mt, hm, r2, r3, r1, fun q => absurd q e0, fun _ => am_l3ok am_nlkOk h.2 mt hm.1⟩
      | false => exact Or.inl ⟨e0, Nat.ne_of_beq_eq_false e5⟩
  case invokestatic i =>
    have h : (bif Nat.beq (r.2.2 / 10) 1 then (am_vB o i r true && am_l3 am_mlk o i r.1) else (bif Nat.beq (r.2.2 / 10) 6 then (am_vB o i r true && am_l3 am_nlk o i r.1) else (bif Nat.beq (r.2.2 / 10) 4 || Nat.beq (r.2.2 / 10) 8 then am_spB o (.invokestatic i) r else true))) = true := h
    cases e0 : Nat.beq (r.2.2 / 10) 1 with
    | true =>
      rw [e0, cond_true, Bool.and_eq_true] at h
      obtain ⟨mt, hm, hr⟩ := am_vBok h.1
      have e0 := Nat.eq_of_beq_eq_true e0
      exact Or.inr (Or.inr (Or.inr ⟨mt, hm, fun _ => am_l3ok am_mlkOk h.2 mt hm.1, fun q => absurd q (by omega), by omega, by omega⟩))
    | false =>
      rw [e0, cond_false] at h
      have e0 := Nat.ne_of_beq_eq_false e0
      cases e5 : Nat.beq (r.2.2 / 10) 6 with
      | true =>
        rw [e5, cond_true, Bool.and_eq_true] at h
        obtain ⟨mt, hm, hr⟩ := am_vBok h.1
        have e5 := Nat.eq_of_beq_eq_true e5
        exact Or.inr (Or.inr (Or.inr ⟨mt, hm, fun q => absurd q e0, fun _ => am_l3ok am_nlkOk h.2 mt hm.1, by omega, by omega⟩))
      | false =>
        rw [e5, cond_false] at h
        have e5 := Nat.ne_of_beq_eq_false e5
        cases e8 : (Nat.beq (r.2.2 / 10) 4 || Nat.beq (r.2.2 / 10) 8) with
        | true =>
          rw [e8, cond_true] at h
          exact am_spBok h
        | false =>
          rw [Bool.or_eq_false_iff] at e8
          exact Or.inl ⟨e0, e5, Nat.ne_of_beq_eq_false e8.1, Nat.ne_of_beq_eq_false e8.2⟩
  case invokespecial i =>
    have h : (bif Nat.beq (r.2.2 / 10) 2 || Nat.beq (r.2.2 / 10) 7 then (match am_mi[r.1]?, am_ML[r.1]? with | some (false, _, na), some mt => Nat.beq na r.2.1 && (decide (mt.1.name = "<init>") && (mt.2.2.2.1.isNone && (bif Nat.beq (r.2.2 / 10) 2 then am_l3 am_mlk o i r.1 else am_l3 am_nlk o i r.1))) | _, _ => false) else (bif Nat.beq (r.2.2 / 10) 3 then am_spB o (.invokespecial i) r else true)) = true := h
    cases e0 : (Nat.beq (r.2.2 / 10) 2 || Nat.beq (r.2.2 / 10) 7) with
    | true =>
      rw [e0, cond_true] at h
      split at h
      · rename_i hs na mt g1 g2
        rw [Bool.and_eq_true, Bool.and_eq_true, Bool.and_eq_true] at h
        obtain ⟨h1, h2, h3, h4⟩ := h
        have h1 := Nat.eq_of_beq_eq_true h1
        obtain ⟨mt2, q1, q2, q3⟩ := am_miGet g1 (r.2.2 % 10)
        have e : mt2 = mt := Option.some.inj (q1.1.symm.trans g2)
        rw [e, h1] at q1
        have hn : mt.2.2.2.1 = none := Option.isNone_iff_eq_none.mp h3
        cases e2 : Nat.beq (r.2.2 / 10) 2 with
        | true =>
          rw [e2, cond_true] at h4
          have e2 := Nat.eq_of_beq_eq_true e2
          exact Or.inr (Or.inr ⟨mt, q1, of_decide_eq_true h2, hn, fun _ => am_l3ok am_mlkOk h4 mt g2, fun q => absurd q (by omega), by omega⟩)
        | false =>
          rw [e2, cond_false] at h4
          rw [e2, Bool.false_or] at e0
          have e0 := Nat.eq_of_beq_eq_true e0
          have e2 := Nat.ne_of_beq_eq_false e2
          exact Or.inr (Or.inr ⟨mt, q1, of_decide_eq_true h2, hn, fun q => absurd q e2, fun _ => am_l3ok am_nlkOk h4 mt g2, by omega⟩)
      · cases h
    | false =>
      rw [e0, cond_false] at h
      rw [Bool.or_eq_false_iff] at e0
      cases e3 : Nat.beq (r.2.2 / 10) 3 with
      | true =>
        rw [e3, cond_true] at h
        exact am_spBok h
      | false => exact Or.inl ⟨Nat.ne_of_beq_eq_false e3, Nat.ne_of_beq_eq_false e0.1, Nat.ne_of_beq_eq_false e0.2⟩
  case return_ => exact am_rtN (Nat.eq_of_beq_eq_true h)
  case ireturn =>
    have h : ((bif Nat.beq r.1 3 then Nat.beq (am_rt ret) 6 else Nat.beq (am_rt ret) (r.1 + 1)) || Nat.ble 4 r.1) = true := h
    rw [Bool.or_eq_true] at h
    rcases h with h | h
    · cases hb3 : Nat.beq r.1 3 with
      | true =>
        rw [hb3, cond_true] at h
        exact Or.inr (Or.inr (Or.inr (Or.inl ⟨Nat.eq_of_beq_eq_true hb3, am_rt6 (Nat.eq_of_beq_eq_true h)⟩)))
      | false =>
        rw [hb3, cond_false] at h
        have hb3 := Nat.ne_of_beq_eq_false hb3
        have h := Nat.eq_of_beq_eq_true h
        rcases Nat.lt_or_ge 2 r.1 with h2 | h2
        · exact Or.inr (Or.inr (Or.inr (Or.inr (by omega))))
        · have h3 : r.1 = 0 ∨ r.1 = 1 ∨ r.1 = 2 := by omega
          rcases h3 with h3 | h3 | h3
          · rw [h3] at h; exact Or.inl ⟨h3, am_rt1 h⟩
          · rw [h3] at h; exact Or.inr (Or.inl ⟨h3, am_rt2 h⟩)
          · rw [h3] at h; exact Or.inr (Or.inr (Or.inl ⟨h3, am_rt3 h⟩))
    · exact Or.inr (Or.inr (Or.inr (Or.inr (Nat.le_of_ble_eq_true h))))
  case lreturn => exact am_rt4 (Nat.eq_of_beq_eq_true h)
  case areturn => exact am_rt5 (Nat.eq_of_beq_eq_true h)
  all_goals exact trivial
def am_rowB (o : Nat) (ini : Bool) (ret : Option FieldType) (cc : ByteArray) (e : am_E) : Bool :=
  (match decode cc e.1 with | .ok q => decide (q.1 = e.2.1) && Nat.beq q.2 e.2.2.1 | _ => false) &&
  ((Nat.beq e.2.2.1 (am_ln e.2.1) || (match e.2.1 with | .tableswitch _ _ _ _ => true | .lookupswitch _ _ => true | _ => false)) && am_eB o ini ret e.1 e.2.1 e.2.2.2.1 e.2.2.2.2)
theorem am_rowBok {o : Nat} {ini : Bool} {ret : Option FieldType} {cc : ByteArray} {nm : String} {P : List am_E} (hi : ini = true → nm = "<init>") (h : P.all (am_rowB o ini ret cc) = true) : ∀ e ∈ P, am_eP (am_on o) nm cc ret e := by
  intro e he
  have h := List.all_eq_true.mp h e he
  unfold am_rowB at h
  rw [Bool.and_eq_true, Bool.and_eq_true, Bool.or_eq_true] at h
  obtain ⟨h1, h2, h3⟩ := h
  refine ⟨?_, ?_, am_eBok hi h3⟩
  · split at h1
    · rename_i q hq
      rw [Bool.and_eq_true] at h1
      rw [hq, ← of_decide_eq_true h1.1, ← Nat.eq_of_beq_eq_true h1.2]
    · cases h1
  · rcases h2 with h2 | h2
    · exact Or.inl (Nat.eq_of_beq_eq_true h2)
    · split at h2
      · rename_i d lo hi2 offs q; exact Or.inr (Or.inl ⟨_, _, _, _, q⟩)
      · rename_i d ps q; exact Or.inr (Or.inr ⟨_, _, q⟩)
      · cases h2
