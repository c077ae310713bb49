/-! WHAT THE ABSTRACT MACHINE IS WORTH, 3: what a row of a program must be; the rows one by one -/
/-- a switch by a table -/
def am_tsQ (pc : Nat) (d lo hi : Int) (offs : Array Int) (sw : List (Int × Nat)) (df : Nat) : Prop :=
  (pc : Int) + d = (df : Int) ∧ hi = lo + (offs.size : Int) - 1 ∧ -2147483648 ≤ lo ∧ hi < 2147483648 ∧ sw.length = offs.size ∧
  ∀ k : Nat, k < offs.size → ∃ (o : Int) (t : Nat), offs[k]? = some o ∧ sw[k]? = some (lo + (k : Int), t) ∧ (pc : Int) + o = (t : Int)
def am_lsQ (pc : Nat) (d : Int) (ps : Array (Int × Int)) (sw : List (Int × Nat)) (df : Nat) : Prop :=
  (pc : Int) + d = (df : Int) ∧ (ps.toList.zip (ps.toList.drop 1)).all (fun (a, next) => a.1 < next.1) = true ∧
  sw.length = ps.toList.length ∧ ∀ (k : Nat) (q : Int × Int), ps.toList[k]? = some q → -2147483648 ≤ q.1 ∧ q.1 < 2147483648 ∧ ∃ t : Nat, sw[k]? = some (q.1, t) ∧ (pc : Int) + q.2 = (t : Int)
/-- a field of a class of ours -/
def am_fQ (own : String) (i : Nat) (r : Nat × Nat × Nat) : Prop :=
  r.1 < 200 ∧ am_tk r.1 = 9 ∧ am_CL[am_ci r.1]? = some (am_k r.1) ∧ (am_k r.1).2.2 = am_nf r.1 ∧ r.2.1 < am_nf r.1 ∧ am_fk r.1 r.2.1 = r.2.2 ∧
  ((am_k r.1).2.1 r.2.1).1 = (am_k r.1).1 ∧ Cond.fieldLink own i (am_k r.1).1 ((am_k r.1).2.1 r.2.1).2.1 ((am_k r.1).2.1 r.2.1).2.2.1 ∈ am_tbl ∧
  (∀ w ∈ u_ws (am_k r.1).1 (am_k r.1).2.1 (am_k r.1).2.2, w ∈ am_tbl)
def am_pQ (own nm : String) (r : Nat × Nat × Nat) : Prop :=
  (∃ ty0 : Nat → FieldType, ∀ k, k < (am_k r.1).2.2 → parseFieldDescriptor ((am_k r.1).2.1 k).2.2.1 = some (ty0 k)) ∧
  (∀ a, a < (am_k r.1).2.2 → ∀ b, b < (am_k r.1).2.2 → a ≠ b → ((am_k r.1).2.1 a).2.1 ≠ ((am_k r.1).2.1 b).2.1) ∧
  (((am_k r.1).2.1 r.2.1).2.2.2 = false ∨ (((am_k r.1).2.1 r.2.1).2.2.2 = true ∧ nm = "<init>" ∧ (am_k r.1).1 = own)) ∧
  ∃ ty, parseFieldDescriptor ((am_k r.1).2.1 r.2.1).2.2.1 = some ty ∧ (r.2.2 = 0 → ty = .int) ∧ (r.2.2 = 3 → ty = .boolean) ∧ (r.2.2 = 2 → ∀ a, narrow ty (.ref a) = .ref a ∧ fits ty (.ref a) = true)
/-- a method that is called -/
def am_mQ (y na rt : Nat) (st : Bool) (mt : am_Mt) : Prop :=
  am_ML[y]? = some mt ∧ Cond.code mt.1 mt.2.1 mt.2.2.1 mt.2.2.2.1 ∈ am_tbl ∧ Cond.initialized mt.1.cls ∈ am_tbl ∧ plainName mt.1.cls = true ∧
  (mt.1.cls ≠ "java/lang/invoke/MethodHandle" ∧ mt.1.cls ≠ "java/lang/invoke/VarHandle" ∧ (parseMethodDescriptor mt.1.desc).map (fun d => d.parameters.length) = some na) ∧ mt.2.2.1 ≤ 60 ∧
  (bif st then Cond.static mt.1 ∈ am_tbl else Cond.instanceMethod mt.1 ∈ am_tbl)
/-- the class of a receiver -/
def am_rQ (c : Nat) (cls : String) : Prop := (c = 203 ∧ cls = "java/lang/String") ∨ (c < 200 ∧ am_tk c = 9 ∧ am_CL[am_ci c]? = some (am_k c) ∧ (am_k c).1 = cls)
def am_ln (ins : Instr) : Nat := match ins with
  | .bipush _ | .iload _ | .lload _ | .aload _ | .istore _ | .lstore _ | .astore _ | .ldc _ | .newarray _ => 2
  | .sipush _ | .iinc _ _ | .goto _ | .ifCond _ _ | .if_icmp _ _ | .ldc_w _ | .ldc2_w _ | .getfield _ | .putfield _ | .getstatic _ | .new _ | .anewarray _ | .invokevirtual _ | .invokestatic _ | .invokespecial _ => 3
  | .multianewarray _ _ => 4
  | _ => 1
def am_eQ (own nm : String) (ret : Option FieldType) (pc : Nat) (ins : Instr) (r : Nat × Nat × Nat) (sw : List (Int × Nat)) : Prop := match ins with
  | .bipush v => (Int8.ofInt v).toInt32 = Int32.ofInt v
  | .sipush v => (Int16.ofInt v).toInt32 = Int32.ofInt v
  | .ldc i => (r.2.2 = 1 → Cond.constant own i (Int32.ofNat r.1) ∈ am_tbl) ∧ (r.2.2 = 2 → r.1 = 203 ∧ r.2.1 < 7 ∧ ∃ tx, (own, i, tx, r.2.1) ∈ am_strs)
  | .ldc_w i => r.2.2 = 1 → Cond.constant own i (Int32.ofNat r.1) ∈ am_tbl
  | .ldc2_w i => Cond.constantLong own i (Int64.ofNat r.1) ∈ am_tbl
  | .goto off => (pc : Int) + off = (r.1 : Int)
  | .ifCond _ off => (pc : Int) + off = (r.1 : Int)
  | .if_icmp _ off => (pc : Int) + off = (r.1 : Int)
  | .tableswitch d lo hi offs => am_tsQ pc d lo hi offs sw r.1
  | .lookupswitch d ps => am_lsQ pc d ps sw r.1
  | .getfield i => am_fQ own i r ∨ (r.1 = 203 ∧ ((r.2.1 = 0 ∧ r.2.2 = 2 ∧ Cond.fieldLink own i "java/lang/String" "value" "[B" ∈ am_tbl) ∨ (r.2.1 = 1 ∧ r.2.2 = 0 ∧ Cond.fieldLink own i "java/lang/String" "coder" "B" ∈ am_tbl)))
  | .putfield i => am_fQ own i r ∧ am_pQ own nm r
  | .getstatic i => (r = (1, 0, 0) ∧ Cond.fieldLink own i "java/lang/String" "COMPACT_STRINGS" "Z" ∈ am_tbl) ∨ (r = (205, 0, 1) ∧ Cond.fieldLink own i "jdk/internal/util/Preconditions" "SIOOBE_FORMATTER" "Ljava/util/function/BiFunction;" ∈ am_tbl) ∨
      (r = (200, 0, 1) ∧ (Cond.fieldLink own i "BookedEmpty" "ABOVE" "[I" ∈ am_tbl ∨ ∃ host, (own, i, "BookedEmpty", "ABOVE", "[I", host) ∈ am_nestF)) ∨ (r = (201, 0, 1) ∧ Cond.fieldLink own i "BookedEmpty$Acts" "BODIES" "[I" ∈ am_tbl) ∨ (r.2.2 ≠ 0 ∧ r.2.2 ≠ 1)
  | .new i => r.1 < 200 ∧ am_tk r.1 = 9 ∧ am_CL[am_ci r.1]? = some (am_k r.1) ∧ (am_k r.1).2.2 = am_nf r.1 ∧ Cond.classLink own i (am_k r.1).1 ∈ am_tbl ∧ Cond.instantiable (am_k r.1).1 (am_nf r.1) ∈ am_tbl ∧ Cond.initialized (am_k r.1).1 ∈ am_tbl ∧
      (∀ w ∈ u_ws (am_k r.1).1 (am_k r.1).2.1 (am_k r.1).2.2, w ∈ am_tbl) ∧ ∃ ty0 : Nat → FieldType, (∀ k, k < (am_k r.1).2.2 → parseFieldDescriptor ((am_k r.1).2.1 k).2.2.1 = some (ty0 k)) ∧
      ∀ k, k < (am_k r.1).2.2 → defaultValue (ty0 k) = (match am_fk r.1 k with | 1 => Value.long 0 | 2 => .null | _ => .int 0)
  | .newarray a => r.1 < 200 ∧ newarray.typeOf a = am_ty r.1 ∧ am_tk r.1 ≠ 9 ∧ am_tk r.1 ≠ 2 ∧ (am_tk r.1 = 1 → am_ty r.1 = .long) ∧ (am_tk r.1 ≠ 1 → defaultValue (am_ty r.1) = .int 0) ∧ componentBytes (am_ty r.1) ≤ 8 ∧ Cond.arrayClass (am_ty r.1) ∈ am_tbl
  | .anewarray i => r.1 < 200 ∧ am_tk r.1 = 2 ∧ ∃ C, am_ty r.1 = .object C ∧ C ∈ am_over ∧ Cond.classLink own i C ∈ am_tbl
  | .multianewarray i k => k = 2 ∧ r.1 < 200 ∧ r.2.1 < 200 ∧ r.1 ≠ r.2.1 ∧ am_tk r.1 = 2 ∧ (am_tk r.2.1 = 0 ∧ am_ty r.2.1 = .int ∨ am_tk r.2.1 = 1 ∧ am_ty r.2.1 = .long) ∧ am_ty r.1 = .array (am_ty r.2.1) ∧ am_ty r.2.1 ∈ am_overA ∧ Cond.classLink own i ("[" ++ (FieldType.array (am_ty r.2.1)).toString) ∈ am_tbl ∧ Cond.arrayClass (am_ty r.2.1) ∈ am_tbl
  | .invokevirtual i => r.2.2 / 10 ≠ 0 ∧ r.2.2 / 10 ≠ 5 ∨ ∃ mt, am_mQ r.1 r.2.1 (r.2.2 % 10) false mt ∧ am_mc r.1 = mt.2.2.2.2.2.1 ∧ am_rQ mt.2.2.2.2.2.1 mt.1.cls ∧ Cond.selects mt.1.cls mt.1 mt.1 ∈ am_tbl ∧ (r.2.2 / 10 = 0 → Cond.methodLink own i mt.1 ∈ am_tbl) ∧ (r.2.2 / 10 = 5 → ∃ host, (own, i, mt.1, host) ∈ am_nestM)
  | .invokestatic i => (r.2.2 / 10 ≠ 1 ∧ r.2.2 / 10 ≠ 6 ∧ r.2.2 / 10 ≠ 4 ∧ r.2.2 / 10 ≠ 8) ∨ (r.2.2 / 10 = 8 ∧ Cond.initialized "java/lang/Math" ∈ am_tbl ∧ ((r.1 = 0 ∧ Cond.methodLink own i Lib.Math.max.name ∈ am_tbl ∧ Cond.static Lib.Math.max.name ∈ am_tbl ∧ Cond.code Lib.Math.max.name Lib.Math.max.code 2 (some .int) ∈ am_tbl) ∨ (r.1 ≠ 0 ∧ Cond.methodLink own i Lib.Math.min.name ∈ am_tbl ∧ Cond.static Lib.Math.min.name ∈ am_tbl ∧ Cond.code Lib.Math.min.name Lib.Math.min.code 2 (some .int) ∈ am_tbl))) ∨ (r.2.2 / 10 = 4 ∧ Cond.methodLink own i arraycopyName ∈ am_tbl ∧ Cond.native arraycopyName ∈ am_tbl ∧ Cond.static arraycopyName ∈ am_tbl ∧ Cond.initialized "java/lang/System" ∈ am_tbl) ∨
      ∃ mt, am_mQ r.1 r.2.1 (r.2.2 % 10) true mt ∧ (r.2.2 / 10 = 1 → Cond.methodLink own i mt.1 ∈ am_tbl) ∧ (r.2.2 / 10 = 6 → ∃ host, (own, i, mt.1, host) ∈ am_nestM) ∧ r.2.2 / 10 ≠ 4 ∧ r.2.2 / 10 ≠ 8
  | .invokespecial i => (r.2.2 / 10 ≠ 3 ∧ r.2.2 / 10 ≠ 2 ∧ r.2.2 / 10 ≠ 7) ∨ (r.2.2 / 10 = 3 ∧ Cond.methodLink own i objectInit ∈ am_tbl ∧ Cond.instanceMethod objectInit ∈ am_tbl ∧ Cond.code objectInit ⟨#[0xb1]⟩ 1 none ∈ am_tbl) ∨
      ∃ mt, am_mQ r.1 r.2.1 (r.2.2 % 10) false mt ∧ mt.1.name = "<init>" ∧ mt.2.2.2.1 = none ∧ (r.2.2 / 10 = 2 → Cond.methodLink own i mt.1 ∈ am_tbl) ∧ (r.2.2 / 10 = 7 → ∃ host, (own, i, mt.1, host) ∈ am_nestM) ∧ r.2.2 / 10 ≠ 3
  | .return_ => ret = none
  | .ireturn => (r.1 = 0 ∧ ret = some .int) ∨ (r.1 = 1 ∧ ret = some .boolean) ∨ (r.1 = 2 ∧ ret = some .char) ∨ (r.1 = 3 ∧ ret = some .byte) ∨ (3 < r.1)
  | .lreturn => ret = some .long
  | .areturn => ∃ n, ret = some (.object n)
  | _ => True
/-- a row of a program -/
def am_eP (own nm : String) (cc : ByteArray) (ret : Option FieldType) (e : am_E) : Prop :=
  decode cc e.1 = .ok (e.2.1, e.2.2.1) ∧ (e.2.2.1 = am_ln e.2.1 ∨ (∃ d lo hi offs, e.2.1 = .tableswitch d lo hi offs) ∨ ∃ d ps, e.2.1 = .lookupswitch d ps) ∧ am_eQ own nm ret e.1 e.2.1 e.2.2.2.1 e.2.2.2.2

theorem am_i1_some {st : List am_V} {f : Int32 → List am_V → am_R} {z : Option am_V × am_S} (h : am_i1 st f = some z) : ∃ x t, st = am_I x :: t ∧ f x t = some z := by
  unfold am_i1 at h
  split at h
  · exact ⟨_, _, rfl, h⟩
  · cases h
theorem am_i2_some {st : List am_V} {f : Int32 → Int32 → List am_V → am_R} {z : Option am_V × am_S} (h : am_i2 st f = some z) : ∃ x y t, st = am_I y :: am_I x :: t ∧ f x y t = some z := by
  unfold am_i2 at h
  split at h
  · exact ⟨_, _, _, rfl, h⟩
  · cases h
theorem am_j1_some {st : List am_V} {f : Int64 → List am_V → am_R} {z : Option am_V × am_S} (h : am_j1 st f = some z) : ∃ x t, st = am_J x :: t ∧ f x t = some z := by
  unfold am_j1 at h
  split at h
  · exact ⟨_, _, rfl, h⟩
  · cases h
theorem am_j2_some {st : List am_V} {f : Int64 → Int64 → List am_V → am_R} {z : Option am_V × am_S} (h : am_j2 st f = some z) : ∃ x y t, st = am_J y :: am_J x :: t ∧ f x y t = some z := by
  unfold am_j2 at h
  split at h
  · exact ⟨_, _, _, rfl, h⟩
  · cases h
theorem am_ji_some {st : List am_V} {f : Int64 → Int32 → List am_V → am_R} {z : Option am_V × am_S} (h : am_ji st f = some z) : ∃ x y t, st = am_I y :: am_J x :: t ∧ f x y t = some z := by
  unfold am_ji at h
  split at h
  · exact ⟨_, _, _, rfl, h⟩
  · cases h
theorem am_r1_some {st : List am_V} {f : Nat → Nat → List am_V → am_R} {z : Option am_V × am_S} (h : am_r1 st f = some z) : ∃ c i t, st = .inr (c, i) :: t ∧ f c i t = some z := by
  unfold am_r1 at h
  split at h
  · exact ⟨_, _, _, rfl, h⟩
  · cases h
theorem am_ri_some {st : List am_V} {f : Nat → Nat → Int32 → List am_V → am_R} {z : Option am_V × am_S} (h : am_ri st f = some z) : ∃ c i j t, st = am_I j :: .inr (c, i) :: t ∧ f c i j t = some z := by
  unfold am_ri at h
  split at h
  · exact ⟨_, _, _, _, rfl, h⟩
  · cases h
theorem am_ir_some {st : List am_V} {f : Nat → Nat → Int32 → List am_V → am_R} {z : Option am_V × am_S} (h : am_ir st f = some z) : ∃ c i x t, st = am_I x :: .inr (c, i) :: t ∧ f c i x t = some z := by
  unfold am_ir at h
  split at h
  · exact ⟨_, _, _, _, rfl, h⟩
  · cases h
theorem am_rr_some {st : List am_V} {f : Nat → Nat → Nat → Nat → List am_V → am_R} {z : Option am_V × am_S} (h : am_rr st f = some z) : ∃ c i c2 i2 t, st = .inr (c2, i2) :: .inr (c, i) :: t ∧ f c i c2 i2 t = some z := by
  unfold am_rr at h
  split at h
  · exact ⟨_, _, _, _, _, rfl, h⟩
  · cases h
theorem am_iri_some {st : List am_V} {f : Nat → Nat → Int32 → Int32 → List am_V → am_R} {z : Option am_V × am_S} (h : am_iri st f = some z) : ∃ c i j x t, st = am_I x :: am_I j :: .inr (c, i) :: t ∧ f c i j x t = some z := by
  unfold am_iri at h
  split at h
  · exact ⟨_, _, _, _, _, rfl, h⟩
  · cases h
theorem am_jri_some {st : List am_V} {f : Nat → Nat → Int32 → Int64 → List am_V → am_R} {z : Option am_V × am_S} (h : am_jri st f = some z) : ∃ c i j x t, st = am_J x :: am_I j :: .inr (c, i) :: t ∧ f c i j x t = some z := by
  unfold am_jri at h
  split at h
  · exact ⟨_, _, _, _, _, rfl, h⟩
  · cases h
theorem am_rri_some {st : List am_V} {f : Nat → Nat → Int32 → Nat → Nat → List am_V → am_R} {z : Option am_V × am_S} (h : am_rri st f = some z) : ∃ c i j c2 i2 t, st = .inr (c2, i2) :: am_I j :: .inr (c, i) :: t ∧ f c i j c2 i2 t = some z := by
  unfold am_rri at h
  split at h
  · exact ⟨_, _, _, _, _, _, rfl, h⟩
  · cases h
theorem am_ck_some {i : Int32} {n : Nat} {r : am_R} {z : Option am_V × am_S} (h : am_ck i n r = some z) : vp_in i n ∧ r = some z := by
  unfold am_ck at h
  split at h
  · cases h
  · rename_i q; exact ⟨q, h⟩
theorem am_bk_some {x : Int32} {r : am_R} {z : Option am_V × am_S} (h : am_bk x r = some z) : (x = 0 ∨ x = 1) ∧ r = some z := by
  unfold am_bk at h
  split at h
  · rename_i q; exact ⟨q, h⟩
  · cases h
theorem am_nz_some {x : Int32} {r : am_R} {z : Option am_V × am_S} (h : am_nz x r = some z) : ¬ x = 0 ∧ r = some z := by
  unfold am_nz at h
  split at h
  · cases h
  · rename_i q; exact ⟨q, h⟩
theorem am_bif_some {b : Bool} {r : am_R} {z : Option am_V × am_S} (h : (bif b then r else none) = some z) : b = true ∧ r = some z := by
  cases b
  · cases h
  · exact ⟨rfl, h⟩
theorem am_bi_some {r : am_R} {f : Int32 → am_S → am_R} {z : Option am_V × am_S} (h : am_bi r f = some z) : ∃ x σ, r = some (some (am_I x), σ) ∧ f x σ = some z := by
  unfold am_bi at h
  split at h
  · exact ⟨_, _, rfl, h⟩
  · cases h
theorem am_bl_some {r : am_R} {f : Int64 → am_S → am_R} {z : Option am_V × am_S} (h : am_bl r f = some z) : ∃ x σ, r = some (some (am_J x), σ) ∧ f x σ = some z := by
  unfold am_bl at h
  split at h
  · exact ⟨_, _, rfl, h⟩
  · cases h
theorem am_br_some {r : am_R} {f : Nat → Nat → am_S → am_R} {z : Option am_V × am_S} (h : am_br r f = some z) : ∃ c i σ, r = some (some (.inr (c, i)), σ) ∧ f c i σ = some z := by
  unfold am_br at h
  split at h
  · exact ⟨_, _, _, rfl, h⟩
  · cases h
theorem am_bv_some {r : am_R} {f : am_S → am_R} {z : Option am_V × am_S} (h : am_bv r f = some z) : ∃ σ, r = some (none, σ) ∧ f σ = some z := by
  unfold am_bv at h
  split at h
  · exact ⟨_, rfl, h⟩
  · cases h
theorem am_sw_some {f : Nat → am_R} {x : Int32} {z : Option am_V × am_S} {d : Nat} : ∀ {l : List (Int × Nat)}, am_sw f x l d = some z → (∃ (k : Nat) (v : Int) (t : Nat), l[k]? = some (v, t) ∧ x = Int32.ofInt v ∧ (∀ (k1 : Nat) (v1 : Int) (t1 : Nat), k1 < k → l[k1]? = some (v1, t1) → ¬ x = Int32.ofInt v1) ∧ f t = some z) ∨ ((∀ (k : Nat) (v : Int) (t : Nat), l[k]? = some (v, t) → ¬ x = Int32.ofInt v) ∧ f d = some z) := by
  intro l
  induction l with
  | nil => intro h; exact Or.inr ⟨fun k v t h => by simp at h, h⟩
  | cons q r ih =>
    obtain ⟨v, t⟩ := q
    intro h
    unfold am_sw at h
    split at h
    · rename_i hx; exact Or.inl ⟨0, v, t, rfl, hx, fun k' v' t' hk => absurd hk (Nat.not_lt_zero _), h⟩
    · rename_i hx
      rcases ih h with ⟨k, v1, t1, h1, h2, h3, h4⟩ | ⟨h1, h2⟩
      · refine Or.inl ⟨k + 1, v1, t1, by simpa using h1, h2, fun k' v' t' hk hk' => ?_, h4⟩
        cases k' with
        | zero => simp at hk'; obtain ⟨rfl, rfl⟩ := hk'; exact hx
        | succ k' => exact h3 k' v' t' (by omega) (by simpa using hk')
      · refine Or.inr ⟨fun k v' t' hk => ?_, h2⟩
        cases k with
        | zero => simp at hk; obtain ⟨rfl, rfl⟩ := hk; exact hx
        | succ k => exact h1 k v' t' (by simpa using hk)
