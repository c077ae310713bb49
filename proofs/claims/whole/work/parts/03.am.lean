/-! AN ABSTRACT MACHINE over the same instructions: a reference is a pair (which kind of made thing, which of them), what the made things hold are three functions. -/
abbrev am_V : Type := Value ⊕ (Nat × Nat)
abbrev am_Q : Type := (Nat → Nat → Nat → Int32) × (Nat → Nat → Nat → Int64) × (Nat → Nat → Nat → Option (Nat × Nat))
/-- the system's part, the reference's part, how many of each kind there are, cells, slots -/
abbrev am_S : Type := am_Q × am_Q × (Nat → Nat) × Nat × Nat
abbrev am_R : Type := Option (Option am_V × am_S)
/-- the script -/
abbrev am_X : Type := Nat × (Nat → Int32)
abbrev am_I (x : Int32) : am_V := .inl (.int x)
abbrev am_J (x : Int64) : am_V := .inl (.long x)
abbrev am_un : am_V := .inl (.retAddr 0)
def am_u {α : Type} (f : Nat → α) (k : Nat) (v : α) : Nat → α := fun j => bif Nat.beq j k then v else f j
def am_w3 {α : Type} (f : Nat → Nat → Nat → α) (c i j : Nat) (x : α) : Nat → Nat → Nat → α := fun c' i' j' => bif Nat.beq c' c then (bif Nat.beq j' j then (bif Nat.beq i' i then x else f c' i' j') else f c' i' j') else f c' i' j'
def am_w2 {α : Type} (f : Nat → Nat → Nat → α) (c i : Nat) (g : Nat → α) : Nat → Nat → Nat → α := am_u f c (am_u (f c) i g)
def am_q (σ : am_S) (c : Nat) : am_Q := bif Nat.ble 50 c then σ.2.1 else σ.1
def am_sq (σ : am_S) (c : Nat) (q : am_Q) : am_S := bif Nat.ble 50 c then (σ.1, q, σ.2.2) else (q, σ.2)
def am_gs (X : am_X) (σ : am_S) (c i j : Nat) : Int32 := bif Nat.ble 200 c then am_ro X c i j else (am_q σ c).1 c i j
def am_gl (σ : am_S) (c i j : Nat) : Int64 := (am_q σ c).2.1 c i j
def am_go (σ : am_S) (c i j : Nat) : Option (Nat × Nat) := bif Nat.ble 200 c then am_roo c i j else (am_q σ c).2.2 c i j
def am_pi (σ : am_S) (c i j : Nat) (x : Int32) : am_S := am_sq σ c (am_w3 (am_q σ c).1 c i j x, (am_q σ c).2)
def am_pl (σ : am_S) (c i j : Nat) (x : Int64) : am_S := am_sq σ c ((am_q σ c).1, am_w3 (am_q σ c).2.1 c i j x, (am_q σ c).2.2)
def am_po (σ : am_S) (c i j : Nat) (x : Option (Nat × Nat)) : am_S := am_sq σ c ((am_q σ c).1, (am_q σ c).2.1, am_w3 (am_q σ c).2.2 c i j x)
/-- a whole row of ints, of longs -/
def am_pis (σ : am_S) (c i : Nat) (g : Nat → Int32) : am_S := am_sq σ c (am_w2 (am_q σ c).1 c i g, (am_q σ c).2)
def am_pls (σ : am_S) (c i : Nat) (g : Nat → Int64) : am_S := am_sq σ c ((am_q σ c).1, am_w2 (am_q σ c).2.1 c i g, (am_q σ c).2.2)
/-- a whole row of references -/
def am_pos (σ : am_S) (c i : Nat) (g : Nat → Option (Nat × Nat)) : am_S := am_sq σ c ((am_q σ c).1, (am_q σ c).2.1, am_w2 (am_q σ c).2.2 c i g)
/-- one more of a kind, all 0 -/
def am_new (σ : am_S) (c w : Nat) : am_S :=
  let q := am_q σ c
  let i := σ.2.2.1 c
  let τ := am_sq σ c (am_w2 q.1 c i (fun _ => 0), am_w2 q.2.1 c i (fun _ => 0), am_w2 q.2.2 c i (fun _ => none))
  (τ.1, τ.2.1, am_u σ.2.2.1 c (i + 1), σ.2.2.2.1 + 1, σ.2.2.2.2 + w)
def am_ck (i : Int32) (n : Nat) (r : am_R) : am_R := if i < 0 ∨ n ≤ i.toNatClampNeg then none else r
def am_bk (x : Int32) (r : am_R) : am_R := if x = 0 ∨ x = 1 then r else none
def am_nz (x : Int32) (r : am_R) : am_R := if x = 0 then none else r
def am_cat (st : List am_V) : Nat := (st.map fun v => match v with | .inl w => w.category | .inr _ => 1).sum
def am_i1 (st : List am_V) (f : Int32 → List am_V → am_R) : am_R := match st with | .inl (.int x) :: t => f x t | _ => none
def am_i2 (st : List am_V) (f : Int32 → Int32 → List am_V → am_R) : am_R := match st with | .inl (.int y) :: .inl (.int x) :: t => f x y t | _ => none
def am_j1 (st : List am_V) (f : Int64 → List am_V → am_R) : am_R := match st with | .inl (.long x) :: t => f x t | _ => none
def am_j2 (st : List am_V) (f : Int64 → Int64 → List am_V → am_R) : am_R := match st with | .inl (.long y) :: .inl (.long x) :: t => f x y t | _ => none
def am_ji (st : List am_V) (f : Int64 → Int32 → List am_V → am_R) : am_R := match st with | .inl (.int y) :: .inl (.long x) :: t => f x y t | _ => none
def am_r1 (st : List am_V) (f : Nat → Nat → List am_V → am_R) : am_R := match st with | .inr (c, i) :: t => f c i t | _ => none
def am_ri (st : List am_V) (f : Nat → Nat → Int32 → List am_V → am_R) : am_R := match st with | .inl (.int j) :: .inr (c, i) :: t => f c i j t | _ => none
def am_iri (st : List am_V) (f : Nat → Nat → Int32 → Int32 → List am_V → am_R) : am_R := match st with | .inl (.int x) :: .inl (.int j) :: .inr (c, i) :: t => f c i j x t | _ => none
def am_jri (st : List am_V) (f : Nat → Nat → Int32 → Int64 → List am_V → am_R) : am_R := match st with | .inl (.long x) :: .inl (.int j) :: .inr (c, i) :: t => f c i j x t | _ => none
def am_rri (st : List am_V) (f : Nat → Nat → Int32 → Nat → Nat → List am_V → am_R) : am_R := match st with | .inr (c2, i2) :: .inl (.int j) :: .inr (c, i) :: t => f c i j c2 i2 t | _ => none
def am_ir (st : List am_V) (f : Nat → Nat → Int32 → List am_V → am_R) : am_R := match st with | .inl (.int x) :: .inr (c, i) :: t => f c i x t | _ => none
def am_jr (st : List am_V) (f : Nat → Nat → Int64 → List am_V → am_R) : am_R := match st with | .inl (.long x) :: .inr (c, i) :: t => f c i x t | _ => none
def am_rr (st : List am_V) (f : Nat → Nat → Nat → Nat → List am_V → am_R) : am_R := match st with | .inr (c2, i2) :: .inr (c, i) :: t => f c i c2 i2 t | _ => none
def am_bi (r : am_R) (f : Int32 → am_S → am_R) : am_R := match r with | some (some (.inl (.int x)), σ) => f x σ | _ => none
def am_bl (r : am_R) (f : Int64 → am_S → am_R) : am_R := match r with | some (some (.inl (.long x)), σ) => f x σ | _ => none
def am_br (r : am_R) (f : Nat → Nat → am_S → am_R) : am_R := match r with | some (some (.inr (c, i)), σ) => f c i σ | _ => none
def am_bv (r : am_R) (f : am_S → am_R) : am_R := match r with | some (none, σ) => f σ | _ => none
def am_rv (o : Option (Nat × Nat)) : am_V := match o with | some q => .inr q | none => .inl .null
def am_sw (f : Nat → am_R) (x : Int32) : List (Int × Nat) → Nat → am_R
  | [], d => f d
  | (v, t) :: r, d => if x = Int32.ofInt v then f t else am_sw f x r d
def am_cmp (c : ClassFile.Cond) (x y : Int32) (a b : am_R) : am_R := match c with
  | .eq => if x = y then a else b
  | .ne => if ¬ x = y then a else b
  | .lt => if x < y then a else b
  | .ge => if y ≤ x then a else b
  | .gt => if y < x then a else b
  | .le => if x ≤ y then a else b
/-- a call: what was given, the rest below -/
def am_call (Γ : Nat → List am_V → am_S → am_R) (k : List am_V → am_S → am_R) (r : Nat × Nat × Nat) (recv : Bool) (rt : Nat) (st : List am_V) (σ : am_S) : am_R :=
  let na := bif recv then r.2.1 + 1 else r.2.1
  let as := (st.take na).reverse
  let rest := st.drop na
  bif Nat.beq as.length na && Nat.ble (am_cat rest) 8 then
    match rt with
    | 0 => am_bv (Γ r.1 as σ) fun σ' => k rest σ'
    | 1 => am_bi (Γ r.1 as σ) fun x σ' => k (am_I x :: rest) σ'
    | 2 => am_bl (Γ r.1 as σ) fun x σ' => k (am_J x :: rest) σ'
    | _ => am_br (Γ r.1 as σ) fun c i σ' => k (.inr (c, i) :: rest) σ'
  else none
def am_rk (as : List am_V) (c : Nat) (r : am_R) : am_R := match as with
  | .inr (c', _) :: _ => bif Nat.beq c' c then r else none
  | _ => none
def am_st1 (k : List am_V → am_R) (ls : List am_V) (i : Nat) (v : am_V) : am_R :=
  bif Nat.blt i ls.length && (match ls[i - 1]? with | some (.inl (.long _)) => Nat.beq i 0 | some (.inl (.double _)) => Nat.beq i 0 | _ => true) then k (ls.set i v) else none
def am_st2 (k : List am_V → am_R) (ls : List am_V) (i : Nat) (v : am_V) : am_R :=
  bif Nat.blt (i + 1) ls.length && (match ls[i - 1]? with | some (.inl (.long _)) => Nat.beq i 0 | some (.inl (.double _)) => Nat.beq i 0 | _ => true) then k ((ls.set i v).set (i + 1) am_un) else none
def am_ldi (k : List am_V → am_R) (ls : List am_V) (i : Nat) (st : List am_V) : am_R := match ls[i]? with | some (.inl (.int x)) => k (am_I x :: st) | _ => none
def am_ldl (k : List am_V → am_R) (ls : List am_V) (i : Nat) (st : List am_V) : am_R := match ls[i]? with | some (.inl (.long x)) => k (am_J x :: st) | _ => none
def am_lda (k : List am_V → am_R) (ls : List am_V) (i : Nat) (st : List am_V) : am_R := match ls[i]? with | some (.inr q) => k (.inr q :: st) | _ => none
def am_acpy (X : am_X) (k : List am_V → am_S → am_R) (st : List am_V) (σ : am_S) : am_R := match st with
  | .inl (.int n) :: .inl (.int dp) :: .inr (c, i) :: .inl (.int sp) :: .inr (c0, i0) :: t =>
    bif Nat.blt c 200 && (Nat.blt c0 200 && (Nat.beq (am_tk c) (am_tk c0) && Nat.ble (am_cat t) 8)) then
      if n < 0 ∨ sp < 0 ∨ dp < 0 ∨ am_len X c0 i0 < sp.toNatClampNeg + n.toNatClampNeg ∨ am_len X c i < dp.toNatClampNeg + n.toNatClampNeg then none else
        match am_tk c with
        | 0 => k t (am_pis σ c i (va_cpy ((am_q σ c0).1 c0 i0) ((am_q σ c).1 c i) sp.toNatClampNeg dp.toNatClampNeg n.toNatClampNeg))
        | 1 => k t (am_pls σ c i (va_cpy ((am_q σ c0).2.1 c0 i0) ((am_q σ c).2.1 c i) sp.toNatClampNeg dp.toNatClampNeg n.toNatClampNeg))
        | _ => none
    else none
  | _ => none
/-- n rows of a kind, as one after another comes -/
def am_rows (σ : am_S) (c w : Nat) : Nat → am_S
  | 0 => σ
  | n + 1 => am_new (am_rows σ c w n) c w
/-- what stands in SIOOBE_FORMATTER: null, or a thing of its own -/
def am_fm (X : am_X) : am_V := if X.2 4096 = 1 then .inl .null else .inr (205, 0)
def am_ins (Γ : Nat → List am_V → am_S → am_R) (X : am_X) (k : Nat → List am_V → List am_V → am_S → am_R) (pc : Nat) (ins : Instr) (n : Nat) (r : Nat × Nat × Nat) (sw : List (Int × Nat)) (ls st : List am_V) (σ : am_S) : am_R := match ins with
  | .iconst v => k (pc + n) ls (am_I (Int32.ofInt v) :: st) σ
  | .bipush v => k (pc + n) ls (am_I (Int32.ofInt v) :: st) σ
  | .sipush v => k (pc + n) ls (am_I (Int32.ofInt v) :: st) σ
  | .lconst v => k (pc + n) ls (am_J (Int64.ofNat v) :: st) σ
  | .ldc _ => match r.2.2 with
    | 1 => k (pc + n) ls (am_I (Int32.ofNat r.1) :: st) σ
    | 2 => k (pc + n) ls (.inr (r.1, r.2.1) :: st) σ
    | _ => none
  | .ldc_w _ => match r.2.2 with
    | 1 => k (pc + n) ls (am_I (Int32.ofNat r.1) :: st) σ
    | _ => none
  | .ldc2_w _ => k (pc + n) ls (am_J (Int64.ofNat r.1) :: st) σ
  | .iload_n i => am_ldi (fun s => k (pc + n) ls s σ) ls i st
  | .iload i => am_ldi (fun s => k (pc + n) ls s σ) ls i st
  | .lload_n i => am_ldl (fun s => k (pc + n) ls s σ) ls i st
  | .lload i => am_ldl (fun s => k (pc + n) ls s σ) ls i st
  | .aload_n i => am_lda (fun s => k (pc + n) ls s σ) ls i st
  | .aload i => am_lda (fun s => k (pc + n) ls s σ) ls i st
  | .istore_n i => am_i1 st fun x t => am_st1 (fun l => k (pc + n) l t σ) ls i (am_I x)
  | .istore i => am_i1 st fun x t => am_st1 (fun l => k (pc + n) l t σ) ls i (am_I x)
  | .lstore_n i => am_j1 st fun x t => am_st2 (fun l => k (pc + n) l t σ) ls i (am_J x)
  | .lstore i => am_j1 st fun x t => am_st2 (fun l => k (pc + n) l t σ) ls i (am_J x)
  | .astore_n i => am_r1 st fun c q t => am_st1 (fun l => k (pc + n) l t σ) ls i (.inr (c, q))
  | .astore i => am_r1 st fun c q t => am_st1 (fun l => k (pc + n) l t σ) ls i (.inr (c, q))
  | .iinc i v => match ls[i]? with
    | some (.inl (.int x)) => am_st1 (fun l => k (pc + n) l st σ) ls i (am_I (x + Int32.ofInt v))
    | _ => none
  | .iadd => am_i2 st fun x y t => k (pc + n) ls (am_I (x + y) :: t) σ
  | .isub => am_i2 st fun x y t => k (pc + n) ls (am_I (x - y) :: t) σ
  | .imul => am_i2 st fun x y t => k (pc + n) ls (am_I (x * y) :: t) σ
  | .iand => am_i2 st fun x y t => k (pc + n) ls (am_I (x &&& y) :: t) σ
  | .ior => am_i2 st fun x y t => k (pc + n) ls (am_I (x ||| y) :: t) σ
  | .ixor => am_i2 st fun x y t => k (pc + n) ls (am_I (x ^^^ y) :: t) σ
  | .idiv => am_i2 st fun x y t => am_nz y (k (pc + n) ls (am_I (x / y) :: t) σ)
  | .irem => am_i2 st fun x y t => am_nz y (k (pc + n) ls (am_I (x - (x / y) * y) :: t) σ)
  | .ineg => am_i1 st fun x t => k (pc + n) ls (am_I (-x) :: t) σ
  | .ishl => am_i2 st fun x y t => k (pc + n) ls (am_I (x <<< (y &&& 31)) :: t) σ
  | .ishr => am_i2 st fun x y t => k (pc + n) ls (am_I (x >>> (y &&& 31)) :: t) σ
  | .iushr => am_i2 st fun x y t => k (pc + n) ls (am_I (x.toUInt32 >>> (y.toUInt32 &&& Int32.toUInt32 31)).toInt32 :: t) σ
  | .ladd => am_j2 st fun x y t => k (pc + n) ls (am_J (x + y) :: t) σ
  | .lsub => am_j2 st fun x y t => k (pc + n) ls (am_J (x - y) :: t) σ
  | .land => am_j2 st fun x y t => k (pc + n) ls (am_J (x &&& y) :: t) σ
  | .lor => am_j2 st fun x y t => k (pc + n) ls (am_J (x ||| y) :: t) σ
  | .lxor => am_j2 st fun x y t => k (pc + n) ls (am_J (x ^^^ y) :: t) σ
  | .lshl => am_ji st fun x y t => k (pc + n) ls (am_J (x <<< (y.toInt64 &&& 63)) :: t) σ
  | .lshr => am_ji st fun x y t => k (pc + n) ls (am_J (x >>> (y.toInt64 &&& 63)) :: t) σ
  | .lushr => am_ji st fun x y t => k (pc + n) ls (am_J (x.toUInt64 >>> (y.toInt64.toUInt64 &&& Int64.toUInt64 63)).toInt64 :: t) σ
  | .lcmp => am_j2 st fun x y t => k (pc + n) ls (am_I (lg_cmp x y) :: t) σ
  | .i2l => am_i1 st fun x t => k (pc + n) ls (am_J x.toInt64 :: t) σ
  | .l2i => am_j1 st fun x t => k (pc + n) ls (am_I x.toInt32 :: t) σ
  | .i2b => am_i1 st fun x t => k (pc + n) ls (am_I x.toInt8.toInt32 :: t) σ
  | .i2s => am_i1 st fun x t => k (pc + n) ls (am_I x.toInt16.toInt32 :: t) σ
  | .i2c => am_i1 st fun x t => k (pc + n) ls (am_I (x.toUInt32 % 65536).toInt32 :: t) σ
  | .dup => match st with
    | .inl (.int x) :: t => k (pc + n) ls (am_I x :: am_I x :: t) σ
    | .inr q :: t => k (pc + n) ls (.inr q :: .inr q :: t) σ
    | _ => none
  | .dup_x1 => match st with
    | .inl (.int x) :: .inr q :: t => k (pc + n) ls (am_I x :: .inr q :: am_I x :: t) σ
    | _ => none
  | .dup2 => match st with
    | .inl (.int x) :: .inr q :: t => k (pc + n) ls (am_I x :: .inr q :: am_I x :: .inr q :: t) σ
    | _ => none
  | .pop => am_i1 st fun _ t => k (pc + n) ls t σ
  | .goto _ => k r.1 ls st σ
  | .ifCond c _ => am_i1 st fun x t => am_cmp c x 0 (k r.1 ls t σ) (k (pc + n) ls t σ)
  | .if_icmp c _ => am_i2 st fun x y t => am_cmp c x y (k r.1 ls t σ) (k (pc + n) ls t σ)
  | .tableswitch _ _ _ _ => am_i1 st fun x t => am_sw (fun p => k p ls t σ) x sw r.1
  | .lookupswitch _ _ => am_i1 st fun x t => am_sw (fun p => k p ls t σ) x sw r.1
  | .getfield _ => am_r1 st fun c i t => bif Nat.beq c r.1 then (match r.2.2 with
    | 1 => k (pc + n) ls (am_J (am_gl σ c i r.2.1) :: t) σ
    | 2 => k (pc + n) ls (am_rv (am_go σ c i r.2.1) :: t) σ
    | _ => k (pc + n) ls (am_I (am_gs X σ c i r.2.1) :: t) σ) else none
  | .putfield _ => match r.2.2 with
    | 0 => am_ir st fun c i x t => bif Nat.beq c r.1 then k (pc + n) ls t (am_pi σ c i r.2.1 x) else none
    | 3 => am_ir st fun c i x t => bif Nat.beq c r.1 then am_bk x (k (pc + n) ls t (am_pi σ c i r.2.1 x)) else none
    | 2 => am_rr st fun c i c2 i2 t => bif Nat.beq c r.1 && (Nat.blt c2 200) then k (pc + n) ls t (am_po σ c i r.2.1 (some (c2, i2))) else none
    | _ => none
  | .getstatic _ => match r.2.2 with
    | 0 => k (pc + n) ls (am_I (Int32.ofNat r.1) :: st) σ
    | 1 => k (pc + n) ls ((bif Nat.beq r.1 205 then am_fm X else .inr (r.1, r.2.1)) :: st) σ
    | _ => none
  | .arraylength => am_r1 st fun c i t => bif Nat.beq (am_tk c) 9 then none else k (pc + n) ls (am_I (Int32.ofNat (am_len X c i)) :: t) σ
  | .iaload => am_ri st fun c i j t => bif Nat.beq (am_tk c) 0 then am_ck j (am_len X c i) (k (pc + n) ls (am_I (am_gs X σ c i j.toNatClampNeg) :: t) σ) else none
  | .baload => am_ri st fun c i j t => bif Nat.beq (am_tk c) 3 || Nat.beq (am_tk c) 4 then am_ck j (am_len X c i) (k (pc + n) ls (am_I (am_gs X σ c i j.toNatClampNeg) :: t) σ) else none
  | .laload => am_ri st fun c i j t => bif Nat.beq (am_tk c) 1 then am_ck j (am_len X c i) (k (pc + n) ls (am_J (am_gl σ c i j.toNatClampNeg) :: t) σ) else none
  | .aaload => am_ri st fun c i j t => bif Nat.beq (am_tk c) 2 then am_ck j (am_len X c i) (k (pc + n) ls (am_rv (am_go σ c i j.toNatClampNeg) :: t) σ) else none
  | .iastore => am_iri st fun c i j x t => bif Nat.beq (am_tk c) 0 && Nat.blt c 200 then am_ck j (am_len X c i) (k (pc + n) ls t (am_pi σ c i j.toNatClampNeg x)) else none
  | .bastore => am_iri st fun c i j x t => bif Nat.beq (am_tk c) 3 && Nat.blt c 200 then am_ck j (am_len X c i) (k (pc + n) ls t (am_pi σ c i j.toNatClampNeg x.toInt8.toInt32)) else
      bif Nat.beq (am_tk c) 4 && Nat.blt c 200 then am_ck j (am_len X c i) (am_bk x (k (pc + n) ls t (am_pi σ c i j.toNatClampNeg x))) else none
  | .lastore => am_jri st fun c i j x t => bif Nat.beq (am_tk c) 1 && Nat.blt c 200 then am_ck j (am_len X c i) (k (pc + n) ls t (am_pl σ c i j.toNatClampNeg x)) else none
  | .aastore => am_rri st fun c i j c2 i2 t => bif Nat.beq (am_tk c) 2 && (Nat.blt c 200 && Nat.beq (am_ec c) c2) then am_ck j (am_len X c i) (k (pc + n) ls t (am_po σ c i j.toNatClampNeg (some (c2, i2)))) else none
  | .new _ => k (pc + n) ls (.inr (r.1, σ.2.2.1 r.1) :: st) (am_new σ r.1 (am_nf r.1))
  | .newarray _ => am_i1 st fun x t => if x = Int32.ofNat (am_len X r.1 (σ.2.2.1 r.1)) ∧ am_len X r.1 (σ.2.2.1 r.1) ≤ 1000 then k (pc + n) ls (.inr (r.1, σ.2.2.1 r.1) :: t) (am_new σ r.1 (am_len X r.1 (σ.2.2.1 r.1))) else none
  | .anewarray _ => am_i1 st fun x t => if x = Int32.ofNat (am_len X r.1 (σ.2.2.1 r.1)) ∧ am_len X r.1 (σ.2.2.1 r.1) ≤ 1000 then k (pc + n) ls (.inr (r.1, σ.2.2.1 r.1) :: t) (am_new σ r.1 (am_len X r.1 (σ.2.2.1 r.1))) else none
  | .multianewarray _ _ => am_i2 st fun x y t =>
      let a := am_len X r.1 (σ.2.2.1 r.1)
      let b := am_len X r.2.1 0
      if x = Int32.ofNat a ∧ y = Int32.ofNat b ∧ a ≤ 1000 ∧ b ≤ 1000 ∧ (List.range a).all (fun j => Nat.beq (am_len X r.2.1 (σ.2.2.1 r.2.1 + j)) b) = true then
        let τ := am_new (am_rows σ r.2.1 b a) r.1 a
        k (pc + n) ls (.inr (r.1, σ.2.2.1 r.1) :: t) (am_pos τ r.1 (σ.2.2.1 r.1) (fun j => bif Nat.blt j a then some (r.2.1, σ.2.2.1 r.2.1 + j) else none))
      else none
  | .invokevirtual _ => match r.2.2 / 10 with
    | 0 => am_rk (st.drop r.2.1) (am_mc r.1) (am_call Γ (fun s σ' => k (pc + n) ls s σ') r true (r.2.2 % 10) st σ)
    | 5 => am_rk (st.drop r.2.1) (am_mc r.1) (am_call Γ (fun s σ' => k (pc + n) ls s σ') r true (r.2.2 % 10) st σ)
    | _ => none
  | .invokestatic _ => match r.2.2 / 10 with
    | 1 => am_call Γ (fun s σ' => k (pc + n) ls s σ') r false (r.2.2 % 10) st σ
    | 6 => am_call Γ (fun s σ' => k (pc + n) ls s σ') r false (r.2.2 % 10) st σ
    | 4 => am_acpy X (fun s σ' => k (pc + n) ls s σ') st σ
    | 8 => am_i2 st fun x y t => bif Nat.ble (am_cat t) 8 then k (pc + n) ls (am_I (bif Nat.beq r.1 0 then (if x < y then y else x) else (if y < x then y else x)) :: t) σ else none
    | _ => none
  | .invokespecial _ => match r.2.2 / 10 with
    | 3 => am_r1 st fun _ _ t => bif Nat.ble (am_cat t) 8 then k (pc + n) ls t σ else none
    | 2 => am_rk (st.drop r.2.1) (am_mc r.1) (am_call Γ (fun s σ' => k (pc + n) ls s σ') r true (r.2.2 % 10) st σ)
    | 7 => am_rk (st.drop r.2.1) (am_mc r.1) (am_call Γ (fun s σ' => k (pc + n) ls s σ') r true (r.2.2 % 10) st σ)
    | _ => none
  | .return_ => match st with | [] => some (none, σ) | _ => none
  | .ireturn => match st with
    | [.inl (.int x)] => match r.1 with
      | 0 => some (some (am_I x), σ)
      | 1 => am_bk x (some (some (am_I x), σ))
      | 2 => if (x.toUInt32 % 65536).toInt32 = x then some (some (am_I x), σ) else none
      | 3 => if x.toInt8.toInt32 = x then some (some (am_I x), σ) else none
      | _ => none
    | _ => none
  | .lreturn => match st with | [.inl (.long x)] => some (some (am_J x), σ) | _ => none
  | .areturn => match st with | [.inr q] => some (some (.inr q), σ) | _ => none
  | _ => none
def am_find (pc : Nat) : List am_E → Option am_E
  | [] => none
  | e :: r => bif Nat.beq pc e.1 then some e else am_find pc r
def am_run (Γ : Nat → List am_V → am_S → am_R) (X : am_X) (P : List am_E) : Nat → Nat → List am_V → List am_V → am_S → am_R
  | 0, _, _, _, _ => none
  | F + 1, pc, ls, st, σ => match am_find pc P with
    | some e => am_ins Γ X (am_run Γ X P F) pc e.2.1 e.2.2.1 e.2.2.2.1 e.2.2.2.2 ls st σ
    | none => none

/-- what is asked goes on at one place at most -/
def am_K1 (G : (Nat → List am_V → List am_V → am_S → am_R) → am_R) : Prop :=
  (∃ r, ∀ k, G k = r) ∨ ∃ (pc : Nat) (ls st : List am_V) (σ : am_S), ∀ k, G k = k pc ls st σ
theorem am_K1c (r : am_R) : am_K1 (fun _ => r) := Or.inl ⟨r, fun _ => rfl⟩
theorem am_K1k (pc : Nat) (ls st : List am_V) (σ : am_S) : am_K1 (fun k => k pc ls st σ) := Or.inr ⟨pc, ls, st, σ, fun _ => rfl⟩
theorem am_K1i {c : Prop} [Decidable c] {G1 G2 : (Nat → List am_V → List am_V → am_S → am_R) → am_R} (h1 : am_K1 G1) (h2 : am_K1 G2) : am_K1 (fun k => if c then G1 k else G2 k) := by
  by_cases h : c
  · simp only [if_pos h]; exact h1
  · simp only [if_neg h]; exact h2
theorem am_K1b {c : Bool} {G1 G2 : (Nat → List am_V → List am_V → am_S → am_R) → am_R} (h1 : am_K1 G1) (h2 : am_K1 G2) : am_K1 (fun k => bif c then G1 k else G2 k) := by
  cases c
  · exact h2
  · exact h1
theorem am_K1ck {i : Int32} {n : Nat} {G : (Nat → List am_V → List am_V → am_S → am_R) → am_R} (h : am_K1 G) : am_K1 (fun k => am_ck i n (G k)) := am_K1i (am_K1c none) h
theorem am_K1bk {i : Int32} {G : (Nat → List am_V → List am_V → am_S → am_R) → am_R} (h : am_K1 G) : am_K1 (fun k => am_bk i (G k)) := am_K1i h (am_K1c none)
theorem am_K1nz {i : Int32} {G : (Nat → List am_V → List am_V → am_S → am_R) → am_R} (h : am_K1 G) : am_K1 (fun k => am_nz i (G k)) := am_K1i (am_K1c none) h
theorem am_K1i1 {st : List am_V} {G : (Nat → List am_V → List am_V → am_S → am_R) → Int32 → List am_V → am_R} (h : ∀ x t, am_K1 (fun k => G k x t)) : am_K1 (fun k => am_i1 st (G k)) := by
  unfold am_i1; split
  · exact h _ _
  · exact am_K1c none
theorem am_K1i2 {st : List am_V} {G : (Nat → List am_V → List am_V → am_S → am_R) → Int32 → Int32 → List am_V → am_R} (h : ∀ x y t, am_K1 (fun k => G k x y t)) : am_K1 (fun k => am_i2 st (G k)) := by
  unfold am_i2; split
  · exact h _ _ _
  · exact am_K1c none
theorem am_K1j1 {st : List am_V} {G : (Nat → List am_V → List am_V → am_S → am_R) → Int64 → List am_V → am_R} (h : ∀ x t, am_K1 (fun k => G k x t)) : am_K1 (fun k => am_j1 st (G k)) := by
  unfold am_j1; split
  · exact h _ _
  · exact am_K1c none
theorem am_K1j2 {st : List am_V} {G : (Nat → List am_V → List am_V → am_S → am_R) → Int64 → Int64 → List am_V → am_R} (h : ∀ x y t, am_K1 (fun k => G k x y t)) : am_K1 (fun k => am_j2 st (G k)) := by
  unfold am_j2; split
  · exact h _ _ _
  · exact am_K1c none
theorem am_K1ji {st : List am_V} {G : (Nat → List am_V → List am_V → am_S → am_R) → Int64 → Int32 → List am_V → am_R} (h : ∀ x y t, am_K1 (fun k => G k x y t)) : am_K1 (fun k => am_ji st (G k)) := by
  unfold am_ji; split
  · exact h _ _ _
  · exact am_K1c none
theorem am_K1r1 {st : List am_V} {G : (Nat → List am_V → List am_V → am_S → am_R) → Nat → Nat → List am_V → am_R} (h : ∀ x y t, am_K1 (fun k => G k x y t)) : am_K1 (fun k => am_r1 st (G k)) := by
  unfold am_r1; split
  · exact h _ _ _
  · exact am_K1c none
theorem am_K1ri {st : List am_V} {G : (Nat → List am_V → List am_V → am_S → am_R) → Nat → Nat → Int32 → List am_V → am_R} (h : ∀ x y z t, am_K1 (fun k => G k x y z t)) : am_K1 (fun k => am_ri st (G k)) := by
  unfold am_ri; split
  · exact h _ _ _ _
  · exact am_K1c none
theorem am_K1ir {st : List am_V} {G : (Nat → List am_V → List am_V → am_S → am_R) → Nat → Nat → Int32 → List am_V → am_R} (h : ∀ x y z t, am_K1 (fun k => G k x y z t)) : am_K1 (fun k => am_ir st (G k)) := by
  unfold am_ir; split
  · exact h _ _ _ _
  · exact am_K1c none
theorem am_K1rr {st : List am_V} {G : (Nat → List am_V → List am_V → am_S → am_R) → Nat → Nat → Nat → Nat → List am_V → am_R} (h : ∀ x y z w t, am_K1 (fun k => G k x y z w t)) : am_K1 (fun k => am_rr st (G k)) := by
  unfold am_rr; split
  · exact h _ _ _ _ _
  · exact am_K1c none
theorem am_K1iri {st : List am_V} {G : (Nat → List am_V → List am_V → am_S → am_R) → Nat → Nat → Int32 → Int32 → List am_V → am_R} (h : ∀ x y z w t, am_K1 (fun k => G k x y z w t)) : am_K1 (fun k => am_iri st (G k)) := by
  unfold am_iri; split
  · exact h _ _ _ _ _
  · exact am_K1c none
theorem am_K1jri {st : List am_V} {G : (Nat → List am_V → List am_V → am_S → am_R) → Nat → Nat → Int32 → Int64 → List am_V → am_R} (h : ∀ x y z w t, am_K1 (fun k => G k x y z w t)) : am_K1 (fun k => am_jri st (G k)) := by
  unfold am_jri; split
  · exact h _ _ _ _ _
  · exact am_K1c none
theorem am_K1rri {st : List am_V} {G : (Nat → List am_V → List am_V → am_S → am_R) → Nat → Nat → Int32 → Nat → Nat → List am_V → am_R} (h : ∀ x y z w v t, am_K1 (fun k => G k x y z w v t)) : am_K1 (fun k => am_rri st (G k)) := by
  unfold am_rri; split
  · exact h _ _ _ _ _ _
  · exact am_K1c none
theorem am_K1bi {r : am_R} {G : (Nat → List am_V → List am_V → am_S → am_R) → Int32 → am_S → am_R} (h : ∀ x t, am_K1 (fun k => G k x t)) : am_K1 (fun k => am_bi r (G k)) := by
  unfold am_bi; split
  · exact h _ _
  · exact am_K1c none
theorem am_K1bl {r : am_R} {G : (Nat → List am_V → List am_V → am_S → am_R) → Int64 → am_S → am_R} (h : ∀ x t, am_K1 (fun k => G k x t)) : am_K1 (fun k => am_bl r (G k)) := by
  unfold am_bl; split
  · exact h _ _
  · exact am_K1c none
theorem am_K1br {r : am_R} {G : (Nat → List am_V → List am_V → am_S → am_R) → Nat → Nat → am_S → am_R} (h : ∀ x y t, am_K1 (fun k => G k x y t)) : am_K1 (fun k => am_br r (G k)) := by
  unfold am_br; split
  · exact h _ _ _
  · exact am_K1c none
theorem am_K1bv {r : am_R} {G : (Nat → List am_V → List am_V → am_S → am_R) → am_S → am_R} (h : ∀ t, am_K1 (fun k => G k t)) : am_K1 (fun k => am_bv r (G k)) := by
  unfold am_bv; split
  · exact h _
  · exact am_K1c none
theorem am_K1cmp {c : ClassFile.Cond} {x y : Int32} {G1 G2 : (Nat → List am_V → List am_V → am_S → am_R) → am_R} (h1 : am_K1 G1) (h2 : am_K1 G2) : am_K1 (fun k => am_cmp c x y (G1 k) (G2 k)) := by
  cases c <;> exact am_K1i h1 h2
theorem am_K1sw {x : Int32} {G : (Nat → List am_V → List am_V → am_S → am_R) → Nat → am_R} (h : ∀ p, am_K1 (fun k => G k p)) (l : List (Int × Nat)) (d : Nat) : am_K1 (fun k => am_sw (G k) x l d) := by
  induction l with
  | nil => exact h d
  | cons q r ih => obtain ⟨v, t⟩ := q; exact am_K1i (h t) ih
theorem am_K1st1 {G : (Nat → List am_V → List am_V → am_S → am_R) → List am_V → am_R} (h : ∀ l, am_K1 (fun k => G k l)) (ls : List am_V) (i : Nat) (v : am_V) : am_K1 (fun k => am_st1 (G k) ls i v) := am_K1b (h _) (am_K1c none)
theorem am_K1st2 {G : (Nat → List am_V → List am_V → am_S → am_R) → List am_V → am_R} (h : ∀ l, am_K1 (fun k => G k l)) (ls : List am_V) (i : Nat) (v : am_V) : am_K1 (fun k => am_st2 (G k) ls i v) := am_K1b (h _) (am_K1c none)
theorem am_K1ldi {G : (Nat → List am_V → List am_V → am_S → am_R) → List am_V → am_R} (h : ∀ l, am_K1 (fun k => G k l)) (ls : List am_V) (i : Nat) (st : List am_V) : am_K1 (fun k => am_ldi (G k) ls i st) := by
  unfold am_ldi; split
  · exact h _
  · exact am_K1c none
theorem am_K1ldl {G : (Nat → List am_V → List am_V → am_S → am_R) → List am_V → am_R} (h : ∀ l, am_K1 (fun k => G k l)) (ls : List am_V) (i : Nat) (st : List am_V) : am_K1 (fun k => am_ldl (G k) ls i st) := by
  unfold am_ldl; split
  · exact h _
  · exact am_K1c none
theorem am_K1lda {G : (Nat → List am_V → List am_V → am_S → am_R) → List am_V → am_R} (h : ∀ l, am_K1 (fun k => G k l)) (ls : List am_V) (i : Nat) (st : List am_V) : am_K1 (fun k => am_lda (G k) ls i st) := by
  unfold am_lda; split
  · exact h _
  · exact am_K1c none
theorem am_K1rk {as : List am_V} {c : Nat} {G : (Nat → List am_V → List am_V → am_S → am_R) → am_R} (h : am_K1 G) : am_K1 (fun k => am_rk as c (G k)) := by
  unfold am_rk; split
  · exact am_K1b h (am_K1c none)
  · exact am_K1c none
theorem am_K1call {Γ : Nat → List am_V → am_S → am_R} {G : (Nat → List am_V → List am_V → am_S → am_R) → List am_V → am_S → am_R} (h : ∀ s τ, am_K1 (fun k => G k s τ)) (r : Nat × Nat × Nat) (b : Bool) (rt : Nat) (st : List am_V) (σ : am_S) : am_K1 (fun k => am_call Γ (G k) r b rt st σ) := by
  unfold am_call
  refine am_K1b ?_ (am_K1c none)
  split
  · exact am_K1bv fun _ => h _ _
  · exact am_K1bi fun _ _ => h _ _
  · exact am_K1bl fun _ _ => h _ _
  · exact am_K1br fun _ _ _ => h _ _
theorem am_K1acpy {X : am_X} {G : (Nat → List am_V → List am_V → am_S → am_R) → List am_V → am_S → am_R} (h : ∀ s τ, am_K1 (fun k => G k s τ)) (st : List am_V) (σ : am_S) : am_K1 (fun k => am_acpy X (G k) st σ) := by
  unfold am_acpy; split
  · refine am_K1b (am_K1i (am_K1c none) ?_) (am_K1c none)
    split
    · exact h _ _
    · exact h _ _
    · exact am_K1c none
  · exact am_K1c none
set_option maxHeartbeats 4000000 in
theorem am_K1ins (Γ : Nat → List am_V → am_S → am_R) (X : am_X) (pc : Nat) (ins : Instr) (n : Nat) (r : Nat × Nat × Nat) (sw : List (Int × Nat)) (ls st : List am_V) (σ : am_S) : am_K1 (fun k => am_ins Γ X k pc ins n r sw ls st σ) := by
  cases ins <;> simp only [am_ins] <;>
    repeat' (first
      | exact am_K1k _ _ _ _
      | exact am_K1c _
      | refine am_K1i1 fun _ _ => ?_ | refine am_K1i2 fun _ _ _ => ?_ | refine am_K1j1 fun _ _ => ?_ | refine am_K1j2 fun _ _ _ => ?_ | refine am_K1ji fun _ _ _ => ?_ | refine am_K1r1 fun _ _ _ => ?_
      | refine am_K1ri fun _ _ _ _ => ?_ | refine am_K1ir fun _ _ _ _ => ?_ | refine am_K1rr fun _ _ _ _ _ => ?_ | refine am_K1iri fun _ _ _ _ _ => ?_ | refine am_K1jri fun _ _ _ _ _ => ?_ | refine am_K1rri fun _ _ _ _ _ _ => ?_
      | refine am_K1st1 (fun _ => ?_) _ _ _ | refine am_K1st2 (fun _ => ?_) _ _ _ | refine am_K1ldi (fun _ => ?_) _ _ _ | refine am_K1ldl (fun _ => ?_) _ _ _ | refine am_K1lda (fun _ => ?_) _ _ _
      | refine am_K1cmp ?_ ?_ | refine am_K1sw (fun _ => ?_) _ _ | refine am_K1rk ?_ | refine am_K1call (fun _ _ => ?_) _ _ _ _ _ | refine am_K1acpy (fun _ _ => ?_) _ _
      | refine am_K1ck ?_ | refine am_K1bk ?_ | refine am_K1nz ?_ | refine am_K1b ?_ ?_ | refine am_K1i ?_ ?_
      | split)
theorem am_run_succ (Γ : Nat → List am_V → am_S → am_R) (X : am_X) (P : List am_E) : ∀ (F pc : Nat) (ls st : List am_V) (σ : am_S) (z : Option am_V × am_S), am_run Γ X P F pc ls st σ = some z → am_run Γ X P (F + 1) pc ls st σ = some z := by
  intro F
  induction F with
  | zero => intro pc ls st σ z h; exact absurd h (by simp [am_run])
  | succ F ih =>
    intro pc ls st σ z h
    rw [am_run] at h
    rw [am_run]
    cases hf : am_find pc P with
    | none => rw [hf] at h; exact absurd h (by simp)
    | some e =>
      rw [hf] at h
      dsimp only at h ⊢
      rcases am_K1ins Γ X pc e.2.1 e.2.2.1 e.2.2.2.1 e.2.2.2.2 ls st σ with ⟨r, hr⟩ | ⟨pc', ls', st', σ', hr⟩
      · dsimp only at hr; rw [hr] at h ⊢; exact h
      · dsimp only at hr; rw [hr] at h ⊢; exact ih _ _ _ _ _ h
theorem am_run_le (Γ : Nat → List am_V → am_S → am_R) (X : am_X) (P : List am_E) {F G pc : Nat} {ls st : List am_V} {σ : am_S} {z : Option am_V × am_S} (hle : F ≤ G) (h : am_run Γ X P F pc ls st σ = some z) : am_run Γ X P G pc ls st σ = some z := by
  obtain ⟨n, rfl⟩ := Nat.exists_eq_add_of_le hle
  clear hle
  induction n with
  | zero => exact h
  | succ n ih => exact am_run_succ Γ X P _ _ _ _ _ _ ih
/-- where it comes to, if it comes to an end -/
noncomputable def am_fix (Γ : Nat → List am_V → am_S → am_R) (X : am_X) (P : List am_E) (pc : Nat) (ls st : List am_V) (σ : am_S) : am_R :=
  Classical.epsilon fun r : am_R => (∃ F, r = am_run Γ X P F pc ls st σ ∧ r ≠ none) ∨ (r = none ∧ ∀ F, am_run Γ X P F pc ls st σ = none)
theorem am_fix_spec (Γ : Nat → List am_V → am_S → am_R) (X : am_X) (P : List am_E) (pc : Nat) (ls st : List am_V) (σ : am_S) :
    (∃ F, am_fix Γ X P pc ls st σ = am_run Γ X P F pc ls st σ ∧ am_fix Γ X P pc ls st σ ≠ none) ∨ (am_fix Γ X P pc ls st σ = none ∧ ∀ F, am_run Γ X P F pc ls st σ = none) := by
  refine Classical.epsilon_spec (p := fun r : am_R => (∃ F, r = am_run Γ X P F pc ls st σ ∧ r ≠ none) ∨ (r = none ∧ ∀ F, am_run Γ X P F pc ls st σ = none)) ?_
  by_cases h : ∃ F, am_run Γ X P F pc ls st σ ≠ none
  · obtain ⟨F, h⟩ := h
    exact ⟨_, Or.inl ⟨F, rfl, h⟩⟩
  · exact ⟨none, Or.inr ⟨rfl, fun F => Classical.byContradiction fun q => h ⟨F, q⟩⟩⟩
theorem am_fix_some {Γ : Nat → List am_V → am_S → am_R} {X : am_X} {P : List am_E} {pc : Nat} {ls st : List am_V} {σ : am_S} {z : Option am_V × am_S} (h : am_fix Γ X P pc ls st σ = some z) : ∃ F, am_run Γ X P F pc ls st σ = some z := by
  rcases am_fix_spec Γ X P pc ls st σ with ⟨F, h1, -⟩ | ⟨h1, -⟩
  · exact ⟨F, h1.symm.trans h⟩
  · rw [h1] at h; cases h
theorem am_fix_of {Γ : Nat → List am_V → am_S → am_R} {X : am_X} {P : List am_E} {F pc : Nat} {ls st : List am_V} {σ : am_S} {z : Option am_V × am_S} (h : am_run Γ X P F pc ls st σ = some z) : am_fix Γ X P pc ls st σ = some z := by
  rcases am_fix_spec Γ X P pc ls st σ with ⟨G, h1, h2⟩ | ⟨-, h2⟩
  · rw [h1]
    cases hz : am_run Γ X P G pc ls st σ with
    | none => rw [h1, hz] at h2; exact absurd rfl h2
    | some w =>
      have e1 := am_run_le Γ X P (Nat.le_max_left F G) h
      have e2 := am_run_le Γ X P (Nat.le_max_right F G) hz
      exact e2.symm.trans e1
  · rw [h2 F] at h; cases h
theorem am_fix_eq (Γ : Nat → List am_V → am_S → am_R) (X : am_X) (P : List am_E) (pc : Nat) (ls st : List am_V) (σ : am_S) :
    am_fix Γ X P pc ls st σ = match am_find pc P with
      | some e => am_ins Γ X (am_fix Γ X P) pc e.2.1 e.2.2.1 e.2.2.2.1 e.2.2.2.2 ls st σ
      | none => none := by
  cases hf : am_find pc P with
  | none =>
    rcases am_fix_spec Γ X P pc ls st σ with ⟨F, h1, h2⟩ | ⟨h1, -⟩
    · exfalso; apply h2; rw [h1]
      cases F with
      | zero => rfl
      | succ F => rw [am_run, hf]
    · exact h1
  | some e =>
    dsimp only
    rcases am_K1ins Γ X pc e.2.1 e.2.2.1 e.2.2.2.1 e.2.2.2.2 ls st σ with ⟨r, hr⟩ | ⟨pc', ls', st', σ', hr⟩
    · dsimp only at hr; rw [hr]
      cases r with
      | some z => exact am_fix_of (F := 1) (by rw [am_run, hf]; dsimp only; rw [hr])
      | none =>
        rcases am_fix_spec Γ X P pc ls st σ with ⟨F, h1, h2⟩ | ⟨h1, -⟩
        · exfalso; apply h2; rw [h1]
          cases F with
          | zero => rfl
          | succ F => rw [am_run, hf]; dsimp only; rw [hr]
        · exact h1
    · dsimp only at hr; rw [hr]
      have key : ∀ F, am_run Γ X P (F + 1) pc ls st σ = am_run Γ X P F pc' ls' st' σ' := fun F => by rw [am_run, hf]; dsimp only; rw [hr]
      rcases am_fix_spec Γ X P pc' ls' st' σ' with ⟨F, h1, h2⟩ | ⟨h1, h2⟩
      · rw [h1] at h2 ⊢
        cases hz : am_run Γ X P F pc' ls' st' σ' with
        | none => rw [hz] at h2; exact absurd rfl h2
        | some z => exact am_fix_of (F := F + 1) ((key F).trans hz)
      · rw [h1]
        rcases am_fix_spec Γ X P pc ls st σ with ⟨F, h3, h4⟩ | ⟨h3, -⟩
        · exfalso; apply h4; rw [h3]
          cases F with
          | zero => rfl
          | succ F => rw [key, h2]
        · exact h3
def am_mem (pc : Nat) : List Nat → Bool
  | [] => false
  | a :: r => bif Nat.beq pc a then true else am_mem pc r
/-- on to the next stop -/
def am_to (Γ : Nat → List am_V → am_S → am_R) (X : am_X) (P : List am_E) (S : List Nat) (k : Nat → List am_V → List am_V → am_S → am_R) : Nat → Nat → List am_V → List am_V → am_S → am_R
  | 0, pc, ls, st, σ => k pc ls st σ
  | n + 1, pc, ls, st, σ => bif am_mem pc S then k pc ls st σ else match am_find pc P with
    | some e => am_ins Γ X (am_to Γ X P S k n) pc e.2.1 e.2.2.1 e.2.2.2.1 e.2.2.2.2 ls st σ
    | none => none
theorem am_to_fix (Γ : Nat → List am_V → am_S → am_R) (X : am_X) (P : List am_E) (S : List Nat) (n : Nat) : am_to Γ X P S (am_fix Γ X P) n = am_fix Γ X P := by
  induction n with
  | zero => funext pc ls st σ; rfl
  | succ n ih =>
    funext pc ls st σ
    rw [am_to, ih]
    cases am_mem pc S with
    | true => rfl
    | false => exact (am_fix_eq Γ X P pc ls st σ).symm
def am_at (Γ : Nat → List am_V → am_S → am_R) (X : am_X) (P : List am_E) (S : List Nat) (k : Nat → List am_V → List am_V → am_S → am_R) (n pc : Nat) (ls st : List am_V) (σ : am_S) : am_R := match am_find pc P with
  | some e => am_ins Γ X (am_to Γ X P S k n) pc e.2.1 e.2.2.1 e.2.2.2.1 e.2.2.2.2 ls st σ
  | none => none
theorem am_blk {Γ : Nat → List am_V → am_S → am_R} {X : am_X} {P : List am_E} (S : List Nat) (n : Nat) {pc : Nat} {ls st : List am_V} {σ : am_S} {r : am_R} (h : am_at Γ X P S (am_fix Γ X P) n pc ls st σ = r) : am_fix Γ X P pc ls st σ = r := by
  rw [← h, am_fix_eq]
  unfold am_at
  rw [am_to_fix]
def am_fl : List am_V → List am_V
  | [] => []
  | .inl (.long x) :: t => am_J x :: am_un :: am_fl t
  | .inl (.double x) :: t => .inl (.double x) :: am_un :: am_fl t
  | v :: t => v :: am_fl t
def am_entry (n : Nat) (as : List am_V) : List am_V := am_fl as ++ List.replicate (n - (am_fl as).length) am_un
noncomputable def am_sem (X : am_X) : Nat → Nat → List am_V → am_S → am_R
  | 0, _, _, _ => none
  | d + 1, y, as, σ => match am_ML[y]? with
    | some mt => bif Nat.ble (am_fl as).length mt.2.2.1 then am_fix (am_sem X d) X mt.2.2.2.2.1 0 (am_entry mt.2.2.1 as) [] σ else none
    | none => none
/-- the same with a bound on its steps: it can be counted out -/
def am_cal (X : am_X) (F : Nat) : Nat → Nat → List am_V → am_S → am_R
  | 0, _, _, _ => none
  | d + 1, y, as, σ => match am_ML[y]? with
    | some mt => bif Nat.ble (am_fl as).length mt.2.2.1 then am_run (am_cal X F d) X mt.2.2.2.2.1 F 0 (am_entry mt.2.2.1 as) [] σ else none
    | none => none
