/-! WHAT THE ABSTRACT MACHINE IS WORTH, 2: what a running method is in, what a row of a program must be -/
def am_tbl : List Cond := lw_tbl.filter goodWord
theorem am_tb {w : Cond} (h : w ∈ lw_tbl) (hg : goodWord w = true) : w ∈ am_tbl := List.mem_filter.mpr ⟨h, hg⟩
def va_AOA (t : FieldType) (U : State) : Prop := (Cond.arrayOver (.array t)).before #[] U = true
theorem va_AOA.use {t : FieldType} {A : Array Value} {U : State} (h : va_AOA t U) : (Cond.arrayOver (.array t)).before A U = true := h
theorem va_AOA_warm {t : FieldType} {s U : State} (hW : s.WarmedH U.vm) (h : va_AOA t s) : va_AOA t U := by
  have hvm := hW.alike
  have h0 := h
  unfold va_AOA Cond.before Cond.holds at h0
  simp only [Cond.value, beq_iff_eq] at h0
  cases hc : s.vm.findClass (FieldType.array t).toString with
  | none => simp [hc] at h0
  | some comp =>
    simp only [hc, Option.bind_some, Option.bind_eq_some_iff, Option.map_eq_some_iff] at h0
    obtain ⟨c, hi, k, hk, hb⟩ := h0
    obtain ⟨k', hk', he⟩ := hvm.2.2 _ _ hk
    have hi' : (U.vm.classes.findIdx? fun (x : Class) => match x.kind with | .array component _ => component == comp | _ => false) = some c := by
      have h1 := va_idx_bare U.vm comp
      have h2 := va_idx_bare s.vm comp
      first | rw [hvm.bare_eq] at h2 | rw [← hvm.bare_eq] at h2
      exact (h1.symm.trans h2).trans hi
    have f1 : U.vm.findClass (FieldType.array t).toString = some comp := by rw [hvm.findClass]; exact hc
    have f2 : k'.kind = k.kind := by rw [he]
    unfold va_AOA Cond.before Cond.holds
    simp only [Cond.value]
    rw [f1, Option.bind_some]
    rw [beq_iff_eq, Option.bind_eq_some_iff]
    refine ⟨c, hi', ?_⟩
    rw [Option.map_eq_some_iff]
    refine ⟨k', hk', ?_⟩
    rw [f2, hvm.findClass]
    exact hb
/-- a class by its kind -/
def am_k (c : Nat) : vw_C := am_CL.getD (am_ci c) ("", fun _ => ("", "", "", false), 0)
/-- what is there before, and isn't written -/
def am_rok (c i : Nat) : Prop := (c = 202 ∨ c = 203) ∧ i < 7 ∨ (c = 200 ∨ c = 201 ∨ c = 204 ∨ c = 205) ∧ i = 0
def am_RO (X : am_X) (A : Nat → Prop) (rd : Nat → Nat → Nat) (U : State) (H : Heap) : Prop :=
  (va_Z "BookedEmpty" "ABOVE" "[I" (.ref (rd 200 0)) A U H ∧ va_T .int (rd 200 0) (am_len X 200 0) (fun j => .int (am_ro X 200 0 j)) A U H) ∧
  (va_Z "BookedEmpty$Acts" "BODIES" "[I" (.ref (rd 201 0)) A U H ∧ va_T .int (rd 201 0) (am_len X 201 0) (fun j => .int (am_ro X 201 0 j)) A U H) ∧
  va_Z "java/lang/String" "COMPACT_STRINGS" "Z" (.int 1) A U H ∧
  va_Z "jdk/internal/util/Preconditions" "SIOOBE_FORMATTER" "Ljava/util/function/BiFunction;" (am_cv rd (am_fm X)) A U H ∧
  vk_S 7 am_slen am_sbyt (fun i => rd 203 i) (fun i => rd 202 i) A U H ∧
  (∀ x ∈ am_strs, vk_R x.1 x.2.1 x.2.2.1 (rd 203 x.2.2.2) U) ∧
  (∀ x ∈ am_nestM, va_Nw (.methodLinkNest x.1 x.2.1 x.2.2.1 x.2.2.2) U) ∧
  (∀ x ∈ am_nestF, va_Nw (.fieldLinkNest x.1 x.2.1 x.2.2.1 x.2.2.2.1 x.2.2.2.2.1 x.2.2.2.2.2) U) ∧
  (∀ C ∈ am_over, va_AO C U) ∧ (∀ t ∈ am_overA, va_AOA t U) ∧
  va_X (rd 204 0) X.1 X.2 U H ∧ ¬ A (rd 204 0) ∧ rd 204 0 < H.size
theorem am_RO_to {X : am_X} {A B : Nat → Prop} {rd : Nat → Nat → Nat} {s U : State} {H H1 : Heap} (hW : s.WarmedH U.vm) (hq : ∀ a : Nat, a < H.size → ¬ A a → H1[a]? = H[a]?) (hsz : H.size ≤ H1.size) (hAB : ∀ q, B q → A q) (h : am_RO X A rd s H) : am_RO X B rd U H1 := by
  obtain ⟨⟨a1, a2⟩, ⟨b1, b2⟩, c1, d1, e1, f1, g1, g2, k1, k2, l1, l2, l3⟩ := h
  have hvm := hW.alike
  refine ⟨⟨((va_Z.moved hvm a1).kept hq).narrow hAB, ((va_T.moved hvm a2).kept hq).narrow hAB⟩, ⟨((va_Z.moved hvm b1).kept hq).narrow hAB, ((va_T.moved hvm b2).kept hq).narrow hAB⟩, ((va_Z.moved hvm c1).kept hq).narrow hAB, ((va_Z.moved hvm d1).kept hq).narrow hAB, ((vk_S.moved hvm e1).kept hq).narrow hAB, fun x hx => (f1 x hx).warm hW, fun x hx => va_Nw.warmM hW (g1 x hx), fun x hx => va_Nw.warmF hW (g2 x hx), fun C hC => (k1 C hC).moved hvm, fun t ht => ?_, ?_, fun q => l2 (hAB _ q), Nat.lt_of_lt_of_le l3 hsz⟩
  · exact va_AOA_warm hW (k2 t ht)
  · obtain ⟨scr, h1, h2, h3, h4, h5⟩ := l1
    exact ⟨scr, by rw [hq _ l3 l2]; exact h1, State.isArrayOf_alike hvm h2, h3, h4, h5⟩
/-- what stays while a method runs -/
def am_Cx (p : Program) (s : State) (m : MethodId) (args : Array Value) (meth : Method) (c : Code) (X : am_X) (D : va_G) (A : Nat → Prop) (rd : Nat → Nat → Nat) (nm : String) (cc : ByteArray) (nL ow : Nat) : Prop :=
  p.tables.exec = Jvm.exec ∧ c.code = cc ∧ c.maxLocals = nL ∧ s.vm.findClass (am_on ow) = some m.cls ∧ (∀ w ∈ am_tbl, w.before args s = true) ∧ meth.locks = false ∧ meth.name = nm ∧
  (∀ q, s.heap.size ≤ q → A q) ∧ va_K D am_CL [] s ∧ am_RO X A rd s s.heap
def am_okq (σ : am_S) (c i : Nat) : Prop := am_ok σ c i ∨ am_rok c i
def am_okv (σ : am_S) (v : am_V) : Prop := match v with
  | .inr q => am_okq σ q.1 q.2
  | _ => True
/-- known locals -/
def am_lk (ad : Nat → Nat → Nat) : Nat → List am_V → List (Nat × Value)
  | _, [] => []
  | k, .inl (.retAddr _) :: t => am_lk ad (k + 1) t
  | k, v :: t => (k, am_cv ad v) :: am_lk ad (k + 1) t
def am_Inv (X : am_X) (D : va_G) (A : Nat → Prop) (s : State) (rd ad0 : Nat → Nat → Nat) (σ0 : am_S) (ad : Nat → Nat → Nat) (cA : Nat → Nat → ClassId) (σ : am_S) (H : Heap) (locs : List Loc) (cells slots : Nat) : Prop :=
  am_W X D A s ad cA σ H ∧ va_S A s.heap H locs ∧ (∀ c i, 200 ≤ c → ad c i = rd c i) ∧ (∀ c i, am_ok σ0 c i → ad c i = ad0 c i) ∧ (∀ c, σ0.2.2.1 c ≤ σ.2.2.1 c) ∧ cells + σ0.2.2.2.1 = σ.2.2.2.1 ∧ slots + σ0.2.2.2.2 = σ.2.2.2.2
def am_Fr (σ : am_S) (ad : Nat → Nat → Nat) (ls st : List am_V) (LS : Array Slot) (nL : Nat) : Prop :=
  lv_has LS nL (am_lk ad 0 ls) ∧ ls.length = nL ∧ (∀ v ∈ ls, am_okv σ v) ∧ (∀ v ∈ st, am_okv σ v)
theorem am_lk_mem {ad : Nat → Nat → Nat} {q : Nat × Value} : ∀ {k : Nat} {ls : List am_V}, q ∈ am_lk ad k ls ↔ ∃ (i : Nat) (v : am_V), ls[i]? = some v ∧ (∀ z, v ≠ .inl (.retAddr z)) ∧ q = (k + i, am_cv ad v) := by
  intro k ls
  induction ls generalizing k with
  | nil => simp [am_lk]
  | cons w t ih =>
    have hstep : (∃ (i : Nat) (v : am_V), (w :: t)[i]? = some v ∧ (∀ z, v ≠ .inl (.retAddr z)) ∧ q = (k + i, am_cv ad v)) ↔ ((∀ z, w ≠ .inl (.retAddr z)) ∧ q = (k, am_cv ad w)) ∨ ∃ (i : Nat) (v : am_V), t[i]? = some v ∧ (∀ z, v ≠ .inl (.retAddr z)) ∧ q = (k + 1 + i, am_cv ad v) := by
      constructor
      · rintro ⟨i, v, h1, h2, h3⟩
        cases i with
        | zero => simp at h1; subst h1; exact Or.inl ⟨h2, h3⟩
        | succ i => exact Or.inr ⟨i, v, by simpa using h1, h2, by rw [h3, show k + (i + 1) = k + 1 + i by omega]⟩
      · rintro (⟨h2, h3⟩ | ⟨i, v, h1, h2, h3⟩)
        · exact ⟨0, w, rfl, h2, h3⟩
        · exact ⟨i + 1, v, by simpa using h1, h2, by rw [h3, show k + 1 + i = k + (i + 1) by omega]⟩
    rw [hstep, ← ih]
    rcases w with w | w
    · cases w <;> simp [am_lk]
    · simp [am_lk]
theorem am_lk_get {ad : Nat → Nat → Nat} {ls : List am_V} {LS : Array Slot} {nL i : Nat} {v : am_V} (h : lv_has LS nL (am_lk ad 0 ls)) (hi : ls[i]? = some v) (hv : ∀ z, v ≠ .inl (.retAddr z)) : LS[i]? = some (.val (am_cv ad v)) :=
  h.2.2 (i, am_cv ad v) (am_lk_mem.mpr ⟨i, v, hi, hv, by simp⟩)
theorem am_lk_sub {LS : Array Slot} {nL : Nat} {l l' : List (Nat × Value)} (h : lv_has LS nL l) (hs : ∀ q ∈ l', q ∈ l) : lv_has LS nL l' := ⟨h.1, h.2.1, fun q hq => h.2.2 q (hs q hq)⟩
/-- addresses that agree give the same locals, the same stack -/
theorem am_cv_same {σ : am_S} {ad ad' : Nat → Nat → Nat} (h : ∀ c i, am_okq σ c i → ad' c i = ad c i) {v : am_V} (hv : am_okv σ v) : am_cv ad' v = am_cv ad v := by
  rcases v with v | q
  · rfl
  · show Value.ref (ad' q.1 q.2) = .ref (ad q.1 q.2)
    rw [h _ _ hv]
theorem am_lk_same {σ : am_S} {ad ad' : Nat → Nat → Nat} (h : ∀ c i, am_okq σ c i → ad' c i = ad c i) : ∀ (k : Nat) (ls : List am_V), (∀ v ∈ ls, am_okv σ v) → am_lk ad' k ls = am_lk ad k ls := by
  intro k ls
  induction ls generalizing k with
  | nil => intro _; rfl
  | cons w t ih =>
    intro hv
    have h1 := ih (k + 1) (fun v hq => hv v (List.mem_cons_of_mem _ hq))
    have h2 := am_cv_same h (hv w List.mem_cons_self)
    rcases w with w | w
    · cases w <;> simp only [am_lk, h1, h2]
    · simp only [am_lk, h1, h2]
theorem am_map_same {σ : am_S} {ad ad' : Nat → Nat → Nat} (h : ∀ c i, am_okq σ c i → ad' c i = ad c i) (st : List am_V) (hv : ∀ v ∈ st, am_okv σ v) : st.map (am_cv ad') = st.map (am_cv ad) :=
  List.map_congr_left fun v hq => am_cv_same h (hv v hq)
