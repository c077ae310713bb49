/-! WHAT THE ABSTRACT MACHINE IS WORTH, 1: the made things in the heap -/
def am_cv (ad : Nat → Nat → Nat) : am_V → Value
  | .inl v => v
  | .inr q => .ref (ad q.1 q.2)
def am_rf (ad : Nat → Nat → Nat) (o : Option (Nat × Nat)) : Option Nat := o.map fun q => ad q.1 q.2
theorem am_cv_rv (ad : Nat → Nat → Nat) (o : Option (Nat × Nat)) : am_cv ad (am_rv o) = va_rf (am_rf ad o) := by
  cases o <;> rfl
def am_fv (X : am_X) (ad : Nat → Nat → Nat) (σ : am_S) (c i j : Nat) : Value := match am_fk c j with
  | 1 => .long (am_gl σ c i j)
  | 2 => va_rf (am_rf ad (am_go σ c i j))
  | _ => .int (am_gs X σ c i j)
def am_row (X : am_X) (ad : Nat → Nat → Nat) (σ : am_S) (c i : Nat) : vp_A := (am_len X c i, match am_tk c with
  | 1 => .inr (.inl (am_gl σ c i))
  | 2 => .inr (.inr (.inr (.inr fun j => am_rf ad (am_go σ c i j))))
  | _ => .inl (am_gs X σ c i))
def am_obj (X : am_X) (ad : Nat → Nat → Nat) (σ : am_S) (c i : Nat) : List Value := (List.range (am_nf c)).map (am_fv X ad σ c i)
def am_cell (X : am_X) (ad : Nat → Nat → Nat) (cA : Nat → Nat → ClassId) (σ : am_S) (c i : Nat) : va_E :=
  bif Nat.beq (am_tk c) 9 then .inr (am_ci c, am_obj X ad σ c i) else .inl (cA c i, am_row X ad σ c i)
def am_ok (σ : am_S) (c i : Nat) : Prop := c < 200 ∧ i < σ.2.2.1 c
def am_W (X : am_X) (D : va_G) (A : Nat → Prop) (s : State) (ad : Nat → Nat → Nat) (cA : Nat → Nat → ClassId) (σ : am_S) (H : Heap) : Prop :=
  ∃ ws : va_W, va_P D am_CL ws H ∧ va_D A ws ∧ (∀ c i, am_ok σ c i → ∃ k : Nat, ws[k]? = some (ad c i, am_cell X ad cA σ c i)) ∧
    (∀ c i, am_ok σ c i → am_tk c ≠ 9 → ArrOfT s (cA c i) (am_ty c) ∧ va_RA s (cA c i) (am_ty c)) ∧
    (∀ c i c' i', am_ok σ c i → am_ok σ c' i' → ad c i = ad c' i' → c = c' ∧ i = i') ∧
    (∀ c i j q, am_ok σ c i → am_go σ c i j = some q → am_ok σ q.1 q.2)
theorem am_W_moved {X : am_X} {D : va_G} {A : Nat → Prop} {s u : State} {ad : Nat → Nat → Nat} {cA : Nat → Nat → ClassId} {σ : am_S} {H : Heap} (hvm : s.vm.Alike u.vm) (h : am_W X D A s ad cA σ H) : am_W X D A u ad cA σ H := by
  obtain ⟨ws, h1, h2, h3, h4, h5⟩ := h
  exact ⟨ws, h1, h2, h3, fun c i hv ht => ⟨arrOfT_moved hvm (h4 c i hv ht).1, (h4 c i hv ht).2.moved hvm⟩, h5⟩
theorem am_W_weak {X : am_X} {D : va_G} {A B : Nat → Prop} {s : State} {ad : Nat → Nat → Nat} {cA : Nat → Nat → ClassId} {σ : am_S} {H : Heap} (hAB : ∀ q, A q → B q) (h : am_W X D A s ad cA σ H) : am_W X D B s ad cA σ H := by
  obtain ⟨ws, h1, h2, h3⟩ := h
  exact ⟨ws, h1, ⟨h2.1, fun k q hk => hAB _ (h2.2 k q hk)⟩, h3⟩
theorem am_W_in {X : am_X} {D : va_G} {A : Nat → Prop} {s : State} {ad : Nat → Nat → Nat} {cA : Nat → Nat → ClassId} {σ : am_S} {H : Heap} (h : am_W X D A s ad cA σ H) {c i : Nat} (hv : am_ok σ c i) : A (ad c i) := by
  obtain ⟨ws, h1, h2, h3, -⟩ := h
  obtain ⟨k, hk⟩ := h3 c i hv
  exact h2.2 k _ hk
theorem am_W_lt {X : am_X} {D : va_G} {A : Nat → Prop} {s : State} {ad : Nat → Nat → Nat} {cA : Nat → Nat → ClassId} {σ : am_S} {H : Heap} (h : am_W X D A s ad cA σ H) {c i : Nat} (hv : am_ok σ c i) : ad c i < H.size := by
  obtain ⟨ws, h1, h2, h3, -⟩ := h
  obtain ⟨k, hk⟩ := h3 c i hv
  exact (h1 k _ hk).lt
/-- one of them is written -/
theorem am_W_set {X : am_X} {D : va_G} {A : Nat → Prop} {s : State} {ad : Nat → Nat → Nat} {cA : Nat → Nat → ClassId} {σ σ' : am_S} {H1 : Heap} {ws : va_W} {c i k : Nat} {E : va_E}
    (hk : ws[k]? = some (ad c i, am_cell X ad cA σ c i)) (hv : am_ok σ c i)
    (h3 : ∀ c i, am_ok σ c i → ∃ k : Nat, ws[k]? = some (ad c i, am_cell X ad cA σ c i)) (h4 : ∀ c i, am_ok σ c i → am_tk c ≠ 9 → ArrOfT s (cA c i) (am_ty c) ∧ va_RA s (cA c i) (am_ty c))
    (h5 : ∀ c i c' i', am_ok σ c i → am_ok σ c' i' → ad c i = ad c' i' → c = c' ∧ i = i') (h6 : ∀ c i j q, am_ok σ' c i → am_go σ' c i j = some q → am_ok σ' q.1 q.2)
    (hP1 : va_P D am_CL (ws.set k (ad c i, E)) H1) (hD1 : va_D A (ws.set k (ad c i, E))) (he : E = am_cell X ad cA σ' c i)
    (hcn : σ'.2.2.1 = σ.2.2.1) (ho : ∀ c' i', ¬ (c' = c ∧ i' = i) → am_cell X ad cA σ' c' i' = am_cell X ad cA σ c' i') : am_W X D A s ad cA σ' H1 := by
  have hok : ∀ c i, am_ok σ' c i ↔ am_ok σ c i := fun c i => by unfold am_ok; rw [hcn]
  refine ⟨_, hP1, hD1, fun c' i' hv' => ?_, fun c' i' hv' => h4 c' i' ((hok _ _).mp hv'), fun c1 i1 c2 i2 h1 h2 => h5 c1 i1 c2 i2 ((hok _ _).mp h1) ((hok _ _).mp h2), h6⟩
  by_cases e : c' = c ∧ i' = i
  · obtain ⟨rfl, rfl⟩ := e
    refine ⟨k, ?_⟩
    rw [List.getElem?_set_self (List.getElem?_eq_some_iff.mp hk).1, he]
  · obtain ⟨k', hk'⟩ := h3 c' i' ((hok _ _).mp hv')
    refine ⟨k', ?_⟩
    have hne : k ≠ k' := by
      intro q
      subst q
      rw [hk] at hk'
      have := (Prod.mk.inj (Option.some.inj hk')).1
      obtain ⟨e1, e2⟩ := h5 c i c' i' hv ((hok _ _).mp hv') this
      exact e ⟨e1.symm, e2.symm⟩
    rw [List.getElem?_set_ne hne, hk', ho c' i' e]
-- reading what was written
theorem am_q_sq (σ : am_S) (c : Nat) (q : am_Q) (c' : Nat) : am_q (am_sq σ c q) c' = bif (Nat.ble 50 c' == Nat.ble 50 c) then q else am_q σ c' := by
  unfold am_q am_sq
  cases Nat.ble 50 c <;> cases Nat.ble 50 c' <;> rfl
theorem am_cn_sq (σ : am_S) (c : Nat) (q : am_Q) : (am_sq σ c q).2.2 = σ.2.2 := by
  unfold am_sq
  cases Nat.ble 50 c <;> rfl
theorem am_nbf {a b : Nat} (h : ¬ a = b) : Nat.beq a b = false := by
  cases e : Nat.beq a b with
  | false => rfl
  | true => exact absurd (Nat.eq_of_beq_eq_true e) h
theorem am_nbt (a : Nat) : Nat.beq a a = true := Nat.beq_refl a
theorem am_w3_eq {α : Type} (f : Nat → Nat → Nat → α) (c i j : Nat) (x : α) (c' i' j' : Nat) : am_w3 f c i j x c' i' j' = if c' = c ∧ i' = i ∧ j' = j then x else f c' i' j' := by
  unfold am_w3
  by_cases h1 : c' = c
  · by_cases h2 : j' = j
    · by_cases h3 : i' = i
      · subst h1; subst h2; subst h3; simp [am_nbt]
      · simp [h1, h2, h3, am_nbt, am_nbf h3]
    · simp [h1, h2, am_nbt, am_nbf h2]
  · simp [h1, am_nbf h1]
theorem am_ble_lt {c : Nat} (h : c < 200) : Nat.ble 200 c = false := by
  cases e : Nat.ble 200 c with
  | false => rfl
  | true => exact absurd (Nat.le_of_ble_eq_true e) (by omega)
theorem am_gs_lt (X : am_X) (σ : am_S) {c : Nat} (h : c < 200) (i j : Nat) : am_gs X σ c i j = (am_q σ c).1 c i j := by
  unfold am_gs; rw [am_ble_lt h]; rfl
theorem am_go_lt (σ : am_S) {c : Nat} (h : c < 200) (i j : Nat) : am_go σ c i j = (am_q σ c).2.2 c i j := by
  unfold am_go; rw [am_ble_lt h]; rfl
theorem am_gs_ge (X : am_X) (σ τ : am_S) {c : Nat} (h : Nat.ble 200 c = true) (i j : Nat) : am_gs X σ c i j = am_gs X τ c i j := by
  unfold am_gs; rw [h]; rfl
theorem am_go_ge (σ τ : am_S) {c : Nat} (h : Nat.ble 200 c = true) (i j : Nat) : am_go σ c i j = am_go τ c i j := by
  unfold am_go; rw [h]; rfl
theorem am_gs_pi (X : am_X) (σ : am_S) {c : Nat} (h : c < 200) (i j : Nat) (x : Int32) (c' i' j' : Nat) : am_gs X (am_pi σ c i j x) c' i' j' = if c' = c ∧ i' = i ∧ j' = j then x else am_gs X σ c' i' j' := by
  cases e : Nat.ble 200 c' with
  | true =>
    have : c' ≠ c := fun q => by rw [q, am_ble_lt h] at e; cases e
    rw [if_neg (fun q => this q.1)]
    exact am_gs_ge X _ _ e _ _
  | false =>
    unfold am_gs
    rw [e]
    show (am_q (am_pi σ c i j x) c').1 c' i' j' = if c' = c ∧ i' = i ∧ j' = j then x else (am_q σ c').1 c' i' j'
    unfold am_pi
    rw [am_q_sq]
    cases e2 : (Nat.ble 50 c' == Nat.ble 50 c) with
    | false =>
      have : c' ≠ c := fun q => by rw [q] at e2; simp at e2
      rw [if_neg (fun q => this q.1)]; rfl
    | true =>
      show (am_w3 _ c i j x) c' i' j' = _
      rw [am_w3_eq]
      have : am_q σ c' = am_q σ c := by unfold am_q; rw [beq_iff_eq.mp e2]
      rw [this]
theorem am_gl_pi (σ : am_S) (c i j : Nat) (x : Int32) (c' i' j' : Nat) : am_gl (am_pi σ c i j x) c' i' j' = am_gl σ c' i' j' := by
  unfold am_gl am_pi
  rw [am_q_sq]
  cases e2 : (Nat.ble 50 c' == Nat.ble 50 c) with
  | false => rfl
  | true => have : am_q σ c' = am_q σ c := by unfold am_q; rw [beq_iff_eq.mp e2]
            rw [this]; rfl
theorem am_go_pi (σ : am_S) (c i j : Nat) (x : Int32) (c' i' j' : Nat) : am_go (am_pi σ c i j x) c' i' j' = am_go σ c' i' j' := by
  unfold am_go am_pi
  rw [am_q_sq]
  cases e2 : (Nat.ble 50 c' == Nat.ble 50 c) with
  | false => rfl
  | true => have : am_q σ c' = am_q σ c := by unfold am_q; rw [beq_iff_eq.mp e2]
            rw [this]; rfl
theorem am_gl_pl (σ : am_S) (c i j : Nat) (x : Int64) (c' i' j' : Nat) : am_gl (am_pl σ c i j x) c' i' j' = if c' = c ∧ i' = i ∧ j' = j then x else am_gl σ c' i' j' := by
  unfold am_gl am_pl
  rw [am_q_sq]
  cases e2 : (Nat.ble 50 c' == Nat.ble 50 c) with
  | false =>
    have : c' ≠ c := fun q => by rw [q] at e2; simp at e2
    rw [if_neg (fun q => this q.1)]; rfl
  | true =>
    show (am_w3 _ c i j x) c' i' j' = _
    rw [am_w3_eq]
    have : am_q σ c' = am_q σ c := by unfold am_q; rw [beq_iff_eq.mp e2]
    rw [this]
theorem am_gs_pl (X : am_X) (σ : am_S) (c i j : Nat) (x : Int64) (c' i' j' : Nat) : am_gs X (am_pl σ c i j x) c' i' j' = am_gs X σ c' i' j' := by
  unfold am_gs am_pl
  rw [am_q_sq]
  cases e2 : (Nat.ble 50 c' == Nat.ble 50 c) with
  | false => rfl
  | true => have : am_q σ c' = am_q σ c := by unfold am_q; rw [beq_iff_eq.mp e2]
            rw [this]; rfl
theorem am_go_pl (σ : am_S) (c i j : Nat) (x : Int64) (c' i' j' : Nat) : am_go (am_pl σ c i j x) c' i' j' = am_go σ c' i' j' := by
  unfold am_go am_pl
  rw [am_q_sq]
  cases e2 : (Nat.ble 50 c' == Nat.ble 50 c) with
  | false => rfl
  | true => have : am_q σ c' = am_q σ c := by unfold am_q; rw [beq_iff_eq.mp e2]
            rw [this]; rfl
theorem am_go_po (σ : am_S) {c : Nat} (h : c < 200) (i j : Nat) (x : Option (Nat × Nat)) (c' i' j' : Nat) : am_go (am_po σ c i j x) c' i' j' = if c' = c ∧ i' = i ∧ j' = j then x else am_go σ c' i' j' := by
  cases e : Nat.ble 200 c' with
  | true =>
    have : c' ≠ c := fun q => by rw [q, am_ble_lt h] at e; cases e
    rw [if_neg (fun q => this q.1)]
    exact am_go_ge _ _ e _ _
  | false =>
    unfold am_go
    rw [e]
    show (am_q (am_po σ c i j x) c').2.2 c' i' j' = if c' = c ∧ i' = i ∧ j' = j then x else (am_q σ c').2.2 c' i' j'
    unfold am_po
    rw [am_q_sq]
    cases e2 : (Nat.ble 50 c' == Nat.ble 50 c) with
    | false =>
      have : c' ≠ c := fun q => by rw [q] at e2; simp at e2
      rw [if_neg (fun q => this q.1)]; rfl
    | true =>
      show (am_w3 _ c i j x) c' i' j' = _
      rw [am_w3_eq]
      have : am_q σ c' = am_q σ c := by unfold am_q; rw [beq_iff_eq.mp e2]
      rw [this]
theorem am_gs_po (X : am_X) (σ : am_S) (c i j : Nat) (x : Option (Nat × Nat)) (c' i' j' : Nat) : am_gs X (am_po σ c i j x) c' i' j' = am_gs X σ c' i' j' := by
  unfold am_gs am_po
  rw [am_q_sq]
  cases e2 : (Nat.ble 50 c' == Nat.ble 50 c) with
  | false => rfl
  | true => have : am_q σ c' = am_q σ c := by unfold am_q; rw [beq_iff_eq.mp e2]
            rw [this]; rfl
theorem am_gl_po (σ : am_S) (c i j : Nat) (x : Option (Nat × Nat)) (c' i' j' : Nat) : am_gl (am_po σ c i j x) c' i' j' = am_gl σ c' i' j' := by
  unfold am_gl am_po
  rw [am_q_sq]
  cases e2 : (Nat.ble 50 c' == Nat.ble 50 c) with
  | false => rfl
  | true => have : am_q σ c' = am_q σ c := by unfold am_q; rw [beq_iff_eq.mp e2]
            rw [this]; rfl
/-- cells with the same contents -/
theorem am_cell_eq {X : am_X} {ad : Nat → Nat → Nat} {cA : Nat → Nat → ClassId} {σ σ' : am_S} {c i : Nat} (h1 : ∀ j, am_gs X σ' c i j = am_gs X σ c i j) (h2 : ∀ j, am_gl σ' c i j = am_gl σ c i j) (h3 : ∀ j, am_go σ' c i j = am_go σ c i j) : am_cell X ad cA σ' c i = am_cell X ad cA σ c i := by
  have e1 : am_gs X σ' c i = am_gs X σ c i := funext h1
  have e2 : am_gl σ' c i = am_gl σ c i := funext h2
  have e3 : am_go σ' c i = am_go σ c i := funext h3
  unfold am_cell am_row am_obj am_fv
  simp only [e1, e2, e3]
theorem am_map_set {β : Type} (n j : Nat) (f g : Nat → β) (x : β) (hx : g j = x) (hg : ∀ k, k ≠ j → g k = f k) : ((List.range n).map f).set j x = (List.range n).map g := by
  apply List.ext_getElem?
  intro k
  rw [List.getElem?_set]
  by_cases h : j = k
  · subst h
    by_cases hk : j < n
    · simp [hk, hx]
    · simp [hk]
  · rw [if_neg h]
    by_cases hk : k < n
    · simp [hk, hg k (fun q => h q.symm)]
    · simp [hk]
