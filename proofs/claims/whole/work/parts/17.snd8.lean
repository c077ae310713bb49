/-! WHAT THE ABSTRACT MACHINE IS WORTH, 8: things are made -/
section AMH
variable {p : Program} {l : Launch} {e : Env} {R : Room} {s : State} {m : MethodId} {args : Array Value} {below : List Frame} {meth : Method} {c : Code} {H : Heap} {locs : List Loc} {cells slots : Nat} {Q : State → Prop}
variable {X : am_X} {D : va_G} {A : Nat → Prop} {rd ad0 ad : Nat → Nat → Nat} {cA : Nat → Nat → ClassId} {σ0 σ : am_S} {nm : String} {cc : ByteArray} {nL ow pc n : Nat} {ret : Option FieldType} {z : Option am_V × am_S}
variable {ls st : List am_V} {LS : Array Slot} {r : Nat × Nat × Nat} {sw : List (Int × Nat)} {Γ : Nat → List am_V → am_S → am_R}
variable {k : Nat → List am_V → List am_V → am_S → am_R}

def am_adn (ad : Nat → Nat → Nat) (c i q : Nat) : Nat → Nat → Nat := fun c' i' => if c' = c ∧ i' = i then q else ad c' i'
def am_cAn (cA : Nat → Nat → ClassId) (c i : Nat) (q : ClassId) : Nat → Nat → ClassId := fun c' i' => if c' = c ∧ i' = i then q else cA c' i'
theorem am_w2_eq {α : Type} (f : Nat → Nat → Nat → α) (c i : Nat) (g : Nat → α) (c' i' j' : Nat) : am_w2 f c i g c' i' j' = if c' = c ∧ i' = i then g j' else f c' i' j' := by
  unfold am_w2 am_u
  by_cases h1 : c' = c
  · by_cases h2 : i' = i
    · subst h1; subst h2; simp [am_nbt]
    · simp [h1, h2, am_nbt, am_nbf h2]
  · simp [h1, am_nbf h1]
theorem am_new_q (σ : am_S) (c w c' : Nat) : am_q (am_new σ c w) c' = am_q (am_sq σ c (am_w2 (am_q σ c).1 c (σ.2.2.1 c) (fun _ => 0), am_w2 (am_q σ c).2.1 c (σ.2.2.1 c) (fun _ => 0), am_w2 (am_q σ c).2.2 c (σ.2.2.1 c) (fun _ => none))) c' := by
  unfold am_new am_q
  cases Nat.ble 50 c' <;> rfl
theorem am_new_q2 (σ : am_S) (c w c' : Nat) : am_q (am_new σ c w) c' = bif (Nat.ble 50 c' == Nat.ble 50 c) then (am_w2 (am_q σ c).1 c (σ.2.2.1 c) (fun _ => 0), am_w2 (am_q σ c).2.1 c (σ.2.2.1 c) (fun _ => 0), am_w2 (am_q σ c).2.2 c (σ.2.2.1 c) (fun _ => none)) else am_q σ c' := by
  rw [am_new_q, am_q_sq]
theorem am_q_part {σ : am_S} {c c' : Nat} (h : (Nat.ble 50 c' == Nat.ble 50 c) = true) : am_q σ c' = am_q σ c := by unfold am_q; rw [beq_iff_eq.mp h]
theorem am_gs_new (hc : Nat.ble 200 r.1 = false) (w c' i' j' : Nat) : am_gs X (am_new σ r.1 w) c' i' j' = if c' = r.1 ∧ i' = σ.2.2.1 r.1 then 0 else am_gs X σ c' i' j' := by
  cases e : Nat.ble 200 c' with
  | true =>
    have : c' ≠ r.1 := fun q => by rw [q, hc] at e; cases e
    rw [if_neg (fun q => this q.1)]
    exact am_gs_ge X _ _ e _ _
  | false =>
    unfold am_gs
    rw [e]
    show (am_q (am_new σ r.1 w) c').1 c' i' j' = if c' = r.1 ∧ i' = σ.2.2.1 r.1 then 0 else (am_q σ c').1 c' i' j'
    rw [am_new_q2]
    cases e2 : (Nat.ble 50 c' == Nat.ble 50 r.1) with
    | false =>
      have : c' ≠ r.1 := fun q => by rw [q] at e2; simp at e2
      rw [if_neg (fun q => this q.1)]; rfl
    | true =>
      show am_w2 _ _ _ _ c' i' j' = _
      rw [am_w2_eq, am_q_part e2]
theorem am_gl_new (w c' i' j' : Nat) : am_gl (am_new σ r.1 w) c' i' j' = if c' = r.1 ∧ i' = σ.2.2.1 r.1 then 0 else am_gl σ c' i' j' := by
  unfold am_gl
  rw [am_new_q2]
  cases e2 : (Nat.ble 50 c' == Nat.ble 50 r.1) with
  | false =>
    have : c' ≠ r.1 := fun q => by rw [q] at e2; simp at e2
    rw [if_neg (fun q => this q.1)]; rfl
  | true =>
    show am_w2 _ _ _ _ c' i' j' = _
    rw [am_w2_eq, am_q_part e2]
theorem am_go_new (hc : Nat.ble 200 r.1 = false) (w c' i' j' : Nat) : am_go (am_new σ r.1 w) c' i' j' = if c' = r.1 ∧ i' = σ.2.2.1 r.1 then none else am_go σ c' i' j' := by
  cases e : Nat.ble 200 c' with
  | true =>
    have : c' ≠ r.1 := fun q => by rw [q, hc] at e; cases e
    rw [if_neg (fun q => this q.1)]
    exact am_go_ge _ _ e _ _
  | false =>
    unfold am_go
    rw [e]
    show (am_q (am_new σ r.1 w) c').2.2 c' i' j' = if c' = r.1 ∧ i' = σ.2.2.1 r.1 then none else (am_q σ c').2.2 c' i' j'
    rw [am_new_q2]
    cases e2 : (Nat.ble 50 c' == Nat.ble 50 r.1) with
    | false =>
      have : c' ≠ r.1 := fun q => by rw [q] at e2; simp at e2
      rw [if_neg (fun q => this q.1)]; rfl
    | true =>
      show am_w2 _ _ _ _ c' i' j' = _
      rw [am_w2_eq, am_q_part e2]
theorem am_cn_new (σ : am_S) (c w c' : Nat) : (am_new σ c w).2.2.1 c' = if c' = c then σ.2.2.1 c + 1 else σ.2.2.1 c' := by
  show am_u σ.2.2.1 c (σ.2.2.1 c + 1) c' = _
  unfold am_u
  by_cases h : c' = c
  · simp [h, am_nbt]
  · simp [h, am_nbf h]
theorem am_nc_new (σ : am_S) (c w : Nat) : (am_new σ c w).2.2.2.1 = σ.2.2.2.1 + 1 ∧ (am_new σ c w).2.2.2.2 = σ.2.2.2.2 + w := ⟨rfl, rfl⟩
theorem am_cell_ad {ad' : Nat → Nat → Nat} {cA' : Nat → Nat → ClassId} {σ' : am_S} {c0 i : Nat} (h : ∀ j q, am_go σ c0 i j = some q → ad' q.1 q.2 = ad q.1 q.2) (hcA : cA' c0 i = cA c0 i) (h1 : ∀ j, am_gs X σ' c0 i j = am_gs X σ c0 i j) (h2 : ∀ j, am_gl σ' c0 i j = am_gl σ c0 i j) (h3 : ∀ j, am_go σ' c0 i j = am_go σ c0 i j) : am_cell X ad' cA' σ' c0 i = am_cell X ad cA σ c0 i := by
  have e0 : ∀ j, am_rf ad' (am_go σ' c0 i j) = am_rf ad (am_go σ c0 i j) := by
    intro j
    rw [h3]
    cases hg : am_go σ c0 i j with
    | none => rfl
    | some q => show some (ad' q.1 q.2) = some (ad q.1 q.2); rw [h j q hg]
  have e1 : am_gs X σ' c0 i = am_gs X σ c0 i := funext h1
  have e2 : am_gl σ' c0 i = am_gl σ c0 i := funext h2
  unfold am_cell am_row am_obj
  have e3 : am_fv X ad' σ' c0 i = am_fv X ad σ c0 i := by
    funext j
    unfold am_fv
    rw [e0, e1, e2]
  rw [e3, e1, e2, hcA]
  simp only [e0]
/-- one more thing of a kind -/
theorem am_W_new4 {σ' : am_S} {ws : va_W} {H1 : Heap} {q : Nat} {tA : ClassId} {E : va_E} (hc : r.1 < 200) (hW3 : ∀ c i, am_ok σ c i → ∃ k : Nat, ws[k]? = some (ad c i, am_cell X ad cA σ c i)) (h4 : ∀ c i, am_ok σ c i → am_tk c ≠ 9 → ArrOfT s (cA c i) (am_ty c) ∧ va_RA s (cA c i) (am_ty c))
    (h5 : ∀ c i c' i', am_ok σ c i → am_ok σ c' i' → ad c i = ad c' i' → c = c' ∧ i = i') (h6 : ∀ c i j q, am_ok σ c i → am_go σ c i j = some q → am_ok σ q.1 q.2)
    (hcn : ∀ c', σ'.2.2.1 c' = if c' = r.1 then σ.2.2.1 r.1 + 1 else σ.2.2.1 c') (hgs : ∀ c i j, am_ok σ c i → am_gs X σ' c i j = am_gs X σ c i j) (hgl : ∀ c i j, am_ok σ c i → am_gl σ' c i j = am_gl σ c i j) (hgo : ∀ c i j, am_ok σ c i → am_go σ' c i j = am_go σ c i j) (hgn : ∀ j p, am_go σ' r.1 (σ.2.2.1 r.1) j = some p → am_ok σ' p.1 p.2)
    (hP1 : va_P D am_CL (ws ++ [(q, E)]) H1) (hD1 : va_D A (ws ++ [(q, E)])) (he : E = am_cell X (am_adn ad r.1 (σ.2.2.1 r.1) q) (am_cAn cA r.1 (σ.2.2.1 r.1) tA) σ' r.1 (σ.2.2.1 r.1)) (ht : am_tk r.1 ≠ 9 → ArrOfT s tA (am_ty r.1) ∧ va_RA s tA (am_ty r.1)) :
    (∀ c i, am_ok σ' c i → ∃ k : Nat, (ws ++ [(q, E)])[k]? = some (am_adn ad r.1 (σ.2.2.1 r.1) q c i, am_cell X (am_adn ad r.1 (σ.2.2.1 r.1) q) (am_cAn cA r.1 (σ.2.2.1 r.1) tA) σ' c i)) ∧
    (∀ c i, am_ok σ' c i → am_tk c ≠ 9 → ArrOfT s (am_cAn cA r.1 (σ.2.2.1 r.1) tA c i) (am_ty c) ∧ va_RA s (am_cAn cA r.1 (σ.2.2.1 r.1) tA c i) (am_ty c)) ∧
    (∀ c i c' i', am_ok σ' c i → am_ok σ' c' i' → am_adn ad r.1 (σ.2.2.1 r.1) q c i = am_adn ad r.1 (σ.2.2.1 r.1) q c' i' → c = c' ∧ i = i') ∧
    (∀ c i j p, am_ok σ' c i → am_go σ' c i j = some p → am_ok σ' p.1 p.2) := by
  have hold : ∀ c i, am_ok σ c i → ¬ (c = r.1 ∧ i = σ.2.2.1 r.1) := fun c i h q => by
    obtain ⟨rfl, rfl⟩ := q
    exact absurd h.2 (Nat.lt_irrefl _)
  have hok : ∀ c i, am_ok σ' c i → am_ok σ c i ∨ (c = r.1 ∧ i = σ.2.2.1 r.1) := fun c i h => by
    have h2 := h.2
    rw [hcn] at h2
    by_cases e : c = r.1
    · rw [if_pos e] at h2
      by_cases e2 : i = σ.2.2.1 r.1
      · exact Or.inr ⟨e, e2⟩
      · exact Or.inl ⟨h.1, by rw [e]; omega⟩
    · rw [if_neg e] at h2
      exact Or.inl ⟨h.1, h2⟩
  have hok2 : ∀ c i, am_ok σ c i → am_ok σ' c i := fun c i h => ⟨h.1, by
    rw [hcn]
    have := h.2
    split
    · rename_i e; rw [e] at this; omega
    · exact this⟩
  have had : ∀ c i, am_ok σ c i → am_adn ad r.1 (σ.2.2.1 r.1) q c i = ad c i := fun c i h => by
    unfold am_adn; rw [if_neg (hold c i h)]
  have hadn : am_adn ad r.1 (σ.2.2.1 r.1) q r.1 (σ.2.2.1 r.1) = q := by unfold am_adn; rw [if_pos ⟨rfl, rfl⟩]
  have hcell : ∀ c i, am_ok σ c i → am_cell X (am_adn ad r.1 (σ.2.2.1 r.1) q) (am_cAn cA r.1 (σ.2.2.1 r.1) tA) σ' c i = am_cell X ad cA σ c i := fun c i h =>
    am_cell_ad (fun j p hp => had _ _ (h6 c i j p h hp)) (by unfold am_cAn; rw [if_neg (hold c i h)]) (fun j => hgs c i j h) (fun j => hgl c i j h) (fun j => hgo c i j h)
  have hne : ∀ c i, am_ok σ c i → ad c i ≠ q := fun c i h e => by
    obtain ⟨k, hk⟩ := hW3 c i h
    have hl := (List.getElem?_eq_some_iff.mp hk).1
    have := hD1.1 k ws.length _ _ (by rw [List.getElem?_append_left hl]; exact hk) (by rw [List.getElem?_append_right (Nat.le_refl _)]; simp; rfl) e
    omega
  refine ⟨fun c i h => ?_, fun c i h ht9 => ?_, fun c i c' i' h h' e => ?_, fun c i j p h hp => ?_⟩
  · rcases hok c i h with h | ⟨rfl, rfl⟩
    · obtain ⟨k, hk⟩ := hW3 c i h
      refine ⟨k, ?_⟩
      rw [List.getElem?_append_left (List.getElem?_eq_some_iff.mp hk).1, hk, had c i h, hcell c i h]
    · refine ⟨ws.length, ?_⟩
      rw [List.getElem?_append_right (Nat.le_refl _), hadn, ← he]
      simp
  · rcases hok c i h with h | ⟨rfl, rfl⟩
    · have e : am_cAn cA r.1 (σ.2.2.1 r.1) tA c i = cA c i := by unfold am_cAn; rw [if_neg (hold c i h)]
      rw [e]; exact h4 c i h ht9
    · have e : am_cAn cA r.1 (σ.2.2.1 r.1) tA r.1 (σ.2.2.1 r.1) = tA := by unfold am_cAn; rw [if_pos ⟨rfl, rfl⟩]
      rw [e]; exact ht ht9
  · rcases hok c i h with h | ⟨rfl, rfl⟩ <;> rcases hok c' i' h' with h' | ⟨rfl, rfl⟩
    · rw [had c i h, had c' i' h'] at e; exact h5 c i c' i' h h' e
    · rw [had c i h, hadn] at e; exact absurd e (hne c i h)
    · rw [had c' i' h', hadn] at e; exact absurd e.symm (hne c' i' h')
    · exact ⟨rfl, rfl⟩
  · rcases hok c i h with h | ⟨rfl, rfl⟩
    · rw [hgo c i j h] at hp
      exact hok2 _ _ (h6 c i j p h hp)
    · exact hgn j p hp
theorem am_W_new0 {σ' : am_S} {ws : va_W} {H1 : Heap} {q : Nat} {tA : ClassId} {E : va_E} (hc : r.1 < 200) (hW3 : ∀ c i, am_ok σ c i → ∃ k : Nat, ws[k]? = some (ad c i, am_cell X ad cA σ c i)) (h4 : ∀ c i, am_ok σ c i → am_tk c ≠ 9 → ArrOfT s (cA c i) (am_ty c) ∧ va_RA s (cA c i) (am_ty c))
    (h5 : ∀ c i c' i', am_ok σ c i → am_ok σ c' i' → ad c i = ad c' i' → c = c' ∧ i = i') (h6 : ∀ c i j q, am_ok σ c i → am_go σ c i j = some q → am_ok σ q.1 q.2)
    (hcn : ∀ c', σ'.2.2.1 c' = if c' = r.1 then σ.2.2.1 r.1 + 1 else σ.2.2.1 c') (hgs : ∀ c i j, am_ok σ c i → am_gs X σ' c i j = am_gs X σ c i j) (hgl : ∀ c i j, am_ok σ c i → am_gl σ' c i j = am_gl σ c i j) (hgo : ∀ c i j, am_ok σ c i → am_go σ' c i j = am_go σ c i j) (hgn : ∀ j p, am_go σ' r.1 (σ.2.2.1 r.1) j = some p → am_ok σ' p.1 p.2)
    (hP1 : va_P D am_CL (ws ++ [(q, E)]) H1) (hD1 : va_D A (ws ++ [(q, E)])) (he : E = am_cell X (am_adn ad r.1 (σ.2.2.1 r.1) q) (am_cAn cA r.1 (σ.2.2.1 r.1) tA) σ' r.1 (σ.2.2.1 r.1)) (ht : am_tk r.1 ≠ 9 → ArrOfT s tA (am_ty r.1) ∧ va_RA s tA (am_ty r.1)) :
    am_W X D A s (am_adn ad r.1 (σ.2.2.1 r.1) q) (am_cAn cA r.1 (σ.2.2.1 r.1) tA) σ' H1 := by
  obtain ⟨a3, a4, a5, a6⟩ := am_W_new4 hc hW3 h4 h5 h6 hcn hgs hgl hgo hgn hP1 hD1 he ht
  exact ⟨_, hP1, hD1, a3, a4, a5, a6⟩
theorem am_tysN (hK : va_K D am_CL [] s) : va_K D am_CL [] s := hK
theorem am_W_new {ws : va_W} {H1 : Heap} {q w : Nat} {tA : ClassId} {E : va_E} (hc : r.1 < 200) (hW3 : ∀ c i, am_ok σ c i → ∃ k : Nat, ws[k]? = some (ad c i, am_cell X ad cA σ c i)) (h4 : ∀ c i, am_ok σ c i → am_tk c ≠ 9 → ArrOfT s (cA c i) (am_ty c) ∧ va_RA s (cA c i) (am_ty c))
    (h5 : ∀ c i c' i', am_ok σ c i → am_ok σ c' i' → ad c i = ad c' i' → c = c' ∧ i = i') (h6 : ∀ c i j q, am_ok σ c i → am_go σ c i j = some q → am_ok σ q.1 q.2)
    (hP1 : va_P D am_CL (ws ++ [(q, E)]) H1) (hD1 : va_D A (ws ++ [(q, E)])) (he : E = am_cell X (am_adn ad r.1 (σ.2.2.1 r.1) q) (am_cAn cA r.1 (σ.2.2.1 r.1) tA) (am_new σ r.1 w) r.1 (σ.2.2.1 r.1)) (ht : am_tk r.1 ≠ 9 → ArrOfT s tA (am_ty r.1) ∧ va_RA s tA (am_ty r.1)) :
    am_W X D A s (am_adn ad r.1 (σ.2.2.1 r.1) q) (am_cAn cA r.1 (σ.2.2.1 r.1) tA) (am_new σ r.1 w) H1 := by
  have hb200 := am_ble_lt hc
  have hold : ∀ c i, am_ok σ c i → ¬ (c = r.1 ∧ i = σ.2.2.1 r.1) := fun c i h q => by
    obtain ⟨rfl, rfl⟩ := q
    exact absurd h.2 (Nat.lt_irrefl _)
  exact am_W_new0 hc hW3 h4 h5 h6 (fun c' => am_cn_new _ _ _ _) (fun c i j h => by rw [am_gs_new hb200, if_neg (hold c i h)]) (fun c i j h => by rw [am_gl_new, if_neg (hold c i h)]) (fun c i j h => by rw [am_go_new hb200, if_neg (hold c i h)])
    (fun j p hp => by rw [am_go_new hb200, if_pos ⟨rfl, rfl⟩] at hp; cases hp) hP1 hD1 he ht
theorem am_W_new3 {ws : va_W} {H1 : Heap} {q w : Nat} {tA : ClassId} {E : va_E} (hc : r.1 < 200) (hW3 : ∀ c i, am_ok σ c i → ∃ k : Nat, ws[k]? = some (ad c i, am_cell X ad cA σ c i)) (h4 : ∀ c i, am_ok σ c i → am_tk c ≠ 9 → ArrOfT s (cA c i) (am_ty c) ∧ va_RA s (cA c i) (am_ty c))
    (h5 : ∀ c i c' i', am_ok σ c i → am_ok σ c' i' → ad c i = ad c' i' → c = c' ∧ i = i') (h6 : ∀ c i j q, am_ok σ c i → am_go σ c i j = some q → am_ok σ q.1 q.2)
    (hP1 : va_P D am_CL (ws ++ [(q, E)]) H1) (hD1 : va_D A (ws ++ [(q, E)])) (he : E = am_cell X (am_adn ad r.1 (σ.2.2.1 r.1) q) (am_cAn cA r.1 (σ.2.2.1 r.1) tA) (am_new σ r.1 w) r.1 (σ.2.2.1 r.1)) (ht : am_tk r.1 ≠ 9 → ArrOfT s tA (am_ty r.1) ∧ va_RA s tA (am_ty r.1)) :
    (∀ c i, am_ok (am_new σ r.1 w) c i → ∃ k : Nat, (ws ++ [(q, E)])[k]? = some (am_adn ad r.1 (σ.2.2.1 r.1) q c i, am_cell X (am_adn ad r.1 (σ.2.2.1 r.1) q) (am_cAn cA r.1 (σ.2.2.1 r.1) tA) (am_new σ r.1 w) c i)) ∧
    (∀ c i, am_ok (am_new σ r.1 w) c i → am_tk c ≠ 9 → ArrOfT s (am_cAn cA r.1 (σ.2.2.1 r.1) tA c i) (am_ty c) ∧ va_RA s (am_cAn cA r.1 (σ.2.2.1 r.1) tA c i) (am_ty c)) ∧
    (∀ c i c' i', am_ok (am_new σ r.1 w) c i → am_ok (am_new σ r.1 w) c' i' → am_adn ad r.1 (σ.2.2.1 r.1) q c i = am_adn ad r.1 (σ.2.2.1 r.1) q c' i' → c = c' ∧ i = i') ∧
    (∀ c i j p, am_ok (am_new σ r.1 w) c i → am_go (am_new σ r.1 w) c i j = some p → am_ok (am_new σ r.1 w) p.1 p.2) := by
  have hb200 := am_ble_lt hc
  have hold : ∀ c i, am_ok σ c i → ¬ (c = r.1 ∧ i = σ.2.2.1 r.1) := fun c i h q => by
    obtain ⟨rfl, rfl⟩ := q
    exact absurd h.2 (Nat.lt_irrefl _)
  exact am_W_new4 hc hW3 h4 h5 h6 (fun c' => am_cn_new _ _ _ _) (fun c i j h => by rw [am_gs_new hb200, if_neg (hold c i h)]) (fun c i j h => by rw [am_gl_new, if_neg (hold c i h)]) (fun c i j h => by rw [am_go_new hb200, if_neg (hold c i h)])
    (fun j p hp => by rw [am_go_new hb200, if_pos ⟨rfl, rfl⟩] at hp; cases hp) hP1 hD1 he ht
theorem am_Fr_new {ad' : Nat → Nat → Nat} {σ' : am_S} {st' : List am_V} (hok : ∀ c i, am_ok σ c i → am_ok σ' c i) (had : ∀ c i, am_okq σ c i → ad' c i = ad c i) (hF : am_Fr σ ad ls st LS nL) (hs : ∀ v ∈ st', am_okv σ' v) : am_Fr σ' ad' ls st' LS nL := by
  refine ⟨by rw [am_lk_same had 0 ls hF.2.2.1]; exact hF.1, hF.2.1, fun v hv => ?_, hs⟩
  have := hF.2.2.1 v hv
  rcases v with v | q
  · trivial
  · exact this.elim (fun h => Or.inl (hok _ _ h)) Or.inr
theorem am_okv_new {σ' : am_S} (hok : ∀ c i, am_ok σ c i → am_ok σ' c i) {v : am_V} (h : am_okv σ v) : am_okv σ' v := by
  rcases v with v | q
  · trivial
  · exact h.elim (fun h => Or.inl (hok _ _ h)) Or.inr
theorem am_new_ok (σ : am_S) (c w : Nat) : ∀ c' i, am_ok σ c' i → am_ok (am_new σ c w) c' i := fun c' i h => ⟨h.1, by
    rw [am_cn_new]
    have := h.2
    split
    · rename_i e; rw [e] at this; omega
    · exact this⟩
theorem am_new_ad {q : Nat} (hc : r.1 < 200) : ∀ c' i, am_okq σ c' i → am_adn ad r.1 (σ.2.2.1 r.1) q c' i = ad c' i := fun c' i h => by
  unfold am_adn
  rw [if_neg]
  rintro ⟨rfl, rfl⟩
  rcases h with h | h
  · exact absurd h.2 (Nat.lt_irrefl _)
  · unfold am_rok at h; omega
theorem am_Inv_new {H1 : Heap} {q w : Nat} {tA : ClassId} (hc : r.1 < 200) (hI : am_Inv X D A s rd ad0 σ0 ad cA σ H locs cells slots) (hS : va_S A s.heap H1 locs)
    (hW : am_W X D A s (am_adn ad r.1 (σ.2.2.1 r.1) q) (am_cAn cA r.1 (σ.2.2.1 r.1) tA) (am_new σ r.1 w) H1) : am_Inv X D A s rd ad0 σ0 (am_adn ad r.1 (σ.2.2.1 r.1) q) (am_cAn cA r.1 (σ.2.2.1 r.1) tA) (am_new σ r.1 w) H1 locs (cells + 1) (slots + w) := by
  obtain ⟨-, -, h3, h4, h5, h6, h7⟩ := hI
  refine ⟨hW, hS, fun c i hc2 => ?_, fun c i h => ?_, fun c' => ?_, ?_, ?_⟩
  · unfold am_adn; rw [if_neg (fun q => by omega)]; exact h3 c i hc2
  · have : am_ok σ c i := ⟨h.1, Nat.lt_of_lt_of_le h.2 (h5 c)⟩
    rw [am_new_ad hc c i (Or.inl this)]; exact h4 c i h
  · rw [am_cn_new]
    have := h5 c'
    split
    · rename_i e; rw [e] at this ⊢; omega
    · exact this
  · rw [(am_nc_new σ r.1 w).1]; omega
  · rw [(am_nc_new σ r.1 w).2]; omega

set_option maxHeartbeats 1000000 in
theorem am_snd_new {idx : Nat} (hC : am_Cx p s m args meth c X D A rd nm cc nL ow) (hE : am_eP (am_on ow) nm cc ret (pc, .new idx, n, r, sw))
    (hk : am_Ks p l e R s m args below meth c X D A rd ad0 σ0 nL Q z k) (h : am_ins Γ X k pc (.new idx) n r sw ls st σ = some z)
    (hI : am_Inv X D A s rd ad0 σ0 ad cA σ H locs cells slots) (hF : am_Fr σ ad ls st LS nL) (hm : ∀ pc ls st τ, k pc ls st τ = some z → τ.2.2.2.1 ≤ R.cells + σ0.2.2.2.1 ∧ τ.2.2.2.2 ≤ R.slots + σ0.2.2.2.2) : W p l e R s m args below meth c H locs cells slots Q (F0 m pc LS (st.map (am_cv ad))) := by
  obtain ⟨hx, hb, hml, hown, hts, hlo, hnm, hA, hK, hRO⟩ := hC
  obtain ⟨hd, hn, hq⟩ := hE
  have hn : n = 3 := by
    rcases hn with hn | ⟨_, _, _, _, hn⟩ | ⟨_, _, hn⟩
    · exact hn
    · cases hn
    · cases hn
  dsimp only at hd hq
  subst hn
  simp only [am_ins] at h
  simp only [am_eQ] at hq
  obtain ⟨q1, q2, q3, q4, q5, q6, q7, q8, ty0, hty, hdf⟩ := hq
  obtain ⟨hm1, hm2⟩ := hm _ _ _ _ h
  rw [(am_nc_new _ _ _).1] at hm1
  rw [(am_nc_new _ _ _).2] at hm2
  have hI' := hI
  obtain ⟨⟨ws, hP, hD, h3, h4, h5, h6⟩, hS, hag, h7, h8, h9, h10⟩ := hI
  refine va_new (cl := am_CL) (ci := am_ci r.1) (fs := (List.range (am_nf r.1)).map (fun k => match am_fk r.1 k with | 1 => Value.long 0 | 2 => .null | _ => .int 0)) hx hb hts q8 ty0 hty hown (hts _ q5) (hts _ (by rw [q4]; exact q6)) (hts _ q7) hK hP hD hS hA q3 ?_ (by omega) (by rw [q4]; omega) hd ?_
  · intro j hj
    rw [hdf j hj]
    have hj2 : j < am_nf r.1 := by rw [← q4]; exact hj
    unfold vp_V
    simp [hj2]
    rfl
  · intro qa H1 hP1 hD1 hS1
    rw [q4]
    have hW := am_W_new (r := r) (w := am_nf r.1) (tA := 0) q1 h3 h4 h5 h6 hP1 hD1 (by
      rw [am_cell_obj q2]
      refine congrArg (fun f => Sum.inr (am_ci r.1, f)) (List.map_congr_left fun j hj => ?_)
      unfold am_fv
      rw [am_gs_new (am_ble_lt q1), am_gl_new, am_go_new (am_ble_lt q1), if_pos ⟨rfl, rfl⟩, if_pos ⟨rfl, rfl⟩, if_pos ⟨rfl, rfl⟩]
      rfl) (fun h => absurd q2 h)
    have go := hk _ _ _ _ h _ _ _ _ _ _ _ (am_Inv_new q1 hI' hS1 hW) (am_Fr_new (am_new_ok σ r.1 _) (am_new_ad q1) hF (am_ok_c (Or.inl ⟨q1, by show _ < (am_new σ r.1 _).2.2.1 r.1; rw [am_cn_new, if_pos rfl]; exact Nat.lt_succ_self _⟩ : am_okv _ (.inr (r.1, σ.2.2.1 r.1))) (fun v hv => am_okv_new (am_new_ok σ r.1 _) (hF.2.2.2 v hv))))
    rw [List.map_cons, am_map_same (am_new_ad q1) st hF.2.2.2] at go
    have e : am_cv (am_adn ad r.1 (σ.2.2.1 r.1) qa) (.inr (r.1, σ.2.2.1 r.1)) = .ref qa := by
      show Value.ref (am_adn ad r.1 (σ.2.2.1 r.1) qa r.1 (σ.2.2.1 r.1)) = _
      unfold am_adn; rw [if_pos ⟨rfl, rfl⟩]
    rw [e] at go
    exact go

set_option maxHeartbeats 1000000 in
theorem am_snd_newarray {at0 : ArrayType} (hC : am_Cx p s m args meth c X D A rd nm cc nL ow) (hE : am_eP (am_on ow) nm cc ret (pc, .newarray at0, n, r, sw))
    (hk : am_Ks p l e R s m args below meth c X D A rd ad0 σ0 nL Q z k) (h : am_ins Γ X k pc (.newarray at0) n r sw ls st σ = some z)
    (hI : am_Inv X D A s rd ad0 σ0 ad cA σ H locs cells slots) (hF : am_Fr σ ad ls st LS nL) (hm : ∀ pc ls st τ, k pc ls st τ = some z → τ.2.2.2.1 ≤ R.cells + σ0.2.2.2.1 ∧ τ.2.2.2.2 ≤ R.slots + σ0.2.2.2.2) : W p l e R s m args below meth c H locs cells slots Q (F0 m pc LS (st.map (am_cv ad))) := by
  obtain ⟨hx, hb, hml, hown, hts, hlo, hnm, hA, hK, hRO⟩ := hC
  obtain ⟨hd, hn, hq⟩ := hE
  have hn : n = 2 := by
    rcases hn with hn | ⟨_, _, _, _, hn⟩ | ⟨_, _, hn⟩
    · exact hn
    · cases hn
    · cases hn
  dsimp only at hd hq
  subst hn
  simp only [am_ins] at h
  simp only [am_eQ] at hq
  obtain ⟨q1, q2, q3, q4, q5, q6, q7, q8⟩ := hq
  obtain ⟨x, t, rfl, h9⟩ := am_i1_some h
  replace h := h9
  split at h
  case isFalse => cases h
  rename_i hx1
  obtain ⟨hx1, hx2⟩ := hx1
  obtain ⟨hm1, hm2⟩ := hm _ _ _ _ h
  rw [(am_nc_new _ _ _).1] at hm1
  rw [(am_nc_new _ _ _).2] at hm2
  have hI' := hI
  obtain ⟨⟨ws, hP, hD, h3, h4, h5, h6⟩, hS, hag, h7, h8, h9, h10⟩ := hI
  have hx3 : ¬ x < 0 := by rw [hx1]; exact nI_pos (by omega)
  have hx4 : x.toNatClampNeg = am_len X r.1 (σ.2.2.1 r.1) := by rw [hx1]; exact nI_clamp (by omega)
  refine va_newa (atype := at0) (ty := am_ty r.1) (a0 := am_row X (am_adn ad r.1 (σ.2.2.1 r.1) 0) (am_new σ r.1 (am_len X r.1 (σ.2.2.1 r.1))) r.1 (σ.2.2.1 r.1)) hx hb (by rw [q2]; exact hts _ q8) q2 (am_tysN hK) hP hD hS hA ?_ hx3 hx4 (Nat.le_trans (Nat.mul_le_mul hx2 q7) (by decide)) (by omega) (by omega) hd ?_
  · intro cc1
    by_cases e1 : am_tk r.1 = 1
    · have hty := q5 e1
      have hz : am_gl (am_new σ r.1 (am_len X r.1 (σ.2.2.1 r.1))) r.1 (σ.2.2.1 r.1) = fun _ => 0 := funext fun j => by rw [am_gl_new, if_pos ⟨rfl, rfl⟩]
      rw [am_row_l e1, hz, hty]
      rfl
    · have hz : am_gs X (am_new σ r.1 (am_len X r.1 (σ.2.2.1 r.1))) r.1 (σ.2.2.1 r.1) = fun _ => 0 := funext fun j => by rw [am_gs_new (am_ble_lt q1), if_pos ⟨rfl, rfl⟩]
      rw [am_row_i e1 q4, hz, q6 e1]
      rfl
  · intro qa tA H1 hK1 hP1 hD1 hS1
    have hrow : am_row X (am_adn ad r.1 (σ.2.2.1 r.1) 0) (am_new σ r.1 (am_len X r.1 (σ.2.2.1 r.1))) r.1 (σ.2.2.1 r.1) = am_row X (am_adn ad r.1 (σ.2.2.1 r.1) qa) (am_new σ r.1 (am_len X r.1 (σ.2.2.1 r.1))) r.1 (σ.2.2.1 r.1) := by
      by_cases e1 : am_tk r.1 = 1
      · rw [am_row_l e1, am_row_l e1]
      · rw [am_row_i e1 q4, am_row_i e1 q4]
    have hW := am_W_new (r := r) (w := am_len X r.1 (σ.2.2.1 r.1)) (tA := tA) q1 h3 h4 h5 h6 hP1 hD1 (by
      rw [am_cell_row q3, hrow]
      unfold am_cAn
      rw [if_pos ⟨rfl, rfl⟩]) (fun _ => hK1.2 0 _ rfl)
    have go := hk _ _ _ _ h _ _ _ _ _ _ _ (am_Inv_new q1 hI' hS1 hW) (am_Fr_new (am_new_ok σ r.1 _) (am_new_ad q1) hF (am_ok_c (Or.inl ⟨q1, by show _ < (am_new σ r.1 _).2.2.1 r.1; rw [am_cn_new, if_pos rfl]; exact Nat.lt_succ_self _⟩ : am_okv _ (.inr (r.1, σ.2.2.1 r.1))) (fun v hv => am_okv_new (am_new_ok σ r.1 _) (am_ok_t hF.2.2.2 v hv))))
    rw [List.map_cons, am_map_same (am_new_ad q1) t (am_ok_t hF.2.2.2)] at go
    have e : am_cv (am_adn ad r.1 (σ.2.2.1 r.1) qa) (.inr (r.1, σ.2.2.1 r.1)) = .ref qa := by
      show Value.ref (am_adn ad r.1 (σ.2.2.1 r.1) qa r.1 (σ.2.2.1 r.1)) = _
      unfold am_adn; rw [if_pos ⟨rfl, rfl⟩]
    rw [e] at go
    exact go

set_option maxHeartbeats 1000000 in
theorem am_snd_anewarray {idx : Nat} (hC : am_Cx p s m args meth c X D A rd nm cc nL ow) (hE : am_eP (am_on ow) nm cc ret (pc, .anewarray idx, n, r, sw))
    (hk : am_Ks p l e R s m args below meth c X D A rd ad0 σ0 nL Q z k) (h : am_ins Γ X k pc (.anewarray idx) n r sw ls st σ = some z)
    (hI : am_Inv X D A s rd ad0 σ0 ad cA σ H locs cells slots) (hF : am_Fr σ ad ls st LS nL) (hm : ∀ pc ls st τ, k pc ls st τ = some z → τ.2.2.2.1 ≤ R.cells + σ0.2.2.2.1 ∧ τ.2.2.2.2 ≤ R.slots + σ0.2.2.2.2) : W p l e R s m args below meth c H locs cells slots Q (F0 m pc LS (st.map (am_cv ad))) := by
  obtain ⟨hx, hb, hml, hown, hts, hlo, hnm, hA, hK, hRO⟩ := hC
  obtain ⟨hd, hn, hq⟩ := hE
  have hn : n = 3 := by
    rcases hn with hn | ⟨_, _, _, _, hn⟩ | ⟨_, _, hn⟩
    · exact hn
    · cases hn
    · cases hn
  dsimp only at hd hq
  subst hn
  simp only [am_ins] at h
  simp only [am_eQ] at hq
  obtain ⟨q1, q2, C, q3, q4, q5⟩ := hq
  obtain ⟨x, t, rfl, h9⟩ := am_i1_some h
  replace h := h9
  split at h
  case isFalse => cases h
  rename_i hx1
  obtain ⟨hx1, hx2⟩ := hx1
  obtain ⟨hm1, hm2⟩ := hm _ _ _ _ h
  rw [(am_nc_new _ _ _).1] at hm1
  rw [(am_nc_new _ _ _).2] at hm2
  have hI' := hI
  obtain ⟨⟨ws, hP, hD, h3, h4, h5, h6⟩, hS, hag, h7, h8, h9, h10⟩ := hI
  have hx3 : ¬ x < 0 := by rw [hx1]; exact nI_pos (by omega)
  have hx4 : x.toNatClampNeg = am_len X r.1 (σ.2.2.1 r.1) := by rw [hx1]; exact nI_clamp (by omega)
  obtain ⟨-, -, -, -, -, -, -, -, ro, -⟩ := hRO
  refine va_newq (C := C) hx hb hown (hts _ q5) (ro C q4) (am_tysN hK) hP hD hS hA hx3 hx4 (Nat.le_trans (Nat.mul_le_mul_right 4 hx2) (by decide)) (by omega) (by omega) hd ?_
  intro qa tA H1 hK1 hP1 hD1 hS1
  have hW := am_W_new (r := r) (w := am_len X r.1 (σ.2.2.1 r.1)) (tA := tA) q1 h3 h4 h5 h6 hP1 hD1 (by
    have h9 : am_tk r.1 ≠ 9 := by omega
    rw [am_cell_row h9, am_row_r q2]
    have hz : (fun j => am_rf (am_adn ad r.1 (σ.2.2.1 r.1) qa) (am_go (am_new σ r.1 (am_len X r.1 (σ.2.2.1 r.1))) r.1 (σ.2.2.1 r.1) j)) = fun _ => none := funext fun j => by rw [am_go_new (am_ble_lt q1), if_pos ⟨rfl, rfl⟩]; rfl
    rw [hz]
    unfold am_cAn
    rw [if_pos ⟨rfl, rfl⟩]) (fun _ => by rw [q3]; exact hK1.2 0 _ rfl)
  have go := hk _ _ _ _ h _ _ _ _ _ _ _ (am_Inv_new q1 hI' hS1 hW) (am_Fr_new (am_new_ok σ r.1 _) (am_new_ad q1) hF (am_ok_c (Or.inl ⟨q1, by show _ < (am_new σ r.1 _).2.2.1 r.1; rw [am_cn_new, if_pos rfl]; exact Nat.lt_succ_self _⟩ : am_okv _ (.inr (r.1, σ.2.2.1 r.1))) (fun v hv => am_okv_new (am_new_ok σ r.1 _) (am_ok_t hF.2.2.2 v hv))))
  rw [List.map_cons, am_map_same (am_new_ad q1) t (am_ok_t hF.2.2.2)] at go
  have e : am_cv (am_adn ad r.1 (σ.2.2.1 r.1) qa) (.inr (r.1, σ.2.2.1 r.1)) = .ref qa := by
    show Value.ref (am_adn ad r.1 (σ.2.2.1 r.1) qa r.1 (σ.2.2.1 r.1)) = _
    unfold am_adn; rw [if_pos ⟨rfl, rfl⟩]
  rw [e] at go
  exact go

end AMH
