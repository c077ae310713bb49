/-! WHAT THE ABSTRACT MACHINE IS WORTH, 9: rows of rows, copies -/
section AMH
variable {p : Program} {l : Launch} {e : Env} {R : Room} {s : State} {m : MethodId} {args : Array Value} {below : List Frame} {meth : Method} {c : Code} {H : Heap} {locs : List Loc} {cells slots : Nat} {Q : State → Prop}
variable {X : am_X} {D : va_G} {A : Nat → Prop} {rd ad0 ad : Nat → Nat → Nat} {cA : Nat → Nat → ClassId} {σ0 σ : am_S} {nm : String} {cc : ByteArray} {nL ow pc n : Nat} {ret : Option FieldType} {z : Option am_V × am_S}
variable {ls st : List am_V} {LS : Array Slot} {r : Nat × Nat × Nat} {sw : List (Int × Nat)} {Γ : Nat → List am_V → am_S → am_R}
variable {k : Nat → List am_V → List am_V → am_S → am_R}

theorem am_bif_some' {α : Type} {b : Bool} {x : α} {q : α} (h : (bif b then some x else none) = some q) : b = true ∧ x = q := by
  cases b
  · cases h
  · exact ⟨rfl, Option.some.inj h⟩
theorem am_cAn_self (cA : Nat → Nat → ClassId) (c i : Nat) (q : ClassId) : am_cAn cA c i q c i = q := by unfold am_cAn; rw [if_pos ⟨rfl, rfl⟩]
theorem am_gs_pos (X : am_X) (σ : am_S) (c i : Nat) (g : Nat → Option (Nat × Nat)) (c' i' j' : Nat) : am_gs X (am_pos σ c i g) c' i' j' = am_gs X σ c' i' j' := by
  unfold am_gs am_pos
  rw [am_q_sq]
  cases e2 : (Nat.ble 50 c' == Nat.ble 50 c) with
  | false => rfl
  | true => have : am_q σ c' = am_q σ c := by unfold am_q; rw [beq_iff_eq.mp e2]
            rw [this]; rfl
theorem am_gl_pos (σ : am_S) (c i : Nat) (g : Nat → Option (Nat × Nat)) (c' i' j' : Nat) : am_gl (am_pos σ c i g) c' i' j' = am_gl σ c' i' j' := by
  unfold am_gl am_pos
  rw [am_q_sq]
  cases e2 : (Nat.ble 50 c' == Nat.ble 50 c) with
  | false => rfl
  | true => have : am_q σ c' = am_q σ c := by unfold am_q; rw [beq_iff_eq.mp e2]
            rw [this]; rfl
theorem am_go_pos (σ : am_S) {c : Nat} (h : c < 200) (i : Nat) (g : Nat → Option (Nat × Nat)) (c' i' j' : Nat) : am_go (am_pos σ c i g) c' i' j' = if c' = c ∧ i' = i then g j' else am_go σ c' i' j' := by
  cases e : Nat.ble 200 c' with
  | true =>
    have : c' ≠ c := fun q => by rw [q, am_ble_lt h] at e; cases e
    rw [if_neg (fun q => this q.1)]
    exact am_go_ge _ _ e _ _
  | false =>
    unfold am_go
    rw [e]
    show (am_q (am_pos σ c i g) c').2.2 c' i' j' = if c' = c ∧ i' = i then g j' else (am_q σ c').2.2 c' i' j'
    unfold am_pos
    rw [am_q_sq]
    cases e2 : (Nat.ble 50 c' == Nat.ble 50 c) with
    | false =>
      have : c' ≠ c := fun q => by rw [q] at e2; simp at e2
      rw [if_neg (fun q => this q.1)]; rfl
    | true =>
      show am_w2 _ _ _ _ c' i' j' = _
      rw [am_w2_eq, am_q_part e2]
theorem am_P_pre {w1 w2 : va_W} {H1 : Heap} (h : va_P D am_CL (w1 ++ w2) H1) : va_P D am_CL w1 H1 := fun k q hk => h k q (by rw [List.getElem?_append_left (List.getElem?_eq_some_iff.mp hk).1]; exact hk)
theorem am_D_pre {w1 w2 : va_W} (h : va_D A (w1 ++ w2)) : va_D A w1 :=
  ⟨fun i j p q hi hj e => h.1 i j p q (by rw [List.getElem?_append_left (List.getElem?_eq_some_iff.mp hi).1]; exact hi) (by rw [List.getElem?_append_left (List.getElem?_eq_some_iff.mp hj).1]; exact hj) e, fun k q hk => h.2 k q (by rw [List.getElem?_append_left (List.getElem?_eq_some_iff.mp hk).1]; exact hk)⟩
def am_adr (ad : Nat → Nat → Nat) (c i : Nat) (f : Nat → Nat) : Nat → Nat → Nat → Nat
  | 0 => ad
  | n + 1 => am_adn (am_adr ad c i f n) c (i + n) (f n)
def am_cAr (cA : Nat → Nat → ClassId) (c i : Nat) (q : ClassId) : Nat → Nat → Nat → ClassId
  | 0 => cA
  | n + 1 => am_cAn (am_cAr cA c i q n) c (i + n) q
theorem am_rows_cn (σ : am_S) (c w n c' : Nat) : (am_rows σ c w n).2.2.1 c' = if c' = c then σ.2.2.1 c + n else σ.2.2.1 c' := by
  induction n with
  | zero => show σ.2.2.1 c' = _; split <;> simp_all
  | succ n ih =>
    show (am_new (am_rows σ c w n) c w).2.2.1 c' = _
    rw [am_cn_new, ih]
    have := ih
    by_cases h : c' = c
    · subst h
      rw [if_pos rfl] at this
      simp only [if_true]
      omega
    · rw [if_neg h, if_neg h, if_neg h]
theorem am_rows_nc (σ : am_S) (c w n : Nat) : (am_rows σ c w n).2.2.2.1 = σ.2.2.2.1 + n ∧ (am_rows σ c w n).2.2.2.2 = σ.2.2.2.2 + n * w := by
  induction n with
  | zero => exact ⟨rfl, by simp [am_rows]⟩
  | succ n ih =>
    have h := am_nc_new (am_rows σ c w n) c w
    refine ⟨h.1.trans (by rw [ih.1]; omega), h.2.trans ?_⟩
    rw [ih.2, Nat.succ_mul]; omega
theorem am_rows_ok (σ : am_S) (c w n : Nat) : ∀ c' i, am_ok σ c' i → am_ok (am_rows σ c w n) c' i := by
  induction n with
  | zero => exact fun c' i h => h
  | succ n ih => exact fun c' i h => am_new_ok _ _ _ c' i (ih c' i h)
theorem am_adr_old {c1 : Nat} (hc : c1 < 200) (w : Nat) (f : Nat → Nat) (n : Nat) : ∀ c' i, am_okq σ c' i → am_adr ad c1 (σ.2.2.1 c1) f n c' i = ad c' i := by
  induction n with
  | zero => exact fun c' i h => rfl
  | succ n ih =>
    intro c' i h
    show am_adn _ _ _ _ _ _ = _
    unfold am_adn
    rw [if_neg]
    · exact ih c' i h
    · rintro ⟨rfl, rfl⟩
      rcases h with h | h
      · have := h.2; omega
      · unfold am_rok at h; omega
theorem am_adr_new (c1 i0 : Nat) (f : Nat → Nat) (n j : Nat) (hj : j < n) : am_adr ad c1 i0 f n c1 (i0 + j) = f j := by
  induction n with
  | zero => omega
  | succ n ih =>
    show am_adn _ _ _ _ _ _ = _
    unfold am_adn
    by_cases e : j = n
    · subst e; rw [if_pos ⟨rfl, rfl⟩]
    · rw [if_neg (fun q => e (by omega))]
      exact ih (by omega)
/-- n rows, one behind another -/
theorem am_W_rows {c1 b : Nat} {tA : ClassId} {f : Nat → Nat} {E : va_E} {H1 : Heap} (hc : c1 < 200) (h9 : am_tk c1 ≠ 9) (h2 : am_tk c1 ≠ 2) (ht : ArrOfT s tA (am_ty c1) ∧ va_RA s tA (am_ty c1))
    (hE : E = .inl (tA, (b, if am_tk c1 = 1 then .inr (.inl fun _ => 0) else .inl fun _ => 0))) :
    ∀ (n : Nat) (ws : va_W), (∀ j, j < n → am_len X c1 (σ.2.2.1 c1 + j) = b) → (∀ c i, am_ok σ c i → ∃ k : Nat, ws[k]? = some (ad c i, am_cell X ad cA σ c i)) → (∀ c i, am_ok σ c i → am_tk c ≠ 9 → ArrOfT s (cA c i) (am_ty c) ∧ va_RA s (cA c i) (am_ty c)) →
    (∀ c i c' i', am_ok σ c i → am_ok σ c' i' → ad c i = ad c' i' → c = c' ∧ i = i') → (∀ c i j q, am_ok σ c i → am_go σ c i j = some q → am_ok σ q.1 q.2) →
    va_P D am_CL (ws ++ (List.range n).map (fun i => (f i, E))) H1 → va_D A (ws ++ (List.range n).map (fun i => (f i, E))) →
    (∀ c i, am_ok (am_rows σ c1 b n) c i → ∃ k : Nat, (ws ++ (List.range n).map (fun i => (f i, E)))[k]? = some (am_adr ad c1 (σ.2.2.1 c1) f n c i, am_cell X (am_adr ad c1 (σ.2.2.1 c1) f n) (am_cAr cA c1 (σ.2.2.1 c1) tA n) (am_rows σ c1 b n) c i)) ∧
    (∀ c i, am_ok (am_rows σ c1 b n) c i → am_tk c ≠ 9 → ArrOfT s (am_cAr cA c1 (σ.2.2.1 c1) tA n c i) (am_ty c) ∧ va_RA s (am_cAr cA c1 (σ.2.2.1 c1) tA n c i) (am_ty c)) ∧
    (∀ c i c' i', am_ok (am_rows σ c1 b n) c i → am_ok (am_rows σ c1 b n) c' i' → am_adr ad c1 (σ.2.2.1 c1) f n c i = am_adr ad c1 (σ.2.2.1 c1) f n c' i' → c = c' ∧ i = i') ∧
    (∀ c i j q, am_ok (am_rows σ c1 b n) c i → am_go (am_rows σ c1 b n) c i j = some q → am_ok (am_rows σ c1 b n) q.1 q.2) := by
  intro n
  induction n with
  | zero => intro ws hl g3 g4 g5 g6 hP1 hD1; rw [show ws ++ (List.range 0).map (fun i => (f i, E)) = ws by simp]; exact ⟨g3, g4, g5, g6⟩
  | succ n ih =>
    intro ws hl g3 g4 g5 g6 hP1 hD1
    have er : ws ++ (List.range (n + 1)).map (fun i => (f i, E)) = (ws ++ (List.range n).map (fun i => (f i, E))) ++ [(f n, E)] := by rw [List.range_succ, List.map_append, List.append_assoc]; rfl
    rw [er] at hP1 hD1 ⊢
    obtain ⟨a3, a4, a5, a6⟩ := ih ws (fun j hj => hl j (by omega)) g3 g4 g5 g6 (am_P_pre hP1) (am_D_pre hD1)
    have hcn : (am_rows σ c1 b n).2.2.1 c1 = σ.2.2.1 c1 + n := by rw [am_rows_cn, if_pos rfl]
    have key := am_W_new3 (r := (c1, 0, 0)) (w := b) (tA := tA) hc a3 a4 a5 a6 hP1 hD1 (by
      rw [am_cell_row h9, hE]
      dsimp only
      rw [am_cAn_self]
      by_cases e1 : am_tk c1 = 1
      · rw [am_row_l e1, if_pos e1, hcn, hl n (by omega)]
        refine congrArg (fun g => Sum.inl (tA, b, Sum.inr (Sum.inl g))) (funext fun j => ?_)
        have := am_gl_new (r := (c1, 0, 0)) (σ := am_rows σ c1 b n) b c1 ((am_rows σ c1 b n).2.2.1 c1) j
        rw [if_pos ⟨rfl, rfl⟩, hcn] at this
        exact this.symm
      · rw [am_row_i e1 h2, if_neg e1, hcn, hl n (by omega)]
        refine congrArg (fun g => Sum.inl (tA, b, Sum.inl g)) (funext fun j => ?_)
        have := am_gs_new (X := X) (r := (c1, 0, 0)) (σ := am_rows σ c1 b n) (am_ble_lt hc) b c1 ((am_rows σ c1 b n).2.2.1 c1) j
        rw [if_pos ⟨rfl, rfl⟩, hcn] at this
        exact this.symm) (fun _ => ht)
    rw [hcn] at key
    exact key

set_option maxHeartbeats 1000000 in
theorem am_snd_multianewarray {idx dm : Nat} (hC : am_Cx p s m args meth c X D A rd nm cc nL ow) (hE : am_eP (am_on ow) nm cc ret (pc, .multianewarray idx dm, n, r, sw))
    (hk : am_Ks p l e R s m args below meth c X D A rd ad0 σ0 nL Q z k) (h : am_ins Γ X k pc (.multianewarray idx dm) n r sw ls st σ = some z)
    (hI : am_Inv X D A s rd ad0 σ0 ad cA σ H locs cells slots) (hF : am_Fr σ ad ls st LS nL) (hm : ∀ pc ls st τ, k pc ls st τ = some z → τ.2.2.2.1 ≤ R.cells + σ0.2.2.2.1 ∧ τ.2.2.2.2 ≤ R.slots + σ0.2.2.2.2) : W p l e R s m args below meth c H locs cells slots Q (F0 m pc LS (st.map (am_cv ad))) := by
  obtain ⟨hx, hb, hml, hown, hts, hlo, hnm, hA, hK, hRO⟩ := hC
  obtain ⟨hd, hn, hq⟩ := hE
  have hn : n = 4 := by
    rcases hn with hn | ⟨_, _, _, _, hn⟩ | ⟨_, _, hn⟩
    · exact hn
    · cases hn
    · cases hn
  dsimp only at hd hq
  subst hn
  simp only [am_ins] at h
  simp only [am_eQ] at hq
  obtain ⟨rfl, q1, q2, q3, q4, q5, q6, q7, q8, q9⟩ := hq
  obtain ⟨x, y, t, rfl, h9⟩ := am_i2_some h
  replace h := h9
  split at h
  case isFalse => cases h
  rename_i hx1
  obtain ⟨hx1, hy1, hx2, hy2, hall⟩ := hx1
  have hI' := hI
  obtain ⟨⟨ws, hP, hD, h3, h4, h5, h6⟩, hS, hag, h7, h8, h9, h10⟩ := hI
  generalize ha : am_len X r.1 (σ.2.2.1 r.1) = a at h hx1 hx2 hall
  generalize hbb : am_len X r.2.1 0 = b at h hy1 hy2 hall
  have hlen : ∀ j, j < a → am_len X r.2.1 (σ.2.2.1 r.2.1 + j) = b := fun j hj => Nat.eq_of_beq_eq_true (List.all_eq_true.mp hall j (List.mem_range.mpr hj))
  obtain ⟨hm1, hm2⟩ := hm _ _ _ _ h
  have hnc : ∀ g, (am_pos (am_new (am_rows σ r.2.1 b a) r.1 a) r.1 (σ.2.2.1 r.1) g).2.2.2 = (σ.2.2.2.1 + a + 1, σ.2.2.2.2 + a * b + a) := fun g => by
    show (am_sq _ _ _).2.2.2 = _
    rw [am_cn_sq]
    have e1 := am_nc_new (am_rows σ r.2.1 b a) r.1 a
    have e2 := am_rows_nc σ r.2.1 b a
    rw [e2.1] at e1
    rw [e2.2] at e1
    exact Prod.ext e1.1 e1.2
  rw [hnc] at hm1 hm2
  have hx3 : ¬ x < 0 := by rw [hx1]; exact nI_pos (by omega)
  have hx4 : x.toNatClampNeg = a := by rw [hx1]; exact nI_clamp (by omega)
  have hy3 : ¬ y < 0 := by rw [hy1]; exact nI_pos (by omega)
  have hy4 : y.toNatClampNeg = b := by rw [hy1]; exact nI_clamp (by omega)
  obtain ⟨-, -, -, -, -, -, -, -, -, ro, -⟩ := hRO
  have h92 : am_tk r.2.1 ≠ 9 := by rcases q5 with q | q <;> omega
  have h22 : am_tk r.2.1 ≠ 2 := by rcases q5 with q | q <;> omega
  obtain ⟨cy, ky, cmp, y1, y2, y3⟩ := Cond.arrayClass_spec (hts _ q9)
  have hy : ArrOfT s cy (am_ty r.2.1) ∧ va_RA s cy (am_ty r.2.1) := by
    refine ⟨fun N z => ⟨(fun q hq => by cases hq), ky, y2, cmp, y3⟩, ?_⟩
    rcases q5 with ⟨-, q⟩ | ⟨-, q⟩ <;> rw [q] at y1 ⊢ <;> exact y1
  have hcy : s.vm.findClass (FieldType.array (am_ty r.2.1)).toString = some cy := y1
  have fin : ∀ (zz : vp_A), (∀ c : ClassId, Jvm.Free.Multi.innerC c b (defaultValue (am_ty r.2.1)) = vp_cell c zz) → zz = (b, if am_tk r.2.1 = 1 then .inr (.inl fun _ => 0) else .inl fun _ => 0) → fits (am_ty r.2.1) (defaultValue (am_ty r.2.1)) = true → (defaultValue (am_ty r.2.1)).isDefault = true → componentBytes (am_ty r.2.1) ≤ 8 →
      W p l e R s m args below meth c H locs cells slots Q (F0 m pc LS (.int y :: .int x :: t.map (am_cv ad))) := by
    intro zz hz1 hz2 hf1 hf2 hf3
    refine va_mna (X := ws) (L := []) (f := fun _ => .inl (0, (0, .inl fun _ => 0))) (ty := am_ty r.2.1) (cy := cy) (z := zz) (tys := []) hx hb hown (hts _ q8) (ro _ q7) (hts _ q9) hcy hK (by simpa [va_pl] using hP) (by simpa [va_pl] using hD) hS hA hx3 hy3 hx4 hy4 (Nat.le_trans (Nat.mul_le_mul_right 4 hx2) (by decide)) (Nat.le_trans (Nat.mul_le_mul hy2 hf3) (by decide)) (by omega) hf1 hf2 (by omega) ?_ hz1 hd ?_
    · have e1 : slots + (σ.2.2.2.2 - slots) = σ.2.2.2.2 := by omega
      omega
    intro qa f tA H1 hinj _ hK1 hP1 hD1 hS1
    have hpl : va_pl ([] ++ (List.range a).map f) (vr_up (fun _ => .inl (0, (0, .inl fun _ => 0))) ((List.range a).map f) (.inl (cy, zz))) = (List.range a).map (fun i => (f i, (Sum.inl (cy, zz) : va_E))) := by
      unfold va_pl
      rw [List.nil_append, List.map_map]
      refine List.map_congr_left fun i hi => ?_
      show (f i, vr_up _ _ _ (f i)) = _
      rw [vr_up_in (List.mem_map.mpr ⟨i, hi, rfl⟩)]
    rw [hpl] at hP1 hD1
    have hP2 := va_P.swap hP1
    have hD2 := va_D.swap hD1
    obtain ⟨a3, a4, a5, a6⟩ := am_W_rows (X := X) (σ := σ) (ad := ad) (cA := cA) (c1 := r.2.1) (b := b) (tA := cy) (f := f) q2 h92 h22 hy (by rw [hz2]) a ws hlen h3 h4 h5 h6 (am_P_pre hP2) (am_D_pre hD2)
    have hcn1 : (am_rows σ r.2.1 b a).2.2.1 r.1 = σ.2.2.1 r.1 := by rw [am_rows_cn, if_neg q3]
    have hpo : ∀ c' i' j', am_go (am_pos (am_new (am_rows σ r.2.1 b a) r.1 a) r.1 (σ.2.2.1 r.1) (fun j => bif Nat.blt j a then some (r.2.1, σ.2.2.1 r.2.1 + j) else none)) c' i' j' = if c' = r.1 ∧ i' = σ.2.2.1 r.1 then (bif Nat.blt j' a then some (r.2.1, σ.2.2.1 r.2.1 + j') else none) else am_go (am_rows σ r.2.1 b a) c' i' j' := by
      intro c' i' j'
      rw [am_go_pos _ q1, am_go_new (am_ble_lt q1), hcn1]
      by_cases e : c' = r.1 ∧ i' = σ.2.2.1 r.1
      · rw [if_pos e, if_pos e]
      · rw [if_neg e, if_neg e, if_neg e]
    have hne : ∀ c i, am_ok (am_rows σ r.2.1 b a) c i → ¬ (c = r.1 ∧ i = σ.2.2.1 r.1) := fun c i h q => by
      obtain ⟨rfl, rfl⟩ := q
      have := h.2
      rw [hcn1] at this
      exact absurd this (Nat.lt_irrefl _)
    have hcnp : ∀ g c', (am_pos (am_new (am_rows σ r.2.1 b a) r.1 a) r.1 (σ.2.2.1 r.1) g).2.2.1 c' = if c' = r.1 then (am_rows σ r.2.1 b a).2.2.1 r.1 + 1 else (am_rows σ r.2.1 b a).2.2.1 c' := fun g c' => by
      show (am_sq _ _ _).2.2.1 c' = _
      rw [am_cn_sq, am_cn_new]
    have hW := am_W_new0 (r := r) (σ := am_rows σ r.2.1 b a) (σ' := am_pos (am_new (am_rows σ r.2.1 b a) r.1 a) r.1 (σ.2.2.1 r.1) (fun j => bif Nat.blt j a then some (r.2.1, σ.2.2.1 r.2.1 + j) else none)) (q := qa) (tA := tA) q1 a3 a4 a5 a6 (hcnp _)
      (fun c i j h => by rw [am_gs_pos, am_gs_new (am_ble_lt q1), hcn1, if_neg (hne c i h)]) (fun c i j h => by rw [am_gl_pos, am_gl_new, hcn1, if_neg (hne c i h)]) (fun c i j h => by rw [hpo, if_neg (hne c i h)])
      (fun j p hp => by
        rw [hcn1, hpo, if_pos ⟨rfl, rfl⟩] at hp
        obtain ⟨hp1, hp2⟩ := am_bif_some' hp
        cases hp2
        refine ⟨q2, ?_⟩
        rw [hcnp, if_neg (fun q => q3 q.symm), am_rows_cn, if_pos rfl]
        have := am_blt_lt hp1
        show σ.2.2.1 r.2.1 + j < _
        omega) hP2 hD2 (by
        have h9 : am_tk r.1 ≠ 9 := by omega
        rw [am_cell_row h9, am_row_r q4, hcn1, ha, am_cAn_self]
        refine congrArg (fun g => Sum.inl (tA, a, Sum.inr (Sum.inr (Sum.inr (Sum.inr g))))) (funext fun j => ?_)
        rw [(hpo _ _ j).trans (if_pos ⟨rfl, rfl⟩)]
        by_cases hj : j < a
        · rw [if_pos hj, show Nat.blt j a = true from Nat.ble_eq_true_of_le hj]
          show some (f j) = some (am_adn _ _ _ _ r.2.1 (σ.2.2.1 r.2.1 + j))
          unfold am_adn
          rw [if_neg (fun q => q3 q.1.symm), am_adr_new _ _ _ _ _ hj]
        · rw [if_neg hj]
          have : Nat.blt j a = false := by
            cases e : Nat.blt j a with
            | false => rfl
            | true => exact absurd (am_blt_lt e) hj
          rw [this]; rfl) (fun _ => by rw [q6]; exact hK1.2 0 _ rfl)
    rw [hcn1] at hW
    have hok : ∀ c' i, am_ok σ c' i → am_ok (am_pos (am_new (am_rows σ r.2.1 b a) r.1 a) r.1 (σ.2.2.1 r.1) (fun j => bif Nat.blt j a then some (r.2.1, σ.2.2.1 r.2.1 + j) else none)) c' i := fun c' i h => by
      have h1 := am_new_ok (am_rows σ r.2.1 b a) r.1 a c' i (am_rows_ok σ r.2.1 b a c' i h)
      exact ⟨h1.1, by show _ < (am_sq _ _ _).2.2.1 c'; rw [am_cn_sq]; exact h1.2⟩
    have had : ∀ c' i, am_okq σ c' i → am_adn (am_adr ad r.2.1 (σ.2.2.1 r.2.1) f a) r.1 (σ.2.2.1 r.1) qa c' i = ad c' i := fun c' i h => by
      have h1 := am_adr_old (σ := σ) (ad := ad) q2 b f a c' i h
      unfold am_adn
      rw [if_neg]
      · exact h1
      · rintro ⟨rfl, rfl⟩
        rcases h with h | h
        · exact absurd h.2 (Nat.lt_irrefl _)
        · unfold am_rok at h; omega
    have hInv : am_Inv X D A s rd ad0 σ0 (am_adn (am_adr ad r.2.1 (σ.2.2.1 r.2.1) f a) r.1 (σ.2.2.1 r.1) qa) (am_cAn (am_cAr cA r.2.1 (σ.2.2.1 r.2.1) cy a) r.1 (σ.2.2.1 r.1) tA) (am_pos (am_new (am_rows σ r.2.1 b a) r.1 a) r.1 (σ.2.2.1 r.1) (fun j => bif Nat.blt j a then some (r.2.1, σ.2.2.1 r.2.1 + j) else none)) H1 locs (cells + 1 + a) (slots + a + a * b) := by
      refine ⟨hW, hS1, fun c i hc2 => ?_, fun c i h => ?_, fun c' => ?_, ?_, ?_⟩
      · unfold am_adn
        rw [if_neg (fun q => by omega)]
        have : ∀ n, am_adr ad r.2.1 (σ.2.2.1 r.2.1) f n c i = ad c i := by
          intro n
          induction n with
          | zero => rfl
          | succ n ih => show am_adn _ _ _ _ _ _ = _; unfold am_adn; rw [if_neg (fun q => by omega)]; exact ih
        rw [this]; exact hag c i hc2
      · have : am_ok σ c i := ⟨h.1, Nat.lt_of_lt_of_le h.2 (h8 c)⟩
        rw [had c i (Or.inl this)]; exact h7 c i h
      · rw [hcnp, am_rows_cn, am_rows_cn]
        have := h8 c'
        by_cases e1 : c' = r.1
        · rw [if_pos e1, if_neg q3]; rw [e1] at this ⊢; omega
        · rw [if_neg e1]
          split
          · rename_i e2; rw [e2] at this ⊢; omega
          · exact this
      · rw [show (am_pos _ _ _ _).2.2.2.1 = _ from congrArg Prod.fst (hnc _)]; show _ = σ.2.2.2.1 + a + 1; omega
      · rw [show (am_pos _ _ _ _).2.2.2.2 = _ from congrArg Prod.snd (hnc _)]; show _ = σ.2.2.2.2 + a * b + a; omega
    have hokn : am_okv (am_pos (am_new (am_rows σ r.2.1 b a) r.1 a) r.1 (σ.2.2.1 r.1) (fun j => bif Nat.blt j a then some (r.2.1, σ.2.2.1 r.2.1 + j) else none)) (.inr (r.1, σ.2.2.1 r.1)) := Or.inl ⟨q1, by rw [hcnp, if_pos rfl, hcn1]; exact Nat.lt_succ_self _⟩
    have go := hk _ _ _ _ h _ _ _ _ _ _ _ hInv (am_Fr_new hok had hF (am_ok_c hokn (fun v hv => am_okv_new hok (am_ok_t (am_ok_t hF.2.2.2) v hv))))
    rw [List.map_cons, am_map_same had t (am_ok_t (am_ok_t hF.2.2.2))] at go
    have e : am_cv (am_adn (am_adr ad r.2.1 (σ.2.2.1 r.2.1) f a) r.1 (σ.2.2.1 r.1) qa) (.inr (r.1, σ.2.2.1 r.1)) = .ref qa := by
      show Value.ref (am_adn _ r.1 (σ.2.2.1 r.1) qa r.1 (σ.2.2.1 r.1)) = _
      unfold am_adn; rw [if_pos ⟨rfl, rfl⟩]
    rw [e] at go
    exact go
  rcases q5 with ⟨k5, q5⟩ | ⟨k5, q5⟩
  · exact fin (b, .inl fun _ => 0) (by rw [q5]; exact fun c => arrV_new _ _ _) (by rw [if_neg (show ¬ am_tk r.2.1 = 1 by omega)]) (by rw [q5]; rfl) (by rw [q5]; rfl) (by rw [q5]; decide)
  · exact fin (b, .inr (.inl fun _ => 0)) (by rw [q5]; exact fun c => arrV_new _ _ _) (by rw [if_pos k5]) (by rw [q5]; rfl) (by rw [q5]; rfl) (by rw [q5]; decide)

end AMH
