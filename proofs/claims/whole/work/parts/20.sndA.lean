/-! WHAT THE ABSTRACT MACHINE IS WORTH, 10: copies, calls -/
section AMH
variable {p : Program} {l : Launch} {e : Env} {R : Room} {s : State} {m : MethodId} {args : Array Value} {below : List Frame} {meth : Method} {c : Code} {H : Heap} {locs : List Loc} {cells slots : Nat} {Q : State → Prop}
variable {X : am_X} {D : va_G} {A : Nat → Prop} {rd ad0 ad : Nat → Nat → Nat} {cA : Nat → Nat → ClassId} {σ0 σ : am_S} {nm : String} {cc : ByteArray} {nL ow pc n : Nat} {ret : Option FieldType} {z : Option am_V × am_S}
variable {ls st : List am_V} {LS : Array Slot} {r : Nat × Nat × Nat} {sw : List (Int × Nat)} {Γ : Nat → List am_V → am_S → am_R}
variable {k : Nat → List am_V → List am_V → am_S → am_R}

theorem am_cat_eq (ad : Nat → Nat → Nat) (t : List am_V) : ((t.map (am_cv ad)).map fun v => v.category).sum = am_cat t := by
  unfold am_cat
  rw [List.map_map]
  refine congrArg List.sum (List.map_congr_left fun v hv => ?_)
  rcases v with v | q <;> rfl
theorem am_q_pis (σ : am_S) (c i : Nat) (g : Nat → Int32) (c' : Nat) : am_q (am_pis σ c i g) c' = bif (Nat.ble 50 c' == Nat.ble 50 c) then (am_w2 (am_q σ c).1 c i g, (am_q σ c).2) else am_q σ c' := am_q_sq _ _ _ _
theorem am_q_pls (σ : am_S) (c i : Nat) (g : Nat → Int64) (c' : Nat) : am_q (am_pls σ c i g) c' = bif (Nat.ble 50 c' == Nat.ble 50 c) then ((am_q σ c).1, am_w2 (am_q σ c).2.1 c i g, (am_q σ c).2.2) else am_q σ c' := am_q_sq _ _ _ _
theorem am_gs_pis (X : am_X) (σ : am_S) {c : Nat} (h : c < 200) (i : Nat) (g : Nat → Int32) (c' i' j' : Nat) : am_gs X (am_pis σ c i g) c' i' j' = if c' = c ∧ i' = i then g j' else am_gs X σ c' i' j' := by
  cases e : Nat.ble 200 c' with
  | true =>
    have : c' ≠ c := fun q => by rw [q, am_ble_lt h] at e; cases e
    rw [if_neg (fun q => this q.1)]
    exact am_gs_ge X _ _ e _ _
  | false =>
    unfold am_gs
    rw [e]
    show (am_q (am_pis σ c i g) c').1 c' i' j' = if c' = c ∧ i' = i then g j' else (am_q σ c').1 c' i' j'
    rw [am_q_pis]
    cases e2 : (Nat.ble 50 c' == Nat.ble 50 c) with
    | false =>
      have : c' ≠ c := fun q => by rw [q] at e2; simp at e2
      rw [if_neg (fun q => this q.1)]; rfl
    | true =>
      show am_w2 _ _ _ _ c' i' j' = _
      rw [am_w2_eq, am_q_part e2]
theorem am_gl_pis (σ : am_S) (c i : Nat) (g : Nat → Int32) (c' i' j' : Nat) : am_gl (am_pis σ c i g) c' i' j' = am_gl σ c' i' j' := by
  unfold am_gl
  rw [am_q_pis]
  cases e2 : (Nat.ble 50 c' == Nat.ble 50 c) with
  | false => rfl
  | true => rw [am_q_part e2]; rfl
theorem am_go_pis (σ : am_S) (c i : Nat) (g : Nat → Int32) (c' i' j' : Nat) : am_go (am_pis σ c i g) c' i' j' = am_go σ c' i' j' := by
  unfold am_go
  rw [am_q_pis]
  cases e2 : (Nat.ble 50 c' == Nat.ble 50 c) with
  | false => rfl
  | true => rw [am_q_part e2]; rfl
theorem am_gl_pls (σ : am_S) (c i : Nat) (g : Nat → Int64) (c' i' j' : Nat) : am_gl (am_pls σ c i g) c' i' j' = if c' = c ∧ i' = i then g j' else am_gl σ c' i' j' := by
  unfold am_gl
  rw [am_q_pls]
  cases e2 : (Nat.ble 50 c' == Nat.ble 50 c) with
  | false =>
    have : c' ≠ c := fun q => by rw [q] at e2; simp at e2
    rw [if_neg (fun q => this q.1)]; rfl
  | true =>
    show am_w2 _ _ _ _ c' i' j' = _
    rw [am_w2_eq, am_q_part e2]
theorem am_gs_pls (X : am_X) (σ : am_S) (c i : Nat) (g : Nat → Int64) (c' i' j' : Nat) : am_gs X (am_pls σ c i g) c' i' j' = am_gs X σ c' i' j' := by
  unfold am_gs
  rw [am_q_pls]
  cases e2 : (Nat.ble 50 c' == Nat.ble 50 c) with
  | false => rfl
  | true => rw [am_q_part e2]; rfl
theorem am_go_pls (σ : am_S) (c i : Nat) (g : Nat → Int64) (c' i' j' : Nat) : am_go (am_pls σ c i g) c' i' j' = am_go σ c' i' j' := by
  unfold am_go
  rw [am_q_pls]
  cases e2 : (Nat.ble 50 c' == Nat.ble 50 c) with
  | false => rfl
  | true => rw [am_q_part e2]; rfl
theorem am_acat : nativeFrameWords "java/lang/System" "arraycopy" 5 + 11 + 8 ≤ 100 := by decide +kernel
set_option maxHeartbeats 1000000 in
theorem am_snd_acpy {idx : Nat} (hC : am_Cx p s m args meth c X D A rd nm cc nL ow) (hd : decode cc pc = .ok (.invokestatic idx, 3)) (hl : Cond.methodLink (am_on ow) idx arraycopyName ∈ am_tbl) (hl2 : Cond.native arraycopyName ∈ am_tbl) (hl3 : Cond.static arraycopyName ∈ am_tbl) (hl4 : Cond.initialized "java/lang/System" ∈ am_tbl)
    (hRf : 1 ≤ R.frames) (hRl : 100 ≤ R.locals)
    (hk : am_Ks p l e R s m args below meth c X D A rd ad0 σ0 nL Q z k) (h : am_acpy X (fun s σ' => k (pc + 3) ls s σ') st σ = some z)
    (hI : am_Inv X D A s rd ad0 σ0 ad cA σ H locs cells slots) (hF : am_Fr σ ad ls st LS nL) : W p l e R s m args below meth c H locs cells slots Q (F0 m pc LS (st.map (am_cv ad))) := by
  obtain ⟨hx, hb, hml, hown, hts, hlo, hnm, hA, hK, hRO⟩ := hC
  unfold am_acpy at h
  split at h
  case h_2 => cases h
  rename_i n dp c0 i sp c1 i1 t
  obtain ⟨h1, h⟩ := am_bif_some h
  obtain ⟨hc, h1⟩ := am_and_true h1
  obtain ⟨hc1, h1⟩ := am_and_true h1
  obtain ⟨htk, hcat⟩ := am_and_true h1
  have hc := am_blt_lt hc
  have hc1 := am_blt_lt hc1
  have htk := Nat.eq_of_beq_eq_true htk
  have hcat := Nat.le_of_ble_eq_true hcat
  split at h
  case isTrue => cases h
  rename_i hn
  have hn1 : ¬ n < 0 := fun q => hn (Or.inl q)
  have hn2 : ¬ sp < 0 := fun q => hn (Or.inr (Or.inl q))
  have hn3 : ¬ dp < 0 := fun q => hn (Or.inr (Or.inr (Or.inl q)))
  have hn4 : sp.toNatClampNeg + n.toNatClampNeg ≤ am_len X c1 i1 := Nat.not_lt.mp fun q => hn (Or.inr (Or.inr (Or.inr (Or.inl q))))
  have hn5 : dp.toNatClampNeg + n.toNatClampNeg ≤ am_len X c0 i := Nat.not_lt.mp fun q => hn (Or.inr (Or.inr (Or.inr (Or.inr q))))
  have hst := hF.2.2.2
  have hv : am_ok σ c0 i := am_ok_lt (am_ok_t (am_ok_t hst) _ List.mem_cons_self : am_okq σ c0 i) hc
  have hv1 : am_ok σ c1 i1 := am_ok_lt (am_ok_t (am_ok_t (am_ok_t (am_ok_t hst))) _ List.mem_cons_self : am_okq σ c1 i1) hc1
  have hst2 : ∀ v ∈ t, am_okv σ v := am_ok_t (am_ok_t (am_ok_t (am_ok_t (am_ok_t hst))))
  have hlo2 : ((t.map (am_cv ad)).map fun v => v.category).sum + (nativeFrameWords "java/lang/System" "arraycopy" 5 + 11) ≤ R.locals := by
    rw [am_cat_eq]; have := am_acat; omega
  have hml2 : c.maxLocals = LS.size := by rw [hml, hF.1.1]
  obtain ⟨ws, hP, hD, h3, h4, h5, h6⟩ := hI.1
  obtain ⟨k0, hk0⟩ := h3 c0 i hv
  obtain ⟨k1, hk1⟩ := h3 c1 i1 hv1
  have hk0' := hk0
  split at h
  · rename_i et
    have h9 : am_tk c0 ≠ 9 := by omega
    have h91 : am_tk c1 ≠ 9 := by omega
    have hr0 := h4 c0 i hv h9
    have hr1 := h4 c1 i1 hv1 h91
    rw [(am_tyF c0 hc).1 et] at hr0
    rw [(am_tyF c1 hc1).1 (by omega)] at hr1
    rw [am_cell_row h9, am_row_i (by omega) (by omega)] at hk0'
    rw [am_cell_row h91, am_row_i (by omega) (by omega)] at hk1
    have e0 : (am_q σ c0).1 c0 i = am_gs X σ c0 i := funext fun j => (am_gs_lt X σ hc i j).symm
    have e1 : (am_q σ c1).1 c1 i1 = am_gs X σ c1 i1 := funext fun j => (am_gs_lt X σ hc1 i1 j).symm
    rw [e0, e1] at h
    have hcn : ∀ g, (am_pis σ c0 i g).2.2 = σ.2.2 := fun g => am_cn_sq _ _ _
    have hK2 : va_K D am_CL [(cA c1 i1, .int), (cA c0 i, .int)] s := ⟨hK.1, fun k q hq => by
      match k, hq with
      | 0, hq => cases hq; exact hr1
      | 1, hq => cases hq; exact hr0
      | k + 2, hq => simp at hq⟩
    refine va_copyi (a0 := ad c1 i1) (a := ad c0 i) hx hb hml2 hown (hts _ hl) (hts _ hl2) (hts _ hl3) (hts _ hl4) hK2 hP hD hI.2.1 k1 k0 0 1 hk1 hk0' rfl rfl rfl hn2 hn3 hn1 hn4 hn5 (fun i _ => rfl) hRf hlo2 hd fun H1 locs1 a1 a2 a3 => ?_
    refine hk _ _ _ _ h _ _ _ _ _ _ _ (am_Inv_cn (hcn _) hI (am_W_set hk0 hv h3 h4 h5 (fun c2 i2 j2 q g1 g2 => ?_) a1 a2 ?_ (by rw [hcn]) (fun c' i' hne => ?_)) a3) (am_Fr_cn (hcn _) hF hst2)
    · rw [am_go_pis] at g2
      have := h6 c2 i2 j2 q ⟨g1.1, by rw [← hcn]; exact g1.2⟩ g2
      exact ⟨this.1, by rw [hcn]; exact this.2⟩
    · rw [am_cell_row h9, am_row_i (by omega) (by omega)]
      refine congrArg (fun g => Sum.inl (cA c0 i, am_len X c0 i, Sum.inl g)) (funext fun j => ?_)
      rw [am_gs_pis X σ hc, if_pos ⟨rfl, rfl⟩]
    · exact am_cell_eq (fun j => by rw [am_gs_pis X σ hc, if_neg hne]) (fun j => am_gl_pis _ _ _ _ _ _ _) (fun j => am_go_pis _ _ _ _ _ _ _)
  · rename_i et
    have h9 : am_tk c0 ≠ 9 := by omega
    have h91 : am_tk c1 ≠ 9 := by omega
    have hr0 := h4 c0 i hv h9
    have hr1 := h4 c1 i1 hv1 h91
    rw [(am_tyF c0 hc).2.2.2.1 et] at hr0
    rw [(am_tyF c1 hc1).2.2.2.1 (by omega)] at hr1
    rw [am_cell_row h9, am_row_l et] at hk0'
    rw [am_cell_row h91, am_row_l (by omega)] at hk1
    have e0 : (am_q σ c0).2.1 c0 i = am_gl σ c0 i := rfl
    have e1 : (am_q σ c1).2.1 c1 i1 = am_gl σ c1 i1 := rfl
    rw [e0, e1] at h
    have hcn : ∀ g, (am_pls σ c0 i g).2.2 = σ.2.2 := fun g => am_cn_sq _ _ _
    have hK2 : va_K D am_CL [(cA c1 i1, .long), (cA c0 i, .long)] s := ⟨hK.1, fun k q hq => by
      match k, hq with
      | 0, hq => cases hq; exact hr1
      | 1, hq => cases hq; exact hr0
      | k + 2, hq => simp at hq⟩
    refine va_copyl (a0 := ad c1 i1) (a := ad c0 i) hx hb hml2 hown (hts _ hl) (hts _ hl2) (hts _ hl3) (hts _ hl4) hK2 hP hD hI.2.1 k1 k0 0 1 hk1 hk0' rfl rfl rfl hn2 hn3 hn1 hn4 hn5 (fun i _ => rfl) hRf hlo2 hd fun H1 locs1 a1 a2 a3 => ?_
    refine hk _ _ _ _ h _ _ _ _ _ _ _ (am_Inv_cn (hcn _) hI (am_W_set hk0 hv h3 h4 h5 (fun c2 i2 j2 q g1 g2 => ?_) a1 a2 ?_ (by rw [hcn]) (fun c' i' hne => ?_)) a3) (am_Fr_cn (hcn _) hF hst2)
    · rw [am_go_pls] at g2
      have := h6 c2 i2 j2 q ⟨g1.1, by rw [← hcn]; exact g1.2⟩ g2
      exact ⟨this.1, by rw [hcn]; exact this.2⟩
    · rw [am_cell_row h9, am_row_l et]
      refine congrArg (fun g => Sum.inl (cA c0 i, am_len X c0 i, Sum.inr (Sum.inl g))) (funext fun j => ?_)
      rw [am_gl_pls, if_pos ⟨rfl, rfl⟩]
    · exact am_cell_eq (fun j => am_gs_pls _ _ _ _ _ _ _ _) (fun j => by rw [am_gl_pls, if_neg hne]) (fun j => am_go_pls _ _ _ _ _ _ _)
  · cases h

def am_ws (mt : am_Mt) : List Cond := .code mt.1 mt.2.1 mt.2.2.1 mt.2.2.2.1 :: am_tbl
def am_rm (d k n : Nat) : Room := { frames := d + 1, cells := k, slots := n, locals := 100 * (d + 1) }
def am_Pc (X : am_X) (D : va_G) (A : Nat → Prop) (rd ad : Nat → Nat → Nat) (cA : Nat → Nat → ClassId) (σ : am_S) (as : List am_V) (sz : Nat) : Array Value → State → Prop :=
  fun v U => v = (as.map (am_cv ad)).toArray ∧ U.heap.size = sz ∧ am_W X D A U ad cA σ U.heap ∧ va_K D am_CL [] U ∧ am_RO X A rd U U.heap
def am_Qc (X : am_X) (D : va_G) (A : Nat → Prop) (ad : Nat → Nat → Nat) (σ : am_S) (z : Option am_V × am_S) : Array Value → State → Outcome → State → Prop :=
  fun _ st o t => (∃ (ad' : Nat → Nat → Nat) (cA' : Nat → Nat → ClassId), (∀ c i, am_okq σ c i → ad' c i = ad c i) ∧ (∀ c i, 200 ≤ c → ad' c i = ad c i) ∧ o = .returned (z.1.map (am_cv ad')) ∧ am_W X D A t ad' cA' z.2 t.heap) ∧ va_F A st t ∧
    (∀ v, z.1 = some v → am_okv z.2 v) ∧ ∀ c, σ.2.2.1 c ≤ z.2.2.2.1 c
/-- a method's contract -/
def am_Met (l : Launch) (X : am_X) (D : va_G) (d : Nat) (mt : am_Mt) (as : List am_V) (σ : am_S) (z : Option am_V × am_S) : Prop :=
  σ.2.2.2.1 ≤ z.2.2.2.2.1 ∧ σ.2.2.2.2 ≤ z.2.2.2.2.2 ∧ ∀ (A : Nat → Prop) (rd ad : Nat → Nat → Nat) (cA : Nat → Nat → ClassId) (sz : Nat), (∀ v ∈ as, am_okv σ v) → (∀ c i, 200 ≤ c → ad c i = rd c i) → (∀ q, sz ≤ q → A q) →
    Met l mt.1 (am_ws mt) (am_rm d (z.2.2.2.2.1 - σ.2.2.2.1) (z.2.2.2.2.2 - σ.2.2.2.2)) (am_Pc X D A rd ad cA σ as sz) (am_Qc X D A ad σ z) (z.2.2.2.2.1 - σ.2.2.2.1) (z.2.2.2.2.2 - σ.2.2.2.2) A
theorem am_Pc_blind {as : List am_V} {sz : Nat} : FrameBlind (am_Pc X D A rd ad cA σ as sz) := by
  intro a U g mk h
  obtain ⟨h1, h0, h2, h3, h4⟩ := h
  refine ⟨h1, h0, am_W_moved (s := U) (u := U.calling g mk a) (Vm.Alike.refl U.vm) h2, va_K.moved (u := U) (U := U.calling g mk a) (Vm.Alike.refl U.vm) h3, ?_⟩
  exact am_RO_to (s := U) (U := U.calling g mk a) (H := U.heap) (H1 := U.heap) (State.WarmedH.refl U) (fun _ _ _ => rfl) (Nat.le_refl _) (fun _ h => h) h4
theorem am_ws_good (mt : am_Mt) (h : Cond.code mt.1 mt.2.1 mt.2.2.1 mt.2.2.2.1 ∈ am_tbl) : GoodIn am_tbl (am_ws mt) := by
  intro w hw
  have : w ∈ am_tbl := by
    rcases List.mem_cons.mp hw with rfl | hw
    · exact h
    · exact hw
  exact ⟨this, good_of_word (List.mem_filter.mp this).2⟩
theorem am_Pc_of {as : List am_V} {U : State} (hC : am_Cx p s m args meth c X D A rd nm cc nL ow) (hI : am_Inv X D A s rd ad0 σ0 ad cA σ H locs cells slots) (hU : U.heap = H) (hW : s.WarmedH U.vm) : am_Pc X D A rd ad cA σ as H.size (as.map (am_cv ad)).toArray U := by
  obtain ⟨hx, hb, hml, hown, hts, hlo, hnm, hA, hK, hRO⟩ := hC
  refine ⟨rfl, by rw [hU], ?_, va_K.moved hW.alike hK, ?_⟩
  · rw [hU]
    exact am_W_moved hW.alike hI.1
  · rw [hU]
    exact am_RO_to hW hI.2.1.2.1 hI.2.1.1 (fun _ h => h) hRO
/-- behind a call -/
theorem am_after {mt : am_Mt} {d : Nat} {as rest : List am_V} {zc : Option am_V × am_S} {st0 : List Value} {a : Array Value} (hM : am_Met l X D d mt as σ zc)
    (hr : va_Run p l e R s m args below meth c H locs cells slots (zc.2.2.2.2.1 - σ.2.2.2.1) (zc.2.2.2.2.2 - σ.2.2.2.2) (F0 m pc LS st0) (rest.map (am_cv ad)) (am_Qc X D A ad σ zc a) A)
    (hI : am_Inv X D A s rd ad0 σ0 ad cA σ H locs cells slots) (hF : am_Fr σ ad ls st LS nL) (hrest : ∀ v ∈ rest, am_okv σ v)
    (hk : am_Ks p l e R s m args below meth c X D A rd ad0 σ0 nL Q z k) (h : k (pc + 3) ls (zc.1.toList ++ rest) zc.2 = some z) : W p l e R s m args below meth c H locs cells slots Q (F0 m pc LS st0) := by
  intro T hT Xs
  obtain ⟨v, st₀, t, T', L, h0, X', hL, e1, e2, ⟨⟨ad', cA', g1, g2, g3, g4⟩, ⟨hz, hkp⟩, g5, g6⟩, stp⟩ := hr T hT Xs
  rw [h0] at hz hkp
  obtain ⟨hW, hS, hag, h7, h8, h9, h10⟩ := hI
  have hvm : t.vm.Alike s.vm := by rw [← e2]; exact X'.warmed.alike.symm
  have hokn : ∀ c i, am_ok σ c i → am_ok zc.2 c i := fun c i h => ⟨h.1, Nat.lt_of_lt_of_le h.2 (g6 c)⟩
  have hInv : am_Inv X D A s rd ad0 σ0 ad' cA' zc.2 T'.heap (locs ++ L) (cells + (zc.2.2.2.2.1 - σ.2.2.2.1)) (slots + (zc.2.2.2.2.2 - σ.2.2.2.2)) := by
    refine ⟨?_, ⟨Nat.le_trans hS.1 (by rw [e1]; exact hz), fun q q1 q2 => ?_, fun q hq => ?_⟩, fun c i hc => (g2 c i hc).trans (hag c i hc), fun c i hc => ?_, fun c => Nat.le_trans (h8 c) (g6 c), ?_, ?_⟩
    · rw [e1]; exact am_W_moved hvm g4
    · rw [e1, hkp q (Nat.lt_of_lt_of_le q1 hS.1) q2]; exact hS.2.1 q q1 q2
    · rcases List.mem_append.mp hq with hq | hq
      · exact hS.2.2 q hq
      · exact hL q hq
    · rw [g1 c i (Or.inl ⟨hc.1, Nat.lt_of_lt_of_le hc.2 (h8 c)⟩)]; exact h7 c i hc
    · have := hM.1; omega
    · have := hM.2.1; omega
  have hst : ∀ w ∈ zc.1.toList ++ rest, am_okv zc.2 w := fun w hw => by
    rcases List.mem_append.mp hw with hw | hw
    · exact g5 w (by cases hz1 : zc.1 with
        | none => rw [hz1] at hw; cases hw
        | some v1 => rw [hz1] at hw; simp at hw; rw [hw])
    · exact am_okv_new hokn (hrest w hw)
  have go := hk _ _ _ _ h _ _ _ _ _ _ _ hInv (am_Fr_new hokn g1 hF hst)
  have hv : v = zc.1.map (am_cv ad') := by cases g3; rfl
  have e3 : (zc.1.toList ++ rest).map (am_cv ad') = v.toList ++ rest.map (am_cv ad) := by
    rw [List.map_append, am_map_same g1 rest hrest, hv]
    cases zc.1 <;> rfl
  rw [e3] at go
  obtain ⟨t2, a1, b1⟩ := go T' rfl X'
  exact ⟨t2, stp t2 a1, b1⟩

end AMH
