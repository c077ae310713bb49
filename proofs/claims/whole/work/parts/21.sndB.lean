/-! WHAT THE ABSTRACT MACHINE IS WORTH, 11: calls -/
section AMH
variable {p : Program} {l : Launch} {e : Env} {R : Room} {s : State} {m : MethodId} {args : Array Value} {below : List Frame} {meth : Method} {c : Code} {H : Heap} {locs : List Loc} {cells slots : Nat} {Q : State → Prop}
variable {X : am_X} {D : va_G} {A : Nat → Prop} {rd ad0 ad : Nat → Nat → Nat} {cA : Nat → Nat → ClassId} {σ0 σ : am_S} {nm : String} {cc : ByteArray} {nL ow pc n : Nat} {ret : Option FieldType} {z : Option am_V × am_S}
variable {ls st : List am_V} {LS : Array Slot} {r : Nat × Nat × Nat} {sw : List (Int × Nat)} {Γ : Nat → List am_V → am_S → am_R}
variable {k : Nat → List am_V → List am_V → am_S → am_R}
theorem am_take_recv {v : am_V} {tl : List am_V} {n : Nat} (h : st.drop n = v :: tl) : (st.take (n + 1)).reverse = v :: (st.take n).reverse ∧ st.drop (n + 1) = tl ∧ (st.take n).length = n ∧ st = st.take n ++ v :: tl := by
  have hst : st = st.take n ++ v :: tl := by rw [← h]; exact (List.take_append_drop n st).symm
  have hlt : n < st.length := by
    apply Classical.byContradiction
    intro q
    rw [List.drop_eq_nil_of_le (Nat.not_lt.mp q)] at h
    cases h
  have hlen : (st.take n).length = n := by rw [List.length_take]; omega
  refine ⟨?_, ?_, hlen, hst⟩
  · rw [List.take_succ_eq_append_getElem hlt, List.reverse_append]
    have : st[n] = v := by
      have h2 := List.getElem_cons_drop (as := st) (i := n) hlt
      rw [h] at h2
      exact (List.cons.inj h2).1
    rw [this]; rfl
  · have h2 := List.getElem_cons_drop (as := st) (i := n) hlt
    rw [h] at h2
    exact (List.cons.inj h2).2
theorem am_call_some {kk : List am_V → am_S → am_R} {b : Bool} {rt : Nat} (h : am_call Γ kk r b rt st σ = some z) :
    ((st.take (bif b then r.2.1 + 1 else r.2.1)).reverse).length = (bif b then r.2.1 + 1 else r.2.1) ∧ am_cat (st.drop (bif b then r.2.1 + 1 else r.2.1)) ≤ 8 ∧
    ∃ zc, Γ r.1 (st.take (bif b then r.2.1 + 1 else r.2.1)).reverse σ = some zc ∧ kk (zc.1.toList ++ st.drop (bif b then r.2.1 + 1 else r.2.1)) zc.2 = some z := by
  unfold am_call at h
  obtain ⟨h1, h⟩ := am_bif_some h
  obtain ⟨h1, h2⟩ := am_and_true h1
  refine ⟨Nat.eq_of_beq_eq_true h1, Nat.le_of_ble_eq_true h2, ?_⟩
  split at h
  · obtain ⟨τ, e1, e2⟩ := am_bv_some h; exact ⟨_, e1, e2⟩
  · obtain ⟨x, τ, e1, e2⟩ := am_bi_some h; exact ⟨_, e1, e2⟩
  · obtain ⟨x, τ, e1, e2⟩ := am_bl_some h; exact ⟨_, e1, e2⟩
  · obtain ⟨c1, i1, τ, e1, e2⟩ := am_br_some h; exact ⟨_, e1, e2⟩
theorem am_rk_some {as : List am_V} {c1 : Nat} {q : am_R} (h : am_rk as c1 q = some z) : ∃ i tl, as = .inr (c1, i) :: tl ∧ q = some z := by
  unfold am_rk at h
  split at h
  · rename_i c' i tl
    obtain ⟨h1, h2⟩ := am_bif_some h
    have := Nat.eq_of_beq_eq_true h1
    subst this
    exact ⟨i, tl, rfl, h2⟩
  · cases h
/-- the callee's contract, its words and room -/
theorem am_cb {mt : am_Mt} {d n : Nat} {idx : Nat} {kc ks : Nat} (hC : am_Cx p s m args meth c X D A rd nm cc nL ow) (hRd : d + 2 ≤ R.frames ∧ 100 * (d + 2) ≤ R.locals) {bst : Bool} {rt : Nat} {y : Nat} (hmq : am_mQ y n rt bst mt) (hl : Cond.methodLink (am_on ow) idx mt.1 ∈ am_tbl) :
    CallB R s args (am_on ow) idx mt.1 mt.2.1 mt.2.2.1 mt.2.2.2.1 (am_ws mt) (am_rm d kc ks) kc ks n := by
  obtain ⟨hx, hb, hml, hown, hts, hlo, hnm, hA, hK, hRO⟩ := hC
  obtain ⟨q1, q2, q3, q4, q5, q6, q7⟩ := hmq
  refine callB_of (Ts := am_tbl) n hts (am_ws_good mt q2) rfl rfl rfl (hts _ q3) (hts _ hl) q5 ⟨?_, ?_⟩
  · show d + 1 + 1 ≤ _; omega
  · show 8 + (mt.2.2.1 + 11) + 100 * (d + 1) ≤ _; omega
theorem am_cbN {mt : am_Mt} {d n : Nat} {idx : Nat} {kc ks : Nat} {host : String} (hC : am_Cx p s m args meth c X D A rd nm cc nL ow) (hRd : d + 2 ≤ R.frames ∧ 100 * (d + 2) ≤ R.locals) {bst : Bool} {rt : Nat} {y : Nat} (hmq : am_mQ y n rt bst mt) (hl : (am_on ow, idx, mt.1, host) ∈ am_nestM) :
    va_CN R s args (am_on ow) idx mt.1 host mt.2.1 mt.2.2.1 mt.2.2.2.1 (am_ws mt) (am_rm d kc ks) kc ks n := by
  obtain ⟨hx, hb, hml, hown, hts, hlo, hnm, hA, hK, hRO⟩ := hC
  obtain ⟨q1, q2, q3, q4, q5, q6, q7⟩ := hmq
  obtain ⟨-, -, -, -, -, -, nM, -⟩ := hRO
  refine va_cnB (Ts := am_tbl) n hts (am_ws_good mt q2) rfl rfl rfl (nM _ hl) (hts _ q3) q5 ⟨?_, ?_⟩
  · show d + 1 + 1 ≤ _; omega
  · show 8 + (mt.2.2.1 + 11) + 100 * (d + 1) ≤ _; omega
theorem am_recv {c1 i1 : Nat} {cls : String} (hK : va_K D am_CL [] s) (hRO : am_RO X A rd s s.heap) (hI : am_Inv X D A s rd ad0 σ0 ad cA σ H locs cells slots) (hv : am_okq σ c1 i1) (hr : am_rQ c1 cls) : ∃ cell : Cell, H[ad c1 i1]? = some cell ∧ cell.vm.isStatics = false ∧ s.vm.findClass cls = some cell.cls := by
  rcases hr with ⟨rfl, rfl⟩ | ⟨h1, h2, h3, h4⟩
  · have hvr : i1 < 7 := by
      rcases hv with hv | hv
      · exact absurd hv.1 (by omega)
      · unfold am_rok at hv; omega
    obtain ⟨-, -, -, -, hS7, -⟩ := hRO
    rw [hI.2.2.1 203 i1 (by omega)]
    exact vk_recv hS7 hvr hI.2.1
  · obtain ⟨ws, hP, hD, g3, g4, g5, g6⟩ := hI.1
    obtain ⟨k1, hk1⟩ := g3 c1 i1 (am_ok_lt hv h1)
    rw [am_cell_obj h2] at hk1
    rw [← h4]
    exact va_recv hK hP h3 hk1
theorem am_mono {zc : Option am_V × am_S} (hI : am_Inv X D A s rd ad0 σ0 ad cA σ H locs cells slots) (h1 : σ.2.2.2.1 ≤ zc.2.2.2.2.1) (h2 : σ.2.2.2.2 ≤ zc.2.2.2.2.2) (hm : zc.2.2.2.2.1 ≤ R.cells + σ0.2.2.2.1 ∧ zc.2.2.2.2.2 ≤ R.slots + σ0.2.2.2.2) : cells + (zc.2.2.2.2.1 - σ.2.2.2.1) ≤ R.cells ∧ slots + (zc.2.2.2.2.2 - σ.2.2.2.2) ≤ R.slots := by
  obtain ⟨-, -, -, -, -, h9, h10⟩ := hI
  omega
abbrev am_hG (l : Launch) (X : am_X) (D : va_G) (Γ : Nat → List am_V → am_S → am_R) (d : Nat) : Prop := ∀ (y : Nat) (as : List am_V) (τ : am_S) (zc : Option am_V × am_S) (mt : am_Mt), am_ML[y]? = some mt → Γ y as τ = some zc → am_Met l X D d mt as τ zc
abbrev am_hm (R : Room) (σ0 : am_S) (z : Option am_V × am_S) (k : Nat → List am_V → List am_V → am_S → am_R) : Prop := ∀ (pc : Nat) (ls st : List am_V) (τ : am_S), k pc ls st τ = some z → τ.2.2.2.1 ≤ R.cells + σ0.2.2.2.1 ∧ τ.2.2.2.2 ≤ R.slots + σ0.2.2.2.2
set_option maxHeartbeats 1000000 in
theorem am_snd_virtual {idx d : Nat} (hC : am_Cx p s m args meth c X D A rd nm cc nL ow) (hE : am_eP (am_on ow) nm cc ret (pc, .invokevirtual idx, n, r, sw)) (hG : am_hG l X D Γ d) (hRd : d + 2 ≤ R.frames ∧ 100 * (d + 2) ≤ R.locals)
    (hk : am_Ks p l e R s m args below meth c X D A rd ad0 σ0 nL Q z k) (h : am_ins Γ X k pc (.invokevirtual idx) n r sw ls st σ = some z)
    (hI : am_Inv X D A s rd ad0 σ0 ad cA σ H locs cells slots) (hF : am_Fr σ ad ls st LS nL) (hm : am_hm R σ0 z k) : W p l e R s m args below meth c H locs cells slots Q (F0 m pc LS (st.map (am_cv ad))) := by
  have hC' := hC
  obtain ⟨hx, hb, hml, hown, hts, hlo, hnm, hA, hK, hRO⟩ := hC
  obtain ⟨hd, hn, hq⟩ := hE
  have hn : n = 3 := by
    rcases hn with hn | ⟨_, _, _, _, hn⟩ | ⟨_, _, hn⟩
    · exact hn
    · cases hn
    · cases hn
  dsimp only at hd hq
  subst hn
  simp only [am_ins] at h
  simp only [am_eQ] at hq
  have main : am_rk (st.drop r.2.1) (am_mc r.1) (am_call Γ (fun s σ' => k (pc + 3) ls s σ') r true (r.2.2 % 10) st σ) = some z → (r.2.2 / 10 = 0 ∨ r.2.2 / 10 = 5) → W p l e R s m args below meth c H locs cells slots Q (F0 m pc LS (st.map (am_cv ad))) := by
    intro h hor
    obtain ⟨i1, tl, hdrop, h⟩ := am_rk_some h
    obtain ⟨h1, h2, zc, h3, h4⟩ := am_call_some h
    obtain ⟨t1, t2, t3, t4⟩ := am_take_recv hdrop
    simp only [cond_true] at h1 h2 h3 h4
    rw [t1] at h3
    rw [t2] at h2 h4
    rcases hq with ⟨q1, q2⟩ | ⟨mt, q1, q2, q3, q4, q5, q6⟩
    · rcases hor with q | q
      · exact absurd q q1
      · exact absurd q q2
    · have hM := hG r.1 _ σ zc mt q1.1 h3
      have hsv : ∀ v ∈ st.take r.2.1 ++ .inr (am_mc r.1, i1) :: tl, am_okv σ v := by rw [← t4]; exact hF.2.2.2
      have hv : am_okq σ (am_mc r.1) i1 := hsv (.inr (am_mc r.1, i1)) (List.mem_append_right _ List.mem_cons_self)
      have hrest : ∀ v ∈ tl, am_okv σ v := fun v hv => hsv v (List.mem_append_right _ (List.mem_cons_of_mem _ hv))
      have hasv : ∀ v ∈ (Sum.inr (am_mc r.1, i1) :: (st.take r.2.1).reverse : List am_V), am_okv σ v := fun v hv2 => by
        rcases List.mem_cons.mp hv2 with rfl | hv2
        · exact hv
        · exact hsv v (List.mem_append_left _ (List.mem_reverse.mp hv2))
      have hmm := am_mono hI hM.1 hM.2.1 (hm _ _ _ _ h4)
      have hstk : st.map (am_cv ad) = (((st.take r.2.1).reverse).map (am_cv ad)).reverse ++ .ref (ad (am_mc r.1) i1) :: tl.map (am_cv ad) := by
        conv => lhs; rw [t4]
        rw [List.map_append, List.map_reverse, List.reverse_reverse]
        rfl
      have hlen : (((st.take r.2.1).reverse).map (am_cv ad)).length = r.2.1 := by rw [List.length_map, List.length_reverse]; exact t3
      have hMet := hM.2.2 A rd ad cA H.size hasv hI.2.2.1 (fun q hq => hA q (Nat.le_trans hI.2.1.1 hq))
      have hrc := am_recv hK hRO hI hv (by rw [q2]; exact q3)
      have hroom : 2 * (F0 m pc LS (st.map (am_cv ad))).monitorRoom + ((tl.map (am_cv ad)).map fun v => v.category).sum ≤ 8 := lv_room (by rw [am_cat_eq]; exact h2)
      have hS : CallFix p m c cc nL s args am_tbl (am_on ow) := ⟨hx, hb, hml, hown, hts⟩
      have hpre : PreV s H mt.1.cls (ad (am_mc r.1) i1) (am_Pc X D A rd ad cA σ (Sum.inr (am_mc r.1, i1) :: (st.take r.2.1).reverse) H.size) (((st.take r.2.1).reverse).map (am_cv ad)) :=
        ⟨am_Pc_blind, hrc, fun U hU hW => am_Pc_of hC' hI hU hW⟩
      rcases hor with hor | hor
      · exact am_after hM (va_runV (C := mt.1.cls) hS hMet ⟨am_cb hC' hRd q1 (q5 hor), hts _ (by have := q1.2.2.2.2.2.2; exact this), hts _ q4⟩ hpre rfl hlen hF.1.1 hstk hroom hd hmm) hI hF hrest hk h4
      · obtain ⟨host, hl⟩ := q6 hor
        exact am_after hM (va_runVN (C := mt.1.cls) hS hMet ⟨am_cbN hC' hRd q1 hl, hts _ (by have := q1.2.2.2.2.2.2; exact this), hts _ q4⟩ hpre rfl hlen hF.1.1 hstk hroom hd hmm) hI hF hrest hk h4
  split at h
  · rename_i e1; exact main h (Or.inl e1)
  · rename_i e1; exact main h (Or.inr e1)
  · cases h
set_option maxHeartbeats 1000000 in
theorem am_snd_static {idx d : Nat} (hC : am_Cx p s m args meth c X D A rd nm cc nL ow) (hE : am_eP (am_on ow) nm cc ret (pc, .invokestatic idx, n, r, sw)) (hG : am_hG l X D Γ d) (hRd : d + 2 ≤ R.frames ∧ 100 * (d + 2) ≤ R.locals)
    (hk : am_Ks p l e R s m args below meth c X D A rd ad0 σ0 nL Q z k) (h : am_ins Γ X k pc (.invokestatic idx) n r sw ls st σ = some z)
    (hI : am_Inv X D A s rd ad0 σ0 ad cA σ H locs cells slots) (hF : am_Fr σ ad ls st LS nL) (hm : am_hm R σ0 z k) : W p l e R s m args below meth c H locs cells slots Q (F0 m pc LS (st.map (am_cv ad))) := by
  have hC' := hC
  obtain ⟨hx, hb, hml, hown, hts, hlo, hnm, hA, hK, hRO⟩ := hC
  obtain ⟨hd, hn, hq⟩ := hE
  have hn : n = 3 := by
    rcases hn with hn | ⟨_, _, _, _, hn⟩ | ⟨_, _, hn⟩
    · exact hn
    · cases hn
    · cases hn
  dsimp only at hd hq
  subst hn
  simp only [am_ins] at h
  simp only [am_eQ] at hq
  have main : am_call Γ (fun s σ' => k (pc + 3) ls s σ') r false (r.2.2 % 10) st σ = some z → (r.2.2 / 10 = 1 ∨ r.2.2 / 10 = 6) → W p l e R s m args below meth c H locs cells slots Q (F0 m pc LS (st.map (am_cv ad))) := by
    intro h hor
    obtain ⟨h1, h2, zc, h3, h4⟩ := am_call_some h
    simp only [cond_false] at h1 h2 h3 h4
    rcases hq with ⟨q1, q2, -⟩ | ⟨q1, -⟩ | ⟨q1, -⟩ | ⟨mt, q1, q5, q6, -⟩
    · rcases hor with q | q
      · exact absurd q q1
      · exact absurd q q2
    · omega
    · omega
    · have hM := hG r.1 _ σ zc mt q1.1 h3
      have t4 : st = st.take r.2.1 ++ st.drop r.2.1 := (List.take_append_drop _ _).symm
      have hsv : ∀ v ∈ st.take r.2.1 ++ st.drop r.2.1, am_okv σ v := by rw [← t4]; exact hF.2.2.2
      have hrest : ∀ v ∈ st.drop r.2.1, am_okv σ v := fun v hv => hsv v (List.mem_append_right _ hv)
      have hasv : ∀ v ∈ (st.take r.2.1).reverse, am_okv σ v := fun v hv2 => hsv v (List.mem_append_left _ (List.mem_reverse.mp hv2))
      have hmm := am_mono hI hM.1 hM.2.1 (hm _ _ _ _ h4)
      have hstk : st.map (am_cv ad) = (((st.take r.2.1).reverse).map (am_cv ad)).reverse ++ (st.drop r.2.1).map (am_cv ad) := by
        conv => lhs; rw [t4]
        rw [List.map_append, List.map_reverse, List.reverse_reverse]
      have hlen : (((st.take r.2.1).reverse).map (am_cv ad)).length = r.2.1 := by rw [List.length_map]; exact h1
      have hMet := hM.2.2 A rd ad cA H.size hasv hI.2.2.1 (fun q hq => hA q (Nat.le_trans hI.2.1.1 hq))
      have hroom : 2 * (F0 m pc LS (st.map (am_cv ad))).monitorRoom + (((st.drop r.2.1).map (am_cv ad)).map fun v => v.category).sum ≤ 8 := lv_room (by rw [am_cat_eq]; exact h2)
      have hS : CallFix p m c cc nL s args am_tbl (am_on ow) := ⟨hx, hb, hml, hown, hts⟩
      have hpre : PreS s H (am_Pc X D A rd ad cA σ (st.take r.2.1).reverse H.size) (((st.take r.2.1).reverse).map (am_cv ad)) :=
        ⟨am_Pc_blind, fun U hU hW => am_Pc_of hC' hI hU hW⟩
      rcases hor with hor | hor
      · exact am_after hM (va_runS hS hMet ⟨am_cb hC' hRd q1 (q5 hor), hts _ (by have := q1.2.2.2.2.2.2; exact this)⟩ hpre rfl hlen hF.1.1 hstk hroom hd hmm) hI hF hrest hk h4
      · obtain ⟨host, hl⟩ := q6 hor
        exact am_after hM (va_runSN hS hMet ⟨am_cbN hC' hRd q1 hl, hts _ (by have := q1.2.2.2.2.2.2; exact this), trivial⟩ hpre rfl hlen hF.1.1 hstk hroom hd hmm) hI hF hrest hk h4
  split at h
  · rename_i e1; exact main h (Or.inl e1)
  · rename_i e1; exact main h (Or.inr e1)
  · rename_i e1
    rcases hq with ⟨-, -, q1, -⟩ | ⟨q1, -⟩ | ⟨-, g1, g2, g3, g4⟩ | ⟨mt, -, -, -, q1, -⟩
    · exact absurd e1 q1
    · omega
    · exact am_snd_acpy hC' hd g1 g2 g3 g4 (by omega) (by omega) hk h hI hF
    · exact absurd e1 q1
  · rename_i e1
    obtain ⟨x, y, t, rfl, h9⟩ := am_i2_some h
    replace h := h9
    obtain ⟨hcat, h⟩ := am_bif_some h
    have hcat := Nat.le_of_ble_eq_true hcat
    have hlo2 : ((t.map (am_cv ad)).map fun v => v.category).sum + 13 ≤ R.locals := by rw [am_cat_eq]; omega
    have hml2 : c.maxLocals = LS.size := by rw [hml, hF.1.1]
    have hcr : cells ≤ R.cells ∧ slots ≤ R.slots := by
      have h1 := hm _ _ _ _ h
      obtain ⟨-, -, -, -, -, h9, h10⟩ := hI
      omega
    have go := hk _ _ _ _ h _ _ _ _ _ _ _ hI (am_Fr_st hF (am_ok_c (am_okI _) (am_ok_t (am_ok_t hF.2.2.2))))
    rcases hq with ⟨-, -, -, q1⟩ | ⟨-, g1, g2⟩ | ⟨q1, -⟩ | ⟨mt, -, -, -, -, q1⟩
    · exact absurd e1 q1
    · rcases g2 with ⟨g2, g3, g4, g5⟩ | ⟨g2, g3, g4, g5⟩
      · rw [g2] at go
        exact va_mmax hx hb hml2 hown (hts _ g3) (hts _ g4) (hts _ g1) (hts _ g5) (by omega) hlo2 hcr.1 hcr.2 hd go
      · rw [am_nbf g2] at go
        exact va_mmin hx hb hml2 hown (hts _ g3) (hts _ g4) (hts _ g1) (hts _ g5) (by omega) hlo2 hcr.1 hcr.2 hd go
    · omega
    · exact absurd e1 q1
  · cases h
set_option maxHeartbeats 1000000 in
theorem am_snd_special {idx d : Nat} (hC : am_Cx p s m args meth c X D A rd nm cc nL ow) (hE : am_eP (am_on ow) nm cc ret (pc, .invokespecial idx, n, r, sw)) (hG : am_hG l X D Γ d) (hRd : d + 2 ≤ R.frames ∧ 100 * (d + 2) ≤ R.locals)
    (hk : am_Ks p l e R s m args below meth c X D A rd ad0 σ0 nL Q z k) (h : am_ins Γ X k pc (.invokespecial idx) n r sw ls st σ = some z)
    (hI : am_Inv X D A s rd ad0 σ0 ad cA σ H locs cells slots) (hF : am_Fr σ ad ls st LS nL) (hm : am_hm R σ0 z k) : W p l e R s m args below meth c H locs cells slots Q (F0 m pc LS (st.map (am_cv ad))) := by
  have hC' := hC
  obtain ⟨hx, hb, hml, hown, hts, hlo, hnm, hA, hK, hRO⟩ := hC
  obtain ⟨hd, hn, hq⟩ := hE
  have hn : n = 3 := by
    rcases hn with hn | ⟨_, _, _, _, hn⟩ | ⟨_, _, hn⟩
    · exact hn
    · cases hn
    · cases hn
  dsimp only at hd hq
  subst hn
  simp only [am_ins] at h
  simp only [am_eQ] at hq
  have main : am_rk (st.drop r.2.1) (am_mc r.1) (am_call Γ (fun s σ' => k (pc + 3) ls s σ') r true (r.2.2 % 10) st σ) = some z → (r.2.2 / 10 = 2 ∨ r.2.2 / 10 = 7) → W p l e R s m args below meth c H locs cells slots Q (F0 m pc LS (st.map (am_cv ad))) := by
    intro h hor
    obtain ⟨i1, tl, hdrop, h⟩ := am_rk_some h
    obtain ⟨h1, h2, zc, h3, h4⟩ := am_call_some h
    obtain ⟨t1, t2, t3, t4⟩ := am_take_recv hdrop
    simp only [cond_true] at h1 h2 h3 h4
    rw [t1] at h3
    rw [t2] at h2 h4
    rcases hq with ⟨-, q1, q2⟩ | ⟨q1, -⟩ | ⟨mt, q1, q2, q3, q5, q6, -⟩
    · rcases hor with q | q
      · exact absurd q q1
      · exact absurd q q2
    · omega
    · have hM := hG r.1 _ σ zc mt q1.1 h3
      have hsv : ∀ v ∈ st.take r.2.1 ++ .inr (am_mc r.1, i1) :: tl, am_okv σ v := by rw [← t4]; exact hF.2.2.2
      have hv : am_okq σ (am_mc r.1) i1 := hsv (.inr (am_mc r.1, i1)) (List.mem_append_right _ List.mem_cons_self)
      have hrest : ∀ v ∈ tl, am_okv σ v := fun v hv => hsv v (List.mem_append_right _ (List.mem_cons_of_mem _ hv))
      have hasv : ∀ v ∈ (Sum.inr (am_mc r.1, i1) :: (st.take r.2.1).reverse : List am_V), am_okv σ v := fun v hv2 => by
        rcases List.mem_cons.mp hv2 with rfl | hv2
        · exact hv
        · exact hsv v (List.mem_append_left _ (List.mem_reverse.mp hv2))
      have hmm := am_mono hI hM.1 hM.2.1 (hm _ _ _ _ h4)
      have hstk : st.map (am_cv ad) = (((st.take r.2.1).reverse).map (am_cv ad)).reverse ++ .ref (ad (am_mc r.1) i1) :: tl.map (am_cv ad) := by
        conv => lhs; rw [t4]
        rw [List.map_append, List.map_reverse, List.reverse_reverse]
        rfl
      have hlen : (((st.take r.2.1).reverse).map (am_cv ad)).length = r.2.1 := by rw [List.length_map, List.length_reverse]; exact t3
      have hMet := hM.2.2 A rd ad cA H.size hasv hI.2.2.1 (fun q hq => hA q (Nat.le_trans hI.2.1.1 hq))
      have hroom : 2 * (F0 m pc LS (st.map (am_cv ad))).monitorRoom + ((tl.map (am_cv ad)).map fun v => v.category).sum ≤ 8 := lv_room (by rw [am_cat_eq]; exact h2)
      have hS : CallFix p m c cc nL s args am_tbl (am_on ow) := ⟨hx, hb, hml, hown, hts⟩
      have hpre : PreS s H (am_Pc X D A rd ad cA σ (Sum.inr (am_mc r.1, i1) :: (st.take r.2.1).reverse) H.size) (.ref (ad (am_mc r.1) i1) :: ((st.take r.2.1).reverse).map (am_cv ad)) :=
        ⟨am_Pc_blind, fun U hU hW => am_Pc_of hC' hI hU hW⟩
      rcases hor with hor | hor
      · have hcb := am_cb (kc := zc.2.2.2.2.1 - σ.2.2.2.1) (ks := zc.2.2.2.2.2 - σ.2.2.2.2) hC' hRd q1 (q5 hor)
        rw [q3] at hcb
        exact am_after hM (va_runI hS hMet ⟨hcb, q2, hts _ (by have := q1.2.2.2.2.2.2; exact this)⟩ hpre rfl hlen hF.1.1 hstk hroom hd hmm) hI hF hrest hk h4
      · obtain ⟨host, hl⟩ := q6 hor
        have hcb := am_cbN (kc := zc.2.2.2.2.1 - σ.2.2.2.1) (ks := zc.2.2.2.2.2 - σ.2.2.2.2) hC' hRd q1 hl
        rw [q3] at hcb
        exact am_after hM (va_runIN hS hMet ⟨hcb, q2, hts _ (by have := q1.2.2.2.2.2.2; exact this)⟩ hpre rfl hlen hF.1.1 hstk hroom hd hmm) hI hF hrest hk h4
  split at h
  · rename_i e1
    rcases hq with ⟨q1, -⟩ | ⟨-, g1, g2, g3⟩ | ⟨mt, -, -, -, -, -, q1⟩
    · exact absurd e1 q1
    · obtain ⟨c1, i1, t, rfl, h9⟩ := am_r1_some h
      replace h := h9
      obtain ⟨hcat, h⟩ := am_bif_some h
      have hcat := Nat.le_of_ble_eq_true hcat
      have hroom : 2 * (F0 m pc LS ((Sum.inr (c1, i1) :: t : List am_V).map (am_cv ad))).monitorRoom + ((t.map (am_cv ad)).map fun v => v.category).sum ≤ 8 := lv_room (by rw [am_cat_eq]; exact hcat)
      exact W.objInit hx hb hown (hts _ g1) (hts _ g2) (hts _ g3) rfl (by rw [hml]; exact hF.1.1) rfl hd (by omega) (by omega) (W.eq (g2 := F0 m (pc + 3) LS (t.map (am_cv ad))) rfl (hk _ _ _ _ h _ _ _ _ _ _ _ hI (am_Fr_st hF (am_ok_t hF.2.2.2))))
    · exact absurd e1 q1
  · rename_i e1; exact main h (Or.inl e1)
  · rename_i e1; exact main h (Or.inr e1)
  · cases h

end AMH
