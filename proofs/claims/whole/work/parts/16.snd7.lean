/-! WHAT THE ABSTRACT MACHINE IS WORTH, 7: arrays, statics, constants, switches -/
section AMH
variable {p : Program} {l : Launch} {e : Env} {R : Room} {s : State} {m : MethodId} {args : Array Value} {below : List Frame} {meth : Method} {c : Code} {H : Heap} {locs : List Loc} {cells slots : Nat} {Q : State → Prop}
variable {X : am_X} {D : va_G} {A : Nat → Prop} {rd ad0 ad : Nat → Nat → Nat} {cA : Nat → Nat → ClassId} {σ0 σ : am_S} {nm : String} {cc : ByteArray} {nL ow pc n : Nat} {ret : Option FieldType} {z : Option am_V × am_S}
variable {ls st : List am_V} {LS : Array Slot} {r : Nat × Nat × Nat} {sw : List (Int × Nat)} {Γ : Nat → List am_V → am_S → am_R}
variable {k : Nat → List am_V → List am_V → am_S → am_R}

theorem am_tk_rok : am_tk 200 = 0 ∧ am_tk 201 = 0 ∧ am_tk 202 = 3 ∧ am_tk 203 = 9 ∧ am_tk 204 = 0 ∧ am_tk 205 = 9 := by decide +kernel
theorem am_ro_gs (i j : Nat) : (am_gs X σ 200 i j = am_ro X 200 i j) ∧ (am_gs X σ 201 i j = am_ro X 201 i j) ∧ (am_gs X σ 202 i j = am_ro X 202 i j) ∧ (am_gs X σ 204 i j = am_ro X 204 i j) := ⟨rfl, rfl, rfl, rfl⟩
theorem am_bty (i j : Nat) : am_ro X 202 i j = (am_sbyt.getD i []).getD j 0 ∧ am_len X 202 i = am_slen.getD i 0 ∧ am_ro X 204 i j = X.2 j ∧ am_len X 204 i = X.1 := ⟨rfl, rfl, rfl, rfl⟩
/-- a place of a row of ints -/
theorem am_rd_row {LS : Array Slot} {t : List am_V} {c0 i : Nat} {j : Int32} {n : Nat} (hvo : am_ok σ c0 i) (h1 : am_tk c0 ≠ 1) (h2 : am_tk c0 ≠ 2) (h9 : am_tk c0 ≠ 9) (hW : am_W X D A s ad cA σ H)
    (kk : ∀ (ws : va_W) (k1 : Nat), va_P D am_CL ws H → ws[k1]? = some (ad c0 i, .inl (cA c0 i, am_len X c0 i, .inl (am_gs X σ c0 i))) → (ArrOfT s (cA c0 i) (am_ty c0) ∧ va_RA s (cA c0 i) (am_ty c0)) → W p l e R s m args below meth c H locs cells slots Q (F0 m pc LS (.int j :: .ref (ad c0 i) :: t.map (am_cv ad)))) :
    W p l e R s m args below meth c H locs cells slots Q (F0 m pc LS (.int j :: .ref (ad c0 i) :: t.map (am_cv ad))) := by
  obtain ⟨ws, hP, hD, h3, h4, h5, h6⟩ := hW
  obtain ⟨k1, hk1⟩ := h3 c0 i hvo
  rw [am_cell_row h9, am_row_i h1 h2] at hk1
  exact kk ws k1 hP hk1 (h4 c0 i hvo h9)
set_option maxHeartbeats 1000000 in
theorem am_snd_iaload (hC : am_Cx p s m args meth c X D A rd nm cc nL ow) (hE : am_eP (am_on ow) nm cc ret (pc, .iaload, n, r, sw))
    (hk : am_Ks p l e R s m args below meth c X D A rd ad0 σ0 nL Q z k) (h : am_ins Γ X k pc (.iaload) n r sw ls st σ = some z)
    (hI : am_Inv X D A s rd ad0 σ0 ad cA σ H locs cells slots) (hF : am_Fr σ ad ls st LS nL) : W p l e R s m args below meth c H locs cells slots Q (F0 m pc LS (st.map (am_cv ad))) := by
  obtain ⟨hx, hb, hml, hown, hts, hlo, hnm, hA, hK, hRO⟩ := hC
  obtain ⟨hd, hn, hq⟩ := hE
  have hn : n = 1 := by
    rcases hn with hn | ⟨_, _, _, _, hn⟩ | ⟨_, _, hn⟩
    · exact hn
    · cases hn
    · cases hn
  dsimp only at hd hq
  subst hn
  simp only [am_ins] at h
  simp only [am_eQ] at hq
  obtain ⟨c0, i, j, t, rfl, h9⟩ := am_ri_some h
  replace h := h9
  obtain ⟨htk, h⟩ := am_bif_some h
  have htk := Nat.eq_of_beq_eq_true htk
  obtain ⟨hin, h⟩ := am_ck_some h
  have hv : am_okq σ c0 i := am_ok_t hF.2.2.2 _ List.mem_cons_self
  have go := hk _ _ _ _ h _ _ _ _ _ _ _ hI (am_Fr_st hF (am_ok_c (am_okI _) (am_ok_t (am_ok_t hF.2.2.2))))
  rcases hv with hv | hv
  · have hty := (am_tyF c0 hv.1).1 htk
    refine am_rd_row (n := 1) hv (by rw [htk]; decide) (by rw [htk]; decide) (by rw [htk]; decide) hI.1 fun ws k1 hP hk1 hr => ?_
    rw [hty] at hr
    exact va_iald (tys := [(cA c0 i, .int)]) hx hb (am_tysK hK hr) hP k1 0 hk1 rfl hin hd go
  · obtain ⟨⟨-, ro1⟩, ⟨-, ro2⟩, -, -, -, -, -, -, -, -, ro3, ro4, ro5⟩ := hRO
    have hag := hI.2.2.1 c0 i (by unfold am_rok at hv; omega)
    show W p l e R s m args below meth c H locs cells slots Q (F0 m pc LS (.int j :: .ref (ad c0 i) :: t.map (am_cv ad)))
    rw [hag]
    unfold am_rok at hv
    rcases hv with ⟨hc | hc, hi⟩ | ⟨hc | hc | hc | hc, hi⟩ <;> subst hc
    · exact absurd htk (by rw [am_tk_rok.2.2.1]; decide)
    · exact absurd htk (by rw [am_tk_rok.2.2.2.1]; decide)
    · subst hi; exact am_tld hx hb ro1 hI.2.1 hin hd go
    · subst hi; exact am_tld hx hb ro2 hI.2.1 hin hd go
    · subst hi
      exact va_sld hx hb ro3 ro5 ro4 hI.2.1 hin hd go
    · exact absurd htk (by rw [am_tk_rok.2.2.2.2.2]; decide)

set_option maxHeartbeats 1000000 in
theorem am_snd_baload (hC : am_Cx p s m args meth c X D A rd nm cc nL ow) (hE : am_eP (am_on ow) nm cc ret (pc, .baload, n, r, sw))
    (hk : am_Ks p l e R s m args below meth c X D A rd ad0 σ0 nL Q z k) (h : am_ins Γ X k pc (.baload) n r sw ls st σ = some z)
    (hI : am_Inv X D A s rd ad0 σ0 ad cA σ H locs cells slots) (hF : am_Fr σ ad ls st LS nL) : W p l e R s m args below meth c H locs cells slots Q (F0 m pc LS (st.map (am_cv ad))) := by
  obtain ⟨hx, hb, hml, hown, hts, hlo, hnm, hA, hK, hRO⟩ := hC
  obtain ⟨hd, hn, hq⟩ := hE
  have hn : n = 1 := by
    rcases hn with hn | ⟨_, _, _, _, hn⟩ | ⟨_, _, hn⟩
    · exact hn
    · cases hn
    · cases hn
  dsimp only at hd hq
  subst hn
  simp only [am_ins] at h
  simp only [am_eQ] at hq
  obtain ⟨c0, i, j, t, rfl, h9⟩ := am_ri_some h
  replace h := h9
  obtain ⟨htk, h⟩ := am_bif_some h
  have htk : am_tk c0 = 3 ∨ am_tk c0 = 4 := by
    rcases Bool.or_eq_true_iff.mp htk with q | q
    · exact Or.inl (Nat.eq_of_beq_eq_true q)
    · exact Or.inr (Nat.eq_of_beq_eq_true q)
  obtain ⟨hin, h⟩ := am_ck_some h
  have hv : am_okq σ c0 i := am_ok_t hF.2.2.2 _ List.mem_cons_self
  have go := hk _ _ _ _ h _ _ _ _ _ _ _ hI (am_Fr_st hF (am_ok_c (am_okI _) (am_ok_t (am_ok_t hF.2.2.2))))
  rcases hv with hv | hv
  · refine am_rd_row (n := 1) hv (by rcases htk with q | q <;> rw [q] <;> decide) (by rcases htk with q | q <;> rw [q] <;> decide) (by rcases htk with q | q <;> rw [q] <;> decide) hI.1 fun ws k1 hP hk1 hr => ?_
    rcases htk with htk | htk
    · rw [(am_tyF c0 hv.1).2.1 htk] at hr
      exact va_bald (tys := [(cA c0 i, .byte)]) hx hb (am_tysK hK hr) hP k1 0 hk1 rfl hin hd go
    · rw [(am_tyF c0 hv.1).2.2.1 htk] at hr
      exact va_zald (tys := [(cA c0 i, .boolean)]) hx hb (am_tysK hK hr) hP k1 0 hk1 rfl hin hd go
  · obtain ⟨-, -, -, -, ro, -⟩ := hRO
    have hag := hI.2.2.1 c0 i (by unfold am_rok at hv; omega)
    show W p l e R s m args below meth c H locs cells slots Q (F0 m pc LS (.int j :: .ref (ad c0 i) :: t.map (am_cv ad)))
    rw [hag]
    unfold am_rok at hv
    rcases hv with ⟨hc | hc, hi⟩ | ⟨hc | hc | hc | hc, hi⟩ <;> subst hc
    · obtain ⟨cell, h1, h2, h3, h4, h5, h6, h7⟩ := (ro.1 i hi).2.2.2.kept hI.2.1.2.1
      have hlt : j.toNatClampNeg < am_slen.getD i 0 := Nat.not_le.mp fun q => hin (Or.inr q)
      exact W.bald hx hb h1 h2 h3 (fun q => hin (q.elim Or.inl (fun q => Or.inr (Nat.le_trans h4 q)))) (h6 _ hlt) rfl rfl hd go
    · exact absurd htk (by rw [am_tk_rok.2.2.2.1]; decide)
    · exact absurd htk (by rw [am_tk_rok.1]; decide)
    · exact absurd htk (by rw [am_tk_rok.2.1]; decide)
    · exact absurd htk (by rw [am_tk_rok.2.2.2.2.1]; decide)
    · exact absurd htk (by rw [am_tk_rok.2.2.2.2.2]; decide)

theorem am_rok_tk {c0 i : Nat} (h : am_rok c0 i) : am_tk c0 ≠ 1 ∧ am_tk c0 ≠ 2 := by
  unfold am_rok at h
  rcases h with ⟨hc | hc, hi⟩ | ⟨hc | hc | hc | hc, hi⟩ <;> subst hc <;> decide +kernel
set_option maxHeartbeats 1000000 in
theorem am_snd_laload (hC : am_Cx p s m args meth c X D A rd nm cc nL ow) (hE : am_eP (am_on ow) nm cc ret (pc, .laload, n, r, sw))
    (hk : am_Ks p l e R s m args below meth c X D A rd ad0 σ0 nL Q z k) (h : am_ins Γ X k pc (.laload) n r sw ls st σ = some z)
    (hI : am_Inv X D A s rd ad0 σ0 ad cA σ H locs cells slots) (hF : am_Fr σ ad ls st LS nL) : W p l e R s m args below meth c H locs cells slots Q (F0 m pc LS (st.map (am_cv ad))) := by
  obtain ⟨hx, hb, hml, hown, hts, hlo, hnm, hA, hK, hRO⟩ := hC
  obtain ⟨hd, hn, hq⟩ := hE
  have hn : n = 1 := by
    rcases hn with hn | ⟨_, _, _, _, hn⟩ | ⟨_, _, hn⟩
    · exact hn
    · cases hn
    · cases hn
  dsimp only at hd hq
  subst hn
  simp only [am_ins] at h
  simp only [am_eQ] at hq
  obtain ⟨c0, i, j, t, rfl, h9⟩ := am_ri_some h
  replace h := h9
  obtain ⟨htk, h⟩ := am_bif_some h
  have htk := Nat.eq_of_beq_eq_true htk
  obtain ⟨hin, h⟩ := am_ck_some h
  have hv : am_okq σ c0 i := am_ok_t hF.2.2.2 _ List.mem_cons_self
  have go := hk _ _ _ _ h _ _ _ _ _ _ _ hI (am_Fr_st hF (am_ok_c (am_okJ _) (am_ok_t (am_ok_t hF.2.2.2))))
  rcases hv with hv | hv
  · obtain ⟨ws, hP, hD, h3, h4, h5, h6⟩ := hI.1
    obtain ⟨k1, hk1⟩ := h3 c0 i hv
    have h9 : am_tk c0 ≠ 9 := by omega
    rw [am_cell_row h9, am_row_l htk] at hk1
    have hr := h4 c0 i hv h9
    rw [(am_tyF c0 hv.1).2.2.2.1 htk] at hr
    exact va_lald (tys := [(cA c0 i, .long)]) hx hb (am_tysK hK hr) hP k1 0 hk1 rfl hin hd go
  · exact absurd htk (am_rok_tk hv).1

set_option maxHeartbeats 1000000 in
theorem am_snd_aaload (hC : am_Cx p s m args meth c X D A rd nm cc nL ow) (hE : am_eP (am_on ow) nm cc ret (pc, .aaload, n, r, sw))
    (hk : am_Ks p l e R s m args below meth c X D A rd ad0 σ0 nL Q z k) (h : am_ins Γ X k pc (.aaload) n r sw ls st σ = some z)
    (hI : am_Inv X D A s rd ad0 σ0 ad cA σ H locs cells slots) (hF : am_Fr σ ad ls st LS nL) : W p l e R s m args below meth c H locs cells slots Q (F0 m pc LS (st.map (am_cv ad))) := by
  obtain ⟨hx, hb, hml, hown, hts, hlo, hnm, hA, hK, hRO⟩ := hC
  obtain ⟨hd, hn, hq⟩ := hE
  have hn : n = 1 := by
    rcases hn with hn | ⟨_, _, _, _, hn⟩ | ⟨_, _, hn⟩
    · exact hn
    · cases hn
    · cases hn
  dsimp only at hd hq
  subst hn
  simp only [am_ins] at h
  simp only [am_eQ] at hq
  obtain ⟨c0, i, j, t, rfl, h9⟩ := am_ri_some h
  replace h := h9
  obtain ⟨htk, h⟩ := am_bif_some h
  have htk := Nat.eq_of_beq_eq_true htk
  obtain ⟨hin, h⟩ := am_ck_some h
  have hv : am_okq σ c0 i := am_ok_t hF.2.2.2 _ List.mem_cons_self
  rcases hv with hv | hv
  · have go := hk _ _ _ _ h _ _ _ _ _ _ _ hI (am_Fr_st hF (am_ok_c (am_W_go hI.1 hv) (am_ok_t (am_ok_t hF.2.2.2))))
    rw [List.map_cons, am_cv_rv] at go
    obtain ⟨ws, hP, hD, h3, h4, h5, h6⟩ := hI.1
    obtain ⟨k1, hk1⟩ := h3 c0 i hv
    have h9 : am_tk c0 ≠ 9 := by omega
    rw [am_cell_row h9, am_row_r htk] at hk1
    have hr := h4 c0 i hv h9
    exact am_aldq (tys := [(cA c0 i, am_ty c0)]) hx hb (am_tysK hK hr) hP k1 0 hk1 rfl ((am_tyF c0 hv.1).2.2.2.2.1 htk) hin hd go
  · exact absurd htk (am_rok_tk hv).2

set_option maxHeartbeats 1000000 in
theorem am_snd_arraylength (hC : am_Cx p s m args meth c X D A rd nm cc nL ow) (hE : am_eP (am_on ow) nm cc ret (pc, .arraylength, n, r, sw))
    (hk : am_Ks p l e R s m args below meth c X D A rd ad0 σ0 nL Q z k) (h : am_ins Γ X k pc (.arraylength) n r sw ls st σ = some z)
    (hI : am_Inv X D A s rd ad0 σ0 ad cA σ H locs cells slots) (hF : am_Fr σ ad ls st LS nL) : W p l e R s m args below meth c H locs cells slots Q (F0 m pc LS (st.map (am_cv ad))) := by
  obtain ⟨hx, hb, hml, hown, hts, hlo, hnm, hA, hK, hRO⟩ := hC
  obtain ⟨hd, hn, hq⟩ := hE
  have hn : n = 1 := by
    rcases hn with hn | ⟨_, _, _, _, hn⟩ | ⟨_, _, hn⟩
    · exact hn
    · cases hn
    · cases hn
  dsimp only at hd hq
  subst hn
  simp only [am_ins] at h
  simp only [am_eQ] at hq
  obtain ⟨c0, i, t, rfl, h9⟩ := am_r1_some h
  replace h := h9
  have htk : am_tk c0 ≠ 9 := by
    intro q
    rw [q] at h
    cases h
  rw [am_nbf htk] at h
  replace h : k (pc + 1) ls (am_I (Int32.ofNat (am_len X c0 i)) :: t) σ = some z := h
  have hv : am_okq σ c0 i := hF.2.2.2 _ List.mem_cons_self
  have go := hk _ _ _ _ h _ _ _ _ _ _ _ hI (am_Fr_st hF (am_ok_c (am_okI _) (am_ok_t hF.2.2.2)))
  rcases hv with hv | hv
  · obtain ⟨ws, hP, hD, h3, h4, h5, h6⟩ := hI.1
    obtain ⟨k1, hk1⟩ := h3 c0 i hv
    rw [am_cell_row htk] at hk1
    exact va_alen (tys := [(cA c0 i, am_ty c0)]) hx hb (am_tysK hK (h4 c0 i hv htk)) hP k1 0 hk1 rfl rfl hd go
  · obtain ⟨⟨-, ro1⟩, ⟨-, ro2⟩, -, -, ro6, -, -, -, -, -, ro3, ro4, ro5⟩ := hRO
    have hag := hI.2.2.1 c0 i (by unfold am_rok at hv; omega)
    show W p l e R s m args below meth c H locs cells slots Q (F0 m pc LS (.ref (ad c0 i) :: t.map (am_cv ad)))
    rw [hag]
    unfold am_rok at hv
    rcases hv with ⟨hc | hc, hi⟩ | ⟨hc | hc | hc | hc, hi⟩ <;> subst hc
    · exact va_tlen hx hb (ro6.1 i hi).2.2.2 hI.2.1 rfl hd go
    · exact absurd am_tk_rok.2.2.2.1 htk
    · subst hi; exact va_tlen hx hb ro1 hI.2.1 rfl hd go
    · subst hi; exact va_tlen hx hb ro2 hI.2.1 rfl hd go
    · subst hi; exact va_slen hx hb ro3 ro5 ro4 hI.2.1 hd go
    · exact absurd am_tk_rok.2.2.2.2.2 htk

set_option maxHeartbeats 1000000 in
theorem am_snd_iastore (hC : am_Cx p s m args meth c X D A rd nm cc nL ow) (hE : am_eP (am_on ow) nm cc ret (pc, .iastore, n, r, sw))
    (hk : am_Ks p l e R s m args below meth c X D A rd ad0 σ0 nL Q z k) (h : am_ins Γ X k pc (.iastore) n r sw ls st σ = some z)
    (hI : am_Inv X D A s rd ad0 σ0 ad cA σ H locs cells slots) (hF : am_Fr σ ad ls st LS nL) : W p l e R s m args below meth c H locs cells slots Q (F0 m pc LS (st.map (am_cv ad))) := by
  obtain ⟨hx, hb, hml, hown, hts, hlo, hnm, hA, hK, hRO⟩ := hC
  obtain ⟨hd, hn, hq⟩ := hE
  have hn : n = 1 := by
    rcases hn with hn | ⟨_, _, _, _, hn⟩ | ⟨_, _, hn⟩
    · exact hn
    · cases hn
    · cases hn
  dsimp only at hd hq
  subst hn
  simp only [am_ins] at h
  simp only [am_eQ] at hq
  obtain ⟨c0, i, j, x, t, rfl, h9⟩ := am_iri_some h
  replace h := h9
  obtain ⟨htk, h⟩ := am_bif_some h
  obtain ⟨htk, hc⟩ := am_and_true htk
  have htk := Nat.eq_of_beq_eq_true htk
  have hc := am_blt_lt hc
  obtain ⟨hin, h⟩ := am_ck_some h
  have hv : am_okq σ c0 i := am_ok_t (am_ok_t hF.2.2.2) _ List.mem_cons_self
  have hvo := am_ok_lt hv hc
  have hst := am_ok_t (am_ok_t (am_ok_t hF.2.2.2))
  obtain ⟨ws, hP, hD, h3, h4, h5, h6⟩ := hI.1
  obtain ⟨k1, hk1⟩ := h3 c0 i hvo
  have h9 : am_tk c0 ≠ 9 := by omega
  have hk1' := hk1
  have hr := h4 c0 i hvo h9
  rw [am_cell_row h9, am_row_i (by omega) (by omega)] at hk1'
  rw [(am_tyF c0 hc).1 htk] at hr
  refine va_iast (tys := [(cA c0 i, .int)]) hx hb (am_tysK hK hr) hP hD hI.2.1 k1 0 hk1' rfl hin hd fun H1 locs1 a1 a2 a3 => ?_
  refine am_done_pi hc hvo hI hP hD h3 h4 h5 h6 hk1 ?_ a1 a2 a3 hk h hF hst
  rw [am_cell_row h9, am_row_i (by omega) (by omega), am_upd_pi hc]

set_option maxHeartbeats 1000000 in
theorem am_snd_bastore (hC : am_Cx p s m args meth c X D A rd nm cc nL ow) (hE : am_eP (am_on ow) nm cc ret (pc, .bastore, n, r, sw))
    (hk : am_Ks p l e R s m args below meth c X D A rd ad0 σ0 nL Q z k) (h : am_ins Γ X k pc (.bastore) n r sw ls st σ = some z)
    (hI : am_Inv X D A s rd ad0 σ0 ad cA σ H locs cells slots) (hF : am_Fr σ ad ls st LS nL) : W p l e R s m args below meth c H locs cells slots Q (F0 m pc LS (st.map (am_cv ad))) := by
  obtain ⟨hx, hb, hml, hown, hts, hlo, hnm, hA, hK, hRO⟩ := hC
  obtain ⟨hd, hn, hq⟩ := hE
  have hn : n = 1 := by
    rcases hn with hn | ⟨_, _, _, _, hn⟩ | ⟨_, _, hn⟩
    · exact hn
    · cases hn
    · cases hn
  dsimp only at hd hq
  subst hn
  simp only [am_ins] at h
  simp only [am_eQ] at hq
  obtain ⟨c0, i, j, x, t, rfl, h9⟩ := am_iri_some h
  replace h := h9
  cases hb1 : (Nat.beq (am_tk c0) 3 && Nat.blt c0 200) with
  | true =>
    rw [hb1] at h
    replace h : am_ck j (am_len X c0 i) (k (pc + 1) ls t (am_pi σ c0 i j.toNatClampNeg x.toInt8.toInt32)) = some z := h
    obtain ⟨htk, hc⟩ := am_and_true hb1
    have htk := Nat.eq_of_beq_eq_true htk
    have hc := am_blt_lt hc
    obtain ⟨hin, h⟩ := am_ck_some h
    have hv : am_okq σ c0 i := am_ok_t (am_ok_t hF.2.2.2) _ List.mem_cons_self
    have hvo := am_ok_lt hv hc
    have hst := am_ok_t (am_ok_t (am_ok_t hF.2.2.2))
    obtain ⟨ws, hP, hD, h3, h4, h5, h6⟩ := hI.1
    obtain ⟨k1, hk1⟩ := h3 c0 i hvo
    have h9 : am_tk c0 ≠ 9 := by omega
    have hk1' := hk1
    have hr := h4 c0 i hvo h9
    rw [am_cell_row h9, am_row_i (by omega) (by omega)] at hk1'
    rw [(am_tyF c0 hc).2.1 htk] at hr
    refine va_bast (tys := [(cA c0 i, .byte)]) hx hb (am_tysK hK hr) hP hD hI.2.1 k1 0 hk1' rfl hin hd fun H1 locs1 a1 a2 a3 => ?_
    rw [am_nar_byte] at a1 a2
    refine am_done_pi hc hvo hI hP hD h3 h4 h5 h6 hk1 ?_ a1 a2 a3 hk h hF hst
    rw [am_cell_row h9, am_row_i (by omega) (by omega), am_upd_pi hc]
  | false =>
    rw [hb1] at h
    obtain ⟨htk, h⟩ := am_bif_some (show (bif Nat.beq (am_tk c0) 4 && Nat.blt c0 200 then am_ck j (am_len X c0 i) (am_bk x (k (pc + 1) ls t (am_pi σ c0 i j.toNatClampNeg x))) else none) = some z from h)
    obtain ⟨htk, hc⟩ := am_and_true htk
    have htk := Nat.eq_of_beq_eq_true htk
    have hc := am_blt_lt hc
    obtain ⟨hin, h⟩ := am_ck_some h
    obtain ⟨h01, h⟩ := am_bk_some h
    have hv : am_okq σ c0 i := am_ok_t (am_ok_t hF.2.2.2) _ List.mem_cons_self
    have hvo := am_ok_lt hv hc
    have hst := am_ok_t (am_ok_t (am_ok_t hF.2.2.2))
    obtain ⟨ws, hP, hD, h3, h4, h5, h6⟩ := hI.1
    obtain ⟨k1, hk1⟩ := h3 c0 i hvo
    have h9 : am_tk c0 ≠ 9 := by omega
    have hk1' := hk1
    have hr := h4 c0 i hvo h9
    rw [am_cell_row h9, am_row_i (by omega) (by omega)] at hk1'
    rw [(am_tyF c0 hc).2.2.1 htk] at hr
    refine va_zast (tys := [(cA c0 i, .boolean)]) hx hb (am_tysK hK hr) hP hD hI.2.1 k1 0 hk1' rfl hin hd fun H1 locs1 a1 a2 a3 => ?_
    rw [(am_fit_b h01).2.2] at a1 a2
    refine am_done_pi hc hvo hI hP hD h3 h4 h5 h6 hk1 ?_ a1 a2 a3 hk h hF hst
    rw [am_cell_row h9, am_row_i (by omega) (by omega), am_upd_pi hc]

set_option maxHeartbeats 1000000 in
theorem am_snd_lastore (hC : am_Cx p s m args meth c X D A rd nm cc nL ow) (hE : am_eP (am_on ow) nm cc ret (pc, .lastore, n, r, sw))
    (hk : am_Ks p l e R s m args below meth c X D A rd ad0 σ0 nL Q z k) (h : am_ins Γ X k pc (.lastore) n r sw ls st σ = some z)
    (hI : am_Inv X D A s rd ad0 σ0 ad cA σ H locs cells slots) (hF : am_Fr σ ad ls st LS nL) : W p l e R s m args below meth c H locs cells slots Q (F0 m pc LS (st.map (am_cv ad))) := by
  obtain ⟨hx, hb, hml, hown, hts, hlo, hnm, hA, hK, hRO⟩ := hC
  obtain ⟨hd, hn, hq⟩ := hE
  have hn : n = 1 := by
    rcases hn with hn | ⟨_, _, _, _, hn⟩ | ⟨_, _, hn⟩
    · exact hn
    · cases hn
    · cases hn
  dsimp only at hd hq
  subst hn
  simp only [am_ins] at h
  simp only [am_eQ] at hq
  obtain ⟨c0, i, j, x, t, rfl, h9⟩ := am_jri_some h
  replace h := h9
  obtain ⟨htk, h⟩ := am_bif_some h
  obtain ⟨htk, hc⟩ := am_and_true htk
  have htk := Nat.eq_of_beq_eq_true htk
  have hc := am_blt_lt hc
  obtain ⟨hin, h⟩ := am_ck_some h
  have hv : am_okq σ c0 i := am_ok_t (am_ok_t hF.2.2.2) _ List.mem_cons_self
  have hvo := am_ok_lt hv hc
  have hst := am_ok_t (am_ok_t (am_ok_t hF.2.2.2))
  obtain ⟨ws, hP, hD, h3, h4, h5, h6⟩ := hI.1
  obtain ⟨k1, hk1⟩ := h3 c0 i hvo
  have h9 : am_tk c0 ≠ 9 := by omega
  have hk1' := hk1
  have hr := h4 c0 i hvo h9
  rw [am_cell_row h9, am_row_l htk] at hk1'
  rw [(am_tyF c0 hc).2.2.2.1 htk] at hr
  refine va_last (tys := [(cA c0 i, .long)]) hx hb (am_tysK hK hr) hP hD hI.2.1 k1 0 hk1' rfl hin hd fun H1 locs1 a1 a2 a3 => ?_
  refine am_done_pl hvo hI hP hD h3 h4 h5 h6 hk1 ?_ a1 a2 a3 hk h hF hst
  rw [am_cell_row h9, am_row_l htk, am_upd_pl]

set_option maxHeartbeats 1000000 in
theorem am_snd_aastore (hC : am_Cx p s m args meth c X D A rd nm cc nL ow) (hE : am_eP (am_on ow) nm cc ret (pc, .aastore, n, r, sw))
    (hk : am_Ks p l e R s m args below meth c X D A rd ad0 σ0 nL Q z k) (h : am_ins Γ X k pc (.aastore) n r sw ls st σ = some z)
    (hI : am_Inv X D A s rd ad0 σ0 ad cA σ H locs cells slots) (hF : am_Fr σ ad ls st LS nL) : W p l e R s m args below meth c H locs cells slots Q (F0 m pc LS (st.map (am_cv ad))) := by
  obtain ⟨hx, hb, hml, hown, hts, hlo, hnm, hA, hK, hRO⟩ := hC
  obtain ⟨hd, hn, hq⟩ := hE
  have hn : n = 1 := by
    rcases hn with hn | ⟨_, _, _, _, hn⟩ | ⟨_, _, hn⟩
    · exact hn
    · cases hn
    · cases hn
  dsimp only at hd hq
  subst hn
  simp only [am_ins] at h
  simp only [am_eQ] at hq
  obtain ⟨c0, i, j, c2, i2, t, rfl, h9⟩ := am_rri_some h
  replace h := h9
  obtain ⟨htk, h⟩ := am_bif_some h
  obtain ⟨htk, hc⟩ := am_and_true htk
  obtain ⟨hc, hec⟩ := am_and_true hc
  have htk := Nat.eq_of_beq_eq_true htk
  have hec := Nat.eq_of_beq_eq_true hec
  have hc := am_blt_lt hc
  obtain ⟨hin, h⟩ := am_ck_some h
  have hv : am_okq σ c0 i := am_ok_t (am_ok_t hF.2.2.2) _ List.mem_cons_self
  have hvo := am_ok_lt hv hc
  have hst := am_ok_t (am_ok_t (am_ok_t hF.2.2.2))
  obtain ⟨ws, hP, hD, h3, h4, h5, h6⟩ := hI.1
  obtain ⟨k1, hk1⟩ := h3 c0 i hvo
  have h9 : am_tk c0 ≠ 9 := by omega
  have hk1' := hk1
  have hr := h4 c0 i hvo h9
  have hc2 : c2 < 200 := by
    rcases (hF.2.2.2 _ List.mem_cons_self : am_okq σ c2 i2) with q | q
    · exact q.1
    · rw [← hec] at q
      exfalso
      have : ∀ c0, c0 < 200 → am_tk c0 = 2 → am_ec c0 < 200 ∨ am_ec c0 = 999 := by decide +kernel
      unfold am_rok at q
      rcases this c0 hc htk with g | g <;> omega
  have hv2 : am_ok σ c2 i2 := am_ok_lt (hF.2.2.2 _ List.mem_cons_self : am_okq σ c2 i2) hc2
  obtain ⟨k2, hk2⟩ := h3 c2 i2 hv2
  obtain ⟨g1, g2, g3⟩ := (am_tyF c0 hc).2.2.2.2.2 htk (by rw [hec]; exact hc2)
  rw [hec] at g1 g2 g3
  rw [am_cell_obj g1] at hk2
  rw [am_cell_row h9, am_row_r htk] at hk1'
  rw [g3] at hr
  refine va_astq (tys := [(cA c0 i, .object (am_k c2).1)]) (r := am_k c2) hx hb (am_tysK hK hr) hP hD hI.2.1 k1 0 k2 (am_ci c2) hk1' rfl hk2 (am_kOf g2) hin hd fun H1 locs1 a1 a2 a3 => ?_
  refine am_done_po (x := (c2, i2)) hc hvo hv2 hI hP hD h3 h4 h5 h6 hk1 ?_ a1 a2 a3 hk h hF hst
  rw [am_cell_row h9, am_row_r htk, am_upd_po hc _ (c2, i2)]

set_option maxHeartbeats 1000000 in
theorem am_snd_getstatic {idx : Nat} (hC : am_Cx p s m args meth c X D A rd nm cc nL ow) (hE : am_eP (am_on ow) nm cc ret (pc, .getstatic idx, n, r, sw))
    (hk : am_Ks p l e R s m args below meth c X D A rd ad0 σ0 nL Q z k) (h : am_ins Γ X k pc (.getstatic idx) n r sw ls st σ = some z)
    (hI : am_Inv X D A s rd ad0 σ0 ad cA σ H locs cells slots) (hF : am_Fr σ ad ls st LS nL) : W p l e R s m args below meth c H locs cells slots Q (F0 m pc LS (st.map (am_cv ad))) := by
  obtain ⟨hx, hb, hml, hown, hts, hlo, hnm, hA, hK, hRO⟩ := hC
  obtain ⟨hd, hn, hq⟩ := hE
  have hn : n = 3 := by
    rcases hn with hn | ⟨_, _, _, _, hn⟩ | ⟨_, _, hn⟩
    · exact hn
    · cases hn
    · cases hn
  dsimp only at hd hq
  subst hn
  simp only [am_ins] at h
  simp only [am_eQ] at hq
  have hok := hF.2.2.2
  obtain ⟨⟨a1, -⟩, ⟨b1, -⟩, c1, d1, -, -, -, nF, -⟩ := hRO
  rcases hq with ⟨rfl, hl⟩ | ⟨rfl, hl⟩ | ⟨rfl, hl⟩ | ⟨rfl, hl⟩ | ⟨g1, g2⟩
  · exact va_gets hx hb c1 hI.2.1 hown (hts _ hl) (fun x h => h) hd (hk _ _ _ _ h _ _ _ _ _ _ _ hI (am_Fr_st hF (am_ok_c (am_okI _) hok)))
  · have hv : am_okv σ (am_fm X) := by
      unfold am_fm
      split
      · trivial
      · exact Or.inr (by unfold am_rok; dsimp only; omega)
    have ev : am_cv ad (am_fm X) = am_cv rd (am_fm X) := by
      unfold am_fm
      split
      · rfl
      · show Value.ref (ad 205 0) = Value.ref (rd 205 0)
        rw [hI.2.2.1 205 0 (by omega)]
    have go := hk _ _ _ _ h _ _ _ _ _ _ _ hI (am_Fr_st hF (am_ok_c hv hok))
    change W p l e R s m args below meth c H locs cells slots Q (F0 m (pc + 3) LS (am_cv ad (am_fm X) :: st.map (am_cv ad))) at go
    rw [ev] at go
    exact va_gets hx hb d1 hI.2.1 hown (hts _ hl) (fun x h => h) hd go
  · have go := hk _ _ _ _ h _ _ _ _ _ _ _ hI (am_Fr_st hF (am_ok_c (Or.inr (by unfold am_rok; dsimp only; omega) : am_okv σ (.inr (200, 0))) hok))
    change W p l e R s m args below meth c H locs cells slots Q (F0 m (pc + 3) LS (.ref (ad 200 0) :: st.map (am_cv ad))) at go
    rw [hI.2.2.1 200 0 (by omega)] at go
    rcases hl with hl | ⟨host, hl⟩
    · exact va_gets hx hb a1 hI.2.1 hown (hts _ hl) (fun x h => h) hd go
    · exact va_getsN hx hb a1 hI.2.1 hown (va_Nw.use rfl (nF _ hl)) (fun x h => h) hd go
  · have go := hk _ _ _ _ h _ _ _ _ _ _ _ hI (am_Fr_st hF (am_ok_c (Or.inr (by unfold am_rok; dsimp only; omega) : am_okv σ (.inr (201, 0))) hok))
    change W p l e R s m args below meth c H locs cells slots Q (F0 m (pc + 3) LS (.ref (ad 201 0) :: st.map (am_cv ad))) at go
    rw [hI.2.2.1 201 0 (by omega)] at go
    exact va_gets hx hb b1 hI.2.1 hown (hts _ hl) (fun x h => h) hd go
  · split at h
    · rename_i q; exact absurd q g1
    · rename_i q; exact absurd q g2
    · cases h

set_option maxHeartbeats 1000000 in
theorem am_snd_ldc {idx : Nat} (hC : am_Cx p s m args meth c X D A rd nm cc nL ow) (hE : am_eP (am_on ow) nm cc ret (pc, .ldc idx, n, r, sw))
    (hk : am_Ks p l e R s m args below meth c X D A rd ad0 σ0 nL Q z k) (h : am_ins Γ X k pc (.ldc idx) n r sw ls st σ = some z)
    (hI : am_Inv X D A s rd ad0 σ0 ad cA σ H locs cells slots) (hF : am_Fr σ ad ls st LS nL) : W p l e R s m args below meth c H locs cells slots Q (F0 m pc LS (st.map (am_cv ad))) := by
  obtain ⟨hx, hb, hml, hown, hts, hlo, hnm, hA, hK, hRO⟩ := hC
  obtain ⟨hd, hn, hq⟩ := hE
  have hn : n = 2 := by
    rcases hn with hn | ⟨_, _, _, _, hn⟩ | ⟨_, _, hn⟩
    · exact hn
    · cases hn
    · cases hn
  dsimp only at hd hq
  subst hn
  simp only [am_ins] at h
  simp only [am_eQ] at hq
  obtain ⟨q1, q2⟩ := hq
  split at h
  · rename_i er
    exact lv_ldc hx hb hown (hts _ (q1 er)) hd (hk _ _ _ _ h _ _ _ _ _ _ _ hI (am_Fr_st hF (am_ok_c (am_okI _) hF.2.2.2)))
  · rename_i er
    obtain ⟨e1, e2, tx, e3⟩ := q2 er
    have go := hk _ _ _ _ h _ _ _ _ _ _ _ hI (am_Fr_st hF (am_ok_c (Or.inr (by unfold am_rok; dsimp only; omega) : am_okv σ (.inr (r.1, r.2.1))) hF.2.2.2))
    change W p l e R s m args below meth c H locs cells slots Q (F0 m (pc + 2) LS (.ref (ad r.1 r.2.1) :: st.map (am_cv ad))) at go
    rw [hI.2.2.1 r.1 r.2.1 (by omega), e1] at go
    obtain ⟨-, -, -, -, -, ro, -⟩ := hRO
    exact va_ldcS hx hb hown (ro _ e3) hd go
  · cases h

set_option maxHeartbeats 1000000 in
theorem am_snd_ldcw {idx : Nat} (hC : am_Cx p s m args meth c X D A rd nm cc nL ow) (hE : am_eP (am_on ow) nm cc ret (pc, .ldc_w idx, n, r, sw))
    (hk : am_Ks p l e R s m args below meth c X D A rd ad0 σ0 nL Q z k) (h : am_ins Γ X k pc (.ldc_w idx) n r sw ls st σ = some z)
    (hI : am_Inv X D A s rd ad0 σ0 ad cA σ H locs cells slots) (hF : am_Fr σ ad ls st LS nL) : W p l e R s m args below meth c H locs cells slots Q (F0 m pc LS (st.map (am_cv ad))) := by
  obtain ⟨hx, hb, hml, hown, hts, hlo, hnm, hA, hK, hRO⟩ := hC
  obtain ⟨hd, hn, hq⟩ := hE
  have hn : n = 3 := by
    rcases hn with hn | ⟨_, _, _, _, hn⟩ | ⟨_, _, hn⟩
    · exact hn
    · cases hn
    · cases hn
  dsimp only at hd hq
  subst hn
  simp only [am_ins] at h
  simp only [am_eQ] at hq
  split at h
  · rename_i er
    have go := hk _ _ _ _ h _ _ _ _ _ _ _ hI (am_Fr_st hF (am_ok_c (am_okI _) hF.2.2.2))
    intro T hT Xs
    obtain ⟨t, a1, b1⟩ := go T hT Xs
    exact ⟨t, va_ldcwI Xs hx hown (hts _ (hq er)) (g := F0 m pc LS (st.map (am_cv ad))) rfl (by rw [hb]; exact hd) t a1, b1⟩
  · cases h

theorem am_ofInt_toInt {v : Int} (h1 : -2147483648 ≤ v) (h2 : v < 2147483648) : (Int32.ofInt v).toInt = v := by
  exact Int32.toInt_ofInt_of_le (by omega) (by omega)
set_option maxHeartbeats 1000000 in
theorem am_snd_tableswitch {d lo hi : Int} {offs : Array Int} (hC : am_Cx p s m args meth c X D A rd nm cc nL ow) (hE : am_eP (am_on ow) nm cc ret (pc, .tableswitch d lo hi offs, n, r, sw))
    (hk : am_Ks p l e R s m args below meth c X D A rd ad0 σ0 nL Q z k) (h : am_ins Γ X k pc (.tableswitch d lo hi offs) n r sw ls st σ = some z)
    (hI : am_Inv X D A s rd ad0 σ0 ad cA σ H locs cells slots) (hF : am_Fr σ ad ls st LS nL) : W p l e R s m args below meth c H locs cells slots Q (F0 m pc LS (st.map (am_cv ad))) := by
  obtain ⟨hx, hb, hml, hown, hts, hlo, hnm, hA, hK, hRO⟩ := hC
  obtain ⟨hd, -, hq⟩ := hE
  dsimp only at hd hq
  simp only [am_ins] at h
  simp only [am_eQ] at hq
  obtain ⟨q1, q2, q3, q4, q5, q6⟩ := hq
  obtain ⟨x, t, rfl, h9⟩ := am_i1_some h
  replace h := h9
  have hs := am_ok_t hF.2.2.2
  rcases am_sw_some h with ⟨k1, v, tg, g1, g2, -, g4⟩ | ⟨g1, g2⟩
  · have hkl : k1 < offs.size := by rw [← q5]; exact (List.getElem?_eq_some_iff.mp g1).1
    obtain ⟨of, t2, f1, f2, f3⟩ := q6 k1 hkl
    rw [g1] at f2
    cases f2
    have hxi : x.toInt = lo + (k1 : Int) := by rw [g2]; exact am_ofInt_toInt (by omega) (by omega)
    exact lv_tableIn hx hb hd (by omega) (by omega) (by rw [hxi, show (lo + (k1 : Int) - lo).toNat = k1 by omega]; exact f1) f3 (hk _ _ _ _ g4 _ _ _ _ _ _ _ hI (am_Fr_st hF hs))
  · refine lv_tableOut hx hb hd ?_ q1 (hk _ _ _ _ g2 _ _ _ _ _ _ _ hI (am_Fr_st hF hs))
    apply Classical.byContradiction
    intro hn
    have hlo : ¬ x.toInt < lo := fun q => hn (Or.inl q)
    have hhi : ¬ hi < x.toInt := fun q => hn (Or.inr q)
    obtain ⟨of, t2, f1, f2, f3⟩ := q6 (x.toInt - lo).toNat (by omega)
    refine g1 _ _ _ f2 ?_
    rw [show lo + (((x.toInt - lo).toNat : Nat) : Int) = x.toInt by omega]
    exact (Int32.ofInt_toInt _).symm
set_option maxHeartbeats 1000000 in
theorem am_snd_lookupswitch {d : Int} {ps : Array (Int × Int)} (hC : am_Cx p s m args meth c X D A rd nm cc nL ow) (hE : am_eP (am_on ow) nm cc ret (pc, .lookupswitch d ps, n, r, sw))
    (hk : am_Ks p l e R s m args below meth c X D A rd ad0 σ0 nL Q z k) (h : am_ins Γ X k pc (.lookupswitch d ps) n r sw ls st σ = some z)
    (hI : am_Inv X D A s rd ad0 σ0 ad cA σ H locs cells slots) (hF : am_Fr σ ad ls st LS nL) : W p l e R s m args below meth c H locs cells slots Q (F0 m pc LS (st.map (am_cv ad))) := by
  obtain ⟨hx, hb, hml, hown, hts, hlo, hnm, hA, hK, hRO⟩ := hC
  obtain ⟨hd, -, hq⟩ := hE
  dsimp only at hd hq
  simp only [am_ins] at h
  simp only [am_eQ] at hq
  obtain ⟨q1, q2, q3, q4⟩ := hq
  obtain ⟨x, t, rfl, h9⟩ := am_i1_some h
  replace h := h9
  have hs := am_ok_t hF.2.2.2
  have hoff : ∀ (l : List (Int × Int)), (∀ q ∈ l, ¬ x.toInt = q.1) → Op.lookupswitch.offset l d x.toInt = d := by
    intro l
    induction l with
    | nil => intro _; simp [Op.lookupswitch.offset]
    | cons a r ih =>
      intro hl
      have h1 := ih (fun q hq => hl q (List.mem_cons_of_mem _ hq))
      have h0 := hl a List.mem_cons_self
      obtain ⟨a1, a2⟩ := a
      unfold Op.lookupswitch.offset
      rw [if_neg (fun q => h0 q.symm)]
      exact h1
  have hoff2 : ∀ (l : List (Int × Int)) (k1 : Nat) (q : Int × Int), l[k1]? = some q → x.toInt = q.1 → (∀ (k2 : Nat) (w : Int × Int), k2 < k1 → l[k2]? = some w → ¬ x.toInt = w.1) → Op.lookupswitch.offset l d x.toInt = q.2 := by
    intro l
    induction l with
    | nil => intro k1 q hq; simp at hq
    | cons a r ih =>
      intro k1 q hq he hb
      cases k1 with
      | zero =>
        simp at hq
        subst hq
        obtain ⟨a1, a2⟩ := a
        unfold Op.lookupswitch.offset
        rw [if_pos he.symm]
      | succ k1 =>
        have h0 := hb 0 a (by omega) rfl
        have h1 := ih k1 q (by simpa using hq) he (fun k2 w hk2 hw => hb (k2 + 1) w (by omega) (by simpa using hw))
        obtain ⟨a1, a2⟩ := a
        unfold Op.lookupswitch.offset
        rw [if_neg (fun q => h0 q.symm)]
        exact h1
  rcases am_sw_some h with ⟨k1, v, tg, g1, g2, g3, g4⟩ | ⟨g1, g2⟩
  · have hkl : k1 < ps.toList.length := by rw [← q3]; exact (List.getElem?_eq_some_iff.mp g1).1
    obtain ⟨w, hw⟩ : ∃ w, ps.toList[k1]? = some w := ⟨_, List.getElem?_eq_getElem hkl⟩
    obtain ⟨f1, f2, t2, f3, f4⟩ := q4 k1 w hw
    rw [g1] at f3
    cases f3
    refine lv_lookup hx hb hd q2 (hoff2 _ k1 w hw (by rw [g2]; exact am_ofInt_toInt f1 f2) ?_) f4 (hk _ _ _ _ g4 _ _ _ _ _ _ _ hI (am_Fr_st hF hs))
    intro k2 w2 hk2 hw2 he
    obtain ⟨e1, e2, t3, e3, e4⟩ := q4 k2 w2 hw2
    exact g3 k2 _ _ hk2 e3 (by rw [← he]; exact (Int32.ofInt_toInt _).symm)
  · refine lv_lookup hx hb hd q2 (hoff _ ?_) q1 (hk _ _ _ _ g2 _ _ _ _ _ _ _ hI (am_Fr_st hF hs))
    intro w hw he
    obtain ⟨k2, hk2⟩ := List.mem_iff_getElem?.mp hw
    obtain ⟨e1, e2, t3, e3, e4⟩ := q4 k2 w hk2
    exact g1 k2 _ _ e3 (by rw [← he]; exact (Int32.ofInt_toInt _).symm)

end AMH
