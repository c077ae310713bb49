/-! WHAT THE ABSTRACT MACHINE IS WORTH, 5: instructions that read or write made things -/
section AMH
variable {p : Program} {l : Launch} {e : Env} {R : Room} {s : State} {m : MethodId} {args : Array Value} {below : List Frame} {meth : Method} {c : Code} {H : Heap} {locs : List Loc} {cells slots : Nat} {Q : State → Prop}
variable {X : am_X} {D : va_G} {A : Nat → Prop} {rd ad0 ad : Nat → Nat → Nat} {cA : Nat → Nat → ClassId} {σ0 σ : am_S} {nm : String} {cc : ByteArray} {nL ow pc n : Nat} {ret : Option FieldType} {z : Option am_V × am_S}
variable {ls st : List am_V} {LS : Array Slot} {r : Nat × Nat × Nat} {sw : List (Int × Nat)} {Γ : Nat → List am_V → am_S → am_R}
variable {k : Nat → List am_V → List am_V → am_S → am_R}
theorem am_tysK (hK : va_K D am_CL [] s) {a : ClassId} {ty : FieldType} (h : ArrOfT s a ty ∧ va_RA s a ty) : va_K D am_CL [(a, ty)] s := by
  refine ⟨hK.1, fun k q hq => ?_⟩
  cases k with
  | zero => cases hq; exact h
  | succ k => simp at hq
theorem am_ok_lt {c0 i : Nat} (h : am_okq σ c0 i) (hc : c0 < 200) : am_ok σ c0 i := by
  rcases h with h | h
  · exact h
  · unfold am_rok at h; omega
theorem am_cell_obj {c0 i : Nat} (h : am_tk c0 = 9) : am_cell X ad cA σ c0 i = .inr (am_ci c0, am_obj X ad σ c0 i) := by
  unfold am_cell; rw [h]; rfl
theorem am_cell_row {c0 i : Nat} (h : am_tk c0 ≠ 9) : am_cell X ad cA σ c0 i = .inl (cA c0 i, am_row X ad σ c0 i) := by
  unfold am_cell; rw [am_nbf h]; rfl
theorem am_row_i {c0 i : Nat} (h1 : am_tk c0 ≠ 1) (h2 : am_tk c0 ≠ 2) : am_row X ad σ c0 i = (am_len X c0 i, .inl (am_gs X σ c0 i)) := by
  unfold am_row
  split
  · rename_i q; exact absurd q h1
  · rename_i q; exact absurd q h2
  · rfl
theorem am_row_l {c0 i : Nat} (h : am_tk c0 = 1) : am_row X ad σ c0 i = (am_len X c0 i, .inr (.inl (am_gl σ c0 i))) := by
  unfold am_row; rw [h]; rfl
theorem am_row_r {c0 i : Nat} (h : am_tk c0 = 2) : am_row X ad σ c0 i = (am_len X c0 i, .inr (.inr (.inr (.inr fun j => am_rf ad (am_go σ c0 i j))))) := by
  unfold am_row; rw [h]; rfl
/-- references of any kind of array -/
theorem am_aldq {ws : va_W} {tys : List (ClassId × FieldType)} {LS : Array Slot} {rest : List Value} {a : Nat} (hexec : p.tables.exec = Jvm.exec) (hb : c.code = cc) (hK : va_K D am_CL tys s) (hP : va_P D am_CL ws H) (q0 t0 : Nat) {a0 : ClassId} {ty : FieldType} {n : Nat} {f : Nat → Option Nat} (ha : ws[q0]? = some (a, .inl (a0, n, .inr (.inr (.inr (.inr f)))))) (ht : tys[t0]? = some (a0, ty)) (hr : ty.isReference = true) {i : Int32} (hin : vp_in i n) (hdg : decode cc pc = .ok (.aaload, 1))
    (kk : W p l e R s m args below meth c H locs cells slots Q (F0 m (pc + 1) LS (va_rf (f i.toNatClampNeg) :: rest))) : W p l e R s m args below meth c H locs cells slots Q (F0 m pc LS (.int i :: .ref a :: rest)) := by
  have hlt : i.toNatClampNeg < n := Nat.not_le.mp fun q => hin (Or.inr q)
  exact W.aald (v := va_rf (f i.toNatClampNeg)) (ty := ty) hexec hb (hP q0 _ ha) ((hK.2 t0 _ ht).1 n (fun j => va_rf (f j))) hr (fun q => by cases q) (by show ¬ (i < 0 ∨ (arrV _ _ _).slots.size ≤ _); rw [arrV_size]; exact hin) (by show (arrV _ _ _).slots[_]? = _; rw [arrV_read _ _ hlt]) rfl rfl hdg kk
/-- a place of an array of ints that was there before -/
theorem am_tld {LS : Array Slot} {rest : List Value} {t N : Nat} {f : Nat → Int32} (hx : p.tables.exec = Jvm.exec) (hb : c.code = cc) (hT : va_T .int t N (fun j => .int (f j)) A s s.heap) (hS : va_S A s.heap H locs) {i : Int32} (hin : vp_in i N) (hdg : decode cc pc = .ok (.iaload, 1))
    (kk : W p l e R s m args below meth c H locs cells slots Q (F0 m (pc + 1) LS (.int (f i.toNatClampNeg) :: rest))) : W p l e R s m args below meth c H locs cells slots Q (F0 m pc LS (.int i :: .ref t :: rest)) := by
  obtain ⟨cell, h1, h2, h3, h4, h5, h6, h7⟩ := hT.kept hS.2.1
  have hlt : i.toNatClampNeg < N := Nat.not_le.mp fun q => hin (Or.inr q)
  exact W.iald hx hb h1 h2 h3 (fun q => hin (q.elim Or.inl (fun q => Or.inr (Nat.le_trans h4 q)))) (h6 _ hlt) rfl rfl hdg kk
theorem am_tyF : ∀ c0, c0 < 200 → (am_tk c0 = 0 → am_ty c0 = .int) ∧ (am_tk c0 = 3 → am_ty c0 = .byte) ∧ (am_tk c0 = 4 → am_ty c0 = .boolean) ∧ (am_tk c0 = 1 → am_ty c0 = .long) ∧ (am_tk c0 = 2 → (am_ty c0).isReference = true) ∧ (am_tk c0 = 2 → am_ec c0 < 200 → am_tk (am_ec c0) = 9 ∧ am_ci (am_ec c0) < 11 ∧ am_ty c0 = .object (am_k (am_ec c0)).1) := by decide +kernel
theorem am_kOf {c0 : Nat} (h : am_ci c0 < 11) : am_CL[am_ci c0]? = some (am_k c0) := by
  have h2 : am_ci c0 < am_CL.length := h
  unfold am_k
  rw [List.getD_eq_getElem?_getD, List.getElem?_eq_getElem h2]
  rfl
theorem am_fv_l {c0 i j : Nat} (h : am_fk c0 j = 1) : am_fv X ad σ c0 i j = .long (am_gl σ c0 i j) := by
  unfold am_fv; rw [h]; rfl
theorem am_fv_r {c0 i j : Nat} (h : am_fk c0 j = 2) : am_fv X ad σ c0 i j = va_rf (am_rf ad (am_go σ c0 i j)) := by
  unfold am_fv; rw [h]; rfl
theorem am_fv_i {c0 i j : Nat} (h1 : am_fk c0 j ≠ 1) (h2 : am_fk c0 j ≠ 2) : am_fv X ad σ c0 i j = .int (am_gs X σ c0 i j) := by
  unfold am_fv
  split
  · rename_i q; exact absurd q h1
  · rename_i q; exact absurd q h2
  · rfl
theorem am_W_go (hW : am_W X D A s ad cA σ H) {c0 i j : Nat} (hv : am_ok σ c0 i) : am_okv σ (am_rv (am_go σ c0 i j)) := by
  obtain ⟨ws, -, -, -, -, -, h6⟩ := hW
  cases hg : am_go σ c0 i j with
  | none => trivial
  | some q => exact Or.inl (h6 c0 i j q hv hg)
theorem am_obj_at {c0 i j : Nat} (hj : j < am_nf c0) : (am_obj X ad σ c0 i)[j]? = some (am_fv X ad σ c0 i j) := by
  unfold am_obj; simp [hj]
set_option maxHeartbeats 1000000 in
theorem am_snd_getfield {idx : Nat} (hC : am_Cx p s m args meth c X D A rd nm cc nL ow) (hE : am_eP (am_on ow) nm cc ret (pc, .getfield idx, n, r, sw))
    (hk : am_Ks p l e R s m args below meth c X D A rd ad0 σ0 nL Q z k) (h : am_ins Γ X k pc (.getfield idx) n r sw ls st σ = some z)
    (hI : am_Inv X D A s rd ad0 σ0 ad cA σ H locs cells slots) (hF : am_Fr σ ad ls st LS nL) : W p l e R s m args below meth c H locs cells slots Q (F0 m pc LS (st.map (am_cv ad))) := by
  obtain ⟨hx, hb, hml, hown, hts, hlo, hnm, hA, hK, hRO⟩ := hC
  obtain ⟨hd, hn, hq⟩ := hE
  have hn : n = 3 := by
    rcases hn with hn | ⟨_, _, _, _, hn⟩ | ⟨_, _, hn⟩
    · exact hn
    · cases hn
    · cases hn
  dsimp only at hd hq
  subst hn
  simp only [am_ins] at h
  simp only [am_eQ] at hq
  obtain ⟨c0, i, t, rfl, h9⟩ := am_r1_some h
  replace h := h9
  obtain ⟨h1, h⟩ := am_bif_some h
  have h1 := Nat.eq_of_beq_eq_true h1
  have hv : am_okq σ c0 i := hF.2.2.2 _ List.mem_cons_self
  rcases hq with ⟨q1, q2, q3, q4, q5, q6, q7, q8, q9⟩ | ⟨q1, q2⟩
  · rw [← h1] at q1 q2 q3 q4 q5 q6 q7 q8 q9
    have hvo := am_ok_lt hv q1
    obtain ⟨hW, hS, hag, -⟩ := id hI
    have hWc := hW
    obtain ⟨ws, hP, hD, h3, -⟩ := hW
    obtain ⟨k1, hk1⟩ := h3 c0 i hvo
    rw [am_cell_obj q2] at hk1
    refine va_get (cl := am_CL) (D := D) (ci := am_ci c0) hx hb hts q9 hown hK hP k1 hk1 q3 r.2.1 (by rw [q4]; exact q5) (hts _ q8) (fun x h => by rw [← q7]; exact h) (am_obj_at q5) hd ?_
    have key : ∀ v : am_V, am_fv X ad σ c0 i r.2.1 = am_cv ad v → am_okv σ v → k (pc + 3) ls (v :: t) σ = some z → W p l e R s m args below meth c H locs cells slots Q (F0 m (pc + 3) LS (am_fv X ad σ c0 i r.2.1 :: t.map (am_cv ad))) := by
      intro v e1 e2 e3
      rw [e1]
      exact hk _ _ _ _ e3 _ _ _ _ _ _ _ hI (am_Fr_st hF (am_ok_c e2 (am_ok_t hF.2.2.2)))
    by_cases e1 : r.2.2 = 1
    · rw [e1] at h
      exact key _ (am_fv_l (q6.trans e1)) (am_okJ _) h
    · by_cases e2 : r.2.2 = 2
      · rw [e2] at h
        exact key _ ((am_fv_r (q6.trans e2)).trans (am_cv_rv ad _).symm) (am_W_go hWc hvo) h
      · split at h
        · rename_i q; exact absurd q e1
        · rename_i q; exact absurd q e2
        · exact key _ (am_fv_i (fun q => e1 (q6.symm.trans q)) (fun q => e2 (q6.symm.trans q))) (am_okI _) h
  · rw [← h1] at q1
    subst q1
    have hvr : i < 7 := by
      rcases hv with hv | hv
      · exact absurd hv.1 (by omega)
      · unfold am_rok at hv; omega
    obtain ⟨-, -, -, -, hS7, -⟩ := hRO
    have e203 : ad 203 i = rd 203 i := hI.2.2.1 203 i (by omega)
    have e202 : ad 202 i = rd 202 i := hI.2.2.1 202 i (by omega)
    rcases q2 with ⟨q2, q3, q4⟩ | ⟨q2, q3, q4⟩
    · rw [q2, q3] at h
      show W p l e R s m args below meth c H locs cells slots Q (F0 m pc LS (.ref (ad 203 i) :: t.map (am_cv ad)))
      rw [e203]
      refine vk_getf hx hb (hS7.1 i hvr).2.2.1 hI.2.1 hown (hts _ q4) (fun x h => h) hd ?_
      have h2 := hk _ _ _ _ h _ _ _ _ _ _ _ hI (am_Fr_st hF (am_ok_c (Or.inr (by unfold am_rok; dsimp only; omega) : am_okv σ (.inr (202, i))) (am_ok_t hF.2.2.2)))
      change W p l e R s m args below meth c H locs cells slots Q (F0 m (pc + 3) LS (.ref (ad 202 i) :: t.map (am_cv ad))) at h2
      rw [e202] at h2
      exact h2
    · rw [q2, q3] at h
      show W p l e R s m args below meth c H locs cells slots Q (F0 m pc LS (.ref (ad 203 i) :: t.map (am_cv ad)))
      rw [e203]
      exact vk_getf hx hb (hS7.1 i hvr).2.1 hI.2.1 hown (hts _ q4) (fun x h => h) hd (hk _ _ _ _ h _ _ _ _ _ _ _ hI (am_Fr_st hF (am_ok_c (am_okI _) (am_ok_t hF.2.2.2))))
end AMH
