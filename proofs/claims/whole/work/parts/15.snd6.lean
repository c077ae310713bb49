/-! WHAT THE ABSTRACT MACHINE IS WORTH, 6: instructions that write; arrays -/
section AMH
variable {p : Program} {l : Launch} {e : Env} {R : Room} {s : State} {m : MethodId} {args : Array Value} {below : List Frame} {meth : Method} {c : Code} {H : Heap} {locs : List Loc} {cells slots : Nat} {Q : State → Prop}
variable {X : am_X} {D : va_G} {A : Nat → Prop} {rd ad0 ad : Nat → Nat → Nat} {cA : Nat → Nat → ClassId} {σ0 σ : am_S} {nm : String} {cc : ByteArray} {nL ow pc n : Nat} {ret : Option FieldType} {z : Option am_V × am_S}
variable {ls st : List am_V} {LS : Array Slot} {r : Nat × Nat × Nat} {sw : List (Int × Nat)} {Γ : Nat → List am_V → am_S → am_R}
variable {k : Nat → List am_V → List am_V → am_S → am_R}

theorem am_okv_cn {σ' : am_S} (hc : σ'.2.2 = σ.2.2) {v : am_V} (h : am_okv σ v) : am_okv σ' v := by
  rcases v with v | q
  · trivial
  · rcases h with h | h
    · exact Or.inl ⟨h.1, by rw [hc]; exact h.2⟩
    · exact Or.inr h
theorem am_Fr_cn {σ' : am_S} {st' : List am_V} (hc : σ'.2.2 = σ.2.2) (hF : am_Fr σ ad ls st LS nL) (h : ∀ v ∈ st', am_okv σ v) : am_Fr σ' ad ls st' LS nL :=
  ⟨hF.1, hF.2.1, fun v hv => am_okv_cn hc (hF.2.2.1 v hv), fun v hv => am_okv_cn hc (h v hv)⟩
theorem am_Inv_cn {σ' : am_S} {H1 : Heap} {locs1 : List Loc} (hc : σ'.2.2 = σ.2.2) (hI : am_Inv X D A s rd ad0 σ0 ad cA σ H locs cells slots) (hW : am_W X D A s ad cA σ' H1) (hS : va_S A s.heap H1 locs1) : am_Inv X D A s rd ad0 σ0 ad cA σ' H1 locs1 cells slots := by
  obtain ⟨-, -, h3, h4, h5, h6, h7⟩ := hI
  exact ⟨hW, hS, h3, h4, by rw [hc]; exact h5, by rw [hc]; exact h6, by rw [hc]; exact h7⟩
theorem am_obj_pi {c0 i j : Nat} (hc : c0 < 200) (h1 : am_fk c0 j ≠ 1) (h2 : am_fk c0 j ≠ 2) (x : Int32) : (am_obj X ad σ c0 i).set j (.int x) = am_obj X ad (am_pi σ c0 i j x) c0 i := by
  refine am_map_set _ _ _ _ _ ?_ fun k hk => ?_
  · rw [am_fv_i h1 h2, am_gs_pi X σ hc, if_pos ⟨rfl, rfl, rfl⟩]
  · unfold am_fv
    rw [am_gl_pi, am_go_pi, am_gs_pi X σ hc, if_neg (fun q => hk q.2.2)]
theorem am_obj_po {c0 i j : Nat} (hc : c0 < 200) (h2 : am_fk c0 j = 2) (q : Nat × Nat) : (am_obj X ad σ c0 i).set j (.ref (ad q.1 q.2)) = am_obj X ad (am_po σ c0 i j (some q)) c0 i := by
  refine am_map_set _ _ _ _ _ ?_ fun k hk => ?_
  · rw [am_fv_r h2, am_go_po σ hc, if_pos ⟨rfl, rfl, rfl⟩]; rfl
  · unfold am_fv
    rw [am_gl_po, am_gs_po, am_go_po σ hc, if_neg (fun q => hk q.2.2)]
theorem am_cell_pi {c0 i j c' i' : Nat} (hc : c0 < 200) (x : Int32) (hne : ¬ (c' = c0 ∧ i' = i)) : am_cell X ad cA (am_pi σ c0 i j x) c' i' = am_cell X ad cA σ c' i' :=
  am_cell_eq (fun k => by rw [am_gs_pi X σ hc, if_neg (fun q => hne ⟨q.1, q.2.1⟩)]) (fun k => am_gl_pi _ _ _ _ _ _ _ _) (fun k => am_go_pi _ _ _ _ _ _ _ _)
theorem am_cell_pl {c0 i j c' i' : Nat} (x : Int64) (hne : ¬ (c' = c0 ∧ i' = i)) : am_cell X ad cA (am_pl σ c0 i j x) c' i' = am_cell X ad cA σ c' i' :=
  am_cell_eq (fun k => am_gs_pl _ _ _ _ _ _ _ _ _) (fun k => by rw [am_gl_pl, if_neg (fun q => hne ⟨q.1, q.2.1⟩)]) (fun k => am_go_pl _ _ _ _ _ _ _ _)
theorem am_cell_po {c0 i j c' i' : Nat} (hc : c0 < 200) (x : Option (Nat × Nat)) (hne : ¬ (c' = c0 ∧ i' = i)) : am_cell X ad cA (am_po σ c0 i j x) c' i' = am_cell X ad cA σ c' i' :=
  am_cell_eq (fun k => am_gs_po _ _ _ _ _ _ _ _ _) (fun k => am_gl_po _ _ _ _ _ _ _ _) (fun k => by rw [am_go_po σ hc, if_neg (fun q => hne ⟨q.1, q.2.1⟩)])
/-- an int is written into a made thing: what is there then -/
theorem am_done_pi {c0 i j k1 : Nat} {x : Int32} {E : va_E} {ws : va_W} {H1 : Heap} {locs1 : List Loc} {st' : List am_V} {pc' : Nat} (hc : c0 < 200) (hv : am_ok σ c0 i) (hI : am_Inv X D A s rd ad0 σ0 ad cA σ H locs cells slots)
    (hP : va_P D am_CL ws H) (hD : va_D A ws) (h3 : ∀ c i, am_ok σ c i → ∃ k : Nat, ws[k]? = some (ad c i, am_cell X ad cA σ c i)) (h4 : ∀ c i, am_ok σ c i → am_tk c ≠ 9 → ArrOfT s (cA c i) (am_ty c) ∧ va_RA s (cA c i) (am_ty c))
    (h5 : ∀ c i c' i', am_ok σ c i → am_ok σ c' i' → ad c i = ad c' i' → c = c' ∧ i = i') (h6 : ∀ c i j q, am_ok σ c i → am_go σ c i j = some q → am_ok σ q.1 q.2)
    (hk1 : ws[k1]? = some (ad c0 i, am_cell X ad cA σ c0 i)) (he : E = am_cell X ad cA (am_pi σ c0 i j x) c0 i) (hP1 : va_P D am_CL (ws.set k1 (ad c0 i, E)) H1) (hD1 : va_D A (ws.set k1 (ad c0 i, E))) (hS1 : va_S A s.heap H1 locs1)
    (hk : am_Ks p l e R s m args below meth c X D A rd ad0 σ0 nL Q z k) (h : k pc' ls st' (am_pi σ c0 i j x) = some z) (hF : am_Fr σ ad ls st LS nL) (hs : ∀ v ∈ st', am_okv σ v) : W p l e R s m args below meth c H1 locs1 cells slots Q (F0 m pc' LS (st'.map (am_cv ad))) := by
  have hcn : (am_pi σ c0 i j x).2.2 = σ.2.2 := am_cn_sq _ _ _
  refine hk _ _ _ _ h _ _ _ _ _ _ _ (am_Inv_cn hcn hI (am_W_set hk1 hv h3 h4 h5 ?_ hP1 hD1 he (by rw [hcn]) (fun c' i' hne => am_cell_pi hc x hne)) hS1) (am_Fr_cn hcn hF hs)
  intro c1 i1 j1 q g1 g2
  rw [am_go_pi] at g2
  have := h6 c1 i1 j1 q ⟨g1.1, by rw [← hcn]; exact g1.2⟩ g2
  exact ⟨this.1, by rw [hcn]; exact this.2⟩
theorem am_done_pl {c0 i j k1 : Nat} {x : Int64} {E : va_E} {ws : va_W} {H1 : Heap} {locs1 : List Loc} {st' : List am_V} {pc' : Nat} (hv : am_ok σ c0 i) (hI : am_Inv X D A s rd ad0 σ0 ad cA σ H locs cells slots)
    (hP : va_P D am_CL ws H) (hD : va_D A ws) (h3 : ∀ c i, am_ok σ c i → ∃ k : Nat, ws[k]? = some (ad c i, am_cell X ad cA σ c i)) (h4 : ∀ c i, am_ok σ c i → am_tk c ≠ 9 → ArrOfT s (cA c i) (am_ty c) ∧ va_RA s (cA c i) (am_ty c))
    (h5 : ∀ c i c' i', am_ok σ c i → am_ok σ c' i' → ad c i = ad c' i' → c = c' ∧ i = i') (h6 : ∀ c i j q, am_ok σ c i → am_go σ c i j = some q → am_ok σ q.1 q.2)
    (hk1 : ws[k1]? = some (ad c0 i, am_cell X ad cA σ c0 i)) (he : E = am_cell X ad cA (am_pl σ c0 i j x) c0 i) (hP1 : va_P D am_CL (ws.set k1 (ad c0 i, E)) H1) (hD1 : va_D A (ws.set k1 (ad c0 i, E))) (hS1 : va_S A s.heap H1 locs1)
    (hk : am_Ks p l e R s m args below meth c X D A rd ad0 σ0 nL Q z k) (h : k pc' ls st' (am_pl σ c0 i j x) = some z) (hF : am_Fr σ ad ls st LS nL) (hs : ∀ v ∈ st', am_okv σ v) : W p l e R s m args below meth c H1 locs1 cells slots Q (F0 m pc' LS (st'.map (am_cv ad))) := by
  have hcn : (am_pl σ c0 i j x).2.2 = σ.2.2 := am_cn_sq _ _ _
  refine hk _ _ _ _ h _ _ _ _ _ _ _ (am_Inv_cn hcn hI (am_W_set hk1 hv h3 h4 h5 ?_ hP1 hD1 he (by rw [hcn]) (fun c' i' hne => am_cell_pl x hne)) hS1) (am_Fr_cn hcn hF hs)
  intro c1 i1 j1 q g1 g2
  rw [am_go_pl] at g2
  have := h6 c1 i1 j1 q ⟨g1.1, by rw [← hcn]; exact g1.2⟩ g2
  exact ⟨this.1, by rw [hcn]; exact this.2⟩
theorem am_done_po {c0 i j k1 : Nat} {x : Nat × Nat} {E : va_E} {ws : va_W} {H1 : Heap} {locs1 : List Loc} {st' : List am_V} {pc' : Nat} (hc : c0 < 200) (hv : am_ok σ c0 i) (hvx : am_ok σ x.1 x.2) (hI : am_Inv X D A s rd ad0 σ0 ad cA σ H locs cells slots)
    (hP : va_P D am_CL ws H) (hD : va_D A ws) (h3 : ∀ c i, am_ok σ c i → ∃ k : Nat, ws[k]? = some (ad c i, am_cell X ad cA σ c i)) (h4 : ∀ c i, am_ok σ c i → am_tk c ≠ 9 → ArrOfT s (cA c i) (am_ty c) ∧ va_RA s (cA c i) (am_ty c))
    (h5 : ∀ c i c' i', am_ok σ c i → am_ok σ c' i' → ad c i = ad c' i' → c = c' ∧ i = i') (h6 : ∀ c i j q, am_ok σ c i → am_go σ c i j = some q → am_ok σ q.1 q.2)
    (hk1 : ws[k1]? = some (ad c0 i, am_cell X ad cA σ c0 i)) (he : E = am_cell X ad cA (am_po σ c0 i j (some x)) c0 i) (hP1 : va_P D am_CL (ws.set k1 (ad c0 i, E)) H1) (hD1 : va_D A (ws.set k1 (ad c0 i, E))) (hS1 : va_S A s.heap H1 locs1)
    (hk : am_Ks p l e R s m args below meth c X D A rd ad0 σ0 nL Q z k) (h : k pc' ls st' (am_po σ c0 i j (some x)) = some z) (hF : am_Fr σ ad ls st LS nL) (hs : ∀ v ∈ st', am_okv σ v) : W p l e R s m args below meth c H1 locs1 cells slots Q (F0 m pc' LS (st'.map (am_cv ad))) := by
  have hcn : (am_po σ c0 i j (some x)).2.2 = σ.2.2 := am_cn_sq _ _ _
  refine hk _ _ _ _ h _ _ _ _ _ _ _ (am_Inv_cn hcn hI (am_W_set hk1 hv h3 h4 h5 ?_ hP1 hD1 he (by rw [hcn]) (fun c' i' hne => am_cell_po hc _ hne)) hS1) (am_Fr_cn hcn hF hs)
  intro c1 i1 j1 q g1 g2
  rw [am_go_po σ hc] at g2
  have g1' : am_ok σ c1 i1 := ⟨g1.1, by rw [← hcn]; exact g1.2⟩
  split at g2
  · cases g2; exact ⟨hvx.1, by rw [hcn]; exact hvx.2⟩
  · have := h6 c1 i1 j1 q g1' g2
    exact ⟨this.1, by rw [hcn]; exact this.2⟩
theorem am_upd_pi {c0 i : Nat} (hc : c0 < 200) (j : Nat) (x : Int32) : upd (am_gs X σ c0 i) j x = am_gs X (am_pi σ c0 i j x) c0 i := by
  funext j'
  rw [am_gs_pi X σ hc]
  unfold upd
  by_cases h : j' = j
  · rw [if_pos h, if_pos ⟨rfl, rfl, h⟩]
  · rw [if_neg h, if_neg (fun q => h q.2.2)]
theorem am_upd_pl {c0 i : Nat} (j : Nat) (x : Int64) : vp_updL (am_gl σ c0 i) j x = am_gl (am_pl σ c0 i j x) c0 i := by
  funext j'
  rw [am_gl_pl]
  unfold vp_updL
  by_cases h : j' = j
  · rw [if_pos h, if_pos ⟨rfl, rfl, h⟩]
  · rw [if_neg h, if_neg (fun q => h q.2.2)]
theorem am_upd_po {c0 i : Nat} (hc : c0 < 200) (j : Nat) (q : Nat × Nat) : va_up (fun j => am_rf ad (am_go σ c0 i j)) j (some (ad q.1 q.2)) = fun j' => am_rf ad (am_go (am_po σ c0 i j (some q)) c0 i j') := by
  funext j'
  rw [am_go_po σ hc]
  unfold va_up
  by_cases h : j' = j
  · rw [if_pos h, if_pos ⟨rfl, rfl, h⟩]; rfl
  · rw [if_neg h, if_neg (fun q => h q.2.2)]
theorem am_and_true {a b : Bool} (h : (a && b) = true) : a = true ∧ b = true := by
  cases a <;> cases b <;> first | exact ⟨rfl, rfl⟩ | cases h
theorem am_blt_lt {a b : Nat} (h : Nat.blt a b = true) : a < b := by unfold Nat.blt at h; exact Nat.le_of_ble_eq_true h
theorem am_fit_b {x : Int32} (h : x = 0 ∨ x = 1) : narrow .boolean (.int x) = .int x ∧ fits .boolean (.int x) = true ∧ vp_nar .boolean x = x := by
  rcases h with rfl | rfl <;> exact ⟨rfl, rfl, rfl⟩
theorem am_nar_byte (x : Int32) : vp_nar .byte x = x.toInt8.toInt32 := vp_nar_byte x

set_option maxHeartbeats 1000000 in
theorem am_snd_putfield {idx : Nat} (hC : am_Cx p s m args meth c X D A rd nm cc nL ow) (hE : am_eP (am_on ow) nm cc ret (pc, .putfield idx, n, r, sw))
    (hk : am_Ks p l e R s m args below meth c X D A rd ad0 σ0 nL Q z k) (h : am_ins Γ X k pc (.putfield idx) n r sw ls st σ = some z)
    (hI : am_Inv X D A s rd ad0 σ0 ad cA σ H locs cells slots) (hF : am_Fr σ ad ls st LS nL) : W p l e R s m args below meth c H locs cells slots Q (F0 m pc LS (st.map (am_cv ad))) := by
  obtain ⟨hx, hb, hml, hown, hts, hlo, hnm, hA, hK, hRO⟩ := hC
  obtain ⟨hd, hn, hq⟩ := hE
  have hn : n = 3 := by
    rcases hn with hn | ⟨_, _, _, _, hn⟩ | ⟨_, _, hn⟩
    · exact hn
    · cases hn
    · cases hn
  dsimp only at hd hq
  subst hn
  simp only [am_ins] at h
  simp only [am_eQ] at hq
  obtain ⟨⟨q1, q2, q3, q4, q5, q6, q7, q8, q9⟩, ⟨ty0, hty⟩, hnmd, hfin, ty, ht, ht0, ht3, ht2⟩ := hq
  have finish : ∀ (c0 i : Nat) (t : List am_V) (v : Value) (σ' : am_S), c0 = r.1 → am_okq σ c0 i → narrow ty v = v → fits ty v = true →
      (∀ (ws : va_W) (k1 : Nat) (H1 : Heap) (locs1 : List Loc), va_P D am_CL ws H → va_D A ws → (∀ c i, am_ok σ c i → ∃ k : Nat, ws[k]? = some (ad c i, am_cell X ad cA σ c i)) → (∀ c i, am_ok σ c i → am_tk c ≠ 9 → ArrOfT s (cA c i) (am_ty c) ∧ va_RA s (cA c i) (am_ty c)) →
        (∀ c i c' i', am_ok σ c i → am_ok σ c' i' → ad c i = ad c' i' → c = c' ∧ i = i') → (∀ c i j q, am_ok σ c i → am_go σ c i j = some q → am_ok σ q.1 q.2) → ws[k1]? = some (ad c0 i, am_cell X ad cA σ c0 i) →
        va_P D am_CL (ws.set k1 (ad c0 i, .inr (am_ci c0, (am_obj X ad σ c0 i).set r.2.1 v))) H1 → va_D A (ws.set k1 (ad c0 i, .inr (am_ci c0, (am_obj X ad σ c0 i).set r.2.1 v))) → va_S A s.heap H1 locs1 → W p l e R s m args below meth c H1 locs1 cells slots Q (F0 m (pc + 3) LS (t.map (am_cv ad)))) →
      W p l e R s m args below meth c H locs cells slots Q (F0 m pc LS (v :: .ref (ad c0 i) :: t.map (am_cv ad))) := by
    intro c0 i t v σ' h1 hv hnar hfit kk
    rw [← h1] at q1 q2 q3 q4 q5 q6 q7 q8 q9 hty hnmd hfin ht
    have hvo := am_ok_lt hv q1
    obtain ⟨hW, hS, hag, -⟩ := id hI
    obtain ⟨ws, hP, hD, h3, h4, h5, h6⟩ := hW
    obtain ⟨k1, hk1⟩ := h3 c0 i hvo
    have hk1' := hk1
    rw [am_cell_obj q2] at hk1'
    have hlen : r.2.1 < (am_obj X ad σ c0 i).length := by unfold am_obj; simp; exact q5
    rcases hfin with hfin | ⟨hfin, hini, hdecl⟩
    · exact va_put (cl := am_CL) (D := D) (ci := am_ci c0) hx hb hts q9 ty0 hty hnmd hown hK hP hD hS k1 hk1' q3 r.2.1 (by rw [q4]; exact q5) (hts _ q8) (fun x h => by rw [← q7]; exact h) hfin ht hnar hfit hlen hd (fun H1 locs1 a1 a2 a3 => kk ws k1 H1 locs1 hP hD h3 h4 h5 h6 hk1 a1 a2 a3)
    · exact va_putF (cl := am_CL) (D := D) (ci := am_ci c0) hx hb hts q9 ty0 hty hnmd hown hK hP hD hS k1 hk1' q3 r.2.1 (by rw [q4]; exact q5) (hts _ q8) (fun x h => by rw [← q7]; exact h) hfin (hnm.trans hini) (q7.trans hdecl) ht hnar hfit hlen hd (fun H1 locs1 a1 a2 a3 => kk ws k1 H1 locs1 hP hD h3 h4 h5 h6 hk1 a1 a2 a3)
  split at h
  · rename_i er
    obtain ⟨c0, i, x, t, rfl, h9⟩ := am_ir_some h
    replace h := h9
    obtain ⟨h1, h⟩ := am_bif_some h
    have h1 := Nat.eq_of_beq_eq_true h1
    have hv : am_okq σ c0 i := am_ok_t hF.2.2.2 _ List.mem_cons_self
    have hty := ht0 er
    have hc : c0 < 200 := by rw [h1]; exact q1
    refine finish c0 i t (.int x) (am_pi σ c0 i r.2.1 x) h1 hv (by rw [hty]; rfl) (by rw [hty]; rfl) ?_
    intro ws k1 H1 locs1 a1 a2 a3 a4 a5 a6 a7 a8 a9 a10
    refine am_done_pi hc (am_ok_lt hv hc) hI a1 a2 a3 a4 a5 a6 a7 ?_ a8 a9 a10 hk h hF (am_ok_t (am_ok_t hF.2.2.2))
    rw [am_cell_obj (by rw [h1]; exact q2), am_obj_pi hc (by rw [h1, q6, er]; decide) (by rw [h1, q6, er]; decide)]
  · rename_i er
    obtain ⟨c0, i, x, t, rfl, h9⟩ := am_ir_some h
    replace h := h9
    obtain ⟨h1, h⟩ := am_bif_some h
    obtain ⟨h01, h⟩ := am_bk_some h
    have h1 := Nat.eq_of_beq_eq_true h1
    have hv : am_okq σ c0 i := am_ok_t hF.2.2.2 _ List.mem_cons_self
    have hty := ht3 er
    have hc : c0 < 200 := by rw [h1]; exact q1
    refine finish c0 i t (.int x) (am_pi σ c0 i r.2.1 x) h1 hv (by rw [hty]; exact (am_fit_b h01).1) (by rw [hty]; exact (am_fit_b h01).2.1) ?_
    intro ws k1 H1 locs1 a1 a2 a3 a4 a5 a6 a7 a8 a9 a10
    refine am_done_pi hc (am_ok_lt hv hc) hI a1 a2 a3 a4 a5 a6 a7 ?_ a8 a9 a10 hk h hF (am_ok_t (am_ok_t hF.2.2.2))
    rw [am_cell_obj (by rw [h1]; exact q2), am_obj_pi hc (by rw [h1, q6, er]; decide) (by rw [h1, q6, er]; decide)]
  · rename_i er
    obtain ⟨c0, i, c2, i2, t, rfl, h9⟩ := am_rr_some h
    replace h := h9
    obtain ⟨h1, h⟩ := am_bif_some h
    obtain ⟨h1, hc2⟩ := am_and_true h1
    have h1 := Nat.eq_of_beq_eq_true h1
    have hv : am_okq σ c0 i := am_ok_t hF.2.2.2 _ List.mem_cons_self
    have hv2 : am_okq σ c2 i2 := hF.2.2.2 _ List.mem_cons_self
    have hc : c0 < 200 := by rw [h1]; exact q1
    refine finish c0 i t (.ref (ad c2 i2)) (am_po σ c0 i r.2.1 (some (c2, i2))) h1 hv (ht2 er _).1 (ht2 er _).2 ?_
    intro ws k1 H1 locs1 a1 a2 a3 a4 a5 a6 a7 a8 a9 a10
    refine am_done_po hc (am_ok_lt hv hc) (am_ok_lt hv2 (am_blt_lt hc2)) hI a1 a2 a3 a4 a5 a6 a7 ?_ a8 a9 a10 hk h hF (am_ok_t (am_ok_t hF.2.2.2))
    rw [am_cell_obj (by rw [h1]; exact q2), ← am_obj_po hc (by rw [h1, q6, er])]
  · cases h

end AMH
