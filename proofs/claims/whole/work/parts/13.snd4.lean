/-! WHAT THE ABSTRACT MACHINE IS WORTH, 4: an instruction -/
section AMI
variable {p : Program} {l : Launch} {e : Env} {R : Room} {s : State} {m : MethodId} {args : Array Value} {below : List Frame} {meth : Method} {c : Code} {H : Heap} {locs : List Loc} {cells slots : Nat} {Q : State → Prop}
variable {X : am_X} {D : va_G} {A : Nat → Prop} {rd ad0 ad : Nat → Nat → Nat} {cA : Nat → Nat → ClassId} {σ0 σ : am_S} {nm : String} {cc : ByteArray} {nL ow pc n : Nat} {ret : Option FieldType} {z : Option am_V × am_S}
variable {ls st : List am_V} {LS : Array Slot} {r : Nat × Nat × Nat} {sw : List (Int × Nat)} {Γ : Nat → List am_V → am_S → am_R}
variable {k : Nat → List am_V → List am_V → am_S → am_R}
abbrev am_Ks (p : Program) (l : Launch) (e : Env) (R : Room) (s : State) (m : MethodId) (args : Array Value) (below : List Frame) (meth : Method) (c : Code) (X : am_X) (D : va_G) (A : Nat → Prop) (rd ad0 : Nat → Nat → Nat) (σ0 : am_S) (nL : Nat) (Q : State → Prop) (z : Option am_V × am_S) (k : Nat → List am_V → List am_V → am_S → am_R) : Prop :=
  ∀ (pc : Nat) (ls st : List am_V) (σ : am_S), k pc ls st σ = some z → ∀ (ad : Nat → Nat → Nat) (cA : Nat → Nat → ClassId) (H : Heap) (locs : List Loc) (cells slots : Nat) (LS : Array Slot), am_Inv X D A s rd ad0 σ0 ad cA σ H locs cells slots → am_Fr σ ad ls st LS nL →
    W p l e R s m args below meth c H locs cells slots Q (F0 m pc LS (st.map (am_cv ad)))
theorem am_Fr_st {st' : List am_V} (hF : am_Fr σ ad ls st LS nL) (h : ∀ v ∈ st', am_okv σ v) : am_Fr σ ad ls st' LS nL := ⟨hF.1, hF.2.1, hF.2.2.1, h⟩
theorem am_ok_t {v : am_V} {t : List am_V} (h : ∀ w ∈ v :: t, am_okv σ w) : ∀ w ∈ t, am_okv σ w := fun w hw => h w (List.mem_cons_of_mem _ hw)
theorem am_ok_c {v : am_V} {t : List am_V} (hv : am_okv σ v) (h : ∀ w ∈ t, am_okv σ w) : ∀ w ∈ v :: t, am_okv σ w := fun w hw => by
  rcases List.mem_cons.mp hw with rfl | hw
  · exact hv
  · exact h w hw
theorem am_okI (x : Int32) : am_okv σ (am_I x) := trivial
theorem am_okJ (x : Int64) : am_okv σ (am_J x) := trivial
/-- a local is set -/
theorem am_Fr_set {i : Nat} {v : am_V} {st' : List am_V} {LS' : Array Slot} (hF : am_Fr σ ad ls st LS nL) (hi : i < ls.length) (hp : ∀ w, ls[i - 1]? = some w → (am_cv ad w).category = 2 → i = 0) (hv : am_okv σ v) (hnu : ∀ z, v ≠ .inl (.retAddr z))
    (h : lv_has LS' nL ((i, am_cv ad v) :: (am_lk ad 0 ls).filter (fun q => !(q.1 == i) && !(q.1 + 1 == i && q.2.category == 2)))) (hs : ∀ w ∈ st', am_okv σ w) : am_Fr σ ad (ls.set i v) st' LS' nL := by
  refine ⟨am_lk_sub h fun q hq => ?_, by rw [List.length_set]; exact hF.2.1, fun w hw => ?_, hs⟩
  · obtain ⟨j, w, h1, h2, rfl⟩ := am_lk_mem.mp hq
    rw [List.getElem?_set] at h1
    by_cases hj : i = j
    · subst hj
      rw [if_pos rfl, if_pos hi] at h1
      cases h1
      simp
    · rw [if_neg hj] at h1
      refine List.mem_cons_of_mem _ (List.mem_filter.mpr ⟨am_lk_mem.mpr ⟨j, w, h1, h2, rfl⟩, ?_⟩)
      have e1 : ((0 + j, am_cv ad w).1 == i) = false := by simp; omega
      rw [e1]
      show (true && !((0 + j + 1 == i) && ((am_cv ad w).category == 2))) = true
      by_cases hj2 : 0 + j + 1 = i
      · have hnl : (am_cv ad w).category ≠ 2 := fun hc => by
          have := hp w (by rw [show i - 1 = j by omega]; exact h1) hc
          omega
        simp [hnl]
      · have : ¬ j + 1 = i := by omega
        simp [this]
  · rcases List.mem_or_eq_of_mem_set hw with h1 | h1
    · exact hF.2.2.1 w h1
    · rw [h1]; exact hv
theorem am_Fr_set2 {i : Nat} {x : Int64} {st' : List am_V} {LS' : Array Slot} (hF : am_Fr σ ad ls st LS nL) (hi : i + 1 < ls.length) (hp : ∀ w, ls[i - 1]? = some w → (am_cv ad w).category = 2 → i = 0)
    (h : lv_has LS' nL ((i, Value.long x) :: (am_lk ad 0 ls).filter (fun q => !(q.1 == i) && (!(q.1 == i + 1) && !(q.1 + 1 == i && q.2.category == 2))))) (hs : ∀ w ∈ st', am_okv σ w) : am_Fr σ ad ((ls.set i (am_J x)).set (i + 1) am_un) st' LS' nL := by
  refine ⟨am_lk_sub h fun q hq => ?_, by rw [List.length_set, List.length_set]; exact hF.2.1, fun w hw => ?_, hs⟩
  · obtain ⟨j, w, h1, h2, rfl⟩ := am_lk_mem.mp hq
    rw [List.getElem?_set] at h1
    by_cases hj1 : i + 1 = j
    · subst hj1
      rw [if_pos rfl, if_pos (by rw [List.length_set]; exact hi)] at h1
      cases h1
      exact absurd rfl (h2 0)
    · rw [if_neg hj1, List.getElem?_set] at h1
      by_cases hj : i = j
      · subst hj
        rw [if_pos rfl, if_pos (by omega)] at h1
        cases h1
        simp [am_cv]
      · rw [if_neg hj] at h1
        refine List.mem_cons_of_mem _ (List.mem_filter.mpr ⟨am_lk_mem.mpr ⟨j, w, h1, h2, rfl⟩, ?_⟩)
        have e1 : ((0 + j, am_cv ad w).1 == i) = false := by simp; omega
        have e2 : ((0 + j, am_cv ad w).1 == i + 1) = false := by simp; omega
        rw [e1, e2]
        show (true && (true && !((0 + j + 1 == i) && ((am_cv ad w).category == 2)))) = true
        by_cases hj2 : 0 + j + 1 = i
        · have hnl : (am_cv ad w).category ≠ 2 := fun hc => by
            have := hp w (by rw [show i - 1 = j by omega]; exact h1) hc
            omega
          simp [hnl]
        · have : ¬ j + 1 = i := by omega
          simp [this]
  · rcases List.mem_or_eq_of_mem_set hw with h1 | h1
    · rcases List.mem_or_eq_of_mem_set h1 with h1 | h1
      · exact hF.2.2.1 w h1
      · rw [h1]; trivial
    · rw [h1]; trivial
theorem am_st1_some {kk : List am_V → am_R} {i : Nat} {v : am_V} (h : am_st1 kk ls i v = some z) : i < ls.length ∧ (∀ w, ls[i - 1]? = some w → (am_cv ad w).category = 2 → i = 0) ∧ kk (ls.set i v) = some z := by
  obtain ⟨h1, h2⟩ := am_bif_some h
  rw [Bool.and_eq_true] at h1
  refine ⟨by have := h1.1; unfold Nat.blt at this; exact Nat.le_of_ble_eq_true this, fun w hw hc => ?_, h2⟩
  have h3 := h1.2
  rw [hw] at h3
  rcases w with w | w
  · cases w <;> first | exact Nat.eq_of_beq_eq_true h3 | (cases hc; done)
  · cases hc
theorem am_st2_some {kk : List am_V → am_R} {i : Nat} {v : am_V} (h : am_st2 kk ls i v = some z) : i + 1 < ls.length ∧ (∀ w, ls[i - 1]? = some w → (am_cv ad w).category = 2 → i = 0) ∧ kk ((ls.set i v).set (i + 1) am_un) = some z := by
  obtain ⟨h1, h2⟩ := am_bif_some h
  rw [Bool.and_eq_true] at h1
  refine ⟨by have := h1.1; unfold Nat.blt at this; exact Nat.le_of_ble_eq_true this, fun w hw hc => ?_, h2⟩
  have h3 := h1.2
  rw [hw] at h3
  rcases w with w | w
  · cases w <;> first | exact Nat.eq_of_beq_eq_true h3 | (cases hc; done)
  · cases hc
theorem am_ldi_some {kk : List am_V → am_R} {i : Nat} (h : am_ldi kk ls i st = some z) : ∃ x, ls[i]? = some (am_I x) ∧ kk (am_I x :: st) = some z := by
  unfold am_ldi at h
  split at h
  · rename_i x hx; exact ⟨x, hx, h⟩
  · cases h
theorem am_ldl_some {kk : List am_V → am_R} {i : Nat} (h : am_ldl kk ls i st = some z) : ∃ x, ls[i]? = some (am_J x) ∧ kk (am_J x :: st) = some z := by
  unfold am_ldl at h
  split at h
  · rename_i x hx; exact ⟨x, hx, h⟩
  · cases h
theorem am_lda_some {kk : List am_V → am_R} {i : Nat} (h : am_lda kk ls i st = some z) : ∃ q, ls[i]? = some (.inr q) ∧ kk (.inr q :: st) = some z := by
  unfold am_lda at h
  split at h
  · rename_i x hx; exact ⟨x, hx, h⟩
  · cases h
theorem am_ls_ok {i : Nat} {v : am_V} (hF : am_Fr σ ad ls st LS nL) (h : ls[i]? = some v) : am_okv σ v := hF.2.2.1 v (List.mem_of_getElem? h)

/-- instructions that touch locals and stack alone -/
def am_easy (ins : Instr) : Bool := match ins with
  | .iconst _ | .bipush _ | .sipush _ | .lconst _ | .ldc2_w _ | .iload_n _ | .iload _ | .lload_n _ | .lload _ | .aload_n _ | .aload _ | .istore_n _ | .istore _ | .lstore_n _ | .lstore _ | .astore_n _ | .astore _ | .iinc _ _
  | .iadd | .isub | .imul | .iand | .ior | .ixor | .idiv | .irem | .ineg | .ishl | .ishr | .iushr | .ladd | .lsub | .land | .lor | .lxor | .lshl | .lshr | .lushr | .lcmp | .i2l | .l2i | .i2b | .i2s | .i2c
  | .dup | .dup_x1 | .dup2 | .pop | .goto _ | .ifCond _ _ | .if_icmp _ _ => true
  | _ => false
set_option maxHeartbeats 4000000 in
theorem am_snd_easy {ins : Instr} (he : am_easy ins = true) (hC : am_Cx p s m args meth c X D A rd nm cc nL ow) (hE : am_eP (am_on ow) nm cc ret (pc, ins, n, r, sw))
    (hk : am_Ks p l e R s m args below meth c X D A rd ad0 σ0 nL Q z k) (h : am_ins Γ X k pc ins n r sw ls st σ = some z)
    (hI : am_Inv X D A s rd ad0 σ0 ad cA σ H locs cells slots) (hF : am_Fr σ ad ls st LS nL) : W p l e R s m args below meth c H locs cells slots Q (F0 m pc LS (st.map (am_cv ad))) := by
  obtain ⟨hx, hb, hml, hown, hts, hlo, hnm, hA, hK, hRO⟩ := hC
  obtain ⟨hd, hn, hq⟩ := hE
  have hn : n = am_ln ins := by
    rcases hn with hn | ⟨_, _, _, _, hn⟩ | ⟨_, _, hn⟩
    · exact hn
    · dsimp only at hn; rw [hn] at he; cases he
    · dsimp only at hn; rw [hn] at he; cases he
  dsimp only at hd hq
  cases ins
  all_goals first | (cases he; done) | skip
  all_goals (simp only [am_ins] at h; simp only [am_ln] at hn; subst hn)
  case iconst v =>
    exact lv_iconst hx hb hd rfl (hk _ _ _ _ h _ _ _ _ _ _ _ hI (am_Fr_st hF (am_ok_c (am_okI _) hF.2.2.2)))
  case bipush v =>
    exact lv_bipush hx hb hd hq (hk _ _ _ _ h _ _ _ _ _ _ _ hI (am_Fr_st hF (am_ok_c (am_okI _) hF.2.2.2)))
  case sipush v =>
    exact lv_sipush hx hb hd hq (hk _ _ _ _ h _ _ _ _ _ _ _ hI (am_Fr_st hF (am_ok_c (am_okI _) hF.2.2.2)))
  case lconst v =>
    exact lv_lconst hx hb hd rfl (hk _ _ _ _ h _ _ _ _ _ _ _ hI (am_Fr_st hF (am_ok_c (am_okJ _) hF.2.2.2)))
  case ldc2_w v =>
    exact lv_ldc2 hx hb hown (hts _ hq) hd (hk _ _ _ _ h _ _ _ _ _ _ _ hI (am_Fr_st hF (am_ok_c (am_okJ _) hF.2.2.2)))
  case iload_n i =>
    obtain ⟨x, h1, h⟩ := am_ldi_some h
    exact lv_iload_n hx hb hd rfl (am_lk_get hF.1 h1 (fun z q => by cases q)) (hk _ _ _ _ h _ _ _ _ _ _ _ hI (am_Fr_st hF (am_ok_c (am_okI _) hF.2.2.2)))
  case iload i =>
    obtain ⟨x, h1, h⟩ := am_ldi_some h
    exact lv_iload hx hb hd (am_lk_get hF.1 h1 (fun z q => by cases q)) (hk _ _ _ _ h _ _ _ _ _ _ _ hI (am_Fr_st hF (am_ok_c (am_okI _) hF.2.2.2)))
  case lload_n i =>
    obtain ⟨x, h1, h⟩ := am_ldl_some h
    exact lv_lload_n hx hb hd rfl (am_lk_get hF.1 h1 (fun z q => by cases q)) (hk _ _ _ _ h _ _ _ _ _ _ _ hI (am_Fr_st hF (am_ok_c (am_okJ _) hF.2.2.2)))
  case lload i =>
    obtain ⟨x, h1, h⟩ := am_ldl_some h
    exact lv_lload hx hb hd (am_lk_get hF.1 h1 (fun z q => by cases q)) (hk _ _ _ _ h _ _ _ _ _ _ _ hI (am_Fr_st hF (am_ok_c (am_okJ _) hF.2.2.2)))
  case aload_n i =>
    obtain ⟨x, h1, h⟩ := am_lda_some h
    exact lv_aload_n hx hb hd rfl (am_lk_get hF.1 h1 (fun z q => by cases q)) (hk _ _ _ _ h _ _ _ _ _ _ _ hI (am_Fr_st hF (am_ok_c (am_ls_ok hF h1) hF.2.2.2)))
  case aload i =>
    obtain ⟨x, h1, h⟩ := am_lda_some h
    exact lv_aload hx hb hd (am_lk_get hF.1 h1 (fun z q => by cases q)) (hk _ _ _ _ h _ _ _ _ _ _ _ hI (am_Fr_st hF (am_ok_c (am_ls_ok hF h1) hF.2.2.2)))
  case istore_n i =>
    obtain ⟨x, t, rfl, h9⟩ := am_i1_some h
    replace h := h9
    obtain ⟨h1, h2, h⟩ := am_st1_some (ad := ad) h
    refine lv_istore_n hx hb hd rfl hF.1 (by rw [← hF.2.1]; exact h1) rfl (fun LS2 hl2 => ?_)
    exact hk _ _ _ _ h _ _ _ _ _ _ _ hI (am_Fr_set hF h1 h2 (am_okI _) (fun z q => by cases q) hl2 (am_ok_t hF.2.2.2))
  case istore i =>
    obtain ⟨x, t, rfl, h9⟩ := am_i1_some h
    replace h := h9
    obtain ⟨h1, h2, h⟩ := am_st1_some (ad := ad) h
    refine lv_istore hx hb hd hF.1 (by rw [← hF.2.1]; exact h1) rfl (fun LS2 hl2 => ?_)
    exact hk _ _ _ _ h _ _ _ _ _ _ _ hI (am_Fr_set hF h1 h2 (am_okI _) (fun z q => by cases q) hl2 (am_ok_t hF.2.2.2))
  case astore_n i =>
    obtain ⟨x, y, t, rfl, h9⟩ := am_r1_some h
    replace h := h9
    obtain ⟨h1, h2, h⟩ := am_st1_some (ad := ad) h
    refine lv_astore_n hx hb hd rfl hF.1 (by rw [← hF.2.1]; exact h1) rfl (fun LS2 hl2 => ?_)
    exact hk _ _ _ _ h _ _ _ _ _ _ _ hI (am_Fr_set hF h1 h2 (hF.2.2.2 _ List.mem_cons_self) (fun z q => by cases q) hl2 (am_ok_t hF.2.2.2))
  case astore i =>
    obtain ⟨x, y, t, rfl, h9⟩ := am_r1_some h
    replace h := h9
    obtain ⟨h1, h2, h⟩ := am_st1_some (ad := ad) h
    refine lv_astore hx hb hd hF.1 (by rw [← hF.2.1]; exact h1) rfl (fun LS2 hl2 => ?_)
    exact hk _ _ _ _ h _ _ _ _ _ _ _ hI (am_Fr_set hF h1 h2 (hF.2.2.2 _ List.mem_cons_self) (fun z q => by cases q) hl2 (am_ok_t hF.2.2.2))
  case lstore_n i =>
    obtain ⟨x, t, rfl, h9⟩ := am_j1_some h
    replace h := h9
    obtain ⟨h1, h2, h⟩ := am_st2_some (ad := ad) h
    refine lv_lstore_n hx hb hd rfl hF.1 (by rw [← hF.2.1]; exact h1) rfl (fun LS2 hl2 => ?_)
    exact hk _ _ _ _ h _ _ _ _ _ _ _ hI (am_Fr_set2 hF h1 h2 hl2 (am_ok_t hF.2.2.2))
  case lstore i =>
    obtain ⟨x, t, rfl, h9⟩ := am_j1_some h
    replace h := h9
    obtain ⟨h1, h2, h⟩ := am_st2_some (ad := ad) h
    refine lv_lstore hx hb hd hF.1 (by rw [← hF.2.1]; exact h1) rfl (fun LS2 hl2 => ?_)
    exact hk _ _ _ _ h _ _ _ _ _ _ _ hI (am_Fr_set2 hF h1 h2 hl2 (am_ok_t hF.2.2.2))
  case iinc i v =>
    split at h
    · rename_i x hx1
      obtain ⟨h1, h2, h⟩ := am_st1_some (ad := ad) h
      obtain ⟨k1, hk1⟩ := List.mem_iff_getElem?.mp (am_lk_mem.mpr ⟨i, am_I x, hx1, (fun z q => by cases q), rfl⟩ : (0 + i, am_cv ad (am_I x)) ∈ am_lk ad 0 ls)
      rw [Nat.zero_add] at hk1
      refine lv_iinc hx hb hd hF.1 hk1 rfl (by rw [← hF.2.1]; exact h1) rfl (fun LS2 hl2 => ?_)
      exact hk _ _ _ _ h _ _ _ _ _ _ _ hI (am_Fr_set hF h1 h2 (am_okI _) (fun z q => by cases q) hl2 hF.2.2.2)
    · cases h
  case iadd =>
    obtain ⟨x, y, t, rfl, h9⟩ := am_i2_some h
    replace h := h9
    exact lv_iadd hx hb hd (hk _ _ _ _ h _ _ _ _ _ _ _ hI (am_Fr_st hF (am_ok_c (am_okI _) (am_ok_t (am_ok_t hF.2.2.2)))))
  case isub =>
    obtain ⟨x, y, t, rfl, h9⟩ := am_i2_some h
    replace h := h9
    exact lv_isub hx hb hd (hk _ _ _ _ h _ _ _ _ _ _ _ hI (am_Fr_st hF (am_ok_c (am_okI _) (am_ok_t (am_ok_t hF.2.2.2)))))
  case imul =>
    obtain ⟨x, y, t, rfl, h9⟩ := am_i2_some h
    replace h := h9
    exact lv_imul hx hb hd (hk _ _ _ _ h _ _ _ _ _ _ _ hI (am_Fr_st hF (am_ok_c (am_okI _) (am_ok_t (am_ok_t hF.2.2.2)))))
  case iand =>
    obtain ⟨x, y, t, rfl, h9⟩ := am_i2_some h
    replace h := h9
    exact lv_iand hx hb hd (hk _ _ _ _ h _ _ _ _ _ _ _ hI (am_Fr_st hF (am_ok_c (am_okI _) (am_ok_t (am_ok_t hF.2.2.2)))))
  case ior =>
    obtain ⟨x, y, t, rfl, h9⟩ := am_i2_some h
    replace h := h9
    exact lv_ior hx hb hd (hk _ _ _ _ h _ _ _ _ _ _ _ hI (am_Fr_st hF (am_ok_c (am_okI _) (am_ok_t (am_ok_t hF.2.2.2)))))
  case ixor =>
    obtain ⟨x, y, t, rfl, h9⟩ := am_i2_some h
    replace h := h9
    exact lv_ixor hx hb hd (hk _ _ _ _ h _ _ _ _ _ _ _ hI (am_Fr_st hF (am_ok_c (am_okI _) (am_ok_t (am_ok_t hF.2.2.2)))))
  case idiv =>
    obtain ⟨x, y, t, rfl, h9⟩ := am_i2_some h
    replace h := h9
    obtain ⟨h0, h⟩ := am_nz_some h
    exact lv_idiv hx hb hd h0 (hk _ _ _ _ h _ _ _ _ _ _ _ hI (am_Fr_st hF (am_ok_c (am_okI _) (am_ok_t (am_ok_t hF.2.2.2)))))
  case irem =>
    obtain ⟨x, y, t, rfl, h9⟩ := am_i2_some h
    replace h := h9
    obtain ⟨h0, h⟩ := am_nz_some h
    exact lv_irem hx hb hd h0 (hk _ _ _ _ h _ _ _ _ _ _ _ hI (am_Fr_st hF (am_ok_c (am_okI _) (am_ok_t (am_ok_t hF.2.2.2)))))
  case ineg =>
    obtain ⟨x, t, rfl, h9⟩ := am_i1_some h
    replace h := h9
    exact lv_ineg hx hb hd (hk _ _ _ _ h _ _ _ _ _ _ _ hI (am_Fr_st hF (am_ok_c (am_okI _) (am_ok_t hF.2.2.2))))
  case ishl =>
    obtain ⟨x, y, t, rfl, h9⟩ := am_i2_some h
    replace h := h9
    exact lv_ishl hx hb hd (hk _ _ _ _ h _ _ _ _ _ _ _ hI (am_Fr_st hF (am_ok_c (am_okI _) (am_ok_t (am_ok_t hF.2.2.2)))))
  case ishr =>
    obtain ⟨x, y, t, rfl, h9⟩ := am_i2_some h
    replace h := h9
    exact lv_ishr hx hb hd (hk _ _ _ _ h _ _ _ _ _ _ _ hI (am_Fr_st hF (am_ok_c (am_okI _) (am_ok_t (am_ok_t hF.2.2.2)))))
  case iushr =>
    obtain ⟨x, y, t, rfl, h9⟩ := am_i2_some h
    replace h := h9
    exact lv_iushr hx hb hd rfl (hk _ _ _ _ h _ _ _ _ _ _ _ hI (am_Fr_st hF (am_ok_c (am_okI _) (am_ok_t (am_ok_t hF.2.2.2)))))
  case ladd =>
    obtain ⟨x, y, t, rfl, h9⟩ := am_j2_some h
    replace h := h9
    exact lv_ladd hx hb hd (hk _ _ _ _ h _ _ _ _ _ _ _ hI (am_Fr_st hF (am_ok_c (am_okJ _) (am_ok_t (am_ok_t hF.2.2.2)))))
  case lsub =>
    obtain ⟨x, y, t, rfl, h9⟩ := am_j2_some h
    replace h := h9
    exact lv_lsub hx hb hd (hk _ _ _ _ h _ _ _ _ _ _ _ hI (am_Fr_st hF (am_ok_c (am_okJ _) (am_ok_t (am_ok_t hF.2.2.2)))))
  case land =>
    obtain ⟨x, y, t, rfl, h9⟩ := am_j2_some h
    replace h := h9
    exact lv_land hx hb hd (hk _ _ _ _ h _ _ _ _ _ _ _ hI (am_Fr_st hF (am_ok_c (am_okJ _) (am_ok_t (am_ok_t hF.2.2.2)))))
  case lor =>
    obtain ⟨x, y, t, rfl, h9⟩ := am_j2_some h
    replace h := h9
    exact lv_lor hx hb hd (hk _ _ _ _ h _ _ _ _ _ _ _ hI (am_Fr_st hF (am_ok_c (am_okJ _) (am_ok_t (am_ok_t hF.2.2.2)))))
  case lxor =>
    obtain ⟨x, y, t, rfl, h9⟩ := am_j2_some h
    replace h := h9
    exact lv_lxor hx hb hd (hk _ _ _ _ h _ _ _ _ _ _ _ hI (am_Fr_st hF (am_ok_c (am_okJ _) (am_ok_t (am_ok_t hF.2.2.2)))))
  case lshl =>
    obtain ⟨x, y, t, rfl, h9⟩ := am_ji_some h
    replace h := h9
    exact lv_lshl hx hb hd rfl (hk _ _ _ _ h _ _ _ _ _ _ _ hI (am_Fr_st hF (am_ok_c (am_okJ _) (am_ok_t (am_ok_t hF.2.2.2)))))
  case lshr =>
    obtain ⟨x, y, t, rfl, h9⟩ := am_ji_some h
    replace h := h9
    exact lv_lshr hx hb hd rfl (hk _ _ _ _ h _ _ _ _ _ _ _ hI (am_Fr_st hF (am_ok_c (am_okJ _) (am_ok_t (am_ok_t hF.2.2.2)))))
  case lushr =>
    obtain ⟨x, y, t, rfl, h9⟩ := am_ji_some h
    replace h := h9
    exact lv_lushr hx hb hd rfl (hk _ _ _ _ h _ _ _ _ _ _ _ hI (am_Fr_st hF (am_ok_c (am_okJ _) (am_ok_t (am_ok_t hF.2.2.2)))))
  case lcmp =>
    obtain ⟨x, y, t, rfl, h9⟩ := am_j2_some h
    replace h := h9
    exact W.lcmp hx hb hd (hk _ _ _ _ h _ _ _ _ _ _ _ hI (am_Fr_st hF (am_ok_c (am_okI _) (am_ok_t (am_ok_t hF.2.2.2)))))
  case i2l =>
    obtain ⟨x, t, rfl, h9⟩ := am_i1_some h
    replace h := h9
    exact lv_i2l hx hb hd rfl (hk _ _ _ _ h _ _ _ _ _ _ _ hI (am_Fr_st hF (am_ok_c (am_okJ _) (am_ok_t hF.2.2.2))))
  case l2i =>
    obtain ⟨x, t, rfl, h9⟩ := am_j1_some h
    replace h := h9
    exact lv_l2i hx hb hd rfl (hk _ _ _ _ h _ _ _ _ _ _ _ hI (am_Fr_st hF (am_ok_c (am_okI _) (am_ok_t hF.2.2.2))))
  case i2b =>
    obtain ⟨x, t, rfl, h9⟩ := am_i1_some h
    replace h := h9
    exact lv_i2b hx hb hd rfl (hk _ _ _ _ h _ _ _ _ _ _ _ hI (am_Fr_st hF (am_ok_c (am_okI _) (am_ok_t hF.2.2.2))))
  case i2s =>
    obtain ⟨x, t, rfl, h9⟩ := am_i1_some h
    replace h := h9
    exact lv_i2s hx hb hd rfl (hk _ _ _ _ h _ _ _ _ _ _ _ hI (am_Fr_st hF (am_ok_c (am_okI _) (am_ok_t hF.2.2.2))))
  case i2c =>
    obtain ⟨x, t, rfl, h9⟩ := am_i1_some h
    replace h := h9
    exact lv_i2c hx hb hd rfl (hk _ _ _ _ h _ _ _ _ _ _ _ hI (am_Fr_st hF (am_ok_c (am_okI _) (am_ok_t hF.2.2.2))))
  case dup =>
    split at h
    · exact lv_dup hx hb hd rfl (hk _ _ _ _ h _ _ _ _ _ _ _ hI (am_Fr_st hF (am_ok_c (am_okI _) hF.2.2.2)))
    · exact lv_dup hx hb hd rfl (hk _ _ _ _ h _ _ _ _ _ _ _ hI (am_Fr_st hF (am_ok_c (hF.2.2.2 _ List.mem_cons_self) hF.2.2.2)))
    · cases h
  case dup_x1 =>
    split at h
    · exact lv_dup_x1 hx hb hd rfl rfl (hk _ _ _ _ h _ _ _ _ _ _ _ hI (am_Fr_st hF (am_ok_c (am_okI _) (am_ok_c (am_ok_t hF.2.2.2 _ List.mem_cons_self) (am_ok_c (am_okI _) (am_ok_t (am_ok_t hF.2.2.2)))))))
    · cases h
  case dup2 =>
    split at h
    · exact lv_dup2_11 hx hb hd rfl rfl (hk _ _ _ _ h _ _ _ _ _ _ _ hI (am_Fr_st hF (am_ok_c (am_okI _) (am_ok_c (am_ok_t hF.2.2.2 _ List.mem_cons_self) hF.2.2.2))))
    · cases h
  case pop =>
    obtain ⟨x, t, rfl, h9⟩ := am_i1_some h
    replace h := h9
    exact lv_pop hx hb hd rfl (hk _ _ _ _ h _ _ _ _ _ _ _ hI (am_Fr_st hF (am_ok_t hF.2.2.2)))
  case goto off =>
    exact lv_goto hx hb hd hq (hk _ _ _ _ h _ _ _ _ _ _ _ hI hF)
  case ifCond cnd off =>
    obtain ⟨x, t, rfl, h9⟩ := am_i1_some h
    replace h := h9
    cases cnd <;> simp only [am_cmp] at h
    · refine lv_if_eq hx hb hd hq (fun w => ?_) (fun w => ?_)
      · rw [if_pos w] at h; exact hk _ _ _ _ h _ _ _ _ _ _ _ hI (am_Fr_st hF (am_ok_t hF.2.2.2))
      · rw [if_neg w] at h; exact hk _ _ _ _ h _ _ _ _ _ _ _ hI (am_Fr_st hF (am_ok_t hF.2.2.2))
    · refine lv_if_ne hx hb hd hq (fun w => ?_) (fun w => ?_)
      · rw [if_pos w] at h; exact hk _ _ _ _ h _ _ _ _ _ _ _ hI (am_Fr_st hF (am_ok_t hF.2.2.2))
      · rw [if_neg (fun q => q w)] at h; exact hk _ _ _ _ h _ _ _ _ _ _ _ hI (am_Fr_st hF (am_ok_t hF.2.2.2))
    · refine lv_if_lt hx hb hd hq (fun w => ?_) (fun w => ?_)
      · rw [if_pos w] at h; exact hk _ _ _ _ h _ _ _ _ _ _ _ hI (am_Fr_st hF (am_ok_t hF.2.2.2))
      · rw [if_neg w] at h; exact hk _ _ _ _ h _ _ _ _ _ _ _ hI (am_Fr_st hF (am_ok_t hF.2.2.2))
    · refine lv_if_ge hx hb hd hq (fun w => ?_) (fun w => ?_)
      · rw [if_pos w] at h; exact hk _ _ _ _ h _ _ _ _ _ _ _ hI (am_Fr_st hF (am_ok_t hF.2.2.2))
      · rw [if_neg w] at h; exact hk _ _ _ _ h _ _ _ _ _ _ _ hI (am_Fr_st hF (am_ok_t hF.2.2.2))
    · refine lv_if_gt hx hb hd hq (fun w => ?_) (fun w => ?_)
      · rw [if_pos w] at h; exact hk _ _ _ _ h _ _ _ _ _ _ _ hI (am_Fr_st hF (am_ok_t hF.2.2.2))
      · rw [if_neg w] at h; exact hk _ _ _ _ h _ _ _ _ _ _ _ hI (am_Fr_st hF (am_ok_t hF.2.2.2))
    · refine lv_if_le hx hb hd hq (fun w => ?_) (fun w => ?_)
      · rw [if_pos w] at h; exact hk _ _ _ _ h _ _ _ _ _ _ _ hI (am_Fr_st hF (am_ok_t hF.2.2.2))
      · rw [if_neg w] at h; exact hk _ _ _ _ h _ _ _ _ _ _ _ hI (am_Fr_st hF (am_ok_t hF.2.2.2))
  case if_icmp cnd off =>
    obtain ⟨x, y, t, rfl, h9⟩ := am_i2_some h
    replace h := h9
    cases cnd <;> simp only [am_cmp] at h
    · refine lv_icmp_eq hx hb hd hq (fun w => ?_) (fun w => ?_)
      · rw [if_pos w] at h; exact hk _ _ _ _ h _ _ _ _ _ _ _ hI (am_Fr_st hF (am_ok_t (am_ok_t hF.2.2.2)))
      · rw [if_neg w] at h; exact hk _ _ _ _ h _ _ _ _ _ _ _ hI (am_Fr_st hF (am_ok_t (am_ok_t hF.2.2.2)))
    · refine lv_icmp_ne hx hb hd hq (fun w => ?_) (fun w => ?_)
      · rw [if_pos w] at h; exact hk _ _ _ _ h _ _ _ _ _ _ _ hI (am_Fr_st hF (am_ok_t (am_ok_t hF.2.2.2)))
      · rw [if_neg (fun q => q w)] at h; exact hk _ _ _ _ h _ _ _ _ _ _ _ hI (am_Fr_st hF (am_ok_t (am_ok_t hF.2.2.2)))
    · refine lv_icmp_lt hx hb hd hq (fun w => ?_) (fun w => ?_)
      · rw [if_pos w] at h; exact hk _ _ _ _ h _ _ _ _ _ _ _ hI (am_Fr_st hF (am_ok_t (am_ok_t hF.2.2.2)))
      · rw [if_neg w] at h; exact hk _ _ _ _ h _ _ _ _ _ _ _ hI (am_Fr_st hF (am_ok_t (am_ok_t hF.2.2.2)))
    · refine lv_icmp_ge hx hb hd hq (fun w => ?_) (fun w => ?_)
      · rw [if_pos w] at h; exact hk _ _ _ _ h _ _ _ _ _ _ _ hI (am_Fr_st hF (am_ok_t (am_ok_t hF.2.2.2)))
      · rw [if_neg w] at h; exact hk _ _ _ _ h _ _ _ _ _ _ _ hI (am_Fr_st hF (am_ok_t (am_ok_t hF.2.2.2)))
    · refine lv_icmp_gt hx hb hd hq (fun w => ?_) (fun w => ?_)
      · rw [if_pos w] at h; exact hk _ _ _ _ h _ _ _ _ _ _ _ hI (am_Fr_st hF (am_ok_t (am_ok_t hF.2.2.2)))
      · rw [if_neg w] at h; exact hk _ _ _ _ h _ _ _ _ _ _ _ hI (am_Fr_st hF (am_ok_t (am_ok_t hF.2.2.2)))
    · refine lv_icmp_le hx hb hd hq (fun w => ?_) (fun w => ?_)
      · rw [if_pos w] at h; exact hk _ _ _ _ h _ _ _ _ _ _ _ hI (am_Fr_st hF (am_ok_t (am_ok_t hF.2.2.2)))
      · rw [if_neg w] at h; exact hk _ _ _ _ h _ _ _ _ _ _ _ hI (am_Fr_st hF (am_ok_t (am_ok_t hF.2.2.2)))
end AMI
