/-! WHAT THE ABSTRACT MACHINE IS WORTH, 13: whole methods -/
section AMH
variable {p : Program} {l : Launch} {e : Env} {R : Room} {s : State} {m : MethodId} {args : Array Value} {below : List Frame} {meth : Method} {c : Code} {H : Heap} {locs : List Loc} {cells slots : Nat} {Q : State → Prop}
variable {X : am_X} {D : va_G} {A : Nat → Prop} {rd ad0 ad : Nat → Nat → Nat} {cA : Nat → Nat → ClassId} {σ0 σ : am_S} {nm : String} {cc : ByteArray} {nL ow pc n : Nat} {ret : Option FieldType} {z : Option am_V × am_S}
variable {ls st : List am_V} {LS : Array Slot} {r : Nat × Nat × Nat} {sw : List (Int × Nat)} {Γ : Nat → List am_V → am_S → am_R}
variable {k : Nat → List am_V → List am_V → am_S → am_R}
/-- what is known of a method -/
def am_mtP (mt : am_Mt) : Prop := plainName mt.1.cls = true ∧ mt.1.cls = am_on mt.2.2.2.2.2.2 ∧ ∀ e ∈ mt.2.2.2.2.1, am_eP (am_on mt.2.2.2.2.2.2) mt.1.name mt.2.1 mt.2.2.2.1 e
theorem am_fl_len (ad : Nat → Nat → Nat) : ∀ as : List am_V, (lg_sl (as.map (am_cv ad))).length = (am_fl as).length := by
  intro as
  induction as with
  | nil => rfl
  | cons v t ih =>
    have hstep : ∀ w : Value, lg_sl (w :: t.map (am_cv ad)) = (if w.category = 2 then [Slot.val w, .second] else [.val w]) ++ lg_sl (t.map (am_cv ad)) := fun w => by unfold lg_sl; rw [List.flatMap_cons]
    rw [List.map_cons, hstep, List.length_append, ih]
    rcases v with v | q
    · cases v <;> simp [am_fl, am_cv, Value.category] <;> omega
    · simp [am_fl, am_cv, Value.category]; omega
theorem am_lk_un (ad : Nat → Nat → Nat) : ∀ (n k : Nat), am_lk ad k (List.replicate n am_un) = [] := by
  intro n
  induction n with
  | zero => intro k; rfl
  | succ n ih => intro k; rw [List.replicate_succ]; exact ih (k + 1)
theorem am_lk_fl (ad : Nat → Nat → Nat) (n : Nat) : ∀ (as : List am_V) (k : Nat) (q : Nat × Value), q ∈ am_lk ad k (am_fl as ++ List.replicate n am_un) → q ∈ lv_args k (as.map (am_cv ad)) := by
  intro as
  induction as with
  | nil => intro k q h; rw [show am_fl ([] : List am_V) ++ List.replicate n am_un = List.replicate n am_un from rfl, am_lk_un] at h; cases h
  | cons v t ih =>
    intro k q h
    rcases v with v | p
    · cases v
      case long x =>
        replace h : q ∈ (k, Value.long x) :: am_lk ad (k + 1 + 1) (am_fl t ++ List.replicate n am_un) := h
        rcases List.mem_cons.mp h with rfl | h
        · exact List.mem_cons_self
        · exact List.mem_cons_of_mem _ (ih _ _ h)
      case double x =>
        replace h : q ∈ (k, Value.double x) :: am_lk ad (k + 1 + 1) (am_fl t ++ List.replicate n am_un) := h
        rcases List.mem_cons.mp h with rfl | h
        · exact List.mem_cons_self
        · exact List.mem_cons_of_mem _ (ih _ _ h)
      case retAddr x =>
        replace h : q ∈ am_lk ad (k + 1) (am_fl t ++ List.replicate n am_un) := h
        exact List.mem_cons_of_mem _ (ih _ _ h)
      case int x =>
        replace h : q ∈ (k, Value.int x) :: am_lk ad (k + 1) (am_fl t ++ List.replicate n am_un) := h
        rcases List.mem_cons.mp h with rfl | h
        · exact List.mem_cons_self
        · exact List.mem_cons_of_mem _ (ih _ _ h)
      case float x =>
        replace h : q ∈ (k, Value.float x) :: am_lk ad (k + 1) (am_fl t ++ List.replicate n am_un) := h
        rcases List.mem_cons.mp h with rfl | h
        · exact List.mem_cons_self
        · exact List.mem_cons_of_mem _ (ih _ _ h)
      case null =>
        replace h : q ∈ (k, Value.null) :: am_lk ad (k + 1) (am_fl t ++ List.replicate n am_un) := h
        rcases List.mem_cons.mp h with rfl | h
        · exact List.mem_cons_self
        · exact List.mem_cons_of_mem _ (ih _ _ h)
      case ref x =>
        replace h : q ∈ (k, Value.ref x) :: am_lk ad (k + 1) (am_fl t ++ List.replicate n am_un) := h
        rcases List.mem_cons.mp h with rfl | h
        · exact List.mem_cons_self
        · exact List.mem_cons_of_mem _ (ih _ _ h)
    · replace h : q ∈ (k, Value.ref (ad p.1 p.2)) :: am_lk ad (k + 1) (am_fl t ++ List.replicate n am_un) := h
      rcases List.mem_cons.mp h with rfl | h
      · exact List.mem_cons_self
      · exact List.mem_cons_of_mem _ (ih _ _ h)
theorem am_entry_ok (as : List am_V) (n : Nat) (h : ∀ v ∈ as, am_okv σ v) : ∀ v ∈ am_entry n as, am_okv σ v := by
  have key : ∀ as : List am_V, (∀ v ∈ as, am_okv σ v) → ∀ v ∈ am_fl as, am_okv σ v := by
    intro as
    induction as with
    | nil => intro _ v hv; cases hv
    | cons w t ih =>
      intro h v hv
      have ht := ih (fun v hv => h v (List.mem_cons_of_mem _ hv))
      have hw := h w List.mem_cons_self
      rcases w with w | p
      · rcases v with v | q
        · trivial
        · have : (Sum.inr q : am_V) ∈ am_fl t := by
            cases w <;> simp [am_fl] at hv <;> exact hv
          exact ht _ this
      · simp only [am_fl] at hv
        rcases List.mem_cons.mp hv with rfl | hv
        · exact hw
        · exact ht _ hv
  intro v hv
  rcases List.mem_append.mp hv with hv | hv
  · exact key as h v hv
  · rw [(List.mem_replicate.mp hv).2]; trivial
/-- a method's end -/
theorem am_snd_ret {ins : Instr} {P : List am_E} {F : Nat} (hr : am_isRet ins = true) (hC : am_Cx p s m args meth c X D A rd nm cc nL ow) (hE : am_eP (am_on ow) nm cc ret (pc, ins, n, r, sw)) (hrt : meth.sig.returnType = ret) (h0 : ∀ c i, 200 ≤ c → ad0 c i = rd c i)
    (h : am_ins Γ X (am_run Γ X P F) pc ins n r sw ls st σ = some z) (hI : am_Inv X D A s rd ad0 σ0 ad cA σ H locs cells slots) (hF : am_Fr σ ad ls st LS nL) :
    W p l e R s m args below meth c H locs cells slots (MQ below (am_Qc X D A ad0 σ0 z) args s (z.2.2.2.2.1 - σ0.2.2.2.1) (z.2.2.2.2.2 - σ0.2.2.2.2) A) (F0 m pc LS (st.map (am_cv ad))) := by
  obtain ⟨hx, hb, hml, hown, hts, hlo, hnm, hA, hK, hRO⟩ := hC
  obtain ⟨hd, hn, hq⟩ := hE
  have hn : n = 1 := by
    rcases hn with hn | ⟨_, _, _, _, hn⟩ | ⟨_, _, hn⟩
    · dsimp only at hn; rw [hn]; cases ins <;> first | rfl | cases hr
    · dsimp only at hn; rw [hn] at hr; cases hr
    · dsimp only at hn; rw [hn] at hr; cases hr
  dsimp only at hd hq
  subst hn
  have fin : z.2 = σ → (∀ v, z.1 = some v → am_okv σ v) → cells = z.2.2.2.2.1 - σ0.2.2.2.1 ∧ slots = z.2.2.2.2.2 - σ0.2.2.2.2 ∧ ∀ t : State, t.heap = H → s.WarmedH t.vm → am_Qc X D A ad0 σ0 z args s (.returned (z.1.map (am_cv ad))) t := by
    intro e1 e2
    obtain ⟨hW, hS, hag, h7, h8, h9, h10⟩ := hI
    refine ⟨by rw [e1]; omega, by rw [e1]; omega, fun t ht hWt => ⟨⟨ad, cA, fun c i hv => ?_, fun c i hc => (hag c i hc).trans (h0 c i hc).symm, rfl, by rw [e1, ht]; exact am_W_moved hWt.alike hW⟩, hS.F ht, by rw [e1]; exact e2, by rw [e1]; exact h8⟩⟩
    rcases hv with hv | hv
    · exact h7 c i hv
    · have hc : 200 ≤ c := by unfold am_rok at hv; omega
      exact (hag c i hc).trans (h0 c i hc).symm
  cases ins
  all_goals first | (cases hr; done) | skip
  all_goals (simp only [am_ins] at h; simp only [am_eQ] at hq)
  case return_ =>
    split at h
    · cases h
      obtain ⟨e1, e2, e3⟩ := fin rfl (fun v hv => by cases hv)
      rw [← e1, ← e2]
      exact W.vret hx hb (hrt.trans hq) e3 hI.2.1.2.2 hd hlo
    · cases h
  case lreturn =>
    split at h
    · cases h
      obtain ⟨e1, e2, e3⟩ := fin rfl (fun v hv => by cases hv; trivial)
      rw [← e1, ← e2]
      exact W.lret hx hb (hrt.trans hq) e3 hI.2.1.2.2 hd hlo
    · cases h
  case areturn =>
    split at h
    · cases h
      obtain ⟨e1, e2, e3⟩ := fin rfl (fun v hv => by cases hv; exact hF.2.2.2 _ List.mem_cons_self)
      rw [← e1, ← e2]
      obtain ⟨nn, hq⟩ := hq
      exact W.aret hx hb (hrt.trans hq) (Or.inl ⟨nn, rfl⟩) (Or.inr ⟨_, rfl⟩) e3 hI.2.1.2.2 hd hlo
    · cases h
  case ireturn =>
    split at h
    · rename_i x
      split at h
      · rename_i er
        cases h
        obtain ⟨e1, e2, e3⟩ := fin rfl (fun v hv => by cases hv; trivial)
        rw [← e1, ← e2]
        rcases hq with ⟨-, q⟩ | ⟨q, -⟩ | ⟨q, -⟩ | ⟨q, -⟩ | q
        · exact W.iret hx hb (hrt.trans q) e3 hI.2.1.2.2 hd hlo
        · omega
        · omega
        · omega
        · omega
      · rename_i er
        obtain ⟨h01, h⟩ := am_bk_some h
        cases h
        obtain ⟨e1, e2, e3⟩ := fin rfl (fun v hv => by cases hv; trivial)
        rw [← e1, ← e2]
        rcases hq with ⟨q, -⟩ | ⟨-, q⟩ | ⟨q, -⟩ | ⟨q, -⟩ | q
        · omega
        · exact W.zret hx hb (hrt.trans q) (am_fit_b h01).1 e3 hI.2.1.2.2 hd hlo
        · omega
        · omega
        · omega
      · rename_i er
        split at h
        case isFalse => cases h
        rename_i hch
        cases h
        obtain ⟨e1, e2, e3⟩ := fin rfl (fun v hv => by cases hv; trivial)
        rw [← e1, ← e2]
        rcases hq with ⟨q, -⟩ | ⟨q, -⟩ | ⟨-, q⟩ | ⟨q, -⟩ | q
        · omega
        · omega
        · exact W.zret hx hb (hrt.trans q) (by have := pk_nc x; rw [hch] at this; exact this) e3 hI.2.1.2.2 hd hlo
        · omega
        · omega
      · rename_i er
        split at h
        case isFalse => cases h
        rename_i hch
        cases h
        obtain ⟨e1, e2, e3⟩ := fin rfl (fun v hv => by cases hv; trivial)
        rw [← e1, ← e2]
        rcases hq with ⟨q, -⟩ | ⟨q, -⟩ | ⟨q, -⟩ | ⟨-, q⟩ | q
        · omega
        · omega
        · omega
        · exact W.zret hx hb (hrt.trans q) (by have := vp_nar_byte x; rw [hch] at this; show Value.int (vp_nar .byte x) = _; rw [this]) e3 hI.2.1.2.2 hd hlo
        · omega
      · cases h
    · cases h

end AMH
set_option maxHeartbeats 1000000 in
/-- THE ABSTRACT MACHINE IS WORTH WHAT THE MACHINE DOES: what a method comes to is its contract -/
theorem am_sound (hML : ∀ (y : Nat) (mt : am_Mt), am_ML[y]? = some mt → am_mtP mt) (l : Launch) (X : am_X) (D : va_G) : ∀ d, am_hG l X D (am_sem X d) d ∧ am_hM (am_sem X d) := by
  intro d
  induction d with
  | zero =>
    refine ⟨fun y as τ zc mt _ h => ?_, fun y as τ zc h => ?_⟩
    · cases h
    · cases h
  | succ d ih =>
    obtain ⟨ihG, ihM⟩ := ih
    have hmono : am_hM (am_sem X (d + 1)) := by
      intro y as τ zc h
      rw [am_sem] at h
      cases hm : am_ML[y]? with
      | none => rw [hm] at h; cases h
      | some mt =>
        rw [hm] at h
        obtain ⟨-, h⟩ := am_bif_some h
        obtain ⟨F, hF⟩ := am_fix_some h
        exact am_run_mono ihM _ _ _ _ _ _ _ hF
    refine ⟨fun y as τ zc mt hmt h => ?_, hmono⟩
    have hmm := hmono y as τ zc h
    refine ⟨hmm.1, hmm.2, fun A rd ad cA sz hasv hag hA => ?_⟩
    rw [am_sem, hmt] at h
    obtain ⟨hle, h⟩ := am_bif_some h
    have hle := Nat.le_of_ble_eq_true hle
    obtain ⟨F, hrun⟩ := am_fix_some h
    obtain ⟨hpl, hcls, hP⟩ := hML y mt hmt
    refine Met.ofW (cc := mt.2.1) (maxL := mt.2.2.1) (ret := mt.2.2.2.1) hpl rfl ?_
    intro p e s m args below meth c s₁ B hml hv
    obtain ⟨rfl, hsz, hW, hK, hRO⟩ := hv
    have hts : ∀ w ∈ am_tbl, w.before (as.map (am_cv ad)).toArray s = true := fun w hw => atoms_spec (ws := am_ws mt) B.pre w (List.mem_cons_of_mem _ hw)
    have hown : s.vm.findClass (am_on mt.2.2.2.2.2.2) = some m.cls := by rw [← hcls]; exact findClass_of_methodNamed B.named
    have hC : am_Cx p s m (as.map (am_cv ad)).toArray meth c X D A rd mt.1.name mt.2.1 mt.2.2.1 mt.2.2.2.2.2.2 :=
      ⟨B.exec, B.bytes, hml, hown, hts, B.notSynchronized, (name_of_methodNamed B.named B.method).1, fun q hq => hA q (by rw [← hsz]; exact hq), hK, hRO⟩
    have hlen : (lg_sl (as.map (am_cv ad))).length ≤ mt.2.2.1 := by rw [am_fl_len]; exact hle
    have hl := lv_entry (as.map (am_cv ad)) (n := mt.2.2.1) hlen
    rw [lg_entry_eq]
    generalize (lg_sl (as.map (am_cv ad)) ++ List.replicate (mt.2.2.1 - (lg_sl (as.map (am_cv ad))).length) Slot.unset).toArray = LS at hl ⊢
    have hF : am_Fr τ ad (am_entry mt.2.2.1 as) [] LS mt.2.2.1 := by
      refine ⟨am_lk_sub hl fun q hq => am_lk_fl ad _ as 0 q hq, ?_, am_entry_ok as _ hasv, fun v hv => by cases hv⟩
      unfold am_entry
      rw [List.length_append, List.length_replicate]
      omega
    have hI : am_Inv X D A s rd ad τ ad cA τ s.heap [] 0 0 := ⟨hW, va_S.rf, hag, fun c i _ => rfl, fun c => Nat.le_refl _, by omega, by omega⟩
    have key := am_snd_run (p := p) (l := l) (e := e) (R := am_rm (d + 1) (zc.2.2.2.2.1 - τ.2.2.2.1) (zc.2.2.2.2.2 - τ.2.2.2.2)) (s := s) (m := m) (below := below) (Q := MQ below (am_Qc X D A ad τ zc) (as.map (am_cv ad)).toArray s (zc.2.2.2.2.1 - τ.2.2.2.1) (zc.2.2.2.2.2 - τ.2.2.2.2) A) (z := zc) (σ0 := τ) (ad0 := ad) hC hP ihG ihM ⟨Nat.le_refl _, Nat.le_refl _⟩
      (by show zc.2.2.2.2.1 ≤ zc.2.2.2.2.1 - τ.2.2.2.1 + τ.2.2.2.1 ∧ zc.2.2.2.2.2 ≤ zc.2.2.2.2.2 - τ.2.2.2.2 + τ.2.2.2.2; omega)
      (fun ins pc n r sw F ls st σ ad1 cA1 H locs cells slots LS hr hE h hI hF => am_snd_ret hr hC hE B.returns hag h hI hF) F
    exact key _ _ _ _ hrun _ _ _ _ _ _ _ hI hF
