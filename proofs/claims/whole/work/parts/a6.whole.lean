theorem bz_ret {p : Program} {l : Launch} {e : Env} {s : State} {m : MethodId} {below : List Frame} {meth : Method} {c : Code} {H : Heap} {locs : List Loc} {cells slots : Nat} {X : am_X} {D : va_G} {rd ad0 ad : Nat → Nat → Nat} {cA : Nat → Nat → ClassId} {σ0 σ : am_S} {nm : String} {Γ : Nat → List am_V → am_S → am_R} {kk : Nat → List am_V → List am_V → am_S → am_R} {ls st : List am_V} {LS : Array Slot} {b pc n : Nat} {r : Nat × Nat × Nat} {sw : List (Int × Nat)} {ins : Instr} {z : Option am_V × am_S}
    (hx : p.tables.exec = Jvm.exec) (hb : c.code = code) (hr : meth.sig.returnType = ret) (hlocks : meth.locks = false) (hi : am_isRet ins = true) (hE : am_eP (am_on 16) nm code (some .boolean) (pc, ins, n, r, sw)) (h : am_ins Γ X kk pc ins n r sw ls st σ = some z) (hz1 : z.1 = some (am_I (be_i 1))) (hz2 : z.2.2.2.2.1 ≤ 600000) (hz3 : z.2.2.2.2.2 ≤ 7302250)
    (hI : am_Inv X D (fun q : Nat => s.heap.size ≤ q) s rd ad0 σ0 ad cA σ H locs cells slots) : W p l e room_1 s m #[Value.ref b] below meth c H locs cells slots (lw_Z below #[Value.ref b] s) (F0 m pc LS (st.map (am_cv ad))) := by
  obtain ⟨hd, hn, hq⟩ := hE
  have hn : n = 1 := by
    rcases hn with hn | ⟨_, _, _, _, hn⟩ | ⟨_, _, hn⟩
    · dsimp only at hn; rw [hn]; cases ins <;> first | rfl | cases hi
    · dsimp only at hn; rw [hn] at hi; cases hi
    · dsimp only at hn; rw [hn] at hi; cases hi
  dsimp only at hd hq
  subst hn
  obtain ⟨-, hS, -, -, -, h8, h9⟩ := hI
  have fin : ∀ x : Int32, z = (some (am_I x), σ) → decode code pc = .ok (.ireturn, 1) → W p l e room_1 s m #[Value.ref b] below meth c H locs cells slots (lw_Z below #[Value.ref b] s) (F0 m pc LS [Value.int x]) := by
    intro x hz hdg
    subst hz
    dsimp only at hz1 hz2 hz3
    have hx1 : x = 1 := by
      have := Option.some.inj hz1
      have := Sum.inl.inj this
      exact Value.int.inj this
    subst hx1
    refine va_forget (fun q hq => hS.2.2 q hq) ?_
    refine W.widen (k := 600000) (n := 7302250) (by omega) (by omega) ?_
    exact lw_ret hx hb hr hlocks hdg
  cases ins
  all_goals first | (cases hi; done) | skip
  all_goals (simp only [am_ins] at h; simp only [am_eQ] at hq)
  case return_ => cases hq
  case lreturn => cases hq
  case areturn => obtain ⟨_, hq⟩ := hq; cases hq
  case ireturn =>
    split at h
    · rename_i x
      split at h
      · cases h; exact fin x rfl hd
      · obtain ⟨h01, h⟩ := am_bk_some h
        cases h; exact fin x rfl hd
      · split at h
        · cases h; exact fin x rfl hd
        · cases h
      · split at h
        · cases h; exact fin x rfl hd
        · cases h
      · cases h
    · cases h
theorem bz_lawP (nm : String) : ∀ e ∈ am_P255, am_eP (am_on 16) nm code (some .boolean) e := fun e he => am_eP_nm (am_lawP e he) (by
  have := List.all_eq_true.mp bz_noput e he
  rw [Bool.not_eq_true'] at this
  exact this)
theorem am_Ps {rd : Nat → Nat → Nat} {D : va_G} {X : am_X} {s : State} : am_W X D (fun q : Nat => s.heap.size ≤ q) s rd (fun _ _ => default) bz_s0 s.heap :=
  ⟨[], fun k q h => by simp at h, ⟨fun i j p q h => by simp at h, fun k q h => by simp at h⟩, fun c i hv => absurd hv.2 (Nat.not_lt_zero i), fun c i hv => absurd hv.2 (Nat.not_lt_zero i), fun c i c' i' hv => absurd hv.2 (Nat.not_lt_zero i), fun c i j q hv => absurd hv.2 (Nat.not_lt_zero i)⟩
set_option maxHeartbeats 2000000 in
/-- from the entry the law comes to its end with true -/
theorem whole_start {p : Program} {e : Env} {s : State} {m : MethodId} {below : List Frame} {meth : Method} {c : Code} (l : Launch) (hflags : l.flags = flags0) {b L : Nat} {xs : Nat → Int32} (hL : L ≤ 3072) (C0 : lw_At p s m meth c b L xs) : W p l e room_1 s m #[Value.ref b] below meth c s.heap [] 0 0 (lw_Z below #[Value.ref b] s) (entryFrame m ([Value.ref b] : List Value).toArray 4) := by
  obtain ⟨hx, hb, hr, hml, hown, hts, hX, hbl, hlocks, hgv⟩ := id C0
  obtain ⟨rd, X, hXL, hrd, hRO⟩ := am_ro0 hts hgv hX hbl hL
  have htb : ∀ w ∈ am_tbl, w.before #[Value.ref b] s = true := fun w hw => hts w (List.mem_filter.mp hw).1
  obtain ⟨D, hK⟩ := am_knD htb
  have hC : am_Cx p s m #[Value.ref b] meth c X D (fun q : Nat => s.heap.size ≤ q) rd meth.name code 4 16 := ⟨hx, hb, hml, hown, htb, hlocks, rfl, fun q h => h, hK, hRO⟩
  obtain ⟨hG, hM⟩ := am_sound am_hML l X D 200
  obtain ⟨τ1, τ2, r1, r50, r2, k1, k2, k3, k4⟩ := bz_res X
  obtain ⟨w1, w2, w3, w4⟩ := bz_sw k1 k2
  -- the loop
  obtain ⟨a', b', u', e', f', hrun⟩ := be_law (X := X) (d := 200) (by omega) (by omega) (L + 1) 0 τ2.1.1 τ2.1.2.1 bz_u τ2.2.1.1 τ2.2.1.2.1 (by omega) (Nat.zero_le _) (bz_IV k3 k4)
  have hfix := am_Tfix (X := X) am_lawP (fun y as τ => am_Tsem 200 y as τ) 18 bz_L2 [] (am_sd τ2.1.1 τ2.1.2.1 bz_u τ2.2.1.1 τ2.2.1.2.1) _ hrun
  obtain ⟨F, hF⟩ := am_fix_some hfix
  obtain ⟨z, hzd⟩ : ∃ z : Option am_V × am_S, z = (some (am_I (be_i 1)), am_tr X (am_sd a' b' u' e' f')) := ⟨_, rfl⟩
  have hF : am_run (am_sem X 200) X am_P255 F 18 bz_L2 [] (am_tr X (am_sd τ2.1.1 τ2.1.2.1 bz_u τ2.2.1.1 τ2.2.1.2.1)) = some z := by rw [hzd]; exact hF
  have hz1 : z.1 = some (am_I (be_i 1)) := by rw [hzd]
  have hz2 : z.2.2.2.2.1 = 257 := by rw [hzd]; rfl
  have hz3 : z.2.2.2.2.2 = 4340 := by rw [hzd]; rfl
  have hzR : z.2.2.2.2.1 ≤ room_1.cells + bz_s0.2.2.2.1 ∧ z.2.2.2.2.2 ≤ room_1.slots + bz_s0.2.2.2.2 := by
    rw [hz2, hz3]
    exact ⟨Nat.le_of_ble_eq_true rfl, Nat.le_of_ble_eq_true rfl⟩
  have hRd : 200 + 2 ≤ room_1.frames ∧ 100 * (200 + 2) ≤ room_1.locals := ⟨Nat.le_of_ble_eq_true rfl, Nat.le_of_ble_eq_true rfl⟩
  have hks := am_snd_run (p := p) (l := l) (e := e) (R := room_1) (s := s) (m := m) (args := #[Value.ref b]) (below := below) (meth := meth) (c := c) (Q := lw_Z below #[Value.ref b] s) (ad0 := rd) (σ0 := bz_s0) (z := z) hC (bz_lawP meth.name) hG hM hRd hzR
    (fun ins pc n r sw F ls st σ ad cA H locs cells slots LS hi hE h hI hF => bz_ret hx hb hr hlocks hi hE h hz1 (by omega) (by omega) hI) F
  have hF0 := hF
  -- ahead of it
  obtain ⟨K, hKd⟩ : ∃ K : Nat → List am_V → List am_V → am_S → am_R, K = fun pc ls st σ => @ite _ (pc = 18 ∧ ls = bz_L2 ∧ st = [] ∧ σ = am_tr X τ2) (Classical.propDecidable _) (some z) none := ⟨_, rfl⟩
  have hKz : ∀ {pc ls st σ}, K pc ls st σ = some z → pc = 18 ∧ ls = bz_L2 ∧ st = [] ∧ σ = am_tr X τ2 := by
    intro pc ls st σ h
    rw [hKd] at h
    dsimp only at h
    split at h
    · assumption
    · cases h
  have hto := am_snd_to (p := p) (l := l) (e := e) (R := room_1) (s := s) (m := m) (args := #[Value.ref b]) (below := below) (meth := meth) (c := c) (Q := lw_Z below #[Value.ref b] s) (ad0 := rd) (σ0 := bz_s0) (z := z) (K := K) (S := [18]) hC (bz_lawP meth.name) hG hM hRd hzR
    (fun pc ls st σ h ad cA H locs cells slots LS hI hF => by
      obtain ⟨rfl, rfl, rfl, rfl⟩ := hKz h
      obtain ⟨i1, i2, i3, i4, i5, i6, i7⟩ := hI
      refine hks 18 bz_L2 [] _ hF0 ad cA H locs cells slots LS ⟨am_W_sw i1 w1 (fun c i j hv => (w4 c i j hv).1) (fun c i j hv => (w4 c i j hv).2.1) (fun c i j hv => (w4 c i j hv).2.2), i2, i3, i4, fun c => Nat.zero_le _, ?_, ?_⟩ ?_
      · rw [show (am_tr X τ2).2.2.2.1 = 257 from w2] at i6
        exact i6
      · rw [show (am_tr X τ2).2.2.2.2 = 4340 from w3] at i7
        exact i7
      · obtain ⟨f1, f2, f3, f4⟩ := hF
        refine ⟨f1, f2, fun v hv => ?_, fun v hv => ?_⟩
        · have := f3 v hv
          rcases v with v | q
          · trivial
          · exact this.imp (fun h => (w1 _ _).2 h) id
        · have := f4 v hv
          rcases v with v | q
          · trivial
          · exact this.imp (fun h => (w1 _ _).2 h) id)
    (fun pc ls st τ h => by
      obtain ⟨rfl, rfl, rfl, rfl⟩ := hKz h
      show τ2.2.2.2.1 ≤ _ ∧ τ2.2.2.2.2 ≤ _
      rw [w2, w3]
      exact ⟨Nat.le_of_ble_eq_true rfl, Nat.le_of_ble_eq_true rfl⟩)
    (fun ins pc n r sw kk ls st σ ad cA H locs cells slots LS hi hE h hI hF => bz_ret hx hb hr hlocks hi hE h hz1 (by omega) (by omega) hI) 12
  have hl := lv_entry ([Value.ref b]) (n := 4) (Nat.le_of_ble_eq_true rfl)
  rw [lg_entry_eq]
  generalize (lg_sl ([Value.ref b]) ++ List.replicate (4 - (lg_sl ([Value.ref b])).length) Slot.unset).toArray = LS at hl ⊢
  have q1 := am_Tcal (X := X) 2000 200 203 [.inr (9, 0)] (am_new bz_s0 9 10) _ r1
  rw [← am_new_tr, bz_tr0] at q1
  have q2 := am_Tcal (X := X) 2000 200 0 [.inr (50, 0)] (am_new τ1 50 83) _ r2
  rw [← am_new_tr] at q2
  have hend : am_to (am_sem X 200) X am_P255 [18] K 12 0 bz_L0 [] bz_s0 = some z := by
    rw [bz_e1, q1, be_bv, bz_e2, show (am_tr X τ1).2.2.1 50 = 0 from r50, q2, be_bv, bz_e3, hKd]
    exact if_pos ⟨rfl, rfl, rfl, rfl⟩
  have hl2 : lv_has LS 4 [(0, .ref (rd 204 0))] := by rw [hrd]; exact hl
  refine hto.1 0 bz_L0 [] bz_s0 hend rd (fun _ _ => default) s.heap [] 0 0 LS ⟨am_Ps, va_S.rf, fun _ _ _ => rfl, fun _ _ _ => rfl, fun _ => Nat.le_refl _, rfl, rfl⟩ ⟨hl2, rfl, fun v hv => ?_, fun v hv => absurd hv List.not_mem_nil⟩
  unfold bz_L0 at hv
  rcases List.mem_cons.mp hv with rfl | hv
  · exact Or.inr (Or.inr ⟨Or.inr (Or.inr (Or.inl rfl)), rfl⟩)
  · rcases List.mem_cons.mp hv with rfl | hv
    · trivial
    · rcases List.mem_cons.mp hv with rfl | hv
      · trivial
      · rcases List.mem_cons.mp hv with rfl | hv
        · trivial
        · exact absurd hv List.not_mem_nil
set_option maxHeartbeats 4000000 in
theorem lw_walk (l : Launch) (hflags : l.flags = flags0) (b : Addr) (xs : List Int32) : MetFree l x (headSpec (Jvm.Cond.code x code maxLocals ret :: tables_1) room_1) (lw_P b xs) (fun _ _ _ _ _ => True) lw_Q := by
  refine MetFree.of_bodyS (code := code) (maxLocals := maxLocals) (ret := ret) (by decide) ?_ ?_
  · intro args s m h hn
    obtain ⟨meth, c, h1, h2, h3, h4, h5, h6, -, -⟩ := Cond.code_spec hn (atoms_spec (ws := Jvm.Cond.code x code maxLocals ret :: tables_1) h _ List.mem_cons_self)
    exact ⟨meth, c, h1, h2, h3, h4, h5, h6⟩
  · intro p e s m args below meth c s₁ B hml0 hP _
    obtain ⟨rfl, hx, hbd, hgv⟩ := hP
    obtain ⟨scr, harrAt, hlist, hof, hsmall⟩ := hx
    obtain ⟨hcb, hkn, -, -⟩ := State.arrayAt?_spec harrAt
    have hown : s.vm.findClass R_law = some m.cls := findClass_of_methodNamed B.named
    have hts0 : ∀ c ∈ (Jvm.Cond.code x code maxLocals ret :: tables_1), c.before #[Value.ref b] s = true := atoms_spec (ws := Jvm.Cond.code x code maxLocals ret :: tables_1) B.pre
    have hts : ∀ w ∈ lw_tbl, w.before #[Value.ref b] s = true := k2_hts_sels lw_privs (fun w hw => hts0 w (List.mem_cons_of_mem _ hw)) lw_privs_ok
    have hml : c.maxLocals = 4 := B.maxLocals_eq (hts0 _ List.mem_cons_self)
    have X₀ : Stand p l e room_1 s m #[Value.ref b] below meth c s₁ [] 0 0 := Stand.of_body B
    have hh0 : s₁.heap = s.heap := by rw [B.state]; rfl
    have hsz : scr.slots.size = xs.length := by rw [← Array.length_toList, hlist, List.length_map]
    have hval : ∀ j : Nat, j < xs.length → scr.slots[j]? = some (.int (xs.getD j 0)) := fun j hj => by
      rw [← Array.getElem?_toList, hlist]
      simp [hj]
    have hbl : b < s.heap.size := (Array.getElem?_eq_some_iff.mp hcb).1
    have hX : va_X b xs.length (fun j => xs.getD j 0) s s.heap := ⟨scr, hcb, hof, hkn, hsz, hval⟩
    have K : W p l e room_1 s m #[Value.ref b] below meth c s₁.heap [] 0 0 (lw_Z below #[Value.ref b] s) (entryFrame m ([Value.ref b] : List Value).toArray 4) := by
      rw [hh0]
      exact whole_start l hflags hbd ⟨B.exec, B.bytes, B.returns, hml, hown, hts, hX, hbl, B.notSynchronized, hgv⟩
    obtain ⟨t, a1, o, b1, b2, b3⟩ := K s₁ rfl X₀
    exact ⟨t, o, a1, b1, b2, b3⟩
theorem lw_pre_spec {args : Array Value} {s : State} (h : (Jvm.Cond.and given_1 narrow_1).before args s = true) (hr : rest_1_c.before args s = true) : ∃ (b : Addr) (xs : List Int32), lw_P b xs args s := by
  have hs := flat_of_before _ h
  have hq := flat_of_before _ hr
  have hc : (Cond.count 1).before args s = true := hs _ (by decide +kernel)
  have harr : (Cond.arrayOf (.arg 0) .int).before args s = true := hs _ (by decide +kernel)
  have hle : (Cond.le (.length (.arg 0)) (.int 3072)).before args s = true := hs _ (by decide +kernel)
  have hlen : (Cond.isInt (.length (.arg 0))).before args s = true := hq _ (by decide +kernel)
  have hall : (Cond.all (.arg 0) (.isInt (.elem (.arg 0) (.index 0)))).before args s = true := hq _ (by decide +kernel)
  obtain ⟨b, xs, hb, hx⟩ := State.ints_of_pre rfl harr hlen hall
  have hsm : xs.length < 2 ^ 31 := hx.choose_spec.2.2.2
  have hev : (Term.length (.arg 0)).eval args s none [] s = some (.int xs.length.toInt32) := hx.length_eval hb
  have hv := Cond.le_ints hev (show (Term.int 3072).eval args s none [] s = some (.int 3072) from rfl)
  have hd : xs.length.toInt32 ≤ 3072 := by
    simpa [Cond.before, Cond.holds, hv] using hle
  have hN : xs.length ≤ 3072 := (Int32.ofNat_le_ofNat hsm (by decide)).mp (show Int32.ofNat xs.length ≤ Int32.ofNat 3072 from hd)
  exact ⟨b, xs, Cond.one_arg hc (show args[0]? = some (.ref b) from hb), hx, hN, h⟩
theorem lw_comes (l : Launch) (hflags : l.flags = flags0) : Comes l x (Jvm.Cond.code x code maxLocals ret :: tables_1) room_1 (fun tb e args s => Calls_1 tb e args s ∧ rest_1 tb e args s ∧ Pre_1 tb e args s)
    (fun _ _ args s o t => lw_Q args s o t) := by
  intro p e ha hc hk s m args below hf hfit hheap happ hpre
  obtain ⟨b, xs, hP⟩ := lw_pre_spec hpre.2.2 hpre.2.1
  obtain ⟨k, o, h1, h2, h3, hQ⟩ := lw_walk l hflags b xs p e ha hc hk s m args below hf ((Spec.applies_iff_loose hf).mp happ).1 hP trivial
  exact ⟨k, o, h1, h2, h3, hQ⟩
theorem lw_frame {s t : State} {o : Outcome} {args : Array Value} (h : Framed s o t [] 600000 7302250) :
    Framed s o t (fieldLocs frame_1_writes args s ++ arrayLocs frame_1_arrays args s ++ staticLocs frame_1_statics s) 600000 7302250 := h
theorem lw_limb (L : Cond) (hL : ∀ (args : Array Value) (s t : State), L.after args s (.returned (some (.int 1))) t = true) :
    ArmFor flags0 classFile x code maxLocals ret World_1 tables_1 room_1 Calls_1 rest_1 Pre_1
      (fun tb e a s o t => postC L tb e a s o t ∧ Framed s o t (fieldLocs frame_1_writes a s ++ arrayLocs frame_1_arrays a s ++ staticLocs frame_1_statics s) 600000 7302250) := by
  intro l hflags _ _ p e ha hc hk s m args below hf hfit hheap happ hpre
  obtain ⟨k, o, h1, h2, h3, rfl, hF⟩ := lw_comes l hflags p e ha hc hk s m args below hf hfit hheap happ hpre
  exact ⟨k, _, h1, h2, h3, hL args s _, lw_frame hF⟩
theorem i_vc : Claimed_1_1 ∧ Claimed_1_2 := ⟨lw_limb limb_1_1 (fun args s t => by simp [limb_1_1, Cond.after, Cond.holds, Cond.value]), lw_limb limb_1_2 (fun args s t => Cond.after_iff.mpr (by
  first | (rw [show limb_1_2 = Cond.eq .result (.int 1) from rfl, Cond.eq_ints (x := 1) (y := 1) rfl rfl]; simp; done) | (simp [limb_1_2, Cond.value, Term.eval]; done)))⟩

