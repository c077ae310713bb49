/-! THE START -/
section AMS
variable {p : Program} {l : Launch} {e : Env} {R : Room} {s : State} {m : MethodId} {args : Array Value} {below : List Frame} {meth : Method} {c : Code} {H : Heap} {locs : List Loc} {cells slots : Nat} {Q : State → Prop}
variable {X : am_X} {D : va_G} {A : Nat → Prop} {rd ad0 ad : Nat → Nat → Nat} {cA : Nat → Nat → ClassId} {σ0 σ σ' : am_S} {nm : String} {cc : ByteArray} {nL ow : Nat} {ret : Option FieldType} {z : Option am_V × am_S}
variable {Γ : Nat → List am_V → am_S → am_R}
theorem am_eP_nm {own nm nm' : String} {e : am_E} (h : am_eP own nm cc ret e) (hp : (match e.2.1 with | .putfield _ => true | _ => false) = false) : am_eP own nm' cc ret e := by
  obtain ⟨h1, h2, h3⟩ := h
  refine ⟨h1, h2, ?_⟩
  obtain ⟨pc, ins, n, r, sw⟩ := e
  cases ins <;> first | exact h3 | cases hp
theorem bz_noput : am_P255.all (fun e => !(match e.2.1 with | .putfield _ => true | _ => false)) = true := by decide +kernel
/-- the same world for a state that says the same of all that has been made -/
theorem am_W_sw (hW : am_W X D A s ad cA σ H) (hok : ∀ c i, am_ok σ' c i ↔ am_ok σ c i) (h1 : ∀ c i j, am_ok σ c i → am_gs X σ' c i j = am_gs X σ c i j) (h2 : ∀ c i j, am_ok σ c i → am_gl σ' c i j = am_gl σ c i j) (h3 : ∀ c i j, am_ok σ c i → am_go σ' c i j = am_go σ c i j) : am_W X D A s ad cA σ' H := by
  obtain ⟨ws, w1, w2, w3, w4, w5, w6⟩ := hW
  refine ⟨ws, w1, w2, fun c i hv => ?_, fun c i hv => w4 c i ((hok c i).1 hv), fun c i c' i' hv hv' => w5 c i c' i' ((hok _ _).1 hv) ((hok _ _).1 hv'), fun c i j q hv hq => (hok _ _).2 (w6 c i j q ((hok _ _).1 hv) ((h3 c i j ((hok _ _).1 hv)).symm.trans hq))⟩
  have hv' := (hok c i).1 hv
  obtain ⟨k, hk⟩ := w3 c i hv'
  refine ⟨k, ?_⟩
  rw [am_cell_eq (fun j => h1 c i j hv') (fun j => h2 c i j hv') (fun j => h3 c i j hv')]
  exact hk
/-- on to the next stop -/
theorem am_snd_to {d : Nat} {P : List am_E} {K : Nat → List am_V → List am_V → am_S → am_R} {S : List Nat} (hC : am_Cx p s m args meth c X D A rd nm cc nL ow) (hP : ∀ e ∈ P, am_eP (am_on ow) nm cc ret e) (hG : am_hG l X D Γ d) (hM : am_hM Γ) (hRd : d + 2 ≤ R.frames ∧ 100 * (d + 2) ≤ R.locals)
    (hz : z.2.2.2.2.1 ≤ R.cells + σ0.2.2.2.1 ∧ z.2.2.2.2.2 ≤ R.slots + σ0.2.2.2.2)
    (hk : am_Ks p l e R s m args below meth c X D A rd ad0 σ0 nL Q z K) (hmK : am_hm R σ0 z K)
    (hret : ∀ (ins : Instr) (pc n : Nat) (r : Nat × Nat × Nat) (sw : List (Int × Nat)) (kk : Nat → List am_V → List am_V → am_S → am_R) (ls st : List am_V) (σ : am_S) (ad : Nat → Nat → Nat) (cA : Nat → Nat → ClassId) (H : Heap) (locs : List Loc) (cells slots : Nat) (LS : Array Slot), am_isRet ins = true → am_eP (am_on ow) nm cc ret (pc, ins, n, r, sw) →
      am_ins Γ X kk pc ins n r sw ls st σ = some z → am_Inv X D A s rd ad0 σ0 ad cA σ H locs cells slots → am_Fr σ ad ls st LS nL → W p l e R s m args below meth c H locs cells slots Q (F0 m pc LS (st.map (am_cv ad)))) :
    ∀ n, am_Ks p l e R s m args below meth c X D A rd ad0 σ0 nL Q z (am_to Γ X P S K n) ∧ am_hm R σ0 z (am_to Γ X P S K n) := by
  intro n
  induction n with
  | zero => exact ⟨hk, hmK⟩
  | succ n ih =>
    obtain ⟨ih1, ih2⟩ := ih
    constructor
    · intro pc ls st σ h ad cA H locs cells slots LS hI hF
      rw [am_to] at h
      cases hs : am_mem pc S with
      | true => rw [hs] at h; exact hk _ _ _ _ h _ _ _ _ _ _ _ hI hF
      | false =>
        rw [hs, cond_false] at h
        cases hf : am_find pc P with
        | none => rw [hf] at h; cases h
        | some en =>
          rw [hf] at h
          dsimp only at h
          obtain ⟨hmem, hpc⟩ := am_find_mem hf
          obtain ⟨pc', ins, n', r, sw⟩ := en
          dsimp only at hpc
          subst hpc
          have hE := hP _ hmem
          exact am_snd_ins hC hE hG hRd ih1 h hI hF ih2 (fun hr => hret _ _ _ _ _ _ _ _ _ _ _ _ _ _ _ _ hr hE h hI hF)
    · intro pc ls st τ h
      rw [am_to] at h
      cases hs : am_mem pc S with
      | true => rw [hs] at h; exact hmK _ _ _ _ h
      | false =>
        rw [hs, cond_false] at h
        cases hf : am_find pc P with
        | none => rw [hf] at h; cases h
        | some en =>
          rw [hf] at h
          dsimp only at h
          rcases am_Mins (X := X) (k := am_to Γ X P S K n) hM _ _ _ _ _ _ _ _ z h with ⟨pc', ls', st', τ', h1, h2, h3⟩ | h1
          · have := ih2 _ _ _ _ h1
            exact ⟨Nat.le_trans h2 this.1, Nat.le_trans h3 this.2⟩
          · exact ⟨Nat.le_trans h1.1 hz.1, Nat.le_trans h1.2 hz.2⟩
end AMS
theorem bz_qe_eq {a b : Option (Nat × Nat)} (h : bz_qe a b = true) : a = b := by
  cases a with
  | none => cases b with
    | none => rfl
    | some y => cases h
  | some x => cases b with
    | none => cases h
    | some y =>
      unfold bz_qe at h
      dsimp only at h
      rw [Bool.and_eq_true] at h
      obtain ⟨x1, x2⟩ := x
      obtain ⟨y1, y2⟩ := y
      rw [show x1 = y1 from Nat.eq_of_beq_eq_true h.1, show x2 = y2 from Nat.eq_of_beq_eq_true h.2]
theorem bz_gosd (a a' : Nat → Nat → Nat → Int32) (b b' : Nat → Nat → Nat → Int64) (u : Nat → Nat) (e e' : Nat → Nat → Nat → Int32) (f f' : Nat → Nat → Nat → Int64) (c i j : Nat) : am_go (am_sd a b u e f) c i j = am_go (am_sd a' b' u e' f') c i j := by
  unfold am_go am_q am_sd
  cases Nat.ble 50 c <;> rfl
theorem bz_cnt106 : ∀ c, 106 ≤ c → c < 200 → am_cnt c = 0 := by
  have key : ∀ c, c < 200 → 106 ≤ c → am_cnt c = 0 := by decide +kernel
  exact fun c h1 h2 => key c h2 h1
/-- the first state, said as the others are -/
theorem bz_sw {X : am_X} {τ : am_S} (hC : bz_cC τ = true) (hR : bz_cR X τ = true) :
    (∀ c i, am_ok (am_tr X (am_sd τ.1.1 τ.1.2.1 bz_u τ.2.1.1 τ.2.1.2.1)) c i ↔ am_ok (am_tr X τ) c i) ∧ τ.2.2.2.1 = 257 ∧ τ.2.2.2.2 = 4340 ∧ ∀ c i j, am_ok (am_tr X τ) c i →
      am_gs X (am_tr X (am_sd τ.1.1 τ.1.2.1 bz_u τ.2.1.1 τ.2.1.2.1)) c i j = am_gs X (am_tr X τ) c i j ∧ am_gl (am_tr X (am_sd τ.1.1 τ.1.2.1 bz_u τ.2.1.1 τ.2.1.2.1)) c i j = am_gl (am_tr X τ) c i j ∧ am_go (am_tr X (am_sd τ.1.1 τ.1.2.1 bz_u τ.2.1.1 τ.2.1.2.1)) c i j = am_go (am_tr X τ) c i j := by
  unfold bz_cC at hC
  rw [Bool.and_eq_true, Bool.and_eq_true] at hC
  obtain ⟨c1, c2, c3⟩ := hC
  have cn : ∀ c, c < 200 → τ.2.2.1 c = am_cnt c := fun c hc => Nat.eq_of_beq_eq_true (bz_rng c3 hc)
  have hok : ∀ c i, am_ok (am_tr X (am_sd τ.1.1 τ.1.2.1 bz_u τ.2.1.1 τ.2.1.2.1)) c i ↔ am_ok (am_tr X τ) c i := fun c i => by
    constructor
    · rintro ⟨h1, h2⟩; exact ⟨h1, by show i < τ.2.2.1 c; rw [cn c h1]; exact h2⟩
    · rintro ⟨h1, h2⟩; refine ⟨h1, ?_⟩; show i < am_cnt c; rw [← cn c h1]; exact h2
  refine ⟨hok, Nat.eq_of_beq_eq_true c1, Nat.eq_of_beq_eq_true c2, fun c i j hv => ⟨?_, ?_, ?_⟩⟩
  · rw [am_gs_tr, am_gs_tr]
    unfold am_gs am_q am_sd
    cases Nat.ble 50 c <;> rfl
  · rw [am_gl_tr, am_gl_tr]
    unfold am_gl am_q am_sd
    cases Nat.ble 50 c <;> rfl
  · rw [am_go_tr, am_go_tr]
    have h200 : Nat.ble 200 c = false := am_ble_lt hv.1
    rw [h200, cond_false, cond_false]
    cases hb : Nat.blt j (am_bd X c i) with
    | false => rfl
    | true =>
      rw [cond_true, cond_true]
      have hj : j < am_bd X c i := Nat.ble_eq.mp hb
      have hi : i < am_cnt c := by have := hv.2; rw [← cn c hv.1]; exact this
      have hc : c < 106 := by
        refine Nat.lt_of_not_le fun h => ?_
        rw [bz_cnt106 c h hv.1] at hi
        exact Nat.not_lt_zero i hi
      unfold bz_cR at hR
      rw [bz_gosd τ.1.1 (fun _ _ _ => 0) τ.1.2.1 (fun _ _ _ => 0) bz_u τ.2.1.1 (fun _ _ _ => 0) τ.2.1.2.1 (fun _ _ _ => 0)]
      exact (bz_qe_eq (bz_rng (bz_rng (bz_rng hR hc) hi) hj)).symm
/-! the ten instructions ahead of the loop -/
def bz_L0 : List am_V := [.inr (204, 0), am_un, am_un, am_un]
def bz_L1 : List am_V := [.inr (204, 0), .inr (9, 0), am_un, am_un]
def bz_L2 : List am_V := [.inr (204, 0), .inr (9, 0), .inr (50, 0), am_I (be_i 0)]
set_option maxRecDepth 100000 in
theorem bz_e1 {Γ : Nat → List am_V → am_S → am_R} {X : am_X} {K : Nat → List am_V → List am_V → am_S → am_R} : am_to Γ X am_P255 [18] K 12 0 bz_L0 [] bz_s0 = am_bv (Γ 203 [.inr (9, 0)] (am_new bz_s0 9 10)) (fun τ => am_to Γ X am_P255 [18] K 9 7 bz_L0 [.inr (9, 0)] τ) := rfl
set_option maxRecDepth 100000 in
theorem bz_e2 {Γ : Nat → List am_V → am_S → am_R} {X : am_X} {K : Nat → List am_V → List am_V → am_S → am_R} {σ : am_S} : am_to Γ X am_P255 [18] K 9 7 bz_L0 [.inr (9, 0)] σ = am_bv (Γ 0 [.inr (50, σ.2.2.1 50)] (am_new σ 50 83)) (fun τ => am_to Γ X am_P255 [18] K 5 15 bz_L1 [.inr (50, σ.2.2.1 50)] τ) := rfl
set_option maxRecDepth 100000 in
theorem bz_e3 {Γ : Nat → List am_V → am_S → am_R} {X : am_X} {K : Nat → List am_V → List am_V → am_S → am_R} {σ : am_S} : am_to Γ X am_P255 [18] K 5 15 bz_L1 [.inr (50, 0)] σ = K 18 bz_L2 [] σ := rfl
theorem bz_tr0 (X : am_X) : am_tr X bz_s0 = bz_s0 := by
  have : am_tq X (fun _ _ _ => none) = fun _ _ _ => none := by
    funext c i j
    unfold am_tq
    cases Nat.blt j (am_bd X c i) <;> rfl
  unfold am_tr bz_s0
  dsimp only
  rw [this]
