/-! WHAT THE ABSTRACT MACHINE IS WORTH, 12: runs -/
section AMH
variable {p : Program} {l : Launch} {e : Env} {R : Room} {s : State} {m : MethodId} {args : Array Value} {below : List Frame} {meth : Method} {c : Code} {H : Heap} {locs : List Loc} {cells slots : Nat} {Q : State → Prop}
variable {X : am_X} {D : va_G} {A : Nat → Prop} {rd ad0 ad : Nat → Nat → Nat} {cA : Nat → Nat → ClassId} {σ0 σ : am_S} {nm : String} {cc : ByteArray} {nL ow pc n : Nat} {ret : Option FieldType} {z : Option am_V × am_S}
variable {ls st : List am_V} {LS : Array Slot} {r : Nat × Nat × Nat} {sw : List (Int × Nat)} {Γ : Nat → List am_V → am_S → am_R}
variable {k : Nat → List am_V → List am_V → am_S → am_R}
/-- what a stretch leaves: no fewer cells and slots than before -/
def am_M (k : Nat → List am_V → List am_V → am_S → am_R) (σ : am_S) (g : am_R) : Prop := ∀ z, g = some z → (∃ (pc : Nat) (ls st : List am_V) (τ : am_S), k pc ls st τ = some z ∧ σ.2.2.2.1 ≤ τ.2.2.2.1 ∧ σ.2.2.2.2 ≤ τ.2.2.2.2) ∨ (σ.2.2.2.1 ≤ z.2.2.2.2.1 ∧ σ.2.2.2.2 ≤ z.2.2.2.2.2)
theorem am_Mn : am_M k σ none := fun z h => by cases h
theorem am_Mr {v : Option am_V} : am_M k σ (some (v, σ)) := fun z h => by cases h; exact Or.inr ⟨Nat.le_refl _, Nat.le_refl _⟩
theorem am_Mk {pc : Nat} {ls st : List am_V} {τ : am_S} (h1 : σ.2.2.2.1 ≤ τ.2.2.2.1 ∧ σ.2.2.2.2 ≤ τ.2.2.2.2) : am_M k σ (k pc ls st τ) := fun z h => Or.inl ⟨pc, ls, st, τ, h, h1⟩
theorem am_Ms {pc : Nat} {ls st : List am_V} : am_M k σ (k pc ls st σ) := am_Mk ⟨Nat.le_refl _, Nat.le_refl _⟩
theorem am_Mi {c : Prop} [Decidable c] {a b : am_R} (h1 : am_M k σ a) (h2 : am_M k σ b) : am_M k σ (if c then a else b) := by split <;> assumption
theorem am_Mb {c : Bool} {a b : am_R} (h1 : am_M k σ a) (h2 : am_M k σ b) : am_M k σ (bif c then a else b) := by cases c <;> assumption
theorem am_Mck {i : Int32} {n : Nat} {a : am_R} (h : am_M k σ a) : am_M k σ (am_ck i n a) := am_Mi am_Mn h
theorem am_Mbk {i : Int32} {a : am_R} (h : am_M k σ a) : am_M k σ (am_bk i a) := am_Mi h am_Mn
theorem am_Mnz {i : Int32} {a : am_R} (h : am_M k σ a) : am_M k σ (am_nz i a) := am_Mi am_Mn h
theorem am_Mi1 {f : Int32 → List am_V → am_R} (h : ∀ x t, am_M k σ (f x t)) : am_M k σ (am_i1 st f) := by unfold am_i1; split; exact h _ _; exact am_Mn
theorem am_Mi2 {f : Int32 → Int32 → List am_V → am_R} (h : ∀ x y t, am_M k σ (f x y t)) : am_M k σ (am_i2 st f) := by unfold am_i2; split; exact h _ _ _; exact am_Mn
theorem am_Mj1 {f : Int64 → List am_V → am_R} (h : ∀ x t, am_M k σ (f x t)) : am_M k σ (am_j1 st f) := by unfold am_j1; split; exact h _ _; exact am_Mn
theorem am_Mj2 {f : Int64 → Int64 → List am_V → am_R} (h : ∀ x y t, am_M k σ (f x y t)) : am_M k σ (am_j2 st f) := by unfold am_j2; split; exact h _ _ _; exact am_Mn
theorem am_Mji {f : Int64 → Int32 → List am_V → am_R} (h : ∀ x y t, am_M k σ (f x y t)) : am_M k σ (am_ji st f) := by unfold am_ji; split; exact h _ _ _; exact am_Mn
theorem am_Mr1 {f : Nat → Nat → List am_V → am_R} (h : ∀ x y t, am_M k σ (f x y t)) : am_M k σ (am_r1 st f) := by unfold am_r1; split; exact h _ _ _; exact am_Mn
theorem am_Mri {f : Nat → Nat → Int32 → List am_V → am_R} (h : ∀ x y a t, am_M k σ (f x y a t)) : am_M k σ (am_ri st f) := by unfold am_ri; split; exact h _ _ _ _; exact am_Mn
theorem am_Mir {f : Nat → Nat → Int32 → List am_V → am_R} (h : ∀ x y a t, am_M k σ (f x y a t)) : am_M k σ (am_ir st f) := by unfold am_ir; split; exact h _ _ _ _; exact am_Mn
theorem am_Mrr {f : Nat → Nat → Nat → Nat → List am_V → am_R} (h : ∀ x y a b t, am_M k σ (f x y a b t)) : am_M k σ (am_rr st f) := by unfold am_rr; split; exact h _ _ _ _ _; exact am_Mn
theorem am_Miri {f : Nat → Nat → Int32 → Int32 → List am_V → am_R} (h : ∀ x y a b t, am_M k σ (f x y a b t)) : am_M k σ (am_iri st f) := by unfold am_iri; split; exact h _ _ _ _ _; exact am_Mn
theorem am_Mjri {f : Nat → Nat → Int32 → Int64 → List am_V → am_R} (h : ∀ x y a b t, am_M k σ (f x y a b t)) : am_M k σ (am_jri st f) := by unfold am_jri; split; exact h _ _ _ _ _; exact am_Mn
theorem am_Mrri {f : Nat → Nat → Int32 → Nat → Nat → List am_V → am_R} (h : ∀ x y a b d t, am_M k σ (f x y a b d t)) : am_M k σ (am_rri st f) := by unfold am_rri; split; exact h _ _ _ _ _ _; exact am_Mn
theorem am_Mcmp {c : ClassFile.Cond} {x y : Int32} {a b : am_R} (h1 : am_M k σ a) (h2 : am_M k σ b) : am_M k σ (am_cmp c x y a b) := by cases c <;> exact am_Mi h1 h2
theorem am_Msw {x : Int32} {f : Nat → am_R} (h : ∀ p, am_M k σ (f p)) (l : List (Int × Nat)) (d : Nat) : am_M k σ (am_sw f x l d) := by
  induction l with
  | nil => exact h d
  | cons q r ih => obtain ⟨v, t⟩ := q; exact am_Mi (h t) ih
theorem am_Mst1 {f : List am_V → am_R} (h : ∀ l, am_M k σ (f l)) (i : Nat) (v : am_V) : am_M k σ (am_st1 f ls i v) := am_Mb (h _) am_Mn
theorem am_Mst2 {f : List am_V → am_R} (h : ∀ l, am_M k σ (f l)) (i : Nat) (v : am_V) : am_M k σ (am_st2 f ls i v) := am_Mb (h _) am_Mn
theorem am_Mldi {f : List am_V → am_R} (h : ∀ l, am_M k σ (f l)) (i : Nat) : am_M k σ (am_ldi f ls i st) := by unfold am_ldi; split; exact h _; exact am_Mn
theorem am_Mldl {f : List am_V → am_R} (h : ∀ l, am_M k σ (f l)) (i : Nat) : am_M k σ (am_ldl f ls i st) := by unfold am_ldl; split; exact h _; exact am_Mn
theorem am_Mlda {f : List am_V → am_R} (h : ∀ l, am_M k σ (f l)) (i : Nat) : am_M k σ (am_lda f ls i st) := by unfold am_lda; split; exact h _; exact am_Mn
theorem am_Mrk {as : List am_V} {c : Nat} {g : am_R} (h : am_M k σ g) : am_M k σ (am_rk as c g) := by unfold am_rk; split; exact am_Mb h am_Mn; exact am_Mn
abbrev am_hM (Γ : Nat → List am_V → am_S → am_R) : Prop := ∀ y as τ zc, Γ y as τ = some zc → τ.2.2.2.1 ≤ zc.2.2.2.2.1 ∧ τ.2.2.2.2 ≤ zc.2.2.2.2.2
theorem am_Mcall (hM : am_hM Γ) {f : List am_V → am_S → am_R} (h : ∀ s τ, σ.2.2.2.1 ≤ τ.2.2.2.1 → σ.2.2.2.2 ≤ τ.2.2.2.2 → am_M k σ (f s τ)) (b : Bool) (rt : Nat) : am_M k σ (am_call Γ f r b rt st σ) := by
  intro z hz
  obtain ⟨-, -, zc, h3, h4⟩ := am_call_some hz
  have := hM _ _ _ _ h3
  exact h _ _ this.1 this.2 z h4
theorem am_Macpy {f : List am_V → am_S → am_R} (h : ∀ s τ, τ.2.2 = σ.2.2 → am_M k σ (f s τ)) : am_M k σ (am_acpy X f st σ) := by
  unfold am_acpy; split
  · refine am_Mb (am_Mi am_Mn ?_) am_Mn
    split
    · exact h _ _ (am_cn_sq _ _ _)
    · exact h _ _ (am_cn_sq _ _ _)
    · exact am_Mn
  · exact am_Mn
theorem am_Mcn {τ : am_S} (h : τ.2.2 = σ.2.2) : σ.2.2.2.1 ≤ τ.2.2.2.1 ∧ σ.2.2.2.2 ≤ τ.2.2.2.2 := by rw [h]; exact ⟨Nat.le_refl _, Nat.le_refl _⟩
theorem am_Mnew {pc : Nat} {ls st : List am_V} {c w : Nat} : am_M k σ (k pc ls st (am_new σ c w)) := am_Mk ⟨Nat.le_succ _, Nat.le_add_right _ _⟩
set_option maxHeartbeats 4000000 in
theorem am_Mins (hM : am_hM Γ) (pc : Nat) (ins : Instr) (n : Nat) (r : Nat × Nat × Nat) (sw : List (Int × Nat)) (ls st : List am_V) (σ : am_S) : am_M k σ (am_ins Γ X k pc ins n r sw ls st σ) := by
  cases ins <;> simp only [am_ins] <;>
    repeat' (first
      | exact am_Mn | exact am_Mr | exact am_Ms
      | exact am_Mk (am_Mcn (am_cn_sq _ _ _))
      | exact am_Mnew
      | refine am_Mi1 fun _ _ => ?_ | refine am_Mi2 fun _ _ _ => ?_ | refine am_Mj1 fun _ _ => ?_ | refine am_Mj2 fun _ _ _ => ?_ | refine am_Mji fun _ _ _ => ?_ | refine am_Mr1 fun _ _ _ => ?_
      | refine am_Mri fun _ _ _ _ => ?_ | refine am_Mir fun _ _ _ _ => ?_ | refine am_Mrr fun _ _ _ _ _ => ?_ | refine am_Miri fun _ _ _ _ _ => ?_ | refine am_Mjri fun _ _ _ _ _ => ?_ | refine am_Mrri fun _ _ _ _ _ _ => ?_
      | refine am_Mst1 (fun _ => ?_) _ _ | refine am_Mst2 (fun _ => ?_) _ _ | refine am_Mldi (fun _ => ?_) _ | refine am_Mldl (fun _ => ?_) _ | refine am_Mlda (fun _ => ?_) _
      | refine am_Mcmp ?_ ?_ | refine am_Msw (fun _ => ?_) _ _ | refine am_Mrk ?_
      | exact am_Mcall hM (fun _ _ h1 h2 => am_Mk ⟨h1, h2⟩) _ _
      | exact am_Macpy (fun _ _ h => am_Mk (am_Mcn h))
      | refine am_Mck ?_ | refine am_Mbk ?_ | refine am_Mnz ?_ | refine am_Mb ?_ ?_ | refine am_Mi ?_ ?_
      | (refine am_Mk ?_
         have h1 := am_rows_nc σ r.2.1 (am_len X r.2.1 0) (am_len X r.1 (σ.2.2.1 r.1))
         have h2 := am_nc_new (am_rows σ r.2.1 (am_len X r.2.1 0) (am_len X r.1 (σ.2.2.1 r.1))) r.1 (am_len X r.1 (σ.2.2.1 r.1))
         unfold am_pos
         rw [am_cn_sq, h2.1, h2.2, h1.1, h1.2]
         omega)
      | split)
theorem am_run_mono (hM : am_hM Γ) (P : List am_E) : ∀ (F pc : Nat) (ls st : List am_V) (σ : am_S) (z : Option am_V × am_S), am_run Γ X P F pc ls st σ = some z → σ.2.2.2.1 ≤ z.2.2.2.2.1 ∧ σ.2.2.2.2 ≤ z.2.2.2.2.2 := by
  intro F
  induction F with
  | zero => intro pc ls st σ z h; exact absurd h (by simp [am_run])
  | succ F ih =>
    intro pc ls st σ z h
    rw [am_run] at h
    cases hf : am_find pc P with
    | none => rw [hf] at h; exact absurd h (by simp)
    | some e =>
      rw [hf] at h
      dsimp only at h
      rcases am_Mins (X := X) (k := am_run Γ X P F) hM _ _ _ _ _ _ _ _ z h with ⟨pc', ls', st', τ, h1, h2, h3⟩ | h1
      · have := ih _ _ _ _ _ h1
        exact ⟨Nat.le_trans h2 this.1, Nat.le_trans h3 this.2⟩
      · exact h1
def am_isRet (ins : Instr) : Bool := match ins with
  | .return_ | .ireturn | .lreturn | .areturn => true
  | _ => false
set_option maxHeartbeats 4000000 in
theorem am_snd_ins {ins : Instr} {d : Nat} (hC : am_Cx p s m args meth c X D A rd nm cc nL ow) (hE : am_eP (am_on ow) nm cc ret (pc, ins, n, r, sw)) (hG : am_hG l X D Γ d) (hRd : d + 2 ≤ R.frames ∧ 100 * (d + 2) ≤ R.locals)
    (hk : am_Ks p l e R s m args below meth c X D A rd ad0 σ0 nL Q z k) (h : am_ins Γ X k pc ins n r sw ls st σ = some z)
    (hI : am_Inv X D A s rd ad0 σ0 ad cA σ H locs cells slots) (hF : am_Fr σ ad ls st LS nL) (hm : am_hm R σ0 z k)
    (hret : am_isRet ins = true → W p l e R s m args below meth c H locs cells slots Q (F0 m pc LS (st.map (am_cv ad)))) : W p l e R s m args below meth c H locs cells slots Q (F0 m pc LS (st.map (am_cv ad))) := by
  cases ins
  all_goals first
    | exact hret rfl
    | exact am_snd_easy rfl hC hE hk h hI hF
    | exact am_snd_getfield hC hE hk h hI hF | exact am_snd_putfield hC hE hk h hI hF | exact am_snd_iaload hC hE hk h hI hF | exact am_snd_baload hC hE hk h hI hF | exact am_snd_laload hC hE hk h hI hF | exact am_snd_aaload hC hE hk h hI hF | exact am_snd_arraylength hC hE hk h hI hF
    | exact am_snd_iastore hC hE hk h hI hF | exact am_snd_bastore hC hE hk h hI hF | exact am_snd_lastore hC hE hk h hI hF | exact am_snd_aastore hC hE hk h hI hF | exact am_snd_getstatic hC hE hk h hI hF | exact am_snd_ldc hC hE hk h hI hF | exact am_snd_ldcw hC hE hk h hI hF
    | exact am_snd_tableswitch hC hE hk h hI hF | exact am_snd_lookupswitch hC hE hk h hI hF
    | exact am_snd_new hC hE hk h hI hF hm | exact am_snd_newarray hC hE hk h hI hF hm | exact am_snd_anewarray hC hE hk h hI hF hm | exact am_snd_multianewarray hC hE hk h hI hF hm
    | exact am_snd_virtual hC hE hG hRd hk h hI hF hm | exact am_snd_static hC hE hG hRd hk h hI hF hm | exact am_snd_special hC hE hG hRd hk h hI hF hm
    | exact absurd h (by simp [am_ins])
theorem am_find_mem {e : am_E} {P : List am_E} {pc : Nat} (h : am_find pc P = some e) : e ∈ P ∧ e.1 = pc := by
  induction P with
  | nil => cases h
  | cons a P ih =>
    unfold am_find at h
    cases hb : Nat.beq pc a.1 with
    | true => rw [hb] at h; cases h; exact ⟨List.mem_cons_self, (Nat.eq_of_beq_eq_true hb).symm⟩
    | false => rw [hb] at h; have := ih h; exact ⟨List.mem_cons_of_mem _ this.1, this.2⟩
/-- a whole run of a method's rows -/
theorem am_snd_run {d : Nat} {P : List am_E} (hC : am_Cx p s m args meth c X D A rd nm cc nL ow) (hP : ∀ e ∈ P, am_eP (am_on ow) nm cc ret e) (hG : am_hG l X D Γ d) (hM : am_hM Γ) (hRd : d + 2 ≤ R.frames ∧ 100 * (d + 2) ≤ R.locals)
    (hz : z.2.2.2.2.1 ≤ R.cells + σ0.2.2.2.1 ∧ z.2.2.2.2.2 ≤ R.slots + σ0.2.2.2.2)
    (hret : ∀ (ins : Instr) (pc n : Nat) (r : Nat × Nat × Nat) (sw : List (Int × Nat)) (F : Nat) (ls st : List am_V) (σ : am_S) (ad : Nat → Nat → Nat) (cA : Nat → Nat → ClassId) (H : Heap) (locs : List Loc) (cells slots : Nat) (LS : Array Slot), am_isRet ins = true → am_eP (am_on ow) nm cc ret (pc, ins, n, r, sw) →
      am_ins Γ X (am_run Γ X P F) pc ins n r sw ls st σ = some z → am_Inv X D A s rd ad0 σ0 ad cA σ H locs cells slots → am_Fr σ ad ls st LS nL → W p l e R s m args below meth c H locs cells slots Q (F0 m pc LS (st.map (am_cv ad)))) :
    ∀ F, am_Ks p l e R s m args below meth c X D A rd ad0 σ0 nL Q z (am_run Γ X P F) := by
  intro F
  induction F with
  | zero => intro pc ls st σ h; exact absurd h (by simp [am_run])
  | succ F ih =>
    intro pc ls st σ h ad cA H locs cells slots LS hI hF
    rw [am_run] at h
    cases hf : am_find pc P with
    | none => rw [hf] at h; exact absurd h (by simp)
    | some en =>
      rw [hf] at h
      dsimp only at h
      obtain ⟨hmem, hpc⟩ := am_find_mem hf
      obtain ⟨pc', ins, n, r, sw⟩ := en
      dsimp only at hpc
      subst hpc
      have hE := hP _ hmem
      refine am_snd_ins hC hE hG hRd ih h hI hF (fun pc2 ls2 st2 τ h2 => ?_) (fun hr => hret _ _ _ _ _ _ _ _ _ _ _ _ _ _ _ _ hr hE h hI hF)
      have := am_run_mono hM P _ _ _ _ _ _ h2
      exact ⟨Nat.le_trans this.1 hz.1, Nat.le_trans this.2 hz.2⟩

end AMH
