/-! THE SAME, 2: an instruction, a run, a method -/
section AMT
variable {X : am_X} {σ : am_S} {st ls : List am_V} {k k' : Nat → List am_V → List am_V → am_S → am_R} {Γ Γ' : Nat → List am_V → am_S → am_R}
set_option maxHeartbeats 4000000 in
theorem am_Tins {own nm : String} {cc : ByteArray} {ret : Option FieldType} {pc : Nat} {ins : Instr} {n : Nat} {r : Nat × Nat × Nat} {sw : List (Int × Nat)} (hE : am_eP own nm cc ret (pc, ins, n, r, sw)) (hΓ : ∀ y as τ, am_T X (Γ y as τ) (Γ' y as (am_tr X τ)))
    (hk : ∀ pc ls st τ, am_T X (k pc ls st τ) (k' pc ls st (am_tr X τ))) : am_T X (am_ins Γ X k pc ins n r sw ls st σ) (am_ins Γ' X k' pc ins n r sw ls st (am_tr X σ)) := by
  obtain ⟨-, -, hq⟩ := hE
  dsimp only at hq
  have hcnt : (am_tr X σ).2.2.1 = σ.2.2.1 := rfl
  cases ins <;> simp only [am_ins, am_gs_tr, am_gl_tr, hcnt]
  case getfield i =>
    simp only [am_eQ] at hq
    refine am_Tr1 fun c i t => am_Tb (fun hc => ?_) am_Tn
    have hc := Nat.eq_of_beq_eq_true hc
    split
    · exact hk _ _ _ _
    · rename_i e2
      rw [am_go_trI]
      · exact hk _ _ _ _
      · rcases hq with ⟨q1, q2, q3, q4, q5, q6, q7⟩ | ⟨q1, -⟩
        · refine Or.inr ?_
          unfold am_bd
          rw [hc, q2]
          exact q5
        · rw [hc, q1]; exact Or.inl rfl
    · exact hk _ _ _ _
  case putfield i =>
    simp only [am_eQ] at hq
    obtain ⟨⟨q1, q2, q3, q4, q5, q6, q7⟩, -⟩ := hq
    split
    · exact am_Tir fun c i x t => am_Tb (fun _ => by rw [am_pi_tr]; exact hk _ _ _ _) am_Tn
    · exact am_Tir fun c i x t => am_Tb (fun _ => am_Tbk (by rw [am_pi_tr]; exact hk _ _ _ _)) am_Tn
    · refine am_Trr fun c i c2 i2 t => am_Tb (fun hc => ?_) am_Tn
      rw [Bool.and_eq_true] at hc
      have hc := Nat.eq_of_beq_eq_true hc.1
      rw [am_po_tr]
      · exact hk _ _ _ _
      · unfold am_bd
        rw [hc, q2]
        exact q5
    · exact am_Tn
  case aaload =>
    refine am_Tri fun c i j t => am_Tb (fun hc => am_Tck fun hj => ?_) am_Tn
    have hc := Nat.eq_of_beq_eq_true hc
    rw [am_go_trI]
    · exact hk _ _ _ _
    · refine Or.inr ?_
      unfold am_bd
      rw [hc]
      exact hj
  case aastore =>
    refine am_Trri fun c i j c2 i2 t => am_Tb (fun hc => am_Tck fun hj => ?_) am_Tn
    rw [Bool.and_eq_true] at hc
    have hc := Nat.eq_of_beq_eq_true hc.1
    rw [am_po_tr]
    · exact hk _ _ _ _
    · unfold am_bd
      rw [hc]
      exact hj
  case new i => rw [am_new_tr]; exact hk _ _ _ _
  case newarray a => exact am_Ti1 fun x t => am_Ti (fun _ => by rw [am_new_tr]; exact hk _ _ _ _) am_Tn
  case anewarray a => exact am_Ti1 fun x t => am_Ti (fun _ => by rw [am_new_tr]; exact hk _ _ _ _) am_Tn
  case multianewarray a b =>
    simp only [am_eQ] at hq
    obtain ⟨q1, q2, q3, q4, q5, -⟩ := hq
    refine am_Ti2 fun x y t => am_Ti (fun _ => ?_) am_Tn
    rw [am_rows_tr, am_new_tr, am_pos_tr]
    · exact hk _ _ _ _
    · intro j hj
      have hbd : am_bd X r.1 (σ.2.2.1 r.1) = am_len X r.1 (σ.2.2.1 r.1) := by unfold am_bd; rw [q5]; rfl
      rw [hbd] at hj
      cases hb : Nat.blt j (am_len X r.1 (σ.2.2.1 r.1)) with
      | false => rfl
      | true => exact absurd (Nat.ble_eq.mp hb : j < _) (by omega)
  all_goals
    repeat' (first
      | exact hk _ _ _ _ | exact am_Tn | exact am_Te _
      | refine am_Ti1 fun _ _ => ?_ | refine am_Ti2 fun _ _ _ => ?_ | refine am_Tj1 fun _ _ => ?_ | refine am_Tj2 fun _ _ _ => ?_ | refine am_Tji fun _ _ _ => ?_ | refine am_Tr1 fun _ _ _ => ?_
      | refine am_Tri fun _ _ _ _ => ?_ | refine am_Tir fun _ _ _ _ => ?_ | refine am_Trr fun _ _ _ _ _ => ?_ | refine am_Tiri fun _ _ _ _ _ => ?_ | refine am_Tjri fun _ _ _ _ _ => ?_ | refine am_Trri fun _ _ _ _ _ _ => ?_
      | refine am_Tst1 (fun _ => ?_) _ _ | refine am_Tst2 (fun _ => ?_) _ _ | refine am_Tldi (fun _ => ?_) _ | refine am_Tldl (fun _ => ?_) _ | refine am_Tlda (fun _ => ?_) _
      | refine am_Tcmp ?_ ?_ | refine am_Tsw (fun _ => ?_) _ _ _ | refine am_Trk ?_ | refine am_Tcall hΓ (fun _ _ => ?_) _ _ _ | refine am_Tacpy (fun _ _ => ?_)
      | refine am_Tck (fun _ => ?_) | refine am_Tbk ?_ | refine am_Tnz ?_
      | (simp only [am_pi_tr, am_pl_tr]; exact hk _ _ _ _)
      | refine am_Tb (fun _ => ?_) ?_ | refine am_Ti (fun _ => ?_) ?_
      | split)
theorem am_Trun {own nm : String} {cc : ByteArray} {ret : Option FieldType} {P : List am_E} (hP : ∀ e ∈ P, am_eP own nm cc ret e) (hΓ : ∀ y as τ, am_T X (Γ y as τ) (Γ' y as (am_tr X τ))) : ∀ (F pc : Nat) (ls st : List am_V) (τ : am_S), am_T X (am_run Γ X P F pc ls st τ) (am_run Γ' X P F pc ls st (am_tr X τ))
  | 0, _, _, _, _ => am_Tn
  | F + 1, pc, ls, st, τ => by
    rw [am_run, am_run]
    cases hf : am_find pc P with
    | none => exact am_Tn
    | some e =>
      obtain ⟨hm, hpc⟩ := am_find_mem hf
      obtain ⟨pc', ins, n, r, sw⟩ := e
      dsimp only at hpc ⊢
      subst hpc
      exact am_Tins (hP _ hm) hΓ (fun _ _ _ _ => am_Trun hP hΓ F _ _ _ _)
theorem am_Tfix {own nm : String} {cc : ByteArray} {ret : Option FieldType} {P : List am_E} (hP : ∀ e ∈ P, am_eP own nm cc ret e) (hΓ : ∀ y as τ, am_T X (Γ y as τ) (Γ' y as (am_tr X τ))) (pc : Nat) (ls st : List am_V) (τ : am_S) : am_T X (am_fix Γ X P pc ls st τ) (am_fix Γ' X P pc ls st (am_tr X τ)) := by
  intro z hz
  obtain ⟨F, hF⟩ := am_fix_some hz
  exact am_fix_of (am_Trun hP hΓ F _ _ _ _ z hF)
theorem am_Tsem : ∀ (d y : Nat) (as : List am_V) (τ : am_S), am_T X (am_sem X d y as τ) (am_sem X d y as (am_tr X τ))
  | 0, _, _, _ => am_Tn
  | d + 1, y, as, τ => by
    rw [am_sem, am_sem]
    cases hm : am_ML[y]? with
    | none => exact am_Tn
    | some mt =>
      dsimp only
      exact am_Tb (fun _ => am_Tfix (am_hML y mt hm).2.2 (fun y as τ => am_Tsem d y as τ) _ _ _ _) am_Tn
/-! what is counted out is what it comes to -/
theorem am_Tcal (F : Nat) : ∀ (d y : Nat) (as : List am_V) (τ : am_S), am_T X (am_cal X F d y as τ) (am_sem X d y as (am_tr X τ))
  | 0, _, _, _ => am_Tn
  | d + 1, y, as, τ => by
    rw [am_cal, am_sem]
    cases hm : am_ML[y]? with
    | none => exact am_Tn
    | some mt =>
      dsimp only
      refine am_Tb (fun _ z hz => ?_) am_Tn
      exact am_fix_of (am_Trun (am_hML y mt hm).2.2 (fun y as τ => am_Tcal F d y as τ) F _ _ _ _ z hz)
end AMT
