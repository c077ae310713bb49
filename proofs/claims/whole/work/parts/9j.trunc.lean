/-! WHAT LIES BEHIND AN OBJECT'S OR ARRAY'S END DOESN'T COUNT: the machine on a state whose references end where they end -/
def am_bd (X : am_X) (c i : Nat) : Nat := bif Nat.beq (am_tk c) 9 then am_nf c else am_len X c i
def am_tq (X : am_X) (g : Nat → Nat → Nat → Option (Nat × Nat)) : Nat → Nat → Nat → Option (Nat × Nat) := fun c i j => bif Nat.blt j (am_bd X c i) then g c i j else none
def am_tr (X : am_X) (σ : am_S) : am_S := ((σ.1.1, σ.1.2.1, am_tq X σ.1.2.2), (σ.2.1.1, σ.2.1.2.1, am_tq X σ.2.1.2.2), σ.2.2)
section AMT
variable {X : am_X} {σ : am_S} {st ls : List am_V} {k k' : Nat → List am_V → List am_V → am_S → am_R} {Γ Γ' : Nat → List am_V → am_S → am_R}
theorem am_q_tr (c : Nat) : am_q (am_tr X σ) c = ((am_q σ c).1, (am_q σ c).2.1, am_tq X (am_q σ c).2.2) := by
  unfold am_q
  cases Nat.ble 50 c <;> rfl
theorem am_gs_tr (Y : am_X) (c i j : Nat) : am_gs Y (am_tr X σ) c i j = am_gs Y σ c i j := by
  unfold am_gs; rw [am_q_tr]
theorem am_gl_tr (c i j : Nat) : am_gl (am_tr X σ) c i j = am_gl σ c i j := by
  unfold am_gl; rw [am_q_tr]
theorem am_go_tr (c i j : Nat) : am_go (am_tr X σ) c i j = bif Nat.ble 200 c then am_roo c i j else bif Nat.blt j (am_bd X c i) then am_go σ c i j else none := by
  unfold am_go; rw [am_q_tr]
  cases Nat.ble 200 c <;> rfl
theorem am_go_trI {c i j : Nat} (h : Nat.ble 200 c = true ∨ j < am_bd X c i) : am_go (am_tr X σ) c i j = am_go σ c i j := by
  rw [am_go_tr]
  unfold am_go
  cases e : Nat.ble 200 c with
  | true => rfl
  | false =>
    rcases h with h | h
    · rw [e] at h; cases h
    · rw [show Nat.blt j (am_bd X c i) = true from Nat.ble_eq.mpr h]; rfl
theorem am_sq_tr (c : Nat) (q : am_Q) : am_tr X (am_sq σ c q) = am_sq (am_tr X σ) c (q.1, q.2.1, am_tq X q.2.2) := by
  unfold am_sq
  cases Nat.ble 50 c <;> rfl
theorem am_pi_tr (c i j : Nat) (x : Int32) : am_pi (am_tr X σ) c i j x = am_tr X (am_pi σ c i j x) := by
  unfold am_pi; rw [am_sq_tr, am_q_tr]
theorem am_pl_tr (c i j : Nat) (x : Int64) : am_pl (am_tr X σ) c i j x = am_tr X (am_pl σ c i j x) := by
  unfold am_pl; rw [am_sq_tr, am_q_tr]
theorem am_pis_tr (c i : Nat) (g : Nat → Int32) : am_pis (am_tr X σ) c i g = am_tr X (am_pis σ c i g) := by
  unfold am_pis; rw [am_sq_tr, am_q_tr]
theorem am_pls_tr (c i : Nat) (g : Nat → Int64) : am_pls (am_tr X σ) c i g = am_tr X (am_pls σ c i g) := by
  unfold am_pls; rw [am_sq_tr, am_q_tr]
theorem am_po_tr {c i j : Nat} (x : Option (Nat × Nat)) (h : j < am_bd X c i) : am_po (am_tr X σ) c i j x = am_tr X (am_po σ c i j x) := by
  unfold am_po
  rw [am_sq_tr, am_q_tr]
  congr 3
  funext c' i' j'
  unfold am_tq
  simp only [am_w3_eq]
  by_cases e : c' = c ∧ i' = i ∧ j' = j
  · obtain ⟨rfl, rfl, rfl⟩ := e
    rw [if_pos ⟨rfl, rfl, rfl⟩, if_pos ⟨rfl, rfl, rfl⟩, show Nat.blt j' (am_bd X c' i') = true from Nat.ble_eq.mpr h]
    rfl
  · rw [if_neg e, if_neg e]
theorem am_w2_tq (f : Nat → Nat → Nat → Option (Nat × Nat)) (c i : Nat) (g : Nat → Option (Nat × Nat)) (h : ∀ j, am_bd X c i ≤ j → g j = none) : am_w2 (am_tq X f) c i g = am_tq X (am_w2 f c i g) := by
  funext c' i' j'
  unfold am_tq
  rw [am_w2_eq, am_w2_eq]
  by_cases e : c' = c ∧ i' = i
  · obtain ⟨rfl, rfl⟩ := e
    rw [if_pos ⟨rfl, rfl⟩, if_pos ⟨rfl, rfl⟩]
    cases hb : Nat.blt j' (am_bd X c' i') with
    | true => rfl
    | false =>
      refine h j' (Nat.le_of_not_lt fun q => ?_)
      rw [show Nat.blt j' (am_bd X c' i') = true from Nat.ble_eq.mpr q] at hb
      cases hb
  · rw [if_neg e, if_neg e]
theorem am_pos_tr {c i : Nat} (g : Nat → Option (Nat × Nat)) (h : ∀ j, am_bd X c i ≤ j → g j = none) : am_pos (am_tr X σ) c i g = am_tr X (am_pos σ c i g) := by
  unfold am_pos
  rw [am_sq_tr, am_q_tr, am_w2_tq _ _ _ _ h]
theorem am_new_tr (c w : Nat) : am_new (am_tr X σ) c w = am_tr X (am_new σ c w) := by
  have h := am_sq_tr (X := X) (σ := σ) c (am_w2 (am_q σ c).1 c (σ.2.2.1 c) (fun _ => 0), am_w2 (am_q σ c).2.1 c (σ.2.2.1 c) (fun _ => 0), am_w2 (am_q σ c).2.2 c (σ.2.2.1 c) (fun _ => none))
  unfold am_new
  dsimp only
  rw [am_q_tr]
  dsimp only
  rw [am_w2_tq _ _ _ _ (fun _ _ => rfl)]
  have h' : am_sq (am_tr X σ) c (am_w2 (am_q σ c).1 c ((am_tr X σ).2.2.1 c) (fun _ => 0), am_w2 (am_q σ c).2.1 c ((am_tr X σ).2.2.1 c) (fun _ => 0), am_tq X (am_w2 (am_q σ c).2.2 c ((am_tr X σ).2.2.1 c) (fun _ => none))) = am_tr X (am_sq σ c (am_w2 (am_q σ c).1 c (σ.2.2.1 c) (fun _ => 0), am_w2 (am_q σ c).2.1 c (σ.2.2.1 c) (fun _ => 0), am_w2 (am_q σ c).2.2 c (σ.2.2.1 c) (fun _ => none))) := h.symm
  rw [h']
  rfl
theorem am_rows_tr (c w : Nat) : ∀ n, am_rows (am_tr X σ) c w n = am_tr X (am_rows σ c w n)
  | 0 => rfl
  | n + 1 => by rw [am_rows, am_rows, am_rows_tr c w n, am_new_tr]
/-- what comes of it, too -/
def am_T (X : am_X) (r r' : am_R) : Prop := ∀ z, r = some z → r' = some (z.1, am_tr X z.2)
theorem am_Tn {r' : am_R} : am_T X none r' := fun z h => by cases h
theorem am_Te (v : Option am_V) : am_T X (some (v, σ)) (some (v, am_tr X σ)) := fun z h => by cases h; rfl
theorem am_Ti {c : Prop} [Decidable c] {r1 r2 s1 s2 : am_R} (h1 : c → am_T X r1 s1) (h2 : am_T X r2 s2) : am_T X (if c then r1 else r2) (if c then s1 else s2) := by
  by_cases h : c
  · rw [if_pos h, if_pos h]; exact h1 h
  · rw [if_neg h, if_neg h]; exact h2
theorem am_Tb {c : Bool} {r1 r2 s1 s2 : am_R} (h1 : c = true → am_T X r1 s1) (h2 : am_T X r2 s2) : am_T X (bif c then r1 else r2) (bif c then s1 else s2) := by
  cases c
  · exact h2
  · exact h1 rfl
theorem am_Tck {i : Int32} {n : Nat} {r s : am_R} (h : i.toNatClampNeg < n → am_T X r s) : am_T X (am_ck i n r) (am_ck i n s) := by
  unfold am_ck
  by_cases hc : i < 0 ∨ n ≤ i.toNatClampNeg
  · rw [if_pos hc]; exact am_Tn
  · rw [if_neg hc, if_neg hc]; exact h (Nat.lt_of_not_le fun q => hc (Or.inr q))
theorem am_Tbk {x : Int32} {r s : am_R} (h : am_T X r s) : am_T X (am_bk x r) (am_bk x s) := am_Ti (fun _ => h) am_Tn
theorem am_Tnz {x : Int32} {r s : am_R} (h : am_T X r s) : am_T X (am_nz x r) (am_nz x s) := am_Ti (fun _ => am_Tn) h
theorem am_Ti1 {f f' : Int32 → List am_V → am_R} (h : ∀ x t, am_T X (f x t) (f' x t)) : am_T X (am_i1 st f) (am_i1 st f') := by
  unfold am_i1; split
  · exact h _ _
  · exact am_Tn
theorem am_Ti2 {f f' : Int32 → Int32 → List am_V → am_R} (h : ∀ x y t, am_T X (f x y t) (f' x y t)) : am_T X (am_i2 st f) (am_i2 st f') := by
  unfold am_i2; split
  · exact h _ _ _
  · exact am_Tn
theorem am_Tj1 {f f' : Int64 → List am_V → am_R} (h : ∀ x t, am_T X (f x t) (f' x t)) : am_T X (am_j1 st f) (am_j1 st f') := by
  unfold am_j1; split
  · exact h _ _
  · exact am_Tn
theorem am_Tj2 {f f' : Int64 → Int64 → List am_V → am_R} (h : ∀ x y t, am_T X (f x y t) (f' x y t)) : am_T X (am_j2 st f) (am_j2 st f') := by
  unfold am_j2; split
  · exact h _ _ _
  · exact am_Tn
theorem am_Tji {f f' : Int64 → Int32 → List am_V → am_R} (h : ∀ x y t, am_T X (f x y t) (f' x y t)) : am_T X (am_ji st f) (am_ji st f') := by
  unfold am_ji; split
  · exact h _ _ _
  · exact am_Tn
theorem am_Tr1 {f f' : Nat → Nat → List am_V → am_R} (h : ∀ x y t, am_T X (f x y t) (f' x y t)) : am_T X (am_r1 st f) (am_r1 st f') := by
  unfold am_r1; split
  · exact h _ _ _
  · exact am_Tn
theorem am_Tri {f f' : Nat → Nat → Int32 → List am_V → am_R} (h : ∀ x y z t, am_T X (f x y z t) (f' x y z t)) : am_T X (am_ri st f) (am_ri st f') := by
  unfold am_ri; split
  · exact h _ _ _ _
  · exact am_Tn
theorem am_Tir {f f' : Nat → Nat → Int32 → List am_V → am_R} (h : ∀ x y z t, am_T X (f x y z t) (f' x y z t)) : am_T X (am_ir st f) (am_ir st f') := by
  unfold am_ir; split
  · exact h _ _ _ _
  · exact am_Tn
theorem am_Trr {f f' : Nat → Nat → Nat → Nat → List am_V → am_R} (h : ∀ x y z w t, am_T X (f x y z w t) (f' x y z w t)) : am_T X (am_rr st f) (am_rr st f') := by
  unfold am_rr; split
  · exact h _ _ _ _ _
  · exact am_Tn
theorem am_Tiri {f f' : Nat → Nat → Int32 → Int32 → List am_V → am_R} (h : ∀ x y z w t, am_T X (f x y z w t) (f' x y z w t)) : am_T X (am_iri st f) (am_iri st f') := by
  unfold am_iri; split
  · exact h _ _ _ _ _
  · exact am_Tn
theorem am_Tjri {f f' : Nat → Nat → Int32 → Int64 → List am_V → am_R} (h : ∀ x y z w t, am_T X (f x y z w t) (f' x y z w t)) : am_T X (am_jri st f) (am_jri st f') := by
  unfold am_jri; split
  · exact h _ _ _ _ _
  · exact am_Tn
theorem am_Trri {f f' : Nat → Nat → Int32 → Nat → Nat → List am_V → am_R} (h : ∀ x y z w v t, am_T X (f x y z w v t) (f' x y z w v t)) : am_T X (am_rri st f) (am_rri st f') := by
  unfold am_rri; split
  · exact h _ _ _ _ _ _
  · exact am_Tn
theorem am_Tbi {r r' : am_R} {f f' : Int32 → am_S → am_R} (hr : am_T X r r') (h : ∀ x τ, am_T X (f x τ) (f' x (am_tr X τ))) : am_T X (am_bi r f) (am_bi r' f') := by
  intro z hz
  unfold am_bi at hz
  split at hz
  · rw [hr _ rfl]; exact h _ _ z hz
  · cases hz
theorem am_Tbl {r r' : am_R} {f f' : Int64 → am_S → am_R} (hr : am_T X r r') (h : ∀ x τ, am_T X (f x τ) (f' x (am_tr X τ))) : am_T X (am_bl r f) (am_bl r' f') := by
  intro z hz
  unfold am_bl at hz
  split at hz
  · rw [hr _ rfl]; exact h _ _ z hz
  · cases hz
theorem am_Tbr {r r' : am_R} {f f' : Nat → Nat → am_S → am_R} (hr : am_T X r r') (h : ∀ x y τ, am_T X (f x y τ) (f' x y (am_tr X τ))) : am_T X (am_br r f) (am_br r' f') := by
  intro z hz
  unfold am_br at hz
  split at hz
  · rw [hr _ rfl]; exact h _ _ _ z hz
  · cases hz
theorem am_Tbv {r r' : am_R} {f f' : am_S → am_R} (hr : am_T X r r') (h : ∀ τ, am_T X (f τ) (f' (am_tr X τ))) : am_T X (am_bv r f) (am_bv r' f') := by
  intro z hz
  unfold am_bv at hz
  split at hz
  · rw [hr _ rfl]; exact h _ z hz
  · cases hz
theorem am_Tsw {f f' : Nat → am_R} (h : ∀ p, am_T X (f p) (f' p)) (x : Int32) : ∀ (l : List (Int × Nat)) (d : Nat), am_T X (am_sw f x l d) (am_sw f' x l d)
  | [], d => h d
  | (v, t) :: l, d => am_Ti (fun _ => h t) (am_Tsw h x l d)
theorem am_Tcmp {c : ClassFile.Cond} {x y : Int32} {r1 r2 s1 s2 : am_R} (h1 : am_T X r1 s1) (h2 : am_T X r2 s2) : am_T X (am_cmp c x y r1 r2) (am_cmp c x y s1 s2) := by
  cases c <;> exact am_Ti (fun _ => h1) h2
theorem am_Tst1 {f f' : List am_V → am_R} (h : ∀ l, am_T X (f l) (f' l)) (i : Nat) (v : am_V) : am_T X (am_st1 f ls i v) (am_st1 f' ls i v) := am_Tb (fun _ => h _) am_Tn
theorem am_Tst2 {f f' : List am_V → am_R} (h : ∀ l, am_T X (f l) (f' l)) (i : Nat) (v : am_V) : am_T X (am_st2 f ls i v) (am_st2 f' ls i v) := am_Tb (fun _ => h _) am_Tn
theorem am_Tldi {f f' : List am_V → am_R} (h : ∀ l, am_T X (f l) (f' l)) (i : Nat) : am_T X (am_ldi f ls i st) (am_ldi f' ls i st) := by
  unfold am_ldi; split
  · exact h _
  · exact am_Tn
theorem am_Tldl {f f' : List am_V → am_R} (h : ∀ l, am_T X (f l) (f' l)) (i : Nat) : am_T X (am_ldl f ls i st) (am_ldl f' ls i st) := by
  unfold am_ldl; split
  · exact h _
  · exact am_Tn
theorem am_Tlda {f f' : List am_V → am_R} (h : ∀ l, am_T X (f l) (f' l)) (i : Nat) : am_T X (am_lda f ls i st) (am_lda f' ls i st) := by
  unfold am_lda; split
  · exact h _
  · exact am_Tn
theorem am_Trk {as : List am_V} {c : Nat} {r s : am_R} (h : am_T X r s) : am_T X (am_rk as c r) (am_rk as c s) := by
  unfold am_rk; split
  · exact am_Tb (fun _ => h) am_Tn
  · exact am_Tn
theorem am_Tcall (hΓ : ∀ y as τ, am_T X (Γ y as τ) (Γ' y as (am_tr X τ))) {f f' : List am_V → am_S → am_R} (h : ∀ s τ, am_T X (f s τ) (f' s (am_tr X τ))) (r : Nat × Nat × Nat) (b : Bool) (rt : Nat) : am_T X (am_call Γ f r b rt st σ) (am_call Γ' f' r b rt st (am_tr X σ)) := by
  unfold am_call
  refine am_Tb (fun _ => ?_) am_Tn
  split
  · exact am_Tbv (hΓ _ _ _) fun _ => h _ _
  · exact am_Tbi (hΓ _ _ _) fun _ _ => h _ _
  · exact am_Tbl (hΓ _ _ _) fun _ _ => h _ _
  · exact am_Tbr (hΓ _ _ _) fun _ _ _ => h _ _
theorem am_Tacpy {f f' : List am_V → am_S → am_R} (h : ∀ s τ, am_T X (f s τ) (f' s (am_tr X τ))) : am_T X (am_acpy X f st σ) (am_acpy X f' st (am_tr X σ)) := by
  unfold am_acpy
  split
  · refine am_Tb (fun _ => am_Ti (fun _ => am_Tn) ?_) am_Tn
    split
    · rw [am_q_tr, am_q_tr, am_pis_tr]; exact h _ _
    · rw [am_q_tr, am_q_tr, am_pls_tr]; exact h _ _
    · exact am_Tn
  · exact am_Tn
end AMT
