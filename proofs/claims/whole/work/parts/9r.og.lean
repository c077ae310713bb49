/-! THE OFFICE, 7: the same office in two states -/
variable {d : Nat} {X : am_X} {a : Nat → Nat → Nat → Int32} {b : Nat → Nat → Nat → Int64} {u : Nat → Nat} {e : Nat → Nat → Nat → Int32} {f : Nat → Nat → Nat → Int64}
def bo_SN (e e' : Nat → Nat → Nat → Int32) (f0 N Z : Nat) : Prop := (∀ c k, 61 ≤ c → c ≤ 64 → k < N → (c ≤ 62 ∨ be_g e 61 (10 * f0 + k) < 2) → be_g e' c (10 * f0 + k) = be_g e c (10 * f0 + k)) ∧ ∀ j, j < Z → be_g e' 65 (100 * f0 + j) = be_g e 65 (100 * f0 + j)
def bo_SO (e e' : Nat → Nat → Nat → Int32) (f0 : Nat) : Prop := be_g e' 60 f0 = be_g e 60 f0 ∧ bo_SN e e' f0 10 100
variable {e' : Nat → Nat → Nat → Int32} {f0 N Z : Nat}
theorem bo_SOpos (h : bo_SN e e' f0 N Z) : ∀ k, k ≤ N → be_pos e' f0 k = be_pos e f0 k
  | 0, _ => rfl
  | k + 1, hk => by
    rw [be_pos, be_pos, bo_SOpos h k (by omega), h.1 61 k (by omega) (by omega) (by omega) (by omega)]
    by_cases hw : be_g e 61 (10 * f0 + k) < 2
    · rw [h.1 64 k (by omega) (by omega) (by omega) (Or.inr hw)]
    · rw [if_neg hw, if_neg hw]
theorem bo_SOwn (h : bo_SN e e' f0 N Z) : ∀ k, k ≤ N → be_wn e' f0 k = be_wn e f0 k
  | 0, _ => rfl
  | k + 1, hk => by
    rw [be_wn, be_wn, bo_SOwn h k (by omega), h.1 61 k (by omega) (by omega) (by omega) (by omega)]
theorem bo_SOlF (h : bo_SN e e' f0 N Z) (w z : Int) : ∀ k, k ≤ N → be_lastF e' f0 w z k = be_lastF e f0 w z k
  | 0, _ => rfl
  | k + 1, hk => by
    rw [be_lastF, be_lastF, bo_SOlF h w z k (by omega), h.1 61 k (by omega) (by omega) (by omega) (by omega), h.1 62 k (by omega) (by omega) (by omega) (by omega)]
theorem bo_dpc {t t' : Nat → Int} {s m : Nat} (h : ∀ k, k < m → t' (s + k) = t (s + k)) : ∀ k, k ≤ m → be_dp t' s k = be_dp t s k
  | 0, _ => rfl
  | k + 1, hk => by
    rw [be_dp, be_dp, bo_dpc h k (by omega), h k (by omega)]
theorem bo_wfc {t t' : Nat → Int} {s m : Nat} (h : ∀ k, k < m → t' (s + k) = t (s + k)) (hw : be_wf t s m) : be_wf t' s m := fun k hk => by
  rw [bo_dpc h k (by omega), h k hk]
  exact hw k hk
/-- what is known of the first wishes of an office -/
def bo_VF (e : Nat → Nat → Nat → Int32) (f n : Nat) : Prop :=
  ∀ k, k < n → 0 ≤ be_g e 61 (10 * f + k) ∧ be_g e 61 (10 * f + k) ≤ 3 ∧ 0 ≤ be_g e 62 (10 * f + k) ∧ be_g e 62 (10 * f + k) ≤ 99 ∧ (be_g e 61 (10 * f + k) < 2 →
    be_g e 63 (10 * f + k) = ((100 * f + be_pos e f k : Nat) : Int) ∧ be_g e 64 (10 * f + k) = ((100 * f + be_pos e f (k + 1) : Nat) : Int) ∧ be_pos e f k ≤ be_pos e f (k + 1) ∧ be_pos e f (k + 1) ≤ 100 ∧
    be_wf (be_g e 65) (100 * f + be_pos e f k) (be_pos e f (k + 1) - be_pos e f k) ∧ be_dp (be_g e 65) (100 * f + be_pos e f k) (be_pos e f (k + 1) - be_pos e f k) = 1)
theorem bo_OFV {n : Nat} (hn : be_g e 60 f0 = (n : Int)) (h10 : n ≤ 10) : be_OF e f0 ↔ bo_VF e f0 n := by
  unfold be_OF bo_VF
  rw [hn, Int.toNat_natCast]
  exact ⟨fun h => h.2.2, fun h => ⟨by omega, by omega, h⟩⟩
theorem bo_VFmono {n : Nat} (hV : bo_VF e f0 n) {k : Nat} (hk : k ≤ n) : be_pos e f0 k ≤ be_pos e f0 n := by
  induction n with
  | zero => rw [show k = 0 by omega]; exact Nat.le_refl _
  | succ n ih =>
    by_cases hkn : k = n + 1
    · rw [hkn]; exact Nat.le_refl _
    · have h1 := ih (fun i hi => hV i (by omega)) (by omega)
      have q := hV n (by omega)
      by_cases hw : be_g e 61 (10 * f0 + n) < 2
      · have := (q.2.2.2.2 hw).2.2.1; omega
      · rw [be_pos, if_neg hw]; exact h1
theorem bo_SOVF (h : bo_SN e e' f0 N Z) {n : Nat} (hn : n ≤ N) (hZ : be_pos e f0 n ≤ Z) (hV : bo_VF e f0 n) : bo_VF e' f0 n := by
  intro k hk
  have q := hV k hk
  have hm := bo_VFmono hV (k := k + 1) (by omega)
  rw [h.1 61 k (by omega) (by omega) (by omega) (by omega), h.1 62 k (by omega) (by omega) (by omega) (by omega), bo_SOpos h k (by omega), bo_SOpos h (k + 1) (by omega)]
  refine ⟨q.1, q.2.1, q.2.2.1, q.2.2.2.1, fun hw => ?_⟩
  obtain ⟨q1, q2, q3, q4, q5, q6⟩ := q.2.2.2.2 hw
  rw [h.1 63 k (by omega) (by omega) (by omega) (Or.inr hw), h.1 64 k (by omega) (by omega) (by omega) (Or.inr hw)]
  have hc : ∀ j, j < be_pos e f0 (k + 1) - be_pos e f0 k → be_g e' 65 (100 * f0 + be_pos e f0 k + j) = be_g e 65 (100 * f0 + be_pos e f0 k + j) := fun j hj => by
    have := h.2 (be_pos e f0 k + j) (by omega)
    rw [← Nat.add_assoc] at this
    exact this
  exact ⟨q1, q2, q3, q4, bo_wfc hc q5, by rw [bo_dpc hc _ (Nat.le_refl _)]; exact q6⟩
theorem bo_VFpos {n : Nat} (hV : bo_VF e f0 n) : ∀ k, k ≤ n → be_pos e f0 k ≤ 100
  | 0, _ => Nat.zero_le _
  | k + 1, hk => by
    have q := hV k (by omega)
    have ih := bo_VFpos hV k (by omega)
    by_cases hw : be_g e 61 (10 * f0 + k) < 2
    · exact (q.2.2.2.2 hw).2.2.2.1
    · rw [be_pos, if_neg hw]; exact ih
theorem bo_SOOF (h : bo_SO e e' f0) (hO : be_OF e f0) : be_OF e' f0 := by
  obtain ⟨h1, h2, h3⟩ := hO
  have hn : be_g e 60 f0 = (((be_g e 60 f0).toNat : Nat) : Int) := by omega
  exact (bo_OFV (h.1.trans hn) (by omega)).2 (bo_SOVF h.2 (by omega) (bo_VFpos h3 _ (Nat.le_refl _)) h3)
theorem bo_SOOW (h : bo_SN e e' f0 N Z) {o n : Nat} (hn : n ≤ N) (hZ : be_pos e f0 n ≤ Z) (hO : be_OW a o e f0 n) : be_OW a o e' f0 n := by
  obtain ⟨h1, h2, h3⟩ := hO
  refine ⟨by rw [bo_SOwn h n hn]; exact h1, fun k hk => ?_, fun j hj => ?_⟩
  · rw [h.1 61 k (by omega) (by omega) (by omega) (by omega), h.1 62 k (by omega) (by omega) (by omega) (by omega), bo_SOwn h k (by omega), bo_SOpos h (k + 1) (by omega)]
    exact h2 k hk
  · rw [bo_SOpos h n hn] at hj
    rw [h.2 j (by omega)]
    exact h3 j hj
theorem bo_SOOS (h : bo_SN e e' f0 N Z) {o n : Nat} (hn : n ≤ N) (hZ : be_pos e f0 n ≤ Z) (hO : be_OS a o e f0 n) : be_OS a o e' f0 n := by
  obtain ⟨h1, h2, h3⟩ := hO
  exact ⟨by rw [bo_SOlF h 2 2 n hn]; exact h1, by rw [bo_SOlF h 3 40 n hn]; exact h2, bo_SOOW h hn hZ h3⟩
/-- hold and quarters of the office that holds, from its last ones -/
theorem bo_last (h0 : be_g e 50 13 = (f0 : Int)) (w z : Int) : ∀ k, be_last e w z k = be_lastF e f0 w z k
  | 0 => rfl
  | k + 1 => by
    rw [be_last, be_lastF, bo_last h0 w z k]
    rw [show be_beg e = 10 * f0 by unfold be_beg; omega]
/-- codes, as a row, and as they are known -/
theorem bo_pfwf {t : Nat → Int} : ∀ (cs pre : List Int) (s r : Nat), bo_at t s (pre ++ cs) → be_dp t s pre.length = r → (∃ r', bo_pf r cs = some r') → (∀ k, pre.length ≤ k → k < pre.length + cs.length → (t (s + k) = -33 ∧ 1 ≤ be_dp t s k) ∨ ((t (s + k) = -38 ∨ t (s + k) = -124) ∧ 2 ≤ be_dp t s k) ∨ (0 ≤ t (s + k) ∧ t (s + k) < 6000 ∧ t (s + k) / 100 % 10 ≤ 2 ∧ be_dp t s k ≤ 24)) ∧ bo_pf r cs = some (be_dp t s (pre.length + cs.length)) := by
  intro cs
  induction cs with
  | nil =>
    intro pre s r hA hr _
    refine ⟨fun k h1 h2 => absurd h2 (by rw [List.length_nil]; omega), ?_⟩
    rw [bo_pf, List.length_nil, Nat.add_zero, hr]
  | cons c cs ih =>
    intro pre s r hA hr ⟨r', hp⟩
    have hA2 : bo_at t s (pre ++ [c] ++ cs) := by rw [List.append_assoc]; exact hA
    have hc : t (s + pre.length) = c := (bo_ata.1 hA).2.1
    have hl : (pre ++ [c]).length = pre.length + 1 := by rw [List.length_append]; rfl
    have hdp : be_dp t s (pre ++ [c]).length = (if c = -33 then r else if c < 0 then r - 1 else r + 1) := by rw [hl, be_dp, hc, hr]
    have key : ∀ {r2}, be_dp t s (pre ++ [c]).length = r2 → bo_pf r2 cs = some r' → (t (s + pre.length) = -33 ∧ 1 ≤ be_dp t s pre.length) ∨ ((t (s + pre.length) = -38 ∨ t (s + pre.length) = -124) ∧ 2 ≤ be_dp t s pre.length) ∨ (0 ≤ t (s + pre.length) ∧ t (s + pre.length) < 6000 ∧ t (s + pre.length) / 100 % 10 ≤ 2 ∧ be_dp t s pre.length ≤ 24) →
        (∀ k, pre.length ≤ k → k < pre.length + (c :: cs).length → (t (s + k) = -33 ∧ 1 ≤ be_dp t s k) ∨ ((t (s + k) = -38 ∨ t (s + k) = -124) ∧ 2 ≤ be_dp t s k) ∨ (0 ≤ t (s + k) ∧ t (s + k) < 6000 ∧ t (s + k) / 100 % 10 ≤ 2 ∧ be_dp t s k ≤ 24)) ∧ bo_pf r2 cs = some (be_dp t s (pre.length + (c :: cs).length)) := by
      intro r2 h2 hp2 hfirst
      obtain ⟨g1, g2⟩ := ih (pre ++ [c]) s r2 hA2 h2 ⟨r', hp2⟩
      rw [hl] at g1 g2
      rw [List.length_cons]
      refine ⟨fun k h1 h2 => ?_, by rw [show pre.length + (cs.length + 1) = pre.length + 1 + cs.length by omega]; exact g2⟩
      by_cases hk : k = pre.length
      · subst hk; exact hfirst
      · exact g1 k (by omega) (by omega)
    rw [bo_pf] at hp ⊢
    by_cases h1 : c = -33
    · rw [if_pos h1] at hp hdp ⊢
      by_cases h2 : 1 ≤ r
      · rw [if_pos h2] at hp ⊢
        exact key hdp hp (Or.inl ⟨hc.trans h1, by omega⟩)
      · rw [if_neg h2] at hp; cases hp
    · rw [if_neg h1] at hp hdp ⊢
      by_cases h2 : c = -38 ∨ c = -124
      · rw [if_pos h2] at hp ⊢
        rw [if_pos (by omega)] at hdp
        by_cases h3 : 2 ≤ r
        · rw [if_pos h3] at hp ⊢
          exact key hdp hp (Or.inr (Or.inl ⟨by omega, by omega⟩))
        · rw [if_neg h3] at hp; cases hp
      · rw [if_neg h2] at hp ⊢
        by_cases h3 : 0 ≤ c ∧ c < 6000 ∧ c / 100 % 10 ≤ 2 ∧ r ≤ 24
        · rw [if_pos h3] at hp ⊢
          rw [if_neg (by omega)] at hdp
          exact key hdp hp (Or.inr (Or.inr (by rw [hc]; omega)))
        · rw [if_neg h3] at hp; cases hp
theorem bo_pfw {t : Nat → Int} {cs : List Int} {s : Nat} (hA : bo_at t s cs) (hp : bo_pf 0 cs = some 1) : be_wf t s cs.length ∧ be_dp t s cs.length = 1 := by
  obtain ⟨g1, g2⟩ := bo_pfwf cs [] s 0 hA rfl ⟨1, hp⟩
  rw [List.length_nil, Nat.zero_add] at g1 g2
  rw [hp] at g2
  exact ⟨fun k hk => g1 k (Nat.zero_le _) hk, (Option.some.inj g2).symm⟩
