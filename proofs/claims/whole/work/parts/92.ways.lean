/-! WAYS, 1: of all ways that with the most hours, or the greatest worth; said twice -/
/-- n things done one after another -/
def bw_fold {α : Type} (g : Nat → α → α) : Nat → α → α
  | 0, s => s
  | r + 1, s => g r (bw_fold g r s)
theorem bw_fold_add {α : Type} (g : Nat → α → α) (m : Nat) : ∀ (k : Nat) (s : α), bw_fold g (m + k) s = bw_fold (fun i => g (m + i)) k (bw_fold g m s)
  | 0, _ => rfl
  | k + 1, s => by rw [← Nat.add_assoc, bw_fold, bw_fold, bw_fold_add g m k s]
theorem bw_fold_congr {α : Type} {g g' : Nat → α → α} : ∀ {k : Nat}, (∀ i, i < k → ∀ s, g i s = g' i s) → ∀ s, bw_fold g k s = bw_fold g' k s
  | 0, _, _ => rfl
  | k + 1, h, s => by rw [bw_fold, bw_fold, bw_fold_congr (fun i hi => h i (by omega)) s, h k (by omega)]
theorem bw_fold_id {α : Type} {g : Nat → α → α} : ∀ {k : Nat}, (∀ i, i < k → ∀ s, g i s = s) → ∀ s, bw_fold g k s = s
  | 0, _, _ => rfl
  | k + 1, h, s => by rw [bw_fold, bw_fold_id (fun i hi => h i (by omega)) s, h k (by omega)]
theorem bw_fold_mul {α : Type} (g : Nat → α → α) (M : Nat) : ∀ (k : Nat) (s : α), bw_fold g (k * M) s = bw_fold (fun r => bw_fold (fun i => g (r * M + i)) M) k s
  | 0, s => by rw [Nat.zero_mul]; rfl
  | k + 1, s => by rw [Nat.succ_mul, bw_fold_add, bw_fold, bw_fold_mul g M k s]
abbrev bw_S : Type := Int × Int × (Nat → Nat)
def bw_leaf (q : Bool) (c : Nat) (w : Int) (y : Nat → Nat) (s : bw_S) : bw_S :=
  if (bif q then decide (s.1 < (c : Int) ∨ ((c : Int) = s.1 ∧ s.2.1 < w)) else decide (s.2.1 < w)) = true then ((c : Int), w, y) else s
/-- an hour may have a room, as those ahead of it have theirs; 9: none -/
def bw_ok (F K : Nat → Nat → Bool) (y : Nat → Nat) (h r : Nat) : Bool := F h r && !be_any (fun o => decide (y o = r) && K o h) h
def bw_sc (q : Bool) (nr : Nat) (F K : Nat → Nat → Bool) (W : Nat → Nat → Int) : Nat → Nat → (Nat → Nat) → Nat → Int → bw_S → bw_S
  | 0, _, y, c, w, s => bw_leaf q c w y s
  | k + 1, h, y, c, w, s => bw_sc q nr F K W k (h + 1) (am_u y h 9) c w
      (bw_fold (fun r s => bif bw_ok F K y h r then bw_sc q nr F K W k (h + 1) (am_u y h r) (c + 1) (w + W h r) s else s) nr s)
/-- what need not be looked at -/
theorem bw_prune (nr : Nat) (F K : Nat → Nat → Bool) (W : Nat → Nat → Int) : ∀ (k h : Nat) (y : Nat → Nat) (c : Nat) (w : Int) (s : bw_S), ((c + k : Nat) : Int) < s.1 → bw_sc true nr F K W k h y c w s = s
  | 0, h, y, c, w, s, hs => by
    rw [bw_sc, bw_leaf, if_neg]
    rw [cond_true, decide_eq_true_iff]
    omega
  | k + 1, h, y, c, w, s, hs => by
    have hf : bw_fold (fun r s => bif bw_ok F K y h r then bw_sc true nr F K W k (h + 1) (am_u y h r) (c + 1) (w + W h r) s else s) nr s = s := by
      have key : ∀ m, bw_fold (fun r s => bif bw_ok F K y h r then bw_sc true nr F K W k (h + 1) (am_u y h r) (c + 1) (w + W h r) s else s) m s = s := by
        intro m
        induction m with
        | zero => rfl
        | succ m ih =>
          rw [bw_fold, ih]
          cases bw_ok F K y h m with
          | false => rfl
          | true => exact bw_prune nr F K W k (h + 1) _ (c + 1) _ s (by omega)
      exact key nr
    rw [bw_sc, hf]
    exact bw_prune nr F K W k (h + 1) _ c w s (by omega)
/-! the same, way by way: a way is a number, five to an hour, 4: none -/
def bw_d9 (r : Nat) : Nat := if r = 4 then 9 else r
def bw_yy (y0 : Nat → Nat) : Nat → Nat → Nat → Nat
  | 0, _ => y0
  | h + 1, Q => am_u (bw_yy y0 h (Q / 5)) h (bw_d9 (Q % 5))
def bw_vl (F K : Nat → Nat → Bool) (y0 : Nat → Nat) : Nat → Nat → Bool
  | 0, _ => true
  | h + 1, Q => bw_vl F K y0 h (Q / 5) && (decide (Q % 5 = 4) || bw_ok F K (bw_yy y0 h (Q / 5)) h (Q % 5))
def bw_ct : Nat → Nat → Nat
  | 0, _ => 0
  | h + 1, Q => bw_ct h (Q / 5) + (if Q % 5 = 4 then 0 else 1)
def bw_wt (W : Nat → Nat → Int) : Nat → Nat → Int
  | 0, _ => 0
  | h + 1, Q => bw_wt W h (Q / 5) + (if Q % 5 = 4 then 0 else W h (Q % 5))
def bw_lf (q : Bool) (F K : Nat → Nat → Bool) (W : Nat → Nat → Int) (y0 : Nat → Nat) (n N : Nat) (s : bw_S) : bw_S :=
  bif bw_vl F K y0 n N then bw_leaf q (bw_ct n N) (bw_wt W n N) (bw_yy y0 n N) s else s
theorem bw_all (q : Bool) (nr : Nat) (hnr : nr ≤ 4) (F K : Nat → Nat → Bool) (hF : ∀ h r, nr ≤ r → r < 4 → F h r = false) (W : Nat → Nat → Int) (y0 : Nat → Nat) (n : Nat) : ∀ (k h P : Nat) (s : bw_S), h + k = n →
    bw_fold (fun i => bw_lf q F K W y0 n (P * 5 ^ k + i)) (5 ^ k) s = bif bw_vl F K y0 h P then bw_sc q nr F K W k h (bw_yy y0 h P) (bw_ct h P) (bw_wt W h P) s else s
  | 0, h, P, s, hk => by
    obtain rfl : h = n := hk
    rw [Nat.pow_zero, Nat.mul_one]
    rfl
  | k + 1, h, P, s, hk => by
    have ih := fun Q s => bw_all q nr hnr F K hF W y0 n k (h + 1) Q s (by omega)
    have e1 : (fun i => bw_lf q F K W y0 n (P * 5 ^ (k + 1) + i)) = fun i => (fun j => bw_lf q F K W y0 n (P * 5 ^ (k + 1) + j)) i := rfl
    have hd : ∀ r, r < 5 → (5 * P + r) / 5 = P ∧ (5 * P + r) % 5 = r := fun r hr => by omega
    have key : ∀ r, r < 5 → ∀ s, bw_fold (fun i => bw_lf q F K W y0 n (P * 5 ^ (k + 1) + (r * 5 ^ k + i))) (5 ^ k) s = bif bw_vl F K y0 h P then (bif decide (r = 4) || bw_ok F K (bw_yy y0 h P) h r then bw_sc q nr F K W k (h + 1) (am_u (bw_yy y0 h P) h (bw_d9 r)) (bw_ct h P + (if r = 4 then 0 else 1)) (bw_wt W h P + (if r = 4 then 0 else W h r)) s else s) else s := by
      intro r hr s
      have hi := ih (5 * P + r) s
      rw [show (fun i => bw_lf q F K W y0 n (P * 5 ^ (k + 1) + (r * 5 ^ k + i))) = fun i => bw_lf q F K W y0 n ((5 * P + r) * 5 ^ k + i) from funext fun i => by rw [Nat.pow_succ, Nat.add_mul, Nat.add_assoc, show P * (5 ^ k * 5) = 5 * P * 5 ^ k by rw [Nat.mul_comm (5 ^ k) 5, ← Nat.mul_assoc, Nat.mul_comm P 5]], hi, bw_vl, bw_yy, bw_ct, bw_wt, (hd r hr).1, (hd r hr).2]
      cases bw_vl F K y0 h P <;> rfl
    rw [Nat.pow_succ, Nat.mul_comm (5 ^ k) 5, bw_fold_mul, bw_fold_congr (g' := fun r s => bif bw_vl F K y0 h P then (bif decide (r = 4) || bw_ok F K (bw_yy y0 h P) h r then bw_sc q nr F K W k (h + 1) (am_u (bw_yy y0 h P) h (bw_d9 r)) (bw_ct h P + (if r = 4 then 0 else 1)) (bw_wt W h P + (if r = 4 then 0 else W h r)) s else s) else s) (fun r hr s => by
      have := key r hr s
      rw [Nat.pow_succ, Nat.mul_comm (5 ^ k) 5] at this
      exact this)]
    cases hv : bw_vl F K y0 h P with
    | false => exact bw_fold_id (fun _ _ _ => rfl) s
    | true =>
      simp only [cond_true]
      rw [bw_sc, bw_fold]
      simp only [decide_true, Bool.true_or, cond_true, if_true, Nat.add_zero, Int.add_zero]
      rw [show bw_d9 4 = 9 from rfl]
      congr 1
      have h4 : bw_fold (fun r s => bif decide (r = 4) || bw_ok F K (bw_yy y0 h P) h r then bw_sc q nr F K W k (h + 1) (am_u (bw_yy y0 h P) h (bw_d9 r)) (bw_ct h P + (if r = 4 then 0 else 1)) (bw_wt W h P + (if r = 4 then 0 else W h r)) s else s) 4 s =
          bw_fold (fun r s => bif bw_ok F K (bw_yy y0 h P) h r then bw_sc q nr F K W k (h + 1) (am_u (bw_yy y0 h P) h r) (bw_ct h P + 1) (bw_wt W h P + W h r) s else s) 4 s := by
        refine bw_fold_congr (fun i hi s => ?_) s
        have n4 : ¬ i = 4 := by omega
        unfold bw_d9
        simp only [n4, decide_false, Bool.false_or, if_false]
      rw [h4, show 4 = nr + (4 - nr) by omega, bw_fold_add]
      refine bw_fold_id (fun i hi s => ?_) _
      have : bw_ok F K (bw_yy y0 h P) h (nr + i) = false := by
        unfold bw_ok
        rw [hF h (nr + i) (by omega) (by omega)]
        rfl
      rw [this]
      rfl
/-- all ways by number are all ways -/
theorem bw_enum (q : Bool) (nr : Nat) (hnr : nr ≤ 4) (F K : Nat → Nat → Bool) (hF : ∀ h r, nr ≤ r → r < 4 → F h r = false) (W : Nat → Nat → Int) (y0 : Nat → Nat) (n : Nat) (s : bw_S) : bw_fold (bw_lf q F K W y0 n) (5 ^ n) s = bw_sc q nr F K W n 0 y0 0 0 s := by
  have h := bw_all q nr hnr F K hF W y0 n n 0 0 s (Nat.zero_add n)
  rw [show (fun i => bw_lf q F K W y0 n (0 * 5 ^ n + i)) = bw_lf q F K W y0 n from funext fun i => by rw [Nat.zero_mul, Nat.zero_add]] at h
  exact h
/-! what a number's way is, hour by hour -/
def bw_D (n N h : Nat) : Nat := N / 5 ^ (n - 1 - h) % 5
theorem bw_D_s {n N h : Nat} (hh : h < n) : bw_D (n + 1) N h = bw_D n (N / 5) h := by
  unfold bw_D
  rw [show n + 1 - 1 - h = (n - 1 - h) + 1 by omega, Nat.pow_succ, Nat.mul_comm, Nat.div_div_eq_div_mul]
theorem bw_D_l (n N : Nat) : bw_D (n + 1) N n = N % 5 := by
  unfold bw_D
  rw [show n + 1 - 1 - n = 0 by omega, Nat.pow_zero, Nat.div_one]
theorem bw_yyD (y0 : Nat → Nat) : ∀ (n N h : Nat), h < n → bw_yy y0 n N h = bw_d9 (bw_D n N h)
  | 0, _, _, hh => by omega
  | n + 1, N, h, hh => by
    rw [bw_yy, be_ub]
    by_cases e : h = n
    · subst e; rw [if_pos rfl, bw_D_l]
    · rw [if_neg e, bw_yyD y0 n (N / 5) h (by omega), bw_D_s (by omega)]
theorem bw_vlD (F K : Nat → Nat → Bool) (y0 : Nat → Nat) : ∀ (n N : Nat), bw_vl F K y0 n N = true ↔ ∀ h, h < n → bw_D n N h = 4 ∨ (F h (bw_D n N h) = true ∧ ∀ o, o < h → bw_D n N o = bw_D n N h → K o h = false)
  | 0, N => by
    constructor
    · intro _ h hh; omega
    · intro _; rfl
  | n + 1, N => by
    have ih := bw_vlD F K y0 n (N / 5)
    have hlast : bw_D (n + 1) N n = N % 5 := bw_D_l n N
    have hok : (decide (N % 5 = 4) || bw_ok F K (bw_yy y0 n (N / 5)) n (N % 5)) = true ↔ (bw_D (n + 1) N n = 4 ∨ (F n (bw_D (n + 1) N n) = true ∧ ∀ o, o < n → bw_D (n + 1) N o = bw_D (n + 1) N n → K o n = false)) := by
      rw [hlast, Bool.or_eq_true, decide_eq_true_iff]
      unfold bw_ok
      rw [Bool.and_eq_true, Bool.not_eq_true', ← Bool.not_eq_true, be_any_iff]
      constructor
      · rintro (h | ⟨h1, h2⟩)
        · exact Or.inl h
        · by_cases h4 : N % 5 = 4
          · exact Or.inl h4
          · refine Or.inr ⟨h1, fun o ho he => ?_⟩
            rw [← Bool.not_eq_true]
            intro hK
            refine h2 ⟨o, ho, ?_⟩
            rw [bw_yyD y0 n _ o ho, ← bw_D_s ho, he, hK, Bool.and_true, decide_eq_true_iff]
            unfold bw_d9
            rw [if_neg h4]
      · rintro (h | ⟨h1, h2⟩)
        · exact Or.inl h
        · by_cases h4 : N % 5 = 4
          · exact Or.inl h4
          · refine Or.inr ⟨h1, ?_⟩
            rintro ⟨o, ho, hq⟩
            rw [Bool.and_eq_true, decide_eq_true_iff, bw_yyD y0 n _ o ho, ← bw_D_s ho] at hq
            have hD : bw_D (n + 1) N o = N % 5 := by
              have h1 := hq.1
              have h5 : bw_D (n + 1) N o < 5 := Nat.mod_lt _ (by decide)
              have h6 : N % 5 < 5 := Nat.mod_lt _ (by decide)
              unfold bw_d9 at h1
              split at h1 <;> omega
            rw [h2 o ho hD] at hq
            exact Bool.noConfusion hq.2
    rw [bw_vl, Bool.and_eq_true, ih, hok]
    constructor
    · rintro ⟨h1, h2⟩ h hh
      by_cases e : h = n
      · subst e; exact h2
      · have := h1 h (by omega)
        rw [bw_D_s (by omega)]
        rcases this with t | ⟨t1, t2⟩
        · exact Or.inl t
        · refine Or.inr ⟨t1, fun o ho he => t2 o ho ?_⟩
          rw [bw_D_s (by omega)] at he
          exact he
    · intro h
      refine ⟨fun g hg => ?_, h n (by omega)⟩
      have := h g (by omega)
      rw [bw_D_s (by omega)] at this
      rcases this with t | ⟨t1, t2⟩
      · exact Or.inl t
      · refine Or.inr ⟨t1, fun o ho he => t2 o ho ?_⟩
        rw [bw_D_s (by omega)]
        exact he
/-- sums from the first hour on -/
def bw_cn (n N : Nat) : Nat → Nat
  | 0 => 0
  | h + 1 => bw_cn n N h + (if bw_D n N h = 4 then 0 else 1)
def bw_wn (W : Nat → Nat → Int) (n N : Nat) : Nat → Int
  | 0 => 0
  | h + 1 => bw_wn W n N h + (if bw_D n N h = 4 then 0 else W h (bw_D n N h))
theorem bw_cn_s (n N : Nat) : ∀ h, h ≤ n → bw_cn (n + 1) N h = bw_cn n (N / 5) h
  | 0, _ => rfl
  | h + 1, hh => by rw [bw_cn, bw_cn, bw_cn_s n N h (by omega), bw_D_s (by omega)]
theorem bw_wn_s (W : Nat → Nat → Int) (n N : Nat) : ∀ h, h ≤ n → bw_wn W (n + 1) N h = bw_wn W n (N / 5) h
  | 0, _ => rfl
  | h + 1, hh => by rw [bw_wn, bw_wn, bw_wn_s W n N h (by omega), bw_D_s (by omega)]
theorem bw_ctD : ∀ n N : Nat, bw_ct n N = bw_cn n N n
  | 0, _ => rfl
  | n + 1, N => by rw [bw_ct, bw_cn, bw_cn_s n N n (Nat.le_refl n), bw_ctD n, bw_D_l]
theorem bw_wtD (W : Nat → Nat → Int) : ∀ n N : Nat, bw_wt W n N = bw_wn W n N n
  | 0, _ => rfl
  | n + 1, N => by rw [bw_wt, bw_wn, bw_wn_s W n N n (Nat.le_refl n), bw_wtD W n, bw_D_l]
