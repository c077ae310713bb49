/-! THE OFFICE, 5: the class's wishes beside the reference's -/
variable {d : Nat} {X : am_X} {a : Nat → Nat → Nat → Int32} {b : Nat → Nat → Nat → Int64} {u : Nat → Nat} {e : Nat → Nat → Nat → Int32} {f : Nat → Nat → Nat → Int64}
def bo_pf : Nat → List Int → Option Nat
  | r, [] => some r
  | r, c :: l => if c = -33 then (if 1 ≤ r then bo_pf r l else none) else if c = -38 ∨ c = -124 then (if 2 ≤ r then bo_pf (r - 1) l else none) else if 0 ≤ c ∧ c < 6000 ∧ c / 100 % 10 ≤ 2 ∧ r ≤ 24 then bo_pf (r + 1) l else none
theorem bo_pfa : ∀ {l l' : List Int} {r r' : Nat}, bo_pf r l = some r' → bo_pf r (l ++ l') = bo_pf r' l'
  | [], l', r, r', h => by
    rw [bo_pf] at h
    cases h
    rfl
  | c :: l, l', r, r', h => by
    rw [List.cons_append]
    rw [bo_pf] at h ⊢
    by_cases h1 : c = -33
    · rw [if_pos h1] at h ⊢
      by_cases h2 : 1 ≤ r
      · rw [if_pos h2] at h ⊢; exact bo_pfa h
      · rw [if_neg h2] at h; cases h
    · rw [if_neg h1] at h ⊢
      by_cases h2 : c = -38 ∨ c = -124
      · rw [if_pos h2] at h ⊢
        by_cases h3 : 2 ≤ r
        · rw [if_pos h3] at h ⊢; exact bo_pfa h
        · rw [if_neg h3] at h; cases h
      · rw [if_neg h2] at h ⊢
        by_cases h3 : 0 ≤ c ∧ c < 6000 ∧ c / 100 % 10 ≤ 2 ∧ r ≤ 24
        · rw [if_pos h3] at h ⊢; exact bo_pfa h
        · rw [if_neg h3] at h; cases h
def bo_ac (g : Nat → Int32) : Nat → List Int → Prop
  | _, [] => True
  | s, c :: r => g s = be_i (be_enc c) ∧ bo_ac g (s + 1) r
theorem bo_acc {g g' : Nat → Int32} : ∀ {l : List Int} {s : Nat}, (∀ j, s ≤ j → j < s + l.length → g' j = g j) → bo_ac g s l → bo_ac g' s l
  | [], _, _, _ => trivial
  | c :: r, s, h, hA => ⟨(h s (Nat.le_refl _) (by rw [List.length_cons]; omega)).trans hA.1, bo_acc (fun j h1 h2 => h j (by omega) (by rw [List.length_cons]; omega)) hA.2⟩
theorem bo_aca {g : Nat → Int32} : ∀ {l l' : List Int} {s : Nat}, bo_ac g s (l ++ l') ↔ bo_ac g s l ∧ bo_ac g (s + l.length) l'
  | [], l', s => ⟨fun h => ⟨trivial, h⟩, fun h => h.2⟩
  | c :: r, l', s => by
    rw [List.cons_append, bo_ac, bo_ac, bo_aca, List.length_cons, show s + (r.length + 1) = s + 1 + r.length by omega]
    exact and_assoc.symm
theorem bo_nt0 : ∀ {st : List Int}, (∀ c r, st = c :: r → c ≠ 33) → bo_nt st = 0 ∧ bo_dr st = st
  | [], _ => ⟨rfl, rfl⟩
  | c :: r, h => by
    have := h c r rfl
    exact ⟨by rw [bo_nt, if_neg this], by rw [bo_dr, if_neg this]⟩
/-- what the reference does where the class went well, or failed -/
def bo_RO (X : am_X) (n : Nat) (T : Nat → Int) (p dd q : Nat) (cs : List Int) (P : List Int → Prop) : Prop :=
  ∀ {d : Nat} {a : Nat → Nat → Nat → Int32} {b : Nat → Nat → Nat → Int64} {u : Nat → Nat} {f : Nat → Nat → Nat → Int64} {e0 e : Nat → Nat → Nat → Int32} {s0 x : Nat} {st cs0 : List Int} {z3 : am_V}, 6 ≤ d → x < 60 → bo_Y e0 n T → P st → bo_Cf e0 e s0 x p cs0 st (dd : Int) → s0 + cs0.length + st.length ≤ 500 + p → st.length ≤ p →
    ∃ e' z', am_fix (am_sem X d) X am_P24 22 [.inr (50, 0), am_I (be_i ((x : Int))), am_I (be_i (1)), z3] [] (am_sd a b u e f) = am_fix (am_sem X d) X am_P24 22 [.inr (50, 0), am_I (be_i ((x : Int))), am_I (be_i (0)), z'] [] (am_sd a b u e' f) ∧ bo_Cf e0 e' s0 x q (cs0 ++ cs ++ List.replicate (bo_nt st) (-33)) (bo_dr st) ((dd : Int) - (bo_nt st : Int))
def bo_RF (X : am_X) (n : Nat) (T : Nat → Int) (p dd q : Nat) (P : List Int → Prop) : Prop :=
  ∀ {d : Nat} {a : Nat → Nat → Nat → Int32} {b : Nat → Nat → Nat → Int64} {u : Nat → Nat} {f : Nat → Nat → Nat → Int64} {e0 e : Nat → Nat → Nat → Int32} {s0 x : Nat} {st cs0 : List Int} {z3 : am_V}, 6 ≤ d → x < 60 → bo_Y e0 n T → P st → bo_Cf e0 e s0 x p cs0 st (dd : Int) → s0 + cs0.length + st.length ≤ 500 + p → st.length ≤ p →
    ∃ e', am_fix (am_sem X d) X am_P24 22 [.inr (50, 0), am_I (be_i ((x : Int))), am_I (be_i (1)), z3] [] (am_sd a b u e f) = some (some (am_I (be_i 0)), am_sd a b u e' f) ∧ be_g e' 50 15 = (q : Int) ∧ bo_G e0 e' s0 x
def bo_P1 : List Int → Prop := fun _ => True
def bo_P2 (st : List Int) : Prop := ∀ c r, st = c :: r → c ≠ 33 ∧ c ≠ 38
def bo_P3 (st : List Int) : Prop := ∀ c r, st = c :: r → c ≠ 33 ∧ c ≠ 38 ∧ c ≠ 124
/-- well -/
def bo_OK (X : am_X) (a a' : Nat → Nat → Nat → Int32) (n : Nat) (T : Nat → Int) (o p z dd q : Nat) (cs : List Int) (P : List Int → Prop) (B : Nat) : Prop :=
  bo_K a' n T o q (z + cs.length) ∧ bo_E a a' o z ∧ bo_ac (a' 16 o) z cs ∧ p + cs.length ≤ q ∧ p < q ∧ (∀ r, r + B ≤ 24 → bo_pf r cs = some (r + 1)) ∧ bo_RO X n T p dd q cs P
def bo_NO (X : am_X) (a a' : Nat → Nat → Nat → Int32) (n : Nat) (T : Nat → Int) (o p dd q : Nat) (P : List Int → Prop) : Prop :=
  bo_F a' n T o q ∧ bo_E a a' o 0 ∧ bo_RF X n T p dd q P
def bo_ONE (X : am_X) (n : Nat) (T : Nat → Int) (o p : Nat) : Prop :=
  ∀ {d : Nat} {a : Nat → Nat → Nat → Int32} {b : Nat → Nat → Nat → Int64} {u : Nat → Nat} {e : Nat → Nat → Nat → Int32} {f : Nat → Nat → Nat → Int64} {z dd : Nat}, dd ≤ 4 → 22 ≤ d + 3 * dd → u 1 = o → bo_K a n T o p z →
    ∃ a', am_sem X d 178 [.inr (4, 0), am_I (be_i ((dd : Int)))] (am_sd a b u e f) = some (none, am_sd a' b u e f) ∧ ((∃ q cs, bo_OK X a a' n T o p z dd q cs bo_P1 (2 * (4 - dd))) ∨ ∃ q, bo_NO X a a' n T o p dd q bo_P1)
def bo_BOTH (X : am_X) (n : Nat) (T : Nat → Int) (o p : Nat) : Prop :=
  ∀ {d : Nat} {a : Nat → Nat → Nat → Int32} {b : Nat → Nat → Nat → Int64} {u : Nat → Nat} {e : Nat → Nat → Nat → Int32} {f : Nat → Nat → Nat → Int64} {z dd : Nat}, dd ≤ 4 → 23 ≤ d + 3 * dd → u 1 = o → bo_K a n T o p z →
    ∃ a', am_sem X d 177 [.inr (4, 0), am_I (be_i ((dd : Int)))] (am_sd a b u e f) = some (none, am_sd a' b u e f) ∧ ((∃ q cs, bo_OK X a a' n T o p z dd q cs bo_P2 (2 * (4 - dd) + 1) ∧ T q ≠ 38) ∨ ∃ q, bo_NO X a a' n T o p dd q bo_P2)
def bo_EITHER (X : am_X) (n : Nat) (T : Nat → Int) (o p : Nat) : Prop :=
  ∀ {d : Nat} {a : Nat → Nat → Nat → Int32} {b : Nat → Nat → Nat → Int64} {u : Nat → Nat} {e : Nat → Nat → Nat → Int32} {f : Nat → Nat → Nat → Int64} {z dd : Nat}, dd ≤ 4 → 24 ≤ d + 3 * dd → u 1 = o → bo_K a n T o p z →
    ∃ a', am_sem X d 176 [.inr (4, 0), am_I (be_i ((dd : Int)))] (am_sd a b u e f) = some (none, am_sd a' b u e f) ∧ ((∃ q cs, bo_OK X a a' n T o p z dd q cs bo_P3 (2 * (4 - dd) + 2) ∧ T q ≠ 38 ∧ T q ≠ 124) ∨ ∃ q, bo_NO X a a' n T o p dd q bo_P3)
variable {n o q p z dd : Nat} {T : Nat → Int}
/-! failed already -/
theorem bo_f86 (hd : 2 ≤ d) (ho : u 1 = o) (h : bo_F a n T o q) {x1 x2 x3 y0 y1 y2 : Int32} : ∃ a', am_fix (am_sem X d) X am_P178 86 [.inr (4, 0), am_I x1, am_I x2, am_I x3] [am_I y0, am_I y1, am_I y2, .inr (3, o)] (am_sd a b u e f) = some (none, am_sd a' b u e f) ∧ bo_F a' n T o q ∧ bo_E a a' o 0 := by
  obtain ⟨d, rfl⟩ : ∃ q, d = q + 1 := ⟨d - 1, by omega⟩
  obtain ⟨a', g1, g2, g3⟩ := bo_160f (X := X) (a := a) (b := b) (u := u) (e := e) (f := f) (d := d) (by omega) h (((y2 * be_i 3 + y1) * be_i 100) + y0)
  refine ⟨a', ?_, g2, g3⟩
  rw [am_b178_86, am_s161, g1, be_bv, am_b161_14, be_bv, am_b178_89]
theorem bo_f75 (hd : 2 ≤ d) (ho : u 1 = o) (h : bo_F a n T o q) {x1 x2 y0 : Int32} : ∃ a', am_fix (am_sem X d) X am_P178 75 [.inr (4, 0), am_I x1, am_I x2, am_un] [am_I y0] (am_sd a b u e f) = some (none, am_sd a' b u e f) ∧ bo_F a' n T o q ∧ bo_E a a' o 0 := by
  obtain ⟨a', g1, g2, g3⟩ := bo_f86 (X := X) (b := b) (u := u) (e := e) (f := f) (d := d) hd ho (bo_failF h) (x1 := x1) (x2 := x2) (x3 := y0) (y0 := be_i 0) (y1 := y0) (y2 := x2)
  refine ⟨a', ?_, g2, bo_Et bo_Ef g3 (Nat.le_refl _)⟩
  rw [am_b178_75, bo_180f hd h, be_bi, ho, g1]
theorem bo_f68 (hd : 7 ≤ d) (ho : u 1 = o) (h : bo_F a n T o q) {x1 y0 : Int32} : ∃ a', am_fix (am_sem X d) X am_P178 68 [.inr (4, 0), am_I x1, am_un, am_un] [am_I y0] (am_sd a b u e f) = some (none, am_sd a' b u e f) ∧ bo_F a' n T o q ∧ bo_E a a' o 0 := by
  obtain ⟨a', g1, g2, g3⟩ := bo_f75 (X := X) (b := b) (u := u) (e := e) (f := f) (d := d) (by omega) ho (bo_failF h) (x1 := x1) (x2 := y0) (y0 := be_i 0)
  refine ⟨a', ?_, g2, bo_Et bo_Ef g3 (Nat.le_refl _)⟩
  rw [am_b178_68, bo_179f hd h (Or.inr rfl), be_bi, g1]
theorem bo_ftail (hd : 7 ≤ d) (ho : u 1 = o) (h : bo_F a n T o q) {x1 : Int32} : ∃ a', am_bi (am_sem X d 179 [.inr (4, 0), .inr (203, 5)] (am_sd a b u e f)) (fun r τ => am_fix (am_sem X d) X am_P178 68 [.inr (4, 0), am_I x1, am_un, am_un] [am_I r] τ) = some (none, am_sd a' b u e f) ∧ bo_F a' n T o q ∧ bo_E a a' o 0 := by
  obtain ⟨a', g1, g2, g3⟩ := bo_f68 (X := X) (b := b) (u := u) (e := e) (f := f) (d := d) hd ho (bo_failF h) (x1 := x1) (y0 := be_i 0)
  refine ⟨a', ?_, g2, bo_Et bo_Ef g3 (Nat.le_refl _)⟩
  rw [bo_179f hd h (Or.inl rfl), be_bi, g1]
theorem bo_1f (hd : 8 ≤ d) (hdd : dd ≤ 4) (ho : u 1 = o) (h : bo_F a n T o q) : ∃ a', am_sem X d 178 [.inr (4, 0), am_I (be_i ((dd : Int)))] (am_sd a b u e f) = some (none, am_sd a' b u e f) ∧ bo_F a' n T o q ∧ bo_E a a' o 0 := by
  obtain ⟨d, rfl⟩ : ∃ q, d = q + 1 := ⟨d - 1, by omega⟩
  obtain ⟨a', g1, g2⟩ := bo_ftail (X := X) (b := b) (u := u) (e := e) (f := f) (d := d) (by omega) ho h (x1 := be_i (dd : Int))
  refine ⟨a', ?_, g2⟩
  rw [am_s178]
  by_cases h4 : (4 : Int) ≤ dd
  · have c4 : be_i 4 ≤ be_i (dd : Int) := by rw [be_le (by omega) (by omega) (by omega) (by omega)]; exact h4
    rw [if_pos c4, if_pos c4, g1]
  · have c4 : ¬ be_i 4 ≤ be_i (dd : Int) := by rw [be_le (by omega) (by omega) (by omega) (by omega)]; exact h4
    rw [if_neg c4, bo_171f (by omega) h (by omega) (by omega), be_bi, am_b178_11, if_pos be_0.symm, if_neg c4, bo_171f (by omega) h (by omega) (by omega), be_bi, am_b178_43, if_pos be_0.symm, g1]
theorem bo_l2f (hd : 2 ≤ d) (h : bo_F a n T o q) {k : Int32} {x1 : Int32} : am_fix (am_sem X d) X am_P177 7 [.inr (4, 0), am_I x1, am_I k] [] (am_sd a b u e f) = some (none, (am_sd a b u e f)) := by
  rw [am_b177_7]
  split
  · rfl
  · rw [bo_171f hd h (by omega) (by omega), be_bi, am_b177_19, if_pos be_0.symm]
theorem bo_l3f (hd : 2 ≤ d) (h : bo_F a n T o q) {k : Int32} {x1 : Int32} : am_fix (am_sem X d) X am_P176 7 [.inr (4, 0), am_I x1, am_I k] [] (am_sd a b u e f) = some (none, (am_sd a b u e f)) := by
  rw [am_b176_7]
  split
  · rfl
  · rw [bo_171f hd h (by omega) (by omega), be_bi, am_b176_19, if_pos be_0.symm]
/-! a test -/
theorem bo_tail (hd : 9 ≤ d) (ho : u 1 = o) (hdd : dd ≤ 4) (h : bo_K a n T o p z) (hc : (T p ≠ 33 ∧ T p ≠ 40) ∨ (dd = 4 ∧ (T p = 33 ∨ T p = 40))) {x1 : Int32} :
    ∃ a', am_bi (am_sem X d 179 [.inr (4, 0), .inr (203, 5)] (am_sd a b u e f)) (fun r τ => am_fix (am_sem X d) X am_P178 68 [.inr (4, 0), am_I x1, am_un, am_un] [am_I r] τ) = some (none, am_sd a' b u e f) ∧ ((∃ q cs, bo_OK X a a' n T o p z dd q cs bo_P1 (2 * (4 - dd))) ∨ ∃ q, bo_NO X a a' n T o p dd q bo_P1) := by
  have hpn := h.2.2.2.2.1
  have i5 := bo_ix5R (T p)
  have bad : ∀ q, ((q = p ∧ bo_ix 5 (T p) < 0) ∨ (q = p + 1 ∧ 0 ≤ bo_ix 5 (T p) ∧ bo_ix 6 (T (p + 1)) < 0) ∨ (q = p + 2 ∧ 0 ≤ bo_ix 5 (T p) ∧ 0 ≤ bo_ix 6 (T (p + 1)) ∧ ¬ bo_dg (T (p + 2)))) → bo_RF X n T p dd q bo_P1 := by
    intro q hq d a b u f e0 e s0 x st cs0 z3 q1 q2 q3 q4 q5 q6 q7
    rcases hc with hc | ⟨rfl, hc⟩
    · exact bo_wbad q1 q3 hc q5 hpn hq
    · have h5 : bo_ix 5 (T p) < 0 := by
        rcases hc with hc | hc
        · rw [hc]; decide
        · rw [hc]; decide
      obtain rfl : q = p := by
        rcases hq with h' | h' | h'
        · exact h'.1
        · omega
        · omega
      exact ⟨e, bo_wfull (by omega) q3 hc q5 hpn, q5.2.1, q5.1⟩
  by_cases t1 : bo_ix 5 (T p) < 0
  · obtain ⟨a', g1, g2, g3⟩ := bo_f68 (X := X) (b := b) (u := u) (e := e) (f := f) (d := d) (by omega) ho (bo_failK h) (x1 := x1) (y0 := be_i 0)
    refine ⟨a', ?_, Or.inr ⟨p, g2, bo_Et bo_Ef g3 (Nat.le_refl _), bad p (Or.inl ⟨rfl, t1⟩)⟩⟩
    rw [bo_179n (by omega) h (Or.inl rfl) t1, be_bi, g1]
  have hcc : T p ≠ 33 ∧ T p ≠ 40 := by
    rcases hc with hc | ⟨-, hc⟩
    · exact hc
    · exfalso
      rcases hc with hc | hc
      · rw [hc] at t1; exact t1 (by decide)
      · rw [hc] at t1; exact t1 (by decide)
  have tp0 : 0 ≤ T p := by rw [bo_ix5] at t1; split at t1 <;> omega
  have l0 := bo_Tn h.1.1 tp0
  have k1 := bo_adv h tp0
  have s1 : ∀ {τ : am_R}, am_fix (am_sem X d) X am_P178 68 [.inr (4, 0), am_I x1, am_un, am_un] [am_I (be_i (bo_ix 5 (T p)))] (am_sd (am_w3 a 4 0 2 (be_i ((p : Int) + 1))) b u e f) = τ → am_bi (am_sem X d 179 [.inr (4, 0), .inr (203, 5)] (am_sd a b u e f)) (fun r τ => am_fix (am_sem X d) X am_P178 68 [.inr (4, 0), am_I x1, am_un, am_un] [am_I r] τ) = τ := by
    intro τ hτ
    rw [bo_179y (by omega) h (Or.inl rfl) (by omega), be_bi, hτ]
  by_cases t2 : bo_ix 6 (T (p + 1)) < 0
  · obtain ⟨a', g1, g2, g3⟩ := bo_f75 (X := X) (b := b) (u := u) (e := e) (f := f) (d := d) (by omega) ho (bo_failK k1.1) (x1 := x1) (x2 := be_i (bo_ix 5 (T p))) (y0 := be_i 0)
    refine ⟨a', s1 ?_, Or.inr ⟨p + 1, g2, bo_Et (bo_E0 k1.2) (bo_Et bo_Ef g3 (Nat.le_refl _)) (Nat.le_refl _), bad (p + 1) (Or.inr (Or.inl ⟨rfl, by omega, t2⟩))⟩⟩
    rw [am_b178_68, bo_179n (by omega) k1.1 (Or.inr rfl) t2, be_bi, g1]
  have t2' : 60 ≤ T (p + 1) ∧ T (p + 1) ≤ 62 := by rw [← bo_ix6b]; omega
  have l1 := bo_Tn h.1.1 (k := p + 1) (by omega)
  have k2 := bo_adv k1.1 (by omega)
  have s2 : ∀ {τ : am_R}, am_fix (am_sem X d) X am_P178 75 [.inr (4, 0), am_I x1, am_I (be_i (bo_ix 5 (T p))), am_un] [am_I (be_i (bo_ix 6 (T (p + 1))))] (am_sd (am_w3 (am_w3 a 4 0 2 (be_i ((p : Int) + 1))) 4 0 2 (be_i (((p + 1 : Nat) : Int) + 1))) b u e f) = τ → am_bi (am_sem X d 179 [.inr (4, 0), .inr (203, 5)] (am_sd a b u e f)) (fun r τ => am_fix (am_sem X d) X am_P178 68 [.inr (4, 0), am_I x1, am_un, am_un] [am_I r] τ) = τ := by
    intro τ hτ
    refine s1 ?_
    rw [am_b178_68, bo_179y (by omega) k1.1 (Or.inr rfl) (by omega), be_bi, hτ]
  by_cases t3 : bo_dg (T (p + 2))
  · obtain ⟨a3, v1, v2, v3⟩ := bo_180 (X := X) (b := b) (u := u) (e := e) (f := f) (d := d) (by omega) k2.1 t3
    have v2 : bo_K a3 n T o (bo_np T (p + 2)) z := v2
    have nR := bo_nR t3
    obtain ⟨d, rfl⟩ : ∃ q, d = q + 1 := ⟨d - 1, by omega⟩
    have hz := h.2.2.2.2.2
    obtain ⟨a4, w1, w2, w3, w4⟩ := bo_160 (X := X) (b := b) (u := u) (e := e) (f := f) (d := d) (by omega) v2 (by omega) (((be_i (bo_ix 5 (T p)) * be_i 3 + be_i (bo_ix 6 (T (p + 1)))) * be_i 100) + be_i (bo_nv T (p + 2)))
    have i6 := bo_ix6v (y := T (p + 1)) (by omega)
    have hpf : ∀ r, r + 2 * (4 - dd) ≤ 24 → bo_pf r [bo_tv T p] = some (r + 1) := by
      intro r hr
      have b1 : bo_tv T p ≠ -33 ∧ bo_tv T p ≠ -38 ∧ bo_tv T p ≠ -124 ∧ 0 ≤ bo_tv T p ∧ bo_tv T p < 6000 ∧ bo_tv T p / 100 % 10 ≤ 2 := by
        unfold bo_tv
        rw [i6]
        omega
      rw [bo_pf, if_neg b1.1, if_neg (by omega), if_pos ⟨b1.2.2.2.1, b1.2.2.2.2.1, b1.2.2.2.2.2, by omega⟩, bo_pf]
    have hen : be_enc (bo_tv T p) = (bo_ix 5 (T p) * 3 + bo_ix 6 (T (p + 1))) * 100 + bo_nv T (p + 2) := by
      have b1 : bo_tv T p ≠ -33 ∧ bo_tv T p ≠ -38 ∧ bo_tv T p ≠ -124 := by
        unfold bo_tv
        rw [i6]
        omega
      unfold be_enc
      rw [if_neg b1.1, if_neg b1.2.1, if_neg b1.2.2]
      unfold bo_tv
      rw [i6]
      omega
    refine ⟨a4, s2 ?_, Or.inl ⟨bo_np T (p + 2), [bo_tv T p], w2, bo_Et (bo_Et (bo_Et k1.2 k2.2 (Nat.le_refl _)) v3 (Nat.le_refl _)) w3 (Nat.le_refl _), ⟨?_, trivial⟩, ?_, by omega, hpf, ?_⟩⟩
    · rw [am_b178_75, v1, be_bi, ho, am_b178_86, am_s161, w1, be_bv, am_b161_14, be_bv, am_b178_89]
    · rw [w4, hen, be_mul, be_add, be_mul, be_add]
    · show p + 1 ≤ _; omega
    · intro d a b u f e0 e s0 x st cs0 z3 q1 q2 q3 q4 q5 q6 q7
      exact bo_wtest q1 q3 hcc q5 hpn q6 q7 (by omega) (by omega) (by omega) (by omega) t3
  · obtain ⟨a', g1, g2, g3⟩ := bo_f86 (X := X) (b := b) (u := u) (e := e) (f := f) (d := d) (by omega) ho (bo_failK k2.1) (x1 := x1) (x2 := be_i (bo_ix 5 (T p))) (x3 := be_i (bo_ix 6 (T (p + 1)))) (y0 := be_i 0) (y1 := be_i (bo_ix 6 (T (p + 1)))) (y2 := be_i (bo_ix 5 (T p)))
    refine ⟨a', s2 ?_, Or.inr ⟨p + 2, g2, bo_Et (bo_E0 (bo_Et k1.2 k2.2 (Nat.le_refl _))) (bo_Et bo_Ef g3 (Nat.le_refl _)) (Nat.le_refl _), bad (p + 2) (Or.inr (Or.inr ⟨rfl, by omega, by omega, t3⟩))⟩⟩
    rw [am_b178_75, bo_180n (by omega) k2.1 t3, be_bi, ho, g1]
