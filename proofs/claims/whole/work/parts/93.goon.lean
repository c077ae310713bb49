/-! WAYS, 2: the class looks them through -/
variable {d : Nat} {X : am_X} {a : Nat → Nat → Nat → Int32} {b : Nat → Nat → Nat → Int64} {u : Nat → Nat} {e : Nat → Nat → Nat → Int32} {f : Nat → Nat → Nat → Int64}
/-- what the class knows of the best way so far -/
def bw_St (a : Nat → Nat → Nat → Int32) (n : Nat) (s : bw_S) : Prop :=
  a 8 0 9 = be_i s.1 ∧ a 8 0 10 = be_i s.2.1 ∧ -1 ≤ s.1 ∧ s.1 ≤ 6 ∧ -1 ≤ s.2.1 ∧ s.2.1 ≤ 6000 ∧ (s.1 = -1 ∨ ∀ j, j < n → a 30 0 j = be_i (if s.2.2 j = 9 then -5 else (s.2.2 j : Int)))
/-- what it has laid out -/
def bw_SI (a : Nat → Nat → Nat → Int32) (b : Nat → Nat → Nat → Int64) (n nr : Nat) (q : Bool) (B : Nat → Nat → Bool) (F : Nat → Nat → Bool) (W : Nat → Nat → Int) : Prop :=
  a 8 0 0 = be_i (n : Int) ∧ a 8 0 1 = be_i (nr : Int) ∧ a 8 0 2 = be_i (be_b q) ∧ n ≤ 6 ∧ nr ≤ 5 ∧ ∀ h, h < n → a 24 0 h = be_i (be_bs (F h) nr : Int) ∧ b 25 0 h = be_mk (B h) ∧ ∀ r, r < nr → a 27 h r = be_i (W h r) ∧ 0 ≤ W h r ∧ W h r ≤ 1000
def bw_Fr (a a' : Nat → Nat → Nat → Int32) (h : Nat) : Prop := ∀ c i j, ¬ ((c = 8 ∧ i = 0 ∧ (j = 9 ∨ j = 10)) ∨ (c = 29 ∧ i = 0 ∧ h ≤ j) ∨ (c = 30 ∧ i = 0)) → a' c i j = a c i j
def bw_Wy (a : Nat → Nat → Nat → Int32) (y : Nat → Nat) (h : Nat) : Prop := ∀ o, o < h → a 29 0 o = be_i (if y o = 9 then -5 else (y o : Int))
def bw_Fu (b : Nat → Nat → Nat → Int64) (nr : Nat) (B : Nat → Nat → Bool) (y : Nat → Nat) (h : Nat) : Prop := ∀ r, r < nr → b 28 0 r = be_mk (fun t => be_any (fun o => decide (y o = r) && B o t) h)
theorem bw_SI_t {a' : Nat → Nat → Nat → Int32} {b' : Nat → Nat → Nat → Int64} {n nr : Nat} {q : Bool} {B : Nat → Nat → Bool} {F : Nat → Nat → Bool} {W : Nat → Nat → Int} {h : Nat} (hf : bw_Fr a a' h) (hb : ∀ h, b' 25 0 h = b 25 0 h) (hS : bw_SI a b n nr q B F W) : bw_SI a' b' n nr q B F W := by
  obtain ⟨s1, s2, s3, s4, s5, s6⟩ := hS
  refine ⟨?_, ?_, ?_, s4, s5, fun h hh => ?_⟩
  · rw [hf _ _ _ (by omega)]; exact s1
  · rw [hf _ _ _ (by omega)]; exact s2
  · rw [hf _ _ _ (by omega)]; exact s3
  · obtain ⟨t1, t2, t3⟩ := s6 h hh
    refine ⟨?_, ?_, fun r hr => ?_⟩
    · rw [hf _ _ _ (by omega)]; exact t1
    · rw [hb]; exact t2
    · rw [hf _ _ _ (by omega)]; exact t3 r hr
theorem bw_Fr_tr {a1 a2 : Nat → Nat → Nat → Int32} {h g : Nat} (hg : h ≤ g) (h1 : bw_Fr a a1 h) (h2 : bw_Fr a1 a2 g) : bw_Fr a a2 h := fun c i j hc => (h2 c i j (by omega)).trans (h1 c i j hc)
theorem bw_bit (P : Nat → Bool) {n r : Nat} (hn : n ≤ 5) (hr : r < n) : (be_i ((be_bs P n : Int) / ((2 ^ r : Nat) : Int) % 2) = be_i 0) = (P r = false) := by
  have h1 := be_bs_bit P r n
  rw [decide_eq_true hr, Bool.true_and, Nat.testBit_eq_decide_div_mod_eq] at h1
  have h2 : (be_bs P n : Int) / ((2 ^ r : Nat) : Int) % 2 = ((be_bs P n / 2 ^ r % 2 : Nat) : Int) := rfl
  have h3 : be_bs P n / 2 ^ r % 2 < 2 := Nat.mod_lt _ (by decide)
  rw [h2, be_eq (by omega) (by omega) (by omega) (by omega), ← h1, eq_iff_iff, decide_eq_false_iff_not]
  omega
theorem bw_kb (hd : 1 ≤ d) {n nr : Nat} {q : Bool} {B : Nat → Nat → Bool} {F : Nat → Nat → Bool} {W : Nat → Nat → Int} (hS : bw_SI a b n nr q B F W) {c : Nat} {w : Int} {y : Nat → Nat} {s : bw_S} (hs : bw_St a n s) (hy : bw_Wy a y n) (hc : c ≤ 6) (hw1 : 0 ≤ w) (hw2 : w ≤ 6000) :
    ∃ a', am_sem X d 202 [.inr (8, 0), am_I (be_i ((c : Int))), am_I (be_i (w))] (am_sd a b u e f) = some (none, am_sd a' b u e f) ∧ bw_Fr a a' n ∧ bw_St a' n (bw_leaf q c w y s) := by
  obtain ⟨d, rfl⟩ : ∃ q, d = q + 1 := ⟨d - 1, by omega⟩
  obtain ⟨s1, s2, s3, s4, s5, s6⟩ := hS
  obtain ⟨t1, t2, t3, t4, t5, t6, t7⟩ := hs
  have hgo : (be_i 6 < 0 ∨ be_i 0 < 0 ∨ be_i 0 < 0 ∨ 6 < (be_i 0).toNatClampNeg + (be_i 6).toNatClampNeg ∨ 6 < (be_i 0).toNatClampNeg + (be_i 6).toNatClampNeg) = False := by
    rw [eq_iff_iff]
    decide
  have e0 : (be_i 0).toNatClampNeg = 0 := rfl
  have e6 : (be_i 6).toNatClampNeg = 6 := rfl
  obtain ⟨a', ha'⟩ : ∃ a', a' = am_w2 (am_w3 (am_w3 a 8 0 9 (be_i (c : Int))) 8 0 10 (be_i w)) 30 0 (va_cpy ((am_w3 (am_w3 a 8 0 9 (be_i (c : Int))) 8 0 10 (be_i w)) 29 0) ((am_w3 (am_w3 a 8 0 9 (be_i (c : Int))) 8 0 10 (be_i w)) 30 0) 0 0 6) := ⟨_, rfl⟩
  have fr : bw_Fr a a' n := by
    intro c' i j hn
    rw [ha', be_w2v, if_neg (by omega), be_w3n _ _ _ _ _ _ _ _ (by omega), be_w3n _ _ _ _ _ _ _ _ (by omega)]
  have st : bw_St a' n ((c : Int), w, y) := by
    refine ⟨?_, ?_, ?_, ?_, ?_, ?_, Or.inr fun j hj => ?_⟩
    · rw [ha', be_w2v, if_neg (by omega), be_w3n _ _ _ _ _ _ _ _ (by omega), be_w3s]
    · rw [ha', be_w2v, if_neg (by omega), be_w3s]
    · dsimp only; omega
    · dsimp only; omega
    · dsimp only; omega
    · dsimp only; omega
    · rw [ha', be_w2v, if_pos ⟨rfl, rfl⟩]
      unfold va_cpy
      rw [if_pos (by omega), show 0 + (j - 0) = j by omega, be_w3n _ _ _ _ _ _ _ _ (by omega), be_w3n _ _ _ _ _ _ _ _ (by omega)]
      exact hy j hj
  have keep : bw_Fr a a n := fun _ _ _ _ => rfl
  rw [am_s202]
  unfold bw_leaf
  cases q with
  | false =>
    rw [cond_false]
    by_cases hb : s.2.1 < w
    · rw [decide_eq_true hb, if_pos rfl]
      refine ⟨a', ?_, fr, st⟩
      simp (disch := (first | assumption | omega | exact (be_gB _ _ _).1 | exact (be_gB _ _ _).2)) only [↓reduceIte, be_ofI, ↓be_ofN, ↓be_0, be_add, be_sub, be_mul, be_neg, be_rem, be_bi, be_bl, be_bv, be_br, be_bE0, be_bE1, be_b1E, be_b0E, be_bkb, be_cast, Int.toNat_natCast, Int.reduceToNat, be_lt, be_le, be_eq, be_nt, be_ck, be_nz, be_bk, be_div, s3, be_bF, t2, hgo, am_b202_82, show ¬ w ≤ s.2.1 by omega, e0, e6, ← ha']
      rw [if_neg (by decide)]
    · rw [decide_eq_false hb, if_neg Bool.false_ne_true]
      refine ⟨a, ?_, keep, t1, t2, t3, t4, t5, t6, t7⟩
      simp (disch := (first | assumption | omega | exact (be_gB _ _ _).1 | exact (be_gB _ _ _).2)) only [↓reduceIte, be_ofI, ↓be_ofN, ↓be_0, be_add, be_sub, be_mul, be_neg, be_rem, be_bi, be_bl, be_bv, be_br, be_bE0, be_bE1, be_b1E, be_b0E, be_bkb, be_cast, Int.toNat_natCast, Int.reduceToNat, be_lt, be_le, be_eq, be_nt, be_ck, be_nz, be_bk, be_div, s3, be_bF, t2, am_b202_82, show w ≤ s.2.1 by omega]
  | true =>
    rw [cond_true]
    by_cases h1 : s.1 < (c : Int)
    · rw [decide_eq_true (Or.inl h1), if_pos rfl]
      refine ⟨a', ?_, fr, st⟩
      simp (disch := (first | assumption | omega | exact (be_gB _ _ _).1 | exact (be_gB _ _ _).2)) only [↓reduceIte, be_ofI, ↓be_ofN, ↓be_0, be_add, be_sub, be_mul, be_neg, be_rem, be_bi, be_bl, be_bv, be_br, be_bE0, be_bE1, be_b1E, be_b0E, be_bkb, be_cast, Int.toNat_natCast, Int.reduceToNat, be_lt, be_le, be_eq, be_nt, be_ck, be_nz, be_bk, be_div, not_true_eq_false, not_false_eq_true, if_true, if_false, eq_self, Int.reduceEq, Int.reduceLT, Int.reduceLE, Bool.true_eq_false, Bool.false_eq_true, s3, be_bT, t1, h1, hgo, am_b202_82, e0, e6, ← ha']
      rw [if_neg (by decide)]
    · by_cases h2 : (c : Int) = s.1
      · by_cases h3 : s.2.1 < w
        · rw [decide_eq_true (Or.inr ⟨h2, h3⟩), if_pos rfl]
          refine ⟨a', ?_, fr, st⟩
          simp (disch := (first | assumption | omega | exact (be_gB _ _ _).1 | exact (be_gB _ _ _).2)) only [↓reduceIte, be_ofI, ↓be_ofN, ↓be_0, be_add, be_sub, be_mul, be_neg, be_rem, be_bi, be_bl, be_bv, be_br, be_bE0, be_bE1, be_b1E, be_b0E, be_bkb, be_cast, Int.toNat_natCast, Int.reduceToNat, be_lt, be_le, be_eq, be_nt, be_ck, be_nz, be_bk, be_div, not_true_eq_false, not_false_eq_true, if_true, if_false, eq_self, Int.reduceEq, Int.reduceLT, Int.reduceLE, Bool.true_eq_false, Bool.false_eq_true, s3, be_bT, t1, t2, h1, hgo, am_b202_82, show ¬ w ≤ s.2.1 by omega, e0, e6, ← ha']
          rw [if_neg (fun h => h h2), if_neg (by decide)]
        · rw [decide_eq_false (by omega), if_neg Bool.false_ne_true]
          refine ⟨a, ?_, keep, t1, t2, t3, t4, t5, t6, t7⟩
          simp (disch := (first | assumption | omega | exact (be_gB _ _ _).1 | exact (be_gB _ _ _).2)) only [↓reduceIte, be_ofI, ↓be_ofN, ↓be_0, be_add, be_sub, be_mul, be_neg, be_rem, be_bi, be_bl, be_bv, be_br, be_bE0, be_bE1, be_b1E, be_b0E, be_bkb, be_cast, Int.toNat_natCast, Int.reduceToNat, be_lt, be_le, be_eq, be_nt, be_ck, be_nz, be_bk, be_div, not_true_eq_false, not_false_eq_true, if_true, if_false, eq_self, Int.reduceEq, Int.reduceLT, Int.reduceLE, Bool.true_eq_false, Bool.false_eq_true, s3, be_bT, t1, t2, h1, am_b202_82, show w ≤ s.2.1 by omega]
          split <;> rfl
      · rw [decide_eq_false (by omega), if_neg Bool.false_ne_true]
        refine ⟨a, ?_, keep, t1, t2, t3, t4, t5, t6, t7⟩
        simp (disch := (first | assumption | omega | exact (be_gB _ _ _).1 | exact (be_gB _ _ _).2)) only [↓reduceIte, be_ofI, ↓be_ofN, ↓be_0, be_add, be_sub, be_mul, be_neg, be_rem, be_bi, be_bl, be_bv, be_br, be_bE0, be_bE1, be_b1E, be_b0E, be_bkb, be_cast, Int.toNat_natCast, Int.reduceToNat, be_lt, be_le, be_eq, be_nt, be_ck, be_nz, be_bk, be_div, not_true_eq_false, not_false_eq_true, if_true, if_false, eq_self, Int.reduceEq, Int.reduceLT, Int.reduceLE, Bool.true_eq_false, Bool.false_eq_true, s3, be_bT, t1, t2, h1, h2, am_b202_82]
/-- masks that meet -/
theorem bw_meet {n : Nat} {B : Nat → Nat → Bool} {K : Nat → Nat → Bool} (hK : ∀ o h, o < n → h < n → (K o h = false ↔ ∀ t, t < 64 → (B o t && B h t) = false)) {y : Nat → Nat} {h r : Nat} (hh : h < n) :
    (lg_cmp (be_mk (fun t => be_any (fun o => decide (y o = r) && B o t) h) &&& be_mk (B h)) (Int64.ofNat 0) = be_i 0) = (be_any (fun o => decide (y o = r) && K o h) h = false) := by
  rw [be_cmp0, be_mk_and, be_mk_eq0, ← Bool.not_eq_true, be_any_iff, eq_iff_iff]
  constructor
  · rintro h1 ⟨o, ho, hq⟩
    rw [Bool.and_eq_true, decide_eq_true_iff] at hq
    have := (hK o h (by omega) hh).2 (fun t ht => by
      have h2 := h1 t ht
      cases hB : B o t with
      | false => rfl
      | true =>
        have h3 : be_any (fun o => decide (y o = r) && B o t) h = true := be_any_iff.2 ⟨o, ho, by rw [decide_eq_true hq.1, hB]; rfl⟩
        rw [h3] at h2
        exact h2)
    rw [this] at hq
    exact Bool.noConfusion hq.2
  · intro h1 t ht
    cases hA : be_any (fun o => decide (y o = r) && B o t) h with
    | false => rfl
    | true =>
      obtain ⟨o, ho, hq⟩ := be_any_iff.1 hA
      rw [Bool.and_eq_true, decide_eq_true_iff] at hq
      cases hKo : K o h with
      | false =>
        have := (hK o h (by omega) hh).1 hKo t ht
        rw [hq.2] at this
        exact this
      | true => exact absurd ⟨o, ho, by rw [decide_eq_true hq.1, hKo]; rfl⟩ h1
