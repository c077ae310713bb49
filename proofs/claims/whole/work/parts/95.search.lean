/-! WAYS, 4: the class's search -/
variable {d : Nat} {X : am_X} {a : Nat → Nat → Nat → Int32} {b : Nat → Nat → Nat → Int64} {u : Nat → Nat} {e : Nat → Nat → Nat → Int32} {f : Nat → Nat → Nat → Int64}
/-- nothing else than what is laid out for ways -/
def bw_Fa (a a' : Nat → Nat → Nat → Int32) : Prop := ∀ c k j, c ≠ 8 → c ≠ 24 → c ≠ 27 → c ≠ 29 → c ≠ 30 → a' c k j = a c k j
/-- what a house answers that is asked for ways -/
def bw_HC (X : am_X) (d : Nat) (a : Nat → Nat → Nat → Int32) (u : Nat → Nat) (e : Nat → Nat → Nat → Int32) (f : Nat → Nat → Nat → Int64) (i n nr : Nat) (B : Nat → Nat → Bool) (Ft : Nat → Nat → Bool) (W : Nat → Nat → Int) : Prop :=
  n ≤ 6 ∧ nr ≤ 5 ∧ a 2 i 3 = be_i (n : Int) ∧ a 2 i 2 = be_i (nr : Int) ∧ (∀ h, h < n → a 1 (h + 6 * i) 0 = be_i (h : Int)) ∧ (∀ h r, h < n → r < nr → 0 ≤ W h r ∧ W h r ≤ 1000) ∧
  ∀ a1 b1, bw_Fa a a1 → ∀ h, h < n → am_sem X d 143 [.inr (2, i), .inr (1, h + 6 * i)] (am_sd a1 b1 u e f) = some (some (am_J (be_mk (B h))), am_sd a1 b1 u e f) ∧
    ∀ r, r < nr → am_sem X d 163 [.inr (3, u (2 * i)), .inr (1, h + 6 * i), .inr (5, r + 5 * i)] (am_sd a1 b1 u e f) = some (some (am_I (be_i (W h r))), am_sd a1 b1 u e f) ∧
      am_sem X d 182 [.inr (5, r + 5 * i), .inr (1, h + 6 * i)] (am_sd a1 b1 u e f) = some (some (am_I (be_i (be_b (Ft h r)))), am_sd a1 b1 u e f)
/-- which rooms are allowed -/
def bw_AL (al : Int32) (Al : Nat → Bool) : Prop := ∀ r : Nat, r < 5 → al &&& (be_i 1 <<< (be_i (r : Int) &&& be_i 31)) = if Al r then be_i ((2 ^ r : Nat) : Int) else be_i 0
theorem bw_look (hd : 1 ≤ d) {i n nr : Nat} {B : Nat → Nat → Bool} {Ft : Nat → Nat → Bool} {W : Nat → Nat → Int} {al : Int32} {Al : Nat → Bool} (hal : bw_AL al Al) {a0 : Nat → Nat → Nat → Int32} (hC : bw_HC X d a0 u e f i n nr B Ft W) {h : Nat} (hh : h < n) (ha : bw_Fa a0 a) (h8 : a 8 0 1 = be_i (nr : Int)) :
    ∃ a', am_sem X (d + 1) 200 [.inr (8, 0), .inr (2, i), .inr (1, h + 6 * i), am_I al] (am_sd a b u e f) = some (none, am_sd a' (am_w3 b 25 0 h (be_mk (B h))) u e f) ∧ (∀ c k j, ¬ ((c = 24 ∧ k = 0 ∧ j = h) ∨ (c = 27 ∧ k = h)) → a' c k j = a c k j) ∧ a' 24 0 h = be_i (be_bs (fun r => Ft h r && Al r) nr : Int) ∧ ∀ r, r < nr → a' 27 h r = be_i (W h r) := by
  obtain ⟨n6, nr5, c1, c2, c3, c4, c5⟩ := hC
  have hnum : a 1 (h + 6 * i) 0 = be_i (h : Int) := by rw [ha _ _ _ (by omega) (by omega) (by omega) (by omega) (by omega)]; exact c3 h hh
  have hb := (c5 a b ha h hh).1
  obtain ⟨b2, hb2⟩ : ∃ b2, b2 = am_w3 b 25 0 h (be_mk (B h)) := ⟨_, rfl⟩
  have key : ∀ (m r : Nat) (z : Int) (a1 : Nat → Nat → Nat → Int32), r + m = nr → z = (r : Int) → (∀ c k j, ¬ ((c = 24 ∧ k = 0 ∧ j = h) ∨ (c = 27 ∧ k = h)) → a1 c k j = a c k j) → a1 24 0 h = be_i (be_bs (fun r => Ft h r && Al r) r : Int) → (∀ r', r' < r → a1 27 h r' = be_i (W h r')) →
      ∃ a', am_fix (am_sem X d) X am_P200 29 [.inr (8, 0), .inr (2, i), .inr (1, h + 6 * i), am_I al, am_I (be_i ((h : Int))), am_I (be_i (z))] [] (am_sd a1 b2 u e f) = some (none, am_sd a' b2 u e f) ∧ (∀ c k j, ¬ ((c = 24 ∧ k = 0 ∧ j = h) ∨ (c = 27 ∧ k = h)) → a' c k j = a c k j) ∧ a' 24 0 h = be_i (be_bs (fun r => Ft h r && Al r) nr : Int) ∧ ∀ r, r < nr → a' 27 h r = be_i (W h r) := by
    intro m
    induction m with
    | zero =>
      rintro r z a1 hr rfl h1 h2 h3
      obtain rfl : r = nr := hr
      refine ⟨a1, ?_, h1, h2, h3⟩
      have q1 : a1 8 0 1 = be_i (r : Int) := by rw [h1 _ _ _ (by omega)]; exact h8
      rw [am_b200_29]
      simp (disch := (first | assumption | omega | exact (be_gB _ _ _).1 | exact (be_gB _ _ _).2)) only [↓reduceIte, be_ofI, ↓be_ofN, ↓be_0, be_add, be_sub, be_mul, be_neg, be_rem, be_bi, be_bl, be_bv, be_br, be_bE0, be_bE1, be_b1E, be_b0E, be_bkb, be_cast, Int.toNat_natCast, Int.reduceToNat, be_lt, be_le, be_eq, be_nt, be_ck, be_nz, be_bk, be_div, q1, Int.le_refl]
    | succ m ih =>
      rintro r z a1 hr rfl h1 h2 h3
      have q1 : a1 8 0 1 = be_i (nr : Int) := by rw [h1 _ _ _ (by omega)]; exact h8
      have w1 : ¬ (nr : Int) ≤ (r : Int) := by omega
      obtain ⟨a2, ha2⟩ : ∃ a2, a2 = am_w3 a1 27 h r (be_i (W h r)) := ⟨_, rfl⟩
      have f2 : ∀ c k j, ¬ ((c = 24 ∧ k = 0 ∧ j = h) ∨ (c = 27 ∧ k = h)) → a2 c k j = a c k j := fun c k j hc => by rw [ha2, be_w3n _ _ _ _ _ _ _ _ (by omega)]; exact h1 c k j hc
      have f24 : a2 24 0 h = be_i (be_bs (fun r => Ft h r && Al r) r : Int) := by rw [ha2, be_w3n _ _ _ _ _ _ _ _ (by omega)]; exact h2
      have f27 : ∀ r', r' < r + 1 → a2 27 h r' = be_i (W h r') := fun r' hr' => by
        by_cases er : r' = r
        · subst er; rw [ha2, be_w3s]
        · rw [ha2, be_w3n _ _ _ _ _ _ _ _ (by omega)]; exact h3 r' (by omega)
      have v1 := ((c5 a1 b2 (fun c k j e1 e2 e3 e4 e5 => (h1 c k j (by omega)).trans (ha c k j e1 e2 e3 e4 e5)) h hh).2 r (by omega)).1
      have v2 := ((c5 a2 b2 (fun c k j e1 e2 e3 e4 e5 => (f2 c k j (by omega)).trans (ha c k j e1 e2 e3 e4 e5)) h hh).2 r (by omega)).2
      have hbs : be_bs (fun r => Ft h r && Al r) (r + 1) = be_bs (fun r => Ft h r && Al r) r + (bif Ft h r && Al r then 2 ^ r else 0) := rfl
      have hlt := be_bs_lt (fun r => Ft h r && Al r) r
      rw [am_b200_29]
      simp (disch := (first | assumption | omega | exact (be_gB _ _ _).1 | exact (be_gB _ _ _).2)) only [↓reduceIte, be_ofI, ↓be_ofN, ↓be_0, be_add, be_sub, be_mul, be_neg, be_rem, be_bi, be_bl, be_bv, be_br, be_bE0, be_bE1, be_b1E, be_b0E, be_bkb, be_cast, Int.toNat_natCast, Int.reduceToNat, be_lt, be_le, be_eq, be_nt, be_ck, be_nz, be_bk, be_div, q1, w1, show (h : Int).toNat = h from rfl, show (r : Int).toNat = r from rfl]
      rw [v1, be_bi, am_b200_62]
      simp (disch := (first | assumption | omega | exact (be_gB _ _ _).1 | exact (be_gB _ _ _).2)) only [↓reduceIte, be_ofI, ↓be_ofN, ↓be_0, be_add, be_sub, be_mul, be_neg, be_rem, be_bi, be_bl, be_bv, be_br, be_bE0, be_bE1, be_b1E, be_b0E, be_bkb, be_cast, Int.toNat_natCast, Int.reduceToNat, be_lt, be_le, be_eq, be_nt, be_ck, be_nz, be_bk, be_div, show (r : Int).toNat = r from rfl]
      rw [← ha2, v2, be_bi, am_b200_74]
      cases hF : Ft h r with
      | false =>
        rw [hF, Bool.false_and, cond_false, Nat.add_zero] at hbs
        simp (disch := (first | assumption | omega | exact (be_gB _ _ _).1 | exact (be_gB _ _ _).2)) only [↓reduceIte, be_ofI, ↓be_ofN, ↓be_0, be_add, be_sub, be_mul, be_neg, be_rem, be_bi, be_bl, be_bv, be_br, be_bE0, be_bE1, be_b1E, be_b0E, be_bkb, be_cast, Int.toNat_natCast, Int.reduceToNat, be_lt, be_le, be_eq, be_nt, be_ck, be_nz, be_bk, be_div, not_true_eq_false, not_false_eq_true, if_true, if_false, eq_self, Int.reduceEq, Int.reduceLT, Int.reduceLE, Bool.true_eq_false, Bool.false_eq_true, be_bF]
        exact ih (r + 1) _ a2 (by omega) (by omega) f2 (by rw [hbs]; exact f24) f27
      | true =>
        rw [hF, Bool.true_and] at hbs
        have hx := hal r (by omega)
        obtain ⟨a3, ha3⟩ : ∃ a3, a3 = am_w3 a2 24 0 h (be_i (be_bs (fun r => Ft h r && Al r) (r + 1) : Int)) := ⟨_, rfl⟩
        have val : a2 24 0 h ||| (al &&& (be_i 1 <<< (be_i (r : Int) &&& be_i 31))) = be_i (be_bs (fun r => Ft h r && Al r) (r + 1) : Int) := by
          rw [hx, f24, hbs]
          cases Al r with
          | false => rw [if_neg Bool.false_ne_true, be_or0]; rfl
          | true => rw [if_pos rfl, be_or (by omega) (by omega) (by exact_mod_cast hlt)]; rfl
        obtain ⟨a', g1, g2, g3, g4⟩ := ih (r + 1) ((r : Int) + 1) a3 (by omega) (by omega) (fun c k j hc => by rw [ha3, be_w3n _ _ _ _ _ _ _ _ (by omega)]; exact f2 c k j hc) (by rw [ha3, be_w3s]) (fun r' hr' => by rw [ha3, be_w3n _ _ _ _ _ _ _ _ (by omega)]; exact f27 r' hr')
        refine ⟨a', ?_, g2, g3, g4⟩
        simp (disch := (first | assumption | omega | exact (be_gB _ _ _).1 | exact (be_gB _ _ _).2)) only [↓reduceIte, be_ofI, ↓be_ofN, ↓be_0, be_add, be_sub, be_mul, be_neg, be_rem, be_bi, be_bl, be_bv, be_br, be_bE0, be_bE1, be_b1E, be_b0E, be_bkb, be_cast, Int.toNat_natCast, Int.reduceToNat, be_lt, be_le, be_eq, be_nt, be_ck, be_nz, be_bk, be_div, not_true_eq_false, not_false_eq_true, if_true, if_false, eq_self, Int.reduceEq, Int.reduceLT, Int.reduceLE, Bool.true_eq_false, Bool.false_eq_true, be_bT, show (h : Int).toNat = h from rfl]
        rw [be_31, val, ← ha3]
        exact g1
  obtain ⟨a', g1, g2, g3, g4⟩ := key nr 0 0 (am_w3 a 24 0 h (be_i 0)) (Nat.zero_add _) rfl (fun c k j hc => be_w3n _ _ _ _ _ _ _ _ (by omega)) (by rw [be_w3s]; rfl) (fun r' hr' => by omega)
  refine ⟨a', ?_, g2, g3, g4⟩
  rw [am_s200, hb, be_bl, hnum, am_b200_17]
  simp (disch := (first | assumption | omega | exact (be_gB _ _ _).1 | exact (be_gB _ _ _).2)) only [↓reduceIte, be_ofI, ↓be_ofN, ↓be_0, be_add, be_sub, be_mul, be_neg, be_rem, be_bi, be_bl, be_bv, be_br, be_bE0, be_bE1, be_b1E, be_b0E, be_bkb, be_cast, Int.toNat_natCast, Int.reduceToNat, be_lt, be_le, be_eq, be_nt, be_ck, be_nz, be_bk, be_div, show (h : Int).toNat = h from rfl]
  rw [← hb2]
  exact g1
theorem bw_search {i n nr : Nat} (hd : n + 3 ≤ d) {B : Nat → Nat → Bool} {K Ft : Nat → Nat → Bool} {W : Nat → Nat → Int} {al : Int32} {Al : Nat → Bool} (hal : bw_AL al Al) (hC : bw_HC X d a u e f i n nr B Ft W) (hK : ∀ o h, o < n → h < n → (K o h = false ↔ ∀ t, t < 64 → (B o t && B h t) = false)) (h8 : be_I8 b) (q : Bool) :
    ∃ a' b', am_sem X (d + 2) 199 [.inr (8, 0), .inr (2, i), am_I al, am_I (be_i (be_b q))] (am_sd a b u e f) = some (some (am_I (be_i (bw_sc q nr (fun h r => Ft h r && Al r) K W n 0 (fun _ => 9) 0 0 (-1, -1, fun _ => 9)).1)), am_sd a' b' u e f) ∧ bw_Fa a a' ∧ (∀ c k j, c ≠ 25 → b' c k j = b c k j) ∧
      bw_St a' n (bw_sc q nr (fun h r => Ft h r && Al r) K W n 0 (fun _ => 9) 0 0 (-1, -1, fun _ => 9)) := by
  have hC' := hC
  obtain ⟨n6, nr5, c1, c2, c3, c4, c5⟩ := hC
  obtain ⟨a0, ha0⟩ : ∃ a0, a0 = am_w3 (am_w3 (am_w3 (am_w3 (am_w3 a 8 0 0 (be_i (n : Int))) 8 0 1 (be_i (nr : Int))) 8 0 2 (be_i (be_b q))) 8 0 9 (be_i (-1))) 8 0 10 (be_i (-1)) := ⟨_, rfl⟩
  have fa0 : bw_Fa a a0 := fun c k j e1 e2 e3 e4 e5 => by rw [ha0]; simp (disch := omega) only [be_w3n]
  have g80 : a0 8 0 0 = be_i (n : Int) := by rw [ha0]; simp (disch := omega) only [be_w3n, be_w3s]
  have g81 : a0 8 0 1 = be_i (nr : Int) := by rw [ha0]; simp (disch := omega) only [be_w3n, be_w3s]
  have g82 : a0 8 0 2 = be_i (be_b q) := by rw [ha0]; simp (disch := omega) only [be_w3n, be_w3s]
  have g89 : a0 8 0 9 = be_i (-1) := by rw [ha0]; simp (disch := omega) only [be_w3n, be_w3s]
  have g8A : a0 8 0 10 = be_i (-1) := by rw [ha0]; simp (disch := omega) only [be_w3n, be_w3s]
  have key : ∀ (m h : Nat) (z : Int) (a1 : Nat → Nat → Nat → Int32) (b1 : Nat → Nat → Nat → Int64), h + m = n → z = (h : Int) → bw_Fa a a1 → (∀ j, a1 8 0 j = a0 8 0 j) → (∀ c k j, c ≠ 25 → b1 c k j = b c k j) →
      (∀ g, g < h → a1 24 0 g = be_i (be_bs (fun r => Ft g r && Al r) nr : Int) ∧ b1 25 0 g = be_mk (B g) ∧ ∀ r, r < nr → a1 27 g r = be_i (W g r) ∧ 0 ≤ W g r ∧ W g r ≤ 1000) →
      ∃ a' b', am_fix (am_sem X (d + 1)) X am_P199 34 [.inr (8, 0), .inr (2, i), am_I al, am_I (be_i (be_b q)), am_I (be_i (z))] [] (am_sd a1 b1 u e f) = some (some (am_I (be_i (bw_sc q nr (fun h r => Ft h r && Al r) K W n 0 (fun _ => 9) 0 0 (-1, -1, fun _ => 9)).1)), am_sd a' b' u e f) ∧ bw_Fa a a' ∧ (∀ c k j, c ≠ 25 → b' c k j = b c k j) ∧
        bw_St a' n (bw_sc q nr (fun h r => Ft h r && Al r) K W n 0 (fun _ => 9) 0 0 (-1, -1, fun _ => 9)) := by
    intro m
    induction m with
    | zero =>
      rintro h z a1 b1 hh rfl h1 h2 h3 h4
      obtain rfl : h = n := hh
      have hS : bw_SI a1 b1 h nr q B (fun h r => Ft h r && Al r) W := ⟨by rw [h2, g80], by rw [h2, g81], by rw [h2, g82], n6, nr5, h4⟩
      obtain ⟨a', k1, k2, k3⟩ := bw_go (X := X) (u := u) (e := e) (f := f) hK h (d + 1) 0 0 0 (fun _ => 9) (-1, -1, fun _ => 9) a1 b1 (by omega) (Nat.zero_add _) hS (fun r hr => by
        rw [h3 _ _ _ (by omega), h8 r (by omega)]
        rfl) (fun o ho => by omega) ⟨by rw [h2, g89], by rw [h2, g8A], by dsimp only; omega, by dsimp only; omega, by dsimp only; omega, by dsimp only; omega, Or.inl rfl⟩ (Nat.le_refl _) (Int.le_refl _) (by omega)
      refine ⟨a', b1, ?_, fun c k j e1 e2 e3 e4 e5 => (k2 c k j (by omega)).trans (h1 c k j e1 e2 e3 e4 e5), h3, k3⟩
      have q1 : a1 8 0 0 = be_i (h : Int) := by rw [h2, g80]
      have k1' : am_sem X (d + 1) 201 [.inr (8, 0), am_I (be_i 0), am_I (be_i 0), am_I (be_i 0)] (am_sd a1 b1 u e f) = some (none, am_sd a' b1 u e f) := k1
      rw [am_b199_34]
      simp (disch := (first | assumption | omega | exact (be_gB _ _ _).1 | exact (be_gB _ _ _).2)) only [↓reduceIte, be_ofI, ↓be_ofN, ↓be_0, be_add, be_sub, be_mul, be_neg, be_rem, be_bi, be_bl, be_bv, be_br, be_bE0, be_bE1, be_b1E, be_b0E, be_bkb, be_cast, Int.toNat_natCast, Int.reduceToNat, be_lt, be_le, be_eq, be_nt, be_ck, be_nz, be_bk, be_div, q1, Int.le_refl]
      rw [k1', be_bv, am_b199_69, k3.1]
    | succ m ih =>
      rintro h z a1 b1 hh rfl h1 h2 h3 h4
      have q1 : a1 8 0 0 = be_i (n : Int) := by rw [h2, g80]
      have w1 : ¬ (n : Int) ≤ (h : Int) := by omega
      obtain ⟨a2, l1, l2, l3, l4⟩ := bw_look (X := X) (a := a1) (b := b1) (u := u) (e := e) (f := f) (d := d) (by omega) hal hC' (h := h) (by omega) h1 (by rw [h2, g81])
      obtain ⟨a', b', k1, k2⟩ := ih (h + 1) ((h : Int) + 1) a2 (am_w3 b1 25 0 h (be_mk (B h))) (by omega) (by omega) (fun c k j e1 e2 e3 e4 e5 => (l2 c k j (by omega)).trans (h1 c k j e1 e2 e3 e4 e5)) (fun j => by rw [l2 _ _ _ (by omega)]; exact h2 j) (fun c k j hc => by rw [be_w3n _ _ _ _ _ _ _ _ (by omega)]; exact h3 c k j hc) (fun g hg => by
        by_cases eg : g = h
        · subst eg
          exact ⟨l3, be_w3s _ _ _ _ _, fun r hr => ⟨l4 r hr, c4 g r (by omega) hr⟩⟩
        · obtain ⟨p1, p2, p3⟩ := h4 g (by omega)
          refine ⟨?_, ?_, fun r hr => ?_⟩
          · rw [l2 _ _ _ (by omega)]; exact p1
          · rw [be_w3n _ _ _ _ _ _ _ _ (by omega)]; exact p2
          · rw [l2 _ _ _ (by omega)]; exact p3 r hr)
      refine ⟨a', b', ?_, k2⟩
      rw [am_b199_34]
      simp (disch := (first | assumption | omega | exact (be_gB _ _ _).1 | exact (be_gB _ _ _).2)) only [↓reduceIte, be_ofI, ↓be_ofN, ↓be_0, be_add, be_sub, be_mul, be_neg, be_rem, be_bi, be_bl, be_bv, be_br, be_bE0, be_bE1, be_b1E, be_b0E, be_bkb, be_cast, Int.toNat_natCast, Int.reduceToNat, be_lt, be_le, be_eq, be_nt, be_ck, be_nz, be_bk, be_div, q1, w1, show (h : Int).toNat = h from rfl]
      rw [l1, be_bv, am_b199_56]
      simp (disch := (first | assumption | omega | exact (be_gB _ _ _).1 | exact (be_gB _ _ _).2)) only [↓reduceIte, be_ofI, ↓be_ofN, ↓be_0, be_add, be_sub, be_mul, be_neg, be_rem, be_bi, be_bl, be_bv, be_br, be_bE0, be_bE1, be_b1E, be_b0E, be_bkb, be_cast, Int.toNat_natCast, Int.reduceToNat, be_lt, be_le, be_eq, be_nt, be_ck, be_nz, be_bk, be_div]
      exact k1
  obtain ⟨a', b', k1, k2⟩ := key n 0 0 a0 b (Nat.zero_add _) rfl fa0 (fun _ => rfl) (fun _ _ _ _ => rfl) (fun g hg => by omega)
  refine ⟨a', b', ?_, k2⟩
  rw [am_s199, be_bkb, c1, c2, ← ha0]
  exact k1
