/-! WAYS, 9: most, dearest -/
variable {d : Nat} {X : am_X} {a : Nat → Nat → Nat → Int32} {b : Nat → Nat → Nat → Int64} {u : Nat → Nat} {e : Nat → Nat → Nat → Int32} {f : Nat → Nat → Nat → Int64}
theorem bw_HCof {e0 : Nat → Nat → Nat → Int32} (hd : 3 ≤ d) {i : Nat} (hi : i < 3) (hW : be_W e) (hW2 : be_W2 e) (hT : be_T3 e) (hX : be_HX a u i e) : bw_HC X d a u e0 f i (be_nh e) (be_nr e) (fun h t => decide (be_g e 54 h ≤ (t : Int) ∧ (t : Int) < be_bt e h)) (be_fit e) (bw_W e) := by
  obtain ⟨nh, nh2⟩ := be_nhR hW
  obtain ⟨nr, nr2⟩ := be_nrR hW
  refine ⟨nh, by omega, by rw [hX.1.2.1, nh2], by rw [hX.1.1, nr2], fun h hh => (hX.1.2.2.2.2.2.1 h hh).1, fun h r _ _ => be_woR hT _, fun a1 b1 hf h hh => ?_⟩
  have hX1 : be_HX a1 u i e := be_I1_a (fun c k j hc => hf c k j (by unfold be_inH at hc; omega) (by unfold be_inH at hc; omega) (by unfold be_inH at hc; omega) (by unfold be_inH at hc; omega) (by unfold be_inH at hc; omega)) rfl hi hW hW2 hX
  have hH := hX1.1.2.2.2.2.2.1 h hh
  refine ⟨be_n143 (X := X) (a := a1) (b := b1) (u := u) (e0 := e0) (e := e) (f := f) (d := d) (by omega) hW (by omega) hH hX1.1.2.2.2.2.1, fun r hr => ?_⟩
  have hR := hX1.1.2.2.2.2.2.2 r hr
  exact ⟨be_n163o (X := X) (a := a1) (b := b1) (u := u) (e0 := e0) (e := e) (f := f) (d := d) (by omega) hW hT (by omega) (by omega) hH hR hX1.2.2.1, be_n182 (X := X) (a := a1) (b := b1) (u := u) (e0 := e0) (e := e) (f := f) (d := d) (by omega) hW (by omega) (by omega) hH hR⟩
theorem bw_hK (hW : be_W e) : ∀ o h, o < be_nh e → h < be_nh e → (be_cl e o h = false ↔ ∀ t : Nat, t < 64 → (decide (be_g e 54 o ≤ (t : Int) ∧ (t : Int) < be_bt e o) && decide (be_g e 54 h ≤ (t : Int) ∧ (t : Int) < be_bt e h)) = false) := by
  intro o h ho hh
  obtain ⟨nh, nh2⟩ := be_nhR hW
  have := be_cl_mk e hW (h := h) (o := o) (by omega) (by omega)
  rw [← this, be_mk_and, be_mk_eq0]
theorem bw_AL1 : bw_AL (be_i (-1)) (fun _ => true) := by
  intro r hr
  rcases (show r = 0 ∨ r = 1 ∨ r = 2 ∨ r = 3 ∨ r = 4 by omega) with rfl | rfl | rfl | rfl | rfl <;> decide +kernel
theorem bw_sc_congr {q : Bool} {nr : Nat} {F F' K : Nat → Nat → Bool} {W : Nat → Nat → Int} (h : ∀ g r, r < nr → F g r = F' g r) : ∀ (k g : Nat) (y : Nat → Nat) (c : Nat) (w : Int) (s : bw_S), bw_sc q nr F K W k g y c w s = bw_sc q nr F' K W k g y c w s
  | 0, _, _, _, _, _ => rfl
  | k + 1, g, y, c, w, s => by
    rw [bw_sc, bw_sc, bw_sc_congr h k]
    congr 1
    refine bw_fold_congr (fun i hi s => ?_) s
    have hok : bw_ok F K y g i = bw_ok F' K y g i := by unfold bw_ok; rw [h g i hi]
    rw [hok, bw_sc_congr h k]
/-- there is a best way, and its rooms are rooms -/
def bw_PS (nr : Nat) (s : bw_S) : Prop := (0 ≤ s.1 ∨ (s.1 = -1 ∧ s.2.1 = -1)) ∧ ∀ j, s.2.2 j = 9 ∨ s.2.2 j < nr
theorem bw_sc_P {q : Bool} {nr : Nat} {F K : Nat → Nat → Bool} {W : Nat → Nat → Int} (hW : ∀ h r, 0 ≤ W h r) : ∀ (k g : Nat) (y : Nat → Nat) (c : Nat) (w : Int) (s : bw_S), (∀ j, y j = 9 ∨ y j < nr) → 0 ≤ w → bw_PS nr s → bw_PS nr (bw_sc q nr F K W k g y c w s) ∧ 0 ≤ (bw_sc q nr F K W k g y c w s).1
  | 0, g, y, c, w, s, hy, hw, hs => by
    rw [bw_sc]
    unfold bw_leaf
    split
    · exact ⟨⟨Or.inl (Int.natCast_nonneg c), hy⟩, Int.natCast_nonneg c⟩
    · rename_i hn
      refine ⟨hs, ?_⟩
      rcases hs.1 with h | ⟨h1, h2⟩
      · exact h
      · exfalso
        apply hn
        rw [h1, h2]
        cases q with
        | false => rw [cond_false, decide_eq_true_iff]; omega
        | true => rw [cond_true, decide_eq_true_iff]; omega
  | k + 1, g, y, c, w, s, hy, hw, hs => by
    rw [bw_sc]
    refine bw_sc_P hW k (g + 1) (am_u y g 9) c w _ (fun j => ?_) hw ?_
    · rw [be_ub]; split
      · exact Or.inl rfl
      · exact hy j
    · have key : ∀ m, m ≤ nr → bw_PS nr (bw_fold (fun r s => bif bw_ok F K y g r then bw_sc q nr F K W k (g + 1) (am_u y g r) (c + 1) (w + W g r) s else s) m s) := by
        intro m
        induction m with
        | zero => exact fun _ => hs
        | succ m ih =>
          intro hm
          rw [bw_fold]
          cases bw_ok F K y g m with
          | false => exact ih (by omega)
          | true =>
            refine (bw_sc_P hW k (g + 1) (am_u y g m) (c + 1) _ _ (fun j => ?_) ?_ (ih (by omega))).1
            · rw [be_ub]; split
              · exact Or.inr (by omega)
              · exact hy j
            · have := hW g m
              omega
      exact key nr (Nat.le_refl nr)
theorem be_m222 (hd : 2 ≤ d) (hI : be_IV a b u e f) {x : Int} (h1 : -2147483648 ≤ x) (h2 : x < 2147483648) : am_sem X d 222 [.inr (9, 0), am_I (be_i (x))] (am_sd a b u e f) = some (some (am_I (be_i (be_b (decide (10 ≤ x ∧ x ≤ 9 + be_g e 50 2))))), (am_sd a b u e f)) := by
  obtain ⟨d, rfl⟩ : ∃ q, d = q + 1 := ⟨d - 1, by omega⟩
  have hW1 := hI.1.1.1
  rw [am_s222]
  by_cases hx : x < 10
  · rw [decide_eq_false (by omega)]
    simp (disch := (first | assumption | omega | exact (be_gB _ _ _).1 | exact (be_gB _ _ _).2)) only [↓reduceIte, be_ofI, ↓be_ofN, ↓be_0, be_add, be_sub, be_mul, be_neg, be_rem, be_bi, be_bl, be_bv, be_br, be_bE0, be_bE1, be_b1E, be_b0E, be_bkb, be_cast, Int.toNat_natCast, Int.reduceToNat, be_lt, be_le, be_eq, be_nt, be_ck, be_nz, be_bk, be_div, not_true_eq_false, not_false_eq_true, if_true, if_false, eq_self, Int.reduceEq, Int.reduceLT, Int.reduceLE, Bool.true_eq_false, Bool.false_eq_true, hx]
    rfl
  · have j := be_hasH (X := X) (a := a) (b := b) (u := u) (e := e) (f := f) (d := d) (x := x - 10) (by omega) hI (by omega) (by omega)
    simp (disch := (first | assumption | omega | exact (be_gB _ _ _).1 | exact (be_gB _ _ _).2)) only [↓reduceIte, be_ofI, ↓be_ofN, ↓be_0, be_add, be_sub, be_mul, be_neg, be_rem, be_bi, be_bl, be_bv, be_br, be_bE0, be_bE1, be_b1E, be_b0E, be_bkb, be_cast, Int.toNat_natCast, Int.reduceToNat, be_lt, be_le, be_eq, be_nt, be_ck, be_nz, be_bk, be_div, not_true_eq_false, not_false_eq_true, if_true, if_false, eq_self, Int.reduceEq, Int.reduceLT, Int.reduceLE, Bool.true_eq_false, Bool.false_eq_true, hx, j, am_b222_17]
    by_cases h3 : 10 ≤ x ∧ x ≤ 9 + be_g e 50 2
    · rw [decide_eq_true h3, decide_eq_true (by omega)]
      simp (disch := (first | assumption | omega | exact (be_gB _ _ _).1 | exact (be_gB _ _ _).2)) only [↓reduceIte, be_ofI, ↓be_ofN, ↓be_0, be_add, be_sub, be_mul, be_neg, be_rem, be_bi, be_bl, be_bv, be_br, be_bE0, be_bE1, be_b1E, be_b0E, be_bkb, be_cast, Int.toNat_natCast, Int.reduceToNat, be_lt, be_le, be_eq, be_nt, be_ck, be_nz, be_bk, be_div, not_true_eq_false, not_false_eq_true, if_true, if_false, eq_self, Int.reduceEq, Int.reduceLT, Int.reduceLE, Bool.true_eq_false, Bool.false_eq_true]
      rfl
    · rw [decide_eq_false h3, decide_eq_false (by omega)]
      simp (disch := (first | assumption | omega | exact (be_gB _ _ _).1 | exact (be_gB _ _ _).2)) only [↓reduceIte, be_ofI, ↓be_ofN, ↓be_0, be_add, be_sub, be_mul, be_neg, be_rem, be_bi, be_bl, be_bv, be_br, be_bE0, be_bE1, be_b1E, be_b0E, be_bkb, be_cast, Int.toNat_natCast, Int.reduceToNat, be_lt, be_le, be_eq, be_nt, be_ck, be_nz, be_bk, be_div, not_true_eq_false, not_false_eq_true, if_true, if_false, eq_self, Int.reduceEq, Int.reduceLT, Int.reduceLE, Bool.true_eq_false, Bool.false_eq_true]
      rfl
/-- both sides have looked -/
theorem bw_both (hd : 11 ≤ d) (hI : be_IV a b u e f) (q : Bool) : ∃ (a' : Nat → Nat → Nat → Int32) (b' : Nat → Nat → Nat → Int64) (e' : Nat → Nat → Nat → Int32) (c w : Int) (y : Nat → Nat),
    am_sem X d 199 [.inr (8, 0), .inr (2, 0), am_I (be_i ((-1))), am_I (be_i (be_b q))] (am_sd a b u e f) = some (some (am_I (be_i c)), am_sd a' b' u e f) ∧ am_sem X d 62 [.inr (50, 0), am_I (be_i (be_b q))] (am_sd a' b' u e f) = some (none, am_sd a' b' u e' f) ∧ be_IV a' b' u e f ∧ be_IV a' b' u e' f ∧ be_g e' 50 2 = be_g e 50 2 ∧
    a' 8 0 10 = be_i w ∧ be_g e' 50 33 = c ∧ be_g e' 50 34 = w ∧ ∀ j : Nat, (j : Int) < be_g e 50 2 → a' 30 0 j = be_i (if y j = 9 then -5 else (y j : Int)) ∧ be_g e' 70 j = (if y j = 9 then 4 else (y j : Int)) ∧ (y j = 9 ∨ y j < 4) := by
  obtain ⟨hW, hW2, hT, hh, hD, hth, hX⟩ := hI.1
  obtain ⟨nh, nh2⟩ := be_nhR hW
  obtain ⟨nr, nr2⟩ := be_nrR hW
  obtain ⟨d, rfl⟩ : ∃ q, d = q + 2 := ⟨d - 2, by omega⟩
  obtain ⟨s, hs⟩ : ∃ s, s = bw_sc q (be_nr e) (bw_F e) (be_cl e) (bw_W e) (be_nh e) 0 (fun _ => 9) 0 0 (-1, -1, fun _ => 9) := ⟨_, rfl⟩
  have hc : bw_sc q (be_nr e) (fun h r => be_fit e h r && true) (be_cl e) (bw_W e) (be_nh e) 0 (fun _ => 9) 0 0 (-1, -1, fun _ => 9) = s := by
    rw [hs]
    exact bw_sc_congr (fun g r hr => by unfold bw_F; rw [decide_eq_true hr, Bool.and_true, Bool.true_and]) _ _ _ _ _ _
  obtain ⟨a', b', g1, g2, g3, g4⟩ := bw_search (X := X) (a := a) (b := b) (u := u) (e := e) (f := f) (d := d) (by omega) bw_AL1 (bw_HCof (X := X) (a := a) (u := u) (e := e) (f := f) (d := d) (e0 := e) (by omega) (by decide) hW hW2 hT hX) (bw_hK hW) hI.2.2.2.2.2.2.2.1 q
  rw [hc] at g1 g4
  have hf : be_FA a a' := fun c k j c1 c2 c3 c4 c5 _ => g2 c k j c1 c2 c3 c4 c5
  have hI1 : be_IV a' b' u e f := be_IV_q hI hf (be_NM_t hI.2.1 (fun k => g2 _ _ _ (by decide) (by decide) (by decide) (by decide) (by decide)) (fun k => g2 _ _ _ (by decide) (by decide) (by decide) (by decide) (by decide))) (fun k j => g3 _ _ _ (by decide)) (fun r hr => by rw [g3 _ _ _ (by decide)]; exact hI.2.2.2.2.2.2.2.1 r hr) (fun _ _ => rfl)
  obtain ⟨e', k1, k2, k3⟩ := bw_m62 (X := X) (a := a') (b := b') (u := u) (e := e) (f := f) (d := d + 2) (by omega) hW hT q (e0 := e) (fun _ _ _ _ _ _ _ _ _ _ _ => rfl)
  rw [← hs] at k3
  have hP := bw_sc_P (q := q) (nr := be_nr e) (F := bw_F e) (K := be_cl e) (W := bw_W e) (fun h r => (be_woR hT _).1) (be_nh e) 0 (fun _ => 9) 0 0 (-1, -1, fun _ => 9) (fun _ => Or.inl rfl) (Int.le_refl 0) ⟨Or.inr ⟨rfl, rfl⟩, fun _ => Or.inl rfl⟩
  rw [← hs] at hP
  obtain ⟨t1, t2, t3, t4, t5, t6, t7⟩ := g4
  obtain ⟨r1, r2, r3, r4, r5, r6, r7⟩ := k3
  have hRA : be_RA e e' := fun c j hc => k2 c j (by omega) (by omega) (by omega) (by omega) (by omega) (by omega) (by omega) (by omega) (by omega)
  refine ⟨a', b', e', s.1, s.2.1, s.2.2, g1, k1, hI1, be_RA_IV hRA (fun _ => rfl) hI1, hRA _ _ (by omega), t2, r1, r2, fun j hj => ⟨?_, ?_, ?_⟩⟩
  · rcases t7 with h | h
    · omega
    · exact h j (by omega)
  · rcases r7 with h | h
    · omega
    · exact h j (by omega)
  · rcases hP.1.2 j with h | h
    · exact Or.inl h
    · exact Or.inr (by omega)
theorem be_m63 (hd : 1 ≤ d) {j : Nat} (hj : j < 6) : am_sem X d 63 [.inr (50, 0), am_I (be_i ((j : Int)))] (am_sd a b u e f) = some (some (am_I (be_i ((if be_g e 70 j = 4 then -5 else be_g e 70 j)))), (am_sd a b u e f)) := by
  obtain ⟨d, rfl⟩ : ∃ q, d = q + 1 := ⟨d - 1, by omega⟩
  have he := be_gI e
  rw [am_s63]
  simp (disch := (first | assumption | omega | exact (be_gB _ _ _).1 | exact (be_gB _ _ _).2)) only [↓reduceIte, be_ofI, ↓be_ofN, ↓be_0, be_add, be_sub, be_mul, be_neg, be_rem, be_bi, be_bl, be_bv, be_br, be_bE0, be_bE1, be_b1E, be_b0E, be_bkb, be_cast, Int.toNat_natCast, Int.reduceToNat, be_lt, be_le, be_eq, be_nt, be_ck, be_nz, be_bk, be_div, he, show (j : Int).toNat = j from rfl]
  (repeat' split) <;> first | rfl | omega
theorem be_cmost (hd : 12 ≤ d) (hI : be_IV a b u e f) {x : Int} (hx1 : -2147483648 ≤ x) (hx2 : x < 2147483648) : be_C X d 220 64 [am_I (be_i (x))] a b u e f := by
  obtain ⟨d, rfl⟩ : ∃ q, d = q + 1 := ⟨d - 1, by omega⟩
  have hW1 := hI.1.1.1
  have c1 := be_m222 (X := X) (a := a) (b := b) (u := u) (e := e) (f := f) (d := d) (x := x) (by omega) hI hx1 hx2
  have r1 := fun a' b' => be_m1 (X := X) (a := a') (b := b') (u := u) (e := e) (f := f) (d := d) (x := x) (y := 0) (z := 1) (by omega) hx1 hx2 (by decide) (by decide) (by decide) (by decide)
  have r2 := fun a' b' => be_m1 (X := X) (a := a') (b := b') (u := u) (e := e) (f := f) (d := d) (x := x) (y := 10) (z := 9 + be_g e 50 2) (by omega) hx1 hx2 (by decide) (by decide) (by omega) (by omega)
  have h50 : e 50 0 2 = be_i (be_g e 50 2) := be_gI e 50 2
  by_cases hx : x = 0 ∨ x = 1 ∨ (10 ≤ x ∧ x ≤ 9 + be_g e 50 2)
  · obtain ⟨a', b', e', c, w, y, g1, g2, g3, g4, g5, g6, g7, g8, g9⟩ := bw_both (X := X) (a := a) (b := b) (u := u) (e := e) (f := f) (d := d) (by omega) hI true
    have g1' : am_sem X d 199 [.inr (8, 0), .inr (2, 0), am_I (be_i (-1)), am_I (be_i 1)] (am_sd a b u e f) = some (some (am_I (be_i c)), am_sd a' b' u e f) := g1
    have g2' : am_sem X d 62 [.inr (50, 0), am_I (be_i 1)] (am_sd a' b' u e f) = some (none, am_sd a' b' u e' f) := g2
    have e33 : e' 50 0 33 = be_i c := by rw [be_gI e', g7]
    have e34 : e' 50 0 34 = be_i w := by rw [be_gI e', g8]
    rcases hx with rfl | rfl | hx
    · refine ⟨be_i c, a', b', u, e', f, ?_, ?_, g4⟩
      · rw [am_s220]
        simp (disch := (first | assumption | omega | exact (be_gB _ _ _).1 | exact (be_gB _ _ _).2)) only [↓reduceIte, be_ofI, ↓be_ofN, ↓be_0, be_add, be_sub, be_mul, be_neg, be_rem, be_bi, be_bl, be_bv, be_br, be_bE0, be_bE1, be_b1E, be_b0E, be_bkb, be_cast, Int.toNat_natCast, Int.reduceToNat, be_lt, be_le, be_eq, be_nt, be_ck, be_nz, be_bk, be_div, not_true_eq_false, not_false_eq_true, if_true, if_false, eq_self, Int.reduceEq, Int.reduceLT, Int.reduceLE, Bool.true_eq_false, Bool.false_eq_true, g1', am_b220_32]
      · have r := r1 a' b'
        rw [decide_eq_true (by decide)] at r
        rw [am_s64]
        simp (disch := (first | assumption | omega | exact (be_gB _ _ _).1 | exact (be_gB _ _ _).2)) only [↓reduceIte, be_ofI, ↓be_ofN, ↓be_0, be_add, be_sub, be_mul, be_neg, be_rem, be_bi, be_bl, be_bv, be_br, be_bE0, be_bE1, be_b1E, be_b0E, be_bkb, be_cast, Int.toNat_natCast, Int.reduceToNat, be_lt, be_le, be_eq, be_nt, be_ck, be_nz, be_bk, be_div, not_true_eq_false, not_false_eq_true, if_true, if_false, eq_self, Int.reduceEq, Int.reduceLT, Int.reduceLE, Bool.true_eq_false, Bool.false_eq_true, r, am_b64_7, g2', am_b64_34, e33, am_b64_65]
    · refine ⟨be_i w, a', b', u, e', f, ?_, ?_, g4⟩
      · rw [am_s220]
        simp (disch := (first | assumption | omega | exact (be_gB _ _ _).1 | exact (be_gB _ _ _).2)) only [↓reduceIte, be_ofI, ↓be_ofN, ↓be_0, be_add, be_sub, be_mul, be_neg, be_rem, be_bi, be_bl, be_bv, be_br, be_bE0, be_bE1, be_b1E, be_b0E, be_bkb, be_cast, Int.toNat_natCast, Int.reduceToNat, be_lt, be_le, be_eq, be_nt, be_ck, be_nz, be_bk, be_div, not_true_eq_false, not_false_eq_true, if_true, if_false, eq_self, Int.reduceEq, Int.reduceLT, Int.reduceLE, Bool.true_eq_false, Bool.false_eq_true, g1', am_b220_32, g6]
      · have r := r1 a' b'
        rw [decide_eq_true (by decide)] at r
        rw [am_s64]
        simp (disch := (first | assumption | omega | exact (be_gB _ _ _).1 | exact (be_gB _ _ _).2)) only [↓reduceIte, be_ofI, ↓be_ofN, ↓be_0, be_add, be_sub, be_mul, be_neg, be_rem, be_bi, be_bl, be_bv, be_br, be_bE0, be_bE1, be_b1E, be_b0E, be_bkb, be_cast, Int.toNat_natCast, Int.reduceToNat, be_lt, be_le, be_eq, be_nt, be_ck, be_nz, be_bk, be_div, not_true_eq_false, not_false_eq_true, if_true, if_false, eq_self, Int.reduceEq, Int.reduceLT, Int.reduceLE, Bool.true_eq_false, Bool.false_eq_true, r, am_b64_7, g2', am_b64_34, e34, am_b64_65]
    · obtain ⟨j, hj⟩ := be_0le (show 0 ≤ x - 10 by omega)
      obtain ⟨p1, p2, p3⟩ := g9 j (by omega)
      refine ⟨be_i (if y j = 9 then -5 else (y j : Int)), a', b', u, e', f, ?_, ?_, g4⟩
      · rw [decide_eq_true hx] at c1
        have n0 : ¬ x = 0 := by omega
        have n1 : ¬ x = 1 := by omega
        rw [am_s220]
        simp (disch := (first | assumption | omega | exact (be_gB _ _ _).1 | exact (be_gB _ _ _).2)) only [↓reduceIte, be_ofI, ↓be_ofN, ↓be_0, be_add, be_sub, be_mul, be_neg, be_rem, be_bi, be_bl, be_bv, be_br, be_bE0, be_bE1, be_b1E, be_b0E, be_bkb, be_cast, Int.toNat_natCast, Int.reduceToNat, be_lt, be_le, be_eq, be_nt, be_ck, be_nz, be_bk, be_div, not_true_eq_false, not_false_eq_true, if_true, if_false, eq_self, Int.reduceEq, Int.reduceLT, Int.reduceLE, Bool.true_eq_false, Bool.false_eq_true, n0, n1, c1, am_b220_14, g1', am_b220_32, hj, p1, show (j : Int).toNat = j from rfl]
      · have r := r1 a' b'
        have r' := r2 a' b'
        rw [decide_eq_false (by omega)] at r
        rw [decide_eq_true hx] at r'
        have n0 : ¬ x = 0 := by omega
        have n1 : ¬ x = 1 := by omega
        have v := be_m63 (X := X) (a := a') (b := b') (u := u) (e := e') (f := f) (d := d) (j := j) (by omega) (by omega)
        rw [p2] at v
        rw [am_s64]
        simp (disch := (first | assumption | omega | exact (be_gB _ _ _).1 | exact (be_gB _ _ _).2)) only [↓reduceIte, be_ofI, ↓be_ofN, ↓be_0, be_add, be_sub, be_mul, be_neg, be_rem, be_bi, be_bl, be_bv, be_br, be_bE0, be_bE1, be_b1E, be_b0E, be_bkb, be_cast, Int.toNat_natCast, Int.reduceToNat, be_lt, be_le, be_eq, be_nt, be_ck, be_nz, be_bk, be_div, not_true_eq_false, not_false_eq_true, if_true, if_false, eq_self, Int.reduceEq, Int.reduceLT, Int.reduceLE, Bool.true_eq_false, Bool.false_eq_true, r, am_b64_7, h50, r', am_b64_24, g2', am_b64_34, n0, n1, hj, v, am_b64_65]
        rcases p3 with h9 | h9
        · rw [if_pos h9, if_pos h9, if_pos rfl]
        · rw [if_neg (by omega), if_neg (by omega), if_neg (by omega)]
  · refine be_Cp (v := be_i (-1)) hI ?_ ?_
    · rw [decide_eq_false (by omega)] at c1
      have n0 : ¬ x = 0 := by omega
      have n1 : ¬ x = 1 := by omega
      rw [am_s220]
      simp (disch := (first | assumption | omega | exact (be_gB _ _ _).1 | exact (be_gB _ _ _).2)) only [↓reduceIte, be_ofI, ↓be_ofN, ↓be_0, be_add, be_sub, be_mul, be_neg, be_rem, be_bi, be_bl, be_bv, be_br, be_bE0, be_bE1, be_b1E, be_b0E, be_bkb, be_cast, Int.toNat_natCast, Int.reduceToNat, be_lt, be_le, be_eq, be_nt, be_ck, be_nz, be_bk, be_div, not_true_eq_false, not_false_eq_true, if_true, if_false, eq_self, Int.reduceEq, Int.reduceLT, Int.reduceLE, Bool.true_eq_false, Bool.false_eq_true, n0, n1, c1, am_b220_14]
    · have r := r1 a b
      have r' := r2 a b
      rw [decide_eq_false (by omega)] at r r'
      rw [am_s64]
      simp (disch := (first | assumption | omega | exact (be_gB _ _ _).1 | exact (be_gB _ _ _).2)) only [↓reduceIte, be_ofI, ↓be_ofN, ↓be_0, be_add, be_sub, be_mul, be_neg, be_rem, be_bi, be_bl, be_bv, be_br, be_bE0, be_bE1, be_b1E, be_b0E, be_bkb, be_cast, Int.toNat_natCast, Int.reduceToNat, be_lt, be_le, be_eq, be_nt, be_ck, be_nz, be_bk, be_div, not_true_eq_false, not_false_eq_true, if_true, if_false, eq_self, Int.reduceEq, Int.reduceLT, Int.reduceLE, Bool.true_eq_false, Bool.false_eq_true, r, am_b64_7, h50, r', am_b64_24]
theorem be_cdearest (hd : 12 ≤ d) (hI : be_IV a b u e f) {x : Int} (hx1 : -2147483648 ≤ x) (hx2 : x < 2147483648) : be_C X d 221 65 [am_I (be_i (x))] a b u e f := by
  obtain ⟨d, rfl⟩ : ∃ q, d = q + 1 := ⟨d - 1, by omega⟩
  have hW1 := hI.1.1.1
  have c1 := be_m222 (X := X) (a := a) (b := b) (u := u) (e := e) (f := f) (d := d) (x := x) (by omega) hI hx1 hx2
  have r2 := fun a' b' => be_m1 (X := X) (a := a') (b := b') (u := u) (e := e) (f := f) (d := d) (x := x) (y := 10) (z := 9 + be_g e 50 2) (by omega) hx1 hx2 (by decide) (by decide) (by omega) (by omega)
  have h50 : e 50 0 2 = be_i (be_g e 50 2) := be_gI e 50 2
  by_cases hx : x = 0 ∨ (10 ≤ x ∧ x ≤ 9 + be_g e 50 2)
  · obtain ⟨a', b', e', c, w, y, g1, g2, g3, g4, g5, g6, g7, g8, g9⟩ := bw_both (X := X) (a := a) (b := b) (u := u) (e := e) (f := f) (d := d) (by omega) hI false
    have g1' : am_sem X d 199 [.inr (8, 0), .inr (2, 0), am_I (be_i (-1)), am_I (be_i 0)] (am_sd a b u e f) = some (some (am_I (be_i c)), am_sd a' b' u e f) := g1
    have g2' : am_sem X d 62 [.inr (50, 0), am_I (be_i 0)] (am_sd a' b' u e f) = some (none, am_sd a' b' u e' f) := g2
    have e34 : e' 50 0 34 = be_i w := by rw [be_gI e', g8]
    rcases hx with rfl | hx
    · refine ⟨be_i w, a', b', u, e', f, ?_, ?_, g4⟩
      · rw [am_s221]
        simp (disch := (first | assumption | omega | exact (be_gB _ _ _).1 | exact (be_gB _ _ _).2)) only [↓reduceIte, be_ofI, ↓be_ofN, ↓be_0, be_add, be_sub, be_mul, be_neg, be_rem, be_bi, be_bl, be_bv, be_br, be_bE0, be_bE1, be_b1E, be_b0E, be_bkb, be_cast, Int.toNat_natCast, Int.reduceToNat, be_lt, be_le, be_eq, be_nt, be_ck, be_nz, be_bk, be_div, not_true_eq_false, not_false_eq_true, if_true, if_false, eq_self, Int.reduceEq, Int.reduceLT, Int.reduceLE, Bool.true_eq_false, Bool.false_eq_true, g1', am_b221_27, g6]
      · rw [am_s65]
        simp (disch := (first | assumption | omega | exact (be_gB _ _ _).1 | exact (be_gB _ _ _).2)) only [↓reduceIte, be_ofI, ↓be_ofN, ↓be_0, be_add, be_sub, be_mul, be_neg, be_rem, be_bi, be_bl, be_bv, be_br, be_bE0, be_bE1, be_b1E, be_b0E, be_bkb, be_cast, Int.toNat_natCast, Int.reduceToNat, be_lt, be_le, be_eq, be_nt, be_ck, be_nz, be_bk, be_div, not_true_eq_false, not_false_eq_true, if_true, if_false, eq_self, Int.reduceEq, Int.reduceLT, Int.reduceLE, Bool.true_eq_false, Bool.false_eq_true, g2', am_b65_28, e34, am_b65_47]
    · obtain ⟨j, hj⟩ := be_0le (show 0 ≤ x - 10 by omega)
      obtain ⟨p1, p2, p3⟩ := g9 j (by omega)
      refine ⟨be_i (if y j = 9 then -5 else (y j : Int)), a', b', u, e', f, ?_, ?_, g4⟩
      · rw [decide_eq_true hx] at c1
        have n0 : ¬ x = 0 := by omega
        rw [am_s221]
        simp (disch := (first | assumption | omega | exact (be_gB _ _ _).1 | exact (be_gB _ _ _).2)) only [↓reduceIte, be_ofI, ↓be_ofN, ↓be_0, be_add, be_sub, be_mul, be_neg, be_rem, be_bi, be_bl, be_bv, be_br, be_bE0, be_bE1, be_b1E, be_b0E, be_bkb, be_cast, Int.toNat_natCast, Int.reduceToNat, be_lt, be_le, be_eq, be_nt, be_ck, be_nz, be_bk, be_div, not_true_eq_false, not_false_eq_true, if_true, if_false, eq_self, Int.reduceEq, Int.reduceLT, Int.reduceLE, Bool.true_eq_false, Bool.false_eq_true, n0, c1, am_b221_9, g1', am_b221_27, hj, p1, show (j : Int).toNat = j from rfl]
      · have r' := r2 a' b'
        rw [decide_eq_true hx] at r'
        have n0 : ¬ x = 0 := by omega
        have v := be_m63 (X := X) (a := a') (b := b') (u := u) (e := e') (f := f) (d := d) (j := j) (by omega) (by omega)
        rw [p2] at v
        rw [am_s65]
        simp (disch := (first | assumption | omega | exact (be_gB _ _ _).1 | exact (be_gB _ _ _).2)) only [↓reduceIte, be_ofI, ↓be_ofN, ↓be_0, be_add, be_sub, be_mul, be_neg, be_rem, be_bi, be_bl, be_bv, be_br, be_bE0, be_bE1, be_b1E, be_b0E, be_bkb, be_cast, Int.toNat_natCast, Int.reduceToNat, be_lt, be_le, be_eq, be_nt, be_ck, be_nz, be_bk, be_div, not_true_eq_false, not_false_eq_true, if_true, if_false, eq_self, Int.reduceEq, Int.reduceLT, Int.reduceLE, Bool.true_eq_false, Bool.false_eq_true, h50, r', am_b65_18, g2', am_b65_28, n0, hj, v, am_b65_47]
        rcases p3 with h9 | h9
        · rw [if_pos h9, if_pos h9, if_pos rfl]
        · rw [if_neg (by omega), if_neg (by omega), if_neg (by omega)]
  · refine be_Cp (v := be_i (-1)) hI ?_ ?_
    · rw [decide_eq_false (by omega)] at c1
      have n0 : ¬ x = 0 := by omega
      rw [am_s221]
      simp (disch := (first | assumption | omega | exact (be_gB _ _ _).1 | exact (be_gB _ _ _).2)) only [↓reduceIte, be_ofI, ↓be_ofN, ↓be_0, be_add, be_sub, be_mul, be_neg, be_rem, be_bi, be_bl, be_bv, be_br, be_bE0, be_bE1, be_b1E, be_b0E, be_bkb, be_cast, Int.toNat_natCast, Int.reduceToNat, be_lt, be_le, be_eq, be_nt, be_ck, be_nz, be_bk, be_div, not_true_eq_false, not_false_eq_true, if_true, if_false, eq_self, Int.reduceEq, Int.reduceLT, Int.reduceLE, Bool.true_eq_false, Bool.false_eq_true, n0, c1, am_b221_9]
    · have r' := r2 a b
      have n0 : ¬ x = 0 := by omega
      rw [decide_eq_false (by omega)] at r'
      rw [am_s65]
      simp (disch := (first | assumption | omega | exact (be_gB _ _ _).1 | exact (be_gB _ _ _).2)) only [↓reduceIte, be_ofI, ↓be_ofN, ↓be_0, be_add, be_sub, be_mul, be_neg, be_rem, be_bi, be_bl, be_bv, be_br, be_bE0, be_bE1, be_b1E, be_b0E, be_bkb, be_cast, Int.toNat_natCast, Int.reduceToNat, be_lt, be_le, be_eq, be_nt, be_ck, be_nz, be_bk, be_div, not_true_eq_false, not_false_eq_true, if_true, if_false, eq_self, Int.reduceEq, Int.reduceLT, Int.reduceLE, Bool.true_eq_false, Bool.false_eq_true, h50, r', am_b65_18, n0]
