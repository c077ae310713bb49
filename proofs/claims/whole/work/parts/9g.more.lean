/-! WAYS, 15: more, mend -/
variable {d : Nat} {X : am_X} {a : Nat → Nat → Nat → Int32} {b : Nat → Nat → Nat → Int64} {u : Nat → Nat} {e : Nat → Nat → Nat → Int32} {f : Nat → Nat → Nat → Int64}
/-- what suits a room, said of its own numbers -/
theorem bw_suits {e0 : Nat → Nat → Nat → Int32} (hd : 1 ≤ d) (hW : be_W e) {h x z : Nat} {s : Int} (hh : h < 6) (hs1 : 0 ≤ s) (hs2 : s ≤ 20) (hH : be_HR a x e h) (h1 : a 5 z 1 = be_i s) (h2 : a 5 z 2 = be_i 0) : am_sem X d 182 [.inr (5, z), .inr (1, x)] (am_sd a b u e0 f) = some (some (am_I (be_i (be_b (decide (be_g e 56 h ≤ s))))), am_sd a b u e0 f) := by
  obtain ⟨d, rfl⟩ : ∃ q, d = q + 1 := ⟨d - 1, by omega⟩
  have q1 := hW.2.1 h hh
  obtain ⟨-, e1, e2, e3, e4, e5, e6, e7⟩ := hH
  rw [am_s182]
  simp (disch := (first | assumption | omega | exact (be_gB _ _ _).1 | exact (be_gB _ _ _).2)) only [↓reduceIte, be_ofI, ↓be_ofN, ↓be_0, be_add, be_sub, be_mul, be_neg, be_rem, be_bi, be_bl, be_bv, be_br, be_bE0, be_bE1, be_b1E, be_b0E, be_bkb, be_cast, Int.toNat_natCast, Int.reduceToNat, be_lt, be_le, be_eq, be_nt, be_ck, be_nz, be_bk, be_div, e1, e5, h1, h2]
  by_cases c1 : s < be_g e 56 h
  · rw [decide_eq_false (show ¬ be_g e 56 h ≤ s by omega)]
    simp only [if_pos c1]
    repeat' split
    all_goals rfl
  · rw [decide_eq_true (show be_g e 56 h ≤ s by omega)]
    simp only [if_neg c1]
    repeat' split
    all_goals first | rfl | (rename_i q; exact absurd trivial q)
/-- the numbers of the room that there would be -/
def bw_g20 (e : Nat → Nat → Nat → Int32) (h : Nat) (j : Nat) : Int := if j = 0 then (h : Int) else if j = 1 then (be_nr e : Int) else if j = 2 then be_g e 52 h else if j = 3 then be_g e 53 h else if j = 4 then be_g e 56 h else 20
def bw_Ft5 (e : Nat → Nat → Nat → Int32) (h r : Nat) : Bool := if r < be_nr e then be_fit e h r else true
def bw_W5 (e : Nat → Nat → Nat → Int32) (h r : Nat) : Int := if r < be_nr e then bw_W e h r else be_wo e (bw_g20 e h)
theorem bw_HC5 {e0 : Nat → Nat → Nat → Int32} (hd : 3 ≤ d) {a1 : Nat → Nat → Nat → Int32} (hN : be_NM a) (hW : be_W e) (hW2 : be_W2 e) (hT : be_T3 e) (hX : be_HX a u 2 e) (ha : ∀ c k j, ¬ ((c = 5 ∧ k = be_nr e + 10 ∧ (j = 1 ∨ j = 2)) ∨ (c = 2 ∧ k = 2 ∧ j = 2)) → a1 c k j = a c k j) (h1 : a1 5 (be_nr e + 10) 1 = be_i 20) (h2 : a1 5 (be_nr e + 10) 2 = be_i 0) (h3 : a1 2 2 2 = be_i ((be_nr e + 1 : Nat) : Int)) :
    bw_HC X d a1 u e0 f 2 (be_nh e) (be_nr e + 1) (fun h t => decide (be_g e 54 h ≤ (t : Int) ∧ (t : Int) < be_bt e h)) (bw_Ft5 e) (bw_W5 e) := by
  obtain ⟨nh, nh2⟩ := be_nhR hW
  obtain ⟨nr, nr2⟩ := be_nrR hW
  have num := (hN 2 (by decide)).2 (be_nr e) (by omega)
  obtain ⟨⟨o1, o2, o3, o4, o5, o6, o7⟩, x1, x2, -⟩ := hX
  refine ⟨nh, by omega, by rw [ha _ _ _ (by omega), o2, nh2], h3, fun h hh => by rw [ha _ _ _ (by omega)]; exact (o6 h hh).1, fun h r _ _ => ?_, fun a2 b2 hf h hh => ?_⟩
  · unfold bw_W5
    split
    · exact be_woR hT _
    · exact be_woR hT _
  have hfa : ∀ c k j, ¬ ((c = 5 ∧ k = be_nr e + 10 ∧ (j = 1 ∨ j = 2)) ∨ (c = 2 ∧ k = 2 ∧ j = 2)) → c ≠ 8 → c ≠ 24 → c ≠ 27 → c ≠ 29 → c ≠ 30 → a2 c k j = a c k j := fun c k j hc c1 c2 c3 c4 c5 => (hf c k j c1 c2 c3 c4 c5).trans (ha c k j hc)
  have hH : be_HR a2 (h + 6 * 2) e h := by
    have z := o6 h hh
    unfold be_HR at z ⊢
    simp (disch := omega) only [hfa]
    exact z
  have hq : a2 3 (u (2 * 2)) 1 = be_i (be_q e) := by rw [hfa _ _ _ (by omega) (by omega) (by omega) (by omega) (by omega) (by omega)]; exact o5
  have hO : be_OW a2 (u (2 * 2)) e (be_the e) (be_num e) := be_OW_t (fun c k j hc => hfa c k j (by omega) (by omega) (by omega) (by omega) (by omega) (by omega)) (fun _ _ _ => rfl) x2
  have w1 := hW.2.1 h (by omega)
  refine ⟨be_n143 (X := X) (a := a2) (b := b2) (u := u) (e0 := e0) (e := e) (f := f) (d := d) (by omega) hW (by omega) hH hq, fun r hr => ?_⟩
  by_cases hr2 : r < be_nr e
  · have hR : be_RR a2 (r + 5 * 2) e r := by
      have z := o7 r hr2
      unfold be_RR at z ⊢
      simp (disch := omega) only [hfa]
      exact z
    unfold bw_W5 bw_Ft5
    rw [if_pos hr2, if_pos hr2]
    exact ⟨be_n163o (X := X) (a := a2) (b := b2) (u := u) (e0 := e0) (e := e) (f := f) (d := d) (by omega) hW hT (by omega) (by omega) hH hR hO, be_n182 (X := X) (a := a2) (b := b2) (u := u) (e0 := e0) (e := e) (f := f) (d := d) (by omega) hW (by omega) (by omega) hH hR⟩
  · obtain rfl : r = be_nr e := by omega
    unfold bw_W5 bw_Ft5
    rw [if_neg hr2, if_neg hr2]
    have r1 : a2 5 (be_nr e + 5 * 2) 1 = be_i 20 := by rw [hf _ _ _ (by omega) (by omega) (by omega) (by omega) (by omega)]; exact h1
    have r2 : a2 5 (be_nr e + 5 * 2) 2 = be_i 0 := by rw [hf _ _ _ (by omega) (by omega) (by omega) (by omega) (by omega)]; exact h2
    have r0 : a2 5 (be_nr e + 5 * 2) 0 = be_i (be_nr e : Int) := by rw [hfa _ _ _ (by omega) (by omega) (by omega) (by omega) (by omega) (by omega)]; exact num
    have hs := bw_suits (X := X) (a := a2) (b := b2) (u := u) (e0 := e0) (e := e) (f := f) (d := d) (by omega) hW (h := h) (x := h + 6 * 2) (z := be_nr e + 5 * 2) (s := 20) (by omega) (by omega) (by omega) hH r1 r2
    rw [decide_eq_true (by omega)] at hs
    refine ⟨?_, hs⟩
    have hg : ∀ j, 0 ≤ bw_g20 e h j ∧ bw_g20 e h j ≤ 99 := by
      intro j
      unfold bw_g20
      repeat' split
      all_goals omega
    exact be_n163 (X := X) (a := a2) (b := b2) (u := u) (e0 := e0) (e := e) (f := f) (d := d) (g := bw_g20 e h) (by omega) ⟨hH.1, r0, hH.2.1, hH.2.2.1, hH.2.2.2.2.2.1, r1⟩ hg (be_numR hT).2.2 hO
/-- as many as could have one with one room more -/
def bw_A5 (e : Nat → Nat → Nat → Int32) (h s : Nat) : Bool := if s = 4 then true else bw_AH e (2 ^ be_nr e - 1) h s
theorem bw_A5_MX (hW : be_W e) {M : Nat} (h : bw_MX (be_nh e) (fun h r => decide (r < be_nr e + 1) && (bw_Ft5 e h r && true)) (be_cl e) M) : bw_MX (be_nh e) (bw_A5 e) (be_cl e) M := by
  obtain ⟨nr, nr2⟩ := be_nrR hW
  have hal : ∀ h r, bw_AH e (2 ^ be_nr e - 1) h r = (decide (r < be_nr e) && be_fit e h r) := fun h r => by rw [← bw_AH_all]; dsimp only; rw [Bool.and_true]
  refine bw_ren (p := be_nr e) (q := 4) (by omega) (by omega) (fun h => ?_) (fun h s s1 s2 => ?_) (fun hn h => ?_) (fun hn h => ?_) h
  · unfold bw_A5 bw_Ft5
    rw [if_neg (by omega), if_pos rfl, decide_eq_true (by omega)]; rfl
  · unfold bw_A5 bw_Ft5
    rw [if_neg s2, hal, Bool.and_true]
    by_cases hs : s < be_nr e
    · rw [if_pos hs, decide_eq_true hs, decide_eq_true (by omega)]
    · rw [decide_eq_false hs, decide_eq_false (by omega)]; rfl
  · unfold bw_Ft5
    rw [decide_eq_false (by omega)]; rfl
  · unfold bw_A5
    rw [if_neg hn, hal, decide_eq_false (by omega)]; rfl
