/-! THE CLASS, 1: a house's quarters -/
variable {d : Nat} {X : am_X} {a : Nat → Nat → Nat → Int32} {b : Nat → Nat → Nat → Int64} {u : Nat → Nat} {e : Nat → Nat → Nat → Int32} {f : Nat → Nat → Nat → Int64}
theorem be_and3 {x : Int} (h1 : 0 ≤ x) : be_i x &&& be_i 3 = be_i (x % 4) := by
  obtain ⟨n, rfl⟩ := Int.eq_ofNat_of_zero_le h1
  rw [show ((n : Int) % 4) = ((n % 4 : Nat) : Int) by omega, ← be_ofN, ← be_ofN, show be_i 3 = Int32.ofNat 3 from rfl]
  apply Int32.toBitVec_inj.1
  show BitVec.ofNat 32 n &&& BitVec.ofNat 32 3 = BitVec.ofNat 32 (n % 4)
  rw [show n % 4 = n &&& 3 from (Nat.and_two_pow_sub_one_eq_mod n 2).symm]
  have key : ∀ a b : Nat, BitVec.ofNat 32 a &&& BitVec.ofNat 32 b = BitVec.ofNat 32 (a &&& b) := by
    intro a b
    apply BitVec.eq_of_getLsbD_eq
    intro i hi
    simp [hi]
  exact key n 3
theorem be_minI {x y : Int} (h1 : -2147483648 ≤ x) (h2 : x < 2147483648) (h3 : -2147483648 ≤ y) (h4 : y < 2147483648) : (if be_i x < be_i y then be_i x else be_i y) = be_i (min x y) := by
  have hl := be_lt h1 h2 h3 h4
  by_cases h : x < y
  · rw [if_pos (hl.mpr h), show min x y = x by omega]
  · rw [if_neg (fun q => h (hl.mp q)), show min x y = y by omega]
theorem be_maxI {x : Int} (h1 : -2147483648 ≤ x) (h2 : x < 2147483648) : (if be_i x < be_i 0 then be_i 0 else be_i x) = be_i (max x 0) := by
  have hl := be_lt h1 h2 (show (-2147483648 : Int) ≤ 0 by decide) (by decide)
  by_cases h : x < 0
  · rw [if_pos (hl.mpr h), show max x 0 = 0 by omega]
  · rw [if_neg (fun q => h (hl.mp q)), show max x 0 = x by omega]
theorem be_retJ {x y : Int64} (h : x = y) (σ : am_S) : (some (some (am_J x), σ) : am_R) = some (some (am_J y), σ) := by rw [h]
theorem be_retI {x y : Int} (h : x = y) (σ : am_S) : (some (some (am_I (be_i x)), σ) : am_R) = some (some (am_I (be_i y)), σ) := by rw [h]
/-- a thing of the class is hour h, is room r, is a house -/
def be_HR (a : Nat → Nat → Nat → Int32) (x : Nat) (e : Nat → Nat → Nat → Int32) (h : Nat) : Prop :=
  a 1 x 0 = be_i (h : Int) ∧ a 1 x 1 = be_i (be_g e 52 h) ∧ a 1 x 2 = be_i (be_g e 53 h) ∧ a 1 x 3 = be_i (be_g e 54 h) ∧ a 1 x 4 = be_i (be_g e 55 h) ∧ a 1 x 5 = be_i (be_g e 56 h) ∧
  a 1 x 6 = be_i (if be_g e 57 h = 4 then -5 else be_g e 57 h) ∧ ∀ j, j < 4 → a 11 x j = be_i (be_g e 58 (4 * h + j))
def be_RR (a : Nat → Nat → Nat → Int32) (x : Nat) (e : Nat → Nat → Nat → Int32) (r : Nat) : Prop :=
  a 5 x 0 = be_i (r : Int) ∧ a 5 x 1 = be_i (be_g e 51 r) ∧ a 5 x 2 = be_i (be_b (be_ft e r))
def be_HO (a : Nat → Nat → Nat → Int32) (u : Nat → Nat) (i : Nat) (e : Nat → Nat → Nat → Int32) : Prop :=
  a 2 i 2 = be_i (be_g e 50 0) ∧ a 2 i 3 = be_i (be_g e 50 2) ∧ a 2 i 4 = be_i (be_g e 50 3) ∧ a 2 i 6 = be_i (be_h e) ∧ a 3 (u (2 * i)) 1 = be_i (be_q e) ∧
  (∀ h, h < be_nh e → be_HR a (h + 6 * i) e h) ∧ (∀ r, r < be_nr e → be_RR a (r + 5 * i) e r)
theorem be_m250 (hd : 1 ≤ d) {x y z : Int} (h1 : -2147483648 ≤ x) (h2 : x < 2147483648) (h3 : -2147483648 ≤ y) (h4 : y < 2147483648) (h5 : -2147483648 ≤ z) (h6 : z < 2147483648) :
    am_sem X d 250 [am_I (be_i (x)), am_I (be_i (y)), am_I (be_i (z))] (am_sd a b u e f) = some (some (am_I (be_i (be_b (decide (y ≤ x ∧ x ≤ z))))), (am_sd a b u e f)) := by
  obtain ⟨d, rfl⟩ : ∃ q, d = q + 1 := ⟨d - 1, by omega⟩
  rw [am_s250]
  simp (disch := (first | assumption | omega | exact (be_gB _ _ _).1 | exact (be_gB _ _ _).2)) only [be_ofI, ↓be_ofN, ↓be_0, be_add, be_sub, be_mul, be_neg, be_rem, be_bi, be_bl, be_bv, be_br, be_bE0, be_bE1, be_b1E, be_b0E, be_bkb, be_cast, Int.toNat_natCast, Int.reduceToNat, be_lt, be_le, be_eq, be_nt, be_ck, be_nz, be_bk, be_div]
  (repeat' split) <;> first | rfl | omega | (rw [decide_eq_true (by omega)]; rfl) | (rw [decide_eq_false (by omega)]; rfl)
theorem be_m251 (hd : 2 ≤ d) {x : Int} (h1 : -2147483648 ≤ x) (h2 : x < 2147483648) : am_sem X d 251 [am_I (be_i (x))] (am_sd a b u e f) = some (some (am_I (be_i (be_b (decide (0 ≤ x ∧ x ≤ 39))))), (am_sd a b u e f)) := by
  obtain ⟨d, rfl⟩ : ∃ q, d = q + 1 := ⟨d - 1, by omega⟩
  rw [am_s251]
  simp (disch := (first | assumption | omega | exact (be_gB _ _ _).1 | exact (be_gB _ _ _).2)) only [be_ofI, ↓be_ofN, ↓be_0, be_add, be_sub, be_mul, be_neg, be_rem, be_bi, be_bl, be_bv, be_br, be_bE0, be_bE1, be_b1E, be_b0E, be_bkb, be_cast, Int.toNat_natCast, Int.reduceToNat, be_lt, be_le, be_eq, be_nt, be_ck, be_nz, be_bk, be_div, be_m250, am_b251_7]
theorem be_m252 (hd : 1 ≤ d) (p : Bool) : am_sem X d 252 [am_I (be_i (be_b p))] (am_sd a b u e f) = some (some (am_I (be_i (be_b p))), (am_sd a b u e f)) := by
  obtain ⟨d, rfl⟩ : ∃ q, d = q + 1 := ⟨d - 1, by omega⟩
  rw [am_s252]
  simp (disch := (first | assumption | omega | exact (be_gB _ _ _).1 | exact (be_gB _ _ _).2)) only [be_ofI, ↓be_ofN, ↓be_0, be_add, be_sub, be_mul, be_neg, be_rem, be_bi, be_bl, be_bv, be_br, be_bE0, be_bE1, be_b1E, be_b0E, be_bkb, be_cast, Int.toNat_natCast, Int.reduceToNat, be_lt, be_le, be_eq, be_nt, be_ck, be_nz, be_bk, be_div]
  cases p <;> rfl
theorem be_m253 (hd : 1 ≤ d) (P : Nat → Bool) {k : Nat} (hk : k < 64) : am_sem X d 253 [am_J (be_mk P), am_I (be_i ((k : Int)))] (am_sd a b u e f) = some (some (am_I (be_i (be_b (P k)))), (am_sd a b u e f)) := by
  obtain ⟨d, rfl⟩ : ∃ q, d = q + 1 := ⟨d - 1, by omega⟩
  rw [am_s253]
  simp (disch := (first | assumption | omega | exact (be_gB _ _ _).1 | exact (be_gB _ _ _).2)) only [be_ofI, ↓be_ofN, ↓be_0, be_add, be_sub, be_mul, be_neg, be_rem, be_bi, be_bl, be_bv, be_br, be_bE0, be_bE1, be_b1E, be_b0E, be_bkb, be_cast, Int.toNat_natCast, Int.reduceToNat, be_lt, be_le, be_eq, be_nt, be_ck, be_nz, be_bk, be_div, be_cmp0, be_hasbit]
  cases P k <;> rfl
theorem be_m133 (hd : 1 ≤ d) (hW : be_W e) {h x : Nat} (hh : h < 6) (hH : be_HR a x e h) {y : Int} (hy1 : 0 ≤ y) (hy2 : y ≤ 19999) : am_sem X d 133 [.inr (1, x), am_I (be_i (y))] (am_sd a b u e f) = some (some (am_I (be_i (be_comes e y h))), (am_sd a b u e f)) := by
  obtain ⟨d, rfl⟩ : ∃ q, d = q + 1 := ⟨d - 1, by omega⟩
  have q1 := hW.2.1 h hh
  obtain ⟨-, e1, e2, e3, e4, e5, e6, e7⟩ := hH
  have e8 := e7 (y % 4).toNat (by omega)
  have hm : 0 ≤ y % 4 ∧ y % 4 < 4 := by omega
  have hv : 0 ≤ y % (be_g e 53 h + 2) ∧ y % (be_g e 53 h + 2) < 20000 := ⟨Int.emod_nonneg _ (by omega), by
    have := Int.emod_lt_of_pos y (show 0 < be_g e 53 h + 2 by omega); omega⟩
  rw [am_s133]
  simp (disch := (first | assumption | omega | exact (be_gB _ _ _).1 | exact (be_gB _ _ _).2)) only [be_ofI, ↓be_ofN, ↓be_0, be_add, be_sub, be_mul, be_neg, be_rem, be_bi, be_bl, be_bv, be_br, be_bE0, be_bE1, be_b1E, be_b0E, be_bkb, be_cast, Int.toNat_natCast, Int.reduceToNat, be_lt, be_le, be_eq, be_nt, be_ck, be_nz, be_bk, be_div, e1, e2, e3, be_and3, e8]
  unfold be_comes
  repeat' split
  all_goals first | rfl | omega
theorem be_m134 (hd : 1 ≤ d) (hW : be_W e) {h x : Nat} (hh : h < 6) (hH : be_HR a x e h) : am_sem X d 134 [.inr (1, x)] (am_sd a b u e f) = some (some (am_I (be_i (be_goes e h))), (am_sd a b u e f)) := by
  obtain ⟨d, rfl⟩ : ∃ q, d = q + 1 := ⟨d - 1, by omega⟩
  have q1 := hW.2.1 h hh
  obtain ⟨-, e1, e2, e3, e4, e5, e6, e7⟩ := hH
  rw [am_s134]
  simp (disch := (first | assumption | omega | exact (be_gB _ _ _).1 | exact (be_gB _ _ _).2)) only [be_ofI, ↓be_ofN, ↓be_0, be_add, be_sub, be_mul, be_neg, be_rem, be_bi, be_bl, be_bv, be_br, be_bE0, be_bE1, be_b1E, be_b0E, be_bkb, be_cast, Int.toNat_natCast, Int.reduceToNat, be_lt, be_le, be_eq, be_nt, be_ck, be_nz, be_bk, be_div, e1, e2, e3, e4]
  unfold be_goes
  repeat' split
  all_goals first | rfl | omega
theorem be_m135 (hd : 1 ≤ d) (hW : be_W e) {h x : Nat} (hh : h < 6) (hH : be_HR a x e h) : am_sem X d 135 [.inr (1, x)] (am_sd a b u e f) = some (some (am_I (be_i (be_g e 57 h))), (am_sd a b u e f)) := by
  obtain ⟨d, rfl⟩ : ∃ q, d = q + 1 := ⟨d - 1, by omega⟩
  have q1 := hW.2.1 h hh
  obtain ⟨-, e1, e2, e3, e4, e5, e6, e7⟩ := hH
  rw [am_s135]
  by_cases hc : be_g e 57 h = 4
  · rw [if_pos hc] at e6
    simp (disch := (first | assumption | omega | exact (be_gB _ _ _).1 | exact (be_gB _ _ _).2)) only [be_ofI, ↓be_ofN, ↓be_0, be_add, be_sub, be_mul, be_neg, be_rem, be_bi, be_bl, be_bv, be_br, be_bE0, be_bE1, be_b1E, be_b0E, be_bkb, be_cast, Int.toNat_natCast, Int.reduceToNat, be_lt, be_le, be_eq, be_nt, be_ck, be_nz, be_bk, be_div, e6, hc]
    rfl
  · rw [if_neg hc] at e6
    simp (disch := (first | assumption | omega | exact (be_gB _ _ _).1 | exact (be_gB _ _ _).2)) only [be_ofI, ↓be_ofN, ↓be_0, be_add, be_sub, be_mul, be_neg, be_rem, be_bi, be_bl, be_bv, be_br, be_bE0, be_bE1, be_b1E, be_b0E, be_bkb, be_cast, Int.toNat_natCast, Int.reduceToNat, be_lt, be_le, be_eq, be_nt, be_ck, be_nz, be_bk, be_div, e6]
    rw [if_pos (by omega)]
theorem be_m138 (hd : 1 ≤ d) {i : Nat} {n x : Int} (hn : a 2 i 2 = be_i n) (h0 : 0 ≤ n) (h3 : n < 2147483648) (h1 : -2147483648 ≤ x) (h2 : x < 2147483648) : am_sem X d 138 [.inr (2, i), am_I (be_i (x))] (am_sd a b u e f) = some (some (am_I (be_i (be_b (decide (0 ≤ x ∧ x ≤ n - 1))))), (am_sd a b u e f)) := by
  obtain ⟨d, rfl⟩ : ∃ q, d = q + 1 := ⟨d - 1, by omega⟩
  rw [am_s138]
  simp (disch := (first | assumption | omega | exact (be_gB _ _ _).1 | exact (be_gB _ _ _).2)) only [be_ofI, ↓be_ofN, ↓be_0, be_add, be_sub, be_mul, be_neg, be_rem, be_bi, be_bl, be_bv, be_br, be_bE0, be_bE1, be_b1E, be_b0E, be_bkb, be_cast, Int.toNat_natCast, Int.reduceToNat, be_lt, be_le, be_eq, be_nt, be_ck, be_nz, be_bk, be_div, hn]
  (repeat' split) <;> first | rfl | omega | (rw [decide_eq_true (by omega)]; rfl) | (rw [decide_eq_false (by omega)]; rfl)
theorem be_m139 (hd : 1 ≤ d) {i : Nat} {n x : Int} (hn : a 2 i 3 = be_i n) (h0 : 0 ≤ n) (h3 : n < 2147483648) (h1 : -2147483648 ≤ x) (h2 : x < 2147483648) : am_sem X d 139 [.inr (2, i), am_I (be_i (x))] (am_sd a b u e f) = some (some (am_I (be_i (be_b (decide (0 ≤ x ∧ x ≤ n - 1))))), (am_sd a b u e f)) := by
  obtain ⟨d, rfl⟩ : ∃ q, d = q + 1 := ⟨d - 1, by omega⟩
  rw [am_s139]
  simp (disch := (first | assumption | omega | exact (be_gB _ _ _).1 | exact (be_gB _ _ _).2)) only [be_ofI, ↓be_ofN, ↓be_0, be_add, be_sub, be_mul, be_neg, be_rem, be_bi, be_bl, be_bv, be_br, be_bE0, be_bE1, be_b1E, be_b0E, be_bkb, be_cast, Int.toNat_natCast, Int.reduceToNat, be_lt, be_le, be_eq, be_nt, be_ck, be_nz, be_bk, be_div, hn]
  (repeat' split) <;> first | rfl | omega | (rw [decide_eq_true (by omega)]; rfl) | (rw [decide_eq_false (by omega)]; rfl)
theorem be_m142 (q : Int) (hd : 1 ≤ d) {i : Nat} {x y : Int} (hq : a 3 (u (2 * i)) 1 = be_i q) (h0 : 0 ≤ q) (h3 : q ≤ 40) (h1 : -1000 ≤ x) (h2 : x ≤ 1000) (h4 : -1000 ≤ y) (h5 : y ≤ 1000) :
    am_sem X d 142 [.inr (2, i), am_I (be_i (x)), am_I (be_i (y))] (am_sd a b u e f) = some (some (am_J (be_mk (fun t => decide (x ≤ (t : Int) ∧ (t : Int) < min y q)))), (am_sd a b u e f)) := by
  obtain ⟨d, rfl⟩ : ∃ q, d = q + 1 := ⟨d - 1, by omega⟩
  rw [am_s142]
  simp (disch := (first | assumption | omega | exact (be_gB _ _ _).1 | exact (be_gB _ _ _).2)) only [be_ofI, ↓be_ofN, ↓be_0, hq]
  rw [be_minI (by omega) (by omega) (by omega) (by omega), be_maxI (by omega) (by omega)]
  simp (disch := (first | assumption | omega | exact (be_gB _ _ _).1 | exact (be_gB _ _ _).2)) only [be_le]
  split
  · rw [be_mk_0]
    refine be_retJ (be_mk_congr fun t _ => ?_) _
    symm
    rw [decide_eq_false_iff_not]; omega
  · obtain ⟨s, hs⟩ := Int.eq_ofNat_of_zero_le (show 0 ≤ max x 0 by omega)
    obtain ⟨t, ht⟩ := Int.eq_ofNat_of_zero_le (show 0 ≤ min q y by omega)
    rw [hs, ht, be_span t (by omega) s (by omega) (by omega)]
    refine be_retJ (be_mk_congr fun k _ => ?_) _
    rw [Bool.eq_iff_iff, Bool.and_eq_true, Nat.ble_eq, Nat.blt_eq, decide_eq_true_iff]
    omega
theorem be_m143 (hd : 2 ≤ d) (hW : be_W e) {i h x : Nat} (hh : h < 6) (hH : be_HR a x e h) (hq : a 3 (u (2 * i)) 1 = be_i (be_q e)) :
    am_sem X d 143 [.inr (2, i), .inr (1, x)] (am_sd a b u e f) = some (some (am_J (be_mk (fun t => decide (be_g e 54 h ≤ (t : Int) ∧ (t : Int) < be_bt e h)))), (am_sd a b u e f)) := by
  obtain ⟨d, rfl⟩ : ∃ q, d = q + 1 := ⟨d - 1, by omega⟩
  have q1 := hW.2.1 h hh
  have q2 := be_qR e
  obtain ⟨-, e1, e2, e3, e4, e5, e6, e7⟩ := hH
  rw [am_s143]
  simp (disch := (first | assumption | omega | exact (be_gB _ _ _).1 | exact (be_gB _ _ _).2)) only [be_ofI, ↓be_ofN, ↓be_0, be_add, be_sub, be_mul, be_neg, be_rem, be_bi, be_bl, be_bv, be_br, be_bE0, be_bE1, be_b1E, be_b0E, be_bkb, be_cast, Int.toNat_natCast, Int.reduceToNat, be_lt, be_le, be_eq, be_nt, be_ck, be_nz, be_bk, be_div, e3, e4, be_m142 (be_q e), am_b143_17]
  rfl
theorem be_comes5 (hW : be_W e) {y : Int} {h : Nat} (hh : h < 6) : be_comes e y h = -5 ∨ 0 ≤ be_comes e y h := by
  have q1 := hW.2.1 h hh
  have q2 := hW.2.2.2 (4 * h + (y % 4).toNat) (by omega)
  unfold be_comes
  repeat' split
  all_goals omega
theorem be_m144 (hd : 2 ≤ d) (hW : be_W e) (hT : be_T2 e) {i h x : Nat} (hh : h < 6) (hH : be_HR a x e h) (hq : a 3 (u (2 * i)) 1 = be_i (be_q e)) (ho : a 2 i 6 = be_i (be_h e)) {y : Int} (hy1 : 0 ≤ y) (hy2 : y ≤ 19999) :
    am_sem X d 144 [.inr (2, i), .inr (1, x), am_I (be_i (y))] (am_sd a b u e f) = some (some (am_J (be_mk (be_held e y h))), (am_sd a b u e f)) := by
  obtain ⟨d, rfl⟩ : ∃ q, d = q + 1 := ⟨d - 1, by omega⟩
  have q1 := hW.2.1 h hh
  have q2 := be_qR e
  have q3 := be_hR hT
  have q4 := be_comesR hW (dy := y) hh
  have q5 := be_comes5 hW (y := y) hh
  have hc := be_m133 (X := X) (b := b) (u := u) (f := f) (d := d) (by omega) hW hh hH hy1 hy2
  obtain ⟨-, e1, e2, e3, e4, e5, e6, e7⟩ := hH
  rw [am_s144]
  have e8 := be_minI (x := be_g e 54 h + be_h e) (y := be_g e 54 h + be_g e 55 h) (by omega) (by omega) (by omega) (by omega)
  simp (disch := (first | assumption | omega | exact (be_gB _ _ _).1 | exact (be_gB _ _ _).2)) only [be_ofI, ↓be_ofN, ↓be_0, be_add, be_bi, be_bl, hc, e3, e4, ho, e8, be_m142 (be_q e), am_b144_5, am_b144_72, be_eq, be_le]
  have hb : ∀ z : Int, (∀ t : Nat, (be_g e 54 h ≤ (t : Int) ∧ (t : Int) < z) ↔ (be_g e 54 h ≤ (t : Int) ∧ (t : Int) < be_ht e y h)) → be_mk (fun t => decide (be_g e 54 h ≤ (t : Int) ∧ (t : Int) < z)) = be_mk (be_held e y h) := by
    intro z hz
    refine be_mk_congr fun t _ => ?_
    unfold be_held
    rw [Bool.eq_iff_iff, decide_eq_true_iff, decide_eq_true_iff, hz t]
  have hl : be_ht e y h = if be_comes e y h < 0 ∨ be_g e 54 h + be_h e < be_comes e y h then min (be_g e 54 h + be_h e) (min (be_g e 54 h + be_g e 55 h) (be_q e)) else min (be_g e 54 h + be_g e 55 h) (be_q e) := rfl
  repeat' split
  all_goals (rw [hb]; intro t; rw [hl]; (first | rw [if_pos (by omega)] | rw [if_neg (by omega)]) <;> omega)
theorem be_m145 (hd : 2 ≤ d) (hW : be_W e) {i h x : Nat} (hh : h < 6) (hH : be_HR a x e h) (hq : a 3 (u (2 * i)) 1 = be_i (be_q e)) {y : Int} (hy1 : 0 ≤ y) (hy2 : y ≤ 19999) :
    am_sem X d 145 [.inr (2, i), .inr (1, x), am_I (be_i (y))] (am_sd a b u e f) = some (some (am_J (be_mk (be_in e y h))), (am_sd a b u e f)) := by
  obtain ⟨d, rfl⟩ : ∃ q, d = q + 1 := ⟨d - 1, by omega⟩
  have q1 := hW.2.1 h hh
  have q2 := be_qR e
  have q4 := be_comesR hW (dy := y) hh
  have q5 := be_comes5 hW (y := y) hh
  have q6 : 0 ≤ be_goes e h ∧ be_goes e h ≤ 160 := by unfold be_goes; split <;> omega
  have hc := be_m133 (X := X) (b := b) (u := u) (f := f) (d := d) (by omega) hW hh hH hy1 hy2
  have hg := be_m134 (X := X) (b := b) (u := u) (f := f) (d := d) (by omega) hW hh hH
  rw [am_s145]
  simp (disch := (first | assumption | omega | exact (be_gB _ _ _).1 | exact (be_gB _ _ _).2)) only [be_ofI, ↓be_ofN, ↓be_0, be_add, be_bi, be_bl, hc, hg, be_m142 (be_q e), am_b145_5, am_b145_22, am_b145_25, be_eq]
  split
  · refine be_retJ (be_mk_congr fun t _ => ?_) _
    unfold be_in
    rw [Bool.eq_iff_iff, decide_eq_true_iff, decide_eq_true_iff]; omega
  · rw [be_mk_0]
    refine be_retJ (be_mk_congr fun t _ => ?_) _
    unfold be_in
    symm
    rw [decide_eq_false_iff_not]; omega
