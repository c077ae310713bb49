/-! THE LAW'S LOOP (printed by gloop.py) -/
variable {d : Nat} {X : am_X} {a : Nat → Nat → Nat → Int32} {b : Nat → Nat → Nat → Int64} {u : Nat → Nat} {e : Nat → Nat → Nat → Int32} {f : Nat → Nat → Nat → Int64}
theorem be_exX (X : am_X) (i : Nat) : ∃ z : Int, X.2 i = be_i z ∧ -2147483648 ≤ z ∧ z < 2147483648 := be_ex _
theorem be_ckX {i : Nat} {j : Int} (hX : X.1 ≤ 3072) (h : i + 6 ≤ X.1) (h0 : 0 ≤ j) (h1 : j < 6) (r : am_R) : am_ck (be_i (i : Int) + be_i j) X.1 r = r := by
  rw [be_add]
  exact be_ck (by omega) (by omega) (by omega)
theorem be_ntX {i j : Nat} (hX : X.1 ≤ 3072) (h : i + 6 ≤ X.1) (h1 : j < 6) : (be_i (i : Int) + be_i (j : Int)).toNatClampNeg = i + j := by
  rw [be_add, be_nt (by omega) (by omega)]
  omega
def be_LS (X : am_X) (d p i : Nat) (a : Nat → Nat → Nat → Int32) (b : Nat → Nat → Nat → Int64) (u : Nat → Nat) (e : Nat → Nat → Nat → Int32) (f : Nat → Nat → Nat → Int64) : Prop :=
  ∃ (a' : Nat → Nat → Nat → Int32) (b' : Nat → Nat → Nat → Int64) (u' : Nat → Nat) (e' : Nat → Nat → Nat → Int32) (f' : Nat → Nat → Nat → Int64), am_fix (am_sem X d) X am_P255 p [.inr (204, 0), .inr (9, 0), .inr (50, 0), am_I (be_i (i : Int))] [] (am_sd a b u e f) = am_fix (am_sem X d) X am_P255 1513 [.inr (204, 0), .inr (9, 0), .inr (50, 0), am_I (be_i (i : Int))] [] (am_sd a' b' u' e' f') ∧ be_IV a' b' u' e' f' 
theorem be_Lroom (hd : 60 ≤ d) (hI : be_IV a b u e f) {i : Nat} (hX : X.1 ≤ 3072) (h : i + 6 ≤ X.1) : be_LS X d 208 i a b u e f := by
  obtain ⟨z1, h1, l1, m1⟩ := be_exX X (i + 1)
  have k1 := fun r => be_ckX (X := X) (i := i) (j := 1) hX h (by decide) (by decide) r
  have n1 : (be_i (i : Int) + be_i 1).toNatClampNeg = i + 1 := be_ntX (X := X) (i := i) (j := 1) hX h (by decide)
  obtain ⟨v, a', b', u', e', f', c1, c2, hI'⟩ := be_croom (X := X) (a := a) (b := b) (u := u) (e := e) (f := f) (d := d) (by omega) hI l1 m1
  refine ⟨a', b', u', e', f', ?_, hI'⟩
  rw [am_b255_208]
  simp only [k1, n1, h1]
  rw [c1, be_bi, am_b255_217]
  simp only [k1, n1, h1]
  rw [c2, be_bi, am_b255_226, if_pos rfl]
theorem be_Lhour (hd : 60 ≤ d) (hI : be_IV a b u e f) {i : Nat} (hX : X.1 ≤ 3072) (h : i + 6 ≤ X.1) : be_LS X d 231 i a b u e f := by
  obtain ⟨z1, h1, l1, m1⟩ := be_exX X (i + 1)
  have k1 := fun r => be_ckX (X := X) (i := i) (j := 1) hX h (by decide) (by decide) r
  have n1 : (be_i (i : Int) + be_i 1).toNatClampNeg = i + 1 := be_ntX (X := X) (i := i) (j := 1) hX h (by decide)
  obtain ⟨z2, h2, l2, m2⟩ := be_exX X (i + 2)
  have k2 := fun r => be_ckX (X := X) (i := i) (j := 2) hX h (by decide) (by decide) r
  have n2 : (be_i (i : Int) + be_i 2).toNatClampNeg = i + 2 := be_ntX (X := X) (i := i) (j := 2) hX h (by decide)
  obtain ⟨z3, h3, l3, m3⟩ := be_exX X (i + 3)
  have k3 := fun r => be_ckX (X := X) (i := i) (j := 3) hX h (by decide) (by decide) r
  have n3 : (be_i (i : Int) + be_i 3).toNatClampNeg = i + 3 := be_ntX (X := X) (i := i) (j := 3) hX h (by decide)
  obtain ⟨z4, h4, l4, m4⟩ := be_exX X (i + 4)
  have k4 := fun r => be_ckX (X := X) (i := i) (j := 4) hX h (by decide) (by decide) r
  have n4 : (be_i (i : Int) + be_i 4).toNatClampNeg = i + 4 := be_ntX (X := X) (i := i) (j := 4) hX h (by decide)
  obtain ⟨z5, h5, l5, m5⟩ := be_exX X (i + 5)
  have k5 := fun r => be_ckX (X := X) (i := i) (j := 5) hX h (by decide) (by decide) r
  have n5 : (be_i (i : Int) + be_i 5).toNatClampNeg = i + 5 := be_ntX (X := X) (i := i) (j := 5) hX h (by decide)
  obtain ⟨v, a', b', u', e', f', c1, c2, hI'⟩ := be_chour (X := X) (a := a) (b := b) (u := u) (e := e) (f := f) (d := d) (by omega) hI l1 m1 l2 m2 l3 m3 l4 m4 l5 m5
  refine ⟨a', b', u', e', f', ?_, hI'⟩
  rw [am_b255_231]
  simp only [k1, n1, h1, k2, n2, h2, k3, n3, h3, k4, n4, h4, k5, n5, h5]
  rw [c1, be_bi, am_b255_260]
  simp only [k1, n1, h1, k2, n2, h2, k3, n3, h3, k4, n4, h4, k5, n5, h5]
  rw [c2, be_bi, am_b255_289, if_pos rfl]
theorem be_Lof (hd : 60 ≤ d) (hI : be_IV a b u e f) {i : Nat} (hX : X.1 ≤ 3072) (h : i + 6 ≤ X.1) : be_LS X d 294 i a b u e f := by
  obtain ⟨z1, h1, l1, m1⟩ := be_exX X (i + 1)
  have k1 := fun r => be_ckX (X := X) (i := i) (j := 1) hX h (by decide) (by decide) r
  have n1 : (be_i (i : Int) + be_i 1).toNatClampNeg = i + 1 := be_ntX (X := X) (i := i) (j := 1) hX h (by decide)
  obtain ⟨z2, h2, l2, m2⟩ := be_exX X (i + 2)
  have k2 := fun r => be_ckX (X := X) (i := i) (j := 2) hX h (by decide) (by decide) r
  have n2 : (be_i (i : Int) + be_i 2).toNatClampNeg = i + 2 := be_ntX (X := X) (i := i) (j := 2) hX h (by decide)
  obtain ⟨v, a', b', u', e', f', c1, c2, hI'⟩ := be_cof (X := X) (a := a) (b := b) (u := u) (e := e) (f := f) (d := d) (by omega) hI l1 m1 l2 m2
  refine ⟨a', b', u', e', f', ?_, hI'⟩
  rw [am_b255_294]
  simp only [k1, n1, h1, k2, n2, h2]
  rw [c1, be_bi, am_b255_308]
  simp only [k1, n1, h1, k2, n2, h2]
  rw [c2, be_bi, am_b255_322, if_pos rfl]
theorem be_Lat (hd : 60 ≤ d) (hI : be_IV a b u e f) {i : Nat} (hX : X.1 ≤ 3072) (h : i + 6 ≤ X.1) : be_LS X d 327 i a b u e f := by
  obtain ⟨z1, h1, l1, m1⟩ := be_exX X (i + 1)
  have k1 := fun r => be_ckX (X := X) (i := i) (j := 1) hX h (by decide) (by decide) r
  have n1 : (be_i (i : Int) + be_i 1).toNatClampNeg = i + 1 := be_ntX (X := X) (i := i) (j := 1) hX h (by decide)
  obtain ⟨z2, h2, l2, m2⟩ := be_exX X (i + 2)
  have k2 := fun r => be_ckX (X := X) (i := i) (j := 2) hX h (by decide) (by decide) r
  have n2 : (be_i (i : Int) + be_i 2).toNatClampNeg = i + 2 := be_ntX (X := X) (i := i) (j := 2) hX h (by decide)
  obtain ⟨v, a', b', u', e', f', c1, c2, hI'⟩ := be_cat (X := X) (a := a) (b := b) (u := u) (e := e) (f := f) (d := d) (by omega) hI l1 m1 l2 m2
  refine ⟨a', b', u', e', f', ?_, hI'⟩
  rw [am_b255_327]
  simp only [k1, n1, h1, k2, n2, h2]
  rw [c1, be_bi, am_b255_341]
  simp only [k1, n1, h1, k2, n2, h2]
  rw [c2, be_bi, am_b255_355, if_pos rfl]
theorem be_Lfault (hd : 60 ≤ d) (hI : be_IV a b u e f) {i : Nat} (hX : X.1 ≤ 3072) (h : i + 6 ≤ X.1) : be_LS X d 360 i a b u e f := by
  obtain ⟨z1, h1, l1, m1⟩ := be_exX X (i + 1)
  have k1 := fun r => be_ckX (X := X) (i := i) (j := 1) hX h (by decide) (by decide) r
  have n1 : (be_i (i : Int) + be_i 1).toNatClampNeg = i + 1 := be_ntX (X := X) (i := i) (j := 1) hX h (by decide)
  obtain ⟨z2, h2, l2, m2⟩ := be_exX X (i + 2)
  have k2 := fun r => be_ckX (X := X) (i := i) (j := 2) hX h (by decide) (by decide) r
  have n2 : (be_i (i : Int) + be_i 2).toNatClampNeg = i + 2 := be_ntX (X := X) (i := i) (j := 2) hX h (by decide)
  by_cases hz : be_i z2 = (0 : Int32)
  · obtain ⟨v, a', b', u', e', f', c1, c2, hI'⟩ := be_cfault (X := X) (a := a) (b := b) (u := u) (e := e) (f := f) (d := d) (p := false) (by omega) hI l1 m1
    rw [be_bF] at c1 c2
    refine ⟨a', b', u', e', f', ?_, hI'⟩
    rw [am_b255_360]
    simp only [k1, n1, h1, k2, n2, h2]
    rw [if_pos hz, c1, be_bi, am_b255_382]
    simp only [k1, n1, h1, k2, n2, h2]
    rw [if_pos hz, c2, be_bi, am_b255_404, if_pos rfl]
  · obtain ⟨v, a', b', u', e', f', c1, c2, hI'⟩ := be_cfault (X := X) (a := a) (b := b) (u := u) (e := e) (f := f) (d := d) (p := true) (by omega) hI l1 m1
    rw [be_bT] at c1 c2
    refine ⟨a', b', u', e', f', ?_, hI'⟩
    rw [am_b255_360]
    simp only [k1, n1, h1, k2, n2, h2]
    rw [if_neg hz, c1, be_bi, am_b255_382]
    simp only [k1, n1, h1, k2, n2, h2]
    rw [if_neg hz, c2, be_bi, am_b255_404, if_pos rfl]
theorem be_Lrow (hd : 60 ≤ d) (hI : be_IV a b u e f) {i : Nat} (hX : X.1 ≤ 3072) (h : i + 6 ≤ X.1) : be_LS X d 409 i a b u e f := by
  obtain ⟨z1, h1, l1, m1⟩ := be_exX X (i + 1)
  have k1 := fun r => be_ckX (X := X) (i := i) (j := 1) hX h (by decide) (by decide) r
  have n1 : (be_i (i : Int) + be_i 1).toNatClampNeg = i + 1 := be_ntX (X := X) (i := i) (j := 1) hX h (by decide)
  obtain ⟨z2, h2, l2, m2⟩ := be_exX X (i + 2)
  have k2 := fun r => be_ckX (X := X) (i := i) (j := 2) hX h (by decide) (by decide) r
  have n2 : (be_i (i : Int) + be_i 2).toNatClampNeg = i + 2 := be_ntX (X := X) (i := i) (j := 2) hX h (by decide)
  obtain ⟨z3, h3, l3, m3⟩ := be_exX X (i + 3)
  have k3 := fun r => be_ckX (X := X) (i := i) (j := 3) hX h (by decide) (by decide) r
  have n3 : (be_i (i : Int) + be_i 3).toNatClampNeg = i + 3 := be_ntX (X := X) (i := i) (j := 3) hX h (by decide)
  obtain ⟨v, a', b', u', e', f', c1, c2, hI'⟩ := be_crow (X := X) (a := a) (b := b) (u := u) (e := e) (f := f) (d := d) (by omega) hI l1 m1 l2 m2 l3 m3
  refine ⟨a', b', u', e', f', ?_, hI'⟩
  rw [am_b255_409]
  simp only [k1, n1, h1, k2, n2, h2, k3, n3, h3]
  rw [c1, be_bi, am_b255_428]
  simp only [k1, n1, h1, k2, n2, h2, k3, n3, h3]
  rw [c2, be_bi, am_b255_447, if_pos rfl]
theorem be_Lgive (hd : 60 ≤ d) (hI : be_IV a b u e f) {i : Nat} (hX : X.1 ≤ 3072) (h : i + 6 ≤ X.1) : be_LS X d 452 i a b u e f := by
  obtain ⟨z1, h1, l1, m1⟩ := be_exX X (i + 1)
  have k1 := fun r => be_ckX (X := X) (i := i) (j := 1) hX h (by decide) (by decide) r
  have n1 : (be_i (i : Int) + be_i 1).toNatClampNeg = i + 1 := be_ntX (X := X) (i := i) (j := 1) hX h (by decide)
  obtain ⟨z2, h2, l2, m2⟩ := be_exX X (i + 2)
  have k2 := fun r => be_ckX (X := X) (i := i) (j := 2) hX h (by decide) (by decide) r
  have n2 : (be_i (i : Int) + be_i 2).toNatClampNeg = i + 2 := be_ntX (X := X) (i := i) (j := 2) hX h (by decide)
  obtain ⟨v, a', b', u', e', f', c1, c2, hI'⟩ := be_cgive (X := X) (a := a) (b := b) (u := u) (e := e) (f := f) (d := d) (by omega) hI l1 m1 l2 m2
  refine ⟨a', b', u', e', f', ?_, hI'⟩
  rw [am_b255_452]
  simp only [k1, n1, h1, k2, n2, h2]
  rw [c1, be_bi, am_b255_466]
  simp only [k1, n1, h1, k2, n2, h2]
  rw [c2, be_bi, am_b255_480, if_pos rfl]
theorem be_Linside (hd : 60 ≤ d) (hI : be_IV a b u e f) {i : Nat} (hX : X.1 ≤ 3072) (h : i + 6 ≤ X.1) : be_LS X d 485 i a b u e f := by
  obtain ⟨z1, h1, l1, m1⟩ := be_exX X (i + 1)
  have k1 := fun r => be_ckX (X := X) (i := i) (j := 1) hX h (by decide) (by decide) r
  have n1 : (be_i (i : Int) + be_i 1).toNatClampNeg = i + 1 := be_ntX (X := X) (i := i) (j := 1) hX h (by decide)
  obtain ⟨z2, h2, l2, m2⟩ := be_exX X (i + 2)
  have k2 := fun r => be_ckX (X := X) (i := i) (j := 2) hX h (by decide) (by decide) r
  have n2 : (be_i (i : Int) + be_i 2).toNatClampNeg = i + 2 := be_ntX (X := X) (i := i) (j := 2) hX h (by decide)
  obtain ⟨v, a', b', u', e', f', c1, c2, hI'⟩ := be_cinside (X := X) (a := a) (b := b) (u := u) (e := e) (f := f) (d := d) (by omega) hI l1 m1 l2 m2
  refine ⟨a', b', u', e', f', ?_, hI'⟩
  rw [am_b255_485]
  simp only [k1, n1, h1, k2, n2, h2]
  rw [c1, be_bi, am_b255_499]
  simp only [k1, n1, h1, k2, n2, h2]
  rw [c2, be_bi, am_b255_513, if_pos rfl]
theorem be_Lheld (hd : 60 ≤ d) (hI : be_IV a b u e f) {i : Nat} (hX : X.1 ≤ 3072) (h : i + 6 ≤ X.1) : be_LS X d 518 i a b u e f := by
  obtain ⟨z1, h1, l1, m1⟩ := be_exX X (i + 1)
  have k1 := fun r => be_ckX (X := X) (i := i) (j := 1) hX h (by decide) (by decide) r
  have n1 : (be_i (i : Int) + be_i 1).toNatClampNeg = i + 1 := be_ntX (X := X) (i := i) (j := 1) hX h (by decide)
  obtain ⟨z2, h2, l2, m2⟩ := be_exX X (i + 2)
  have k2 := fun r => be_ckX (X := X) (i := i) (j := 2) hX h (by decide) (by decide) r
  have n2 : (be_i (i : Int) + be_i 2).toNatClampNeg = i + 2 := be_ntX (X := X) (i := i) (j := 2) hX h (by decide)
  obtain ⟨v, a', b', u', e', f', c1, c2, hI'⟩ := be_cheld (X := X) (a := a) (b := b) (u := u) (e := e) (f := f) (d := d) (by omega) hI l1 m1 l2 m2
  refine ⟨a', b', u', e', f', ?_, hI'⟩
  rw [am_b255_518]
  simp only [k1, n1, h1, k2, n2, h2]
  rw [c1, be_bi, am_b255_532]
  simp only [k1, n1, h1, k2, n2, h2]
  rw [c2, be_bi, am_b255_546, if_pos rfl]
theorem be_Lfeed (hd : 60 ≤ d) (hI : be_IV a b u e f) {i : Nat} (hX : X.1 ≤ 3072) (h : i + 6 ≤ X.1) : be_LS X d 551 i a b u e f := by
  obtain ⟨z1, h1, l1, m1⟩ := be_exX X (i + 1)
  have k1 := fun r => be_ckX (X := X) (i := i) (j := 1) hX h (by decide) (by decide) r
  have n1 : (be_i (i : Int) + be_i 1).toNatClampNeg = i + 1 := be_ntX (X := X) (i := i) (j := 1) hX h (by decide)
  obtain ⟨v, a', b', u', e', f', c1, c2, hI'⟩ := be_cfeed (X := X) (a := a) (b := b) (u := u) (e := e) (f := f) (d := d) (by omega) hI l1 m1
  refine ⟨a', b', u', e', f', ?_, hI'⟩
  rw [am_b255_551]
  simp only [k1, n1, h1]
  rw [c1, be_bi, am_b255_560]
  simp only [k1, n1, h1]
  rw [c2, be_bi, am_b255_569, if_pos rfl]
theorem be_Loffice (hd : 60 ≤ d) (hI : be_IV a b u e f) {i : Nat} (hX : X.1 ≤ 3072) (h : i + 6 ≤ X.1) : be_LS X d 574 i a b u e f := by
  obtain ⟨v, a', b', u', e', f', c1, c2, hI'⟩ := be_coffice (X := X) (a := a) (b := b) (u := u) (e := e) (f := f) (d := d) (by omega) hI 
  refine ⟨a', b', u', e', f', ?_, hI'⟩
  rw [am_b255_574]
  rw [c1, be_bi, am_b255_578]
  rw [c2, be_bi, am_b255_582, if_pos rfl]
theorem be_Ltold (hd : 60 ≤ d) (hI : be_IV a b u e f) {i : Nat} (hX : X.1 ≤ 3072) (h : i + 6 ≤ X.1) : be_LS X d 587 i a b u e f := by
  obtain ⟨z1, h1, l1, m1⟩ := be_exX X (i + 1)
  have k1 := fun r => be_ckX (X := X) (i := i) (j := 1) hX h (by decide) (by decide) r
  have n1 : (be_i (i : Int) + be_i 1).toNatClampNeg = i + 1 := be_ntX (X := X) (i := i) (j := 1) hX h (by decide)
  obtain ⟨v, a', b', u', e', f', c1, c2, hI'⟩ := be_ctold (X := X) (a := a) (b := b) (u := u) (e := e) (f := f) (d := d) (by omega) hI l1 m1
  refine ⟨a', b', u', e', f', ?_, hI'⟩
  rw [am_b255_587]
  simp only [k1, n1, h1]
  rw [c1, be_bi, am_b255_596]
  simp only [k1, n1, h1]
  rw [c2, be_bi, am_b255_605, if_pos rfl]
theorem be_Lpass (hd : 60 ≤ d) (hI : be_IV a b u e f) {i : Nat} (hX : X.1 ≤ 3072) (h : i + 6 ≤ X.1) : be_LS X d 610 i a b u e f := by
  obtain ⟨z1, h1, l1, m1⟩ := be_exX X (i + 1)
  have k1 := fun r => be_ckX (X := X) (i := i) (j := 1) hX h (by decide) (by decide) r
  have n1 : (be_i (i : Int) + be_i 1).toNatClampNeg = i + 1 := be_ntX (X := X) (i := i) (j := 1) hX h (by decide)
  obtain ⟨v, a', b', u', e', f', c1, c2, hI'⟩ := be_cpass (X := X) (a := a) (b := b) (u := u) (e := e) (f := f) (d := d) (by omega) hI l1 m1
  refine ⟨a', b', u', e', f', ?_, hI'⟩
  rw [am_b255_610]
  simp only [k1, n1, h1]
  rw [c1, be_bi, am_b255_619]
  simp only [k1, n1, h1]
  rw [c2, be_bi, am_b255_628, if_pos rfl]
theorem be_Lwaste (hd : 60 ≤ d) (hI : be_IV a b u e f) {i : Nat} (hX : X.1 ≤ 3072) (h : i + 6 ≤ X.1) : be_LS X d 633 i a b u e f := by
  obtain ⟨z1, h1, l1, m1⟩ := be_exX X (i + 1)
  have k1 := fun r => be_ckX (X := X) (i := i) (j := 1) hX h (by decide) (by decide) r
  have n1 : (be_i (i : Int) + be_i 1).toNatClampNeg = i + 1 := be_ntX (X := X) (i := i) (j := 1) hX h (by decide)
  obtain ⟨v, a', b', u', e', f', c1, c2, hI'⟩ := be_cwaste (X := X) (a := a) (b := b) (u := u) (e := e) (f := f) (d := d) (by omega) hI l1 m1
  refine ⟨a', b', u', e', f', ?_, hI'⟩
  rw [am_b255_633]
  simp only [k1, n1, h1]
  rw [c1, be_bi, am_b255_642]
  simp only [k1, n1, h1]
  rw [c2, be_bi, am_b255_651, if_pos rfl]
theorem be_Lon (hd : 60 ≤ d) (hI : be_IV a b u e f) {i : Nat} (hX : X.1 ≤ 3072) (h : i + 6 ≤ X.1) : be_LS X d 656 i a b u e f := by
  obtain ⟨z1, h1, l1, m1⟩ := be_exX X (i + 1)
  have k1 := fun r => be_ckX (X := X) (i := i) (j := 1) hX h (by decide) (by decide) r
  have n1 : (be_i (i : Int) + be_i 1).toNatClampNeg = i + 1 := be_ntX (X := X) (i := i) (j := 1) hX h (by decide)
  obtain ⟨z2, h2, l2, m2⟩ := be_exX X (i + 2)
  have k2 := fun r => be_ckX (X := X) (i := i) (j := 2) hX h (by decide) (by decide) r
  have n2 : (be_i (i : Int) + be_i 2).toNatClampNeg = i + 2 := be_ntX (X := X) (i := i) (j := 2) hX h (by decide)
  obtain ⟨v, a', b', u', e', f', c1, c2, hI'⟩ := be_con (X := X) (a := a) (b := b) (u := u) (e := e) (f := f) (d := d) (by omega) hI l1 m1 l2 m2
  refine ⟨a', b', u', e', f', ?_, hI'⟩
  rw [am_b255_656]
  simp only [k1, n1, h1, k2, n2, h2]
  rw [c1, be_bi, am_b255_670]
  simp only [k1, n1, h1, k2, n2, h2]
  rw [c2, be_bi, am_b255_684, if_pos rfl]
theorem be_Lmost (hd : 60 ≤ d) (hI : be_IV a b u e f) {i : Nat} (hX : X.1 ≤ 3072) (h : i + 6 ≤ X.1) : be_LS X d 689 i a b u e f := by
  obtain ⟨z1, h1, l1, m1⟩ := be_exX X (i + 1)
  have k1 := fun r => be_ckX (X := X) (i := i) (j := 1) hX h (by decide) (by decide) r
  have n1 : (be_i (i : Int) + be_i 1).toNatClampNeg = i + 1 := be_ntX (X := X) (i := i) (j := 1) hX h (by decide)
  obtain ⟨v, a', b', u', e', f', c1, c2, hI'⟩ := be_cmost (X := X) (a := a) (b := b) (u := u) (e := e) (f := f) (d := d) (by omega) hI l1 m1
  refine ⟨a', b', u', e', f', ?_, hI'⟩
  rw [am_b255_689]
  simp only [k1, n1, h1]
  rw [c1, be_bi, am_b255_698]
  simp only [k1, n1, h1]
  rw [c2, be_bi, am_b255_707, if_pos rfl]
theorem be_Ldearest (hd : 60 ≤ d) (hI : be_IV a b u e f) {i : Nat} (hX : X.1 ≤ 3072) (h : i + 6 ≤ X.1) : be_LS X d 712 i a b u e f := by
  obtain ⟨z1, h1, l1, m1⟩ := be_exX X (i + 1)
  have k1 := fun r => be_ckX (X := X) (i := i) (j := 1) hX h (by decide) (by decide) r
  have n1 : (be_i (i : Int) + be_i 1).toNatClampNeg = i + 1 := be_ntX (X := X) (i := i) (j := 1) hX h (by decide)
  obtain ⟨v, a', b', u', e', f', c1, c2, hI'⟩ := be_cdearest (X := X) (a := a) (b := b) (u := u) (e := e) (f := f) (d := d) (by omega) hI l1 m1
  refine ⟨a', b', u', e', f', ?_, hI'⟩
  rw [am_b255_712]
  simp only [k1, n1, h1]
  rw [c1, be_bi, am_b255_721]
  simp only [k1, n1, h1]
  rw [c2, be_bi, am_b255_730, if_pos rfl]
theorem be_Lbest (hd : 60 ≤ d) (hI : be_IV a b u e f) {i : Nat} (hX : X.1 ≤ 3072) (h : i + 6 ≤ X.1) : be_LS X d 735 i a b u e f := by
  obtain ⟨z1, h1, l1, m1⟩ := be_exX X (i + 1)
  have k1 := fun r => be_ckX (X := X) (i := i) (j := 1) hX h (by decide) (by decide) r
  have n1 : (be_i (i : Int) + be_i 1).toNatClampNeg = i + 1 := be_ntX (X := X) (i := i) (j := 1) hX h (by decide)
  obtain ⟨v, a', b', u', e', f', c1, c2, hI'⟩ := be_cbest (X := X) (a := a) (b := b) (u := u) (e := e) (f := f) (d := d) (by omega) hI l1 m1
  refine ⟨a', b', u', e', f', ?_, hI'⟩
  rw [am_b255_735]
  simp only [k1, n1, h1]
  rw [c1, be_bi, am_b255_744]
  simp only [k1, n1, h1]
  rw [c2, be_bi, am_b255_753, if_pos rfl]
theorem be_Lholds (hd : 60 ≤ d) (hI : be_IV a b u e f) {i : Nat} (hX : X.1 ≤ 3072) (h : i + 6 ≤ X.1) : be_LS X d 758 i a b u e f := by
  obtain ⟨z1, h1, l1, m1⟩ := be_exX X (i + 1)
  have k1 := fun r => be_ckX (X := X) (i := i) (j := 1) hX h (by decide) (by decide) r
  have n1 : (be_i (i : Int) + be_i 1).toNatClampNeg = i + 1 := be_ntX (X := X) (i := i) (j := 1) hX h (by decide)
  obtain ⟨v, a', b', u', e', f', c1, c2, hI'⟩ := be_cholds (X := X) (a := a) (b := b) (u := u) (e := e) (f := f) (d := d) (by omega) hI l1 m1
  refine ⟨a', b', u', e', f', ?_, hI'⟩
  rw [am_b255_758]
  simp only [k1, n1, h1]
  rw [c1, be_bi, am_b255_767]
  simp only [k1, n1, h1]
  rw [c2, be_bi, am_b255_776, if_pos rfl]
theorem be_Lsudden (hd : 60 ≤ d) (hI : be_IV a b u e f) {i : Nat} (hX : X.1 ≤ 3072) (h : i + 6 ≤ X.1) : be_LS X d 781 i a b u e f := by
  obtain ⟨z1, h1, l1, m1⟩ := be_exX X (i + 1)
  have k1 := fun r => be_ckX (X := X) (i := i) (j := 1) hX h (by decide) (by decide) r
  have n1 : (be_i (i : Int) + be_i 1).toNatClampNeg = i + 1 := be_ntX (X := X) (i := i) (j := 1) hX h (by decide)
  obtain ⟨z2, h2, l2, m2⟩ := be_exX X (i + 2)
  have k2 := fun r => be_ckX (X := X) (i := i) (j := 2) hX h (by decide) (by decide) r
  have n2 : (be_i (i : Int) + be_i 2).toNatClampNeg = i + 2 := be_ntX (X := X) (i := i) (j := 2) hX h (by decide)
  obtain ⟨z3, h3, l3, m3⟩ := be_exX X (i + 3)
  have k3 := fun r => be_ckX (X := X) (i := i) (j := 3) hX h (by decide) (by decide) r
  have n3 : (be_i (i : Int) + be_i 3).toNatClampNeg = i + 3 := be_ntX (X := X) (i := i) (j := 3) hX h (by decide)
  obtain ⟨v, a', b', u', e', f', c1, c2, hI'⟩ := be_csudden (X := X) (a := a) (b := b) (u := u) (e := e) (f := f) (d := d) (by omega) hI l1 m1 l2 m2 l3 m3
  refine ⟨a', b', u', e', f', ?_, hI'⟩
  rw [am_b255_781]
  simp only [k1, n1, h1, k2, n2, h2, k3, n3, h3]
  rw [c1, be_bi, am_b255_800]
  simp only [k1, n1, h1, k2, n2, h2, k3, n3, h3]
  rw [c2, be_bi, am_b255_819, if_pos rfl]
theorem be_Lsee (hd : 60 ≤ d) (hI : be_IV a b u e f) {i : Nat} (hX : X.1 ≤ 3072) (h : i + 6 ≤ X.1) : be_LS X d 824 i a b u e f := by
  obtain ⟨z1, h1, l1, m1⟩ := be_exX X (i + 1)
  have k1 := fun r => be_ckX (X := X) (i := i) (j := 1) hX h (by decide) (by decide) r
  have n1 : (be_i (i : Int) + be_i 1).toNatClampNeg = i + 1 := be_ntX (X := X) (i := i) (j := 1) hX h (by decide)
  obtain ⟨z2, h2, l2, m2⟩ := be_exX X (i + 2)
  have k2 := fun r => be_ckX (X := X) (i := i) (j := 2) hX h (by decide) (by decide) r
  have n2 : (be_i (i : Int) + be_i 2).toNatClampNeg = i + 2 := be_ntX (X := X) (i := i) (j := 2) hX h (by decide)
  obtain ⟨z3, h3, l3, m3⟩ := be_exX X (i + 3)
  have k3 := fun r => be_ckX (X := X) (i := i) (j := 3) hX h (by decide) (by decide) r
  have n3 : (be_i (i : Int) + be_i 3).toNatClampNeg = i + 3 := be_ntX (X := X) (i := i) (j := 3) hX h (by decide)
  obtain ⟨z4, h4, l4, m4⟩ := be_exX X (i + 4)
  have k4 := fun r => be_ckX (X := X) (i := i) (j := 4) hX h (by decide) (by decide) r
  have n4 : (be_i (i : Int) + be_i 4).toNatClampNeg = i + 4 := be_ntX (X := X) (i := i) (j := 4) hX h (by decide)
  by_cases hz : be_i z3 = (0 : Int32)
  · obtain ⟨v, a', b', u', e', f', c1, c2, hI'⟩ := be_csee (X := X) (a := a) (b := b) (u := u) (e := e) (f := f) (d := d) (p := false) (by omega) hI l1 m1 l2 m2 l4 m4
    rw [be_bF] at c1 c2
    refine ⟨a', b', u', e', f', ?_, hI'⟩
    rw [am_b255_824]
    simp only [k1, n1, h1, k2, n2, h2, k3, n3, h3, k4, n4, h4]
    rw [if_pos hz, c1, be_bi, am_b255_856]
    simp only [k1, n1, h1, k2, n2, h2, k3, n3, h3, k4, n4, h4]
    rw [if_pos hz, c2, be_bi, am_b255_888, if_pos rfl]
  · obtain ⟨v, a', b', u', e', f', c1, c2, hI'⟩ := be_csee (X := X) (a := a) (b := b) (u := u) (e := e) (f := f) (d := d) (p := true) (by omega) hI l1 m1 l2 m2 l4 m4
    rw [be_bT] at c1 c2
    refine ⟨a', b', u', e', f', ?_, hI'⟩
    rw [am_b255_824]
    simp only [k1, n1, h1, k2, n2, h2, k3, n3, h3, k4, n4, h4]
    rw [if_neg hz, c1, be_bi, am_b255_856]
    simp only [k1, n1, h1, k2, n2, h2, k3, n3, h3, k4, n4, h4]
    rw [if_neg hz, c2, be_bi, am_b255_888, if_pos rfl]
theorem be_Lcan (hd : 60 ≤ d) (hI : be_IV a b u e f) {i : Nat} (hX : X.1 ≤ 3072) (h : i + 6 ≤ X.1) : be_LS X d 893 i a b u e f := by
  obtain ⟨z1, h1, l1, m1⟩ := be_exX X (i + 1)
  have k1 := fun r => be_ckX (X := X) (i := i) (j := 1) hX h (by decide) (by decide) r
  have n1 : (be_i (i : Int) + be_i 1).toNatClampNeg = i + 1 := be_ntX (X := X) (i := i) (j := 1) hX h (by decide)
  obtain ⟨z2, h2, l2, m2⟩ := be_exX X (i + 2)
  have k2 := fun r => be_ckX (X := X) (i := i) (j := 2) hX h (by decide) (by decide) r
  have n2 : (be_i (i : Int) + be_i 2).toNatClampNeg = i + 2 := be_ntX (X := X) (i := i) (j := 2) hX h (by decide)
  obtain ⟨v, a', b', u', e', f', c1, c2, hI'⟩ := be_ccan (X := X) (a := a) (b := b) (u := u) (e := e) (f := f) (d := d) (by omega) hI l1 m1 l2 m2
  refine ⟨a', b', u', e', f', ?_, hI'⟩
  rw [am_b255_893]
  simp only [k1, n1, h1, k2, n2, h2]
  rw [c1, be_bi, am_b255_907]
  simp only [k1, n1, h1, k2, n2, h2]
  rw [c2, be_bi, am_b255_921, if_pos rfl]
theorem be_Lwhere (hd : 60 ≤ d) (hI : be_IV a b u e f) {i : Nat} (hX : X.1 ≤ 3072) (h : i + 6 ≤ X.1) : be_LS X d 926 i a b u e f := by
  obtain ⟨z1, h1, l1, m1⟩ := be_exX X (i + 1)
  have k1 := fun r => be_ckX (X := X) (i := i) (j := 1) hX h (by decide) (by decide) r
  have n1 : (be_i (i : Int) + be_i 1).toNatClampNeg = i + 1 := be_ntX (X := X) (i := i) (j := 1) hX h (by decide)
  obtain ⟨v, a', b', u', e', f', c1, c2, hI'⟩ := be_cwhere (X := X) (a := a) (b := b) (u := u) (e := e) (f := f) (d := d) (by omega) hI l1 m1
  refine ⟨a', b', u', e', f', ?_, hI'⟩
  rw [am_b255_926]
  simp only [k1, n1, h1]
  rw [c1, be_bi, am_b255_935]
  simp only [k1, n1, h1]
  rw [c2, be_bi, am_b255_944, if_pos rfl]
theorem be_Lodds (hd : 60 ≤ d) (hI : be_IV a b u e f) {i : Nat} (hX : X.1 ≤ 3072) (h : i + 6 ≤ X.1) : be_LS X d 949 i a b u e f := by
  obtain ⟨z1, h1, l1, m1⟩ := be_exX X (i + 1)
  have k1 := fun r => be_ckX (X := X) (i := i) (j := 1) hX h (by decide) (by decide) r
  have n1 : (be_i (i : Int) + be_i 1).toNatClampNeg = i + 1 := be_ntX (X := X) (i := i) (j := 1) hX h (by decide)
  obtain ⟨z2, h2, l2, m2⟩ := be_exX X (i + 2)
  have k2 := fun r => be_ckX (X := X) (i := i) (j := 2) hX h (by decide) (by decide) r
  have n2 : (be_i (i : Int) + be_i 2).toNatClampNeg = i + 2 := be_ntX (X := X) (i := i) (j := 2) hX h (by decide)
  obtain ⟨v, a', b', u', e', f', c1, c2, hI'⟩ := be_codds (X := X) (a := a) (b := b) (u := u) (e := e) (f := f) (d := d) (by omega) hI l1 m1 l2 m2
  refine ⟨a', b', u', e', f', ?_, hI'⟩
  rw [am_b255_949]
  simp only [k1, n1, h1, k2, n2, h2]
  rw [c1, be_bl, am_b255_963]
  simp only [k1, n1, h1, k2, n2, h2]
  rw [c2, be_bl, am_b255_977, if_pos (by rw [be_0, be_cmp0])]
theorem be_Lmean (hd : 60 ≤ d) (hI : be_IV a b u e f) {i : Nat} (hX : X.1 ≤ 3072) (h : i + 6 ≤ X.1) : be_LS X d 983 i a b u e f := by
  obtain ⟨z1, h1, l1, m1⟩ := be_exX X (i + 1)
  have k1 := fun r => be_ckX (X := X) (i := i) (j := 1) hX h (by decide) (by decide) r
  have n1 : (be_i (i : Int) + be_i 1).toNatClampNeg = i + 1 := be_ntX (X := X) (i := i) (j := 1) hX h (by decide)
  obtain ⟨z2, h2, l2, m2⟩ := be_exX X (i + 2)
  have k2 := fun r => be_ckX (X := X) (i := i) (j := 2) hX h (by decide) (by decide) r
  have n2 : (be_i (i : Int) + be_i 2).toNatClampNeg = i + 2 := be_ntX (X := X) (i := i) (j := 2) hX h (by decide)
  obtain ⟨v, a', b', u', e', f', c1, c2, hI'⟩ := be_cmean (X := X) (a := a) (b := b) (u := u) (e := e) (f := f) (d := d) (by omega) hI l1 m1 l2 m2
  refine ⟨a', b', u', e', f', ?_, hI'⟩
  rw [am_b255_983]
  simp only [k1, n1, h1, k2, n2, h2]
  rw [c1, be_bl, am_b255_997]
  simp only [k1, n1, h1, k2, n2, h2]
  rw [c2, be_bl, am_b255_1011, if_pos (by rw [be_0, be_cmp0])]
theorem be_Lplan (hd : 60 ≤ d) (hI : be_IV a b u e f) {i : Nat} (hX : X.1 ≤ 3072) (h : i + 6 ≤ X.1) : be_LS X d 1017 i a b u e f := by
  obtain ⟨z1, h1, l1, m1⟩ := be_exX X (i + 1)
  have k1 := fun r => be_ckX (X := X) (i := i) (j := 1) hX h (by decide) (by decide) r
  have n1 : (be_i (i : Int) + be_i 1).toNatClampNeg = i + 1 := be_ntX (X := X) (i := i) (j := 1) hX h (by decide)
  obtain ⟨z2, h2, l2, m2⟩ := be_exX X (i + 2)
  have k2 := fun r => be_ckX (X := X) (i := i) (j := 2) hX h (by decide) (by decide) r
  have n2 : (be_i (i : Int) + be_i 2).toNatClampNeg = i + 2 := be_ntX (X := X) (i := i) (j := 2) hX h (by decide)
  obtain ⟨v, a', b', u', e', f', c1, c2, hI'⟩ := be_cplan (X := X) (a := a) (b := b) (u := u) (e := e) (f := f) (d := d) (by omega) hI l1 m1 l2 m2
  refine ⟨a', b', u', e', f', ?_, hI'⟩
  rw [am_b255_1017]
  simp only [k1, n1, h1, k2, n2, h2]
  rw [c1, be_bi, am_b255_1031]
  simp only [k1, n1, h1, k2, n2, h2]
  rw [c2, be_bi, am_b255_1045, if_pos rfl]
theorem be_Lends (hd : 60 ≤ d) (hI : be_IV a b u e f) {i : Nat} (hX : X.1 ≤ 3072) (h : i + 6 ≤ X.1) : be_LS X d 1050 i a b u e f := by
  obtain ⟨z1, h1, l1, m1⟩ := be_exX X (i + 1)
  have k1 := fun r => be_ckX (X := X) (i := i) (j := 1) hX h (by decide) (by decide) r
  have n1 : (be_i (i : Int) + be_i 1).toNatClampNeg = i + 1 := be_ntX (X := X) (i := i) (j := 1) hX h (by decide)
  obtain ⟨v, a', b', u', e', f', c1, c2, hI'⟩ := be_cends (X := X) (a := a) (b := b) (u := u) (e := e) (f := f) (d := d) (by omega) hI l1 m1
  refine ⟨a', b', u', e', f', ?_, hI'⟩
  rw [am_b255_1050]
  simp only [k1, n1, h1]
  rw [c1, be_bi, am_b255_1059]
  simp only [k1, n1, h1]
  rw [c2, be_bi, am_b255_1068, if_pos rfl]
theorem be_Lbook (hd : 60 ≤ d) (hI : be_IV a b u e f) {i : Nat} (hX : X.1 ≤ 3072) (h : i + 6 ≤ X.1) : be_LS X d 1073 i a b u e f := by
  obtain ⟨z1, h1, l1, m1⟩ := be_exX X (i + 1)
  have k1 := fun r => be_ckX (X := X) (i := i) (j := 1) hX h (by decide) (by decide) r
  have n1 : (be_i (i : Int) + be_i 1).toNatClampNeg = i + 1 := be_ntX (X := X) (i := i) (j := 1) hX h (by decide)
  obtain ⟨z2, h2, l2, m2⟩ := be_exX X (i + 2)
  have k2 := fun r => be_ckX (X := X) (i := i) (j := 2) hX h (by decide) (by decide) r
  have n2 : (be_i (i : Int) + be_i 2).toNatClampNeg = i + 2 := be_ntX (X := X) (i := i) (j := 2) hX h (by decide)
  obtain ⟨v, a', b', u', e', f', c1, c2, hI'⟩ := be_cbook (X := X) (a := a) (b := b) (u := u) (e := e) (f := f) (d := d) (by omega) hI l1 m1 l2 m2
  refine ⟨a', b', u', e', f', ?_, hI'⟩
  rw [am_b255_1073]
  simp only [k1, n1, h1, k2, n2, h2]
  rw [c1, be_bi, am_b255_1087]
  simp only [k1, n1, h1, k2, n2, h2]
  rw [c2, be_bi, am_b255_1101, if_pos rfl]
theorem be_Llooked (hd : 60 ≤ d) (hI : be_IV a b u e f) {i : Nat} (hX : X.1 ≤ 3072) (h : i + 6 ≤ X.1) : be_LS X d 1106 i a b u e f := by
  obtain ⟨v, a', b', u', e', f', c1, c2, hI'⟩ := be_clooked (X := X) (a := a) (b := b) (u := u) (e := e) (f := f) (d := d) (by omega) hI 
  refine ⟨a', b', u', e', f', ?_, hI'⟩
  rw [am_b255_1106]
  rw [c1, be_bi, am_b255_1110]
  rw [c2, be_bi, am_b255_1114, if_pos rfl]
theorem be_Ljudge (hd : 60 ≤ d) (hI : be_IV a b u e f) {i : Nat} (hX : X.1 ≤ 3072) (h : i + 6 ≤ X.1) : be_LS X d 1119 i a b u e f := by
  obtain ⟨z1, h1, l1, m1⟩ := be_exX X (i + 1)
  have k1 := fun r => be_ckX (X := X) (i := i) (j := 1) hX h (by decide) (by decide) r
  have n1 : (be_i (i : Int) + be_i 1).toNatClampNeg = i + 1 := be_ntX (X := X) (i := i) (j := 1) hX h (by decide)
  obtain ⟨z2, h2, l2, m2⟩ := be_exX X (i + 2)
  have k2 := fun r => be_ckX (X := X) (i := i) (j := 2) hX h (by decide) (by decide) r
  have n2 : (be_i (i : Int) + be_i 2).toNatClampNeg = i + 2 := be_ntX (X := X) (i := i) (j := 2) hX h (by decide)
  obtain ⟨v, a', b', u', e', f', c1, c2, hI'⟩ := be_cjudge (X := X) (a := a) (b := b) (u := u) (e := e) (f := f) (d := d) (by omega) hI l1 m1 l2 m2
  refine ⟨a', b', u', e', f', ?_, hI'⟩
  rw [am_b255_1119]
  simp only [k1, n1, h1, k2, n2, h2]
  rw [c1, be_bi, am_b255_1133]
  simp only [k1, n1, h1, k2, n2, h2]
  rw [c2, be_bi, am_b255_1147, if_pos rfl]
theorem be_Limage (hd : 60 ≤ d) (hI : be_IV a b u e f) {i : Nat} (hX : X.1 ≤ 3072) (h : i + 6 ≤ X.1) : be_LS X d 1152 i a b u e f := by
  obtain ⟨v, a', b', u', e', f', c1, c2, hI'⟩ := be_cimage (X := X) (a := a) (b := b) (u := u) (e := e) (f := f) (d := d) (by omega) hI 
  refine ⟨a', b', u', e', f', ?_, hI'⟩
  rw [am_b255_1152]
  rw [c1, be_bi, am_b255_1156]
  rw [c2, be_bi, am_b255_1160, if_pos rfl]
theorem be_Lundo (hd : 60 ≤ d) (hI : be_IV a b u e f) {i : Nat} (hX : X.1 ≤ 3072) (h : i + 6 ≤ X.1) : be_LS X d 1165 i a b u e f := by
  obtain ⟨v, a', b', u', e', f', c1, c2, hI'⟩ := be_cundo (X := X) (a := a) (b := b) (u := u) (e := e) (f := f) (d := d) (by omega) hI 
  refine ⟨a', b', u', e', f', ?_, hI'⟩
  rw [am_b255_1165]
  rw [c1, be_bi, am_b255_1169]
  rw [c2, be_bi, am_b255_1173, if_pos rfl]
theorem be_Lact (hd : 60 ≤ d) (hI : be_IV a b u e f) {i : Nat} (hX : X.1 ≤ 3072) (h : i + 6 ≤ X.1) : be_LS X d 1178 i a b u e f := by
  obtain ⟨z1, h1, l1, m1⟩ := be_exX X (i + 1)
  have k1 := fun r => be_ckX (X := X) (i := i) (j := 1) hX h (by decide) (by decide) r
  have n1 : (be_i (i : Int) + be_i 1).toNatClampNeg = i + 1 := be_ntX (X := X) (i := i) (j := 1) hX h (by decide)
  obtain ⟨z2, h2, l2, m2⟩ := be_exX X (i + 2)
  have k2 := fun r => be_ckX (X := X) (i := i) (j := 2) hX h (by decide) (by decide) r
  have n2 : (be_i (i : Int) + be_i 2).toNatClampNeg = i + 2 := be_ntX (X := X) (i := i) (j := 2) hX h (by decide)
  obtain ⟨z3, h3, l3, m3⟩ := be_exX X (i + 3)
  have k3 := fun r => be_ckX (X := X) (i := i) (j := 3) hX h (by decide) (by decide) r
  have n3 : (be_i (i : Int) + be_i 3).toNatClampNeg = i + 3 := be_ntX (X := X) (i := i) (j := 3) hX h (by decide)
  obtain ⟨v, a', b', u', e', f', c1, c2, hI'⟩ := be_cact (X := X) (a := a) (b := b) (u := u) (e := e) (f := f) (d := d) (z := be_i z3) (by omega) hI l1 m1 l2 m2
  refine ⟨a', b', u', e', f', ?_, hI'⟩
  rw [am_b255_1178]
  simp only [k1, n1, h1, k2, n2, h2, k3, n3, h3]
  rw [c1, be_bi, am_b255_1197]
  simp only [k1, n1, h1, k2, n2, h2, k3, n3, h3]
  rw [c2, be_bi, am_b255_1216, if_pos rfl]
theorem be_Ltrace (hd : 60 ≤ d) (hI : be_IV a b u e f) {i : Nat} (hX : X.1 ≤ 3072) (h : i + 6 ≤ X.1) : be_LS X d 1221 i a b u e f := by
  obtain ⟨z1, h1, l1, m1⟩ := be_exX X (i + 1)
  have k1 := fun r => be_ckX (X := X) (i := i) (j := 1) hX h (by decide) (by decide) r
  have n1 : (be_i (i : Int) + be_i 1).toNatClampNeg = i + 1 := be_ntX (X := X) (i := i) (j := 1) hX h (by decide)
  obtain ⟨v, a', b', u', e', f', c1, c2, hI'⟩ := be_ctrace (X := X) (a := a) (b := b) (u := u) (e := e) (f := f) (d := d) (by omega) hI l1 m1
  refine ⟨a', b', u', e', f', ?_, hI'⟩
  rw [am_b255_1221]
  simp only [k1, n1, h1]
  rw [c1, be_bi, am_b255_1230]
  simp only [k1, n1, h1]
  rw [c2, be_bi, am_b255_1239, if_pos rfl]
theorem be_Ltaken (hd : 60 ≤ d) (hI : be_IV a b u e f) {i : Nat} (hX : X.1 ≤ 3072) (h : i + 6 ≤ X.1) : be_LS X d 1244 i a b u e f := by
  obtain ⟨z1, h1, l1, m1⟩ := be_exX X (i + 1)
  have k1 := fun r => be_ckX (X := X) (i := i) (j := 1) hX h (by decide) (by decide) r
  have n1 : (be_i (i : Int) + be_i 1).toNatClampNeg = i + 1 := be_ntX (X := X) (i := i) (j := 1) hX h (by decide)
  obtain ⟨z2, h2, l2, m2⟩ := be_exX X (i + 2)
  have k2 := fun r => be_ckX (X := X) (i := i) (j := 2) hX h (by decide) (by decide) r
  have n2 : (be_i (i : Int) + be_i 2).toNatClampNeg = i + 2 := be_ntX (X := X) (i := i) (j := 2) hX h (by decide)
  obtain ⟨v, a', b', u', e', f', c1, c2, hI'⟩ := be_ctaken (X := X) (a := a) (b := b) (u := u) (e := e) (f := f) (d := d) (by omega) hI l1 m1 l2 m2
  refine ⟨a', b', u', e', f', ?_, hI'⟩
  rw [am_b255_1244]
  simp only [k1, n1, h1, k2, n2, h2]
  rw [c1, be_bi, am_b255_1258]
  simp only [k1, n1, h1, k2, n2, h2]
  rw [c2, be_bi, am_b255_1272, if_pos rfl]
theorem be_Lcount (hd : 60 ≤ d) (hI : be_IV a b u e f) {i : Nat} (hX : X.1 ≤ 3072) (h : i + 6 ≤ X.1) : be_LS X d 1277 i a b u e f := by
  obtain ⟨z1, h1, l1, m1⟩ := be_exX X (i + 1)
  have k1 := fun r => be_ckX (X := X) (i := i) (j := 1) hX h (by decide) (by decide) r
  have n1 : (be_i (i : Int) + be_i 1).toNatClampNeg = i + 1 := be_ntX (X := X) (i := i) (j := 1) hX h (by decide)
  obtain ⟨v, a', b', u', e', f', c1, c2, hI'⟩ := be_ccount (X := X) (a := a) (b := b) (u := u) (e := e) (f := f) (d := d) (by omega) hI l1 m1
  refine ⟨a', b', u', e', f', ?_, hI'⟩
  rw [am_b255_1277]
  simp only [k1, n1, h1]
  rw [c1, be_bi, am_b255_1286]
  simp only [k1, n1, h1]
  rw [c2, be_bi, am_b255_1295, if_pos rfl]
theorem be_Ltape (hd : 60 ≤ d) (hI : be_IV a b u e f) {i : Nat} (hX : X.1 ≤ 3072) (h : i + 6 ≤ X.1) : be_LS X d 1300 i a b u e f := by
  obtain ⟨z1, h1, l1, m1⟩ := be_exX X (i + 1)
  have k1 := fun r => be_ckX (X := X) (i := i) (j := 1) hX h (by decide) (by decide) r
  have n1 : (be_i (i : Int) + be_i 1).toNatClampNeg = i + 1 := be_ntX (X := X) (i := i) (j := 1) hX h (by decide)
  obtain ⟨z2, h2, l2, m2⟩ := be_exX X (i + 2)
  have k2 := fun r => be_ckX (X := X) (i := i) (j := 2) hX h (by decide) (by decide) r
  have n2 : (be_i (i : Int) + be_i 2).toNatClampNeg = i + 2 := be_ntX (X := X) (i := i) (j := 2) hX h (by decide)
  obtain ⟨z3, h3, l3, m3⟩ := be_exX X (i + 3)
  have k3 := fun r => be_ckX (X := X) (i := i) (j := 3) hX h (by decide) (by decide) r
  have n3 : (be_i (i : Int) + be_i 3).toNatClampNeg = i + 3 := be_ntX (X := X) (i := i) (j := 3) hX h (by decide)
  obtain ⟨v, a', b', u', e', f', c1, c2, hI'⟩ := be_ctape (X := X) (a := a) (b := b) (u := u) (e := e) (f := f) (d := d) (by omega) hI l1 m1 l2 m2 l3 m3
  refine ⟨a', b', u', e', f', ?_, hI'⟩
  rw [am_b255_1300]
  simp only [k1, n1, h1, k2, n2, h2, k3, n3, h3]
  rw [c1, be_bi, am_b255_1319]
  simp only [k1, n1, h1, k2, n2, h2, k3, n3, h3]
  rw [c2, be_bi, am_b255_1338, if_pos rfl]
theorem be_Litem (hd : 60 ≤ d) (hI : be_IV a b u e f) {i : Nat} (hX : X.1 ≤ 3072) (h : i + 6 ≤ X.1) : be_LS X d 1343 i a b u e f := by
  obtain ⟨z1, h1, l1, m1⟩ := be_exX X (i + 1)
  have k1 := fun r => be_ckX (X := X) (i := i) (j := 1) hX h (by decide) (by decide) r
  have n1 : (be_i (i : Int) + be_i 1).toNatClampNeg = i + 1 := be_ntX (X := X) (i := i) (j := 1) hX h (by decide)
  obtain ⟨z2, h2, l2, m2⟩ := be_exX X (i + 2)
  have k2 := fun r => be_ckX (X := X) (i := i) (j := 2) hX h (by decide) (by decide) r
  have n2 : (be_i (i : Int) + be_i 2).toNatClampNeg = i + 2 := be_ntX (X := X) (i := i) (j := 2) hX h (by decide)
  obtain ⟨z3, h3, l3, m3⟩ := be_exX X (i + 3)
  have k3 := fun r => be_ckX (X := X) (i := i) (j := 3) hX h (by decide) (by decide) r
  have n3 : (be_i (i : Int) + be_i 3).toNatClampNeg = i + 3 := be_ntX (X := X) (i := i) (j := 3) hX h (by decide)
  obtain ⟨z4, h4, l4, m4⟩ := be_exX X (i + 4)
  have k4 := fun r => be_ckX (X := X) (i := i) (j := 4) hX h (by decide) (by decide) r
  have n4 : (be_i (i : Int) + be_i 4).toNatClampNeg = i + 4 := be_ntX (X := X) (i := i) (j := 4) hX h (by decide)
  obtain ⟨v, a', b', u', e', f', c1, c2, hI'⟩ := be_citem (X := X) (a := a) (b := b) (u := u) (e := e) (f := f) (d := d) (v := ((be_i z3).toInt64 <<< ((be_i 32).toInt64 &&& 63)) ||| ((be_i z4).toInt64 &&& Int64.ofNat 4294967295)) (by omega) hI l1 m1 l2 m2
  refine ⟨a', b', u', e', f', ?_, hI'⟩
  rw [am_b255_1343]
  simp only [k1, n1, h1, k2, n2, h2, k3, n3, h3, k4, n4, h4]
  rw [c1, be_bi, am_b255_1377]
  simp only [k1, n1, h1, k2, n2, h2, k3, n3, h3, k4, n4, h4]
  rw [c2, be_bi, am_b255_1411, if_pos rfl]
theorem be_Lread (hd : 60 ≤ d) (hI : be_IV a b u e f) {i : Nat} (hX : X.1 ≤ 3072) (h : i + 6 ≤ X.1) : be_LS X d 1416 i a b u e f := by
  obtain ⟨z1, h1, l1, m1⟩ := be_exX X (i + 1)
  have k1 := fun r => be_ckX (X := X) (i := i) (j := 1) hX h (by decide) (by decide) r
  have n1 : (be_i (i : Int) + be_i 1).toNatClampNeg = i + 1 := be_ntX (X := X) (i := i) (j := 1) hX h (by decide)
  obtain ⟨z2, h2, l2, m2⟩ := be_exX X (i + 2)
  have k2 := fun r => be_ckX (X := X) (i := i) (j := 2) hX h (by decide) (by decide) r
  have n2 : (be_i (i : Int) + be_i 2).toNatClampNeg = i + 2 := be_ntX (X := X) (i := i) (j := 2) hX h (by decide)
  obtain ⟨v, a', b', u', e', f', c1, c2, hI'⟩ := be_cread (X := X) (a := a) (b := b) (u := u) (e := e) (f := f) (d := d) (by omega) hI l1 m1 l2 m2
  refine ⟨a', b', u', e', f', ?_, hI'⟩
  rw [am_b255_1416]
  simp only [k1, n1, h1, k2, n2, h2]
  rw [c1, be_bl, am_b255_1430]
  simp only [k1, n1, h1, k2, n2, h2]
  rw [c2, be_bl, am_b255_1444, if_pos (by rw [be_0, be_cmp0])]
theorem be_Lshift (hd : 60 ≤ d) (hI : be_IV a b u e f) {i : Nat} (hX : X.1 ≤ 3072) (h : i + 6 ≤ X.1) : be_LS X d 1450 i a b u e f := by
  obtain ⟨z1, h1, l1, m1⟩ := be_exX X (i + 1)
  have k1 := fun r => be_ckX (X := X) (i := i) (j := 1) hX h (by decide) (by decide) r
  have n1 : (be_i (i : Int) + be_i 1).toNatClampNeg = i + 1 := be_ntX (X := X) (i := i) (j := 1) hX h (by decide)
  obtain ⟨z2, h2, l2, m2⟩ := be_exX X (i + 2)
  have k2 := fun r => be_ckX (X := X) (i := i) (j := 2) hX h (by decide) (by decide) r
  have n2 : (be_i (i : Int) + be_i 2).toNatClampNeg = i + 2 := be_ntX (X := X) (i := i) (j := 2) hX h (by decide)
  obtain ⟨z3, h3, l3, m3⟩ := be_exX X (i + 3)
  have k3 := fun r => be_ckX (X := X) (i := i) (j := 3) hX h (by decide) (by decide) r
  have n3 : (be_i (i : Int) + be_i 3).toNatClampNeg = i + 3 := be_ntX (X := X) (i := i) (j := 3) hX h (by decide)
  obtain ⟨z4, h4, l4, m4⟩ := be_exX X (i + 4)
  have k4 := fun r => be_ckX (X := X) (i := i) (j := 4) hX h (by decide) (by decide) r
  have n4 : (be_i (i : Int) + be_i 4).toNatClampNeg = i + 4 := be_ntX (X := X) (i := i) (j := 4) hX h (by decide)
  obtain ⟨z5, h5, l5, m5⟩ := be_exX X (i + 5)
  have k5 := fun r => be_ckX (X := X) (i := i) (j := 5) hX h (by decide) (by decide) r
  have n5 : (be_i (i : Int) + be_i 5).toNatClampNeg = i + 5 := be_ntX (X := X) (i := i) (j := 5) hX h (by decide)
  obtain ⟨v, a', b', u', e', f', c1, c2, hI'⟩ := be_cshift (X := X) (a := a) (b := b) (u := u) (e := e) (f := f) (d := d) (by omega) hI l1 m1 l2 m2 l3 m3 l4 m4 l5 m5
  refine ⟨a', b', u', e', f', ?_, hI'⟩
  rw [am_b255_1450]
  simp only [k1, n1, h1, k2, n2, h2, k3, n3, h3, k4, n4, h4, k5, n5, h5]
  rw [c1, be_bi, am_b255_1479]
  simp only [k1, n1, h1, k2, n2, h2, k3, n3, h3, k4, n4, h4, k5, n5, h5]
  rw [c2, be_bi, am_b255_1508, if_pos rfl]
theorem be_law (hd : 60 ≤ d) (hX : X.1 ≤ 3072) : ∀ (m i : Nat) (a : Nat → Nat → Nat → Int32) (b : Nat → Nat → Nat → Int64) (u : Nat → Nat) (e : Nat → Nat → Nat → Int32) (f : Nat → Nat → Nat → Int64), X.1 < i + m → i ≤ X.1 → be_IV a b u e f →
    ∃ (a' : Nat → Nat → Nat → Int32) (b' : Nat → Nat → Nat → Int64) (u' : Nat → Nat) (e' : Nat → Nat → Nat → Int32) (f' : Nat → Nat → Nat → Int64), am_fix (am_sem X d) X am_P255 18 [.inr (204, 0), .inr (9, 0), .inr (50, 0), am_I (be_i (i : Int))] [] (am_sd a b u e f) = some (some (am_I (be_i 1)), am_sd a' b' u' e' f') := by
  intro m
  induction m with
  | zero => intro i a b u e f hm hi hI; omega
  | succ m ih =>
    intro i a b u e f hm hi hI
    by_cases hend : X.1 < i + 6
    · refine ⟨a, b, u, e, f, ?_⟩
      rw [am_b255_18, be_ofN, be_sub, if_pos (by rw [be_lt (by omega) (by omega) (by omega) (by omega)]; omega)]
    · have h6 : i + 6 ≤ X.1 := by omega
      have go : ∀ (a' : Nat → Nat → Nat → Int32) (b' : Nat → Nat → Nat → Int64) (u' : Nat → Nat) (e' : Nat → Nat → Nat → Int32) (f' : Nat → Nat → Nat → Int64), be_IV a' b' u' e' f' → ∃ (a2 : Nat → Nat → Nat → Int32) (b2 : Nat → Nat → Nat → Int64) (u2 : Nat → Nat) (e2 : Nat → Nat → Nat → Int32) (f2 : Nat → Nat → Nat → Int64), am_fix (am_sem X d) X am_P255 1513 [.inr (204, 0), .inr (9, 0), .inr (50, 0), am_I (be_i (i : Int))] [] (am_sd a' b' u' e' f') = some (some (am_I (be_i 1)), am_sd a2 b2 u2 e2 f2) := by
        intro a' b' u' e' f' hI'
        obtain ⟨a2, b2, u2, e2, f2, hg⟩ := ih (i + 6) a' b' u' e' f' (by omega) h6 hI'
        refine ⟨a2, b2, u2, e2, f2, ?_⟩
        rw [am_b255_1513, be_add]
        exact hg
      have run : ∀ p, be_LS X d p i a b u e f → ∃ (a2 : Nat → Nat → Nat → Int32) (b2 : Nat → Nat → Nat → Int64) (u2 : Nat → Nat) (e2 : Nat → Nat → Nat → Int32) (f2 : Nat → Nat → Nat → Int64), am_fix (am_sem X d) X am_P255 p [.inr (204, 0), .inr (9, 0), .inr (50, 0), am_I (be_i (i : Int))] [] (am_sd a b u e f) = some (some (am_I (be_i 1)), am_sd a2 b2 u2 e2 f2) := by
        rintro p ⟨a', b', u', e', f', h1, h2⟩
        rw [h1]
        exact go a' b' u' e' f' h2
      rw [am_b255_18, be_ofN, be_sub, if_neg (by rw [be_lt (by omega) (by omega) (by omega) (by omega)]; omega), be_ck (by omega) (by omega) (by omega)]
      by_cases s0 : X.2 (be_i (i : Int)).toNatClampNeg &&& be_i 63 = be_i 0
      · rw [if_pos s0]; exact run 208 (be_Lroom (X := X) (a := a) (b := b) (u := u) (e := e) (f := f) (d := d) hd hI hX h6)
      rw [if_neg s0]
      by_cases s1 : X.2 (be_i (i : Int)).toNatClampNeg &&& be_i 63 = be_i 1
      · rw [if_pos s1]; exact run 231 (be_Lhour (X := X) (a := a) (b := b) (u := u) (e := e) (f := f) (d := d) hd hI hX h6)
      rw [if_neg s1]
      by_cases s2 : X.2 (be_i (i : Int)).toNatClampNeg &&& be_i 63 = be_i 2
      · rw [if_pos s2]; exact run 294 (be_Lof (X := X) (a := a) (b := b) (u := u) (e := e) (f := f) (d := d) hd hI hX h6)
      rw [if_neg s2]
      by_cases s3 : X.2 (be_i (i : Int)).toNatClampNeg &&& be_i 63 = be_i 3
      · rw [if_pos s3]; exact run 327 (be_Lat (X := X) (a := a) (b := b) (u := u) (e := e) (f := f) (d := d) hd hI hX h6)
      rw [if_neg s3]
      by_cases s4 : X.2 (be_i (i : Int)).toNatClampNeg &&& be_i 63 = be_i 4
      · rw [if_pos s4]; exact run 360 (be_Lfault (X := X) (a := a) (b := b) (u := u) (e := e) (f := f) (d := d) hd hI hX h6)
      rw [if_neg s4]
      by_cases s5 : X.2 (be_i (i : Int)).toNatClampNeg &&& be_i 63 = be_i 5
      · rw [if_pos s5]; exact run 409 (be_Lrow (X := X) (a := a) (b := b) (u := u) (e := e) (f := f) (d := d) hd hI hX h6)
      rw [if_neg s5]
      by_cases s6 : X.2 (be_i (i : Int)).toNatClampNeg &&& be_i 63 = be_i 6
      · rw [if_pos s6]; exact run 452 (be_Lgive (X := X) (a := a) (b := b) (u := u) (e := e) (f := f) (d := d) hd hI hX h6)
      rw [if_neg s6]
      by_cases s7 : X.2 (be_i (i : Int)).toNatClampNeg &&& be_i 63 = be_i 7
      · rw [if_pos s7]; exact run 485 (be_Linside (X := X) (a := a) (b := b) (u := u) (e := e) (f := f) (d := d) hd hI hX h6)
      rw [if_neg s7]
      by_cases s8 : X.2 (be_i (i : Int)).toNatClampNeg &&& be_i 63 = be_i 8
      · rw [if_pos s8]; exact run 518 (be_Lheld (X := X) (a := a) (b := b) (u := u) (e := e) (f := f) (d := d) hd hI hX h6)
      rw [if_neg s8]
      by_cases s9 : X.2 (be_i (i : Int)).toNatClampNeg &&& be_i 63 = be_i 9
      · rw [if_pos s9]; exact run 551 (be_Lfeed (X := X) (a := a) (b := b) (u := u) (e := e) (f := f) (d := d) hd hI hX h6)
      rw [if_neg s9]
      by_cases s10 : X.2 (be_i (i : Int)).toNatClampNeg &&& be_i 63 = be_i 10
      · rw [if_pos s10]; exact run 574 (be_Loffice (X := X) (a := a) (b := b) (u := u) (e := e) (f := f) (d := d) hd hI hX h6)
      rw [if_neg s10]
      by_cases s11 : X.2 (be_i (i : Int)).toNatClampNeg &&& be_i 63 = be_i 11
      · rw [if_pos s11]; exact run 587 (be_Ltold (X := X) (a := a) (b := b) (u := u) (e := e) (f := f) (d := d) hd hI hX h6)
      rw [if_neg s11]
      by_cases s12 : X.2 (be_i (i : Int)).toNatClampNeg &&& be_i 63 = be_i 12
      · rw [if_pos s12]; exact run 610 (be_Lpass (X := X) (a := a) (b := b) (u := u) (e := e) (f := f) (d := d) hd hI hX h6)
      rw [if_neg s12]
      by_cases s13 : X.2 (be_i (i : Int)).toNatClampNeg &&& be_i 63 = be_i 13
      · rw [if_pos s13]; exact run 633 (be_Lwaste (X := X) (a := a) (b := b) (u := u) (e := e) (f := f) (d := d) hd hI hX h6)
      rw [if_neg s13]
      by_cases s14 : X.2 (be_i (i : Int)).toNatClampNeg &&& be_i 63 = be_i 14
      · rw [if_pos s14]; exact run 656 (be_Lon (X := X) (a := a) (b := b) (u := u) (e := e) (f := f) (d := d) hd hI hX h6)
      rw [if_neg s14]
      by_cases s15 : X.2 (be_i (i : Int)).toNatClampNeg &&& be_i 63 = be_i 15
      · rw [if_pos s15]; exact run 689 (be_Lmost (X := X) (a := a) (b := b) (u := u) (e := e) (f := f) (d := d) hd hI hX h6)
      rw [if_neg s15]
      by_cases s16 : X.2 (be_i (i : Int)).toNatClampNeg &&& be_i 63 = be_i 16
      · rw [if_pos s16]; exact run 712 (be_Ldearest (X := X) (a := a) (b := b) (u := u) (e := e) (f := f) (d := d) hd hI hX h6)
      rw [if_neg s16]
      by_cases s17 : X.2 (be_i (i : Int)).toNatClampNeg &&& be_i 63 = be_i 17
      · rw [if_pos s17]; exact run 735 (be_Lbest (X := X) (a := a) (b := b) (u := u) (e := e) (f := f) (d := d) hd hI hX h6)
      rw [if_neg s17]
      by_cases s18 : X.2 (be_i (i : Int)).toNatClampNeg &&& be_i 63 = be_i 18
      · rw [if_pos s18]; exact run 758 (be_Lholds (X := X) (a := a) (b := b) (u := u) (e := e) (f := f) (d := d) hd hI hX h6)
      rw [if_neg s18]
      by_cases s19 : X.2 (be_i (i : Int)).toNatClampNeg &&& be_i 63 = be_i 19
      · rw [if_pos s19]; exact run 781 (be_Lsudden (X := X) (a := a) (b := b) (u := u) (e := e) (f := f) (d := d) hd hI hX h6)
      rw [if_neg s19]
      by_cases s20 : X.2 (be_i (i : Int)).toNatClampNeg &&& be_i 63 = be_i 20
      · rw [if_pos s20]; exact run 824 (be_Lsee (X := X) (a := a) (b := b) (u := u) (e := e) (f := f) (d := d) hd hI hX h6)
      rw [if_neg s20]
      by_cases s21 : X.2 (be_i (i : Int)).toNatClampNeg &&& be_i 63 = be_i 21
      · rw [if_pos s21]; exact run 893 (be_Lcan (X := X) (a := a) (b := b) (u := u) (e := e) (f := f) (d := d) hd hI hX h6)
      rw [if_neg s21]
      by_cases s22 : X.2 (be_i (i : Int)).toNatClampNeg &&& be_i 63 = be_i 22
      · rw [if_pos s22]; exact run 926 (be_Lwhere (X := X) (a := a) (b := b) (u := u) (e := e) (f := f) (d := d) hd hI hX h6)
      rw [if_neg s22]
      by_cases s23 : X.2 (be_i (i : Int)).toNatClampNeg &&& be_i 63 = be_i 23
      · rw [if_pos s23]; exact run 949 (be_Lodds (X := X) (a := a) (b := b) (u := u) (e := e) (f := f) (d := d) hd hI hX h6)
      rw [if_neg s23]
      by_cases s24 : X.2 (be_i (i : Int)).toNatClampNeg &&& be_i 63 = be_i 24
      · rw [if_pos s24]; exact run 983 (be_Lmean (X := X) (a := a) (b := b) (u := u) (e := e) (f := f) (d := d) hd hI hX h6)
      rw [if_neg s24]
      by_cases s25 : X.2 (be_i (i : Int)).toNatClampNeg &&& be_i 63 = be_i 25
      · rw [if_pos s25]; exact run 1017 (be_Lplan (X := X) (a := a) (b := b) (u := u) (e := e) (f := f) (d := d) hd hI hX h6)
      rw [if_neg s25]
      by_cases s26 : X.2 (be_i (i : Int)).toNatClampNeg &&& be_i 63 = be_i 26
      · rw [if_pos s26]; exact run 1050 (be_Lends (X := X) (a := a) (b := b) (u := u) (e := e) (f := f) (d := d) hd hI hX h6)
      rw [if_neg s26]
      by_cases s27 : X.2 (be_i (i : Int)).toNatClampNeg &&& be_i 63 = be_i 27
      · rw [if_pos s27]; exact run 1073 (be_Lbook (X := X) (a := a) (b := b) (u := u) (e := e) (f := f) (d := d) hd hI hX h6)
      rw [if_neg s27]
      by_cases s28 : X.2 (be_i (i : Int)).toNatClampNeg &&& be_i 63 = be_i 28
      · rw [if_pos s28]; exact run 1106 (be_Llooked (X := X) (a := a) (b := b) (u := u) (e := e) (f := f) (d := d) hd hI hX h6)
      rw [if_neg s28]
      by_cases s29 : X.2 (be_i (i : Int)).toNatClampNeg &&& be_i 63 = be_i 29
      · rw [if_pos s29]; exact run 1119 (be_Ljudge (X := X) (a := a) (b := b) (u := u) (e := e) (f := f) (d := d) hd hI hX h6)
      rw [if_neg s29]
      by_cases s30 : X.2 (be_i (i : Int)).toNatClampNeg &&& be_i 63 = be_i 30
      · rw [if_pos s30]; exact run 1152 (be_Limage (X := X) (a := a) (b := b) (u := u) (e := e) (f := f) (d := d) hd hI hX h6)
      rw [if_neg s30]
      by_cases s31 : X.2 (be_i (i : Int)).toNatClampNeg &&& be_i 63 = be_i 31
      · rw [if_pos s31]; exact run 1165 (be_Lundo (X := X) (a := a) (b := b) (u := u) (e := e) (f := f) (d := d) hd hI hX h6)
      rw [if_neg s31]
      by_cases s32 : X.2 (be_i (i : Int)).toNatClampNeg &&& be_i 63 = be_i 32
      · rw [if_pos s32]; exact run 1178 (be_Lact (X := X) (a := a) (b := b) (u := u) (e := e) (f := f) (d := d) hd hI hX h6)
      rw [if_neg s32]
      by_cases s33 : X.2 (be_i (i : Int)).toNatClampNeg &&& be_i 63 = be_i 33
      · rw [if_pos s33]; exact run 1221 (be_Ltrace (X := X) (a := a) (b := b) (u := u) (e := e) (f := f) (d := d) hd hI hX h6)
      rw [if_neg s33]
      by_cases s34 : X.2 (be_i (i : Int)).toNatClampNeg &&& be_i 63 = be_i 34
      · rw [if_pos s34]; exact run 1244 (be_Ltaken (X := X) (a := a) (b := b) (u := u) (e := e) (f := f) (d := d) hd hI hX h6)
      rw [if_neg s34]
      by_cases s35 : X.2 (be_i (i : Int)).toNatClampNeg &&& be_i 63 = be_i 35
      · rw [if_pos s35]; exact run 1277 (be_Lcount (X := X) (a := a) (b := b) (u := u) (e := e) (f := f) (d := d) hd hI hX h6)
      rw [if_neg s35]
      by_cases s36 : X.2 (be_i (i : Int)).toNatClampNeg &&& be_i 63 = be_i 36
      · rw [if_pos s36]; exact run 1300 (be_Ltape (X := X) (a := a) (b := b) (u := u) (e := e) (f := f) (d := d) hd hI hX h6)
      rw [if_neg s36]
      by_cases s37 : X.2 (be_i (i : Int)).toNatClampNeg &&& be_i 63 = be_i 37
      · rw [if_pos s37]; exact run 1343 (be_Litem (X := X) (a := a) (b := b) (u := u) (e := e) (f := f) (d := d) hd hI hX h6)
      rw [if_neg s37]
      by_cases s38 : X.2 (be_i (i : Int)).toNatClampNeg &&& be_i 63 = be_i 38
      · rw [if_pos s38]; exact run 1416 (be_Lread (X := X) (a := a) (b := b) (u := u) (e := e) (f := f) (d := d) hd hI hX h6)
      rw [if_neg s38]
      by_cases s39 : X.2 (be_i (i : Int)).toNatClampNeg &&& be_i 63 = be_i 39
      · rw [if_pos s39]; exact run 1450 (be_Lshift (X := X) (a := a) (b := b) (u := u) (e := e) (f := f) (d := d) hd hI hX h6)
      rw [if_neg s39]
      exact go a b u e f hI
