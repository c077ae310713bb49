/-! THE CONSTRUCTORS, counted out -/
def bz_s0 : am_S := ((fun _ _ _ => 0, fun _ _ _ => 0, fun _ _ _ => none), (fun _ _ _ => 0, fun _ _ _ => 0, fun _ _ _ => none), fun _ => 0, 0, 0)
def bz_ry (r : am_R) : Bool := match r with | some (none, _) => true | _ => false
def bz_rs (r : am_R) : am_S := match r with | some (_, τ) => τ | none => bz_s0
def bz_r1 (X : am_X) : am_R := am_cal X 2000 200 203 [.inr (9, 0)] (am_new bz_s0 9 10)
def bz_r2 (X : am_X) : am_R := am_cal X 2000 200 0 [.inr (50, 0)] (am_new (bz_rs (bz_r1 X)) 50 83)
def bz_u : Nat → Nat := fun _ => 0
def bz_qe (a b : Option (Nat × Nat)) : Bool := match a, b with
  | none, none => true
  | some x, some y => Nat.beq x.1 y.1 && Nat.beq x.2 y.2
  | _, _ => false
def bz_cR (X : am_X) (τ : am_S) : Bool := (List.range 106).all fun c => (List.range (am_cnt c)).all fun i => (List.range (am_bd X c i)).all fun j => bz_qe (am_go τ c i j) (am_go (am_sd (fun _ _ _ => 0) (fun _ _ _ => 0) bz_u (fun _ _ _ => 0) (fun _ _ _ => 0)) c i j)
def bz_cC (τ : am_S) : Bool := Nat.beq τ.2.2.2.1 257 && (Nat.beq τ.2.2.2.2 4340 && (List.range 200).all fun c => Nat.beq (τ.2.2.1 c) (am_cnt c))
/-- places and what stands there: of the class, of the reference -/
def bz_Le : List (Nat × Nat × Int) := [(50, 0, 0), (50, 1, 0), (50, 2, 0), (50, 3, 0), (50, 12, 0), (50, 13, -1), (50, 14, 0), (50, 29, -1), (50, 40, 0), (50, 45, 0), (50, 46, 0), (50, 52, 0), (50, 77, 0)]
def bz_Ne : List (Nat × Nat) := [(51, 4), (52, 6), (53, 6), (54, 6), (55, 6), (56, 6), (57, 6), (58, 24), (61, 60), (62, 60), (79, 6), (100, 6), (103, 6)]
def bz_La : List (Nat × Nat × Nat × Int) := [(2, 0, 2, 0), (2, 0, 3, 0), (2, 0, 4, 0), (2, 0, 6, 2), (3, 0, 0, 2), (3, 0, 1, 40), (3, 0, 2, 0), (6, 0, 1, 0), (6, 1, 1, 0), (6, 2, 1, 0), (9, 0, 5, 0), (9, 0, 2, 0), (4, 0, 1, 0), (0, 0, 1, 0)]
def bz_cE (τ : am_S) : Bool := bz_Le.all (fun q => decide ((τ.2.1.1 q.1 0 q.2.1).toInt = q.2.2)) && (bz_Ne.all (fun q => (List.range q.2).all fun j => decide ((τ.2.1.1 q.1 0 j).toInt = 0)) && ((List.range 15).all (fun j => decide ((τ.2.1.1 67 0 j).toInt = be_lets.getD j 0)) && (List.range 6).all (fun j => decide ((τ.2.1.1 102 0 j).toInt = -1))))
def bz_cA (τ : am_S) : Bool := bz_La.all (fun q => decide ((τ.1.1 q.1 q.2.1 q.2.2.1).toInt = q.2.2.2)) && ((List.range 3).all (fun i => (List.range 6).all (fun h => decide ((τ.1.1 1 (h + 6 * i) 0).toInt = (h : Int))) && (List.range 5).all (fun r => decide ((τ.1.1 5 (r + 5 * i) 0).toInt = (r : Int)))) &&
  ((List.range 6).all (fun t => decide ((τ.1.1 22 0 t).toInt = -1) && decide ((τ.1.1 23 0 t).toInt = 0)) && (List.range 5).all (fun r => decide ((τ.1.2.1 28 0 r).toInt = 0))))
def bz_chk (X : am_X) : Bool := (bz_ry (bz_r1 X) && Nat.beq ((bz_rs (bz_r1 X)).2.2.1 50) 0) && match bz_r2 X with
  | some (none, τ) => bz_cC τ && (bz_cR X τ && (bz_cE τ && bz_cA τ))
  | _ => false
/-- a script for which it would be otherwise -/
noncomputable def bz_Xe : am_X := Classical.epsilon (fun X : am_X => ¬ bz_chk X = true)
theorem bz_oke : bz_chk bz_Xe = true := by decide +kernel
theorem bz_ok (X : am_X) : bz_chk X = true := by
  refine Classical.byContradiction fun h => ?_
  have := Classical.epsilon_spec (p := fun X : am_X => ¬ bz_chk X = true) ⟨X, h⟩
  exact this bz_oke
