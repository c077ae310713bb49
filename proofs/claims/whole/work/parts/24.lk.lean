/-! LINKS, METHODS, CLASSES, by their places in the tables (by program) -/
theorem am_in1 {w : Cond} (hw : w ∈ tables_1_1) : w ∈ lw_tbl := List.mem_append_right _ (show w ∈ tables_1 from List.mem_append_left _ hw)
theorem am_in2 {w : Cond} (hw : w ∈ tables_1_2) : w ∈ lw_tbl := List.mem_append_right _ (show w ∈ tables_1 from List.mem_append_right _ (List.mem_append_left _ hw))
theorem am_in3 {w : Cond} (hw : w ∈ tables_1_3) : w ∈ lw_tbl := List.mem_append_right _ (show w ∈ tables_1 from List.mem_append_right _ (List.mem_append_right _ (List.mem_append_left _ hw)))
theorem am_in4 {w : Cond} (hw : w ∈ tables_1_4) : w ∈ lw_tbl := List.mem_append_right _ (show w ∈ tables_1 from List.mem_append_right _ (List.mem_append_right _ (List.mem_append_right _ (List.mem_append_left _ hw))))
theorem am_in5 {w : Cond} (hw : w ∈ tables_1_5) : w ∈ lw_tbl := List.mem_append_right _ (show w ∈ tables_1 from List.mem_append_right _ (List.mem_append_right _ (List.mem_append_right _ (List.mem_append_right _ (List.mem_append_left _ hw)))))
theorem am_in6 {w : Cond} (hw : w ∈ tables_1_6) : w ∈ lw_tbl := List.mem_append_right _ (show w ∈ tables_1 from List.mem_append_right _ (List.mem_append_right _ (List.mem_append_right _ (List.mem_append_right _ (List.mem_append_right _ (List.mem_append_left _ hw))))))
theorem am_in7 {w : Cond} (hw : w ∈ tables_1_7) : w ∈ lw_tbl := List.mem_append_right _ (show w ∈ tables_1 from List.mem_append_right _ (List.mem_append_right _ (List.mem_append_right _ (List.mem_append_right _ (List.mem_append_right _ (List.mem_append_right _ (List.mem_append_left _ hw)))))))
theorem am_in8 {w : Cond} (hw : w ∈ tables_1_8) : w ∈ lw_tbl := List.mem_append_right _ (show w ∈ tables_1 from List.mem_append_right _ (List.mem_append_right _ (List.mem_append_right _ (List.mem_append_right _ (List.mem_append_right _ (List.mem_append_right _ (List.mem_append_right _ (hw))))))))
def am_fll : List (Nat × Nat × Nat × Nat) := [(9, 13, 9, 4), (9, 20, 9, 7), (9, 27, 9, 8), (9, 34, 9, 9), (9, 44, 9, 0), (9, 48, 9, 1), (9, 51, 9, 3), (9, 57, 9, 6), (9, 65, 2, 2), (9, 73, 2, 3), (9, 76, 2, 1), (9, 90, 1, 1), (9, 93, 1, 2), (9, 96, 1, 3), (9, 99, 1, 4), (9, 102, 1, 5), (9, 105, 1, 6), (9, 108, 2, 4), (9, 133, 2, 5), (9, 137, 2, 0), (9, 155, 5, 1), (9, 158, 5, 2), (9, 169, 1, 7), (9, 190, 9, 5), (9, 200, 2, 6), (9, 203, 3, 1), (9, 220, 8, 10), (9, 223, 8, 8), (9, 253, 2, 7), (9, 276, 2, 8), (9, 288, 2, 9), (9, 291, 6, 1), (9, 294, 6, 0), (9, 310, 7, 2), (9, 313, 7, 0), (9, 317, 9, 2), (9, 320, 0, 1), (9, 327, 0, 0), (9, 337, 4, 1), (9, 353, 7, 1), (0, 9, 0, 0), (0, 29, 1, 0), (0, 35, 1, 1), (0, 42, 1, 2), (0, 45, 0, 1), (1, 9, 1, 6), (1, 15, 1, 7), (1, 19, 1, 0), (1, 22, 1, 1), (1, 25, 1, 2), (1, 28, 1, 3), (1, 31, 1, 4), (1, 34, 1, 5), (2, 11, 2, 0), (2, 19, 2, 1), (2, 28, 2, 7), (2, 32, 2, 8), (2, 35, 2, 9), (2, 38, 2, 5), (2, 42, 3, 0), (2, 48, 2, 6), (2, 51, 2, 2), (2, 54, 2, 3), (2, 57, 2, 4), (2, 70, 5, 1), (2, 73, 5, 2), (2, 83, 3, 1), (2, 89, 1, 3), (2, 92, 1, 4), (2, 105, 1, 0), (2, 108, 1, 6), (2, 157, 6, 1), (2, 160, 6, 0), (3, 9, 3, 0), (3, 15, 3, 1), (3, 18, 3, 3), (3, 22, 3, 4), (3, 25, 3, 5), (3, 28, 3, 2), (3, 31, 3, 6), (3, 60, 1, 0), (3, 64, 5, 0), (3, 67, 1, 1), (3, 70, 1, 2), (3, 73, 1, 5), (3, 76, 5, 1), (4, 9, 4, 0), (4, 15, 4, 4), (4, 19, 4, 1), (4, 28, 4, 2), (4, 31, 4, 3), (4, 53, 3, 0), (4, 65, 3, 1), (5, 9, 5, 0), (5, 15, 1, 1), (5, 20, 5, 1), (5, 23, 1, 5), (5, 26, 5, 2), (6, 11, 6, 0), (6, 16, 6, 1), (7, 11, 7, 0), (7, 14, 7, 1), (7, 18, 7, 2), (8, 9, 8, 3), (8, 15, 8, 4), (8, 21, 8, 5), (8, 24, 8, 6), (8, 27, 8, 7), (8, 30, 8, 8), (8, 33, 2, 3), (8, 39, 8, 0), (8, 42, 2, 2), (8, 45, 8, 1), (8, 48, 8, 2), (8, 52, 8, 9), (8, 55, 8, 10), (8, 58, 2, 1), (8, 69, 1, 0), (8, 77, 2, 5), (8, 81, 2, 0), (10, 7, 50, 0), (10, 13, 50, 1), (10, 16, 50, 2), (10, 19, 50, 3), (10, 22, 50, 4), (10, 26, 50, 5), (10, 29, 50, 6), (10, 32, 50, 7), (10, 35, 50, 8), (10, 38, 50, 9), (10, 41, 50, 10), (10, 44, 50, 11), (10, 47, 50, 12), (10, 50, 50, 13), (10, 53, 50, 14), (10, 56, 50, 15), (10, 59, 50, 16), (10, 62, 50, 17), (10, 65, 50, 18), (10, 68, 50, 19), (10, 71, 50, 20), (10, 74, 50, 21), (10, 77, 50, 22), (10, 80, 50, 23), (10, 83, 50, 24), (10, 86, 50, 25), (10, 89, 50, 26), (10, 92, 50, 27), (10, 95, 50, 28), (10, 98, 50, 29), (10, 101, 50, 30), (10, 105, 50, 31), (10, 108, 50, 32), (10, 111, 50, 33), (10, 114, 50, 34), (10, 117, 50, 35), (10, 120, 50, 36), (10, 123, 50, 37), (10, 126, 50, 38), (10, 129, 50, 39), (10, 132, 50, 40), (10, 135, 50, 41), (10, 138, 50, 42), (10, 141, 50, 43), (10, 144, 50, 44), (10, 147, 50, 45), (10, 150, 50, 46), (10, 153, 50, 47), (10, 156, 50, 48), (10, 159, 50, 49), (10, 162, 50, 50), (10, 165, 50, 51), (10, 168, 50, 52), (10, 172, 50, 53), (10, 175, 50, 54), (10, 178, 50, 55), (10, 181, 50, 56), (10, 184, 50, 57), (10, 187, 50, 58), (10, 190, 50, 59), (10, 193, 50, 60), (10, 196, 50, 61), (10, 199, 50, 62), (10, 202, 50, 63), (10, 205, 50, 64), (10, 208, 50, 65), (10, 211, 50, 66), (10, 214, 50, 67), (10, 217, 50, 68), (10, 220, 50, 69), (10, 223, 50, 70), (10, 226, 50, 71), (10, 229, 50, 72), (10, 232, 50, 73), (10, 235, 50, 74), (10, 238, 50, 75), (10, 241, 50, 76), (10, 244, 50, 77), (10, 247, 50, 78), (10, 250, 50, 79), (10, 253, 50, 80), (10, 256, 50, 81), (10, 260, 50, 82)]
def am_flP (x : Nat × Nat × Nat × Nat) : Prop := Cond.fieldLink (am_on x.1) x.2.1 (am_k x.2.2.1).1 ((am_k x.2.2.1).2.1 x.2.2.2).2.1 ((am_k x.2.2.1).2.1 x.2.2.2).2.2.1 ∈ am_tbl
set_option maxRecDepth 100000 in
theorem am_flOk : ∀ x ∈ am_fll, am_flP x := by
  unfold am_fll
  refine List.forall_mem_cons.mpr ⟨am_tb (am_in2 (List.mem_of_getElem? (i := 79) rfl)) rfl, ?_⟩
  refine List.forall_mem_cons.mpr ⟨am_tb (am_in2 (List.mem_of_getElem? (i := 82) rfl)) rfl, ?_⟩
  refine List.forall_mem_cons.mpr ⟨am_tb (am_in2 (List.mem_of_getElem? (i := 83) rfl)) rfl, ?_⟩
  refine List.forall_mem_cons.mpr ⟨am_tb (am_in2 (List.mem_of_getElem? (i := 84) rfl)) rfl, ?_⟩
  refine List.forall_mem_cons.mpr ⟨am_tb (am_in2 (List.mem_of_getElem? (i := 75) rfl)) rfl, ?_⟩
  refine List.forall_mem_cons.mpr ⟨am_tb (am_in2 (List.mem_of_getElem? (i := 76) rfl)) rfl, ?_⟩
  refine List.forall_mem_cons.mpr ⟨am_tb (am_in2 (List.mem_of_getElem? (i := 78) rfl)) rfl, ?_⟩
  refine List.forall_mem_cons.mpr ⟨am_tb (am_in2 (List.mem_of_getElem? (i := 81) rfl)) rfl, ?_⟩
  refine List.forall_mem_cons.mpr ⟨am_tb (am_in2 (List.mem_of_getElem? (i := 13) rfl)) rfl, ?_⟩
  refine List.forall_mem_cons.mpr ⟨am_tb (am_in2 (List.mem_of_getElem? (i := 16) rfl)) rfl, ?_⟩
  refine List.forall_mem_cons.mpr ⟨am_tb (am_in2 (List.mem_of_getElem? (i := 10) rfl)) rfl, ?_⟩
  refine List.forall_mem_cons.mpr ⟨am_tb (am_in1 (List.mem_of_getElem? (i := 207) rfl)) rfl, ?_⟩
  refine List.forall_mem_cons.mpr ⟨am_tb (am_in1 (List.mem_of_getElem? (i := 211) rfl)) rfl, ?_⟩
  refine List.forall_mem_cons.mpr ⟨am_tb (am_in1 (List.mem_of_getElem? (i := 214) rfl)) rfl, ?_⟩
  refine List.forall_mem_cons.mpr ⟨am_tb (am_in1 (List.mem_of_getElem? (i := 217) rfl)) rfl, ?_⟩
  refine List.forall_mem_cons.mpr ⟨am_tb (am_in1 (List.mem_of_getElem? (i := 221) rfl)) rfl, ?_⟩
  refine List.forall_mem_cons.mpr ⟨am_tb (am_in1 (List.mem_of_getElem? (i := 224) rfl)) rfl, ?_⟩
  refine List.forall_mem_cons.mpr ⟨am_tb (am_in2 (List.mem_of_getElem? (i := 18) rfl)) rfl, ?_⟩
  refine List.forall_mem_cons.mpr ⟨am_tb (am_in2 (List.mem_of_getElem? (i := 21) rfl)) rfl, ?_⟩
  refine List.forall_mem_cons.mpr ⟨am_tb (am_in2 (List.mem_of_getElem? (i := 7) rfl)) rfl, ?_⟩
  refine List.forall_mem_cons.mpr ⟨am_tb (am_in1 (List.mem_of_getElem? (i := 182) rfl)) rfl, ?_⟩
  refine List.forall_mem_cons.mpr ⟨am_tb (am_in1 (List.mem_of_getElem? (i := 186) rfl)) rfl, ?_⟩
  refine List.forall_mem_cons.mpr ⟨am_tb (am_in1 (List.mem_of_getElem? (i := 227) rfl)) rfl, ?_⟩
  refine List.forall_mem_cons.mpr ⟨am_tb (am_in2 (List.mem_of_getElem? (i := 80) rfl)) rfl, ?_⟩
  refine List.forall_mem_cons.mpr ⟨am_tb (am_in2 (List.mem_of_getElem? (i := 23) rfl)) rfl, ?_⟩
  refine List.forall_mem_cons.mpr ⟨am_tb (am_in1 (List.mem_of_getElem? (i := 124) rfl)) rfl, ?_⟩
  refine List.forall_mem_cons.mpr ⟨am_tb (am_in1 (List.mem_of_getElem? (i := 51) rfl)) rfl, ?_⟩
  refine List.forall_mem_cons.mpr ⟨am_tb (am_in1 (List.mem_of_getElem? (i := 48) rfl)) rfl, ?_⟩
  refine List.forall_mem_cons.mpr ⟨am_tb (am_in2 (List.mem_of_getElem? (i := 25) rfl)) rfl, ?_⟩
  refine List.forall_mem_cons.mpr ⟨am_tb (am_in2 (List.mem_of_getElem? (i := 27) rfl)) rfl, ?_⟩
  refine List.forall_mem_cons.mpr ⟨am_tb (am_in2 (List.mem_of_getElem? (i := 29) rfl)) rfl, ?_⟩
  refine List.forall_mem_cons.mpr ⟨am_tb (am_in1 (List.mem_of_getElem? (i := 167) rfl)) rfl, ?_⟩
  refine List.forall_mem_cons.mpr ⟨am_tb (am_in1 (List.mem_of_getElem? (i := 164) rfl)) rfl, ?_⟩
  refine List.forall_mem_cons.mpr ⟨am_tb (am_in1 (List.mem_of_getElem? (i := 105) rfl)) rfl, ?_⟩
  refine List.forall_mem_cons.mpr ⟨am_tb (am_in1 (List.mem_of_getElem? (i := 101) rfl)) rfl, ?_⟩
  refine List.forall_mem_cons.mpr ⟨am_tb (am_in2 (List.mem_of_getElem? (i := 77) rfl)) rfl, ?_⟩
  refine List.forall_mem_cons.mpr ⟨am_tb (am_in1 (List.mem_of_getElem? (i := 86) rfl)) rfl, ?_⟩
  refine List.forall_mem_cons.mpr ⟨am_tb (am_in1 (List.mem_of_getElem? (i := 84) rfl)) rfl, ?_⟩
  refine List.forall_mem_cons.mpr ⟨am_tb (am_in2 (List.mem_of_getElem? (i := 59) rfl)) rfl, ?_⟩
  refine List.forall_mem_cons.mpr ⟨am_tb (am_in1 (List.mem_of_getElem? (i := 103) rfl)) rfl, ?_⟩
  refine List.forall_mem_cons.mpr ⟨am_tb (am_in1 (List.mem_of_getElem? (i := 83) rfl)) rfl, ?_⟩
  refine List.forall_mem_cons.mpr ⟨am_tb (am_in1 (List.mem_of_getElem? (i := 200) rfl)) rfl, ?_⟩
  refine List.forall_mem_cons.mpr ⟨am_tb (am_in1 (List.mem_of_getElem? (i := 206) rfl)) rfl, ?_⟩
  refine List.forall_mem_cons.mpr ⟨am_tb (am_in1 (List.mem_of_getElem? (i := 210) rfl)) rfl, ?_⟩
  refine List.forall_mem_cons.mpr ⟨am_tb (am_in1 (List.mem_of_getElem? (i := 85) rfl)) rfl, ?_⟩
  refine List.forall_mem_cons.mpr ⟨am_tb (am_in1 (List.mem_of_getElem? (i := 223) rfl)) rfl, ?_⟩
  refine List.forall_mem_cons.mpr ⟨am_tb (am_in1 (List.mem_of_getElem? (i := 226) rfl)) rfl, ?_⟩
  refine List.forall_mem_cons.mpr ⟨am_tb (am_in1 (List.mem_of_getElem? (i := 199) rfl)) rfl, ?_⟩
  refine List.forall_mem_cons.mpr ⟨am_tb (am_in1 (List.mem_of_getElem? (i := 205) rfl)) rfl, ?_⟩
  refine List.forall_mem_cons.mpr ⟨am_tb (am_in1 (List.mem_of_getElem? (i := 209) rfl)) rfl, ?_⟩
  refine List.forall_mem_cons.mpr ⟨am_tb (am_in1 (List.mem_of_getElem? (i := 213) rfl)) rfl, ?_⟩
  refine List.forall_mem_cons.mpr ⟨am_tb (am_in1 (List.mem_of_getElem? (i := 216) rfl)) rfl, ?_⟩
  refine List.forall_mem_cons.mpr ⟨am_tb (am_in1 (List.mem_of_getElem? (i := 219) rfl)) rfl, ?_⟩
  refine List.forall_mem_cons.mpr ⟨am_tb (am_in2 (List.mem_of_getElem? (i := 5) rfl)) rfl, ?_⟩
  refine List.forall_mem_cons.mpr ⟨am_tb (am_in2 (List.mem_of_getElem? (i := 8) rfl)) rfl, ?_⟩
  refine List.forall_mem_cons.mpr ⟨am_tb (am_in2 (List.mem_of_getElem? (i := 24) rfl)) rfl, ?_⟩
  refine List.forall_mem_cons.mpr ⟨am_tb (am_in2 (List.mem_of_getElem? (i := 26) rfl)) rfl, ?_⟩
  refine List.forall_mem_cons.mpr ⟨am_tb (am_in2 (List.mem_of_getElem? (i := 28) rfl)) rfl, ?_⟩
  refine List.forall_mem_cons.mpr ⟨am_tb (am_in2 (List.mem_of_getElem? (i := 19) rfl)) rfl, ?_⟩
  refine List.forall_mem_cons.mpr ⟨am_tb (am_in1 (List.mem_of_getElem? (i := 119) rfl)) rfl, ?_⟩
  refine List.forall_mem_cons.mpr ⟨am_tb (am_in2 (List.mem_of_getElem? (i := 22) rfl)) rfl, ?_⟩
  refine List.forall_mem_cons.mpr ⟨am_tb (am_in2 (List.mem_of_getElem? (i := 11) rfl)) rfl, ?_⟩
  refine List.forall_mem_cons.mpr ⟨am_tb (am_in2 (List.mem_of_getElem? (i := 15) rfl)) rfl, ?_⟩
  refine List.forall_mem_cons.mpr ⟨am_tb (am_in2 (List.mem_of_getElem? (i := 17) rfl)) rfl, ?_⟩
  refine List.forall_mem_cons.mpr ⟨am_tb (am_in1 (List.mem_of_getElem? (i := 181) rfl)) rfl, ?_⟩
  refine List.forall_mem_cons.mpr ⟨am_tb (am_in1 (List.mem_of_getElem? (i := 185) rfl)) rfl, ?_⟩
  refine List.forall_mem_cons.mpr ⟨am_tb (am_in1 (List.mem_of_getElem? (i := 122) rfl)) rfl, ?_⟩
  refine List.forall_mem_cons.mpr ⟨am_tb (am_in1 (List.mem_of_getElem? (i := 215) rfl)) rfl, ?_⟩
  refine List.forall_mem_cons.mpr ⟨am_tb (am_in1 (List.mem_of_getElem? (i := 218) rfl)) rfl, ?_⟩
  refine List.forall_mem_cons.mpr ⟨am_tb (am_in1 (List.mem_of_getElem? (i := 203) rfl)) rfl, ?_⟩
  refine List.forall_mem_cons.mpr ⟨am_tb (am_in1 (List.mem_of_getElem? (i := 225) rfl)) rfl, ?_⟩
  refine List.forall_mem_cons.mpr ⟨am_tb (am_in1 (List.mem_of_getElem? (i := 166) rfl)) rfl, ?_⟩
  refine List.forall_mem_cons.mpr ⟨am_tb (am_in1 (List.mem_of_getElem? (i := 163) rfl)) rfl, ?_⟩
  refine List.forall_mem_cons.mpr ⟨am_tb (am_in1 (List.mem_of_getElem? (i := 118) rfl)) rfl, ?_⟩
  refine List.forall_mem_cons.mpr ⟨am_tb (am_in1 (List.mem_of_getElem? (i := 121) rfl)) rfl, ?_⟩
  refine List.forall_mem_cons.mpr ⟨am_tb (am_in1 (List.mem_of_getElem? (i := 126) rfl)) rfl, ?_⟩
  refine List.forall_mem_cons.mpr ⟨am_tb (am_in1 (List.mem_of_getElem? (i := 127) rfl)) rfl, ?_⟩
  refine List.forall_mem_cons.mpr ⟨am_tb (am_in1 (List.mem_of_getElem? (i := 128) rfl)) rfl, ?_⟩
  refine List.forall_mem_cons.mpr ⟨am_tb (am_in1 (List.mem_of_getElem? (i := 125) rfl)) rfl, ?_⟩
  refine List.forall_mem_cons.mpr ⟨am_tb (am_in1 (List.mem_of_getElem? (i := 129) rfl)) rfl, ?_⟩
  refine List.forall_mem_cons.mpr ⟨am_tb (am_in1 (List.mem_of_getElem? (i := 202) rfl)) rfl, ?_⟩
  refine List.forall_mem_cons.mpr ⟨am_tb (am_in1 (List.mem_of_getElem? (i := 179) rfl)) rfl, ?_⟩
  refine List.forall_mem_cons.mpr ⟨am_tb (am_in1 (List.mem_of_getElem? (i := 208) rfl)) rfl, ?_⟩
  refine List.forall_mem_cons.mpr ⟨am_tb (am_in1 (List.mem_of_getElem? (i := 212) rfl)) rfl, ?_⟩
  refine List.forall_mem_cons.mpr ⟨am_tb (am_in1 (List.mem_of_getElem? (i := 222) rfl)) rfl, ?_⟩
  refine List.forall_mem_cons.mpr ⟨am_tb (am_in1 (List.mem_of_getElem? (i := 183) rfl)) rfl, ?_⟩
  refine List.forall_mem_cons.mpr ⟨am_tb (am_in2 (List.mem_of_getElem? (i := 57) rfl)) rfl, ?_⟩
  refine List.forall_mem_cons.mpr ⟨am_tb (am_in2 (List.mem_of_getElem? (i := 62) rfl)) rfl, ?_⟩
  refine List.forall_mem_cons.mpr ⟨am_tb (am_in2 (List.mem_of_getElem? (i := 58) rfl)) rfl, ?_⟩
  refine List.forall_mem_cons.mpr ⟨am_tb (am_in2 (List.mem_of_getElem? (i := 60) rfl)) rfl, ?_⟩
  refine List.forall_mem_cons.mpr ⟨am_tb (am_in2 (List.mem_of_getElem? (i := 61) rfl)) rfl, ?_⟩
  refine List.forall_mem_cons.mpr ⟨am_tb (am_in1 (List.mem_of_getElem? (i := 120) rfl)) rfl, ?_⟩
  refine List.forall_mem_cons.mpr ⟨am_tb (am_in1 (List.mem_of_getElem? (i := 123) rfl)) rfl, ?_⟩
  refine List.forall_mem_cons.mpr ⟨am_tb (am_in1 (List.mem_of_getElem? (i := 178) rfl)) rfl, ?_⟩
  refine List.forall_mem_cons.mpr ⟨am_tb (am_in1 (List.mem_of_getElem? (i := 204) rfl)) rfl, ?_⟩
  refine List.forall_mem_cons.mpr ⟨am_tb (am_in1 (List.mem_of_getElem? (i := 180) rfl)) rfl, ?_⟩
  refine List.forall_mem_cons.mpr ⟨am_tb (am_in1 (List.mem_of_getElem? (i := 220) rfl)) rfl, ?_⟩
  refine List.forall_mem_cons.mpr ⟨am_tb (am_in1 (List.mem_of_getElem? (i := 184) rfl)) rfl, ?_⟩
  refine List.forall_mem_cons.mpr ⟨am_tb (am_in1 (List.mem_of_getElem? (i := 162) rfl)) rfl, ?_⟩
  refine List.forall_mem_cons.mpr ⟨am_tb (am_in1 (List.mem_of_getElem? (i := 165) rfl)) rfl, ?_⟩
  refine List.forall_mem_cons.mpr ⟨am_tb (am_in1 (List.mem_of_getElem? (i := 100) rfl)) rfl, ?_⟩
  refine List.forall_mem_cons.mpr ⟨am_tb (am_in1 (List.mem_of_getElem? (i := 102) rfl)) rfl, ?_⟩
  refine List.forall_mem_cons.mpr ⟨am_tb (am_in1 (List.mem_of_getElem? (i := 104) rfl)) rfl, ?_⟩
  refine List.forall_mem_cons.mpr ⟨am_tb (am_in1 (List.mem_of_getElem? (i := 42) rfl)) rfl, ?_⟩
  refine List.forall_mem_cons.mpr ⟨am_tb (am_in1 (List.mem_of_getElem? (i := 43) rfl)) rfl, ?_⟩
  refine List.forall_mem_cons.mpr ⟨am_tb (am_in1 (List.mem_of_getElem? (i := 44) rfl)) rfl, ?_⟩
  refine List.forall_mem_cons.mpr ⟨am_tb (am_in1 (List.mem_of_getElem? (i := 45) rfl)) rfl, ?_⟩
  refine List.forall_mem_cons.mpr ⟨am_tb (am_in1 (List.mem_of_getElem? (i := 46) rfl)) rfl, ?_⟩
  refine List.forall_mem_cons.mpr ⟨am_tb (am_in1 (List.mem_of_getElem? (i := 47) rfl)) rfl, ?_⟩
  refine List.forall_mem_cons.mpr ⟨am_tb (am_in2 (List.mem_of_getElem? (i := 14) rfl)) rfl, ?_⟩
  refine List.forall_mem_cons.mpr ⟨am_tb (am_in1 (List.mem_of_getElem? (i := 39) rfl)) rfl, ?_⟩
  refine List.forall_mem_cons.mpr ⟨am_tb (am_in2 (List.mem_of_getElem? (i := 12) rfl)) rfl, ?_⟩
  refine List.forall_mem_cons.mpr ⟨am_tb (am_in1 (List.mem_of_getElem? (i := 40) rfl)) rfl, ?_⟩
  refine List.forall_mem_cons.mpr ⟨am_tb (am_in1 (List.mem_of_getElem? (i := 41) rfl)) rfl, ?_⟩
  refine List.forall_mem_cons.mpr ⟨am_tb (am_in1 (List.mem_of_getElem? (i := 49) rfl)) rfl, ?_⟩
  refine List.forall_mem_cons.mpr ⟨am_tb (am_in1 (List.mem_of_getElem? (i := 50) rfl)) rfl, ?_⟩
  refine List.forall_mem_cons.mpr ⟨am_tb (am_in2 (List.mem_of_getElem? (i := 9) rfl)) rfl, ?_⟩
  refine List.forall_mem_cons.mpr ⟨am_tb (am_in1 (List.mem_of_getElem? (i := 201) rfl)) rfl, ?_⟩
  refine List.forall_mem_cons.mpr ⟨am_tb (am_in2 (List.mem_of_getElem? (i := 20) rfl)) rfl, ?_⟩
  refine List.forall_mem_cons.mpr ⟨am_tb (am_in2 (List.mem_of_getElem? (i := 6) rfl)) rfl, ?_⟩
  refine List.forall_mem_cons.mpr ⟨am_tb (am_in5 (List.mem_of_getElem? (i := 30) rfl)) rfl, ?_⟩
  refine List.forall_mem_cons.mpr ⟨am_tb (am_in5 (List.mem_of_getElem? (i := 31) rfl)) rfl, ?_⟩
  refine List.forall_mem_cons.mpr ⟨am_tb (am_in5 (List.mem_of_getElem? (i := 32) rfl)) rfl, ?_⟩
  refine List.forall_mem_cons.mpr ⟨am_tb (am_in5 (List.mem_of_getElem? (i := 33) rfl)) rfl, ?_⟩
  refine List.forall_mem_cons.mpr ⟨am_tb (am_in5 (List.mem_of_getElem? (i := 34) rfl)) rfl, ?_⟩
  refine List.forall_mem_cons.mpr ⟨am_tb (am_in5 (List.mem_of_getElem? (i := 35) rfl)) rfl, ?_⟩
  refine List.forall_mem_cons.mpr ⟨am_tb (am_in5 (List.mem_of_getElem? (i := 36) rfl)) rfl, ?_⟩
  refine List.forall_mem_cons.mpr ⟨am_tb (am_in5 (List.mem_of_getElem? (i := 37) rfl)) rfl, ?_⟩
  refine List.forall_mem_cons.mpr ⟨am_tb (am_in5 (List.mem_of_getElem? (i := 38) rfl)) rfl, ?_⟩
  refine List.forall_mem_cons.mpr ⟨am_tb (am_in5 (List.mem_of_getElem? (i := 39) rfl)) rfl, ?_⟩
  refine List.forall_mem_cons.mpr ⟨am_tb (am_in5 (List.mem_of_getElem? (i := 40) rfl)) rfl, ?_⟩
  refine List.forall_mem_cons.mpr ⟨am_tb (am_in5 (List.mem_of_getElem? (i := 41) rfl)) rfl, ?_⟩
  refine List.forall_mem_cons.mpr ⟨am_tb (am_in5 (List.mem_of_getElem? (i := 42) rfl)) rfl, ?_⟩
  refine List.forall_mem_cons.mpr ⟨am_tb (am_in5 (List.mem_of_getElem? (i := 43) rfl)) rfl, ?_⟩
  refine List.forall_mem_cons.mpr ⟨am_tb (am_in5 (List.mem_of_getElem? (i := 44) rfl)) rfl, ?_⟩
  refine List.forall_mem_cons.mpr ⟨am_tb (am_in5 (List.mem_of_getElem? (i := 45) rfl)) rfl, ?_⟩
  refine List.forall_mem_cons.mpr ⟨am_tb (am_in5 (List.mem_of_getElem? (i := 46) rfl)) rfl, ?_⟩
  refine List.forall_mem_cons.mpr ⟨am_tb (am_in5 (List.mem_of_getElem? (i := 47) rfl)) rfl, ?_⟩
  refine List.forall_mem_cons.mpr ⟨am_tb (am_in5 (List.mem_of_getElem? (i := 48) rfl)) rfl, ?_⟩
  refine List.forall_mem_cons.mpr ⟨am_tb (am_in5 (List.mem_of_getElem? (i := 49) rfl)) rfl, ?_⟩
  refine List.forall_mem_cons.mpr ⟨am_tb (am_in5 (List.mem_of_getElem? (i := 50) rfl)) rfl, ?_⟩
  refine List.forall_mem_cons.mpr ⟨am_tb (am_in5 (List.mem_of_getElem? (i := 51) rfl)) rfl, ?_⟩
  refine List.forall_mem_cons.mpr ⟨am_tb (am_in5 (List.mem_of_getElem? (i := 52) rfl)) rfl, ?_⟩
  refine List.forall_mem_cons.mpr ⟨am_tb (am_in5 (List.mem_of_getElem? (i := 53) rfl)) rfl, ?_⟩
  refine List.forall_mem_cons.mpr ⟨am_tb (am_in5 (List.mem_of_getElem? (i := 54) rfl)) rfl, ?_⟩
  refine List.forall_mem_cons.mpr ⟨am_tb (am_in5 (List.mem_of_getElem? (i := 55) rfl)) rfl, ?_⟩
  refine List.forall_mem_cons.mpr ⟨am_tb (am_in5 (List.mem_of_getElem? (i := 56) rfl)) rfl, ?_⟩
  refine List.forall_mem_cons.mpr ⟨am_tb (am_in5 (List.mem_of_getElem? (i := 57) rfl)) rfl, ?_⟩
  refine List.forall_mem_cons.mpr ⟨am_tb (am_in5 (List.mem_of_getElem? (i := 58) rfl)) rfl, ?_⟩
  refine List.forall_mem_cons.mpr ⟨am_tb (am_in5 (List.mem_of_getElem? (i := 59) rfl)) rfl, ?_⟩
  refine List.forall_mem_cons.mpr ⟨am_tb (am_in5 (List.mem_of_getElem? (i := 60) rfl)) rfl, ?_⟩
  refine List.forall_mem_cons.mpr ⟨am_tb (am_in5 (List.mem_of_getElem? (i := 61) rfl)) rfl, ?_⟩
  refine List.forall_mem_cons.mpr ⟨am_tb (am_in5 (List.mem_of_getElem? (i := 62) rfl)) rfl, ?_⟩
  refine List.forall_mem_cons.mpr ⟨am_tb (am_in5 (List.mem_of_getElem? (i := 63) rfl)) rfl, ?_⟩
  refine List.forall_mem_cons.mpr ⟨am_tb (am_in5 (List.mem_of_getElem? (i := 64) rfl)) rfl, ?_⟩
  refine List.forall_mem_cons.mpr ⟨am_tb (am_in5 (List.mem_of_getElem? (i := 65) rfl)) rfl, ?_⟩
  refine List.forall_mem_cons.mpr ⟨am_tb (am_in5 (List.mem_of_getElem? (i := 66) rfl)) rfl, ?_⟩
  refine List.forall_mem_cons.mpr ⟨am_tb (am_in5 (List.mem_of_getElem? (i := 67) rfl)) rfl, ?_⟩
  refine List.forall_mem_cons.mpr ⟨am_tb (am_in5 (List.mem_of_getElem? (i := 68) rfl)) rfl, ?_⟩
  refine List.forall_mem_cons.mpr ⟨am_tb (am_in5 (List.mem_of_getElem? (i := 69) rfl)) rfl, ?_⟩
  refine List.forall_mem_cons.mpr ⟨am_tb (am_in5 (List.mem_of_getElem? (i := 70) rfl)) rfl, ?_⟩
  refine List.forall_mem_cons.mpr ⟨am_tb (am_in5 (List.mem_of_getElem? (i := 71) rfl)) rfl, ?_⟩
  refine List.forall_mem_cons.mpr ⟨am_tb (am_in5 (List.mem_of_getElem? (i := 72) rfl)) rfl, ?_⟩
  refine List.forall_mem_cons.mpr ⟨am_tb (am_in5 (List.mem_of_getElem? (i := 73) rfl)) rfl, ?_⟩
  refine List.forall_mem_cons.mpr ⟨am_tb (am_in5 (List.mem_of_getElem? (i := 74) rfl)) rfl, ?_⟩
  refine List.forall_mem_cons.mpr ⟨am_tb (am_in5 (List.mem_of_getElem? (i := 75) rfl)) rfl, ?_⟩
  refine List.forall_mem_cons.mpr ⟨am_tb (am_in5 (List.mem_of_getElem? (i := 76) rfl)) rfl, ?_⟩
  refine List.forall_mem_cons.mpr ⟨am_tb (am_in5 (List.mem_of_getElem? (i := 77) rfl)) rfl, ?_⟩
  refine List.forall_mem_cons.mpr ⟨am_tb (am_in5 (List.mem_of_getElem? (i := 78) rfl)) rfl, ?_⟩
  refine List.forall_mem_cons.mpr ⟨am_tb (am_in5 (List.mem_of_getElem? (i := 79) rfl)) rfl, ?_⟩
  refine List.forall_mem_cons.mpr ⟨am_tb (am_in5 (List.mem_of_getElem? (i := 80) rfl)) rfl, ?_⟩
  refine List.forall_mem_cons.mpr ⟨am_tb (am_in5 (List.mem_of_getElem? (i := 81) rfl)) rfl, ?_⟩
  refine List.forall_mem_cons.mpr ⟨am_tb (am_in5 (List.mem_of_getElem? (i := 82) rfl)) rfl, ?_⟩
  refine List.forall_mem_cons.mpr ⟨am_tb (am_in5 (List.mem_of_getElem? (i := 83) rfl)) rfl, ?_⟩
  refine List.forall_mem_cons.mpr ⟨am_tb (am_in5 (List.mem_of_getElem? (i := 84) rfl)) rfl, ?_⟩
  refine List.forall_mem_cons.mpr ⟨am_tb (am_in5 (List.mem_of_getElem? (i := 85) rfl)) rfl, ?_⟩
  refine List.forall_mem_cons.mpr ⟨am_tb (am_in5 (List.mem_of_getElem? (i := 86) rfl)) rfl, ?_⟩
  refine List.forall_mem_cons.mpr ⟨am_tb (am_in5 (List.mem_of_getElem? (i := 87) rfl)) rfl, ?_⟩
  refine List.forall_mem_cons.mpr ⟨am_tb (am_in5 (List.mem_of_getElem? (i := 88) rfl)) rfl, ?_⟩
  refine List.forall_mem_cons.mpr ⟨am_tb (am_in5 (List.mem_of_getElem? (i := 89) rfl)) rfl, ?_⟩
  refine List.forall_mem_cons.mpr ⟨am_tb (am_in5 (List.mem_of_getElem? (i := 90) rfl)) rfl, ?_⟩
  refine List.forall_mem_cons.mpr ⟨am_tb (am_in5 (List.mem_of_getElem? (i := 91) rfl)) rfl, ?_⟩
  refine List.forall_mem_cons.mpr ⟨am_tb (am_in5 (List.mem_of_getElem? (i := 92) rfl)) rfl, ?_⟩
  refine List.forall_mem_cons.mpr ⟨am_tb (am_in5 (List.mem_of_getElem? (i := 93) rfl)) rfl, ?_⟩
  refine List.forall_mem_cons.mpr ⟨am_tb (am_in5 (List.mem_of_getElem? (i := 94) rfl)) rfl, ?_⟩
  refine List.forall_mem_cons.mpr ⟨am_tb (am_in5 (List.mem_of_getElem? (i := 95) rfl)) rfl, ?_⟩
  refine List.forall_mem_cons.mpr ⟨am_tb (am_in5 (List.mem_of_getElem? (i := 96) rfl)) rfl, ?_⟩
  refine List.forall_mem_cons.mpr ⟨am_tb (am_in5 (List.mem_of_getElem? (i := 97) rfl)) rfl, ?_⟩
  refine List.forall_mem_cons.mpr ⟨am_tb (am_in5 (List.mem_of_getElem? (i := 98) rfl)) rfl, ?_⟩
  refine List.forall_mem_cons.mpr ⟨am_tb (am_in5 (List.mem_of_getElem? (i := 99) rfl)) rfl, ?_⟩
  refine List.forall_mem_cons.mpr ⟨am_tb (am_in5 (List.mem_of_getElem? (i := 100) rfl)) rfl, ?_⟩
  refine List.forall_mem_cons.mpr ⟨am_tb (am_in5 (List.mem_of_getElem? (i := 101) rfl)) rfl, ?_⟩
  refine List.forall_mem_cons.mpr ⟨am_tb (am_in5 (List.mem_of_getElem? (i := 102) rfl)) rfl, ?_⟩
  refine List.forall_mem_cons.mpr ⟨am_tb (am_in5 (List.mem_of_getElem? (i := 103) rfl)) rfl, ?_⟩
  refine List.forall_mem_cons.mpr ⟨am_tb (am_in5 (List.mem_of_getElem? (i := 104) rfl)) rfl, ?_⟩
  refine List.forall_mem_cons.mpr ⟨am_tb (am_in5 (List.mem_of_getElem? (i := 105) rfl)) rfl, ?_⟩
  refine List.forall_mem_cons.mpr ⟨am_tb (am_in5 (List.mem_of_getElem? (i := 106) rfl)) rfl, ?_⟩
  refine List.forall_mem_cons.mpr ⟨am_tb (am_in5 (List.mem_of_getElem? (i := 107) rfl)) rfl, ?_⟩
  refine List.forall_mem_cons.mpr ⟨am_tb (am_in5 (List.mem_of_getElem? (i := 108) rfl)) rfl, ?_⟩
  refine List.forall_mem_cons.mpr ⟨am_tb (am_in5 (List.mem_of_getElem? (i := 109) rfl)) rfl, ?_⟩
  refine List.forall_mem_cons.mpr ⟨am_tb (am_in5 (List.mem_of_getElem? (i := 110) rfl)) rfl, ?_⟩
  refine List.forall_mem_cons.mpr ⟨am_tb (am_in5 (List.mem_of_getElem? (i := 111) rfl)) rfl, ?_⟩
  refine List.forall_mem_cons.mpr ⟨am_tb (am_in5 (List.mem_of_getElem? (i := 112) rfl)) rfl, ?_⟩
  exact fun _ h => absurd h List.not_mem_nil
def am_cil : List (Nat × Nat × Nat) := [(11, 265, 1431655765), (11, 266, 858993459), (11, 267, 252645135)]
def am_cll : List (Nat × Nat × Nat) := [(9, 270, 9223372036854775808), (2, 128, 18446744073709551615), (8, 100, 18446744073709551615), (16, 169, 4294967295), (10, 456, 9223372036854775808), (12, 314, 6148914691236517205), (12, 316, 3689348814741910323), (12, 318, 1085102592571150095)]
def am_cilP (x : Nat × Nat × Nat) : Prop := Cond.constant (am_on x.1) x.2.1 (Int32.ofNat x.2.2) ∈ am_tbl
def am_cllP (x : Nat × Nat × Nat) : Prop := Cond.constantLong (am_on x.1) x.2.1 (Int64.ofNat x.2.2) ∈ am_tbl
set_option maxRecDepth 100000 in
theorem am_cilOk : ∀ x ∈ am_cil, am_cilP x := by
  unfold am_cil
  refine List.forall_mem_cons.mpr ⟨am_tb (am_in4 (List.mem_of_getElem? (i := 54) rfl)) rfl, ?_⟩
  refine List.forall_mem_cons.mpr ⟨am_tb (am_in4 (List.mem_of_getElem? (i := 55) rfl)) rfl, ?_⟩
  refine List.forall_mem_cons.mpr ⟨am_tb (am_in4 (List.mem_of_getElem? (i := 56) rfl)) rfl, ?_⟩
  exact fun _ h => absurd h List.not_mem_nil
set_option maxRecDepth 100000 in
theorem am_cllOk : ∀ x ∈ am_cll, am_cllP x := by
  unfold am_cll
  refine List.forall_mem_cons.mpr ⟨am_tb (am_in4 (List.mem_of_getElem? (i := 124) rfl)) rfl, ?_⟩
  refine List.forall_mem_cons.mpr ⟨am_tb (am_in2 (List.mem_of_getElem? (i := 215) rfl)) rfl, ?_⟩
  refine List.forall_mem_cons.mpr ⟨am_tb (am_in4 (List.mem_of_getElem? (i := 38) rfl)) rfl, ?_⟩
  refine List.forall_mem_cons.mpr ⟨am_tb (am_in8 (List.mem_of_getElem? (i := 2) rfl)) rfl, ?_⟩
  refine List.forall_mem_cons.mpr ⟨am_tb (am_in7 (List.mem_of_getElem? (i := 137) rfl)) rfl, ?_⟩
  refine List.forall_mem_cons.mpr ⟨am_tb (am_in2 (List.mem_of_getElem? (i := 159) rfl)) rfl, ?_⟩
  refine List.forall_mem_cons.mpr ⟨am_tb (am_in2 (List.mem_of_getElem? (i := 160) rfl)) rfl, ?_⟩
  refine List.forall_mem_cons.mpr ⟨am_tb (am_in2 (List.mem_of_getElem? (i := 161) rfl)) rfl, ?_⟩
  exact fun _ h => absurd h List.not_mem_nil
def am_mlk : List (Nat × Nat × Nat) := [(9, 33, 188), (9, 41, 136), (9, 56, 167), (9, 61, 250), (9, 69, 140), (9, 80, 131), (9, 86, 139), (9, 111, 133), (9, 114, 134), (9, 118, 144), (9, 122, 112), (9, 126, 207), (9, 130, 138), (9, 141, 163), (9, 145, 182), (9, 151, 252), (9, 162, 149), (9, 166, 150), (9, 173, 146), (9, 177, 251), (9, 180, 145), (9, 183, 253), (9, 187, 168), (9, 193, 169), (9, 197, 141), (9, 204, 154), (9, 207, 155), (9, 210, 153), (9, 213, 222), (9, 216, 199), (9, 226, 224), (9, 229, 225), (9, 232, 226), (9, 235, 111), (9, 239, 137), (9, 243, 142), (9, 247, 148), (9, 250, 147), (9, 257, 185), (9, 262, 186), (9, 266, 156), (9, 272, 254), (9, 279, 157), (9, 282, 151), (9, 285, 152), (9, 298, 135), (9, 301, 189), (9, 304, 190), (9, 307, 191), (9, 330, 244), (9, 340, 194), (9, 343, 195), (9, 346, 192), (9, 349, 196), (9, 356, 193), (0, 15, 128), (0, 22, 129), (0, 38, 127), (1, 37, 131), (2, 25, 184), (2, 49, 181), (2, 50, 130), (2, 60, 183), (2, 64, 132), (2, 67, 187), (2, 93, 142), (2, 97, 133), (2, 101, 134), (2, 111, 143), (2, 115, 144), (2, 119, 145), (2, 122, 147), (2, 125, 148), (2, 130, 112), (2, 136, 149), (2, 139, 150), (2, 142, 151), (2, 145, 138), (2, 153, 163), (2, 168, 139), (3, 34, 160), (3, 38, 164), (3, 48, 166), (3, 52, 165), (4, 23, 159), (4, 35, 173), (4, 38, 171), (4, 42, 170), (4, 46, 174), (4, 50, 180), (4, 68, 172), (4, 71, 176), (4, 74, 162), (4, 77, 175), (4, 81, 114), (4, 87, 113), (4, 89, 115), (4, 103, 177), (4, 106, 160), (4, 109, 178), (4, 114, 179), (4, 120, 161), (4, 124, 116), (6, 20, 185), (6, 24, 186), (7, 21, 197), (8, 61, 200), (8, 65, 201), (8, 74, 143), (8, 84, 163), (8, 90, 182), (8, 96, 202), (16, 9, 203), (16, 12, 0), (16, 13, 204), (16, 17, 9), (16, 18, 205), (16, 22, 10), (16, 23, 206), (16, 27, 53), (16, 28, 208), (16, 31, 49), (16, 32, 209), (16, 36, 11), (16, 37, 210), (16, 41, 12), (16, 42, 211), (16, 45, 54), (16, 46, 212), (16, 49, 45), (16, 50, 213), (16, 53, 46), (16, 54, 214), (16, 57, 13), (16, 58, 215), (16, 62, 28), (16, 63, 216), (16, 66, 55), (16, 67, 217), (16, 70, 56), (16, 71, 218), (16, 74, 58), (16, 75, 219), (16, 78, 59), (16, 79, 220), (16, 82, 64), (16, 83, 221), (16, 86, 65), (16, 87, 223), (16, 90, 75), (16, 91, 227), (16, 94, 76), (16, 95, 228), (16, 98, 77), (16, 99, 229), (16, 103, 78), (16, 104, 230), (16, 107, 80), (16, 108, 231), (16, 111, 81), (16, 112, 232), (16, 116, 84), (16, 117, 233), (16, 120, 85), (16, 121, 234), (16, 124, 86), (16, 125, 235), (16, 128, 87), (16, 129, 236), (16, 132, 88), (16, 133, 237), (16, 136, 89), (16, 137, 238), (16, 140, 90), (16, 141, 239), (16, 144, 91), (16, 145, 240), (16, 148, 92), (16, 149, 241), (16, 152, 101), (16, 153, 242), (16, 156, 102), (16, 157, 243), (16, 160, 103), (16, 161, 245), (16, 164, 104), (16, 165, 246), (16, 168, 106), (16, 171, 247), (16, 175, 108), (16, 176, 248), (16, 179, 109), (16, 180, 249), (16, 183, 110), (10, 263, 2), (10, 267, 1), (10, 271, 8), (10, 275, 7), (10, 278, 5), (10, 281, 6), (10, 284, 14), (10, 288, 15), (10, 291, 17), (10, 295, 19), (10, 299, 22), (10, 303, 18), (10, 306, 20), (10, 309, 23), (10, 312, 21), (10, 315, 16), (10, 318, 25), (10, 321, 24), (10, 324, 26), (10, 327, 27), (10, 330, 29), (10, 333, 30), (10, 336, 31), (10, 340, 34), (10, 344, 35), (10, 347, 33), (10, 350, 3), (10, 353, 32), (10, 356, 37), (10, 359, 39), (10, 362, 40), (10, 365, 38), (10, 368, 42), (10, 371, 41), (10, 374, 43), (10, 377, 44), (10, 380, 47), (10, 384, 50), (10, 387, 51), (10, 390, 36), (10, 393, 52), (10, 396, 48), (10, 400, 57), (10, 403, 60), (10, 406, 61), (10, 409, 62), (10, 413, 63), (10, 416, 66), (10, 419, 4), (10, 422, 68), (10, 425, 67), (10, 428, 69), (10, 431, 71), (10, 434, 70), (10, 437, 72), (10, 440, 73), (10, 443, 74), (10, 446, 79), (10, 449, 82), (10, 452, 83), (10, 458, 105), (10, 461, 93), (10, 464, 94), (10, 467, 95), (10, 470, 96), (10, 473, 97), (10, 476, 98), (10, 479, 99), (10, 482, 100), (10, 485, 107), (13, 335, 118), (13, 492, 119), (13, 495, 121), (13, 505, 113), (13, 633, 117), (13, 637, 123), (13, 1059, 125), (14, 9, 120), (14, 88, 122), (14, 95, 124)]
def am_mlkP (x : Nat × Nat × Nat) : Prop := ∀ mt, am_ML[x.2.2]? = some mt → Cond.methodLink (am_on x.1) x.2.1 mt.1 ∈ am_tbl
set_option maxRecDepth 100000 in
theorem am_mlkOk : ∀ x ∈ am_mlk, am_mlkP x := by
  unfold am_mlk
  refine List.forall_mem_cons.mpr ⟨fun mt h => by cases h; exact am_tb (am_in1 (List.mem_of_getElem? (i := 94) rfl)) rfl, ?_⟩
  refine List.forall_mem_cons.mpr ⟨fun mt h => by cases h; exact am_tb (am_in1 (List.mem_of_getElem? (i := 147) rfl)) rfl, ?_⟩
  refine List.forall_mem_cons.mpr ⟨fun mt h => by cases h; exact am_tb (am_in2 (List.mem_of_getElem? (i := 53) rfl)) rfl, ?_⟩
  refine List.forall_mem_cons.mpr ⟨fun mt h => by cases h; exact am_tb (am_in2 (List.mem_of_getElem? (i := 110) rfl)) rfl, ?_⟩
  refine List.forall_mem_cons.mpr ⟨fun mt h => by cases h; exact am_tb (am_in2 (List.mem_of_getElem? (i := 113) rfl)) rfl, ?_⟩
  refine List.forall_mem_cons.mpr ⟨fun mt h => by cases h; exact am_tb (am_in2 (List.mem_of_getElem? (i := 121) rfl)) rfl, ?_⟩
  refine List.forall_mem_cons.mpr ⟨fun mt h => by cases h; exact am_tb (am_in2 (List.mem_of_getElem? (i := 129) rfl)) rfl, ?_⟩
  refine List.forall_mem_cons.mpr ⟨fun mt h => by cases h; exact am_tb (am_in2 (List.mem_of_getElem? (i := 133) rfl)) rfl, ?_⟩
  refine List.forall_mem_cons.mpr ⟨fun mt h => by cases h; exact am_tb (am_in2 (List.mem_of_getElem? (i := 137) rfl)) rfl, ?_⟩
  refine List.forall_mem_cons.mpr ⟨fun mt h => by cases h; exact am_tb (am_in2 (List.mem_of_getElem? (i := 141) rfl)) rfl, ?_⟩
  refine List.forall_mem_cons.mpr ⟨fun mt h => by cases h; exact am_tb (am_in2 (List.mem_of_getElem? (i := 156) rfl)) rfl, ?_⟩
  refine List.forall_mem_cons.mpr ⟨fun mt h => by cases h; exact am_tb (am_in2 (List.mem_of_getElem? (i := 162) rfl)) rfl, ?_⟩
  refine List.forall_mem_cons.mpr ⟨fun mt h => by cases h; exact am_tb (am_in2 (List.mem_of_getElem? (i := 166) rfl)) rfl, ?_⟩
  refine List.forall_mem_cons.mpr ⟨fun mt h => by cases h; exact am_tb (am_in2 (List.mem_of_getElem? (i := 170) rfl)) rfl, ?_⟩
  refine List.forall_mem_cons.mpr ⟨fun mt h => by cases h; exact am_tb (am_in2 (List.mem_of_getElem? (i := 188) rfl)) rfl, ?_⟩
  refine List.forall_mem_cons.mpr ⟨fun mt h => by cases h; exact am_tb (am_in2 (List.mem_of_getElem? (i := 192) rfl)) rfl, ?_⟩
  refine List.forall_mem_cons.mpr ⟨fun mt h => by cases h; exact am_tb (am_in2 (List.mem_of_getElem? (i := 197) rfl)) rfl, ?_⟩
  refine List.forall_mem_cons.mpr ⟨fun mt h => by cases h; exact am_tb (am_in2 (List.mem_of_getElem? (i := 217) rfl)) rfl, ?_⟩
  refine List.forall_mem_cons.mpr ⟨fun mt h => by cases h; exact am_tb (am_in2 (List.mem_of_getElem? (i := 233) rfl)) rfl, ?_⟩
  refine List.forall_mem_cons.mpr ⟨fun mt h => by cases h; exact am_tb (am_in3 (List.mem_of_getElem? (i := 5) rfl)) rfl, ?_⟩
  refine List.forall_mem_cons.mpr ⟨fun mt h => by cases h; exact am_tb (am_in3 (List.mem_of_getElem? (i := 8) rfl)) rfl, ?_⟩
  refine List.forall_mem_cons.mpr ⟨fun mt h => by cases h; exact am_tb (am_in3 (List.mem_of_getElem? (i := 9) rfl)) rfl, ?_⟩
  refine List.forall_mem_cons.mpr ⟨fun mt h => by cases h; exact am_tb (am_in3 (List.mem_of_getElem? (i := 20) rfl)) rfl, ?_⟩
  refine List.forall_mem_cons.mpr ⟨fun mt h => by cases h; exact am_tb (am_in3 (List.mem_of_getElem? (i := 28) rfl)) rfl, ?_⟩
  refine List.forall_mem_cons.mpr ⟨fun mt h => by cases h; exact am_tb (am_in3 (List.mem_of_getElem? (i := 208) rfl)) rfl, ?_⟩
  refine List.forall_mem_cons.mpr ⟨fun mt h => by cases h; exact am_tb (am_in3 (List.mem_of_getElem? (i := 216) rfl)) rfl, ?_⟩
  refine List.forall_mem_cons.mpr ⟨fun mt h => by cases h; exact am_tb (am_in3 (List.mem_of_getElem? (i := 222) rfl)) rfl, ?_⟩
  refine List.forall_mem_cons.mpr ⟨fun mt h => by cases h; exact am_tb (am_in3 (List.mem_of_getElem? (i := 235) rfl)) rfl, ?_⟩
  refine List.forall_mem_cons.mpr ⟨fun mt h => by cases h; exact am_tb (am_in4 (List.mem_of_getElem? (i := 12) rfl)) rfl, ?_⟩
  refine List.forall_mem_cons.mpr ⟨fun mt h => by cases h; exact am_tb (am_in4 (List.mem_of_getElem? (i := 16) rfl)) rfl, ?_⟩
  refine List.forall_mem_cons.mpr ⟨fun mt h => by cases h; exact am_tb (am_in4 (List.mem_of_getElem? (i := 47) rfl)) rfl, ?_⟩
  refine List.forall_mem_cons.mpr ⟨fun mt h => by cases h; exact am_tb (am_in4 (List.mem_of_getElem? (i := 57) rfl)) rfl, ?_⟩
  refine List.forall_mem_cons.mpr ⟨fun mt h => by cases h; exact am_tb (am_in4 (List.mem_of_getElem? (i := 86) rfl)) rfl, ?_⟩
  refine List.forall_mem_cons.mpr ⟨fun mt h => by cases h; exact am_tb (am_in4 (List.mem_of_getElem? (i := 51) rfl)) rfl, ?_⟩
  refine List.forall_mem_cons.mpr ⟨fun mt h => by cases h; exact am_tb (am_in4 (List.mem_of_getElem? (i := 61) rfl)) rfl, ?_⟩
  refine List.forall_mem_cons.mpr ⟨fun mt h => by cases h; exact am_tb (am_in4 (List.mem_of_getElem? (i := 98) rfl)) rfl, ?_⟩
  refine List.forall_mem_cons.mpr ⟨fun mt h => by cases h; exact am_tb (am_in4 (List.mem_of_getElem? (i := 99) rfl)) rfl, ?_⟩
  refine List.forall_mem_cons.mpr ⟨fun mt h => by cases h; exact am_tb (am_in4 (List.mem_of_getElem? (i := 100) rfl)) rfl, ?_⟩
  refine List.forall_mem_cons.mpr ⟨fun mt h => by cases h; exact am_tb (am_in4 (List.mem_of_getElem? (i := 105) rfl)) rfl, ?_⟩
  refine List.forall_mem_cons.mpr ⟨fun mt h => by cases h; exact am_tb (am_in4 (List.mem_of_getElem? (i := 106) rfl)) rfl, ?_⟩
  refine List.forall_mem_cons.mpr ⟨fun mt h => by cases h; exact am_tb (am_in4 (List.mem_of_getElem? (i := 111) rfl)) rfl, ?_⟩
  refine List.forall_mem_cons.mpr ⟨fun mt h => by cases h; exact am_tb (am_in4 (List.mem_of_getElem? (i := 125) rfl)) rfl, ?_⟩
  refine List.forall_mem_cons.mpr ⟨fun mt h => by cases h; exact am_tb (am_in4 (List.mem_of_getElem? (i := 140) rfl)) rfl, ?_⟩
  refine List.forall_mem_cons.mpr ⟨fun mt h => by cases h; exact am_tb (am_in4 (List.mem_of_getElem? (i := 145) rfl)) rfl, ?_⟩
  refine List.forall_mem_cons.mpr ⟨fun mt h => by cases h; exact am_tb (am_in4 (List.mem_of_getElem? (i := 146) rfl)) rfl, ?_⟩
  refine List.forall_mem_cons.mpr ⟨fun mt h => by cases h; exact am_tb (am_in4 (List.mem_of_getElem? (i := 159) rfl)) rfl, ?_⟩
  refine List.forall_mem_cons.mpr ⟨fun mt h => by cases h; exact am_tb (am_in4 (List.mem_of_getElem? (i := 167) rfl)) rfl, ?_⟩
  refine List.forall_mem_cons.mpr ⟨fun mt h => by cases h; exact am_tb (am_in4 (List.mem_of_getElem? (i := 171) rfl)) rfl, ?_⟩
  refine List.forall_mem_cons.mpr ⟨fun mt h => by cases h; exact am_tb (am_in4 (List.mem_of_getElem? (i := 175) rfl)) rfl, ?_⟩
  refine List.forall_mem_cons.mpr ⟨fun mt h => by cases h; exact am_tb (am_in4 (List.mem_of_getElem? (i := 215) rfl)) rfl, ?_⟩
  refine List.forall_mem_cons.mpr ⟨fun mt h => by cases h; exact am_tb (am_in4 (List.mem_of_getElem? (i := 227) rfl)) rfl, ?_⟩
  refine List.forall_mem_cons.mpr ⟨fun mt h => by cases h; exact am_tb (am_in4 (List.mem_of_getElem? (i := 231) rfl)) rfl, ?_⟩
  refine List.forall_mem_cons.mpr ⟨fun mt h => by cases h; exact am_tb (am_in4 (List.mem_of_getElem? (i := 239) rfl)) rfl, ?_⟩
  refine List.forall_mem_cons.mpr ⟨fun mt h => by cases h; exact am_tb (am_in5 (List.mem_of_getElem? (i := 3) rfl)) rfl, ?_⟩
  refine List.forall_mem_cons.mpr ⟨fun mt h => by cases h; exact am_tb (am_in5 (List.mem_of_getElem? (i := 19) rfl)) rfl, ?_⟩
  refine List.forall_mem_cons.mpr ⟨fun mt h => by cases h; exact am_tb (am_in4 (List.mem_of_getElem? (i := 195) rfl)) rfl, ?_⟩
  refine List.forall_mem_cons.mpr ⟨fun mt h => by cases h; exact am_tb (am_in4 (List.mem_of_getElem? (i := 202) rfl)) rfl, ?_⟩
  refine List.forall_mem_cons.mpr ⟨fun mt h => by cases h; exact am_tb (am_in4 (List.mem_of_getElem? (i := 206) rfl)) rfl, ?_⟩
  refine List.forall_mem_cons.mpr ⟨fun mt h => by cases h; exact am_tb (am_in4 (List.mem_of_getElem? (i := 73) rfl)) rfl, ?_⟩
  refine List.forall_mem_cons.mpr ⟨fun mt h => by cases h; exact am_tb (am_in1 (List.mem_of_getElem? (i := 157) rfl)) rfl, ?_⟩
  refine List.forall_mem_cons.mpr ⟨fun mt h => by cases h; exact am_tb (am_in1 (List.mem_of_getElem? (i := 174) rfl)) rfl, ?_⟩
  refine List.forall_mem_cons.mpr ⟨fun mt h => by cases h; exact am_tb (am_in1 (List.mem_of_getElem? (i := 195) rfl)) rfl, ?_⟩
  refine List.forall_mem_cons.mpr ⟨fun mt h => by cases h; exact am_tb (am_in4 (List.mem_of_getElem? (i := 65) rfl)) rfl, ?_⟩
  refine List.forall_mem_cons.mpr ⟨fun mt h => by cases h; exact am_tb (am_in4 (List.mem_of_getElem? (i := 69) rfl)) rfl, ?_⟩
  refine List.forall_mem_cons.mpr ⟨fun mt h => by cases h; exact am_tb (am_in4 (List.mem_of_getElem? (i := 74) rfl)) rfl, ?_⟩
  refine List.forall_mem_cons.mpr ⟨fun mt h => by cases h; exact am_tb (am_in2 (List.mem_of_getElem? (i := 149) rfl)) rfl, ?_⟩
  refine List.forall_mem_cons.mpr ⟨fun mt h => by cases h; exact am_tb (am_in2 (List.mem_of_getElem? (i := 145) rfl)) rfl, ?_⟩
  refine List.forall_mem_cons.mpr ⟨fun mt h => by cases h; exact am_tb (am_in2 (List.mem_of_getElem? (i := 214) rfl)) rfl, ?_⟩
  refine List.forall_mem_cons.mpr ⟨fun mt h => by cases h; exact am_tb (am_in2 (List.mem_of_getElem? (i := 237) rfl)) rfl, ?_⟩
  refine List.forall_mem_cons.mpr ⟨fun mt h => by cases h; exact am_tb (am_in2 (List.mem_of_getElem? (i := 205) rfl)) rfl, ?_⟩
  refine List.forall_mem_cons.mpr ⟨fun mt h => by cases h; exact am_tb (am_in2 (List.mem_of_getElem? (i := 210) rfl)) rfl, ?_⟩
  refine List.forall_mem_cons.mpr ⟨fun mt h => by cases h; exact am_tb (am_in2 (List.mem_of_getElem? (i := 201) rfl)) rfl, ?_⟩
  refine List.forall_mem_cons.mpr ⟨fun mt h => by cases h; exact am_tb (am_in2 (List.mem_of_getElem? (i := 206) rfl)) rfl, ?_⟩
  refine List.forall_mem_cons.mpr ⟨fun mt h => by cases h; exact am_tb (am_in2 (List.mem_of_getElem? (i := 216) rfl)) rfl, ?_⟩
  refine List.forall_mem_cons.mpr ⟨fun mt h => by cases h; exact am_tb (am_in4 (List.mem_of_getElem? (i := 3) rfl)) rfl, ?_⟩
  refine List.forall_mem_cons.mpr ⟨fun mt h => by cases h; exact am_tb (am_in4 (List.mem_of_getElem? (i := 150) rfl)) rfl, ?_⟩
  refine List.forall_mem_cons.mpr ⟨fun mt h => by cases h; exact am_tb (am_in3 (List.mem_of_getElem? (i := 239) rfl)) rfl, ?_⟩
  refine List.forall_mem_cons.mpr ⟨fun mt h => by cases h; exact am_tb (am_in3 (List.mem_of_getElem? (i := 220) rfl)) rfl, ?_⟩
  refine List.forall_mem_cons.mpr ⟨fun mt h => by cases h; exact am_tb (am_in3 (List.mem_of_getElem? (i := 226) rfl)) rfl, ?_⟩
  refine List.forall_mem_cons.mpr ⟨fun mt h => by cases h; exact am_tb (am_in4 (List.mem_of_getElem? (i := 144) rfl)) rfl, ?_⟩
  refine List.forall_mem_cons.mpr ⟨fun mt h => by cases h; exact am_tb (am_in3 (List.mem_of_getElem? (i := 203) rfl)) rfl, ?_⟩
  refine List.forall_mem_cons.mpr ⟨fun mt h => by cases h; exact am_tb (am_in2 (List.mem_of_getElem? (i := 174) rfl)) rfl, ?_⟩
  refine List.forall_mem_cons.mpr ⟨fun mt h => by cases h; exact am_tb (am_in2 (List.mem_of_getElem? (i := 178) rfl)) rfl, ?_⟩
  refine List.forall_mem_cons.mpr ⟨fun mt h => by cases h; exact am_tb (am_in2 (List.mem_of_getElem? (i := 181) rfl)) rfl, ?_⟩
  refine List.forall_mem_cons.mpr ⟨fun mt h => by cases h; exact am_tb (am_in3 (List.mem_of_getElem? (i := 32) rfl)) rfl, ?_⟩
  refine List.forall_mem_cons.mpr ⟨fun mt h => by cases h; exact am_tb (am_in3 (List.mem_of_getElem? (i := 36) rfl)) rfl, ?_⟩
  refine List.forall_mem_cons.mpr ⟨fun mt h => by cases h; exact am_tb (am_in3 (List.mem_of_getElem? (i := 130) rfl)) rfl, ?_⟩
  refine List.forall_mem_cons.mpr ⟨fun mt h => by cases h; exact am_tb (am_in3 (List.mem_of_getElem? (i := 40) rfl)) rfl, ?_⟩
  refine List.forall_mem_cons.mpr ⟨fun mt h => by cases h; exact am_tb (am_in3 (List.mem_of_getElem? (i := 44) rfl)) rfl, ?_⟩
  refine List.forall_mem_cons.mpr ⟨fun mt h => by cases h; exact am_tb (am_in3 (List.mem_of_getElem? (i := 112) rfl)) rfl, ?_⟩
  refine List.forall_mem_cons.mpr ⟨fun mt h => by cases h; exact am_tb (am_in3 (List.mem_of_getElem? (i := 108) rfl)) rfl, ?_⟩
  refine List.forall_mem_cons.mpr ⟨fun mt h => by cases h; exact am_tb (am_in3 (List.mem_of_getElem? (i := 118) rfl)) rfl, ?_⟩
  refine List.forall_mem_cons.mpr ⟨fun mt h => by cases h; exact am_tb (am_in3 (List.mem_of_getElem? (i := 204) rfl)) rfl, ?_⟩
  refine List.forall_mem_cons.mpr ⟨fun mt h => by cases h; exact am_tb (am_in3 (List.mem_of_getElem? (i := 48) rfl)) rfl, ?_⟩
  refine List.forall_mem_cons.mpr ⟨fun mt h => by cases h; exact am_tb (am_in3 (List.mem_of_getElem? (i := 56) rfl)) rfl, ?_⟩
  refine List.forall_mem_cons.mpr ⟨fun mt h => by cases h; exact am_tb (am_in3 (List.mem_of_getElem? (i := 60) rfl)) rfl, ?_⟩
  refine List.forall_mem_cons.mpr ⟨fun mt h => by cases h; exact am_tb (am_in3 (List.mem_of_getElem? (i := 70) rfl)) rfl, ?_⟩
  refine List.forall_mem_cons.mpr ⟨fun mt h => by cases h; exact am_tb (am_in3 (List.mem_of_getElem? (i := 122) rfl)) rfl, ?_⟩
  refine List.forall_mem_cons.mpr ⟨fun mt h => by cases h; exact am_tb (am_in3 (List.mem_of_getElem? (i := 134) rfl)) rfl, ?_⟩
  refine List.forall_mem_cons.mpr ⟨fun mt h => by cases h; exact am_tb (am_in3 (List.mem_of_getElem? (i := 126) rfl)) rfl, ?_⟩
  refine List.forall_mem_cons.mpr ⟨fun mt h => by cases h; exact am_tb (am_in3 (List.mem_of_getElem? (i := 139) rfl)) rfl, ?_⟩
  refine List.forall_mem_cons.mpr ⟨fun mt h => by cases h; exact am_tb (am_in3 (List.mem_of_getElem? (i := 199) rfl)) rfl, ?_⟩
  refine List.forall_mem_cons.mpr ⟨fun mt h => by cases h; exact am_tb (am_in3 (List.mem_of_getElem? (i := 143) rfl)) rfl, ?_⟩
  refine List.forall_mem_cons.mpr ⟨fun mt h => by cases h; exact am_tb (am_in4 (List.mem_of_getElem? (i := 78) rfl)) rfl, ?_⟩
  refine List.forall_mem_cons.mpr ⟨fun mt h => by cases h; exact am_tb (am_in4 (List.mem_of_getElem? (i := 82) rfl)) rfl, ?_⟩
  refine List.forall_mem_cons.mpr ⟨fun mt h => by cases h; exact am_tb (am_in5 (List.mem_of_getElem? (i := 7) rfl)) rfl, ?_⟩
  refine List.forall_mem_cons.mpr ⟨fun mt h => by cases h; exact am_tb (am_in4 (List.mem_of_getElem? (i := 20) rfl)) rfl, ?_⟩
  refine List.forall_mem_cons.mpr ⟨fun mt h => by cases h; exact am_tb (am_in4 (List.mem_of_getElem? (i := 27) rfl)) rfl, ?_⟩
  refine List.forall_mem_cons.mpr ⟨fun mt h => by cases h; exact am_tb (am_in4 (List.mem_of_getElem? (i := 24) rfl)) rfl, ?_⟩
  refine List.forall_mem_cons.mpr ⟨fun mt h => by cases h; exact am_tb (am_in4 (List.mem_of_getElem? (i := 25) rfl)) rfl, ?_⟩
  refine List.forall_mem_cons.mpr ⟨fun mt h => by cases h; exact am_tb (am_in4 (List.mem_of_getElem? (i := 26) rfl)) rfl, ?_⟩
  refine List.forall_mem_cons.mpr ⟨fun mt h => by cases h; exact am_tb (am_in4 (List.mem_of_getElem? (i := 31) rfl)) rfl, ?_⟩
  refine List.forall_mem_cons.mpr ⟨fun mt h => by cases h; exact am_tb (am_in1 (List.mem_of_getElem? (i := 23) rfl)) rfl, ?_⟩
  refine List.forall_mem_cons.mpr ⟨fun mt h => by cases h; exact am_tb (am_in5 (List.mem_of_getElem? (i := 26) rfl)) rfl, ?_⟩
  refine List.forall_mem_cons.mpr ⟨fun mt h => by cases h; exact am_tb (am_in2 (List.mem_of_getElem? (i := 106) rfl)) rfl, ?_⟩
  refine List.forall_mem_cons.mpr ⟨fun mt h => by cases h; exact am_tb (am_in6 (List.mem_of_getElem? (i := 41) rfl)) rfl, ?_⟩
  refine List.forall_mem_cons.mpr ⟨fun mt h => by cases h; exact am_tb (am_in2 (List.mem_of_getElem? (i := 117) rfl)) rfl, ?_⟩
  refine List.forall_mem_cons.mpr ⟨fun mt h => by cases h; exact am_tb (am_in6 (List.mem_of_getElem? (i := 53) rfl)) rfl, ?_⟩
  refine List.forall_mem_cons.mpr ⟨fun mt h => by cases h; exact am_tb (am_in2 (List.mem_of_getElem? (i := 125) rfl)) rfl, ?_⟩
  refine List.forall_mem_cons.mpr ⟨fun mt h => by cases h; exact am_tb (am_in6 (List.mem_of_getElem? (i := 217) rfl)) rfl, ?_⟩
  refine List.forall_mem_cons.mpr ⟨fun mt h => by cases h; exact am_tb (am_in2 (List.mem_of_getElem? (i := 193) rfl)) rfl, ?_⟩
  refine List.forall_mem_cons.mpr ⟨fun mt h => by cases h; exact am_tb (am_in6 (List.mem_of_getElem? (i := 209) rfl)) rfl, ?_⟩
  refine List.forall_mem_cons.mpr ⟨fun mt h => by cases h; exact am_tb (am_in2 (List.mem_of_getElem? (i := 221) rfl)) rfl, ?_⟩
  refine List.forall_mem_cons.mpr ⟨fun mt h => by cases h; exact am_tb (am_in6 (List.mem_of_getElem? (i := 61) rfl)) rfl, ?_⟩
  refine List.forall_mem_cons.mpr ⟨fun mt h => by cases h; exact am_tb (am_in2 (List.mem_of_getElem? (i := 225) rfl)) rfl, ?_⟩
  refine List.forall_mem_cons.mpr ⟨fun mt h => by cases h; exact am_tb (am_in6 (List.mem_of_getElem? (i := 73) rfl)) rfl, ?_⟩
  refine List.forall_mem_cons.mpr ⟨fun mt h => by cases h; exact am_tb (am_in2 (List.mem_of_getElem? (i := 229) rfl)) rfl, ?_⟩
  refine List.forall_mem_cons.mpr ⟨fun mt h => by cases h; exact am_tb (am_in7 (List.mem_of_getElem? (i := 1) rfl)) rfl, ?_⟩
  refine List.forall_mem_cons.mpr ⟨fun mt h => by cases h; exact am_tb (am_in3 (List.mem_of_getElem? (i := 1) rfl)) rfl, ?_⟩
  refine List.forall_mem_cons.mpr ⟨fun mt h => by cases h; exact am_tb (am_in6 (List.mem_of_getElem? (i := 145) rfl)) rfl, ?_⟩
  refine List.forall_mem_cons.mpr ⟨fun mt h => by cases h; exact am_tb (am_in3 (List.mem_of_getElem? (i := 12) rfl)) rfl, ?_⟩
  refine List.forall_mem_cons.mpr ⟨fun mt h => by cases h; exact am_tb (am_in6 (List.mem_of_getElem? (i := 185) rfl)) rfl, ?_⟩
  refine List.forall_mem_cons.mpr ⟨fun mt h => by cases h; exact am_tb (am_in3 (List.mem_of_getElem? (i := 16) rfl)) rfl, ?_⟩
  refine List.forall_mem_cons.mpr ⟨fun mt h => by cases h; exact am_tb (am_in6 (List.mem_of_getElem? (i := 81) rfl)) rfl, ?_⟩
  refine List.forall_mem_cons.mpr ⟨fun mt h => by cases h; exact am_tb (am_in3 (List.mem_of_getElem? (i := 24) rfl)) rfl, ?_⟩
  refine List.forall_mem_cons.mpr ⟨fun mt h => by cases h; exact am_tb (am_in6 (List.mem_of_getElem? (i := 85) rfl)) rfl, ?_⟩
  refine List.forall_mem_cons.mpr ⟨fun mt h => by cases h; exact am_tb (am_in3 (List.mem_of_getElem? (i := 212) rfl)) rfl, ?_⟩
  refine List.forall_mem_cons.mpr ⟨fun mt h => by cases h; exact am_tb (am_in7 (List.mem_of_getElem? (i := 9) rfl)) rfl, ?_⟩
  refine List.forall_mem_cons.mpr ⟨fun mt h => by cases h; exact am_tb (am_in3 (List.mem_of_getElem? (i := 227) rfl)) rfl, ?_⟩
  refine List.forall_mem_cons.mpr ⟨fun mt h => by cases h; exact am_tb (am_in7 (List.mem_of_getElem? (i := 13) rfl)) rfl, ?_⟩
  refine List.forall_mem_cons.mpr ⟨fun mt h => by cases h; exact am_tb (am_in3 (List.mem_of_getElem? (i := 231) rfl)) rfl, ?_⟩
  refine List.forall_mem_cons.mpr ⟨fun mt h => by cases h; exact am_tb (am_in7 (List.mem_of_getElem? (i := 17) rfl)) rfl, ?_⟩
  refine List.forall_mem_cons.mpr ⟨fun mt h => by cases h; exact am_tb (am_in4 (List.mem_of_getElem? (i := 4) rfl)) rfl, ?_⟩
  refine List.forall_mem_cons.mpr ⟨fun mt h => by cases h; exact am_tb (am_in7 (List.mem_of_getElem? (i := 29) rfl)) rfl, ?_⟩
  refine List.forall_mem_cons.mpr ⟨fun mt h => by cases h; exact am_tb (am_in4 (List.mem_of_getElem? (i := 8) rfl)) rfl, ?_⟩
  refine List.forall_mem_cons.mpr ⟨fun mt h => by cases h; exact am_tb (am_in7 (List.mem_of_getElem? (i := 33) rfl)) rfl, ?_⟩
  refine List.forall_mem_cons.mpr ⟨fun mt h => by cases h; exact am_tb (am_in4 (List.mem_of_getElem? (i := 39) rfl)) rfl, ?_⟩
  refine List.forall_mem_cons.mpr ⟨fun mt h => by cases h; exact am_tb (am_in7 (List.mem_of_getElem? (i := 53) rfl)) rfl, ?_⟩
  refine List.forall_mem_cons.mpr ⟨fun mt h => by cases h; exact am_tb (am_in4 (List.mem_of_getElem? (i := 43) rfl)) rfl, ?_⟩
  refine List.forall_mem_cons.mpr ⟨fun mt h => by cases h; exact am_tb (am_in7 (List.mem_of_getElem? (i := 57) rfl)) rfl, ?_⟩
  refine List.forall_mem_cons.mpr ⟨fun mt h => by cases h; exact am_tb (am_in4 (List.mem_of_getElem? (i := 90) rfl)) rfl, ?_⟩
  refine List.forall_mem_cons.mpr ⟨fun mt h => by cases h; exact am_tb (am_in7 (List.mem_of_getElem? (i := 101) rfl)) rfl, ?_⟩
  refine List.forall_mem_cons.mpr ⟨fun mt h => by cases h; exact am_tb (am_in4 (List.mem_of_getElem? (i := 94) rfl)) rfl, ?_⟩
  refine List.forall_mem_cons.mpr ⟨fun mt h => by cases h; exact am_tb (am_in7 (List.mem_of_getElem? (i := 105) rfl)) rfl, ?_⟩
  refine List.forall_mem_cons.mpr ⟨fun mt h => by cases h; exact am_tb (am_in4 (List.mem_of_getElem? (i := 101) rfl)) rfl, ?_⟩
  refine List.forall_mem_cons.mpr ⟨fun mt h => by cases h; exact am_tb (am_in7 (List.mem_of_getElem? (i := 109) rfl)) rfl, ?_⟩
  refine List.forall_mem_cons.mpr ⟨fun mt h => by cases h; exact am_tb (am_in4 (List.mem_of_getElem? (i := 107) rfl)) rfl, ?_⟩
  refine List.forall_mem_cons.mpr ⟨fun mt h => by cases h; exact am_tb (am_in7 (List.mem_of_getElem? (i := 113) rfl)) rfl, ?_⟩
  refine List.forall_mem_cons.mpr ⟨fun mt h => by cases h; exact am_tb (am_in4 (List.mem_of_getElem? (i := 116) rfl)) rfl, ?_⟩
  refine List.forall_mem_cons.mpr ⟨fun mt h => by cases h; exact am_tb (am_in7 (List.mem_of_getElem? (i := 121) rfl)) rfl, ?_⟩
  refine List.forall_mem_cons.mpr ⟨fun mt h => by cases h; exact am_tb (am_in4 (List.mem_of_getElem? (i := 120) rfl)) rfl, ?_⟩
  refine List.forall_mem_cons.mpr ⟨fun mt h => by cases h; exact am_tb (am_in7 (List.mem_of_getElem? (i := 125) rfl)) rfl, ?_⟩
  refine List.forall_mem_cons.mpr ⟨fun mt h => by cases h; exact am_tb (am_in4 (List.mem_of_getElem? (i := 128) rfl)) rfl, ?_⟩
  refine List.forall_mem_cons.mpr ⟨fun mt h => by cases h; exact am_tb (am_in7 (List.mem_of_getElem? (i := 138) rfl)) rfl, ?_⟩
  refine List.forall_mem_cons.mpr ⟨fun mt h => by cases h; exact am_tb (am_in4 (List.mem_of_getElem? (i := 132) rfl)) rfl, ?_⟩
  refine List.forall_mem_cons.mpr ⟨fun mt h => by cases h; exact am_tb (am_in7 (List.mem_of_getElem? (i := 142) rfl)) rfl, ?_⟩
  refine List.forall_mem_cons.mpr ⟨fun mt h => by cases h; exact am_tb (am_in4 (List.mem_of_getElem? (i := 136) rfl)) rfl, ?_⟩
  refine List.forall_mem_cons.mpr ⟨fun mt h => by cases h; exact am_tb (am_in7 (List.mem_of_getElem? (i := 146) rfl)) rfl, ?_⟩
  refine List.forall_mem_cons.mpr ⟨fun mt h => by cases h; exact am_tb (am_in4 (List.mem_of_getElem? (i := 151) rfl)) rfl, ?_⟩
  refine List.forall_mem_cons.mpr ⟨fun mt h => by cases h; exact am_tb (am_in7 (List.mem_of_getElem? (i := 150) rfl)) rfl, ?_⟩
  refine List.forall_mem_cons.mpr ⟨fun mt h => by cases h; exact am_tb (am_in4 (List.mem_of_getElem? (i := 155) rfl)) rfl, ?_⟩
  refine List.forall_mem_cons.mpr ⟨fun mt h => by cases h; exact am_tb (am_in7 (List.mem_of_getElem? (i := 154) rfl)) rfl, ?_⟩
  refine List.forall_mem_cons.mpr ⟨fun mt h => by cases h; exact am_tb (am_in4 (List.mem_of_getElem? (i := 163) rfl)) rfl, ?_⟩
  refine List.forall_mem_cons.mpr ⟨fun mt h => by cases h; exact am_tb (am_in7 (List.mem_of_getElem? (i := 158) rfl)) rfl, ?_⟩
  refine List.forall_mem_cons.mpr ⟨fun mt h => by cases h; exact am_tb (am_in4 (List.mem_of_getElem? (i := 179) rfl)) rfl, ?_⟩
  refine List.forall_mem_cons.mpr ⟨fun mt h => by cases h; exact am_tb (am_in7 (List.mem_of_getElem? (i := 166) rfl)) rfl, ?_⟩
  refine List.forall_mem_cons.mpr ⟨fun mt h => by cases h; exact am_tb (am_in4 (List.mem_of_getElem? (i := 183) rfl)) rfl, ?_⟩
  refine List.forall_mem_cons.mpr ⟨fun mt h => by cases h; exact am_tb (am_in7 (List.mem_of_getElem? (i := 170) rfl)) rfl, ?_⟩
  refine List.forall_mem_cons.mpr ⟨fun mt h => by cases h; exact am_tb (am_in4 (List.mem_of_getElem? (i := 187) rfl)) rfl, ?_⟩
  refine List.forall_mem_cons.mpr ⟨fun mt h => by cases h; exact am_tb (am_in7 (List.mem_of_getElem? (i := 174) rfl)) rfl, ?_⟩
  refine List.forall_mem_cons.mpr ⟨fun mt h => by cases h; exact am_tb (am_in4 (List.mem_of_getElem? (i := 207) rfl)) rfl, ?_⟩
  refine List.forall_mem_cons.mpr ⟨fun mt h => by cases h; exact am_tb (am_in7 (List.mem_of_getElem? (i := 210) rfl)) rfl, ?_⟩
  refine List.forall_mem_cons.mpr ⟨fun mt h => by cases h; exact am_tb (am_in4 (List.mem_of_getElem? (i := 211) rfl)) rfl, ?_⟩
  refine List.forall_mem_cons.mpr ⟨fun mt h => by cases h; exact am_tb (am_in7 (List.mem_of_getElem? (i := 214) rfl)) rfl, ?_⟩
  refine List.forall_mem_cons.mpr ⟨fun mt h => by cases h; exact am_tb (am_in4 (List.mem_of_getElem? (i := 219) rfl)) rfl, ?_⟩
  refine List.forall_mem_cons.mpr ⟨fun mt h => by cases h; exact am_tb (am_in7 (List.mem_of_getElem? (i := 218) rfl)) rfl, ?_⟩
  refine List.forall_mem_cons.mpr ⟨fun mt h => by cases h; exact am_tb (am_in4 (List.mem_of_getElem? (i := 223) rfl)) rfl, ?_⟩
  refine List.forall_mem_cons.mpr ⟨fun mt h => by cases h; exact am_tb (am_in7 (List.mem_of_getElem? (i := 222) rfl)) rfl, ?_⟩
  refine List.forall_mem_cons.mpr ⟨fun mt h => by cases h; exact am_tb (am_in4 (List.mem_of_getElem? (i := 235) rfl)) rfl, ?_⟩
  refine List.forall_mem_cons.mpr ⟨fun mt h => by cases h; exact am_tb (am_in7 (List.mem_of_getElem? (i := 226) rfl)) rfl, ?_⟩
  refine List.forall_mem_cons.mpr ⟨fun mt h => by cases h; exact am_tb (am_in5 (List.mem_of_getElem? (i := 11) rfl)) rfl, ?_⟩
  refine List.forall_mem_cons.mpr ⟨fun mt h => by cases h; exact am_tb (am_in7 (List.mem_of_getElem? (i := 234) rfl)) rfl, ?_⟩
  refine List.forall_mem_cons.mpr ⟨fun mt h => by cases h; exact am_tb (am_in5 (List.mem_of_getElem? (i := 15) rfl)) rfl, ?_⟩
  refine List.forall_mem_cons.mpr ⟨fun mt h => by cases h; exact am_tb (am_in7 (List.mem_of_getElem? (i := 238) rfl)) rfl, ?_⟩
  refine List.forall_mem_cons.mpr ⟨fun mt h => by cases h; exact am_tb (am_in6 (List.mem_of_getElem? (i := 69) rfl)) rfl, ?_⟩
  refine List.forall_mem_cons.mpr ⟨fun mt h => by cases h; exact am_tb (am_in6 (List.mem_of_getElem? (i := 49) rfl)) rfl, ?_⟩
  refine List.forall_mem_cons.mpr ⟨fun mt h => by cases h; exact am_tb (am_in6 (List.mem_of_getElem? (i := 45) rfl)) rfl, ?_⟩
  refine List.forall_mem_cons.mpr ⟨fun mt h => by cases h; exact am_tb (am_in6 (List.mem_of_getElem? (i := 57) rfl)) rfl, ?_⟩
  refine List.forall_mem_cons.mpr ⟨fun mt h => by cases h; exact am_tb (am_in6 (List.mem_of_getElem? (i := 65) rfl)) rfl, ?_⟩
  refine List.forall_mem_cons.mpr ⟨fun mt h => by cases h; exact am_tb (am_in6 (List.mem_of_getElem? (i := 77) rfl)) rfl, ?_⟩
  refine List.forall_mem_cons.mpr ⟨fun mt h => by cases h; exact am_tb (am_in6 (List.mem_of_getElem? (i := 101) rfl)) rfl, ?_⟩
  refine List.forall_mem_cons.mpr ⟨fun mt h => by cases h; exact am_tb (am_in6 (List.mem_of_getElem? (i := 109) rfl)) rfl, ?_⟩
  refine List.forall_mem_cons.mpr ⟨fun mt h => by cases h; exact am_tb (am_in6 (List.mem_of_getElem? (i := 117) rfl)) rfl, ?_⟩
  refine List.forall_mem_cons.mpr ⟨fun mt h => by cases h; exact am_tb (am_in6 (List.mem_of_getElem? (i := 133) rfl)) rfl, ?_⟩
  refine List.forall_mem_cons.mpr ⟨fun mt h => by cases h; exact am_tb (am_in6 (List.mem_of_getElem? (i := 129) rfl)) rfl, ?_⟩
  refine List.forall_mem_cons.mpr ⟨fun mt h => by cases h; exact am_tb (am_in6 (List.mem_of_getElem? (i := 113) rfl)) rfl, ?_⟩
  refine List.forall_mem_cons.mpr ⟨fun mt h => by cases h; exact am_tb (am_in6 (List.mem_of_getElem? (i := 137) rfl)) rfl, ?_⟩
  refine List.forall_mem_cons.mpr ⟨fun mt h => by cases h; exact am_tb (am_in6 (List.mem_of_getElem? (i := 125) rfl)) rfl, ?_⟩
  refine List.forall_mem_cons.mpr ⟨fun mt h => by cases h; exact am_tb (am_in6 (List.mem_of_getElem? (i := 141) rfl)) rfl, ?_⟩
  refine List.forall_mem_cons.mpr ⟨fun mt h => by cases h; exact am_tb (am_in6 (List.mem_of_getElem? (i := 105) rfl)) rfl, ?_⟩
  refine List.forall_mem_cons.mpr ⟨fun mt h => by cases h; exact am_tb (am_in6 (List.mem_of_getElem? (i := 97) rfl)) rfl, ?_⟩
  refine List.forall_mem_cons.mpr ⟨fun mt h => by cases h; exact am_tb (am_in6 (List.mem_of_getElem? (i := 121) rfl)) rfl, ?_⟩
  refine List.forall_mem_cons.mpr ⟨fun mt h => by cases h; exact am_tb (am_in6 (List.mem_of_getElem? (i := 93) rfl)) rfl, ?_⟩
  refine List.forall_mem_cons.mpr ⟨fun mt h => by cases h; exact am_tb (am_in6 (List.mem_of_getElem? (i := 89) rfl)) rfl, ?_⟩
  refine List.forall_mem_cons.mpr ⟨fun mt h => by cases h; exact am_tb (am_in6 (List.mem_of_getElem? (i := 173) rfl)) rfl, ?_⟩
  refine List.forall_mem_cons.mpr ⟨fun mt h => by cases h; exact am_tb (am_in6 (List.mem_of_getElem? (i := 177) rfl)) rfl, ?_⟩
  refine List.forall_mem_cons.mpr ⟨fun mt h => by cases h; exact am_tb (am_in6 (List.mem_of_getElem? (i := 169) rfl)) rfl, ?_⟩
  refine List.forall_mem_cons.mpr ⟨fun mt h => by cases h; exact am_tb (am_in6 (List.mem_of_getElem? (i := 237) rfl)) rfl, ?_⟩
  refine List.forall_mem_cons.mpr ⟨fun mt h => by cases h; exact am_tb (am_in6 (List.mem_of_getElem? (i := 233) rfl)) rfl, ?_⟩
  refine List.forall_mem_cons.mpr ⟨fun mt h => by cases h; exact am_tb (am_in6 (List.mem_of_getElem? (i := 165) rfl)) rfl, ?_⟩
  refine List.forall_mem_cons.mpr ⟨fun mt h => by cases h; exact am_tb (am_in6 (List.mem_of_getElem? (i := 181) rfl)) rfl, ?_⟩
  refine List.forall_mem_cons.mpr ⟨fun mt h => by cases h; exact am_tb (am_in6 (List.mem_of_getElem? (i := 201) rfl)) rfl, ?_⟩
  refine List.forall_mem_cons.mpr ⟨fun mt h => by cases h; exact am_tb (am_in6 (List.mem_of_getElem? (i := 157) rfl)) rfl, ?_⟩
  refine List.forall_mem_cons.mpr ⟨fun mt h => by cases h; exact am_tb (am_in6 (List.mem_of_getElem? (i := 205) rfl)) rfl, ?_⟩
  refine List.forall_mem_cons.mpr ⟨fun mt h => by cases h; exact am_tb (am_in6 (List.mem_of_getElem? (i := 197) rfl)) rfl, ?_⟩
  refine List.forall_mem_cons.mpr ⟨fun mt h => by cases h; exact am_tb (am_in6 (List.mem_of_getElem? (i := 161) rfl)) rfl, ?_⟩
  refine List.forall_mem_cons.mpr ⟨fun mt h => by cases h; exact am_tb (am_in6 (List.mem_of_getElem? (i := 153) rfl)) rfl, ?_⟩
  refine List.forall_mem_cons.mpr ⟨fun mt h => by cases h; exact am_tb (am_in6 (List.mem_of_getElem? (i := 193) rfl)) rfl, ?_⟩
  refine List.forall_mem_cons.mpr ⟨fun mt h => by cases h; exact am_tb (am_in6 (List.mem_of_getElem? (i := 149) rfl)) rfl, ?_⟩
  refine List.forall_mem_cons.mpr ⟨fun mt h => by cases h; exact am_tb (am_in6 (List.mem_of_getElem? (i := 189) rfl)) rfl, ?_⟩
  refine List.forall_mem_cons.mpr ⟨fun mt h => by cases h; exact am_tb (am_in6 (List.mem_of_getElem? (i := 213) rfl)) rfl, ?_⟩
  refine List.forall_mem_cons.mpr ⟨fun mt h => by cases h; exact am_tb (am_in6 (List.mem_of_getElem? (i := 225) rfl)) rfl, ?_⟩
  refine List.forall_mem_cons.mpr ⟨fun mt h => by cases h; exact am_tb (am_in6 (List.mem_of_getElem? (i := 221) rfl)) rfl, ?_⟩
  refine List.forall_mem_cons.mpr ⟨fun mt h => by cases h; exact am_tb (am_in6 (List.mem_of_getElem? (i := 229) rfl)) rfl, ?_⟩
  refine List.forall_mem_cons.mpr ⟨fun mt h => by cases h; exact am_tb (am_in7 (List.mem_of_getElem? (i := 5) rfl)) rfl, ?_⟩
  refine List.forall_mem_cons.mpr ⟨fun mt h => by cases h; exact am_tb (am_in7 (List.mem_of_getElem? (i := 25) rfl)) rfl, ?_⟩
  refine List.forall_mem_cons.mpr ⟨fun mt h => by cases h; exact am_tb (am_in7 (List.mem_of_getElem? (i := 21) rfl)) rfl, ?_⟩
  refine List.forall_mem_cons.mpr ⟨fun mt h => by cases h; exact am_tb (am_in7 (List.mem_of_getElem? (i := 41) rfl)) rfl, ?_⟩
  refine List.forall_mem_cons.mpr ⟨fun mt h => by cases h; exact am_tb (am_in7 (List.mem_of_getElem? (i := 45) rfl)) rfl, ?_⟩
  refine List.forall_mem_cons.mpr ⟨fun mt h => by cases h; exact am_tb (am_in7 (List.mem_of_getElem? (i := 37) rfl)) rfl, ?_⟩
  refine List.forall_mem_cons.mpr ⟨fun mt h => by cases h; exact am_tb (am_in7 (List.mem_of_getElem? (i := 49) rfl)) rfl, ?_⟩
  refine List.forall_mem_cons.mpr ⟨fun mt h => by cases h; exact am_tb (am_in7 (List.mem_of_getElem? (i := 81) rfl)) rfl, ?_⟩
  refine List.forall_mem_cons.mpr ⟨fun mt h => by cases h; exact am_tb (am_in7 (List.mem_of_getElem? (i := 89) rfl)) rfl, ?_⟩
  refine List.forall_mem_cons.mpr ⟨fun mt h => by cases h; exact am_tb (am_in7 (List.mem_of_getElem? (i := 73) rfl)) rfl, ?_⟩
  refine List.forall_mem_cons.mpr ⟨fun mt h => by cases h; exact am_tb (am_in7 (List.mem_of_getElem? (i := 77) rfl)) rfl, ?_⟩
  refine List.forall_mem_cons.mpr ⟨fun mt h => by cases h; exact am_tb (am_in7 (List.mem_of_getElem? (i := 85) rfl)) rfl, ?_⟩
  refine List.forall_mem_cons.mpr ⟨fun mt h => by cases h; exact am_tb (am_in7 (List.mem_of_getElem? (i := 65) rfl)) rfl, ?_⟩
  refine List.forall_mem_cons.mpr ⟨fun mt h => by cases h; exact am_tb (am_in7 (List.mem_of_getElem? (i := 69) rfl)) rfl, ?_⟩
  refine List.forall_mem_cons.mpr ⟨fun mt h => by cases h; exact am_tb (am_in7 (List.mem_of_getElem? (i := 61) rfl)) rfl, ?_⟩
  refine List.forall_mem_cons.mpr ⟨fun mt h => by cases h; exact am_tb (am_in7 (List.mem_of_getElem? (i := 93) rfl)) rfl, ?_⟩
  refine List.forall_mem_cons.mpr ⟨fun mt h => by cases h; exact am_tb (am_in7 (List.mem_of_getElem? (i := 97) rfl)) rfl, ?_⟩
  refine List.forall_mem_cons.mpr ⟨fun mt h => by cases h; exact am_tb (am_in7 (List.mem_of_getElem? (i := 117) rfl)) rfl, ?_⟩
  refine List.forall_mem_cons.mpr ⟨fun mt h => by cases h; exact am_tb (am_in7 (List.mem_of_getElem? (i := 133) rfl)) rfl, ?_⟩
  refine List.forall_mem_cons.mpr ⟨fun mt h => by cases h; exact am_tb (am_in7 (List.mem_of_getElem? (i := 129) rfl)) rfl, ?_⟩
  refine List.forall_mem_cons.mpr ⟨fun mt h => by cases h; exact am_tb (am_in7 (List.mem_of_getElem? (i := 162) rfl)) rfl, ?_⟩
  refine List.forall_mem_cons.mpr ⟨fun mt h => by cases h; exact am_tb (am_in7 (List.mem_of_getElem? (i := 182) rfl)) rfl, ?_⟩
  refine List.forall_mem_cons.mpr ⟨fun mt h => by cases h; exact am_tb (am_in7 (List.mem_of_getElem? (i := 186) rfl)) rfl, ?_⟩
  refine List.forall_mem_cons.mpr ⟨fun mt h => by cases h; exact am_tb (am_in7 (List.mem_of_getElem? (i := 178) rfl)) rfl, ?_⟩
  refine List.forall_mem_cons.mpr ⟨fun mt h => by cases h; exact am_tb (am_in7 (List.mem_of_getElem? (i := 198) rfl)) rfl, ?_⟩
  refine List.forall_mem_cons.mpr ⟨fun mt h => by cases h; exact am_tb (am_in7 (List.mem_of_getElem? (i := 194) rfl)) rfl, ?_⟩
  refine List.forall_mem_cons.mpr ⟨fun mt h => by cases h; exact am_tb (am_in7 (List.mem_of_getElem? (i := 190) rfl)) rfl, ?_⟩
  refine List.forall_mem_cons.mpr ⟨fun mt h => by cases h; exact am_tb (am_in7 (List.mem_of_getElem? (i := 206) rfl)) rfl, ?_⟩
  refine List.forall_mem_cons.mpr ⟨fun mt h => by cases h; exact am_tb (am_in7 (List.mem_of_getElem? (i := 202) rfl)) rfl, ?_⟩
  refine List.forall_mem_cons.mpr ⟨fun mt h => by cases h; exact am_tb (am_in7 (List.mem_of_getElem? (i := 230) rfl)) rfl, ?_⟩
  refine List.forall_mem_cons.mpr ⟨fun mt h => by cases h; exact am_tb (am_in3 (List.mem_of_getElem? (i := 64) rfl)) rfl, ?_⟩
  refine List.forall_mem_cons.mpr ⟨fun mt h => by cases h; exact am_tb (am_in3 (List.mem_of_getElem? (i := 74) rfl)) rfl, ?_⟩
  refine List.forall_mem_cons.mpr ⟨fun mt h => by cases h; exact am_tb (am_in3 (List.mem_of_getElem? (i := 78) rfl)) rfl, ?_⟩
  refine List.forall_mem_cons.mpr ⟨fun mt h => by cases h; exact am_tb (am_in3 (List.mem_of_getElem? (i := 151) rfl)) rfl, ?_⟩
  refine List.forall_mem_cons.mpr ⟨fun mt h => by cases h; exact am_tb (am_in3 (List.mem_of_getElem? (i := 147) rfl)) rfl, ?_⟩
  refine List.forall_mem_cons.mpr ⟨fun mt h => by cases h; exact am_tb (am_in3 (List.mem_of_getElem? (i := 152) rfl)) rfl, ?_⟩
  refine List.forall_mem_cons.mpr ⟨fun mt h => by cases h; exact am_tb (am_in3 (List.mem_of_getElem? (i := 86) rfl)) rfl, ?_⟩
  refine List.forall_mem_cons.mpr ⟨fun mt h => by cases h; exact am_tb (am_in3 (List.mem_of_getElem? (i := 81) rfl)) rfl, ?_⟩
  refine List.forall_mem_cons.mpr ⟨fun mt h => by cases h; exact am_tb (am_in3 (List.mem_of_getElem? (i := 155) rfl)) rfl, ?_⟩
  refine List.forall_mem_cons.mpr ⟨fun mt h => by cases h; exact am_tb (am_in3 (List.mem_of_getElem? (i := 160) rfl)) rfl, ?_⟩
  exact fun _ h => absurd h List.not_mem_nil
def am_nlk : List (Nat × Nat × Nat) := [(9, 19, 198), (9, 26, 126), (9, 38, 158), (9, 323, 127), (2, 149, 252), (2, 164, 253), (3, 56, 252), (7, 25, 252)]
def am_nlkP (x : Nat × Nat × Nat) : Prop := ∀ mt, am_ML[x.2.2]? = some mt → ∃ host, (am_on x.1, x.2.1, mt.1, host) ∈ am_nestM
set_option maxRecDepth 100000 in
theorem am_nlkOk : ∀ x ∈ am_nlk, am_nlkP x := by
  unfold am_nlk
  refine List.forall_mem_cons.mpr ⟨fun mt h => by cases h; exact ⟨"BookedEmpty", List.mem_of_getElem? (i := 0) rfl⟩, ?_⟩
  refine List.forall_mem_cons.mpr ⟨fun mt h => by cases h; exact ⟨"BookedEmpty", List.mem_of_getElem? (i := 1) rfl⟩, ?_⟩
  refine List.forall_mem_cons.mpr ⟨fun mt h => by cases h; exact ⟨"BookedEmpty", List.mem_of_getElem? (i := 2) rfl⟩, ?_⟩
  refine List.forall_mem_cons.mpr ⟨fun mt h => by cases h; exact ⟨"BookedEmpty", List.mem_of_getElem? (i := 3) rfl⟩, ?_⟩
  refine List.forall_mem_cons.mpr ⟨fun mt h => by cases h; exact ⟨"BookedEmpty", List.mem_of_getElem? (i := 4) rfl⟩, ?_⟩
  refine List.forall_mem_cons.mpr ⟨fun mt h => by cases h; exact ⟨"BookedEmpty", List.mem_of_getElem? (i := 5) rfl⟩, ?_⟩
  refine List.forall_mem_cons.mpr ⟨fun mt h => by cases h; exact ⟨"BookedEmpty", List.mem_of_getElem? (i := 6) rfl⟩, ?_⟩
  refine List.forall_mem_cons.mpr ⟨fun mt h => by cases h; exact ⟨"BookedEmpty", List.mem_of_getElem? (i := 7) rfl⟩, ?_⟩
  exact fun _ h => absurd h List.not_mem_nil
def am_mi : List (Bool × Bool × Nat) := [(false, false, 0), (false, true, 3), (false, true, 2), (false, true, 2), (false, true, 1), (false, true, 1), (false, true, 1), (false, true, 1), (false, true, 1), (false, true, 1), (false, true, 5), (false, true, 2), (false, true, 3), (false, true, 1), (false, true, 0), (false, true, 1), (false, true, 2), (false, true, 0), (false, true, 0), (false, true, 1), (false, true, 0), (false, true, 1), (false, true, 1), (false, true, 0), (false, true, 1), (false, true, 1), (false, true, 1), (false, true, 1), (false, true, 0), (false, true, 0), (false, true, 0), (false, true, 2), (false, true, 0), (false, true, 0), (false, true, 3), (false, true, 3), (false, true, 2), (false, true, 1), (false, true, 1), (false, true, 1), (false, true, 1), (false, true, 2), (false, true, 2), (false, true, 2), (false, true, 2), (false, true, 2), (false, true, 2), (false, true, 2), (false, true, 1), (false, true, 2), (false, true, 1), (false, true, 2), (false, true, 2), (false, true, 2), (false, true, 2), (false, true, 1), (false, true, 1), (false, true, 1), (false, true, 1), (false, true, 2), (false, true, 0), (false, true, 1), (false, true, 1), (false, true, 1), (false, true, 1), (false, true, 1), (false, true, 2), (false, true, 1), (false, true, 0), (false, true, 0), (false, true, 1), (false, true, 0), (false, true, 0), (false, true, 0), (false, true, 0), (false, true, 1), (false, true, 1), (false, true, 3), (false, true, 4), (false, true, 0), (false, true, 2), (false, true, 1), (false, true, 2), (false, true, 3), (false, true, 2), (false, true, 2), (false, true, 2), (false, true, 1), (false, true, 2), (false, true, 0), (false, true, 2), (false, true, 0), (false, true, 0), (false, true, 1), (false, true, 2), (false, true, 2), (false, true, 2), (false, true, 2), (false, true, 2), (false, true, 2), (false, true, 2), (false, true, 3), (false, true, 1), (false, true, 2), (false, true, 1), (false, true, 1), (false, true, 3), (false, true, 2), (false, true, 3), (false, true, 2), (false, true, 5), (true, false, 1), (true, false, 1), (false, true, 0), (false, true, 0), (false, true, 1), (false, true, 1), (false, true, 2), (false, true, 0), (false, true, 0), (true, false, 2), (true, false, 2), (true, false, 1), (true, false, 4), (true, false, 4), (true, false, 3), (false, false, 0), (false, true, 5), (true, false, 2), (false, true, 1), (false, false, 1), (false, true, 5), (false, true, 1), (false, true, 1), (false, true, 0), (false, true, 0), (false, false, 1), (false, true, 1), (false, true, 1), (false, true, 1), (false, true, 1), (false, true, 1), (false, true, 2), (false, true, 1), (false, true, 2), (false, true, 2), (false, true, 2), (false, true, 2), (false, true, 2), (false, true, 2), (false, true, 2), (false, true, 1), (false, true, 1), (false, true, 1), (false, true, 0), (false, true, 0), (false, true, 0), (false, true, 0), (false, false, 0), (false, true, 0), (false, true, 1), (false, true, 3), (false, true, 1), (false, true, 2), (false, true, 4), (true, false, 2), (true, false, 3), (false, false, 1), (false, true, 1), (false, true, 1), (false, true, 0), (false, true, 1), (false, true, 1), (false, true, 0), (false, true, 1), (true, false, 1), (false, true, 1), (false, true, 1), (false, true, 1), (false, true, 1), (false, true, 0), (false, false, 1), (false, true, 1), (false, true, 1), (false, false, 1), (false, true, 0), (false, true, 4), (false, true, 1), (false, false, 0), (false, true, 1), (false, true, 1), (false, true, 1), (false, true, 2), (false, true, 3), (false, true, 1), (false, true, 3), (false, true, 3), (true, false, 2), (false, false, 0), (false, true, 3), (false, true, 3), (false, true, 3), (false, true, 2), (false, false, 0), (false, true, 1), (false, true, 5), (false, true, 2), (false, true, 2), (false, true, 2), (false, true, 2), (false, true, 3), (false, true, 2), (false, true, 2), (false, true, 2), (false, true, 1), (false, true, 0), (false, true, 1), (false, true, 1), (false, true, 1), (false, true, 2), (false, true, 1), (false, true, 1), (false, true, 1), (false, true, 1), (false, true, 0), (false, true, 0), (false, true, 0), (false, true, 1), (false, true, 3), (false, true, 4), (false, true, 2), (false, true, 1), (false, true, 2), (false, true, 2), (false, true, 2), (false, true, 1), (false, true, 2), (false, true, 0), (false, true, 2), (false, true, 0), (false, true, 0), (false, true, 3), (false, true, 1), (false, true, 2), (true, false, 2), (false, true, 1), (false, true, 3), (false, true, 3), (false, true, 2), (false, true, 5), (true, false, 3), (true, false, 1), (true, false, 1), (true, false, 2), (true, false, 3)]
def am_miP (x : am_Mt × (Bool × Bool × Nat)) : Prop := Cond.code x.1.1 x.1.2.1 x.1.2.2.1 x.1.2.2.2.1 ∈ am_tbl ∧ Cond.initialized x.1.1.cls ∈ am_tbl ∧ plainName x.1.1.cls = true ∧
  (x.1.1.cls ≠ "java/lang/invoke/MethodHandle" ∧ x.1.1.cls ≠ "java/lang/invoke/VarHandle" ∧ (parseMethodDescriptor x.1.1.desc).map (fun d => d.parameters.length) = some x.2.2.2) ∧ x.1.2.2.1 ≤ 60 ∧
  (bif x.2.1 then Cond.static x.1.1 ∈ am_tbl else Cond.instanceMethod x.1.1 ∈ am_tbl) ∧ (x.2.2.1 = true → Cond.selects x.1.1.cls x.1.1 x.1.1 ∈ am_tbl)
theorem am_mi0 : am_miP (am_m0, (false, false, 0)) := ⟨am_tb (am_in5 (List.mem_of_getElem? (i := 28) rfl)) rfl, am_tb (am_in1 (List.mem_of_getElem? (i := 11) rfl)) rfl, by decide +kernel, ⟨by decide +kernel, by decide +kernel, by decide +kernel⟩, by decide, am_tb (am_in5 (List.mem_of_getElem? (i := 27) rfl)) rfl, fun h => by cases h⟩
theorem am_mi1 : am_miP (am_m1, (false, true, 3)) := ⟨am_tb (am_in6 (List.mem_of_getElem? (i := 52) rfl)) rfl, am_tb (am_in1 (List.mem_of_getElem? (i := 11) rfl)) rfl, by decide +kernel, ⟨by decide +kernel, by decide +kernel, by decide +kernel⟩, by decide, am_tb (am_in6 (List.mem_of_getElem? (i := 51) rfl)) rfl, fun _ => am_tb (List.mem_append_left _ (List.mem_of_getElem? (i := 22) rfl)) rfl⟩
theorem am_mi2 : am_miP (am_m2, (false, true, 2)) := ⟨am_tb (am_in6 (List.mem_of_getElem? (i := 72) rfl)) rfl, am_tb (am_in1 (List.mem_of_getElem? (i := 11) rfl)) rfl, by decide +kernel, ⟨by decide +kernel, by decide +kernel, by decide +kernel⟩, by decide, am_tb (am_in6 (List.mem_of_getElem? (i := 71) rfl)) rfl, fun _ => am_tb (List.mem_append_left _ (List.mem_of_getElem? (i := 25) rfl)) rfl⟩
theorem am_mi3 : am_miP (am_m3, (false, true, 2)) := ⟨am_tb (am_in6 (List.mem_of_getElem? (i := 184) rfl)) rfl, am_tb (am_in1 (List.mem_of_getElem? (i := 11) rfl)) rfl, by decide +kernel, ⟨by decide +kernel, by decide +kernel, by decide +kernel⟩, by decide, am_tb (am_in6 (List.mem_of_getElem? (i := 183) rfl)) rfl, fun _ => am_tb (List.mem_append_left _ (List.mem_of_getElem? (i := 49) rfl)) rfl⟩
theorem am_mi4 : am_miP (am_m4, (false, true, 1)) := ⟨am_tb (am_in7 (List.mem_of_getElem? (i := 92) rfl)) rfl, am_tb (am_in1 (List.mem_of_getElem? (i := 11) rfl)) rfl, by decide +kernel, ⟨by decide +kernel, by decide +kernel, by decide +kernel⟩, by decide, am_tb (am_in7 (List.mem_of_getElem? (i := 91) rfl)) rfl, fun _ => am_tb (List.mem_append_left _ (List.mem_of_getElem? (i := 75) rfl)) rfl⟩
theorem am_mi5 : am_miP (am_m5, (false, true, 1)) := ⟨am_tb (am_in6 (List.mem_of_getElem? (i := 68) rfl)) rfl, am_tb (am_in1 (List.mem_of_getElem? (i := 11) rfl)) rfl, by decide +kernel, ⟨by decide +kernel, by decide +kernel, by decide +kernel⟩, by decide, am_tb (am_in6 (List.mem_of_getElem? (i := 67) rfl)) rfl, fun _ => am_tb (List.mem_append_left _ (List.mem_of_getElem? (i := 24) rfl)) rfl⟩
theorem am_mi6 : am_miP (am_m6, (false, true, 1)) := ⟨am_tb (am_in6 (List.mem_of_getElem? (i := 80) rfl)) rfl, am_tb (am_in1 (List.mem_of_getElem? (i := 11) rfl)) rfl, by decide +kernel, ⟨by decide +kernel, by decide +kernel, by decide +kernel⟩, by decide, am_tb (am_in6 (List.mem_of_getElem? (i := 79) rfl)) rfl, fun _ => am_tb (List.mem_append_left _ (List.mem_of_getElem? (i := 26) rfl)) rfl⟩
theorem am_mi7 : am_miP (am_m7, (false, true, 1)) := ⟨am_tb (am_in6 (List.mem_of_getElem? (i := 60) rfl)) rfl, am_tb (am_in1 (List.mem_of_getElem? (i := 11) rfl)) rfl, by decide +kernel, ⟨by decide +kernel, by decide +kernel, by decide +kernel⟩, by decide, am_tb (am_in6 (List.mem_of_getElem? (i := 59) rfl)) rfl, fun _ => am_tb (List.mem_append_left _ (List.mem_of_getElem? (i := 23) rfl)) rfl⟩
theorem am_mi8 : am_miP (am_m8, (false, true, 1)) := ⟨am_tb (am_in6 (List.mem_of_getElem? (i := 48) rfl)) rfl, am_tb (am_in1 (List.mem_of_getElem? (i := 11) rfl)) rfl, by decide +kernel, ⟨by decide +kernel, by decide +kernel, by decide +kernel⟩, by decide, am_tb (am_in6 (List.mem_of_getElem? (i := 47) rfl)) rfl, fun _ => am_tb (List.mem_append_left _ (List.mem_of_getElem? (i := 21) rfl)) rfl⟩
theorem am_mi9 : am_miP (am_m9, (false, true, 1)) := ⟨am_tb (am_in6 (List.mem_of_getElem? (i := 44) rfl)) rfl, am_tb (am_in1 (List.mem_of_getElem? (i := 11) rfl)) rfl, by decide +kernel, ⟨by decide +kernel, by decide +kernel, by decide +kernel⟩, by decide, am_tb (am_in6 (List.mem_of_getElem? (i := 42) rfl)) rfl, fun _ => am_tb (am_in6 (List.mem_of_getElem? (i := 43) rfl)) rfl⟩
theorem am_mi10 : am_miP (am_m10, (false, true, 5)) := ⟨am_tb (am_in6 (List.mem_of_getElem? (i := 56) rfl)) rfl, am_tb (am_in1 (List.mem_of_getElem? (i := 11) rfl)) rfl, by decide +kernel, ⟨by decide +kernel, by decide +kernel, by decide +kernel⟩, by decide, am_tb (am_in6 (List.mem_of_getElem? (i := 54) rfl)) rfl, fun _ => am_tb (am_in6 (List.mem_of_getElem? (i := 55) rfl)) rfl⟩
theorem am_mi11 : am_miP (am_m11, (false, true, 2)) := ⟨am_tb (am_in6 (List.mem_of_getElem? (i := 64) rfl)) rfl, am_tb (am_in1 (List.mem_of_getElem? (i := 11) rfl)) rfl, by decide +kernel, ⟨by decide +kernel, by decide +kernel, by decide +kernel⟩, by decide, am_tb (am_in6 (List.mem_of_getElem? (i := 62) rfl)) rfl, fun _ => am_tb (am_in6 (List.mem_of_getElem? (i := 63) rfl)) rfl⟩
theorem am_mi12 : am_miP (am_m12, (false, true, 3)) := ⟨am_tb (am_in6 (List.mem_of_getElem? (i := 76) rfl)) rfl, am_tb (am_in1 (List.mem_of_getElem? (i := 11) rfl)) rfl, by decide +kernel, ⟨by decide +kernel, by decide +kernel, by decide +kernel⟩, by decide, am_tb (am_in6 (List.mem_of_getElem? (i := 74) rfl)) rfl, fun _ => am_tb (am_in6 (List.mem_of_getElem? (i := 75) rfl)) rfl⟩
theorem am_mi13 : am_miP (am_m13, (false, true, 1)) := ⟨am_tb (am_in6 (List.mem_of_getElem? (i := 84) rfl)) rfl, am_tb (am_in1 (List.mem_of_getElem? (i := 11) rfl)) rfl, by decide +kernel, ⟨by decide +kernel, by decide +kernel, by decide +kernel⟩, by decide, am_tb (am_in6 (List.mem_of_getElem? (i := 82) rfl)) rfl, fun _ => am_tb (am_in6 (List.mem_of_getElem? (i := 83) rfl)) rfl⟩
theorem am_mi14 : am_miP (am_m14, (false, true, 0)) := ⟨am_tb (am_in6 (List.mem_of_getElem? (i := 104) rfl)) rfl, am_tb (am_in1 (List.mem_of_getElem? (i := 11) rfl)) rfl, by decide +kernel, ⟨by decide +kernel, by decide +kernel, by decide +kernel⟩, by decide, am_tb (am_in6 (List.mem_of_getElem? (i := 103) rfl)) rfl, fun _ => am_tb (List.mem_append_left _ (List.mem_of_getElem? (i := 30) rfl)) rfl⟩
theorem am_mi15 : am_miP (am_m15, (false, true, 1)) := ⟨am_tb (am_in6 (List.mem_of_getElem? (i := 112) rfl)) rfl, am_tb (am_in1 (List.mem_of_getElem? (i := 11) rfl)) rfl, by decide +kernel, ⟨by decide +kernel, by decide +kernel, by decide +kernel⟩, by decide, am_tb (am_in6 (List.mem_of_getElem? (i := 111) rfl)) rfl, fun _ => am_tb (List.mem_append_left _ (List.mem_of_getElem? (i := 32) rfl)) rfl⟩
theorem am_mi16 : am_miP (am_m16, (false, true, 2)) := ⟨am_tb (am_in6 (List.mem_of_getElem? (i := 108) rfl)) rfl, am_tb (am_in1 (List.mem_of_getElem? (i := 11) rfl)) rfl, by decide +kernel, ⟨by decide +kernel, by decide +kernel, by decide +kernel⟩, by decide, am_tb (am_in6 (List.mem_of_getElem? (i := 107) rfl)) rfl, fun _ => am_tb (List.mem_append_left _ (List.mem_of_getElem? (i := 31) rfl)) rfl⟩
theorem am_mi17 : am_miP (am_m17, (false, true, 0)) := ⟨am_tb (am_in6 (List.mem_of_getElem? (i := 120) rfl)) rfl, am_tb (am_in1 (List.mem_of_getElem? (i := 11) rfl)) rfl, by decide +kernel, ⟨by decide +kernel, by decide +kernel, by decide +kernel⟩, by decide, am_tb (am_in6 (List.mem_of_getElem? (i := 119) rfl)) rfl, fun _ => am_tb (List.mem_append_left _ (List.mem_of_getElem? (i := 34) rfl)) rfl⟩
theorem am_mi18 : am_miP (am_m18, (false, true, 0)) := ⟨am_tb (am_in6 (List.mem_of_getElem? (i := 116) rfl)) rfl, am_tb (am_in1 (List.mem_of_getElem? (i := 11) rfl)) rfl, by decide +kernel, ⟨by decide +kernel, by decide +kernel, by decide +kernel⟩, by decide, am_tb (am_in6 (List.mem_of_getElem? (i := 115) rfl)) rfl, fun _ => am_tb (List.mem_append_left _ (List.mem_of_getElem? (i := 33) rfl)) rfl⟩
theorem am_mi19 : am_miP (am_m19, (false, true, 1)) := ⟨am_tb (am_in6 (List.mem_of_getElem? (i := 136) rfl)) rfl, am_tb (am_in1 (List.mem_of_getElem? (i := 11) rfl)) rfl, by decide +kernel, ⟨by decide +kernel, by decide +kernel, by decide +kernel⟩, by decide, am_tb (am_in6 (List.mem_of_getElem? (i := 135) rfl)) rfl, fun _ => am_tb (List.mem_append_left _ (List.mem_of_getElem? (i := 38) rfl)) rfl⟩
theorem am_mi20 : am_miP (am_m20, (false, true, 0)) := ⟨am_tb (am_in6 (List.mem_of_getElem? (i := 140) rfl)) rfl, am_tb (am_in1 (List.mem_of_getElem? (i := 11) rfl)) rfl, by decide +kernel, ⟨by decide +kernel, by decide +kernel, by decide +kernel⟩, by decide, am_tb (am_in6 (List.mem_of_getElem? (i := 139) rfl)) rfl, fun _ => am_tb (List.mem_append_left _ (List.mem_of_getElem? (i := 39) rfl)) rfl⟩
theorem am_mi21 : am_miP (am_m21, (false, true, 1)) := ⟨am_tb (am_in6 (List.mem_of_getElem? (i := 144) rfl)) rfl, am_tb (am_in1 (List.mem_of_getElem? (i := 11) rfl)) rfl, by decide +kernel, ⟨by decide +kernel, by decide +kernel, by decide +kernel⟩, by decide, am_tb (am_in6 (List.mem_of_getElem? (i := 143) rfl)) rfl, fun _ => am_tb (List.mem_append_left _ (List.mem_of_getElem? (i := 40) rfl)) rfl⟩
theorem am_mi22 : am_miP (am_m22, (false, true, 1)) := ⟨am_tb (am_in6 (List.mem_of_getElem? (i := 132) rfl)) rfl, am_tb (am_in1 (List.mem_of_getElem? (i := 11) rfl)) rfl, by decide +kernel, ⟨by decide +kernel, by decide +kernel, by decide +kernel⟩, by decide, am_tb (am_in6 (List.mem_of_getElem? (i := 131) rfl)) rfl, fun _ => am_tb (List.mem_append_left _ (List.mem_of_getElem? (i := 37) rfl)) rfl⟩
theorem am_mi23 : am_miP (am_m23, (false, true, 0)) := ⟨am_tb (am_in6 (List.mem_of_getElem? (i := 128) rfl)) rfl, am_tb (am_in1 (List.mem_of_getElem? (i := 11) rfl)) rfl, by decide +kernel, ⟨by decide +kernel, by decide +kernel, by decide +kernel⟩, by decide, am_tb (am_in6 (List.mem_of_getElem? (i := 127) rfl)) rfl, fun _ => am_tb (List.mem_append_left _ (List.mem_of_getElem? (i := 36) rfl)) rfl⟩
theorem am_mi24 : am_miP (am_m24, (false, true, 1)) := ⟨am_tb (am_in6 (List.mem_of_getElem? (i := 124) rfl)) rfl, am_tb (am_in1 (List.mem_of_getElem? (i := 11) rfl)) rfl, by decide +kernel, ⟨by decide +kernel, by decide +kernel, by decide +kernel⟩, by decide, am_tb (am_in6 (List.mem_of_getElem? (i := 123) rfl)) rfl, fun _ => am_tb (List.mem_append_left _ (List.mem_of_getElem? (i := 35) rfl)) rfl⟩
theorem am_mi25 : am_miP (am_m25, (false, true, 1)) := ⟨am_tb (am_in6 (List.mem_of_getElem? (i := 100) rfl)) rfl, am_tb (am_in1 (List.mem_of_getElem? (i := 11) rfl)) rfl, by decide +kernel, ⟨by decide +kernel, by decide +kernel, by decide +kernel⟩, by decide, am_tb (am_in6 (List.mem_of_getElem? (i := 99) rfl)) rfl, fun _ => am_tb (List.mem_append_left _ (List.mem_of_getElem? (i := 29) rfl)) rfl⟩
theorem am_mi26 : am_miP (am_m26, (false, true, 1)) := ⟨am_tb (am_in6 (List.mem_of_getElem? (i := 96) rfl)) rfl, am_tb (am_in1 (List.mem_of_getElem? (i := 11) rfl)) rfl, by decide +kernel, ⟨by decide +kernel, by decide +kernel, by decide +kernel⟩, by decide, am_tb (am_in6 (List.mem_of_getElem? (i := 95) rfl)) rfl, fun _ => am_tb (List.mem_append_left _ (List.mem_of_getElem? (i := 28) rfl)) rfl⟩
theorem am_mi27 : am_miP (am_m27, (false, true, 1)) := ⟨am_tb (am_in6 (List.mem_of_getElem? (i := 92) rfl)) rfl, am_tb (am_in1 (List.mem_of_getElem? (i := 11) rfl)) rfl, by decide +kernel, ⟨by decide +kernel, by decide +kernel, by decide +kernel⟩, by decide, am_tb (am_in6 (List.mem_of_getElem? (i := 91) rfl)) rfl, fun _ => am_tb (List.mem_append_left _ (List.mem_of_getElem? (i := 27) rfl)) rfl⟩
theorem am_mi28 : am_miP (am_m28, (false, true, 0)) := ⟨am_tb (am_in6 (List.mem_of_getElem? (i := 88) rfl)) rfl, am_tb (am_in1 (List.mem_of_getElem? (i := 11) rfl)) rfl, by decide +kernel, ⟨by decide +kernel, by decide +kernel, by decide +kernel⟩, by decide, am_tb (am_in6 (List.mem_of_getElem? (i := 86) rfl)) rfl, fun _ => am_tb (am_in6 (List.mem_of_getElem? (i := 87) rfl)) rfl⟩
theorem am_mi29 : am_miP (am_m29, (false, true, 0)) := ⟨am_tb (am_in6 (List.mem_of_getElem? (i := 176) rfl)) rfl, am_tb (am_in1 (List.mem_of_getElem? (i := 11) rfl)) rfl, by decide +kernel, ⟨by decide +kernel, by decide +kernel, by decide +kernel⟩, by decide, am_tb (am_in6 (List.mem_of_getElem? (i := 175) rfl)) rfl, fun _ => am_tb (List.mem_append_left _ (List.mem_of_getElem? (i := 47) rfl)) rfl⟩
theorem am_mi30 : am_miP (am_m30, (false, true, 0)) := ⟨am_tb (am_in6 (List.mem_of_getElem? (i := 180) rfl)) rfl, am_tb (am_in1 (List.mem_of_getElem? (i := 11) rfl)) rfl, by decide +kernel, ⟨by decide +kernel, by decide +kernel, by decide +kernel⟩, by decide, am_tb (am_in6 (List.mem_of_getElem? (i := 179) rfl)) rfl, fun _ => am_tb (List.mem_append_left _ (List.mem_of_getElem? (i := 48) rfl)) rfl⟩
theorem am_mi31 : am_miP (am_m31, (false, true, 2)) := ⟨am_tb (am_in6 (List.mem_of_getElem? (i := 172) rfl)) rfl, am_tb (am_in1 (List.mem_of_getElem? (i := 11) rfl)) rfl, by decide +kernel, ⟨by decide +kernel, by decide +kernel, by decide +kernel⟩, by decide, am_tb (am_in6 (List.mem_of_getElem? (i := 171) rfl)) rfl, fun _ => am_tb (List.mem_append_left _ (List.mem_of_getElem? (i := 46) rfl)) rfl⟩
theorem am_mi32 : am_miP (am_m32, (false, true, 0)) := ⟨am_tb (am_in6 (List.mem_of_getElem? (i := 204) rfl)) rfl, am_tb (am_in1 (List.mem_of_getElem? (i := 11) rfl)) rfl, by decide +kernel, ⟨by decide +kernel, by decide +kernel, by decide +kernel⟩, by decide, am_tb (am_in6 (List.mem_of_getElem? (i := 203) rfl)) rfl, fun _ => am_tb (List.mem_append_left _ (List.mem_of_getElem? (i := 53) rfl)) rfl⟩
theorem am_mi33 : am_miP (am_m33, (false, true, 0)) := ⟨am_tb (am_in6 (List.mem_of_getElem? (i := 168) rfl)) rfl, am_tb (am_in1 (List.mem_of_getElem? (i := 11) rfl)) rfl, by decide +kernel, ⟨by decide +kernel, by decide +kernel, by decide +kernel⟩, by decide, am_tb (am_in6 (List.mem_of_getElem? (i := 167) rfl)) rfl, fun _ => am_tb (List.mem_append_left _ (List.mem_of_getElem? (i := 45) rfl)) rfl⟩
theorem am_mi34 : am_miP (am_m34, (false, true, 3)) := ⟨am_tb (am_in7 (List.mem_of_getElem? (i := 0) rfl)) rfl, am_tb (am_in1 (List.mem_of_getElem? (i := 11) rfl)) rfl, by decide +kernel, ⟨by decide +kernel, by decide +kernel, by decide +kernel⟩, by decide, am_tb (am_in6 (List.mem_of_getElem? (i := 239) rfl)) rfl, fun _ => am_tb (List.mem_append_left _ (List.mem_of_getElem? (i := 60) rfl)) rfl⟩
theorem am_mi35 : am_miP (am_m35, (false, true, 3)) := ⟨am_tb (am_in6 (List.mem_of_getElem? (i := 236) rfl)) rfl, am_tb (am_in1 (List.mem_of_getElem? (i := 11) rfl)) rfl, by decide +kernel, ⟨by decide +kernel, by decide +kernel, by decide +kernel⟩, by decide, am_tb (am_in6 (List.mem_of_getElem? (i := 235) rfl)) rfl, fun _ => am_tb (List.mem_append_left _ (List.mem_of_getElem? (i := 59) rfl)) rfl⟩
theorem am_mi36 : am_miP (am_m36, (false, true, 2)) := ⟨am_tb (am_in6 (List.mem_of_getElem? (i := 232) rfl)) rfl, am_tb (am_in1 (List.mem_of_getElem? (i := 11) rfl)) rfl, by decide +kernel, ⟨by decide +kernel, by decide +kernel, by decide +kernel⟩, by decide, am_tb (am_in6 (List.mem_of_getElem? (i := 231) rfl)) rfl, fun _ => am_tb (List.mem_append_left _ (List.mem_of_getElem? (i := 58) rfl)) rfl⟩
theorem am_mi37 : am_miP (am_m37, (false, true, 1)) := ⟨am_tb (am_in6 (List.mem_of_getElem? (i := 160) rfl)) rfl, am_tb (am_in1 (List.mem_of_getElem? (i := 11) rfl)) rfl, by decide +kernel, ⟨by decide +kernel, by decide +kernel, by decide +kernel⟩, by decide, am_tb (am_in6 (List.mem_of_getElem? (i := 159) rfl)) rfl, fun _ => am_tb (List.mem_append_left _ (List.mem_of_getElem? (i := 43) rfl)) rfl⟩
theorem am_mi38 : am_miP (am_m38, (false, true, 1)) := ⟨am_tb (am_in6 (List.mem_of_getElem? (i := 164) rfl)) rfl, am_tb (am_in1 (List.mem_of_getElem? (i := 11) rfl)) rfl, by decide +kernel, ⟨by decide +kernel, by decide +kernel, by decide +kernel⟩, by decide, am_tb (am_in6 (List.mem_of_getElem? (i := 163) rfl)) rfl, fun _ => am_tb (List.mem_append_left _ (List.mem_of_getElem? (i := 44) rfl)) rfl⟩
theorem am_mi39 : am_miP (am_m39, (false, true, 1)) := ⟨am_tb (am_in6 (List.mem_of_getElem? (i := 208) rfl)) rfl, am_tb (am_in1 (List.mem_of_getElem? (i := 11) rfl)) rfl, by decide +kernel, ⟨by decide +kernel, by decide +kernel, by decide +kernel⟩, by decide, am_tb (am_in6 (List.mem_of_getElem? (i := 207) rfl)) rfl, fun _ => am_tb (List.mem_append_left _ (List.mem_of_getElem? (i := 54) rfl)) rfl⟩
theorem am_mi40 : am_miP (am_m40, (false, true, 1)) := ⟨am_tb (am_in6 (List.mem_of_getElem? (i := 200) rfl)) rfl, am_tb (am_in1 (List.mem_of_getElem? (i := 11) rfl)) rfl, by decide +kernel, ⟨by decide +kernel, by decide +kernel, by decide +kernel⟩, by decide, am_tb (am_in6 (List.mem_of_getElem? (i := 199) rfl)) rfl, fun _ => am_tb (List.mem_append_left _ (List.mem_of_getElem? (i := 52) rfl)) rfl⟩
theorem am_mi41 : am_miP (am_m41, (false, true, 2)) := ⟨am_tb (am_in6 (List.mem_of_getElem? (i := 196) rfl)) rfl, am_tb (am_in1 (List.mem_of_getElem? (i := 11) rfl)) rfl, by decide +kernel, ⟨by decide +kernel, by decide +kernel, by decide +kernel⟩, by decide, am_tb (am_in6 (List.mem_of_getElem? (i := 195) rfl)) rfl, fun _ => am_tb (List.mem_append_left _ (List.mem_of_getElem? (i := 51) rfl)) rfl⟩
theorem am_mi42 : am_miP (am_m42, (false, true, 2)) := ⟨am_tb (am_in6 (List.mem_of_getElem? (i := 156) rfl)) rfl, am_tb (am_in1 (List.mem_of_getElem? (i := 11) rfl)) rfl, by decide +kernel, ⟨by decide +kernel, by decide +kernel, by decide +kernel⟩, by decide, am_tb (am_in6 (List.mem_of_getElem? (i := 155) rfl)) rfl, fun _ => am_tb (List.mem_append_left _ (List.mem_of_getElem? (i := 42) rfl)) rfl⟩
theorem am_mi43 : am_miP (am_m43, (false, true, 2)) := ⟨am_tb (am_in6 (List.mem_of_getElem? (i := 152) rfl)) rfl, am_tb (am_in1 (List.mem_of_getElem? (i := 11) rfl)) rfl, by decide +kernel, ⟨by decide +kernel, by decide +kernel, by decide +kernel⟩, by decide, am_tb (am_in6 (List.mem_of_getElem? (i := 151) rfl)) rfl, fun _ => am_tb (List.mem_append_left _ (List.mem_of_getElem? (i := 41) rfl)) rfl⟩
theorem am_mi44 : am_miP (am_m44, (false, true, 2)) := ⟨am_tb (am_in6 (List.mem_of_getElem? (i := 192) rfl)) rfl, am_tb (am_in1 (List.mem_of_getElem? (i := 11) rfl)) rfl, by decide +kernel, ⟨by decide +kernel, by decide +kernel, by decide +kernel⟩, by decide, am_tb (am_in6 (List.mem_of_getElem? (i := 191) rfl)) rfl, fun _ => am_tb (List.mem_append_left _ (List.mem_of_getElem? (i := 50) rfl)) rfl⟩
theorem am_mi45 : am_miP (am_m45, (false, true, 2)) := ⟨am_tb (am_in6 (List.mem_of_getElem? (i := 148) rfl)) rfl, am_tb (am_in1 (List.mem_of_getElem? (i := 11) rfl)) rfl, by decide +kernel, ⟨by decide +kernel, by decide +kernel, by decide +kernel⟩, by decide, am_tb (am_in6 (List.mem_of_getElem? (i := 146) rfl)) rfl, fun _ => am_tb (am_in6 (List.mem_of_getElem? (i := 147) rfl)) rfl⟩
theorem am_mi46 : am_miP (am_m46, (false, true, 2)) := ⟨am_tb (am_in6 (List.mem_of_getElem? (i := 188) rfl)) rfl, am_tb (am_in1 (List.mem_of_getElem? (i := 11) rfl)) rfl, by decide +kernel, ⟨by decide +kernel, by decide +kernel, by decide +kernel⟩, by decide, am_tb (am_in6 (List.mem_of_getElem? (i := 186) rfl)) rfl, fun _ => am_tb (am_in6 (List.mem_of_getElem? (i := 187) rfl)) rfl⟩
theorem am_mi47 : am_miP (am_m47, (false, true, 2)) := ⟨am_tb (am_in6 (List.mem_of_getElem? (i := 216) rfl)) rfl, am_tb (am_in1 (List.mem_of_getElem? (i := 11) rfl)) rfl, by decide +kernel, ⟨by decide +kernel, by decide +kernel, by decide +kernel⟩, by decide, am_tb (am_in6 (List.mem_of_getElem? (i := 215) rfl)) rfl, fun _ => am_tb (List.mem_append_left _ (List.mem_of_getElem? (i := 55) rfl)) rfl⟩
theorem am_mi48 : am_miP (am_m48, (false, true, 1)) := ⟨am_tb (am_in7 (List.mem_of_getElem? (i := 28) rfl)) rfl, am_tb (am_in1 (List.mem_of_getElem? (i := 11) rfl)) rfl, by decide +kernel, ⟨by decide +kernel, by decide +kernel, by decide +kernel⟩, by decide, am_tb (am_in7 (List.mem_of_getElem? (i := 27) rfl)) rfl, fun _ => am_tb (List.mem_append_left _ (List.mem_of_getElem? (i := 63) rfl)) rfl⟩
theorem am_mi49 : am_miP (am_m49, (false, true, 2)) := ⟨am_tb (am_in6 (List.mem_of_getElem? (i := 212) rfl)) rfl, am_tb (am_in1 (List.mem_of_getElem? (i := 11) rfl)) rfl, by decide +kernel, ⟨by decide +kernel, by decide +kernel, by decide +kernel⟩, by decide, am_tb (am_in6 (List.mem_of_getElem? (i := 210) rfl)) rfl, fun _ => am_tb (am_in6 (List.mem_of_getElem? (i := 211) rfl)) rfl⟩
theorem am_mi50 : am_miP (am_m50, (false, true, 1)) := ⟨am_tb (am_in6 (List.mem_of_getElem? (i := 228) rfl)) rfl, am_tb (am_in1 (List.mem_of_getElem? (i := 11) rfl)) rfl, by decide +kernel, ⟨by decide +kernel, by decide +kernel, by decide +kernel⟩, by decide, am_tb (am_in6 (List.mem_of_getElem? (i := 227) rfl)) rfl, fun _ => am_tb (List.mem_append_left _ (List.mem_of_getElem? (i := 57) rfl)) rfl⟩
theorem am_mi51 : am_miP (am_m51, (false, true, 2)) := ⟨am_tb (am_in6 (List.mem_of_getElem? (i := 224) rfl)) rfl, am_tb (am_in1 (List.mem_of_getElem? (i := 11) rfl)) rfl, by decide +kernel, ⟨by decide +kernel, by decide +kernel, by decide +kernel⟩, by decide, am_tb (am_in6 (List.mem_of_getElem? (i := 223) rfl)) rfl, fun _ => am_tb (List.mem_append_left _ (List.mem_of_getElem? (i := 56) rfl)) rfl⟩
theorem am_mi52 : am_miP (am_m52, (false, true, 2)) := ⟨am_tb (am_in7 (List.mem_of_getElem? (i := 8) rfl)) rfl, am_tb (am_in1 (List.mem_of_getElem? (i := 11) rfl)) rfl, by decide +kernel, ⟨by decide +kernel, by decide +kernel, by decide +kernel⟩, by decide, am_tb (am_in7 (List.mem_of_getElem? (i := 7) rfl)) rfl, fun _ => am_tb (List.mem_append_left _ (List.mem_of_getElem? (i := 61) rfl)) rfl⟩
theorem am_mi53 : am_miP (am_m53, (false, true, 2)) := ⟨am_tb (am_in6 (List.mem_of_getElem? (i := 220) rfl)) rfl, am_tb (am_in1 (List.mem_of_getElem? (i := 11) rfl)) rfl, by decide +kernel, ⟨by decide +kernel, by decide +kernel, by decide +kernel⟩, by decide, am_tb (am_in6 (List.mem_of_getElem? (i := 218) rfl)) rfl, fun _ => am_tb (am_in6 (List.mem_of_getElem? (i := 219) rfl)) rfl⟩
theorem am_mi54 : am_miP (am_m54, (false, true, 2)) := ⟨am_tb (am_in7 (List.mem_of_getElem? (i := 4) rfl)) rfl, am_tb (am_in1 (List.mem_of_getElem? (i := 11) rfl)) rfl, by decide +kernel, ⟨by decide +kernel, by decide +kernel, by decide +kernel⟩, by decide, am_tb (am_in7 (List.mem_of_getElem? (i := 2) rfl)) rfl, fun _ => am_tb (am_in7 (List.mem_of_getElem? (i := 3) rfl)) rfl⟩
theorem am_mi55 : am_miP (am_m55, (false, true, 1)) := ⟨am_tb (am_in7 (List.mem_of_getElem? (i := 12) rfl)) rfl, am_tb (am_in1 (List.mem_of_getElem? (i := 11) rfl)) rfl, by decide +kernel, ⟨by decide +kernel, by decide +kernel, by decide +kernel⟩, by decide, am_tb (am_in7 (List.mem_of_getElem? (i := 10) rfl)) rfl, fun _ => am_tb (am_in7 (List.mem_of_getElem? (i := 11) rfl)) rfl⟩
theorem am_mi56 : am_miP (am_m56, (false, true, 1)) := ⟨am_tb (am_in7 (List.mem_of_getElem? (i := 16) rfl)) rfl, am_tb (am_in1 (List.mem_of_getElem? (i := 11) rfl)) rfl, by decide +kernel, ⟨by decide +kernel, by decide +kernel, by decide +kernel⟩, by decide, am_tb (am_in7 (List.mem_of_getElem? (i := 14) rfl)) rfl, fun _ => am_tb (am_in7 (List.mem_of_getElem? (i := 15) rfl)) rfl⟩
theorem am_mi57 : am_miP (am_m57, (false, true, 1)) := ⟨am_tb (am_in7 (List.mem_of_getElem? (i := 24) rfl)) rfl, am_tb (am_in1 (List.mem_of_getElem? (i := 11) rfl)) rfl, by decide +kernel, ⟨by decide +kernel, by decide +kernel, by decide +kernel⟩, by decide, am_tb (am_in7 (List.mem_of_getElem? (i := 23) rfl)) rfl, fun _ => am_tb (List.mem_append_left _ (List.mem_of_getElem? (i := 62) rfl)) rfl⟩
theorem am_mi58 : am_miP (am_m58, (false, true, 1)) := ⟨am_tb (am_in7 (List.mem_of_getElem? (i := 20) rfl)) rfl, am_tb (am_in1 (List.mem_of_getElem? (i := 11) rfl)) rfl, by decide +kernel, ⟨by decide +kernel, by decide +kernel, by decide +kernel⟩, by decide, am_tb (am_in7 (List.mem_of_getElem? (i := 18) rfl)) rfl, fun _ => am_tb (am_in7 (List.mem_of_getElem? (i := 19) rfl)) rfl⟩
theorem am_mi59 : am_miP (am_m59, (false, true, 2)) := ⟨am_tb (am_in7 (List.mem_of_getElem? (i := 32) rfl)) rfl, am_tb (am_in1 (List.mem_of_getElem? (i := 11) rfl)) rfl, by decide +kernel, ⟨by decide +kernel, by decide +kernel, by decide +kernel⟩, by decide, am_tb (am_in7 (List.mem_of_getElem? (i := 30) rfl)) rfl, fun _ => am_tb (am_in7 (List.mem_of_getElem? (i := 31) rfl)) rfl⟩
theorem am_mi60 : am_miP (am_m60, (false, true, 0)) := ⟨am_tb (am_in7 (List.mem_of_getElem? (i := 44) rfl)) rfl, am_tb (am_in1 (List.mem_of_getElem? (i := 11) rfl)) rfl, by decide +kernel, ⟨by decide +kernel, by decide +kernel, by decide +kernel⟩, by decide, am_tb (am_in7 (List.mem_of_getElem? (i := 43) rfl)) rfl, fun _ => am_tb (List.mem_append_left _ (List.mem_of_getElem? (i := 65) rfl)) rfl⟩
theorem am_mi61 : am_miP (am_m61, (false, true, 1)) := ⟨am_tb (am_in7 (List.mem_of_getElem? (i := 48) rfl)) rfl, am_tb (am_in1 (List.mem_of_getElem? (i := 11) rfl)) rfl, by decide +kernel, ⟨by decide +kernel, by decide +kernel, by decide +kernel⟩, by decide, am_tb (am_in7 (List.mem_of_getElem? (i := 47) rfl)) rfl, fun _ => am_tb (List.mem_append_left _ (List.mem_of_getElem? (i := 66) rfl)) rfl⟩
theorem am_mi62 : am_miP (am_m62, (false, true, 1)) := ⟨am_tb (am_in7 (List.mem_of_getElem? (i := 40) rfl)) rfl, am_tb (am_in1 (List.mem_of_getElem? (i := 11) rfl)) rfl, by decide +kernel, ⟨by decide +kernel, by decide +kernel, by decide +kernel⟩, by decide, am_tb (am_in7 (List.mem_of_getElem? (i := 39) rfl)) rfl, fun _ => am_tb (List.mem_append_left _ (List.mem_of_getElem? (i := 64) rfl)) rfl⟩
theorem am_mi63 : am_miP (am_m63, (false, true, 1)) := ⟨am_tb (am_in7 (List.mem_of_getElem? (i := 52) rfl)) rfl, am_tb (am_in1 (List.mem_of_getElem? (i := 11) rfl)) rfl, by decide +kernel, ⟨by decide +kernel, by decide +kernel, by decide +kernel⟩, by decide, am_tb (am_in7 (List.mem_of_getElem? (i := 51) rfl)) rfl, fun _ => am_tb (List.mem_append_left _ (List.mem_of_getElem? (i := 67) rfl)) rfl⟩
theorem am_mi64 : am_miP (am_m64, (false, true, 1)) := ⟨am_tb (am_in7 (List.mem_of_getElem? (i := 36) rfl)) rfl, am_tb (am_in1 (List.mem_of_getElem? (i := 11) rfl)) rfl, by decide +kernel, ⟨by decide +kernel, by decide +kernel, by decide +kernel⟩, by decide, am_tb (am_in7 (List.mem_of_getElem? (i := 34) rfl)) rfl, fun _ => am_tb (am_in7 (List.mem_of_getElem? (i := 35) rfl)) rfl⟩
theorem am_mi65 : am_miP (am_m65, (false, true, 1)) := ⟨am_tb (am_in7 (List.mem_of_getElem? (i := 56) rfl)) rfl, am_tb (am_in1 (List.mem_of_getElem? (i := 11) rfl)) rfl, by decide +kernel, ⟨by decide +kernel, by decide +kernel, by decide +kernel⟩, by decide, am_tb (am_in7 (List.mem_of_getElem? (i := 54) rfl)) rfl, fun _ => am_tb (am_in7 (List.mem_of_getElem? (i := 55) rfl)) rfl⟩
theorem am_mi66 : am_miP (am_m66, (false, true, 2)) := ⟨am_tb (am_in7 (List.mem_of_getElem? (i := 84) rfl)) rfl, am_tb (am_in1 (List.mem_of_getElem? (i := 11) rfl)) rfl, by decide +kernel, ⟨by decide +kernel, by decide +kernel, by decide +kernel⟩, by decide, am_tb (am_in7 (List.mem_of_getElem? (i := 83) rfl)) rfl, fun _ => am_tb (List.mem_append_left _ (List.mem_of_getElem? (i := 73) rfl)) rfl⟩
theorem am_mi67 : am_miP (am_m67, (false, true, 1)) := ⟨am_tb (am_in7 (List.mem_of_getElem? (i := 80) rfl)) rfl, am_tb (am_in1 (List.mem_of_getElem? (i := 11) rfl)) rfl, by decide +kernel, ⟨by decide +kernel, by decide +kernel, by decide +kernel⟩, by decide, am_tb (am_in7 (List.mem_of_getElem? (i := 79) rfl)) rfl, fun _ => am_tb (List.mem_append_left _ (List.mem_of_getElem? (i := 72) rfl)) rfl⟩
theorem am_mi68 : am_miP (am_m68, (false, true, 0)) := ⟨am_tb (am_in7 (List.mem_of_getElem? (i := 76) rfl)) rfl, am_tb (am_in1 (List.mem_of_getElem? (i := 11) rfl)) rfl, by decide +kernel, ⟨by decide +kernel, by decide +kernel, by decide +kernel⟩, by decide, am_tb (am_in7 (List.mem_of_getElem? (i := 75) rfl)) rfl, fun _ => am_tb (List.mem_append_left _ (List.mem_of_getElem? (i := 71) rfl)) rfl⟩
theorem am_mi69 : am_miP (am_m69, (false, true, 0)) := ⟨am_tb (am_in7 (List.mem_of_getElem? (i := 88) rfl)) rfl, am_tb (am_in1 (List.mem_of_getElem? (i := 11) rfl)) rfl, by decide +kernel, ⟨by decide +kernel, by decide +kernel, by decide +kernel⟩, by decide, am_tb (am_in7 (List.mem_of_getElem? (i := 87) rfl)) rfl, fun _ => am_tb (List.mem_append_left _ (List.mem_of_getElem? (i := 74) rfl)) rfl⟩
theorem am_mi70 : am_miP (am_m70, (false, true, 1)) := ⟨am_tb (am_in7 (List.mem_of_getElem? (i := 72) rfl)) rfl, am_tb (am_in1 (List.mem_of_getElem? (i := 11) rfl)) rfl, by decide +kernel, ⟨by decide +kernel, by decide +kernel, by decide +kernel⟩, by decide, am_tb (am_in7 (List.mem_of_getElem? (i := 71) rfl)) rfl, fun _ => am_tb (List.mem_append_left _ (List.mem_of_getElem? (i := 70) rfl)) rfl⟩
theorem am_mi71 : am_miP (am_m71, (false, true, 0)) := ⟨am_tb (am_in7 (List.mem_of_getElem? (i := 68) rfl)) rfl, am_tb (am_in1 (List.mem_of_getElem? (i := 11) rfl)) rfl, by decide +kernel, ⟨by decide +kernel, by decide +kernel, by decide +kernel⟩, by decide, am_tb (am_in7 (List.mem_of_getElem? (i := 67) rfl)) rfl, fun _ => am_tb (List.mem_append_left _ (List.mem_of_getElem? (i := 69) rfl)) rfl⟩
theorem am_mi72 : am_miP (am_m72, (false, true, 0)) := ⟨am_tb (am_in7 (List.mem_of_getElem? (i := 64) rfl)) rfl, am_tb (am_in1 (List.mem_of_getElem? (i := 11) rfl)) rfl, by decide +kernel, ⟨by decide +kernel, by decide +kernel, by decide +kernel⟩, by decide, am_tb (am_in7 (List.mem_of_getElem? (i := 63) rfl)) rfl, fun _ => am_tb (List.mem_append_left _ (List.mem_of_getElem? (i := 68) rfl)) rfl⟩
theorem am_mi73 : am_miP (am_m73, (false, true, 0)) := ⟨am_tb (am_in7 (List.mem_of_getElem? (i := 96) rfl)) rfl, am_tb (am_in1 (List.mem_of_getElem? (i := 11) rfl)) rfl, by decide +kernel, ⟨by decide +kernel, by decide +kernel, by decide +kernel⟩, by decide, am_tb (am_in7 (List.mem_of_getElem? (i := 95) rfl)) rfl, fun _ => am_tb (List.mem_append_left _ (List.mem_of_getElem? (i := 76) rfl)) rfl⟩
theorem am_mi74 : am_miP (am_m74, (false, true, 0)) := ⟨am_tb (am_in7 (List.mem_of_getElem? (i := 100) rfl)) rfl, am_tb (am_in1 (List.mem_of_getElem? (i := 11) rfl)) rfl, by decide +kernel, ⟨by decide +kernel, by decide +kernel, by decide +kernel⟩, by decide, am_tb (am_in7 (List.mem_of_getElem? (i := 99) rfl)) rfl, fun _ => am_tb (List.mem_append_left _ (List.mem_of_getElem? (i := 77) rfl)) rfl⟩
theorem am_mi75 : am_miP (am_m75, (false, true, 1)) := ⟨am_tb (am_in7 (List.mem_of_getElem? (i := 60) rfl)) rfl, am_tb (am_in1 (List.mem_of_getElem? (i := 11) rfl)) rfl, by decide +kernel, ⟨by decide +kernel, by decide +kernel, by decide +kernel⟩, by decide, am_tb (am_in7 (List.mem_of_getElem? (i := 58) rfl)) rfl, fun _ => am_tb (am_in7 (List.mem_of_getElem? (i := 59) rfl)) rfl⟩
theorem am_mi76 : am_miP (am_m76, (false, true, 1)) := ⟨am_tb (am_in7 (List.mem_of_getElem? (i := 104) rfl)) rfl, am_tb (am_in1 (List.mem_of_getElem? (i := 11) rfl)) rfl, by decide +kernel, ⟨by decide +kernel, by decide +kernel, by decide +kernel⟩, by decide, am_tb (am_in7 (List.mem_of_getElem? (i := 102) rfl)) rfl, fun _ => am_tb (am_in7 (List.mem_of_getElem? (i := 103) rfl)) rfl⟩
theorem am_mi77 : am_miP (am_m77, (false, true, 3)) := ⟨am_tb (am_in7 (List.mem_of_getElem? (i := 108) rfl)) rfl, am_tb (am_in1 (List.mem_of_getElem? (i := 11) rfl)) rfl, by decide +kernel, ⟨by decide +kernel, by decide +kernel, by decide +kernel⟩, by decide, am_tb (am_in7 (List.mem_of_getElem? (i := 106) rfl)) rfl, fun _ => am_tb (am_in7 (List.mem_of_getElem? (i := 107) rfl)) rfl⟩
theorem am_mi78 : am_miP (am_m78, (false, true, 4)) := ⟨am_tb (am_in7 (List.mem_of_getElem? (i := 112) rfl)) rfl, am_tb (am_in1 (List.mem_of_getElem? (i := 11) rfl)) rfl, by decide +kernel, ⟨by decide +kernel, by decide +kernel, by decide +kernel⟩, by decide, am_tb (am_in7 (List.mem_of_getElem? (i := 110) rfl)) rfl, fun _ => am_tb (am_in7 (List.mem_of_getElem? (i := 111) rfl)) rfl⟩
theorem am_mi79 : am_miP (am_m79, (false, true, 0)) := ⟨am_tb (am_in7 (List.mem_of_getElem? (i := 120) rfl)) rfl, am_tb (am_in1 (List.mem_of_getElem? (i := 11) rfl)) rfl, by decide +kernel, ⟨by decide +kernel, by decide +kernel, by decide +kernel⟩, by decide, am_tb (am_in7 (List.mem_of_getElem? (i := 119) rfl)) rfl, fun _ => am_tb (List.mem_append_left _ (List.mem_of_getElem? (i := 78) rfl)) rfl⟩
theorem am_mi80 : am_miP (am_m80, (false, true, 2)) := ⟨am_tb (am_in7 (List.mem_of_getElem? (i := 116) rfl)) rfl, am_tb (am_in1 (List.mem_of_getElem? (i := 11) rfl)) rfl, by decide +kernel, ⟨by decide +kernel, by decide +kernel, by decide +kernel⟩, by decide, am_tb (am_in7 (List.mem_of_getElem? (i := 114) rfl)) rfl, fun _ => am_tb (am_in7 (List.mem_of_getElem? (i := 115) rfl)) rfl⟩
theorem am_mi81 : am_miP (am_m81, (false, true, 1)) := ⟨am_tb (am_in7 (List.mem_of_getElem? (i := 124) rfl)) rfl, am_tb (am_in1 (List.mem_of_getElem? (i := 11) rfl)) rfl, by decide +kernel, ⟨by decide +kernel, by decide +kernel, by decide +kernel⟩, by decide, am_tb (am_in7 (List.mem_of_getElem? (i := 122) rfl)) rfl, fun _ => am_tb (am_in7 (List.mem_of_getElem? (i := 123) rfl)) rfl⟩
theorem am_mi82 : am_miP (am_m82, (false, true, 2)) := ⟨am_tb (am_in7 (List.mem_of_getElem? (i := 136) rfl)) rfl, am_tb (am_in1 (List.mem_of_getElem? (i := 11) rfl)) rfl, by decide +kernel, ⟨by decide +kernel, by decide +kernel, by decide +kernel⟩, by decide, am_tb (am_in7 (List.mem_of_getElem? (i := 135) rfl)) rfl, fun _ => am_tb (List.mem_append_left _ (List.mem_of_getElem? (i := 80) rfl)) rfl⟩
theorem am_mi83 : am_miP (am_m83, (false, true, 3)) := ⟨am_tb (am_in7 (List.mem_of_getElem? (i := 132) rfl)) rfl, am_tb (am_in1 (List.mem_of_getElem? (i := 11) rfl)) rfl, by decide +kernel, ⟨by decide +kernel, by decide +kernel, by decide +kernel⟩, by decide, am_tb (am_in7 (List.mem_of_getElem? (i := 131) rfl)) rfl, fun _ => am_tb (List.mem_append_left _ (List.mem_of_getElem? (i := 79) rfl)) rfl⟩
theorem am_mi84 : am_miP (am_m84, (false, true, 2)) := ⟨am_tb (am_in7 (List.mem_of_getElem? (i := 128) rfl)) rfl, am_tb (am_in1 (List.mem_of_getElem? (i := 11) rfl)) rfl, by decide +kernel, ⟨by decide +kernel, by decide +kernel, by decide +kernel⟩, by decide, am_tb (am_in7 (List.mem_of_getElem? (i := 126) rfl)) rfl, fun _ => am_tb (am_in7 (List.mem_of_getElem? (i := 127) rfl)) rfl⟩
theorem am_mi85 : am_miP (am_m85, (false, true, 2)) := ⟨am_tb (am_in7 (List.mem_of_getElem? (i := 141) rfl)) rfl, am_tb (am_in1 (List.mem_of_getElem? (i := 11) rfl)) rfl, by decide +kernel, ⟨by decide +kernel, by decide +kernel, by decide +kernel⟩, by decide, am_tb (am_in7 (List.mem_of_getElem? (i := 139) rfl)) rfl, fun _ => am_tb (am_in7 (List.mem_of_getElem? (i := 140) rfl)) rfl⟩
theorem am_mi86 : am_miP (am_m86, (false, true, 2)) := ⟨am_tb (am_in7 (List.mem_of_getElem? (i := 145) rfl)) rfl, am_tb (am_in1 (List.mem_of_getElem? (i := 11) rfl)) rfl, by decide +kernel, ⟨by decide +kernel, by decide +kernel, by decide +kernel⟩, by decide, am_tb (am_in7 (List.mem_of_getElem? (i := 143) rfl)) rfl, fun _ => am_tb (am_in7 (List.mem_of_getElem? (i := 144) rfl)) rfl⟩
theorem am_mi87 : am_miP (am_m87, (false, true, 1)) := ⟨am_tb (am_in7 (List.mem_of_getElem? (i := 149) rfl)) rfl, am_tb (am_in1 (List.mem_of_getElem? (i := 11) rfl)) rfl, by decide +kernel, ⟨by decide +kernel, by decide +kernel, by decide +kernel⟩, by decide, am_tb (am_in7 (List.mem_of_getElem? (i := 147) rfl)) rfl, fun _ => am_tb (am_in7 (List.mem_of_getElem? (i := 148) rfl)) rfl⟩
theorem am_mi88 : am_miP (am_m88, (false, true, 2)) := ⟨am_tb (am_in7 (List.mem_of_getElem? (i := 153) rfl)) rfl, am_tb (am_in1 (List.mem_of_getElem? (i := 11) rfl)) rfl, by decide +kernel, ⟨by decide +kernel, by decide +kernel, by decide +kernel⟩, by decide, am_tb (am_in7 (List.mem_of_getElem? (i := 151) rfl)) rfl, fun _ => am_tb (am_in7 (List.mem_of_getElem? (i := 152) rfl)) rfl⟩
theorem am_mi89 : am_miP (am_m89, (false, true, 0)) := ⟨am_tb (am_in7 (List.mem_of_getElem? (i := 157) rfl)) rfl, am_tb (am_in1 (List.mem_of_getElem? (i := 11) rfl)) rfl, by decide +kernel, ⟨by decide +kernel, by decide +kernel, by decide +kernel⟩, by decide, am_tb (am_in7 (List.mem_of_getElem? (i := 155) rfl)) rfl, fun _ => am_tb (am_in7 (List.mem_of_getElem? (i := 156) rfl)) rfl⟩
theorem am_mi90 : am_miP (am_m90, (false, true, 2)) := ⟨am_tb (am_in7 (List.mem_of_getElem? (i := 161) rfl)) rfl, am_tb (am_in1 (List.mem_of_getElem? (i := 11) rfl)) rfl, by decide +kernel, ⟨by decide +kernel, by decide +kernel, by decide +kernel⟩, by decide, am_tb (am_in7 (List.mem_of_getElem? (i := 159) rfl)) rfl, fun _ => am_tb (am_in7 (List.mem_of_getElem? (i := 160) rfl)) rfl⟩
theorem am_mi91 : am_miP (am_m91, (false, true, 0)) := ⟨am_tb (am_in7 (List.mem_of_getElem? (i := 169) rfl)) rfl, am_tb (am_in1 (List.mem_of_getElem? (i := 11) rfl)) rfl, by decide +kernel, ⟨by decide +kernel, by decide +kernel, by decide +kernel⟩, by decide, am_tb (am_in7 (List.mem_of_getElem? (i := 167) rfl)) rfl, fun _ => am_tb (am_in7 (List.mem_of_getElem? (i := 168) rfl)) rfl⟩
theorem am_mi92 : am_miP (am_m92, (false, true, 0)) := ⟨am_tb (am_in7 (List.mem_of_getElem? (i := 173) rfl)) rfl, am_tb (am_in1 (List.mem_of_getElem? (i := 11) rfl)) rfl, by decide +kernel, ⟨by decide +kernel, by decide +kernel, by decide +kernel⟩, by decide, am_tb (am_in7 (List.mem_of_getElem? (i := 171) rfl)) rfl, fun _ => am_tb (am_in7 (List.mem_of_getElem? (i := 172) rfl)) rfl⟩
theorem am_mi93 : am_miP (am_m93, (false, true, 1)) := ⟨am_tb (am_in7 (List.mem_of_getElem? (i := 185) rfl)) rfl, am_tb (am_in1 (List.mem_of_getElem? (i := 11) rfl)) rfl, by decide +kernel, ⟨by decide +kernel, by decide +kernel, by decide +kernel⟩, by decide, am_tb (am_in7 (List.mem_of_getElem? (i := 184) rfl)) rfl, fun _ => am_tb (List.mem_append_left _ (List.mem_of_getElem? (i := 83) rfl)) rfl⟩
theorem am_mi94 : am_miP (am_m94, (false, true, 2)) := ⟨am_tb (am_in7 (List.mem_of_getElem? (i := 189) rfl)) rfl, am_tb (am_in1 (List.mem_of_getElem? (i := 11) rfl)) rfl, by decide +kernel, ⟨by decide +kernel, by decide +kernel, by decide +kernel⟩, by decide, am_tb (am_in7 (List.mem_of_getElem? (i := 188) rfl)) rfl, fun _ => am_tb (List.mem_append_left _ (List.mem_of_getElem? (i := 84) rfl)) rfl⟩
theorem am_mi95 : am_miP (am_m95, (false, true, 2)) := ⟨am_tb (am_in7 (List.mem_of_getElem? (i := 181) rfl)) rfl, am_tb (am_in1 (List.mem_of_getElem? (i := 11) rfl)) rfl, by decide +kernel, ⟨by decide +kernel, by decide +kernel, by decide +kernel⟩, by decide, am_tb (am_in7 (List.mem_of_getElem? (i := 180) rfl)) rfl, fun _ => am_tb (List.mem_append_left _ (List.mem_of_getElem? (i := 82) rfl)) rfl⟩
theorem am_mi96 : am_miP (am_m96, (false, true, 2)) := ⟨am_tb (am_in7 (List.mem_of_getElem? (i := 201) rfl)) rfl, am_tb (am_in1 (List.mem_of_getElem? (i := 11) rfl)) rfl, by decide +kernel, ⟨by decide +kernel, by decide +kernel, by decide +kernel⟩, by decide, am_tb (am_in7 (List.mem_of_getElem? (i := 200) rfl)) rfl, fun _ => am_tb (List.mem_append_left _ (List.mem_of_getElem? (i := 87) rfl)) rfl⟩
theorem am_mi97 : am_miP (am_m97, (false, true, 2)) := ⟨am_tb (am_in7 (List.mem_of_getElem? (i := 197) rfl)) rfl, am_tb (am_in1 (List.mem_of_getElem? (i := 11) rfl)) rfl, by decide +kernel, ⟨by decide +kernel, by decide +kernel, by decide +kernel⟩, by decide, am_tb (am_in7 (List.mem_of_getElem? (i := 196) rfl)) rfl, fun _ => am_tb (List.mem_append_left _ (List.mem_of_getElem? (i := 86) rfl)) rfl⟩
theorem am_mi98 : am_miP (am_m98, (false, true, 2)) := ⟨am_tb (am_in7 (List.mem_of_getElem? (i := 193) rfl)) rfl, am_tb (am_in1 (List.mem_of_getElem? (i := 11) rfl)) rfl, by decide +kernel, ⟨by decide +kernel, by decide +kernel, by decide +kernel⟩, by decide, am_tb (am_in7 (List.mem_of_getElem? (i := 192) rfl)) rfl, fun _ => am_tb (List.mem_append_left _ (List.mem_of_getElem? (i := 85) rfl)) rfl⟩
theorem am_mi99 : am_miP (am_m99, (false, true, 2)) := ⟨am_tb (am_in7 (List.mem_of_getElem? (i := 209) rfl)) rfl, am_tb (am_in1 (List.mem_of_getElem? (i := 11) rfl)) rfl, by decide +kernel, ⟨by decide +kernel, by decide +kernel, by decide +kernel⟩, by decide, am_tb (am_in7 (List.mem_of_getElem? (i := 208) rfl)) rfl, fun _ => am_tb (List.mem_append_left _ (List.mem_of_getElem? (i := 89) rfl)) rfl⟩
theorem am_mi100 : am_miP (am_m100, (false, true, 2)) := ⟨am_tb (am_in7 (List.mem_of_getElem? (i := 205) rfl)) rfl, am_tb (am_in1 (List.mem_of_getElem? (i := 11) rfl)) rfl, by decide +kernel, ⟨by decide +kernel, by decide +kernel, by decide +kernel⟩, by decide, am_tb (am_in7 (List.mem_of_getElem? (i := 204) rfl)) rfl, fun _ => am_tb (List.mem_append_left _ (List.mem_of_getElem? (i := 88) rfl)) rfl⟩
theorem am_mi101 : am_miP (am_m101, (false, true, 3)) := ⟨am_tb (am_in7 (List.mem_of_getElem? (i := 177) rfl)) rfl, am_tb (am_in1 (List.mem_of_getElem? (i := 11) rfl)) rfl, by decide +kernel, ⟨by decide +kernel, by decide +kernel, by decide +kernel⟩, by decide, am_tb (am_in7 (List.mem_of_getElem? (i := 175) rfl)) rfl, fun _ => am_tb (am_in7 (List.mem_of_getElem? (i := 176) rfl)) rfl⟩
theorem am_mi102 : am_miP (am_m102, (false, true, 1)) := ⟨am_tb (am_in7 (List.mem_of_getElem? (i := 213) rfl)) rfl, am_tb (am_in1 (List.mem_of_getElem? (i := 11) rfl)) rfl, by decide +kernel, ⟨by decide +kernel, by decide +kernel, by decide +kernel⟩, by decide, am_tb (am_in7 (List.mem_of_getElem? (i := 211) rfl)) rfl, fun _ => am_tb (am_in7 (List.mem_of_getElem? (i := 212) rfl)) rfl⟩
theorem am_mi103 : am_miP (am_m103, (false, true, 2)) := ⟨am_tb (am_in7 (List.mem_of_getElem? (i := 217) rfl)) rfl, am_tb (am_in1 (List.mem_of_getElem? (i := 11) rfl)) rfl, by decide +kernel, ⟨by decide +kernel, by decide +kernel, by decide +kernel⟩, by decide, am_tb (am_in7 (List.mem_of_getElem? (i := 215) rfl)) rfl, fun _ => am_tb (am_in7 (List.mem_of_getElem? (i := 216) rfl)) rfl⟩
theorem am_mi104 : am_miP (am_m104, (false, true, 1)) := ⟨am_tb (am_in7 (List.mem_of_getElem? (i := 221) rfl)) rfl, am_tb (am_in1 (List.mem_of_getElem? (i := 11) rfl)) rfl, by decide +kernel, ⟨by decide +kernel, by decide +kernel, by decide +kernel⟩, by decide, am_tb (am_in7 (List.mem_of_getElem? (i := 219) rfl)) rfl, fun _ => am_tb (am_in7 (List.mem_of_getElem? (i := 220) rfl)) rfl⟩
theorem am_mi105 : am_miP (am_m105, (false, true, 1)) := ⟨am_tb (am_in7 (List.mem_of_getElem? (i := 165) rfl)) rfl, am_tb (am_in1 (List.mem_of_getElem? (i := 11) rfl)) rfl, by decide +kernel, ⟨by decide +kernel, by decide +kernel, by decide +kernel⟩, by decide, am_tb (am_in7 (List.mem_of_getElem? (i := 164) rfl)) rfl, fun _ => am_tb (List.mem_append_left _ (List.mem_of_getElem? (i := 81) rfl)) rfl⟩
theorem am_mi106 : am_miP (am_m106, (false, true, 3)) := ⟨am_tb (am_in7 (List.mem_of_getElem? (i := 225) rfl)) rfl, am_tb (am_in1 (List.mem_of_getElem? (i := 11) rfl)) rfl, by decide +kernel, ⟨by decide +kernel, by decide +kernel, by decide +kernel⟩, by decide, am_tb (am_in7 (List.mem_of_getElem? (i := 223) rfl)) rfl, fun _ => am_tb (am_in7 (List.mem_of_getElem? (i := 224) rfl)) rfl⟩
theorem am_mi107 : am_miP (am_m107, (false, true, 2)) := ⟨am_tb (am_in7 (List.mem_of_getElem? (i := 233) rfl)) rfl, am_tb (am_in1 (List.mem_of_getElem? (i := 11) rfl)) rfl, by decide +kernel, ⟨by decide +kernel, by decide +kernel, by decide +kernel⟩, by decide, am_tb (am_in7 (List.mem_of_getElem? (i := 232) rfl)) rfl, fun _ => am_tb (List.mem_append_left _ (List.mem_of_getElem? (i := 90) rfl)) rfl⟩
theorem am_mi108 : am_miP (am_m108, (false, true, 3)) := ⟨am_tb (am_in7 (List.mem_of_getElem? (i := 229) rfl)) rfl, am_tb (am_in1 (List.mem_of_getElem? (i := 11) rfl)) rfl, by decide +kernel, ⟨by decide +kernel, by decide +kernel, by decide +kernel⟩, by decide, am_tb (am_in7 (List.mem_of_getElem? (i := 227) rfl)) rfl, fun _ => am_tb (am_in7 (List.mem_of_getElem? (i := 228) rfl)) rfl⟩
theorem am_mi109 : am_miP (am_m109, (false, true, 2)) := ⟨am_tb (am_in7 (List.mem_of_getElem? (i := 237) rfl)) rfl, am_tb (am_in1 (List.mem_of_getElem? (i := 11) rfl)) rfl, by decide +kernel, ⟨by decide +kernel, by decide +kernel, by decide +kernel⟩, by decide, am_tb (am_in7 (List.mem_of_getElem? (i := 235) rfl)) rfl, fun _ => am_tb (am_in7 (List.mem_of_getElem? (i := 236) rfl)) rfl⟩
theorem am_mi110 : am_miP (am_m110, (false, true, 5)) := ⟨am_tb (am_in8 (List.mem_of_getElem? (i := 1) rfl)) rfl, am_tb (am_in1 (List.mem_of_getElem? (i := 11) rfl)) rfl, by decide +kernel, ⟨by decide +kernel, by decide +kernel, by decide +kernel⟩, by decide, am_tb (am_in7 (List.mem_of_getElem? (i := 239) rfl)) rfl, fun _ => am_tb (am_in8 (List.mem_of_getElem? (i := 0) rfl)) rfl⟩
theorem am_mi111 : am_miP (am_m111, (true, false, 1)) := ⟨am_tb (am_in4 (List.mem_of_getElem? (i := 53) rfl)) rfl, am_tb (am_in1 (List.mem_of_getElem? (i := 20) rfl)) rfl, by decide +kernel, ⟨by decide +kernel, by decide +kernel, by decide +kernel⟩, by decide, am_tb (am_in4 (List.mem_of_getElem? (i := 52) rfl)) rfl, fun h => by cases h⟩
theorem am_mi112 : am_miP (am_m112, (true, false, 1)) := ⟨am_tb (am_in2 (List.mem_of_getElem? (i := 158) rfl)) rfl, am_tb (am_in1 (List.mem_of_getElem? (i := 13) rfl)) rfl, by decide +kernel, ⟨by decide +kernel, by decide +kernel, by decide +kernel⟩, by decide, am_tb (am_in2 (List.mem_of_getElem? (i := 157) rfl)) rfl, fun h => by cases h⟩
theorem am_mi113 : am_miP (am_m113, (false, true, 0)) := ⟨am_tb (am_in3 (List.mem_of_getElem? (i := 63) rfl)) rfl, am_tb (am_in1 (List.mem_of_getElem? (i := 14) rfl)) rfl, by decide +kernel, ⟨by decide +kernel, by decide +kernel, by decide +kernel⟩, by decide, am_tb (am_in3 (List.mem_of_getElem? (i := 61) rfl)) rfl, fun _ => am_tb (am_in3 (List.mem_of_getElem? (i := 62) rfl)) rfl⟩
theorem am_mi114 : am_miP (am_m114, (false, true, 0)) := ⟨am_tb (am_in3 (List.mem_of_getElem? (i := 59) rfl)) rfl, am_tb (am_in1 (List.mem_of_getElem? (i := 14) rfl)) rfl, by decide +kernel, ⟨by decide +kernel, by decide +kernel, by decide +kernel⟩, by decide, am_tb (am_in3 (List.mem_of_getElem? (i := 57) rfl)) rfl, fun _ => am_tb (am_in3 (List.mem_of_getElem? (i := 58) rfl)) rfl⟩
theorem am_mi115 : am_miP (am_m115, (false, true, 1)) := ⟨am_tb (am_in3 (List.mem_of_getElem? (i := 73) rfl)) rfl, am_tb (am_in1 (List.mem_of_getElem? (i := 14) rfl)) rfl, by decide +kernel, ⟨by decide +kernel, by decide +kernel, by decide +kernel⟩, by decide, am_tb (am_in3 (List.mem_of_getElem? (i := 71) rfl)) rfl, fun _ => am_tb (am_in3 (List.mem_of_getElem? (i := 72) rfl)) rfl⟩
theorem am_mi116 : am_miP (am_m116, (false, true, 1)) := ⟨am_tb (am_in3 (List.mem_of_getElem? (i := 146) rfl)) rfl, am_tb (am_in1 (List.mem_of_getElem? (i := 14) rfl)) rfl, by decide +kernel, ⟨by decide +kernel, by decide +kernel, by decide +kernel⟩, by decide, am_tb (am_in3 (List.mem_of_getElem? (i := 144) rfl)) rfl, fun _ => am_tb (am_in3 (List.mem_of_getElem? (i := 145) rfl)) rfl⟩
theorem am_mi117 : am_miP (am_m117, (false, true, 2)) := ⟨am_tb (am_in3 (List.mem_of_getElem? (i := 150) rfl)) rfl, am_tb (am_in1 (List.mem_of_getElem? (i := 14) rfl)) rfl, by decide +kernel, ⟨by decide +kernel, by decide +kernel, by decide +kernel⟩, by decide, am_tb (am_in3 (List.mem_of_getElem? (i := 148) rfl)) rfl, fun _ => am_tb (am_in3 (List.mem_of_getElem? (i := 149) rfl)) rfl⟩
theorem am_mi118 : am_miP (am_m118, (false, true, 0)) := ⟨am_tb (am_in3 (List.mem_of_getElem? (i := 67) rfl)) rfl, am_tb (am_in1 (List.mem_of_getElem? (i := 14) rfl)) rfl, by decide +kernel, ⟨by decide +kernel, by decide +kernel, by decide +kernel⟩, by decide, am_tb (am_in3 (List.mem_of_getElem? (i := 65) rfl)) rfl, fun _ => am_tb (am_in3 (List.mem_of_getElem? (i := 66) rfl)) rfl⟩
theorem am_mi119 : am_miP (am_m119, (false, true, 0)) := ⟨am_tb (am_in3 (List.mem_of_getElem? (i := 77) rfl)) rfl, am_tb (am_in1 (List.mem_of_getElem? (i := 14) rfl)) rfl, by decide +kernel, ⟨by decide +kernel, by decide +kernel, by decide +kernel⟩, by decide, am_tb (am_in3 (List.mem_of_getElem? (i := 75) rfl)) rfl, fun _ => am_tb (am_in3 (List.mem_of_getElem? (i := 76) rfl)) rfl⟩
theorem am_mi120 : am_miP (am_m120, (true, false, 2)) := ⟨am_tb (am_in3 (List.mem_of_getElem? (i := 83) rfl)) rfl, am_tb (am_in1 (List.mem_of_getElem? (i := 14) rfl)) rfl, by decide +kernel, ⟨by decide +kernel, by decide +kernel, by decide +kernel⟩, by decide, am_tb (am_in3 (List.mem_of_getElem? (i := 82) rfl)) rfl, fun h => by cases h⟩
theorem am_mi121 : am_miP (am_m121, (true, false, 2)) := ⟨am_tb (am_in3 (List.mem_of_getElem? (i := 80) rfl)) rfl, am_tb (am_in1 (List.mem_of_getElem? (i := 15) rfl)) rfl, by decide +kernel, ⟨by decide +kernel, by decide +kernel, by decide +kernel⟩, by decide, am_tb (am_in3 (List.mem_of_getElem? (i := 79) rfl)) rfl, fun h => by cases h⟩
theorem am_mi122 : am_miP (am_m122, (true, false, 1)) := ⟨am_tb (am_in3 (List.mem_of_getElem? (i := 157) rfl)) rfl, am_tb (am_in1 (List.mem_of_getElem? (i := 15) rfl)) rfl, by decide +kernel, ⟨by decide +kernel, by decide +kernel, by decide +kernel⟩, by decide, am_tb (am_in3 (List.mem_of_getElem? (i := 156) rfl)) rfl, fun h => by cases h⟩
theorem am_mi123 : am_miP (am_m123, (true, false, 4)) := ⟨am_tb (am_in3 (List.mem_of_getElem? (i := 154) rfl)) rfl, am_tb (am_in1 (List.mem_of_getElem? (i := 15) rfl)) rfl, by decide +kernel, ⟨by decide +kernel, by decide +kernel, by decide +kernel⟩, by decide, am_tb (am_in3 (List.mem_of_getElem? (i := 153) rfl)) rfl, fun h => by cases h⟩
theorem am_mi124 : am_miP (am_m124, (true, false, 4)) := ⟨am_tb (am_in3 (List.mem_of_getElem? (i := 162) rfl)) rfl, am_tb (am_in1 (List.mem_of_getElem? (i := 15) rfl)) rfl, by decide +kernel, ⟨by decide +kernel, by decide +kernel, by decide +kernel⟩, by decide, am_tb (am_in3 (List.mem_of_getElem? (i := 161) rfl)) rfl, fun h => by cases h⟩
theorem am_mi125 : am_miP (am_m125, (true, false, 3)) := ⟨am_tb (am_in3 (List.mem_of_getElem? (i := 88) rfl)) rfl, am_tb (am_in1 (List.mem_of_getElem? (i := 16) rfl)) rfl, by decide +kernel, ⟨by decide +kernel, by decide +kernel, by decide +kernel⟩, by decide, am_tb (am_in3 (List.mem_of_getElem? (i := 87) rfl)) rfl, fun h => by cases h⟩
theorem am_mi126 : am_miP (am_m126, (false, false, 0)) := ⟨am_tb (am_in1 (List.mem_of_getElem? (i := 81) rfl)) rfl, am_tb (am_in1 (List.mem_of_getElem? (i := 3) rfl)) rfl, by decide +kernel, ⟨by decide +kernel, by decide +kernel, by decide +kernel⟩, by decide, am_tb (am_in1 (List.mem_of_getElem? (i := 80) rfl)) rfl, fun h => by cases h⟩
theorem am_mi127 : am_miP (am_m127, (false, true, 5)) := ⟨am_tb (am_in4 (List.mem_of_getElem? (i := 194) rfl)) rfl, am_tb (am_in1 (List.mem_of_getElem? (i := 3) rfl)) rfl, by decide +kernel, ⟨by decide +kernel, by decide +kernel, by decide +kernel⟩, by decide, am_tb (am_in4 (List.mem_of_getElem? (i := 193) rfl)) rfl, fun _ => am_tb (List.mem_append_left _ (List.mem_of_getElem? (i := 19) rfl)) rfl⟩
theorem am_mi128 : am_miP (am_m128, (true, false, 2)) := ⟨am_tb (am_in4 (List.mem_of_getElem? (i := 197) rfl)) rfl, am_tb (am_in1 (List.mem_of_getElem? (i := 3) rfl)) rfl, by decide +kernel, ⟨by decide +kernel, by decide +kernel, by decide +kernel⟩, by decide, am_tb (am_in4 (List.mem_of_getElem? (i := 196) rfl)) rfl, fun h => by cases h⟩
theorem am_mi129 : am_miP (am_m129, (false, true, 1)) := ⟨am_tb (am_in4 (List.mem_of_getElem? (i := 205) rfl)) rfl, am_tb (am_in1 (List.mem_of_getElem? (i := 3) rfl)) rfl, by decide +kernel, ⟨by decide +kernel, by decide +kernel, by decide +kernel⟩, by decide, am_tb (am_in4 (List.mem_of_getElem? (i := 204) rfl)) rfl, fun _ => am_tb (List.mem_append_left _ (List.mem_of_getElem? (i := 20) rfl)) rfl⟩
theorem am_mi130 : am_miP (am_m130, (false, false, 1)) := ⟨am_tb (am_in1 (List.mem_of_getElem? (i := 197) rfl)) rfl, am_tb (am_in1 (List.mem_of_getElem? (i := 9) rfl)) rfl, by decide +kernel, ⟨by decide +kernel, by decide +kernel, by decide +kernel⟩, by decide, am_tb (am_in1 (List.mem_of_getElem? (i := 196) rfl)) rfl, fun h => by cases h⟩
theorem am_mi131 : am_miP (am_m131, (false, true, 5)) := ⟨am_tb (am_in2 (List.mem_of_getElem? (i := 124) rfl)) rfl, am_tb (am_in1 (List.mem_of_getElem? (i := 9) rfl)) rfl, by decide +kernel, ⟨by decide +kernel, by decide +kernel, by decide +kernel⟩, by decide, am_tb (am_in2 (List.mem_of_getElem? (i := 122) rfl)) rfl, fun _ => am_tb (am_in2 (List.mem_of_getElem? (i := 123) rfl)) rfl⟩
theorem am_mi132 : am_miP (am_m132, (false, true, 1)) := ⟨am_tb (am_in4 (List.mem_of_getElem? (i := 72) rfl)) rfl, am_tb (am_in1 (List.mem_of_getElem? (i := 9) rfl)) rfl, by decide +kernel, ⟨by decide +kernel, by decide +kernel, by decide +kernel⟩, by decide, am_tb (am_in4 (List.mem_of_getElem? (i := 70) rfl)) rfl, fun _ => am_tb (am_in4 (List.mem_of_getElem? (i := 71) rfl)) rfl⟩
theorem am_mi133 : am_miP (am_m133, (false, true, 1)) := ⟨am_tb (am_in2 (List.mem_of_getElem? (i := 136) rfl)) rfl, am_tb (am_in1 (List.mem_of_getElem? (i := 9) rfl)) rfl, by decide +kernel, ⟨by decide +kernel, by decide +kernel, by decide +kernel⟩, by decide, am_tb (am_in2 (List.mem_of_getElem? (i := 134) rfl)) rfl, fun _ => am_tb (am_in2 (List.mem_of_getElem? (i := 135) rfl)) rfl⟩
theorem am_mi134 : am_miP (am_m134, (false, true, 0)) := ⟨am_tb (am_in2 (List.mem_of_getElem? (i := 140) rfl)) rfl, am_tb (am_in1 (List.mem_of_getElem? (i := 9) rfl)) rfl, by decide +kernel, ⟨by decide +kernel, by decide +kernel, by decide +kernel⟩, by decide, am_tb (am_in2 (List.mem_of_getElem? (i := 138) rfl)) rfl, fun _ => am_tb (am_in2 (List.mem_of_getElem? (i := 139) rfl)) rfl⟩
theorem am_mi135 : am_miP (am_m135, (false, true, 0)) := ⟨am_tb (am_in4 (List.mem_of_getElem? (i := 162) rfl)) rfl, am_tb (am_in1 (List.mem_of_getElem? (i := 9) rfl)) rfl, by decide +kernel, ⟨by decide +kernel, by decide +kernel, by decide +kernel⟩, by decide, am_tb (am_in4 (List.mem_of_getElem? (i := 160) rfl)) rfl, fun _ => am_tb (am_in4 (List.mem_of_getElem? (i := 161) rfl)) rfl⟩
theorem am_mi136 : am_miP (am_m136, (false, false, 1)) := ⟨am_tb (am_in1 (List.mem_of_getElem? (i := 149) rfl)) rfl, am_tb (am_in1 (List.mem_of_getElem? (i := 6) rfl)) rfl, by decide +kernel, ⟨by decide +kernel, by decide +kernel, by decide +kernel⟩, by decide, am_tb (am_in1 (List.mem_of_getElem? (i := 148) rfl)) rfl, fun h => by cases h⟩
theorem am_mi137 : am_miP (am_m137, (false, true, 1)) := ⟨am_tb (am_in4 (List.mem_of_getElem? (i := 64) rfl)) rfl, am_tb (am_in1 (List.mem_of_getElem? (i := 6) rfl)) rfl, by decide +kernel, ⟨by decide +kernel, by decide +kernel, by decide +kernel⟩, by decide, am_tb (am_in4 (List.mem_of_getElem? (i := 62) rfl)) rfl, fun _ => am_tb (am_in4 (List.mem_of_getElem? (i := 63) rfl)) rfl⟩
theorem am_mi138 : am_miP (am_m138, (false, true, 1)) := ⟨am_tb (am_in2 (List.mem_of_getElem? (i := 169) rfl)) rfl, am_tb (am_in1 (List.mem_of_getElem? (i := 6) rfl)) rfl, by decide +kernel, ⟨by decide +kernel, by decide +kernel, by decide +kernel⟩, by decide, am_tb (am_in2 (List.mem_of_getElem? (i := 167) rfl)) rfl, fun _ => am_tb (am_in2 (List.mem_of_getElem? (i := 168) rfl)) rfl⟩
theorem am_mi139 : am_miP (am_m139, (false, true, 1)) := ⟨am_tb (am_in2 (List.mem_of_getElem? (i := 132) rfl)) rfl, am_tb (am_in1 (List.mem_of_getElem? (i := 6) rfl)) rfl, by decide +kernel, ⟨by decide +kernel, by decide +kernel, by decide +kernel⟩, by decide, am_tb (am_in2 (List.mem_of_getElem? (i := 130) rfl)) rfl, fun _ => am_tb (am_in2 (List.mem_of_getElem? (i := 131) rfl)) rfl⟩
theorem am_mi140 : am_miP (am_m140, (false, true, 1)) := ⟨am_tb (am_in2 (List.mem_of_getElem? (i := 116) rfl)) rfl, am_tb (am_in1 (List.mem_of_getElem? (i := 6) rfl)) rfl, by decide +kernel, ⟨by decide +kernel, by decide +kernel, by decide +kernel⟩, by decide, am_tb (am_in2 (List.mem_of_getElem? (i := 114) rfl)) rfl, fun _ => am_tb (am_in2 (List.mem_of_getElem? (i := 115) rfl)) rfl⟩
theorem am_mi141 : am_miP (am_m141, (false, true, 1)) := ⟨am_tb (am_in3 (List.mem_of_getElem? (i := 211) rfl)) rfl, am_tb (am_in1 (List.mem_of_getElem? (i := 6) rfl)) rfl, by decide +kernel, ⟨by decide +kernel, by decide +kernel, by decide +kernel⟩, by decide, am_tb (am_in3 (List.mem_of_getElem? (i := 209) rfl)) rfl, fun _ => am_tb (am_in3 (List.mem_of_getElem? (i := 210) rfl)) rfl⟩
theorem am_mi142 : am_miP (am_m142, (false, true, 2)) := ⟨am_tb (am_in2 (List.mem_of_getElem? (i := 152) rfl)) rfl, am_tb (am_in1 (List.mem_of_getElem? (i := 6) rfl)) rfl, by decide +kernel, ⟨by decide +kernel, by decide +kernel, by decide +kernel⟩, by decide, am_tb (am_in2 (List.mem_of_getElem? (i := 150) rfl)) rfl, fun _ => am_tb (am_in2 (List.mem_of_getElem? (i := 151) rfl)) rfl⟩
theorem am_mi143 : am_miP (am_m143, (false, true, 1)) := ⟨am_tb (am_in3 (List.mem_of_getElem? (i := 0) rfl)) rfl, am_tb (am_in1 (List.mem_of_getElem? (i := 6) rfl)) rfl, by decide +kernel, ⟨by decide +kernel, by decide +kernel, by decide +kernel⟩, by decide, am_tb (am_in2 (List.mem_of_getElem? (i := 238) rfl)) rfl, fun _ => am_tb (am_in2 (List.mem_of_getElem? (i := 239) rfl)) rfl⟩
theorem am_mi144 : am_miP (am_m144, (false, true, 2)) := ⟨am_tb (am_in2 (List.mem_of_getElem? (i := 144) rfl)) rfl, am_tb (am_in1 (List.mem_of_getElem? (i := 6) rfl)) rfl, by decide +kernel, ⟨by decide +kernel, by decide +kernel, by decide +kernel⟩, by decide, am_tb (am_in2 (List.mem_of_getElem? (i := 142) rfl)) rfl, fun _ => am_tb (am_in2 (List.mem_of_getElem? (i := 143) rfl)) rfl⟩
theorem am_mi145 : am_miP (am_m145, (false, true, 2)) := ⟨am_tb (am_in2 (List.mem_of_getElem? (i := 213) rfl)) rfl, am_tb (am_in1 (List.mem_of_getElem? (i := 6) rfl)) rfl, by decide +kernel, ⟨by decide +kernel, by decide +kernel, by decide +kernel⟩, by decide, am_tb (am_in2 (List.mem_of_getElem? (i := 211) rfl)) rfl, fun _ => am_tb (am_in2 (List.mem_of_getElem? (i := 212) rfl)) rfl⟩
theorem am_mi146 : am_miP (am_m146, (false, true, 2)) := ⟨am_tb (am_in2 (List.mem_of_getElem? (i := 236) rfl)) rfl, am_tb (am_in1 (List.mem_of_getElem? (i := 6) rfl)) rfl, by decide +kernel, ⟨by decide +kernel, by decide +kernel, by decide +kernel⟩, by decide, am_tb (am_in2 (List.mem_of_getElem? (i := 234) rfl)) rfl, fun _ => am_tb (am_in2 (List.mem_of_getElem? (i := 235) rfl)) rfl⟩
theorem am_mi147 : am_miP (am_m147, (false, true, 2)) := ⟨am_tb (am_in2 (List.mem_of_getElem? (i := 204) rfl)) rfl, am_tb (am_in1 (List.mem_of_getElem? (i := 6) rfl)) rfl, by decide +kernel, ⟨by decide +kernel, by decide +kernel, by decide +kernel⟩, by decide, am_tb (am_in2 (List.mem_of_getElem? (i := 202) rfl)) rfl, fun _ => am_tb (am_in2 (List.mem_of_getElem? (i := 203) rfl)) rfl⟩
theorem am_mi148 : am_miP (am_m148, (false, true, 2)) := ⟨am_tb (am_in2 (List.mem_of_getElem? (i := 209) rfl)) rfl, am_tb (am_in1 (List.mem_of_getElem? (i := 6) rfl)) rfl, by decide +kernel, ⟨by decide +kernel, by decide +kernel, by decide +kernel⟩, by decide, am_tb (am_in2 (List.mem_of_getElem? (i := 207) rfl)) rfl, fun _ => am_tb (am_in2 (List.mem_of_getElem? (i := 208) rfl)) rfl⟩
theorem am_mi149 : am_miP (am_m149, (false, true, 2)) := ⟨am_tb (am_in2 (List.mem_of_getElem? (i := 200) rfl)) rfl, am_tb (am_in1 (List.mem_of_getElem? (i := 6) rfl)) rfl, by decide +kernel, ⟨by decide +kernel, by decide +kernel, by decide +kernel⟩, by decide, am_tb (am_in2 (List.mem_of_getElem? (i := 198) rfl)) rfl, fun _ => am_tb (am_in2 (List.mem_of_getElem? (i := 199) rfl)) rfl⟩
theorem am_mi150 : am_miP (am_m150, (false, true, 2)) := ⟨am_tb (am_in2 (List.mem_of_getElem? (i := 220) rfl)) rfl, am_tb (am_in1 (List.mem_of_getElem? (i := 6) rfl)) rfl, by decide +kernel, ⟨by decide +kernel, by decide +kernel, by decide +kernel⟩, by decide, am_tb (am_in2 (List.mem_of_getElem? (i := 218) rfl)) rfl, fun _ => am_tb (am_in2 (List.mem_of_getElem? (i := 219) rfl)) rfl⟩
theorem am_mi151 : am_miP (am_m151, (false, true, 1)) := ⟨am_tb (am_in4 (List.mem_of_getElem? (i := 2) rfl)) rfl, am_tb (am_in1 (List.mem_of_getElem? (i := 6) rfl)) rfl, by decide +kernel, ⟨by decide +kernel, by decide +kernel, by decide +kernel⟩, by decide, am_tb (am_in4 (List.mem_of_getElem? (i := 0) rfl)) rfl, fun _ => am_tb (am_in4 (List.mem_of_getElem? (i := 1) rfl)) rfl⟩
theorem am_mi152 : am_miP (am_m152, (false, true, 1)) := ⟨am_tb (am_in4 (List.mem_of_getElem? (i := 149) rfl)) rfl, am_tb (am_in1 (List.mem_of_getElem? (i := 6) rfl)) rfl, by decide +kernel, ⟨by decide +kernel, by decide +kernel, by decide +kernel⟩, by decide, am_tb (am_in4 (List.mem_of_getElem? (i := 147) rfl)) rfl, fun _ => am_tb (am_in4 (List.mem_of_getElem? (i := 148) rfl)) rfl⟩
theorem am_mi153 : am_miP (am_m153, (false, true, 1)) := ⟨am_tb (am_in3 (List.mem_of_getElem? (i := 238) rfl)) rfl, am_tb (am_in1 (List.mem_of_getElem? (i := 6) rfl)) rfl, by decide +kernel, ⟨by decide +kernel, by decide +kernel, by decide +kernel⟩, by decide, am_tb (am_in3 (List.mem_of_getElem? (i := 236) rfl)) rfl, fun _ => am_tb (am_in3 (List.mem_of_getElem? (i := 237) rfl)) rfl⟩
theorem am_mi154 : am_miP (am_m154, (false, true, 0)) := ⟨am_tb (am_in3 (List.mem_of_getElem? (i := 219) rfl)) rfl, am_tb (am_in1 (List.mem_of_getElem? (i := 6) rfl)) rfl, by decide +kernel, ⟨by decide +kernel, by decide +kernel, by decide +kernel⟩, by decide, am_tb (am_in3 (List.mem_of_getElem? (i := 217) rfl)) rfl, fun _ => am_tb (am_in3 (List.mem_of_getElem? (i := 218) rfl)) rfl⟩
theorem am_mi155 : am_miP (am_m155, (false, true, 0)) := ⟨am_tb (am_in3 (List.mem_of_getElem? (i := 225) rfl)) rfl, am_tb (am_in1 (List.mem_of_getElem? (i := 6) rfl)) rfl, by decide +kernel, ⟨by decide +kernel, by decide +kernel, by decide +kernel⟩, by decide, am_tb (am_in3 (List.mem_of_getElem? (i := 223) rfl)) rfl, fun _ => am_tb (am_in3 (List.mem_of_getElem? (i := 224) rfl)) rfl⟩
theorem am_mi156 : am_miP (am_m156, (false, true, 0)) := ⟨am_tb (am_in4 (List.mem_of_getElem? (i := 114) rfl)) rfl, am_tb (am_in1 (List.mem_of_getElem? (i := 6) rfl)) rfl, by decide +kernel, ⟨by decide +kernel, by decide +kernel, by decide +kernel⟩, by decide, am_tb (am_in4 (List.mem_of_getElem? (i := 112) rfl)) rfl, fun _ => am_tb (am_in4 (List.mem_of_getElem? (i := 113) rfl)) rfl⟩
theorem am_mi157 : am_miP (am_m157, (false, true, 0)) := ⟨am_tb (am_in4 (List.mem_of_getElem? (i := 143) rfl)) rfl, am_tb (am_in1 (List.mem_of_getElem? (i := 6) rfl)) rfl, by decide +kernel, ⟨by decide +kernel, by decide +kernel, by decide +kernel⟩, by decide, am_tb (am_in4 (List.mem_of_getElem? (i := 141) rfl)) rfl, fun _ => am_tb (am_in4 (List.mem_of_getElem? (i := 142) rfl)) rfl⟩
theorem am_mi158 : am_miP (am_m158, (false, false, 0)) := ⟨am_tb (am_in1 (List.mem_of_getElem? (i := 116) rfl)) rfl, am_tb (am_in1 (List.mem_of_getElem? (i := 5) rfl)) rfl, by decide +kernel, ⟨by decide +kernel, by decide +kernel, by decide +kernel⟩, by decide, am_tb (am_in1 (List.mem_of_getElem? (i := 115) rfl)) rfl, fun h => by cases h⟩
theorem am_mi159 : am_miP (am_m159, (false, true, 0)) := ⟨am_tb (am_in3 (List.mem_of_getElem? (i := 35) rfl)) rfl, am_tb (am_in1 (List.mem_of_getElem? (i := 5) rfl)) rfl, by decide +kernel, ⟨by decide +kernel, by decide +kernel, by decide +kernel⟩, by decide, am_tb (am_in3 (List.mem_of_getElem? (i := 33) rfl)) rfl, fun _ => am_tb (am_in3 (List.mem_of_getElem? (i := 34) rfl)) rfl⟩
theorem am_mi160 : am_miP (am_m160, (false, true, 1)) := ⟨am_tb (am_in3 (List.mem_of_getElem? (i := 137) rfl)) rfl, am_tb (am_in1 (List.mem_of_getElem? (i := 5) rfl)) rfl, by decide +kernel, ⟨by decide +kernel, by decide +kernel, by decide +kernel⟩, by decide, am_tb (am_in3 (List.mem_of_getElem? (i := 135) rfl)) rfl, fun _ => am_tb (am_in3 (List.mem_of_getElem? (i := 136) rfl)) rfl⟩
theorem am_mi161 : am_miP (am_m161, (false, true, 3)) := ⟨am_tb (am_in3 (List.mem_of_getElem? (i := 202) rfl)) rfl, am_tb (am_in1 (List.mem_of_getElem? (i := 5) rfl)) rfl, by decide +kernel, ⟨by decide +kernel, by decide +kernel, by decide +kernel⟩, by decide, am_tb (am_in3 (List.mem_of_getElem? (i := 200) rfl)) rfl, fun _ => am_tb (am_in3 (List.mem_of_getElem? (i := 201) rfl)) rfl⟩
theorem am_mi162 : am_miP (am_m162, (false, true, 1)) := ⟨am_tb (am_in3 (List.mem_of_getElem? (i := 207) rfl)) rfl, am_tb (am_in1 (List.mem_of_getElem? (i := 5) rfl)) rfl, by decide +kernel, ⟨by decide +kernel, by decide +kernel, by decide +kernel⟩, by decide, am_tb (am_in3 (List.mem_of_getElem? (i := 205) rfl)) rfl, fun _ => am_tb (am_in3 (List.mem_of_getElem? (i := 206) rfl)) rfl⟩
theorem am_mi163 : am_miP (am_m163, (false, true, 2)) := ⟨am_tb (am_in2 (List.mem_of_getElem? (i := 173) rfl)) rfl, am_tb (am_in1 (List.mem_of_getElem? (i := 5) rfl)) rfl, by decide +kernel, ⟨by decide +kernel, by decide +kernel, by decide +kernel⟩, by decide, am_tb (am_in2 (List.mem_of_getElem? (i := 171) rfl)) rfl, fun _ => am_tb (am_in2 (List.mem_of_getElem? (i := 172) rfl)) rfl⟩
theorem am_mi164 : am_miP (am_m164, (false, true, 4)) := ⟨am_tb (am_in2 (List.mem_of_getElem? (i := 177) rfl)) rfl, am_tb (am_in1 (List.mem_of_getElem? (i := 5) rfl)) rfl, by decide +kernel, ⟨by decide +kernel, by decide +kernel, by decide +kernel⟩, by decide, am_tb (am_in2 (List.mem_of_getElem? (i := 176) rfl)) rfl, fun _ => am_tb (List.mem_append_left _ (List.mem_of_getElem? (i := 1) rfl)) rfl⟩
theorem am_mi165 : am_miP (am_m165, (true, false, 2)) := ⟨am_tb (am_in2 (List.mem_of_getElem? (i := 183) rfl)) rfl, am_tb (am_in1 (List.mem_of_getElem? (i := 5) rfl)) rfl, by decide +kernel, ⟨by decide +kernel, by decide +kernel, by decide +kernel⟩, by decide, am_tb (am_in2 (List.mem_of_getElem? (i := 182) rfl)) rfl, fun h => by cases h⟩
theorem am_mi166 : am_miP (am_m166, (true, false, 3)) := ⟨am_tb (am_in2 (List.mem_of_getElem? (i := 180) rfl)) rfl, am_tb (am_in1 (List.mem_of_getElem? (i := 5) rfl)) rfl, by decide +kernel, ⟨by decide +kernel, by decide +kernel, by decide +kernel⟩, by decide, am_tb (am_in2 (List.mem_of_getElem? (i := 179) rfl)) rfl, fun h => by cases h⟩
theorem am_mi167 : am_miP (am_m167, (false, false, 1)) := ⟨am_tb (am_in2 (List.mem_of_getElem? (i := 55) rfl)) rfl, am_tb (am_in1 (List.mem_of_getElem? (i := 10) rfl)) rfl, by decide +kernel, ⟨by decide +kernel, by decide +kernel, by decide +kernel⟩, by decide, am_tb (am_in2 (List.mem_of_getElem? (i := 54) rfl)) rfl, fun h => by cases h⟩
theorem am_mi168 : am_miP (am_m168, (false, true, 1)) := ⟨am_tb (am_in3 (List.mem_of_getElem? (i := 23) rfl)) rfl, am_tb (am_in1 (List.mem_of_getElem? (i := 10) rfl)) rfl, by decide +kernel, ⟨by decide +kernel, by decide +kernel, by decide +kernel⟩, by decide, am_tb (am_in3 (List.mem_of_getElem? (i := 21) rfl)) rfl, fun _ => am_tb (am_in3 (List.mem_of_getElem? (i := 22) rfl)) rfl⟩
theorem am_mi169 : am_miP (am_m169, (false, true, 1)) := ⟨am_tb (am_in3 (List.mem_of_getElem? (i := 31) rfl)) rfl, am_tb (am_in1 (List.mem_of_getElem? (i := 10) rfl)) rfl, by decide +kernel, ⟨by decide +kernel, by decide +kernel, by decide +kernel⟩, by decide, am_tb (am_in3 (List.mem_of_getElem? (i := 29) rfl)) rfl, fun _ => am_tb (am_in3 (List.mem_of_getElem? (i := 30) rfl)) rfl⟩
theorem am_mi170 : am_miP (am_m170, (false, true, 0)) := ⟨am_tb (am_in3 (List.mem_of_getElem? (i := 43) rfl)) rfl, am_tb (am_in1 (List.mem_of_getElem? (i := 10) rfl)) rfl, by decide +kernel, ⟨by decide +kernel, by decide +kernel, by decide +kernel⟩, by decide, am_tb (am_in3 (List.mem_of_getElem? (i := 42) rfl)) rfl, fun _ => am_tb (List.mem_append_left _ (List.mem_of_getElem? (i := 3) rfl)) rfl⟩
theorem am_mi171 : am_miP (am_m171, (false, true, 1)) := ⟨am_tb (am_in3 (List.mem_of_getElem? (i := 133) rfl)) rfl, am_tb (am_in1 (List.mem_of_getElem? (i := 10) rfl)) rfl, by decide +kernel, ⟨by decide +kernel, by decide +kernel, by decide +kernel⟩, by decide, am_tb (am_in3 (List.mem_of_getElem? (i := 132) rfl)) rfl, fun _ => am_tb (List.mem_append_left _ (List.mem_of_getElem? (i := 10) rfl)) rfl⟩
theorem am_mi172 : am_miP (am_m172, (false, true, 1)) := ⟨am_tb (am_in3 (List.mem_of_getElem? (i := 111) rfl)) rfl, am_tb (am_in1 (List.mem_of_getElem? (i := 10) rfl)) rfl, by decide +kernel, ⟨by decide +kernel, by decide +kernel, by decide +kernel⟩, by decide, am_tb (am_in3 (List.mem_of_getElem? (i := 110) rfl)) rfl, fun _ => am_tb (List.mem_append_left _ (List.mem_of_getElem? (i := 5) rfl)) rfl⟩
theorem am_mi173 : am_miP (am_m173, (false, true, 0)) := ⟨am_tb (am_in3 (List.mem_of_getElem? (i := 39) rfl)) rfl, am_tb (am_in1 (List.mem_of_getElem? (i := 10) rfl)) rfl, by decide +kernel, ⟨by decide +kernel, by decide +kernel, by decide +kernel⟩, by decide, am_tb (am_in3 (List.mem_of_getElem? (i := 38) rfl)) rfl, fun _ => am_tb (List.mem_append_left _ (List.mem_of_getElem? (i := 2) rfl)) rfl⟩
theorem am_mi174 : am_miP (am_m174, (false, true, 1)) := ⟨am_tb (am_in3 (List.mem_of_getElem? (i := 47) rfl)) rfl, am_tb (am_in1 (List.mem_of_getElem? (i := 10) rfl)) rfl, by decide +kernel, ⟨by decide +kernel, by decide +kernel, by decide +kernel⟩, by decide, am_tb (am_in3 (List.mem_of_getElem? (i := 46) rfl)) rfl, fun _ => am_tb (List.mem_append_left _ (List.mem_of_getElem? (i := 4) rfl)) rfl⟩
theorem am_mi175 : am_miP (am_m175, (true, false, 1)) := ⟨am_tb (am_in3 (List.mem_of_getElem? (i := 50) rfl)) rfl, am_tb (am_in1 (List.mem_of_getElem? (i := 10) rfl)) rfl, by decide +kernel, ⟨by decide +kernel, by decide +kernel, by decide +kernel⟩, by decide, am_tb (am_in3 (List.mem_of_getElem? (i := 49) rfl)) rfl, fun h => by cases h⟩
theorem am_mi176 : am_miP (am_m176, (false, true, 1)) := ⟨am_tb (am_in3 (List.mem_of_getElem? (i := 121) rfl)) rfl, am_tb (am_in1 (List.mem_of_getElem? (i := 10) rfl)) rfl, by decide +kernel, ⟨by decide +kernel, by decide +kernel, by decide +kernel⟩, by decide, am_tb (am_in3 (List.mem_of_getElem? (i := 120) rfl)) rfl, fun _ => am_tb (List.mem_append_left _ (List.mem_of_getElem? (i := 7) rfl)) rfl⟩
theorem am_mi177 : am_miP (am_m177, (false, true, 1)) := ⟨am_tb (am_in3 (List.mem_of_getElem? (i := 125) rfl)) rfl, am_tb (am_in1 (List.mem_of_getElem? (i := 10) rfl)) rfl, by decide +kernel, ⟨by decide +kernel, by decide +kernel, by decide +kernel⟩, by decide, am_tb (am_in3 (List.mem_of_getElem? (i := 124) rfl)) rfl, fun _ => am_tb (List.mem_append_left _ (List.mem_of_getElem? (i := 8) rfl)) rfl⟩
theorem am_mi178 : am_miP (am_m178, (false, true, 1)) := ⟨am_tb (am_in3 (List.mem_of_getElem? (i := 129) rfl)) rfl, am_tb (am_in1 (List.mem_of_getElem? (i := 10) rfl)) rfl, by decide +kernel, ⟨by decide +kernel, by decide +kernel, by decide +kernel⟩, by decide, am_tb (am_in3 (List.mem_of_getElem? (i := 128) rfl)) rfl, fun _ => am_tb (List.mem_append_left _ (List.mem_of_getElem? (i := 9) rfl)) rfl⟩
theorem am_mi179 : am_miP (am_m179, (false, true, 1)) := ⟨am_tb (am_in3 (List.mem_of_getElem? (i := 142) rfl)) rfl, am_tb (am_in1 (List.mem_of_getElem? (i := 10) rfl)) rfl, by decide +kernel, ⟨by decide +kernel, by decide +kernel, by decide +kernel⟩, by decide, am_tb (am_in3 (List.mem_of_getElem? (i := 141) rfl)) rfl, fun _ => am_tb (List.mem_append_left _ (List.mem_of_getElem? (i := 11) rfl)) rfl⟩
theorem am_mi180 : am_miP (am_m180, (false, true, 0)) := ⟨am_tb (am_in3 (List.mem_of_getElem? (i := 115) rfl)) rfl, am_tb (am_in1 (List.mem_of_getElem? (i := 10) rfl)) rfl, by decide +kernel, ⟨by decide +kernel, by decide +kernel, by decide +kernel⟩, by decide, am_tb (am_in3 (List.mem_of_getElem? (i := 114) rfl)) rfl, fun _ => am_tb (List.mem_append_left _ (List.mem_of_getElem? (i := 6) rfl)) rfl⟩
theorem am_mi181 : am_miP (am_m181, (false, false, 1)) := ⟨am_tb (am_in1 (List.mem_of_getElem? (i := 176) rfl)) rfl, am_tb (am_in1 (List.mem_of_getElem? (i := 8) rfl)) rfl, by decide +kernel, ⟨by decide +kernel, by decide +kernel, by decide +kernel⟩, by decide, am_tb (am_in1 (List.mem_of_getElem? (i := 175) rfl)) rfl, fun h => by cases h⟩
theorem am_mi182 : am_miP (am_m182, (false, true, 1)) := ⟨am_tb (am_in2 (List.mem_of_getElem? (i := 191) rfl)) rfl, am_tb (am_in1 (List.mem_of_getElem? (i := 8) rfl)) rfl, by decide +kernel, ⟨by decide +kernel, by decide +kernel, by decide +kernel⟩, by decide, am_tb (am_in2 (List.mem_of_getElem? (i := 189) rfl)) rfl, fun _ => am_tb (am_in2 (List.mem_of_getElem? (i := 190) rfl)) rfl⟩
theorem am_mi183 : am_miP (am_m183, (false, true, 1)) := ⟨am_tb (am_in4 (List.mem_of_getElem? (i := 68) rfl)) rfl, am_tb (am_in1 (List.mem_of_getElem? (i := 8) rfl)) rfl, by decide +kernel, ⟨by decide +kernel, by decide +kernel, by decide +kernel⟩, by decide, am_tb (am_in4 (List.mem_of_getElem? (i := 66) rfl)) rfl, fun _ => am_tb (am_in4 (List.mem_of_getElem? (i := 67) rfl)) rfl⟩
theorem am_mi184 : am_miP (am_m184, (false, false, 1)) := ⟨am_tb (am_in1 (List.mem_of_getElem? (i := 159) rfl)) rfl, am_tb (am_in1 (List.mem_of_getElem? (i := 7) rfl)) rfl, by decide +kernel, ⟨by decide +kernel, by decide +kernel, by decide +kernel⟩, by decide, am_tb (am_in1 (List.mem_of_getElem? (i := 158) rfl)) rfl, fun h => by cases h⟩
theorem am_mi185 : am_miP (am_m185, (false, true, 0)) := ⟨am_tb (am_in4 (List.mem_of_getElem? (i := 81) rfl)) rfl, am_tb (am_in1 (List.mem_of_getElem? (i := 7) rfl)) rfl, by decide +kernel, ⟨by decide +kernel, by decide +kernel, by decide +kernel⟩, by decide, am_tb (am_in4 (List.mem_of_getElem? (i := 79) rfl)) rfl, fun _ => am_tb (am_in4 (List.mem_of_getElem? (i := 80) rfl)) rfl⟩
theorem am_mi186 : am_miP (am_m186, (false, true, 4)) := ⟨am_tb (am_in4 (List.mem_of_getElem? (i := 85) rfl)) rfl, am_tb (am_in1 (List.mem_of_getElem? (i := 7) rfl)) rfl, by decide +kernel, ⟨by decide +kernel, by decide +kernel, by decide +kernel⟩, by decide, am_tb (am_in4 (List.mem_of_getElem? (i := 83) rfl)) rfl, fun _ => am_tb (am_in4 (List.mem_of_getElem? (i := 84) rfl)) rfl⟩
theorem am_mi187 : am_miP (am_m187, (false, true, 1)) := ⟨am_tb (am_in4 (List.mem_of_getElem? (i := 77) rfl)) rfl, am_tb (am_in1 (List.mem_of_getElem? (i := 7) rfl)) rfl, by decide +kernel, ⟨by decide +kernel, by decide +kernel, by decide +kernel⟩, by decide, am_tb (am_in4 (List.mem_of_getElem? (i := 75) rfl)) rfl, fun _ => am_tb (am_in4 (List.mem_of_getElem? (i := 76) rfl)) rfl⟩
theorem am_mi188 : am_miP (am_m188, (false, false, 0)) := ⟨am_tb (am_in1 (List.mem_of_getElem? (i := 96) rfl)) rfl, am_tb (am_in1 (List.mem_of_getElem? (i := 4) rfl)) rfl, by decide +kernel, ⟨by decide +kernel, by decide +kernel, by decide +kernel⟩, by decide, am_tb (am_in1 (List.mem_of_getElem? (i := 95) rfl)) rfl, fun h => by cases h⟩
theorem am_mi189 : am_miP (am_m189, (false, true, 1)) := ⟨am_tb (am_in4 (List.mem_of_getElem? (i := 170) rfl)) rfl, am_tb (am_in1 (List.mem_of_getElem? (i := 4) rfl)) rfl, by decide +kernel, ⟨by decide +kernel, by decide +kernel, by decide +kernel⟩, by decide, am_tb (am_in4 (List.mem_of_getElem? (i := 168) rfl)) rfl, fun _ => am_tb (am_in4 (List.mem_of_getElem? (i := 169) rfl)) rfl⟩
theorem am_mi190 : am_miP (am_m190, (false, true, 1)) := ⟨am_tb (am_in4 (List.mem_of_getElem? (i := 174) rfl)) rfl, am_tb (am_in1 (List.mem_of_getElem? (i := 4) rfl)) rfl, by decide +kernel, ⟨by decide +kernel, by decide +kernel, by decide +kernel⟩, by decide, am_tb (am_in4 (List.mem_of_getElem? (i := 172) rfl)) rfl, fun _ => am_tb (am_in4 (List.mem_of_getElem? (i := 173) rfl)) rfl⟩
theorem am_mi191 : am_miP (am_m191, (false, true, 1)) := ⟨am_tb (am_in4 (List.mem_of_getElem? (i := 178) rfl)) rfl, am_tb (am_in1 (List.mem_of_getElem? (i := 4) rfl)) rfl, by decide +kernel, ⟨by decide +kernel, by decide +kernel, by decide +kernel⟩, by decide, am_tb (am_in4 (List.mem_of_getElem? (i := 176) rfl)) rfl, fun _ => am_tb (am_in4 (List.mem_of_getElem? (i := 177) rfl)) rfl⟩
theorem am_mi192 : am_miP (am_m192, (false, true, 2)) := ⟨am_tb (am_in5 (List.mem_of_getElem? (i := 2) rfl)) rfl, am_tb (am_in1 (List.mem_of_getElem? (i := 4) rfl)) rfl, by decide +kernel, ⟨by decide +kernel, by decide +kernel, by decide +kernel⟩, by decide, am_tb (am_in5 (List.mem_of_getElem? (i := 0) rfl)) rfl, fun _ => am_tb (am_in5 (List.mem_of_getElem? (i := 1) rfl)) rfl⟩
theorem am_mi193 : am_miP (am_m193, (false, true, 3)) := ⟨am_tb (am_in5 (List.mem_of_getElem? (i := 22) rfl)) rfl, am_tb (am_in1 (List.mem_of_getElem? (i := 4) rfl)) rfl, by decide +kernel, ⟨by decide +kernel, by decide +kernel, by decide +kernel⟩, by decide, am_tb (am_in5 (List.mem_of_getElem? (i := 20) rfl)) rfl, fun _ => am_tb (am_in5 (List.mem_of_getElem? (i := 21) rfl)) rfl⟩
theorem am_mi194 : am_miP (am_m194, (false, true, 1)) := ⟨am_tb (am_in4 (List.mem_of_getElem? (i := 230) rfl)) rfl, am_tb (am_in1 (List.mem_of_getElem? (i := 4) rfl)) rfl, by decide +kernel, ⟨by decide +kernel, by decide +kernel, by decide +kernel⟩, by decide, am_tb (am_in4 (List.mem_of_getElem? (i := 228) rfl)) rfl, fun _ => am_tb (am_in4 (List.mem_of_getElem? (i := 229) rfl)) rfl⟩
theorem am_mi195 : am_miP (am_m195, (false, true, 3)) := ⟨am_tb (am_in4 (List.mem_of_getElem? (i := 234) rfl)) rfl, am_tb (am_in1 (List.mem_of_getElem? (i := 4) rfl)) rfl, by decide +kernel, ⟨by decide +kernel, by decide +kernel, by decide +kernel⟩, by decide, am_tb (am_in4 (List.mem_of_getElem? (i := 232) rfl)) rfl, fun _ => am_tb (am_in4 (List.mem_of_getElem? (i := 233) rfl)) rfl⟩
theorem am_mi196 : am_miP (am_m196, (false, true, 3)) := ⟨am_tb (am_in5 (List.mem_of_getElem? (i := 6) rfl)) rfl, am_tb (am_in1 (List.mem_of_getElem? (i := 4) rfl)) rfl, by decide +kernel, ⟨by decide +kernel, by decide +kernel, by decide +kernel⟩, by decide, am_tb (am_in5 (List.mem_of_getElem? (i := 4) rfl)) rfl, fun _ => am_tb (am_in5 (List.mem_of_getElem? (i := 5) rfl)) rfl⟩
theorem am_mi197 : am_miP (am_m197, (true, false, 2)) := ⟨am_tb (am_in5 (List.mem_of_getElem? (i := 9) rfl)) rfl, am_tb (am_in1 (List.mem_of_getElem? (i := 4) rfl)) rfl, by decide +kernel, ⟨by decide +kernel, by decide +kernel, by decide +kernel⟩, by decide, am_tb (am_in5 (List.mem_of_getElem? (i := 8) rfl)) rfl, fun h => by cases h⟩
theorem am_mi198 : am_miP (am_m198, (false, false, 0)) := ⟨am_tb (am_in1 (List.mem_of_getElem? (i := 35) rfl)) rfl, am_tb (am_in1 (List.mem_of_getElem? (i := 2) rfl)) rfl, by decide +kernel, ⟨by decide +kernel, by decide +kernel, by decide +kernel⟩, by decide, am_tb (am_in1 (List.mem_of_getElem? (i := 34) rfl)) rfl, fun h => by cases h⟩
theorem am_mi199 : am_miP (am_m199, (false, true, 3)) := ⟨am_tb (am_in4 (List.mem_of_getElem? (i := 19) rfl)) rfl, am_tb (am_in1 (List.mem_of_getElem? (i := 2) rfl)) rfl, by decide +kernel, ⟨by decide +kernel, by decide +kernel, by decide +kernel⟩, by decide, am_tb (am_in4 (List.mem_of_getElem? (i := 17) rfl)) rfl, fun _ => am_tb (am_in4 (List.mem_of_getElem? (i := 18) rfl)) rfl⟩
theorem am_mi200 : am_miP (am_m200, (false, true, 3)) := ⟨am_tb (am_in4 (List.mem_of_getElem? (i := 23) rfl)) rfl, am_tb (am_in1 (List.mem_of_getElem? (i := 2) rfl)) rfl, by decide +kernel, ⟨by decide +kernel, by decide +kernel, by decide +kernel⟩, by decide, am_tb (am_in4 (List.mem_of_getElem? (i := 22) rfl)) rfl, fun _ => am_tb (List.mem_append_left _ (List.mem_of_getElem? (i := 13) rfl)) rfl⟩
theorem am_mi201 : am_miP (am_m201, (false, true, 3)) := ⟨am_tb (am_in4 (List.mem_of_getElem? (i := 30) rfl)) rfl, am_tb (am_in1 (List.mem_of_getElem? (i := 2) rfl)) rfl, by decide +kernel, ⟨by decide +kernel, by decide +kernel, by decide +kernel⟩, by decide, am_tb (am_in4 (List.mem_of_getElem? (i := 29) rfl)) rfl, fun _ => am_tb (List.mem_append_left _ (List.mem_of_getElem? (i := 14) rfl)) rfl⟩
theorem am_mi202 : am_miP (am_m202, (false, true, 2)) := ⟨am_tb (am_in4 (List.mem_of_getElem? (i := 34) rfl)) rfl, am_tb (am_in1 (List.mem_of_getElem? (i := 2) rfl)) rfl, by decide +kernel, ⟨by decide +kernel, by decide +kernel, by decide +kernel⟩, by decide, am_tb (am_in4 (List.mem_of_getElem? (i := 33) rfl)) rfl, fun _ => am_tb (List.mem_append_left _ (List.mem_of_getElem? (i := 15) rfl)) rfl⟩
theorem am_mi203 : am_miP (am_m203, (false, false, 0)) := ⟨am_tb (am_in1 (List.mem_of_getElem? (i := 25) rfl)) rfl, am_tb (am_in1 (List.mem_of_getElem? (i := 1) rfl)) rfl, by decide +kernel, ⟨by decide +kernel, by decide +kernel, by decide +kernel⟩, by decide, am_tb (am_in1 (List.mem_of_getElem? (i := 24) rfl)) rfl, fun h => by cases h⟩
theorem am_mi204 : am_miP (am_m204, (false, true, 1)) := ⟨am_tb (am_in2 (List.mem_of_getElem? (i := 109) rfl)) rfl, am_tb (am_in1 (List.mem_of_getElem? (i := 1) rfl)) rfl, by decide +kernel, ⟨by decide +kernel, by decide +kernel, by decide +kernel⟩, by decide, am_tb (am_in2 (List.mem_of_getElem? (i := 107) rfl)) rfl, fun _ => am_tb (am_in2 (List.mem_of_getElem? (i := 108) rfl)) rfl⟩
theorem am_mi205 : am_miP (am_m205, (false, true, 5)) := ⟨am_tb (am_in2 (List.mem_of_getElem? (i := 120) rfl)) rfl, am_tb (am_in1 (List.mem_of_getElem? (i := 1) rfl)) rfl, by decide +kernel, ⟨by decide +kernel, by decide +kernel, by decide +kernel⟩, by decide, am_tb (am_in2 (List.mem_of_getElem? (i := 118) rfl)) rfl, fun _ => am_tb (am_in2 (List.mem_of_getElem? (i := 119) rfl)) rfl⟩
theorem am_mi206 : am_miP (am_m206, (false, true, 2)) := ⟨am_tb (am_in2 (List.mem_of_getElem? (i := 128) rfl)) rfl, am_tb (am_in1 (List.mem_of_getElem? (i := 1) rfl)) rfl, by decide +kernel, ⟨by decide +kernel, by decide +kernel, by decide +kernel⟩, by decide, am_tb (am_in2 (List.mem_of_getElem? (i := 126) rfl)) rfl, fun _ => am_tb (am_in2 (List.mem_of_getElem? (i := 127) rfl)) rfl⟩
theorem am_mi207 : am_miP (am_m207, (false, true, 2)) := ⟨am_tb (am_in2 (List.mem_of_getElem? (i := 165) rfl)) rfl, am_tb (am_in1 (List.mem_of_getElem? (i := 1) rfl)) rfl, by decide +kernel, ⟨by decide +kernel, by decide +kernel, by decide +kernel⟩, by decide, am_tb (am_in2 (List.mem_of_getElem? (i := 164) rfl)) rfl, fun _ => am_tb (List.mem_append_left _ (List.mem_of_getElem? (i := 0) rfl)) rfl⟩
theorem am_mi208 : am_miP (am_m208, (false, true, 2)) := ⟨am_tb (am_in2 (List.mem_of_getElem? (i := 196) rfl)) rfl, am_tb (am_in1 (List.mem_of_getElem? (i := 1) rfl)) rfl, by decide +kernel, ⟨by decide +kernel, by decide +kernel, by decide +kernel⟩, by decide, am_tb (am_in2 (List.mem_of_getElem? (i := 194) rfl)) rfl, fun _ => am_tb (am_in2 (List.mem_of_getElem? (i := 195) rfl)) rfl⟩
theorem am_mi209 : am_miP (am_m209, (false, true, 2)) := ⟨am_tb (am_in2 (List.mem_of_getElem? (i := 224) rfl)) rfl, am_tb (am_in1 (List.mem_of_getElem? (i := 1) rfl)) rfl, by decide +kernel, ⟨by decide +kernel, by decide +kernel, by decide +kernel⟩, by decide, am_tb (am_in2 (List.mem_of_getElem? (i := 222) rfl)) rfl, fun _ => am_tb (am_in2 (List.mem_of_getElem? (i := 223) rfl)) rfl⟩
theorem am_mi210 : am_miP (am_m210, (false, true, 3)) := ⟨am_tb (am_in2 (List.mem_of_getElem? (i := 228) rfl)) rfl, am_tb (am_in1 (List.mem_of_getElem? (i := 1) rfl)) rfl, by decide +kernel, ⟨by decide +kernel, by decide +kernel, by decide +kernel⟩, by decide, am_tb (am_in2 (List.mem_of_getElem? (i := 226) rfl)) rfl, fun _ => am_tb (am_in2 (List.mem_of_getElem? (i := 227) rfl)) rfl⟩
theorem am_mi211 : am_miP (am_m211, (false, true, 2)) := ⟨am_tb (am_in2 (List.mem_of_getElem? (i := 232) rfl)) rfl, am_tb (am_in1 (List.mem_of_getElem? (i := 1) rfl)) rfl, by decide +kernel, ⟨by decide +kernel, by decide +kernel, by decide +kernel⟩, by decide, am_tb (am_in2 (List.mem_of_getElem? (i := 230) rfl)) rfl, fun _ => am_tb (am_in2 (List.mem_of_getElem? (i := 231) rfl)) rfl⟩
theorem am_mi212 : am_miP (am_m212, (false, true, 2)) := ⟨am_tb (am_in3 (List.mem_of_getElem? (i := 4) rfl)) rfl, am_tb (am_in1 (List.mem_of_getElem? (i := 1) rfl)) rfl, by decide +kernel, ⟨by decide +kernel, by decide +kernel, by decide +kernel⟩, by decide, am_tb (am_in3 (List.mem_of_getElem? (i := 2) rfl)) rfl, fun _ => am_tb (am_in3 (List.mem_of_getElem? (i := 3) rfl)) rfl⟩
theorem am_mi213 : am_miP (am_m213, (false, true, 2)) := ⟨am_tb (am_in3 (List.mem_of_getElem? (i := 15) rfl)) rfl, am_tb (am_in1 (List.mem_of_getElem? (i := 1) rfl)) rfl, by decide +kernel, ⟨by decide +kernel, by decide +kernel, by decide +kernel⟩, by decide, am_tb (am_in3 (List.mem_of_getElem? (i := 13) rfl)) rfl, fun _ => am_tb (am_in3 (List.mem_of_getElem? (i := 14) rfl)) rfl⟩
theorem am_mi214 : am_miP (am_m214, (false, true, 1)) := ⟨am_tb (am_in3 (List.mem_of_getElem? (i := 19) rfl)) rfl, am_tb (am_in1 (List.mem_of_getElem? (i := 1) rfl)) rfl, by decide +kernel, ⟨by decide +kernel, by decide +kernel, by decide +kernel⟩, by decide, am_tb (am_in3 (List.mem_of_getElem? (i := 17) rfl)) rfl, fun _ => am_tb (am_in3 (List.mem_of_getElem? (i := 18) rfl)) rfl⟩
theorem am_mi215 : am_miP (am_m215, (false, true, 0)) := ⟨am_tb (am_in3 (List.mem_of_getElem? (i := 27) rfl)) rfl, am_tb (am_in1 (List.mem_of_getElem? (i := 1) rfl)) rfl, by decide +kernel, ⟨by decide +kernel, by decide +kernel, by decide +kernel⟩, by decide, am_tb (am_in3 (List.mem_of_getElem? (i := 25) rfl)) rfl, fun _ => am_tb (am_in3 (List.mem_of_getElem? (i := 26) rfl)) rfl⟩
theorem am_mi216 : am_miP (am_m216, (false, true, 1)) := ⟨am_tb (am_in3 (List.mem_of_getElem? (i := 215) rfl)) rfl, am_tb (am_in1 (List.mem_of_getElem? (i := 1) rfl)) rfl, by decide +kernel, ⟨by decide +kernel, by decide +kernel, by decide +kernel⟩, by decide, am_tb (am_in3 (List.mem_of_getElem? (i := 213) rfl)) rfl, fun _ => am_tb (am_in3 (List.mem_of_getElem? (i := 214) rfl)) rfl⟩
theorem am_mi217 : am_miP (am_m217, (false, true, 1)) := ⟨am_tb (am_in3 (List.mem_of_getElem? (i := 230) rfl)) rfl, am_tb (am_in1 (List.mem_of_getElem? (i := 1) rfl)) rfl, by decide +kernel, ⟨by decide +kernel, by decide +kernel, by decide +kernel⟩, by decide, am_tb (am_in3 (List.mem_of_getElem? (i := 228) rfl)) rfl, fun _ => am_tb (am_in3 (List.mem_of_getElem? (i := 229) rfl)) rfl⟩
theorem am_mi218 : am_miP (am_m218, (false, true, 1)) := ⟨am_tb (am_in3 (List.mem_of_getElem? (i := 234) rfl)) rfl, am_tb (am_in1 (List.mem_of_getElem? (i := 1) rfl)) rfl, by decide +kernel, ⟨by decide +kernel, by decide +kernel, by decide +kernel⟩, by decide, am_tb (am_in3 (List.mem_of_getElem? (i := 232) rfl)) rfl, fun _ => am_tb (am_in3 (List.mem_of_getElem? (i := 233) rfl)) rfl⟩
theorem am_mi219 : am_miP (am_m219, (false, true, 2)) := ⟨am_tb (am_in4 (List.mem_of_getElem? (i := 7) rfl)) rfl, am_tb (am_in1 (List.mem_of_getElem? (i := 1) rfl)) rfl, by decide +kernel, ⟨by decide +kernel, by decide +kernel, by decide +kernel⟩, by decide, am_tb (am_in4 (List.mem_of_getElem? (i := 5) rfl)) rfl, fun _ => am_tb (am_in4 (List.mem_of_getElem? (i := 6) rfl)) rfl⟩
theorem am_mi220 : am_miP (am_m220, (false, true, 1)) := ⟨am_tb (am_in4 (List.mem_of_getElem? (i := 11) rfl)) rfl, am_tb (am_in1 (List.mem_of_getElem? (i := 1) rfl)) rfl, by decide +kernel, ⟨by decide +kernel, by decide +kernel, by decide +kernel⟩, by decide, am_tb (am_in4 (List.mem_of_getElem? (i := 9) rfl)) rfl, fun _ => am_tb (am_in4 (List.mem_of_getElem? (i := 10) rfl)) rfl⟩
theorem am_mi221 : am_miP (am_m221, (false, true, 1)) := ⟨am_tb (am_in4 (List.mem_of_getElem? (i := 42) rfl)) rfl, am_tb (am_in1 (List.mem_of_getElem? (i := 1) rfl)) rfl, by decide +kernel, ⟨by decide +kernel, by decide +kernel, by decide +kernel⟩, by decide, am_tb (am_in4 (List.mem_of_getElem? (i := 40) rfl)) rfl, fun _ => am_tb (am_in4 (List.mem_of_getElem? (i := 41) rfl)) rfl⟩
theorem am_mi222 : am_miP (am_m222, (false, true, 1)) := ⟨am_tb (am_in4 (List.mem_of_getElem? (i := 15) rfl)) rfl, am_tb (am_in1 (List.mem_of_getElem? (i := 1) rfl)) rfl, by decide +kernel, ⟨by decide +kernel, by decide +kernel, by decide +kernel⟩, by decide, am_tb (am_in4 (List.mem_of_getElem? (i := 14) rfl)) rfl, fun _ => am_tb (List.mem_append_left _ (List.mem_of_getElem? (i := 12) rfl)) rfl⟩
theorem am_mi223 : am_miP (am_m223, (false, true, 1)) := ⟨am_tb (am_in4 (List.mem_of_getElem? (i := 46) rfl)) rfl, am_tb (am_in1 (List.mem_of_getElem? (i := 1) rfl)) rfl, by decide +kernel, ⟨by decide +kernel, by decide +kernel, by decide +kernel⟩, by decide, am_tb (am_in4 (List.mem_of_getElem? (i := 44) rfl)) rfl, fun _ => am_tb (am_in4 (List.mem_of_getElem? (i := 45) rfl)) rfl⟩
theorem am_mi224 : am_miP (am_m224, (false, true, 0)) := ⟨am_tb (am_in4 (List.mem_of_getElem? (i := 50) rfl)) rfl, am_tb (am_in1 (List.mem_of_getElem? (i := 1) rfl)) rfl, by decide +kernel, ⟨by decide +kernel, by decide +kernel, by decide +kernel⟩, by decide, am_tb (am_in4 (List.mem_of_getElem? (i := 49) rfl)) rfl, fun _ => am_tb (List.mem_append_left _ (List.mem_of_getElem? (i := 16) rfl)) rfl⟩
theorem am_mi225 : am_miP (am_m225, (false, true, 0)) := ⟨am_tb (am_in4 (List.mem_of_getElem? (i := 60) rfl)) rfl, am_tb (am_in1 (List.mem_of_getElem? (i := 1) rfl)) rfl, by decide +kernel, ⟨by decide +kernel, by decide +kernel, by decide +kernel⟩, by decide, am_tb (am_in4 (List.mem_of_getElem? (i := 59) rfl)) rfl, fun _ => am_tb (List.mem_append_left _ (List.mem_of_getElem? (i := 17) rfl)) rfl⟩
theorem am_mi226 : am_miP (am_m226, (false, true, 0)) := ⟨am_tb (am_in4 (List.mem_of_getElem? (i := 89) rfl)) rfl, am_tb (am_in1 (List.mem_of_getElem? (i := 1) rfl)) rfl, by decide +kernel, ⟨by decide +kernel, by decide +kernel, by decide +kernel⟩, by decide, am_tb (am_in4 (List.mem_of_getElem? (i := 88) rfl)) rfl, fun _ => am_tb (List.mem_append_left _ (List.mem_of_getElem? (i := 18) rfl)) rfl⟩
theorem am_mi227 : am_miP (am_m227, (false, true, 1)) := ⟨am_tb (am_in4 (List.mem_of_getElem? (i := 93) rfl)) rfl, am_tb (am_in1 (List.mem_of_getElem? (i := 1) rfl)) rfl, by decide +kernel, ⟨by decide +kernel, by decide +kernel, by decide +kernel⟩, by decide, am_tb (am_in4 (List.mem_of_getElem? (i := 91) rfl)) rfl, fun _ => am_tb (am_in4 (List.mem_of_getElem? (i := 92) rfl)) rfl⟩
theorem am_mi228 : am_miP (am_m228, (false, true, 3)) := ⟨am_tb (am_in4 (List.mem_of_getElem? (i := 97) rfl)) rfl, am_tb (am_in1 (List.mem_of_getElem? (i := 1) rfl)) rfl, by decide +kernel, ⟨by decide +kernel, by decide +kernel, by decide +kernel⟩, by decide, am_tb (am_in4 (List.mem_of_getElem? (i := 95) rfl)) rfl, fun _ => am_tb (am_in4 (List.mem_of_getElem? (i := 96) rfl)) rfl⟩
theorem am_mi229 : am_miP (am_m229, (false, true, 4)) := ⟨am_tb (am_in4 (List.mem_of_getElem? (i := 104) rfl)) rfl, am_tb (am_in1 (List.mem_of_getElem? (i := 1) rfl)) rfl, by decide +kernel, ⟨by decide +kernel, by decide +kernel, by decide +kernel⟩, by decide, am_tb (am_in4 (List.mem_of_getElem? (i := 102) rfl)) rfl, fun _ => am_tb (am_in4 (List.mem_of_getElem? (i := 103) rfl)) rfl⟩
theorem am_mi230 : am_miP (am_m230, (false, true, 2)) := ⟨am_tb (am_in4 (List.mem_of_getElem? (i := 110) rfl)) rfl, am_tb (am_in1 (List.mem_of_getElem? (i := 1) rfl)) rfl, by decide +kernel, ⟨by decide +kernel, by decide +kernel, by decide +kernel⟩, by decide, am_tb (am_in4 (List.mem_of_getElem? (i := 108) rfl)) rfl, fun _ => am_tb (am_in4 (List.mem_of_getElem? (i := 109) rfl)) rfl⟩
theorem am_mi231 : am_miP (am_m231, (false, true, 1)) := ⟨am_tb (am_in4 (List.mem_of_getElem? (i := 119) rfl)) rfl, am_tb (am_in1 (List.mem_of_getElem? (i := 1) rfl)) rfl, by decide +kernel, ⟨by decide +kernel, by decide +kernel, by decide +kernel⟩, by decide, am_tb (am_in4 (List.mem_of_getElem? (i := 117) rfl)) rfl, fun _ => am_tb (am_in4 (List.mem_of_getElem? (i := 118) rfl)) rfl⟩
theorem am_mi232 : am_miP (am_m232, (false, true, 2)) := ⟨am_tb (am_in4 (List.mem_of_getElem? (i := 123) rfl)) rfl, am_tb (am_in1 (List.mem_of_getElem? (i := 1) rfl)) rfl, by decide +kernel, ⟨by decide +kernel, by decide +kernel, by decide +kernel⟩, by decide, am_tb (am_in4 (List.mem_of_getElem? (i := 121) rfl)) rfl, fun _ => am_tb (am_in4 (List.mem_of_getElem? (i := 122) rfl)) rfl⟩
theorem am_mi233 : am_miP (am_m233, (false, true, 2)) := ⟨am_tb (am_in4 (List.mem_of_getElem? (i := 131) rfl)) rfl, am_tb (am_in1 (List.mem_of_getElem? (i := 1) rfl)) rfl, by decide +kernel, ⟨by decide +kernel, by decide +kernel, by decide +kernel⟩, by decide, am_tb (am_in4 (List.mem_of_getElem? (i := 129) rfl)) rfl, fun _ => am_tb (am_in4 (List.mem_of_getElem? (i := 130) rfl)) rfl⟩
theorem am_mi234 : am_miP (am_m234, (false, true, 2)) := ⟨am_tb (am_in4 (List.mem_of_getElem? (i := 135) rfl)) rfl, am_tb (am_in1 (List.mem_of_getElem? (i := 1) rfl)) rfl, by decide +kernel, ⟨by decide +kernel, by decide +kernel, by decide +kernel⟩, by decide, am_tb (am_in4 (List.mem_of_getElem? (i := 133) rfl)) rfl, fun _ => am_tb (am_in4 (List.mem_of_getElem? (i := 134) rfl)) rfl⟩
theorem am_mi235 : am_miP (am_m235, (false, true, 1)) := ⟨am_tb (am_in4 (List.mem_of_getElem? (i := 139) rfl)) rfl, am_tb (am_in1 (List.mem_of_getElem? (i := 1) rfl)) rfl, by decide +kernel, ⟨by decide +kernel, by decide +kernel, by decide +kernel⟩, by decide, am_tb (am_in4 (List.mem_of_getElem? (i := 137) rfl)) rfl, fun _ => am_tb (am_in4 (List.mem_of_getElem? (i := 138) rfl)) rfl⟩
theorem am_mi236 : am_miP (am_m236, (false, true, 2)) := ⟨am_tb (am_in4 (List.mem_of_getElem? (i := 154) rfl)) rfl, am_tb (am_in1 (List.mem_of_getElem? (i := 1) rfl)) rfl, by decide +kernel, ⟨by decide +kernel, by decide +kernel, by decide +kernel⟩, by decide, am_tb (am_in4 (List.mem_of_getElem? (i := 152) rfl)) rfl, fun _ => am_tb (am_in4 (List.mem_of_getElem? (i := 153) rfl)) rfl⟩
theorem am_mi237 : am_miP (am_m237, (false, true, 0)) := ⟨am_tb (am_in4 (List.mem_of_getElem? (i := 158) rfl)) rfl, am_tb (am_in1 (List.mem_of_getElem? (i := 1) rfl)) rfl, by decide +kernel, ⟨by decide +kernel, by decide +kernel, by decide +kernel⟩, by decide, am_tb (am_in4 (List.mem_of_getElem? (i := 156) rfl)) rfl, fun _ => am_tb (am_in4 (List.mem_of_getElem? (i := 157) rfl)) rfl⟩
theorem am_mi238 : am_miP (am_m238, (false, true, 2)) := ⟨am_tb (am_in4 (List.mem_of_getElem? (i := 166) rfl)) rfl, am_tb (am_in1 (List.mem_of_getElem? (i := 1) rfl)) rfl, by decide +kernel, ⟨by decide +kernel, by decide +kernel, by decide +kernel⟩, by decide, am_tb (am_in4 (List.mem_of_getElem? (i := 164) rfl)) rfl, fun _ => am_tb (am_in4 (List.mem_of_getElem? (i := 165) rfl)) rfl⟩
theorem am_mi239 : am_miP (am_m239, (false, true, 0)) := ⟨am_tb (am_in4 (List.mem_of_getElem? (i := 182) rfl)) rfl, am_tb (am_in1 (List.mem_of_getElem? (i := 1) rfl)) rfl, by decide +kernel, ⟨by decide +kernel, by decide +kernel, by decide +kernel⟩, by decide, am_tb (am_in4 (List.mem_of_getElem? (i := 180) rfl)) rfl, fun _ => am_tb (am_in4 (List.mem_of_getElem? (i := 181) rfl)) rfl⟩
theorem am_mi240 : am_miP (am_m240, (false, true, 0)) := ⟨am_tb (am_in4 (List.mem_of_getElem? (i := 186) rfl)) rfl, am_tb (am_in1 (List.mem_of_getElem? (i := 1) rfl)) rfl, by decide +kernel, ⟨by decide +kernel, by decide +kernel, by decide +kernel⟩, by decide, am_tb (am_in4 (List.mem_of_getElem? (i := 184) rfl)) rfl, fun _ => am_tb (am_in4 (List.mem_of_getElem? (i := 185) rfl)) rfl⟩
theorem am_mi241 : am_miP (am_m241, (false, true, 3)) := ⟨am_tb (am_in4 (List.mem_of_getElem? (i := 190) rfl)) rfl, am_tb (am_in1 (List.mem_of_getElem? (i := 1) rfl)) rfl, by decide +kernel, ⟨by decide +kernel, by decide +kernel, by decide +kernel⟩, by decide, am_tb (am_in4 (List.mem_of_getElem? (i := 188) rfl)) rfl, fun _ => am_tb (am_in4 (List.mem_of_getElem? (i := 189) rfl)) rfl⟩
theorem am_mi242 : am_miP (am_m242, (false, true, 1)) := ⟨am_tb (am_in4 (List.mem_of_getElem? (i := 210) rfl)) rfl, am_tb (am_in1 (List.mem_of_getElem? (i := 1) rfl)) rfl, by decide +kernel, ⟨by decide +kernel, by decide +kernel, by decide +kernel⟩, by decide, am_tb (am_in4 (List.mem_of_getElem? (i := 208) rfl)) rfl, fun _ => am_tb (am_in4 (List.mem_of_getElem? (i := 209) rfl)) rfl⟩
theorem am_mi243 : am_miP (am_m243, (false, true, 2)) := ⟨am_tb (am_in4 (List.mem_of_getElem? (i := 214) rfl)) rfl, am_tb (am_in1 (List.mem_of_getElem? (i := 1) rfl)) rfl, by decide +kernel, ⟨by decide +kernel, by decide +kernel, by decide +kernel⟩, by decide, am_tb (am_in4 (List.mem_of_getElem? (i := 212) rfl)) rfl, fun _ => am_tb (am_in4 (List.mem_of_getElem? (i := 213) rfl)) rfl⟩
theorem am_mi244 : am_miP (am_m244, (true, false, 2)) := ⟨am_tb (am_in4 (List.mem_of_getElem? (i := 217) rfl)) rfl, am_tb (am_in1 (List.mem_of_getElem? (i := 1) rfl)) rfl, by decide +kernel, ⟨by decide +kernel, by decide +kernel, by decide +kernel⟩, by decide, am_tb (am_in4 (List.mem_of_getElem? (i := 216) rfl)) rfl, fun h => by cases h⟩
theorem am_mi245 : am_miP (am_m245, (false, true, 1)) := ⟨am_tb (am_in4 (List.mem_of_getElem? (i := 222) rfl)) rfl, am_tb (am_in1 (List.mem_of_getElem? (i := 1) rfl)) rfl, by decide +kernel, ⟨by decide +kernel, by decide +kernel, by decide +kernel⟩, by decide, am_tb (am_in4 (List.mem_of_getElem? (i := 220) rfl)) rfl, fun _ => am_tb (am_in4 (List.mem_of_getElem? (i := 221) rfl)) rfl⟩
theorem am_mi246 : am_miP (am_m246, (false, true, 3)) := ⟨am_tb (am_in4 (List.mem_of_getElem? (i := 226) rfl)) rfl, am_tb (am_in1 (List.mem_of_getElem? (i := 1) rfl)) rfl, by decide +kernel, ⟨by decide +kernel, by decide +kernel, by decide +kernel⟩, by decide, am_tb (am_in4 (List.mem_of_getElem? (i := 224) rfl)) rfl, fun _ => am_tb (am_in4 (List.mem_of_getElem? (i := 225) rfl)) rfl⟩
theorem am_mi247 : am_miP (am_m247, (false, true, 3)) := ⟨am_tb (am_in4 (List.mem_of_getElem? (i := 238) rfl)) rfl, am_tb (am_in1 (List.mem_of_getElem? (i := 1) rfl)) rfl, by decide +kernel, ⟨by decide +kernel, by decide +kernel, by decide +kernel⟩, by decide, am_tb (am_in4 (List.mem_of_getElem? (i := 236) rfl)) rfl, fun _ => am_tb (am_in4 (List.mem_of_getElem? (i := 237) rfl)) rfl⟩
theorem am_mi248 : am_miP (am_m248, (false, true, 2)) := ⟨am_tb (am_in5 (List.mem_of_getElem? (i := 14) rfl)) rfl, am_tb (am_in1 (List.mem_of_getElem? (i := 1) rfl)) rfl, by decide +kernel, ⟨by decide +kernel, by decide +kernel, by decide +kernel⟩, by decide, am_tb (am_in5 (List.mem_of_getElem? (i := 12) rfl)) rfl, fun _ => am_tb (am_in5 (List.mem_of_getElem? (i := 13) rfl)) rfl⟩
theorem am_mi249 : am_miP (am_m249, (false, true, 5)) := ⟨am_tb (am_in5 (List.mem_of_getElem? (i := 18) rfl)) rfl, am_tb (am_in1 (List.mem_of_getElem? (i := 1) rfl)) rfl, by decide +kernel, ⟨by decide +kernel, by decide +kernel, by decide +kernel⟩, by decide, am_tb (am_in5 (List.mem_of_getElem? (i := 16) rfl)) rfl, fun _ => am_tb (am_in5 (List.mem_of_getElem? (i := 17) rfl)) rfl⟩
theorem am_mi250 : am_miP (am_m250, (true, false, 3)) := ⟨am_tb (am_in2 (List.mem_of_getElem? (i := 112) rfl)) rfl, am_tb (am_in1 (List.mem_of_getElem? (i := 1) rfl)) rfl, by decide +kernel, ⟨by decide +kernel, by decide +kernel, by decide +kernel⟩, by decide, am_tb (am_in2 (List.mem_of_getElem? (i := 111) rfl)) rfl, fun h => by cases h⟩
theorem am_mi251 : am_miP (am_m251, (true, false, 1)) := ⟨am_tb (am_in3 (List.mem_of_getElem? (i := 7) rfl)) rfl, am_tb (am_in1 (List.mem_of_getElem? (i := 1) rfl)) rfl, by decide +kernel, ⟨by decide +kernel, by decide +kernel, by decide +kernel⟩, by decide, am_tb (am_in3 (List.mem_of_getElem? (i := 6) rfl)) rfl, fun h => by cases h⟩
theorem am_mi252 : am_miP (am_m252, (true, false, 1)) := ⟨am_tb (am_in2 (List.mem_of_getElem? (i := 186) rfl)) rfl, am_tb (am_in1 (List.mem_of_getElem? (i := 1) rfl)) rfl, by decide +kernel, ⟨by decide +kernel, by decide +kernel, by decide +kernel⟩, by decide, am_tb (am_in2 (List.mem_of_getElem? (i := 185) rfl)) rfl, fun h => by cases h⟩
theorem am_mi253 : am_miP (am_m253, (true, false, 2)) := ⟨am_tb (am_in3 (List.mem_of_getElem? (i := 11) rfl)) rfl, am_tb (am_in1 (List.mem_of_getElem? (i := 1) rfl)) rfl, by decide +kernel, ⟨by decide +kernel, by decide +kernel, by decide +kernel⟩, by decide, am_tb (am_in3 (List.mem_of_getElem? (i := 10) rfl)) rfl, fun h => by cases h⟩
theorem am_mi254 : am_miP (am_m254, (true, false, 3)) := ⟨am_tb (am_in4 (List.mem_of_getElem? (i := 127) rfl)) rfl, am_tb (am_in1 (List.mem_of_getElem? (i := 1) rfl)) rfl, by decide +kernel, ⟨by decide +kernel, by decide +kernel, by decide +kernel⟩, by decide, am_tb (am_in4 (List.mem_of_getElem? (i := 126) rfl)) rfl, fun h => by cases h⟩
set_option maxRecDepth 100000 in
theorem am_miOk : ∀ x ∈ am_ML.zip am_mi, am_miP x := by
  show ∀ x ∈ ([(am_m0, (false, false, 0)), (am_m1, (false, true, 3)), (am_m2, (false, true, 2)), (am_m3, (false, true, 2)), (am_m4, (false, true, 1)), (am_m5, (false, true, 1)), (am_m6, (false, true, 1)), (am_m7, (false, true, 1)), (am_m8, (false, true, 1)), (am_m9, (false, true, 1)), (am_m10, (false, true, 5)), (am_m11, (false, true, 2)), (am_m12, (false, true, 3)), (am_m13, (false, true, 1)), (am_m14, (false, true, 0)), (am_m15, (false, true, 1)), (am_m16, (false, true, 2)), (am_m17, (false, true, 0)), (am_m18, (false, true, 0)), (am_m19, (false, true, 1)), (am_m20, (false, true, 0)), (am_m21, (false, true, 1)), (am_m22, (false, true, 1)), (am_m23, (false, true, 0)), (am_m24, (false, true, 1)), (am_m25, (false, true, 1)), (am_m26, (false, true, 1)), (am_m27, (false, true, 1)), (am_m28, (false, true, 0)), (am_m29, (false, true, 0)), (am_m30, (false, true, 0)), (am_m31, (false, true, 2)), (am_m32, (false, true, 0)), (am_m33, (false, true, 0)), (am_m34, (false, true, 3)), (am_m35, (false, true, 3)), (am_m36, (false, true, 2)), (am_m37, (false, true, 1)), (am_m38, (false, true, 1)), (am_m39, (false, true, 1)), (am_m40, (false, true, 1)), (am_m41, (false, true, 2)), (am_m42, (false, true, 2)), (am_m43, (false, true, 2)), (am_m44, (false, true, 2)), (am_m45, (false, true, 2)), (am_m46, (false, true, 2)), (am_m47, (false, true, 2)), (am_m48, (false, true, 1)), (am_m49, (false, true, 2)), (am_m50, (false, true, 1)), (am_m51, (false, true, 2)), (am_m52, (false, true, 2)), (am_m53, (false, true, 2)), (am_m54, (false, true, 2)), (am_m55, (false, true, 1)), (am_m56, (false, true, 1)), (am_m57, (false, true, 1)), (am_m58, (false, true, 1)), (am_m59, (false, true, 2)), (am_m60, (false, true, 0)), (am_m61, (false, true, 1)), (am_m62, (false, true, 1)), (am_m63, (false, true, 1)), (am_m64, (false, true, 1)), (am_m65, (false, true, 1)), (am_m66, (false, true, 2)), (am_m67, (false, true, 1)), (am_m68, (false, true, 0)), (am_m69, (false, true, 0)), (am_m70, (false, true, 1)), (am_m71, (false, true, 0)), (am_m72, (false, true, 0)), (am_m73, (false, true, 0)), (am_m74, (false, true, 0)), (am_m75, (false, true, 1)), (am_m76, (false, true, 1)), (am_m77, (false, true, 3)), (am_m78, (false, true, 4)), (am_m79, (false, true, 0)), (am_m80, (false, true, 2)), (am_m81, (false, true, 1)), (am_m82, (false, true, 2)), (am_m83, (false, true, 3)), (am_m84, (false, true, 2)), (am_m85, (false, true, 2)), (am_m86, (false, true, 2)), (am_m87, (false, true, 1)), (am_m88, (false, true, 2)), (am_m89, (false, true, 0)), (am_m90, (false, true, 2)), (am_m91, (false, true, 0)), (am_m92, (false, true, 0)), (am_m93, (false, true, 1)), (am_m94, (false, true, 2)), (am_m95, (false, true, 2)), (am_m96, (false, true, 2)), (am_m97, (false, true, 2)), (am_m98, (false, true, 2)), (am_m99, (false, true, 2)), (am_m100, (false, true, 2)), (am_m101, (false, true, 3)), (am_m102, (false, true, 1)), (am_m103, (false, true, 2)), (am_m104, (false, true, 1)), (am_m105, (false, true, 1)), (am_m106, (false, true, 3)), (am_m107, (false, true, 2)), (am_m108, (false, true, 3)), (am_m109, (false, true, 2)), (am_m110, (false, true, 5)), (am_m111, (true, false, 1)), (am_m112, (true, false, 1)), (am_m113, (false, true, 0)), (am_m114, (false, true, 0)), (am_m115, (false, true, 1)), (am_m116, (false, true, 1)), (am_m117, (false, true, 2)), (am_m118, (false, true, 0)), (am_m119, (false, true, 0)), (am_m120, (true, false, 2)), (am_m121, (true, false, 2)), (am_m122, (true, false, 1)), (am_m123, (true, false, 4)), (am_m124, (true, false, 4)), (am_m125, (true, false, 3)), (am_m126, (false, false, 0)), (am_m127, (false, true, 5)), (am_m128, (true, false, 2)), (am_m129, (false, true, 1)), (am_m130, (false, false, 1)), (am_m131, (false, true, 5)), (am_m132, (false, true, 1)), (am_m133, (false, true, 1)), (am_m134, (false, true, 0)), (am_m135, (false, true, 0)), (am_m136, (false, false, 1)), (am_m137, (false, true, 1)), (am_m138, (false, true, 1)), (am_m139, (false, true, 1)), (am_m140, (false, true, 1)), (am_m141, (false, true, 1)), (am_m142, (false, true, 2)), (am_m143, (false, true, 1)), (am_m144, (false, true, 2)), (am_m145, (false, true, 2)), (am_m146, (false, true, 2)), (am_m147, (false, true, 2)), (am_m148, (false, true, 2)), (am_m149, (false, true, 2)), (am_m150, (false, true, 2)), (am_m151, (false, true, 1)), (am_m152, (false, true, 1)), (am_m153, (false, true, 1)), (am_m154, (false, true, 0)), (am_m155, (false, true, 0)), (am_m156, (false, true, 0)), (am_m157, (false, true, 0)), (am_m158, (false, false, 0)), (am_m159, (false, true, 0)), (am_m160, (false, true, 1)), (am_m161, (false, true, 3)), (am_m162, (false, true, 1)), (am_m163, (false, true, 2)), (am_m164, (false, true, 4)), (am_m165, (true, false, 2)), (am_m166, (true, false, 3)), (am_m167, (false, false, 1)), (am_m168, (false, true, 1)), (am_m169, (false, true, 1)), (am_m170, (false, true, 0)), (am_m171, (false, true, 1)), (am_m172, (false, true, 1)), (am_m173, (false, true, 0)), (am_m174, (false, true, 1)), (am_m175, (true, false, 1)), (am_m176, (false, true, 1)), (am_m177, (false, true, 1)), (am_m178, (false, true, 1)), (am_m179, (false, true, 1)), (am_m180, (false, true, 0)), (am_m181, (false, false, 1)), (am_m182, (false, true, 1)), (am_m183, (false, true, 1)), (am_m184, (false, false, 1)), (am_m185, (false, true, 0)), (am_m186, (false, true, 4)), (am_m187, (false, true, 1)), (am_m188, (false, false, 0)), (am_m189, (false, true, 1)), (am_m190, (false, true, 1)), (am_m191, (false, true, 1)), (am_m192, (false, true, 2)), (am_m193, (false, true, 3)), (am_m194, (false, true, 1)), (am_m195, (false, true, 3)), (am_m196, (false, true, 3)), (am_m197, (true, false, 2)), (am_m198, (false, false, 0)), (am_m199, (false, true, 3)), (am_m200, (false, true, 3)), (am_m201, (false, true, 3)), (am_m202, (false, true, 2)), (am_m203, (false, false, 0)), (am_m204, (false, true, 1)), (am_m205, (false, true, 5)), (am_m206, (false, true, 2)), (am_m207, (false, true, 2)), (am_m208, (false, true, 2)), (am_m209, (false, true, 2)), (am_m210, (false, true, 3)), (am_m211, (false, true, 2)), (am_m212, (false, true, 2)), (am_m213, (false, true, 2)), (am_m214, (false, true, 1)), (am_m215, (false, true, 0)), (am_m216, (false, true, 1)), (am_m217, (false, true, 1)), (am_m218, (false, true, 1)), (am_m219, (false, true, 2)), (am_m220, (false, true, 1)), (am_m221, (false, true, 1)), (am_m222, (false, true, 1)), (am_m223, (false, true, 1)), (am_m224, (false, true, 0)), (am_m225, (false, true, 0)), (am_m226, (false, true, 0)), (am_m227, (false, true, 1)), (am_m228, (false, true, 3)), (am_m229, (false, true, 4)), (am_m230, (false, true, 2)), (am_m231, (false, true, 1)), (am_m232, (false, true, 2)), (am_m233, (false, true, 2)), (am_m234, (false, true, 2)), (am_m235, (false, true, 1)), (am_m236, (false, true, 2)), (am_m237, (false, true, 0)), (am_m238, (false, true, 2)), (am_m239, (false, true, 0)), (am_m240, (false, true, 0)), (am_m241, (false, true, 3)), (am_m242, (false, true, 1)), (am_m243, (false, true, 2)), (am_m244, (true, false, 2)), (am_m245, (false, true, 1)), (am_m246, (false, true, 3)), (am_m247, (false, true, 3)), (am_m248, (false, true, 2)), (am_m249, (false, true, 5)), (am_m250, (true, false, 3)), (am_m251, (true, false, 1)), (am_m252, (true, false, 1)), (am_m253, (true, false, 2)), (am_m254, (true, false, 3))] : List (am_Mt × (Bool × Bool × Nat))), am_miP x
  refine List.forall_mem_cons.mpr ⟨am_mi0, ?_⟩
  refine List.forall_mem_cons.mpr ⟨am_mi1, ?_⟩
  refine List.forall_mem_cons.mpr ⟨am_mi2, ?_⟩
  refine List.forall_mem_cons.mpr ⟨am_mi3, ?_⟩
  refine List.forall_mem_cons.mpr ⟨am_mi4, ?_⟩
  refine List.forall_mem_cons.mpr ⟨am_mi5, ?_⟩
  refine List.forall_mem_cons.mpr ⟨am_mi6, ?_⟩
  refine List.forall_mem_cons.mpr ⟨am_mi7, ?_⟩
  refine List.forall_mem_cons.mpr ⟨am_mi8, ?_⟩
  refine List.forall_mem_cons.mpr ⟨am_mi9, ?_⟩
  refine List.forall_mem_cons.mpr ⟨am_mi10, ?_⟩
  refine List.forall_mem_cons.mpr ⟨am_mi11, ?_⟩
  refine List.forall_mem_cons.mpr ⟨am_mi12, ?_⟩
  refine List.forall_mem_cons.mpr ⟨am_mi13, ?_⟩
  refine List.forall_mem_cons.mpr ⟨am_mi14, ?_⟩
  refine List.forall_mem_cons.mpr ⟨am_mi15, ?_⟩
  refine List.forall_mem_cons.mpr ⟨am_mi16, ?_⟩
  refine List.forall_mem_cons.mpr ⟨am_mi17, ?_⟩
  refine List.forall_mem_cons.mpr ⟨am_mi18, ?_⟩
  refine List.forall_mem_cons.mpr ⟨am_mi19, ?_⟩
  refine List.forall_mem_cons.mpr ⟨am_mi20, ?_⟩
  refine List.forall_mem_cons.mpr ⟨am_mi21, ?_⟩
  refine List.forall_mem_cons.mpr ⟨am_mi22, ?_⟩
  refine List.forall_mem_cons.mpr ⟨am_mi23, ?_⟩
  refine List.forall_mem_cons.mpr ⟨am_mi24, ?_⟩
  refine List.forall_mem_cons.mpr ⟨am_mi25, ?_⟩
  refine List.forall_mem_cons.mpr ⟨am_mi26, ?_⟩
  refine List.forall_mem_cons.mpr ⟨am_mi27, ?_⟩
  refine List.forall_mem_cons.mpr ⟨am_mi28, ?_⟩
  refine List.forall_mem_cons.mpr ⟨am_mi29, ?_⟩
  refine List.forall_mem_cons.mpr ⟨am_mi30, ?_⟩
  refine List.forall_mem_cons.mpr ⟨am_mi31, ?_⟩
  refine List.forall_mem_cons.mpr ⟨am_mi32, ?_⟩
  refine List.forall_mem_cons.mpr ⟨am_mi33, ?_⟩
  refine List.forall_mem_cons.mpr ⟨am_mi34, ?_⟩
  refine List.forall_mem_cons.mpr ⟨am_mi35, ?_⟩
  refine List.forall_mem_cons.mpr ⟨am_mi36, ?_⟩
  refine List.forall_mem_cons.mpr ⟨am_mi37, ?_⟩
  refine List.forall_mem_cons.mpr ⟨am_mi38, ?_⟩
  refine List.forall_mem_cons.mpr ⟨am_mi39, ?_⟩
  refine List.forall_mem_cons.mpr ⟨am_mi40, ?_⟩
  refine List.forall_mem_cons.mpr ⟨am_mi41, ?_⟩
  refine List.forall_mem_cons.mpr ⟨am_mi42, ?_⟩
  refine List.forall_mem_cons.mpr ⟨am_mi43, ?_⟩
  refine List.forall_mem_cons.mpr ⟨am_mi44, ?_⟩
  refine List.forall_mem_cons.mpr ⟨am_mi45, ?_⟩
  refine List.forall_mem_cons.mpr ⟨am_mi46, ?_⟩
  refine List.forall_mem_cons.mpr ⟨am_mi47, ?_⟩
  refine List.forall_mem_cons.mpr ⟨am_mi48, ?_⟩
  refine List.forall_mem_cons.mpr ⟨am_mi49, ?_⟩
  refine List.forall_mem_cons.mpr ⟨am_mi50, ?_⟩
  refine List.forall_mem_cons.mpr ⟨am_mi51, ?_⟩
  refine List.forall_mem_cons.mpr ⟨am_mi52, ?_⟩
  refine List.forall_mem_cons.mpr ⟨am_mi53, ?_⟩
  refine List.forall_mem_cons.mpr ⟨am_mi54, ?_⟩
  refine List.forall_mem_cons.mpr ⟨am_mi55, ?_⟩
  refine List.forall_mem_cons.mpr ⟨am_mi56, ?_⟩
  refine List.forall_mem_cons.mpr ⟨am_mi57, ?_⟩
  refine List.forall_mem_cons.mpr ⟨am_mi58, ?_⟩
  refine List.forall_mem_cons.mpr ⟨am_mi59, ?_⟩
  refine List.forall_mem_cons.mpr ⟨am_mi60, ?_⟩
  refine List.forall_mem_cons.mpr ⟨am_mi61, ?_⟩
  refine List.forall_mem_cons.mpr ⟨am_mi62, ?_⟩
  refine List.forall_mem_cons.mpr ⟨am_mi63, ?_⟩
  refine List.forall_mem_cons.mpr ⟨am_mi64, ?_⟩
  refine List.forall_mem_cons.mpr ⟨am_mi65, ?_⟩
  refine List.forall_mem_cons.mpr ⟨am_mi66, ?_⟩
  refine List.forall_mem_cons.mpr ⟨am_mi67, ?_⟩
  refine List.forall_mem_cons.mpr ⟨am_mi68, ?_⟩
  refine List.forall_mem_cons.mpr ⟨am_mi69, ?_⟩
  refine List.forall_mem_cons.mpr ⟨am_mi70, ?_⟩
  refine List.forall_mem_cons.mpr ⟨am_mi71, ?_⟩
  refine List.forall_mem_cons.mpr ⟨am_mi72, ?_⟩
  refine List.forall_mem_cons.mpr ⟨am_mi73, ?_⟩
  refine List.forall_mem_cons.mpr ⟨am_mi74, ?_⟩
  refine List.forall_mem_cons.mpr ⟨am_mi75, ?_⟩
  refine List.forall_mem_cons.mpr ⟨am_mi76, ?_⟩
  refine List.forall_mem_cons.mpr ⟨am_mi77, ?_⟩
  refine List.forall_mem_cons.mpr ⟨am_mi78, ?_⟩
  refine List.forall_mem_cons.mpr ⟨am_mi79, ?_⟩
  refine List.forall_mem_cons.mpr ⟨am_mi80, ?_⟩
  refine List.forall_mem_cons.mpr ⟨am_mi81, ?_⟩
  refine List.forall_mem_cons.mpr ⟨am_mi82, ?_⟩
  refine List.forall_mem_cons.mpr ⟨am_mi83, ?_⟩
  refine List.forall_mem_cons.mpr ⟨am_mi84, ?_⟩
  refine List.forall_mem_cons.mpr ⟨am_mi85, ?_⟩
  refine List.forall_mem_cons.mpr ⟨am_mi86, ?_⟩
  refine List.forall_mem_cons.mpr ⟨am_mi87, ?_⟩
  refine List.forall_mem_cons.mpr ⟨am_mi88, ?_⟩
  refine List.forall_mem_cons.mpr ⟨am_mi89, ?_⟩
  refine List.forall_mem_cons.mpr ⟨am_mi90, ?_⟩
  refine List.forall_mem_cons.mpr ⟨am_mi91, ?_⟩
  refine List.forall_mem_cons.mpr ⟨am_mi92, ?_⟩
  refine List.forall_mem_cons.mpr ⟨am_mi93, ?_⟩
  refine List.forall_mem_cons.mpr ⟨am_mi94, ?_⟩
  refine List.forall_mem_cons.mpr ⟨am_mi95, ?_⟩
  refine List.forall_mem_cons.mpr ⟨am_mi96, ?_⟩
  refine List.forall_mem_cons.mpr ⟨am_mi97, ?_⟩
  refine List.forall_mem_cons.mpr ⟨am_mi98, ?_⟩
  refine List.forall_mem_cons.mpr ⟨am_mi99, ?_⟩
  refine List.forall_mem_cons.mpr ⟨am_mi100, ?_⟩
  refine List.forall_mem_cons.mpr ⟨am_mi101, ?_⟩
  refine List.forall_mem_cons.mpr ⟨am_mi102, ?_⟩
  refine List.forall_mem_cons.mpr ⟨am_mi103, ?_⟩
  refine List.forall_mem_cons.mpr ⟨am_mi104, ?_⟩
  refine List.forall_mem_cons.mpr ⟨am_mi105, ?_⟩
  refine List.forall_mem_cons.mpr ⟨am_mi106, ?_⟩
  refine List.forall_mem_cons.mpr ⟨am_mi107, ?_⟩
  refine List.forall_mem_cons.mpr ⟨am_mi108, ?_⟩
  refine List.forall_mem_cons.mpr ⟨am_mi109, ?_⟩
  refine List.forall_mem_cons.mpr ⟨am_mi110, ?_⟩
  refine List.forall_mem_cons.mpr ⟨am_mi111, ?_⟩
  refine List.forall_mem_cons.mpr ⟨am_mi112, ?_⟩
  refine List.forall_mem_cons.mpr ⟨am_mi113, ?_⟩
  refine List.forall_mem_cons.mpr ⟨am_mi114, ?_⟩
  refine List.forall_mem_cons.mpr ⟨am_mi115, ?_⟩
  refine List.forall_mem_cons.mpr ⟨am_mi116, ?_⟩
  refine List.forall_mem_cons.mpr ⟨am_mi117, ?_⟩
  refine List.forall_mem_cons.mpr ⟨am_mi118, ?_⟩
  refine List.forall_mem_cons.mpr ⟨am_mi119, ?_⟩
  refine List.forall_mem_cons.mpr ⟨am_mi120, ?_⟩
  refine List.forall_mem_cons.mpr ⟨am_mi121, ?_⟩
  refine List.forall_mem_cons.mpr ⟨am_mi122, ?_⟩
  refine List.forall_mem_cons.mpr ⟨am_mi123, ?_⟩
  refine List.forall_mem_cons.mpr ⟨am_mi124, ?_⟩
  refine List.forall_mem_cons.mpr ⟨am_mi125, ?_⟩
  refine List.forall_mem_cons.mpr ⟨am_mi126, ?_⟩
  refine List.forall_mem_cons.mpr ⟨am_mi127, ?_⟩
  refine List.forall_mem_cons.mpr ⟨am_mi128, ?_⟩
  refine List.forall_mem_cons.mpr ⟨am_mi129, ?_⟩
  refine List.forall_mem_cons.mpr ⟨am_mi130, ?_⟩
  refine List.forall_mem_cons.mpr ⟨am_mi131, ?_⟩
  refine List.forall_mem_cons.mpr ⟨am_mi132, ?_⟩
  refine List.forall_mem_cons.mpr ⟨am_mi133, ?_⟩
  refine List.forall_mem_cons.mpr ⟨am_mi134, ?_⟩
  refine List.forall_mem_cons.mpr ⟨am_mi135, ?_⟩
  refine List.forall_mem_cons.mpr ⟨am_mi136, ?_⟩
  refine List.forall_mem_cons.mpr ⟨am_mi137, ?_⟩
  refine List.forall_mem_cons.mpr ⟨am_mi138, ?_⟩
  refine List.forall_mem_cons.mpr ⟨am_mi139, ?_⟩
  refine List.forall_mem_cons.mpr ⟨am_mi140, ?_⟩
  refine List.forall_mem_cons.mpr ⟨am_mi141, ?_⟩
  refine List.forall_mem_cons.mpr ⟨am_mi142, ?_⟩
  refine List.forall_mem_cons.mpr ⟨am_mi143, ?_⟩
  refine List.forall_mem_cons.mpr ⟨am_mi144, ?_⟩
  refine List.forall_mem_cons.mpr ⟨am_mi145, ?_⟩
  refine List.forall_mem_cons.mpr ⟨am_mi146, ?_⟩
  refine List.forall_mem_cons.mpr ⟨am_mi147, ?_⟩
  refine List.forall_mem_cons.mpr ⟨am_mi148, ?_⟩
  refine List.forall_mem_cons.mpr ⟨am_mi149, ?_⟩
  refine List.forall_mem_cons.mpr ⟨am_mi150, ?_⟩
  refine List.forall_mem_cons.mpr ⟨am_mi151, ?_⟩
  refine List.forall_mem_cons.mpr ⟨am_mi152, ?_⟩
  refine List.forall_mem_cons.mpr ⟨am_mi153, ?_⟩
  refine List.forall_mem_cons.mpr ⟨am_mi154, ?_⟩
  refine List.forall_mem_cons.mpr ⟨am_mi155, ?_⟩
  refine List.forall_mem_cons.mpr ⟨am_mi156, ?_⟩
  refine List.forall_mem_cons.mpr ⟨am_mi157, ?_⟩
  refine List.forall_mem_cons.mpr ⟨am_mi158, ?_⟩
  refine List.forall_mem_cons.mpr ⟨am_mi159, ?_⟩
  refine List.forall_mem_cons.mpr ⟨am_mi160, ?_⟩
  refine List.forall_mem_cons.mpr ⟨am_mi161, ?_⟩
  refine List.forall_mem_cons.mpr ⟨am_mi162, ?_⟩
  refine List.forall_mem_cons.mpr ⟨am_mi163, ?_⟩
  refine List.forall_mem_cons.mpr ⟨am_mi164, ?_⟩
  refine List.forall_mem_cons.mpr ⟨am_mi165, ?_⟩
  refine List.forall_mem_cons.mpr ⟨am_mi166, ?_⟩
  refine List.forall_mem_cons.mpr ⟨am_mi167, ?_⟩
  refine List.forall_mem_cons.mpr ⟨am_mi168, ?_⟩
  refine List.forall_mem_cons.mpr ⟨am_mi169, ?_⟩
  refine List.forall_mem_cons.mpr ⟨am_mi170, ?_⟩
  refine List.forall_mem_cons.mpr ⟨am_mi171, ?_⟩
  refine List.forall_mem_cons.mpr ⟨am_mi172, ?_⟩
  refine List.forall_mem_cons.mpr ⟨am_mi173, ?_⟩
  refine List.forall_mem_cons.mpr ⟨am_mi174, ?_⟩
  refine List.forall_mem_cons.mpr ⟨am_mi175, ?_⟩
  refine List.forall_mem_cons.mpr ⟨am_mi176, ?_⟩
  refine List.forall_mem_cons.mpr ⟨am_mi177, ?_⟩
  refine List.forall_mem_cons.mpr ⟨am_mi178, ?_⟩
  refine List.forall_mem_cons.mpr ⟨am_mi179, ?_⟩
  refine List.forall_mem_cons.mpr ⟨am_mi180, ?_⟩
  refine List.forall_mem_cons.mpr ⟨am_mi181, ?_⟩
  refine List.forall_mem_cons.mpr ⟨am_mi182, ?_⟩
  refine List.forall_mem_cons.mpr ⟨am_mi183, ?_⟩
  refine List.forall_mem_cons.mpr ⟨am_mi184, ?_⟩
  refine List.forall_mem_cons.mpr ⟨am_mi185, ?_⟩
  refine List.forall_mem_cons.mpr ⟨am_mi186, ?_⟩
  refine List.forall_mem_cons.mpr ⟨am_mi187, ?_⟩
  refine List.forall_mem_cons.mpr ⟨am_mi188, ?_⟩
  refine List.forall_mem_cons.mpr ⟨am_mi189, ?_⟩
  refine List.forall_mem_cons.mpr ⟨am_mi190, ?_⟩
  refine List.forall_mem_cons.mpr ⟨am_mi191, ?_⟩
  refine List.forall_mem_cons.mpr ⟨am_mi192, ?_⟩
  refine List.forall_mem_cons.mpr ⟨am_mi193, ?_⟩
  refine List.forall_mem_cons.mpr ⟨am_mi194, ?_⟩
  refine List.forall_mem_cons.mpr ⟨am_mi195, ?_⟩
  refine List.forall_mem_cons.mpr ⟨am_mi196, ?_⟩
  refine List.forall_mem_cons.mpr ⟨am_mi197, ?_⟩
  refine List.forall_mem_cons.mpr ⟨am_mi198, ?_⟩
  refine List.forall_mem_cons.mpr ⟨am_mi199, ?_⟩
  refine List.forall_mem_cons.mpr ⟨am_mi200, ?_⟩
  refine List.forall_mem_cons.mpr ⟨am_mi201, ?_⟩
  refine List.forall_mem_cons.mpr ⟨am_mi202, ?_⟩
  refine List.forall_mem_cons.mpr ⟨am_mi203, ?_⟩
  refine List.forall_mem_cons.mpr ⟨am_mi204, ?_⟩
  refine List.forall_mem_cons.mpr ⟨am_mi205, ?_⟩
  refine List.forall_mem_cons.mpr ⟨am_mi206, ?_⟩
  refine List.forall_mem_cons.mpr ⟨am_mi207, ?_⟩
  refine List.forall_mem_cons.mpr ⟨am_mi208, ?_⟩
  refine List.forall_mem_cons.mpr ⟨am_mi209, ?_⟩
  refine List.forall_mem_cons.mpr ⟨am_mi210, ?_⟩
  refine List.forall_mem_cons.mpr ⟨am_mi211, ?_⟩
  refine List.forall_mem_cons.mpr ⟨am_mi212, ?_⟩
  refine List.forall_mem_cons.mpr ⟨am_mi213, ?_⟩
  refine List.forall_mem_cons.mpr ⟨am_mi214, ?_⟩
  refine List.forall_mem_cons.mpr ⟨am_mi215, ?_⟩
  refine List.forall_mem_cons.mpr ⟨am_mi216, ?_⟩
  refine List.forall_mem_cons.mpr ⟨am_mi217, ?_⟩
  refine List.forall_mem_cons.mpr ⟨am_mi218, ?_⟩
  refine List.forall_mem_cons.mpr ⟨am_mi219, ?_⟩
  refine List.forall_mem_cons.mpr ⟨am_mi220, ?_⟩
  refine List.forall_mem_cons.mpr ⟨am_mi221, ?_⟩
  refine List.forall_mem_cons.mpr ⟨am_mi222, ?_⟩
  refine List.forall_mem_cons.mpr ⟨am_mi223, ?_⟩
  refine List.forall_mem_cons.mpr ⟨am_mi224, ?_⟩
  refine List.forall_mem_cons.mpr ⟨am_mi225, ?_⟩
  refine List.forall_mem_cons.mpr ⟨am_mi226, ?_⟩
  refine List.forall_mem_cons.mpr ⟨am_mi227, ?_⟩
  refine List.forall_mem_cons.mpr ⟨am_mi228, ?_⟩
  refine List.forall_mem_cons.mpr ⟨am_mi229, ?_⟩
  refine List.forall_mem_cons.mpr ⟨am_mi230, ?_⟩
  refine List.forall_mem_cons.mpr ⟨am_mi231, ?_⟩
  refine List.forall_mem_cons.mpr ⟨am_mi232, ?_⟩
  refine List.forall_mem_cons.mpr ⟨am_mi233, ?_⟩
  refine List.forall_mem_cons.mpr ⟨am_mi234, ?_⟩
  refine List.forall_mem_cons.mpr ⟨am_mi235, ?_⟩
  refine List.forall_mem_cons.mpr ⟨am_mi236, ?_⟩
  refine List.forall_mem_cons.mpr ⟨am_mi237, ?_⟩
  refine List.forall_mem_cons.mpr ⟨am_mi238, ?_⟩
  refine List.forall_mem_cons.mpr ⟨am_mi239, ?_⟩
  refine List.forall_mem_cons.mpr ⟨am_mi240, ?_⟩
  refine List.forall_mem_cons.mpr ⟨am_mi241, ?_⟩
  refine List.forall_mem_cons.mpr ⟨am_mi242, ?_⟩
  refine List.forall_mem_cons.mpr ⟨am_mi243, ?_⟩
  refine List.forall_mem_cons.mpr ⟨am_mi244, ?_⟩
  refine List.forall_mem_cons.mpr ⟨am_mi245, ?_⟩
  refine List.forall_mem_cons.mpr ⟨am_mi246, ?_⟩
  refine List.forall_mem_cons.mpr ⟨am_mi247, ?_⟩
  refine List.forall_mem_cons.mpr ⟨am_mi248, ?_⟩
  refine List.forall_mem_cons.mpr ⟨am_mi249, ?_⟩
  refine List.forall_mem_cons.mpr ⟨am_mi250, ?_⟩
  refine List.forall_mem_cons.mpr ⟨am_mi251, ?_⟩
  refine List.forall_mem_cons.mpr ⟨am_mi252, ?_⟩
  refine List.forall_mem_cons.mpr ⟨am_mi253, ?_⟩
  refine List.forall_mem_cons.mpr ⟨am_mi254, ?_⟩
  exact fun _ h => absurd h List.not_mem_nil
theorem am_ly0 : ∀ w ∈ u_ws (am_k 0).1 (am_k 0).2.1 (am_k 0).2.2, w ∈ am_tbl := by
  intro w hw
  obtain ⟨j, hj, rfl⟩ := List.mem_map.mp hw
  clear hw
  revert j
  show ∀ j ∈ ([0, 1] : List Nat), u_lay (am_k 0).1 (am_k 0).2.1 j ∈ am_tbl
  refine List.forall_mem_cons.mpr ⟨am_tb (am_in1 (List.mem_of_getElem? (i := 87) rfl)) rfl, ?_⟩
  refine List.forall_mem_cons.mpr ⟨am_tb (am_in1 (List.mem_of_getElem? (i := 89) rfl)) rfl, ?_⟩
  exact fun _ h => absurd h List.not_mem_nil
def am_t0_0 : Nat → FieldType := fun k => match k with
  | 0 => .array .int
  | _ => .int
theorem am_t0ok0 : ∀ k, k < (am_k 0).2.2 → parseFieldDescriptor ((am_k 0).2.1 k).2.2.1 = some (am_t0_0 k) := by decide +kernel
theorem am_nmd0 : ∀ a, a < (am_k 0).2.2 → ∀ b, b < (am_k 0).2.2 → a ≠ b → ((am_k 0).2.1 a).2.1 ≠ ((am_k 0).2.1 b).2.1 := by decide +kernel
theorem am_df0 : ∀ k, k < (am_k 0).2.2 → defaultValue (am_t0_0 k) = (match am_fk 0 k with | 1 => Value.long 0 | 2 => .null | _ => .int 0) := by decide +kernel
theorem am_dc0 : ∀ k, k < (am_k 0).2.2 → ((am_k 0).2.1 k).1 = (am_k 0).1 := by decide +kernel
theorem am_pu0 : ∀ k, k < (am_k 0).2.2 → (am_fk 0 k = 0 → am_t0_0 k = .int) ∧ (am_fk 0 k = 3 → am_t0_0 k = .boolean) ∧ (am_fk 0 k = 2 → (am_t0_0 k).isReference = true) := by decide +kernel
theorem am_ly1 : ∀ w ∈ u_ws (am_k 1).1 (am_k 1).2.1 (am_k 1).2.2, w ∈ am_tbl := by
  intro w hw
  obtain ⟨j, hj, rfl⟩ := List.mem_map.mp hw
  clear hw
  revert j
  show ∀ j ∈ ([0, 1, 2, 3, 4, 5, 6, 7] : List Nat), u_lay (am_k 1).1 (am_k 1).2.1 j ∈ am_tbl
  refine List.forall_mem_cons.mpr ⟨am_tb (am_in1 (List.mem_of_getElem? (i := 228) rfl)) rfl, ?_⟩
  refine List.forall_mem_cons.mpr ⟨am_tb (am_in1 (List.mem_of_getElem? (i := 230) rfl)) rfl, ?_⟩
  refine List.forall_mem_cons.mpr ⟨am_tb (am_in1 (List.mem_of_getElem? (i := 232) rfl)) rfl, ?_⟩
  refine List.forall_mem_cons.mpr ⟨am_tb (am_in1 (List.mem_of_getElem? (i := 234) rfl)) rfl, ?_⟩
  refine List.forall_mem_cons.mpr ⟨am_tb (am_in1 (List.mem_of_getElem? (i := 236) rfl)) rfl, ?_⟩
  refine List.forall_mem_cons.mpr ⟨am_tb (am_in1 (List.mem_of_getElem? (i := 238) rfl)) rfl, ?_⟩
  refine List.forall_mem_cons.mpr ⟨am_tb (am_in2 (List.mem_of_getElem? (i := 0) rfl)) rfl, ?_⟩
  refine List.forall_mem_cons.mpr ⟨am_tb (am_in2 (List.mem_of_getElem? (i := 2) rfl)) rfl, ?_⟩
  exact fun _ h => absurd h List.not_mem_nil
def am_t0_1 : Nat → FieldType := fun k => match k with
  | 0 => .int
  | 1 => .int
  | 2 => .int
  | 3 => .int
  | 4 => .int
  | 5 => .int
  | 6 => .int
  | _ => .array .int
theorem am_t0ok1 : ∀ k, k < (am_k 1).2.2 → parseFieldDescriptor ((am_k 1).2.1 k).2.2.1 = some (am_t0_1 k) := by decide +kernel
theorem am_nmd1 : ∀ a, a < (am_k 1).2.2 → ∀ b, b < (am_k 1).2.2 → a ≠ b → ((am_k 1).2.1 a).2.1 ≠ ((am_k 1).2.1 b).2.1 := by decide +kernel
theorem am_df1 : ∀ k, k < (am_k 1).2.2 → defaultValue (am_t0_1 k) = (match am_fk 1 k with | 1 => Value.long 0 | 2 => .null | _ => .int 0) := by decide +kernel
theorem am_dc1 : ∀ k, k < (am_k 1).2.2 → ((am_k 1).2.1 k).1 = (am_k 1).1 := by decide +kernel
theorem am_pu1 : ∀ k, k < (am_k 1).2.2 → (am_fk 1 k = 0 → am_t0_1 k = .int) ∧ (am_fk 1 k = 3 → am_t0_1 k = .boolean) ∧ (am_fk 1 k = 2 → (am_t0_1 k).isReference = true) := by decide +kernel
theorem am_ly2 : ∀ w ∈ u_ws (am_k 2).1 (am_k 2).2.1 (am_k 2).2.2, w ∈ am_tbl := by
  intro w hw
  obtain ⟨j, hj, rfl⟩ := List.mem_map.mp hw
  clear hw
  revert j
  show ∀ j ∈ ([0, 1, 2, 3, 4, 5, 6, 7, 8, 9] : List Nat), u_lay (am_k 2).1 (am_k 2).2.1 j ∈ am_tbl
  refine List.forall_mem_cons.mpr ⟨am_tb (am_in2 (List.mem_of_getElem? (i := 30) rfl)) rfl, ?_⟩
  refine List.forall_mem_cons.mpr ⟨am_tb (am_in2 (List.mem_of_getElem? (i := 32) rfl)) rfl, ?_⟩
  refine List.forall_mem_cons.mpr ⟨am_tb (am_in2 (List.mem_of_getElem? (i := 34) rfl)) rfl, ?_⟩
  refine List.forall_mem_cons.mpr ⟨am_tb (am_in2 (List.mem_of_getElem? (i := 36) rfl)) rfl, ?_⟩
  refine List.forall_mem_cons.mpr ⟨am_tb (am_in2 (List.mem_of_getElem? (i := 38) rfl)) rfl, ?_⟩
  refine List.forall_mem_cons.mpr ⟨am_tb (am_in2 (List.mem_of_getElem? (i := 40) rfl)) rfl, ?_⟩
  refine List.forall_mem_cons.mpr ⟨am_tb (am_in2 (List.mem_of_getElem? (i := 42) rfl)) rfl, ?_⟩
  refine List.forall_mem_cons.mpr ⟨am_tb (am_in2 (List.mem_of_getElem? (i := 44) rfl)) rfl, ?_⟩
  refine List.forall_mem_cons.mpr ⟨am_tb (am_in2 (List.mem_of_getElem? (i := 46) rfl)) rfl, ?_⟩
  refine List.forall_mem_cons.mpr ⟨am_tb (am_in2 (List.mem_of_getElem? (i := 48) rfl)) rfl, ?_⟩
  exact fun _ h => absurd h List.not_mem_nil
def am_t0_2 : Nat → FieldType := fun k => match k with
  | 0 => .array (.object "BookedEmpty$Room")
  | 1 => .array (.object "BookedEmpty$Hour")
  | 2 => .int
  | 3 => .int
  | 4 => .int
  | 5 => .object "BookedEmpty$Office"
  | 6 => .int
  | 7 => .object "BookedEmpty$Rows"
  | 8 => .object "BookedEmpty$Rows"
  | _ => .object "BookedEmpty$Rows"
theorem am_t0ok2 : ∀ k, k < (am_k 2).2.2 → parseFieldDescriptor ((am_k 2).2.1 k).2.2.1 = some (am_t0_2 k) := by decide +kernel
theorem am_nmd2 : ∀ a, a < (am_k 2).2.2 → ∀ b, b < (am_k 2).2.2 → a ≠ b → ((am_k 2).2.1 a).2.1 ≠ ((am_k 2).2.1 b).2.1 := by decide +kernel
theorem am_df2 : ∀ k, k < (am_k 2).2.2 → defaultValue (am_t0_2 k) = (match am_fk 2 k with | 1 => Value.long 0 | 2 => .null | _ => .int 0) := by decide +kernel
theorem am_dc2 : ∀ k, k < (am_k 2).2.2 → ((am_k 2).2.1 k).1 = (am_k 2).1 := by decide +kernel
theorem am_pu2 : ∀ k, k < (am_k 2).2.2 → (am_fk 2 k = 0 → am_t0_2 k = .int) ∧ (am_fk 2 k = 3 → am_t0_2 k = .boolean) ∧ (am_fk 2 k = 2 → (am_t0_2 k).isReference = true) := by decide +kernel
theorem am_ly3 : ∀ w ∈ u_ws (am_k 3).1 (am_k 3).2.1 (am_k 3).2.2, w ∈ am_tbl := by
  intro w hw
  obtain ⟨j, hj, rfl⟩ := List.mem_map.mp hw
  clear hw
  revert j
  show ∀ j ∈ ([0, 1, 2, 3, 4, 5, 6] : List Nat), u_lay (am_k 3).1 (am_k 3).2.1 j ∈ am_tbl
  refine List.forall_mem_cons.mpr ⟨am_tb (am_in1 (List.mem_of_getElem? (i := 130) rfl)) rfl, ?_⟩
  refine List.forall_mem_cons.mpr ⟨am_tb (am_in1 (List.mem_of_getElem? (i := 132) rfl)) rfl, ?_⟩
  refine List.forall_mem_cons.mpr ⟨am_tb (am_in1 (List.mem_of_getElem? (i := 134) rfl)) rfl, ?_⟩
  refine List.forall_mem_cons.mpr ⟨am_tb (am_in1 (List.mem_of_getElem? (i := 136) rfl)) rfl, ?_⟩
  refine List.forall_mem_cons.mpr ⟨am_tb (am_in1 (List.mem_of_getElem? (i := 138) rfl)) rfl, ?_⟩
  refine List.forall_mem_cons.mpr ⟨am_tb (am_in1 (List.mem_of_getElem? (i := 140) rfl)) rfl, ?_⟩
  refine List.forall_mem_cons.mpr ⟨am_tb (am_in1 (List.mem_of_getElem? (i := 142) rfl)) rfl, ?_⟩
  exact fun _ h => absurd h List.not_mem_nil
def am_t0_3 : Nat → FieldType := fun k => match k with
  | 0 => .int
  | 1 => .int
  | 2 => .int
  | 3 => .array .int
  | 4 => .array .int
  | 5 => .array .int
  | _ => .int
theorem am_t0ok3 : ∀ k, k < (am_k 3).2.2 → parseFieldDescriptor ((am_k 3).2.1 k).2.2.1 = some (am_t0_3 k) := by decide +kernel
theorem am_nmd3 : ∀ a, a < (am_k 3).2.2 → ∀ b, b < (am_k 3).2.2 → a ≠ b → ((am_k 3).2.1 a).2.1 ≠ ((am_k 3).2.1 b).2.1 := by decide +kernel
theorem am_df3 : ∀ k, k < (am_k 3).2.2 → defaultValue (am_t0_3 k) = (match am_fk 3 k with | 1 => Value.long 0 | 2 => .null | _ => .int 0) := by decide +kernel
theorem am_dc3 : ∀ k, k < (am_k 3).2.2 → ((am_k 3).2.1 k).1 = (am_k 3).1 := by decide +kernel
theorem am_pu3 : ∀ k, k < (am_k 3).2.2 → (am_fk 3 k = 0 → am_t0_3 k = .int) ∧ (am_fk 3 k = 3 → am_t0_3 k = .boolean) ∧ (am_fk 3 k = 2 → (am_t0_3 k).isReference = true) := by decide +kernel
theorem am_ly4 : ∀ w ∈ u_ws (am_k 4).1 (am_k 4).2.1 (am_k 4).2.2, w ∈ am_tbl := by
  intro w hw
  obtain ⟨j, hj, rfl⟩ := List.mem_map.mp hw
  clear hw
  revert j
  show ∀ j ∈ ([0, 1, 2, 3, 4] : List Nat), u_lay (am_k 4).1 (am_k 4).2.1 j ∈ am_tbl
  refine List.forall_mem_cons.mpr ⟨am_tb (am_in2 (List.mem_of_getElem? (i := 63) rfl)) rfl, ?_⟩
  refine List.forall_mem_cons.mpr ⟨am_tb (am_in2 (List.mem_of_getElem? (i := 65) rfl)) rfl, ?_⟩
  refine List.forall_mem_cons.mpr ⟨am_tb (am_in2 (List.mem_of_getElem? (i := 67) rfl)) rfl, ?_⟩
  refine List.forall_mem_cons.mpr ⟨am_tb (am_in2 (List.mem_of_getElem? (i := 69) rfl)) rfl, ?_⟩
  refine List.forall_mem_cons.mpr ⟨am_tb (am_in2 (List.mem_of_getElem? (i := 71) rfl)) rfl, ?_⟩
  exact fun _ h => absurd h List.not_mem_nil
def am_t0_4 : Nat → FieldType := fun k => match k with
  | 0 => .array .byte
  | 1 => .int
  | 2 => .int
  | 3 => .boolean
  | _ => .object "BookedEmpty$Office"
theorem am_t0ok4 : ∀ k, k < (am_k 4).2.2 → parseFieldDescriptor ((am_k 4).2.1 k).2.2.1 = some (am_t0_4 k) := by decide +kernel
theorem am_nmd4 : ∀ a, a < (am_k 4).2.2 → ∀ b, b < (am_k 4).2.2 → a ≠ b → ((am_k 4).2.1 a).2.1 ≠ ((am_k 4).2.1 b).2.1 := by decide +kernel
theorem am_df4 : ∀ k, k < (am_k 4).2.2 → defaultValue (am_t0_4 k) = (match am_fk 4 k with | 1 => Value.long 0 | 2 => .null | _ => .int 0) := by decide +kernel
theorem am_dc4 : ∀ k, k < (am_k 4).2.2 → ((am_k 4).2.1 k).1 = (am_k 4).1 := by decide +kernel
theorem am_pu4 : ∀ k, k < (am_k 4).2.2 → (am_fk 4 k = 0 → am_t0_4 k = .int) ∧ (am_fk 4 k = 3 → am_t0_4 k = .boolean) ∧ (am_fk 4 k = 2 → (am_t0_4 k).isReference = true) := by decide +kernel
theorem am_ly5 : ∀ w ∈ u_ws (am_k 5).1 (am_k 5).2.1 (am_k 5).2.2, w ∈ am_tbl := by
  intro w hw
  obtain ⟨j, hj, rfl⟩ := List.mem_map.mp hw
  clear hw
  revert j
  show ∀ j ∈ ([0, 1, 2] : List Nat), u_lay (am_k 5).1 (am_k 5).2.1 j ∈ am_tbl
  refine List.forall_mem_cons.mpr ⟨am_tb (am_in1 (List.mem_of_getElem? (i := 187) rfl)) rfl, ?_⟩
  refine List.forall_mem_cons.mpr ⟨am_tb (am_in1 (List.mem_of_getElem? (i := 189) rfl)) rfl, ?_⟩
  refine List.forall_mem_cons.mpr ⟨am_tb (am_in1 (List.mem_of_getElem? (i := 191) rfl)) rfl, ?_⟩
  exact fun _ h => absurd h List.not_mem_nil
def am_t0_5 : Nat → FieldType := fun k => match k with
  | 0 => .int
  | 1 => .int
  | _ => .boolean
theorem am_t0ok5 : ∀ k, k < (am_k 5).2.2 → parseFieldDescriptor ((am_k 5).2.1 k).2.2.1 = some (am_t0_5 k) := by decide +kernel
theorem am_nmd5 : ∀ a, a < (am_k 5).2.2 → ∀ b, b < (am_k 5).2.2 → a ≠ b → ((am_k 5).2.1 a).2.1 ≠ ((am_k 5).2.1 b).2.1 := by decide +kernel
theorem am_df5 : ∀ k, k < (am_k 5).2.2 → defaultValue (am_t0_5 k) = (match am_fk 5 k with | 1 => Value.long 0 | 2 => .null | _ => .int 0) := by decide +kernel
theorem am_dc5 : ∀ k, k < (am_k 5).2.2 → ((am_k 5).2.1 k).1 = (am_k 5).1 := by decide +kernel
theorem am_pu5 : ∀ k, k < (am_k 5).2.2 → (am_fk 5 k = 0 → am_t0_5 k = .int) ∧ (am_fk 5 k = 3 → am_t0_5 k = .boolean) ∧ (am_fk 5 k = 2 → (am_t0_5 k).isReference = true) := by decide +kernel
theorem am_ly6 : ∀ w ∈ u_ws (am_k 6).1 (am_k 6).2.1 (am_k 6).2.2, w ∈ am_tbl := by
  intro w hw
  obtain ⟨j, hj, rfl⟩ := List.mem_map.mp hw
  clear hw
  revert j
  show ∀ j ∈ ([0, 1] : List Nat), u_lay (am_k 6).1 (am_k 6).2.1 j ∈ am_tbl
  refine List.forall_mem_cons.mpr ⟨am_tb (am_in1 (List.mem_of_getElem? (i := 168) rfl)) rfl, ?_⟩
  refine List.forall_mem_cons.mpr ⟨am_tb (am_in1 (List.mem_of_getElem? (i := 170) rfl)) rfl, ?_⟩
  exact fun _ h => absurd h List.not_mem_nil
def am_t0_6 : Nat → FieldType := fun k => match k with
  | 0 => .array (.array .int)
  | _ => .int
theorem am_t0ok6 : ∀ k, k < (am_k 6).2.2 → parseFieldDescriptor ((am_k 6).2.1 k).2.2.1 = some (am_t0_6 k) := by decide +kernel
theorem am_nmd6 : ∀ a, a < (am_k 6).2.2 → ∀ b, b < (am_k 6).2.2 → a ≠ b → ((am_k 6).2.1 a).2.1 ≠ ((am_k 6).2.1 b).2.1 := by decide +kernel
theorem am_df6 : ∀ k, k < (am_k 6).2.2 → defaultValue (am_t0_6 k) = (match am_fk 6 k with | 1 => Value.long 0 | 2 => .null | _ => .int 0) := by decide +kernel
theorem am_dc6 : ∀ k, k < (am_k 6).2.2 → ((am_k 6).2.1 k).1 = (am_k 6).1 := by decide +kernel
theorem am_pu6 : ∀ k, k < (am_k 6).2.2 → (am_fk 6 k = 0 → am_t0_6 k = .int) ∧ (am_fk 6 k = 3 → am_t0_6 k = .boolean) ∧ (am_fk 6 k = 2 → (am_t0_6 k).isReference = true) := by decide +kernel
theorem am_ly7 : ∀ w ∈ u_ws (am_k 7).1 (am_k 7).2.1 (am_k 7).2.2, w ∈ am_tbl := by
  intro w hw
  obtain ⟨j, hj, rfl⟩ := List.mem_map.mp hw
  clear hw
  revert j
  show ∀ j ∈ ([0, 1, 2] : List Nat), u_lay (am_k 7).1 (am_k 7).2.1 j ∈ am_tbl
  refine List.forall_mem_cons.mpr ⟨am_tb (am_in1 (List.mem_of_getElem? (i := 106) rfl)) rfl, ?_⟩
  refine List.forall_mem_cons.mpr ⟨am_tb (am_in1 (List.mem_of_getElem? (i := 108) rfl)) rfl, ?_⟩
  refine List.forall_mem_cons.mpr ⟨am_tb (am_in1 (List.mem_of_getElem? (i := 110) rfl)) rfl, ?_⟩
  exact fun _ h => absurd h List.not_mem_nil
def am_t0_7 : Nat → FieldType := fun k => match k with
  | 0 => .array (.array .long)
  | 1 => .array .int
  | _ => .array .int
theorem am_t0ok7 : ∀ k, k < (am_k 7).2.2 → parseFieldDescriptor ((am_k 7).2.1 k).2.2.1 = some (am_t0_7 k) := by decide +kernel
theorem am_nmd7 : ∀ a, a < (am_k 7).2.2 → ∀ b, b < (am_k 7).2.2 → a ≠ b → ((am_k 7).2.1 a).2.1 ≠ ((am_k 7).2.1 b).2.1 := by decide +kernel
theorem am_df7 : ∀ k, k < (am_k 7).2.2 → defaultValue (am_t0_7 k) = (match am_fk 7 k with | 1 => Value.long 0 | 2 => .null | _ => .int 0) := by decide +kernel
theorem am_dc7 : ∀ k, k < (am_k 7).2.2 → ((am_k 7).2.1 k).1 = (am_k 7).1 := by decide +kernel
theorem am_pu7 : ∀ k, k < (am_k 7).2.2 → (am_fk 7 k = 0 → am_t0_7 k = .int) ∧ (am_fk 7 k = 3 → am_t0_7 k = .boolean) ∧ (am_fk 7 k = 2 → (am_t0_7 k).isReference = true) := by decide +kernel
theorem am_ly8 : ∀ w ∈ u_ws (am_k 8).1 (am_k 8).2.1 (am_k 8).2.2, w ∈ am_tbl := by
  intro w hw
  obtain ⟨j, hj, rfl⟩ := List.mem_map.mp hw
  clear hw
  revert j
  show ∀ j ∈ ([0, 1, 2, 3, 4, 5, 6, 7, 8, 9, 10] : List Nat), u_lay (am_k 8).1 (am_k 8).2.1 j ∈ am_tbl
  refine List.forall_mem_cons.mpr ⟨am_tb (am_in1 (List.mem_of_getElem? (i := 52) rfl)) rfl, ?_⟩
  refine List.forall_mem_cons.mpr ⟨am_tb (am_in1 (List.mem_of_getElem? (i := 54) rfl)) rfl, ?_⟩
  refine List.forall_mem_cons.mpr ⟨am_tb (am_in1 (List.mem_of_getElem? (i := 56) rfl)) rfl, ?_⟩
  refine List.forall_mem_cons.mpr ⟨am_tb (am_in1 (List.mem_of_getElem? (i := 58) rfl)) rfl, ?_⟩
  refine List.forall_mem_cons.mpr ⟨am_tb (am_in1 (List.mem_of_getElem? (i := 60) rfl)) rfl, ?_⟩
  refine List.forall_mem_cons.mpr ⟨am_tb (am_in1 (List.mem_of_getElem? (i := 62) rfl)) rfl, ?_⟩
  refine List.forall_mem_cons.mpr ⟨am_tb (am_in1 (List.mem_of_getElem? (i := 64) rfl)) rfl, ?_⟩
  refine List.forall_mem_cons.mpr ⟨am_tb (am_in1 (List.mem_of_getElem? (i := 66) rfl)) rfl, ?_⟩
  refine List.forall_mem_cons.mpr ⟨am_tb (am_in1 (List.mem_of_getElem? (i := 68) rfl)) rfl, ?_⟩
  refine List.forall_mem_cons.mpr ⟨am_tb (am_in1 (List.mem_of_getElem? (i := 70) rfl)) rfl, ?_⟩
  refine List.forall_mem_cons.mpr ⟨am_tb (am_in1 (List.mem_of_getElem? (i := 72) rfl)) rfl, ?_⟩
  exact fun _ h => absurd h List.not_mem_nil
def am_t0_8 : Nat → FieldType := fun k => match k with
  | 0 => .int
  | 1 => .int
  | 2 => .boolean
  | 3 => .array .int
  | 4 => .array .long
  | 5 => .array (.array .int)
  | 6 => .array .long
  | 7 => .array .int
  | 8 => .array .int
  | 9 => .int
  | _ => .int
theorem am_t0ok8 : ∀ k, k < (am_k 8).2.2 → parseFieldDescriptor ((am_k 8).2.1 k).2.2.1 = some (am_t0_8 k) := by decide +kernel
theorem am_nmd8 : ∀ a, a < (am_k 8).2.2 → ∀ b, b < (am_k 8).2.2 → a ≠ b → ((am_k 8).2.1 a).2.1 ≠ ((am_k 8).2.1 b).2.1 := by decide +kernel
theorem am_df8 : ∀ k, k < (am_k 8).2.2 → defaultValue (am_t0_8 k) = (match am_fk 8 k with | 1 => Value.long 0 | 2 => .null | _ => .int 0) := by decide +kernel
theorem am_dc8 : ∀ k, k < (am_k 8).2.2 → ((am_k 8).2.1 k).1 = (am_k 8).1 := by decide +kernel
theorem am_pu8 : ∀ k, k < (am_k 8).2.2 → (am_fk 8 k = 0 → am_t0_8 k = .int) ∧ (am_fk 8 k = 3 → am_t0_8 k = .boolean) ∧ (am_fk 8 k = 2 → (am_t0_8 k).isReference = true) := by decide +kernel
theorem am_ly9 : ∀ w ∈ u_ws (am_k 9).1 (am_k 9).2.1 (am_k 9).2.2, w ∈ am_tbl := by
  intro w hw
  obtain ⟨j, hj, rfl⟩ := List.mem_map.mp hw
  clear hw
  revert j
  show ∀ j ∈ ([0, 1, 2, 3, 4, 5, 6, 7, 8, 9] : List Nat), u_lay (am_k 9).1 (am_k 9).2.1 j ∈ am_tbl
  refine List.forall_mem_cons.mpr ⟨am_tb (am_in2 (List.mem_of_getElem? (i := 85) rfl)) rfl, ?_⟩
  refine List.forall_mem_cons.mpr ⟨am_tb (am_in2 (List.mem_of_getElem? (i := 87) rfl)) rfl, ?_⟩
  refine List.forall_mem_cons.mpr ⟨am_tb (am_in2 (List.mem_of_getElem? (i := 89) rfl)) rfl, ?_⟩
  refine List.forall_mem_cons.mpr ⟨am_tb (am_in2 (List.mem_of_getElem? (i := 91) rfl)) rfl, ?_⟩
  refine List.forall_mem_cons.mpr ⟨am_tb (am_in2 (List.mem_of_getElem? (i := 93) rfl)) rfl, ?_⟩
  refine List.forall_mem_cons.mpr ⟨am_tb (am_in2 (List.mem_of_getElem? (i := 95) rfl)) rfl, ?_⟩
  refine List.forall_mem_cons.mpr ⟨am_tb (am_in2 (List.mem_of_getElem? (i := 97) rfl)) rfl, ?_⟩
  refine List.forall_mem_cons.mpr ⟨am_tb (am_in2 (List.mem_of_getElem? (i := 99) rfl)) rfl, ?_⟩
  refine List.forall_mem_cons.mpr ⟨am_tb (am_in2 (List.mem_of_getElem? (i := 101) rfl)) rfl, ?_⟩
  refine List.forall_mem_cons.mpr ⟨am_tb (am_in2 (List.mem_of_getElem? (i := 103) rfl)) rfl, ?_⟩
  exact fun _ h => absurd h List.not_mem_nil
def am_t0_9 : Nat → FieldType := fun k => match k with
  | 0 => .object "BookedEmpty$House"
  | 1 => .object "BookedEmpty$House"
  | 2 => .boolean
  | 3 => .object "BookedEmpty$House"
  | 4 => .array (.object "BookedEmpty$Office")
  | 5 => .int
  | 6 => .object "BookedEmpty$Reader"
  | 7 => .object "BookedEmpty$Ways"
  | 8 => .object "BookedEmpty$Acts"
  | _ => .object "BookedEmpty$Tapes"
theorem am_t0ok9 : ∀ k, k < (am_k 9).2.2 → parseFieldDescriptor ((am_k 9).2.1 k).2.2.1 = some (am_t0_9 k) := by decide +kernel
theorem am_nmd9 : ∀ a, a < (am_k 9).2.2 → ∀ b, b < (am_k 9).2.2 → a ≠ b → ((am_k 9).2.1 a).2.1 ≠ ((am_k 9).2.1 b).2.1 := by decide +kernel
theorem am_df9 : ∀ k, k < (am_k 9).2.2 → defaultValue (am_t0_9 k) = (match am_fk 9 k with | 1 => Value.long 0 | 2 => .null | _ => .int 0) := by decide +kernel
theorem am_dc9 : ∀ k, k < (am_k 9).2.2 → ((am_k 9).2.1 k).1 = (am_k 9).1 := by decide +kernel
theorem am_pu9 : ∀ k, k < (am_k 9).2.2 → (am_fk 9 k = 0 → am_t0_9 k = .int) ∧ (am_fk 9 k = 3 → am_t0_9 k = .boolean) ∧ (am_fk 9 k = 2 → (am_t0_9 k).isReference = true) := by decide +kernel
theorem am_ly50 : ∀ w ∈ u_ws (am_k 50).1 (am_k 50).2.1 (am_k 50).2.2, w ∈ am_tbl := by
  intro w hw
  obtain ⟨j, hj, rfl⟩ := List.mem_map.mp hw
  clear hw
  revert j
  show ∀ j ∈ ([0, 1, 2, 3, 4, 5, 6, 7, 8, 9, 10, 11, 12, 13, 14, 15, 16, 17, 18, 19, 20, 21, 22, 23, 24, 25, 26, 27, 28, 29, 30, 31, 32, 33, 34, 35, 36, 37, 38, 39, 40, 41, 42, 43, 44, 45, 46, 47, 48, 49, 50, 51, 52, 53, 54, 55, 56, 57, 58, 59, 60, 61, 62, 63, 64, 65, 66, 67, 68, 69, 70, 71, 72, 73, 74, 75, 76, 77, 78, 79, 80, 81, 82] : List Nat), u_lay (am_k 50).1 (am_k 50).2.1 j ∈ am_tbl
  refine List.forall_mem_cons.mpr ⟨am_tb (am_in5 (List.mem_of_getElem? (i := 113) rfl)) rfl, ?_⟩
  refine List.forall_mem_cons.mpr ⟨am_tb (am_in5 (List.mem_of_getElem? (i := 115) rfl)) rfl, ?_⟩
  refine List.forall_mem_cons.mpr ⟨am_tb (am_in5 (List.mem_of_getElem? (i := 117) rfl)) rfl, ?_⟩
  refine List.forall_mem_cons.mpr ⟨am_tb (am_in5 (List.mem_of_getElem? (i := 119) rfl)) rfl, ?_⟩
  refine List.forall_mem_cons.mpr ⟨am_tb (am_in5 (List.mem_of_getElem? (i := 121) rfl)) rfl, ?_⟩
  refine List.forall_mem_cons.mpr ⟨am_tb (am_in5 (List.mem_of_getElem? (i := 123) rfl)) rfl, ?_⟩
  refine List.forall_mem_cons.mpr ⟨am_tb (am_in5 (List.mem_of_getElem? (i := 125) rfl)) rfl, ?_⟩
  refine List.forall_mem_cons.mpr ⟨am_tb (am_in5 (List.mem_of_getElem? (i := 127) rfl)) rfl, ?_⟩
  refine List.forall_mem_cons.mpr ⟨am_tb (am_in5 (List.mem_of_getElem? (i := 129) rfl)) rfl, ?_⟩
  refine List.forall_mem_cons.mpr ⟨am_tb (am_in5 (List.mem_of_getElem? (i := 131) rfl)) rfl, ?_⟩
  refine List.forall_mem_cons.mpr ⟨am_tb (am_in5 (List.mem_of_getElem? (i := 133) rfl)) rfl, ?_⟩
  refine List.forall_mem_cons.mpr ⟨am_tb (am_in5 (List.mem_of_getElem? (i := 135) rfl)) rfl, ?_⟩
  refine List.forall_mem_cons.mpr ⟨am_tb (am_in5 (List.mem_of_getElem? (i := 137) rfl)) rfl, ?_⟩
  refine List.forall_mem_cons.mpr ⟨am_tb (am_in5 (List.mem_of_getElem? (i := 139) rfl)) rfl, ?_⟩
  refine List.forall_mem_cons.mpr ⟨am_tb (am_in5 (List.mem_of_getElem? (i := 141) rfl)) rfl, ?_⟩
  refine List.forall_mem_cons.mpr ⟨am_tb (am_in5 (List.mem_of_getElem? (i := 143) rfl)) rfl, ?_⟩
  refine List.forall_mem_cons.mpr ⟨am_tb (am_in5 (List.mem_of_getElem? (i := 145) rfl)) rfl, ?_⟩
  refine List.forall_mem_cons.mpr ⟨am_tb (am_in5 (List.mem_of_getElem? (i := 147) rfl)) rfl, ?_⟩
  refine List.forall_mem_cons.mpr ⟨am_tb (am_in5 (List.mem_of_getElem? (i := 149) rfl)) rfl, ?_⟩
  refine List.forall_mem_cons.mpr ⟨am_tb (am_in5 (List.mem_of_getElem? (i := 151) rfl)) rfl, ?_⟩
  refine List.forall_mem_cons.mpr ⟨am_tb (am_in5 (List.mem_of_getElem? (i := 153) rfl)) rfl, ?_⟩
  refine List.forall_mem_cons.mpr ⟨am_tb (am_in5 (List.mem_of_getElem? (i := 155) rfl)) rfl, ?_⟩
  refine List.forall_mem_cons.mpr ⟨am_tb (am_in5 (List.mem_of_getElem? (i := 157) rfl)) rfl, ?_⟩
  refine List.forall_mem_cons.mpr ⟨am_tb (am_in5 (List.mem_of_getElem? (i := 159) rfl)) rfl, ?_⟩
  refine List.forall_mem_cons.mpr ⟨am_tb (am_in5 (List.mem_of_getElem? (i := 161) rfl)) rfl, ?_⟩
  refine List.forall_mem_cons.mpr ⟨am_tb (am_in5 (List.mem_of_getElem? (i := 163) rfl)) rfl, ?_⟩
  refine List.forall_mem_cons.mpr ⟨am_tb (am_in5 (List.mem_of_getElem? (i := 165) rfl)) rfl, ?_⟩
  refine List.forall_mem_cons.mpr ⟨am_tb (am_in5 (List.mem_of_getElem? (i := 167) rfl)) rfl, ?_⟩
  refine List.forall_mem_cons.mpr ⟨am_tb (am_in5 (List.mem_of_getElem? (i := 169) rfl)) rfl, ?_⟩
  refine List.forall_mem_cons.mpr ⟨am_tb (am_in5 (List.mem_of_getElem? (i := 171) rfl)) rfl, ?_⟩
  refine List.forall_mem_cons.mpr ⟨am_tb (am_in5 (List.mem_of_getElem? (i := 173) rfl)) rfl, ?_⟩
  refine List.forall_mem_cons.mpr ⟨am_tb (am_in5 (List.mem_of_getElem? (i := 175) rfl)) rfl, ?_⟩
  refine List.forall_mem_cons.mpr ⟨am_tb (am_in5 (List.mem_of_getElem? (i := 177) rfl)) rfl, ?_⟩
  refine List.forall_mem_cons.mpr ⟨am_tb (am_in5 (List.mem_of_getElem? (i := 179) rfl)) rfl, ?_⟩
  refine List.forall_mem_cons.mpr ⟨am_tb (am_in5 (List.mem_of_getElem? (i := 181) rfl)) rfl, ?_⟩
  refine List.forall_mem_cons.mpr ⟨am_tb (am_in5 (List.mem_of_getElem? (i := 183) rfl)) rfl, ?_⟩
  refine List.forall_mem_cons.mpr ⟨am_tb (am_in5 (List.mem_of_getElem? (i := 185) rfl)) rfl, ?_⟩
  refine List.forall_mem_cons.mpr ⟨am_tb (am_in5 (List.mem_of_getElem? (i := 187) rfl)) rfl, ?_⟩
  refine List.forall_mem_cons.mpr ⟨am_tb (am_in5 (List.mem_of_getElem? (i := 189) rfl)) rfl, ?_⟩
  refine List.forall_mem_cons.mpr ⟨am_tb (am_in5 (List.mem_of_getElem? (i := 191) rfl)) rfl, ?_⟩
  refine List.forall_mem_cons.mpr ⟨am_tb (am_in5 (List.mem_of_getElem? (i := 193) rfl)) rfl, ?_⟩
  refine List.forall_mem_cons.mpr ⟨am_tb (am_in5 (List.mem_of_getElem? (i := 195) rfl)) rfl, ?_⟩
  refine List.forall_mem_cons.mpr ⟨am_tb (am_in5 (List.mem_of_getElem? (i := 197) rfl)) rfl, ?_⟩
  refine List.forall_mem_cons.mpr ⟨am_tb (am_in5 (List.mem_of_getElem? (i := 199) rfl)) rfl, ?_⟩
  refine List.forall_mem_cons.mpr ⟨am_tb (am_in5 (List.mem_of_getElem? (i := 201) rfl)) rfl, ?_⟩
  refine List.forall_mem_cons.mpr ⟨am_tb (am_in5 (List.mem_of_getElem? (i := 203) rfl)) rfl, ?_⟩
  refine List.forall_mem_cons.mpr ⟨am_tb (am_in5 (List.mem_of_getElem? (i := 205) rfl)) rfl, ?_⟩
  refine List.forall_mem_cons.mpr ⟨am_tb (am_in5 (List.mem_of_getElem? (i := 207) rfl)) rfl, ?_⟩
  refine List.forall_mem_cons.mpr ⟨am_tb (am_in5 (List.mem_of_getElem? (i := 209) rfl)) rfl, ?_⟩
  refine List.forall_mem_cons.mpr ⟨am_tb (am_in5 (List.mem_of_getElem? (i := 211) rfl)) rfl, ?_⟩
  refine List.forall_mem_cons.mpr ⟨am_tb (am_in5 (List.mem_of_getElem? (i := 213) rfl)) rfl, ?_⟩
  refine List.forall_mem_cons.mpr ⟨am_tb (am_in5 (List.mem_of_getElem? (i := 215) rfl)) rfl, ?_⟩
  refine List.forall_mem_cons.mpr ⟨am_tb (am_in5 (List.mem_of_getElem? (i := 217) rfl)) rfl, ?_⟩
  refine List.forall_mem_cons.mpr ⟨am_tb (am_in5 (List.mem_of_getElem? (i := 219) rfl)) rfl, ?_⟩
  refine List.forall_mem_cons.mpr ⟨am_tb (am_in5 (List.mem_of_getElem? (i := 221) rfl)) rfl, ?_⟩
  refine List.forall_mem_cons.mpr ⟨am_tb (am_in5 (List.mem_of_getElem? (i := 223) rfl)) rfl, ?_⟩
  refine List.forall_mem_cons.mpr ⟨am_tb (am_in5 (List.mem_of_getElem? (i := 225) rfl)) rfl, ?_⟩
  refine List.forall_mem_cons.mpr ⟨am_tb (am_in5 (List.mem_of_getElem? (i := 227) rfl)) rfl, ?_⟩
  refine List.forall_mem_cons.mpr ⟨am_tb (am_in5 (List.mem_of_getElem? (i := 229) rfl)) rfl, ?_⟩
  refine List.forall_mem_cons.mpr ⟨am_tb (am_in5 (List.mem_of_getElem? (i := 231) rfl)) rfl, ?_⟩
  refine List.forall_mem_cons.mpr ⟨am_tb (am_in5 (List.mem_of_getElem? (i := 233) rfl)) rfl, ?_⟩
  refine List.forall_mem_cons.mpr ⟨am_tb (am_in5 (List.mem_of_getElem? (i := 235) rfl)) rfl, ?_⟩
  refine List.forall_mem_cons.mpr ⟨am_tb (am_in5 (List.mem_of_getElem? (i := 237) rfl)) rfl, ?_⟩
  refine List.forall_mem_cons.mpr ⟨am_tb (am_in5 (List.mem_of_getElem? (i := 239) rfl)) rfl, ?_⟩
  refine List.forall_mem_cons.mpr ⟨am_tb (am_in6 (List.mem_of_getElem? (i := 1) rfl)) rfl, ?_⟩
  refine List.forall_mem_cons.mpr ⟨am_tb (am_in6 (List.mem_of_getElem? (i := 3) rfl)) rfl, ?_⟩
  refine List.forall_mem_cons.mpr ⟨am_tb (am_in6 (List.mem_of_getElem? (i := 5) rfl)) rfl, ?_⟩
  refine List.forall_mem_cons.mpr ⟨am_tb (am_in6 (List.mem_of_getElem? (i := 7) rfl)) rfl, ?_⟩
  refine List.forall_mem_cons.mpr ⟨am_tb (am_in6 (List.mem_of_getElem? (i := 9) rfl)) rfl, ?_⟩
  refine List.forall_mem_cons.mpr ⟨am_tb (am_in6 (List.mem_of_getElem? (i := 11) rfl)) rfl, ?_⟩
  refine List.forall_mem_cons.mpr ⟨am_tb (am_in6 (List.mem_of_getElem? (i := 13) rfl)) rfl, ?_⟩
  refine List.forall_mem_cons.mpr ⟨am_tb (am_in6 (List.mem_of_getElem? (i := 15) rfl)) rfl, ?_⟩
  refine List.forall_mem_cons.mpr ⟨am_tb (am_in6 (List.mem_of_getElem? (i := 17) rfl)) rfl, ?_⟩
  refine List.forall_mem_cons.mpr ⟨am_tb (am_in6 (List.mem_of_getElem? (i := 19) rfl)) rfl, ?_⟩
  refine List.forall_mem_cons.mpr ⟨am_tb (am_in6 (List.mem_of_getElem? (i := 21) rfl)) rfl, ?_⟩
  refine List.forall_mem_cons.mpr ⟨am_tb (am_in6 (List.mem_of_getElem? (i := 23) rfl)) rfl, ?_⟩
  refine List.forall_mem_cons.mpr ⟨am_tb (am_in6 (List.mem_of_getElem? (i := 25) rfl)) rfl, ?_⟩
  refine List.forall_mem_cons.mpr ⟨am_tb (am_in6 (List.mem_of_getElem? (i := 27) rfl)) rfl, ?_⟩
  refine List.forall_mem_cons.mpr ⟨am_tb (am_in6 (List.mem_of_getElem? (i := 29) rfl)) rfl, ?_⟩
  refine List.forall_mem_cons.mpr ⟨am_tb (am_in6 (List.mem_of_getElem? (i := 31) rfl)) rfl, ?_⟩
  refine List.forall_mem_cons.mpr ⟨am_tb (am_in6 (List.mem_of_getElem? (i := 33) rfl)) rfl, ?_⟩
  refine List.forall_mem_cons.mpr ⟨am_tb (am_in6 (List.mem_of_getElem? (i := 35) rfl)) rfl, ?_⟩
  refine List.forall_mem_cons.mpr ⟨am_tb (am_in6 (List.mem_of_getElem? (i := 37) rfl)) rfl, ?_⟩
  exact fun _ h => absurd h List.not_mem_nil
def am_t0_50 : Nat → FieldType := fun k => match k with
  | 0 => .int
  | 1 => .int
  | 2 => .int
  | 3 => .int
  | 4 => .array .int
  | 5 => .array .int
  | 6 => .array .int
  | 7 => .array .int
  | 8 => .array .int
  | 9 => .array .int
  | 10 => .array .int
  | 11 => .array .int
  | 12 => .int
  | 13 => .int
  | 14 => .int
  | 15 => .int
  | 16 => .int
  | 17 => .array .int
  | 18 => .array .int
  | 19 => .array .int
  | 20 => .array .int
  | 21 => .array .int
  | 22 => .array .int
  | 23 => .array .int
  | 24 => .array .int
  | 25 => .int
  | 26 => .int
  | 27 => .int
  | 28 => .array .int
  | 29 => .int
  | 30 => .array .boolean
  | 31 => .array .int
  | 32 => .array .int
  | 33 => .int
  | 34 => .int
  | 35 => .array .boolean
  | 36 => .array .boolean
  | 37 => .array .int
  | 38 => .array .boolean
  | 39 => .array .boolean
  | 40 => .int
  | 41 => .array .int
  | 42 => .array .int
  | 43 => .array .int
  | 44 => .array .boolean
  | 45 => .int
  | 46 => .int
  | 47 => .array .int
  | 48 => .array .int
  | 49 => .array .int
  | 50 => .array .int
  | 51 => .array .int
  | 52 => .boolean
  | 53 => .int
  | 54 => .int
  | 55 => .int
  | 56 => .int
  | 57 => .int
  | 58 => .int
  | 59 => .int
  | 60 => .int
  | 61 => .array .int
  | 62 => .array .int
  | 63 => .array .int
  | 64 => .array .int
  | 65 => .array .int
  | 66 => .array .int
  | 67 => .array .int
  | 68 => .array .int
  | 69 => .array .int
  | 70 => .array .int
  | 71 => .array .int
  | 72 => .array .int
  | 73 => .array .int
  | 74 => .array .int
  | 75 => .array .int
  | 76 => .array .boolean
  | 77 => .int
  | 78 => .array .int
  | 79 => .array .int
  | 80 => .array .int
  | 81 => .array .long
  | _ => .array .long
theorem am_t0ok50 : ∀ k, k < (am_k 50).2.2 → parseFieldDescriptor ((am_k 50).2.1 k).2.2.1 = some (am_t0_50 k) := by decide +kernel
theorem am_nmd50 : ∀ a, a < (am_k 50).2.2 → ∀ b, b < (am_k 50).2.2 → a ≠ b → ((am_k 50).2.1 a).2.1 ≠ ((am_k 50).2.1 b).2.1 := by decide +kernel
theorem am_df50 : ∀ k, k < (am_k 50).2.2 → defaultValue (am_t0_50 k) = (match am_fk 50 k with | 1 => Value.long 0 | 2 => .null | _ => .int 0) := by decide +kernel
theorem am_dc50 : ∀ k, k < (am_k 50).2.2 → ((am_k 50).2.1 k).1 = (am_k 50).1 := by decide +kernel
theorem am_pu50 : ∀ k, k < (am_k 50).2.2 → (am_fk 50 k = 0 → am_t0_50 k = .int) ∧ (am_fk 50 k = 3 → am_t0_50 k = .boolean) ∧ (am_fk 50 k = 2 → (am_t0_50 k).isReference = true) := by decide +kernel
