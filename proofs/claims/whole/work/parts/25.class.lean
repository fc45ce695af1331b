/-! ===== THE CLASSES' WORDS (made by wip/gen/gen25.py) ===== -/
def kI_1 : List (Nat × Nat) := [(1, 154), (1, 150), (1, 152)]
set_option maxRecDepth 16384 in
theorem kW_1 : (u_ws (cR 1) (cT 1) (cF 1)).map some = kI_1.map wt := rfl
theorem kG_1 : (u_ws (cR 1) (cT 1) (cF 1)).all goodWord = true := by decide +kernel
theorem kT_1 : (List.range (cF 1)).all (fun j => decide (parseFieldDescriptor (cT 1 j).2.2.1 = some (cY 1 j)) && decide (kdY (cY 1 j) ≠ 9)) = true := by decide +kernel
theorem kC_1 : wt (13, 64) = some (Cond.castable (cR 1) "java/lang/Object") := rfl
theorem kN_1 : wt (1, 132) = some (Cond.instantiable (cR 1) (cF 1)) := rfl
def kI_2 : List (Nat × Nat) := [(1, 179), (1, 181), (1, 183), (1, 185), (1, 187), (1, 189), (1, 191), (1, 193), (1, 195)]
set_option maxRecDepth 16384 in
theorem kW_2 : (u_ws (cR 2) (cT 2) (cF 2)).map some = kI_2.map wt := rfl
theorem kG_2 : (u_ws (cR 2) (cT 2) (cF 2)).all goodWord = true := by decide +kernel
theorem kT_2 : (List.range (cF 2)).all (fun j => decide (parseFieldDescriptor (cT 2 j).2.2.1 = some (cY 2 j)) && decide (kdY (cY 2 j) ≠ 9)) = true := by decide +kernel
theorem kC_2 : wt (13, 63) = some (Cond.castable (cR 2) "java/lang/Object") := rfl
theorem kN_2 : wt (1, 126) = some (Cond.instantiable (cR 2) (cF 2)) := rfl
def kI_3 : List (Nat × Nat) := [(4, 144), (4, 146), (4, 148), (4, 150), (4, 152), (4, 154), (4, 156), (4, 158)]
set_option maxRecDepth 16384 in
theorem kW_3 : (u_ws (cR 3) (cT 3) (cF 3)).map some = kI_3.map wt := rfl
theorem kG_3 : (u_ws (cR 3) (cT 3) (cF 3)).all goodWord = true := by decide +kernel
theorem kT_3 : (List.range (cF 3)).all (fun j => decide (parseFieldDescriptor (cT 3 j).2.2.1 = some (cY 3 j)) && decide (kdY (cY 3 j) ≠ 9)) = true := by decide +kernel
theorem kC_3 : wt (13, 71) = some (Cond.castable (cR 3) "java/lang/Object") := rfl
theorem kN_3 : wt (4, 119) = some (Cond.instantiable (cR 3) (cF 3)) := rfl
def kI_4 : List (Nat × Nat) := [(1, 101), (1, 103), (1, 105), (1, 107), (1, 109), (1, 111), (1, 113), (1, 115)]
set_option maxRecDepth 16384 in
theorem kW_4 : (u_ws (cR 4) (cT 4) (cF 4)).map some = kI_4.map wt := rfl
theorem kG_4 : (u_ws (cR 4) (cT 4) (cF 4)).all goodWord = true := by decide +kernel
theorem kT_4 : (List.range (cF 4)).all (fun j => decide (parseFieldDescriptor (cT 4 j).2.2.1 = some (cY 4 j)) && decide (kdY (cY 4 j) ≠ 9)) = true := by decide +kernel
theorem kC_4 : wt (13, 61) = some (Cond.castable (cR 4) "java/lang/Object") := rfl
theorem kN_4 : wt (1, 84) = some (Cond.instantiable (cR 4) (cF 4)) := rfl
def kI_5 : List (Nat × Nat) := [(8, 32), (8, 34), (8, 36), (8, 38), (8, 40), (8, 42), (8, 44), (8, 46), (8, 48), (8, 50), (8, 52), (8, 54), (8, 56), (8, 58), (8, 60)]
set_option maxRecDepth 16384 in
theorem kW_5 : (u_ws (cR 5) (cT 5) (cF 5)).map some = kI_5.map wt := rfl
theorem kG_5 : (u_ws (cR 5) (cT 5) (cF 5)).all goodWord = true := by decide +kernel
theorem kT_5 : (List.range (cF 5)).all (fun j => decide (parseFieldDescriptor (cT 5 j).2.2.1 = some (cY 5 j)) && decide (kdY (cY 5 j) ≠ 9)) = true := by decide +kernel
theorem kC_5 : wt (13, 73) = some (Cond.castable (cR 5) "java/lang/Object") := rfl
theorem kN_5 : wt (7, 235) = some (Cond.instantiable (cR 5) (cF 5)) := rfl
def kI_6 : List (Nat × Nat) := [(2, 59), (2, 61), (2, 63), (2, 65), (2, 67), (2, 69), (2, 71), (2, 73), (2, 75), (2, 77), (2, 79), (2, 81), (2, 83), (2, 85), (2, 87), (2, 89), (2, 91), (2, 93), (2, 95), (2, 97)]
set_option maxRecDepth 16384 in
theorem kW_6 : (u_ws (cR 6) (cT 6) (cF 6)).map some = kI_6.map wt := rfl
theorem kG_6 : (u_ws (cR 6) (cT 6) (cF 6)).all goodWord = true := by decide +kernel
theorem kT_6 : (List.range (cF 6)).all (fun j => decide (parseFieldDescriptor (cT 6 j).2.2.1 = some (cY 6 j)) && decide (kdY (cY 6 j) ≠ 9)) = true := by decide +kernel
theorem kC_6 : wt (13, 65) = some (Cond.castable (cR 6) "java/lang/Object") := rfl
theorem kN_6 : wt (2, 26) = some (Cond.instantiable (cR 6) (cF 6)) := rfl
def kI_7 : List (Nat × Nat) := [(3, 96), (3, 98), (3, 100), (3, 102), (3, 104), (3, 106)]
set_option maxRecDepth 16384 in
theorem kW_7 : (u_ws (cR 7) (cT 7) (cF 7)).map some = kI_7.map wt := rfl
theorem kG_7 : (u_ws (cR 7) (cT 7) (cF 7)).all goodWord = true := by decide +kernel
theorem kT_7 : (List.range (cF 7)).all (fun j => decide (parseFieldDescriptor (cT 7 j).2.2.1 = some (cY 7 j)) && decide (kdY (cY 7 j) ≠ 9)) = true := by decide +kernel
theorem kC_7 : wt (13, 68) = some (Cond.castable (cR 7) "java/lang/Object") := rfl
theorem kN_7 : wt (3, 74) = some (Cond.instantiable (cR 7) (cF 7)) := rfl
def kI_8 : List (Nat × Nat) := [(1, 228), (1, 230), (1, 232), (1, 234), (1, 236), (1, 238), (2, 0), (2, 2), (2, 4), (2, 6), (2, 8), (2, 10), (2, 12), (2, 14), (2, 16), (2, 18), (2, 20), (2, 22)]
set_option maxRecDepth 16384 in
theorem kW_8 : (u_ws (cR 8) (cT 8) (cF 8)).map some = kI_8.map wt := rfl
theorem kG_8 : (u_ws (cR 8) (cT 8) (cF 8)).all goodWord = true := by decide +kernel
theorem kT_8 : (List.range (cF 8)).all (fun j => decide (parseFieldDescriptor (cT 8 j).2.2.1 = some (cY 8 j)) && decide (kdY (cY 8 j) ≠ 9)) = true := by decide +kernel
theorem kC_8 : wt (13, 62) = some (Cond.castable (cR 8) "java/lang/Object") := rfl
theorem kN_8 : wt (1, 120) = some (Cond.instantiable (cR 8) (cF 8)) := rfl
def kI_9 : List (Nat × Nat) := [(2, 113), (2, 115), (2, 117), (2, 119), (2, 121), (2, 123)]
set_option maxRecDepth 16384 in
theorem kW_9 : (u_ws (cR 9) (cT 9) (cF 9)).map some = kI_9.map wt := rfl
theorem kG_9 : (u_ws (cR 9) (cT 9) (cF 9)).all goodWord = true := by decide +kernel
theorem kT_9 : (List.range (cF 9)).all (fun j => decide (parseFieldDescriptor (cT 9 j).2.2.1 = some (cY 9 j)) && decide (kdY (cY 9 j) ≠ 9)) = true := by decide +kernel
theorem kC_9 : wt (13, 66) = some (Cond.castable (cR 9) "java/lang/Object") := rfl
theorem kN_9 : wt (2, 101) = some (Cond.instantiable (cR 9) (cF 9)) := rfl
def kI_10 : List (Nat × Nat) := [(4, 81), (4, 83), (4, 85), (4, 87), (4, 89), (4, 91), (4, 93), (4, 95)]
set_option maxRecDepth 16384 in
theorem kW_10 : (u_ws (cR 10) (cT 10) (cF 10)).map some = kI_10.map wt := rfl
theorem kG_10 : (u_ws (cR 10) (cT 10) (cF 10)).all goodWord = true := by decide +kernel
theorem kT_10 : (List.range (cF 10)).all (fun j => decide (parseFieldDescriptor (cT 10 j).2.2.1 = some (cY 10 j)) && decide (kdY (cY 10 j) ≠ 9)) = true := by decide +kernel
theorem kC_10 : wt (13, 70) = some (Cond.castable (cR 10) "java/lang/Object") := rfl
theorem kN_10 : wt (4, 61) = some (Cond.instantiable (cR 10) (cF 10)) := rfl
def kI_11 : List (Nat × Nat) := [(4, 4), (4, 6), (4, 8), (4, 10), (4, 12), (4, 14), (4, 16), (4, 18), (4, 20)]
set_option maxRecDepth 16384 in
theorem kW_11 : (u_ws (cR 11) (cT 11) (cF 11)).map some = kI_11.map wt := rfl
theorem kG_11 : (u_ws (cR 11) (cT 11) (cF 11)).all goodWord = true := by decide +kernel
theorem kT_11 : (List.range (cF 11)).all (fun j => decide (parseFieldDescriptor (cT 11 j).2.2.1 = some (cY 11 j)) && decide (kdY (cY 11 j) ≠ 9)) = true := by decide +kernel
theorem kC_11 : wt (13, 69) = some (Cond.castable (cR 11) "java/lang/Object") := rfl
theorem kN_11 : wt (3, 220) = some (Cond.instantiable (cR 11) (cF 11)) := rfl
def kI_12 : List (Nat × Nat) := [(1, 67), (1, 69), (1, 71), (1, 73), (1, 75), (1, 77), (1, 79)]
set_option maxRecDepth 16384 in
theorem kW_12 : (u_ws (cR 12) (cT 12) (cF 12)).map some = kI_12.map wt := rfl
theorem kG_12 : (u_ws (cR 12) (cT 12) (cF 12)).all goodWord = true := by decide +kernel
theorem kT_12 : (List.range (cF 12)).all (fun j => decide (parseFieldDescriptor (cT 12 j).2.2.1 = some (cY 12 j)) && decide (kdY (cY 12 j) ≠ 9)) = true := by decide +kernel
theorem kC_12 : wt (13, 60) = some (Cond.castable (cR 12) "java/lang/Object") := rfl
theorem kN_12 : wt (1, 42) = some (Cond.instantiable (cR 12) (cF 12)) := rfl
def kI_13 : List (Nat × Nat) := [(2, 136), (2, 138), (2, 140), (2, 142), (2, 144), (2, 146), (2, 148), (2, 150), (2, 152), (2, 154)]
set_option maxRecDepth 16384 in
theorem kW_13 : (u_ws (cR 13) (cT 13) (cF 13)).map some = kI_13.map wt := rfl
theorem kG_13 : (u_ws (cR 13) (cT 13) (cF 13)).all goodWord = true := by decide +kernel
theorem kT_13 : (List.range (cF 13)).all (fun j => decide (parseFieldDescriptor (cT 13 j).2.2.1 = some (cY 13 j)) && decide (kdY (cY 13 j) ≠ 9)) = true := by decide +kernel
theorem kC_13 : wt (13, 59) = some (Cond.castable (cR 13) "java/lang/Object") := rfl
theorem kN_13 : wt (1, 34) = some (Cond.instantiable (cR 13) (cF 13)) := rfl
def kI_14 : List (Nat × Nat) := [(9, 97), (9, 99), (9, 101), (9, 103), (9, 105), (9, 107), (9, 109), (9, 111), (9, 113), (9, 115), (9, 117), (9, 119), (9, 121), (9, 123), (9, 125), (9, 127), (9, 129), (9, 131), (9, 133), (9, 135), (9, 137), (9, 139), (9, 141), (9, 143), (9, 145), (9, 147), (9, 149), (9, 151), (9, 153), (9, 155), (9, 157), (9, 159), (9, 161), (9, 163), (9, 165), (9, 167), (9, 169), (9, 171), (9, 173), (9, 175), (9, 177), (9, 179), (9, 181), (9, 183), (9, 185), (9, 187), (9, 189), (9, 191), (9, 193), (9, 195), (9, 197), (9, 199), (9, 201), (9, 203), (9, 205), (9, 207), (9, 209), (9, 211), (9, 213), (9, 215), (9, 217), (9, 219), (9, 221), (9, 223), (9, 225), (9, 227), (9, 229), (9, 231), (9, 233), (9, 235), (9, 237), (9, 239), (10, 1), (10, 3), (10, 5), (10, 7), (10, 9), (10, 11), (10, 13), (10, 15), (10, 17), (10, 19), (10, 21), (10, 23), (10, 25), (10, 27), (10, 29), (10, 31), (10, 33), (10, 35), (10, 37), (10, 39), (10, 41), (10, 43), (10, 45), (10, 47), (10, 49), (10, 51), (10, 53), (10, 55), (10, 57), (10, 59), (10, 61), (10, 63), (10, 65), (10, 67), (10, 69), (10, 71), (10, 73), (10, 75), (10, 77), (10, 79), (10, 81), (10, 83), (10, 85), (10, 87), (10, 89), (10, 91), (10, 93), (10, 95), (10, 97), (10, 99), (10, 101), (10, 103), (10, 105), (10, 107), (10, 109), (10, 111), (10, 113), (10, 115), (10, 117), (10, 119), (10, 121), (10, 123), (10, 125), (10, 127), (10, 129), (10, 131), (10, 133), (10, 135), (10, 137), (10, 139), (10, 141), (10, 143), (10, 145), (10, 147), (10, 149), (10, 151), (10, 153), (10, 155), (10, 157), (10, 159)]
set_option maxRecDepth 16384 in
theorem kW_14 : (u_ws (cR 14) (cT 14) (cF 14)).map some = kI_14.map wt := rfl
theorem kG_14 : (u_ws (cR 14) (cT 14) (cF 14)).all goodWord = true := by decide +kernel
theorem kT_14 : (List.range (cF 14)).all (fun j => decide (parseFieldDescriptor (cT 14 j).2.2.1 = some (cY 14 j)) && decide (kdY (cY 14 j) ≠ 9)) = true := by decide +kernel
theorem kC_14 : wt (13, 67) = some (Cond.castable (cR 14) "java/lang/Object") := rfl
theorem kN_14 : wt (8, 165) = some (Cond.instantiable (cR 14) (cF 14)) := rfl
theorem okC_of {t : Nat} {q : List (Nat × Nat)} {a b : Nat × Nat} (h1 : (u_ws (cR t) (cT t) (cF t)).map some = q.map wt) (h2 : (u_ws (cR t) (cT t) (cF t)).all goodWord = true) (h3 : (List.range (cF t)).all (fun j => decide (parseFieldDescriptor (cT t j).2.2.1 = some (cY t j)) && decide (kdY (cY t j) ≠ 9)) = true) (h4 : wt a = some (Cond.castable (cR t) "java/lang/Object")) (h5 : wt b = some (Cond.instantiable (cR t) (cF t))) : okC t ∧ Cond.instantiable (cR t) (cF t) ∈ lw_tbl := by
  refine ⟨⟨fun w hw => ⟨wt_all h1 w hw, List.all_eq_true.mp h2 w hw⟩, fun j hj => ?_, wt_in h4⟩, wt_in h5⟩
  have := List.all_eq_true.mp h3 j (List.mem_range.mpr hj)
  rw [Bool.and_eq_true, decide_eq_true_eq, decide_eq_true_eq] at this
  exact this
theorem okCs (t : Nat) (h1 : 1 ≤ t) (h2 : t ≤ 14) : okC t ∧ Cond.instantiable (cR t) (cF t) ∈ lw_tbl := by
  rcases (show t = 1 ∨ t = 2 ∨ t = 3 ∨ t = 4 ∨ t = 5 ∨ t = 6 ∨ t = 7 ∨ t = 8 ∨ t = 9 ∨ t = 10 ∨ t = 11 ∨ t = 12 ∨ t = 13 ∨ t = 14 by omega) with rfl | rfl | rfl | rfl | rfl | rfl | rfl | rfl | rfl | rfl | rfl | rfl | rfl | rfl
  · exact okC_of kW_1 kG_1 kT_1 kC_1 kN_1
  · exact okC_of kW_2 kG_2 kT_2 kC_2 kN_2
  · exact okC_of kW_3 kG_3 kT_3 kC_3 kN_3
  · exact okC_of kW_4 kG_4 kT_4 kC_4 kN_4
  · exact okC_of kW_5 kG_5 kT_5 kC_5 kN_5
  · exact okC_of kW_6 kG_6 kT_6 kC_6 kN_6
  · exact okC_of kW_7 kG_7 kT_7 kC_7 kN_7
  · exact okC_of kW_8 kG_8 kT_8 kC_8 kN_8
  · exact okC_of kW_9 kG_9 kT_9 kC_9 kN_9
  · exact okC_of kW_10 kG_10 kT_10 kC_10 kN_10
  · exact okC_of kW_11 kG_11 kT_11 kC_11 kN_11
  · exact okC_of kW_12 kG_12 kT_12 kC_12 kN_12
  · exact okC_of kW_13 kG_13 kT_13 kC_13 kN_13
  · exact okC_of kW_14 kG_14 kT_14 kC_14 kN_14
theorem nms (t : Nat) (h1 : 1 ≤ t) (h2 : t ≤ 14) : ∀ a, a < cF t → ∀ b, b < cF t → a ≠ b → (cT t a).2.1 ≠ (cT t b).2.1 := by
  rcases (show t = 1 ∨ t = 2 ∨ t = 3 ∨ t = 4 ∨ t = 5 ∨ t = 6 ∨ t = 7 ∨ t = 8 ∨ t = 9 ∨ t = 10 ∨ t = 11 ∨ t = 12 ∨ t = 13 ∨ t = 14 by omega) with rfl | rfl | rfl | rfl | rfl | rfl | rfl | rfl | rfl | rfl | rfl | rfl | rfl | rfl
  · exact nmJx4a65c
  · exact nmX0
  · exact nmX1
  · exact nmX2
  · exact nmX3
  · exact nmX4
  · exact nmX5
  · exact nmX6
  · exact nmX7
  · exact nmX8
  · exact nmX9
  · exact nmX10
  · exact nmX11
  · exact nmX12
