/-! ===== WHAT THE NINE THROWS NEED (made by wip/gen/gen30.py) ===== -/
def xI_0 : List (Nat × Nat) := [(1, 26), (7, 136), (7, 145), (7, 149), (7, 152), (7, 154), (7, 137), (7, 138), (1, 39), (1, 40), (7, 139), (7, 144), (7, 150), (7, 170), (7, 126), (7, 171), (7, 128), (7, 172), (7, 130), (7, 140), (7, 142), (7, 132), (7, 166), (7, 167), (7, 169), (7, 132), (7, 157), (7, 158), (7, 159), (7, 160), (7, 118), (7, 160), (7, 161), (7, 162), (7, 163), (7, 120), (7, 163), (7, 164), (7, 165), (7, 166), (7, 122), (7, 156), (7, 115), (7, 116), (7, 123), (7, 124), (7, 125), (7, 127), (7, 129), (7, 131), (7, 135), (7, 134), (7, 133)]
set_option maxRecDepth 16384 in
theorem xW_0 : (vx_atS "PostRoom" 112 "java/lang/IllegalArgumentException" nm2).map some = xI_0.map wt := rfl
theorem xG_0 : (vx_atS "PostRoom" 112 "java/lang/IllegalArgumentException" nm2).all (fun w => isX w && vx_ot w) = true := by decide +kernel
theorem xA_0 : ∀ w ∈ vx_atS "PostRoom" 112 "java/lang/IllegalArgumentException" nm2, (w ∈ lw_tbl ∧ isX w = true) ∧ vx_ot w = true := fun w hw => by
  have h := List.all_eq_true.mp xG_0 w hw
  rw [Bool.and_eq_true] at h
  exact ⟨⟨wt_all xW_0 w hw, h.1⟩, h.2⟩
def xI_2 : List (Nat × Nat) := [(1, 26), (7, 136), (7, 145), (7, 149), (7, 152), (7, 154), (7, 137), (7, 138), (1, 39), (1, 40), (7, 139), (7, 144), (7, 150), (7, 170), (7, 126), (7, 171), (7, 128), (7, 172), (7, 130), (7, 140), (7, 142), (7, 132), (7, 166), (7, 167), (7, 169), (7, 132), (8, 115), (8, 116), (8, 117), (7, 160), (7, 118), (7, 160), (7, 161), (7, 162), (7, 163), (7, 120), (7, 163), (7, 164), (7, 165), (7, 166), (7, 122), (8, 114), (8, 105), (8, 106), (8, 107), (7, 147), (8, 108), (8, 109), (8, 110), (8, 111), (7, 135), (7, 134), (8, 112)]
set_option maxRecDepth 16384 in
theorem xW_2 : (vx_atS "PostRoom" 214 "java/lang/IndexOutOfBoundsException" nm2).map some = xI_2.map wt := rfl
theorem xG_2 : (vx_atS "PostRoom" 214 "java/lang/IndexOutOfBoundsException" nm2).all (fun w => isX w && vx_ot w) = true := by decide +kernel
theorem xA_2 : ∀ w ∈ vx_atS "PostRoom" 214 "java/lang/IndexOutOfBoundsException" nm2, (w ∈ lw_tbl ∧ isX w = true) ∧ vx_ot w = true := fun w hw => by
  have h := List.all_eq_true.mp xG_2 w hw
  rw [Bool.and_eq_true] at h
  exact ⟨⟨wt_all xW_2 w hw, h.1⟩, h.2⟩
theorem thF_20 : thF mY mB exS 20 37 108 110 112 19 "java/lang/IllegalArgumentException" := ⟨by decide +kernel, ⟨wt_in (q := (7, 114)) rfl, rfl⟩, ⟨wt_in (q := (1, 29)) rfl, rfl⟩, nth_mem (n := 19) rfl, xA_0, by decide +kernel, by decide +kernel, by decide +kernel, by decide +kernel, by decide +kernel⟩
/-- PostRoom.price -/
theorem pn_20 : plainName (mY 20).cls = true := by decide +kernel
theorem thF_21 : thF mY mB exS 21 28 108 119 112 20 "java/lang/IllegalArgumentException" := ⟨by decide +kernel, ⟨wt_in (q := (7, 114)) rfl, rfl⟩, ⟨wt_in (q := (1, 29)) rfl, rfl⟩, nth_mem (n := 20) rfl, xA_0, by decide +kernel, by decide +kernel, by decide +kernel, by decide +kernel, by decide +kernel⟩
/-- PostRoom.way -/
theorem pn_21 : plainName (mY 21).cls = true := by decide +kernel
theorem thF_22 : thF mY mB exS 22 33 108 110 112 19 "java/lang/IllegalArgumentException" := ⟨by decide +kernel, ⟨wt_in (q := (7, 114)) rfl, rfl⟩, ⟨wt_in (q := (1, 29)) rfl, rfl⟩, nth_mem (n := 19) rfl, xA_0, by decide +kernel, by decide +kernel, by decide +kernel, by decide +kernel, by decide +kernel⟩
/-- PostRoom.accept -/
theorem pn_22 : plainName (mY 22).cls = true := by decide +kernel
theorem thF_24 : thF mY mB exS 24 16 210 212 214 22 "java/lang/IndexOutOfBoundsException" := ⟨by decide +kernel, ⟨wt_in (q := (8, 104)) rfl, rfl⟩, ⟨wt_in (q := (1, 32)) rfl, rfl⟩, nth_mem (n := 22) rfl, xA_2, by decide +kernel, by decide +kernel, by decide +kernel, by decide +kernel, by decide +kernel⟩
/-- PostRoom.number -/
theorem pn_24 : plainName (mY 24).cls = true := by decide +kernel
theorem thF_25 : thF mY mB exS 25 16 210 218 214 23 "java/lang/IndexOutOfBoundsException" := ⟨by decide +kernel, ⟨wt_in (q := (8, 104)) rfl, rfl⟩, ⟨wt_in (q := (1, 32)) rfl, rfl⟩, nth_mem (n := 23) rfl, xA_2, by decide +kernel, by decide +kernel, by decide +kernel, by decide +kernel, by decide +kernel⟩
/-- PostRoom.held -/
theorem pn_25 : plainName (mY 25).cls = true := by decide +kernel
theorem thF_26 : thF mY mB exS 26 10 210 220 214 24 "java/lang/IndexOutOfBoundsException" := ⟨by decide +kernel, ⟨wt_in (q := (8, 104)) rfl, rfl⟩, ⟨wt_in (q := (1, 32)) rfl, rfl⟩, nth_mem (n := 24) rfl, xA_2, by decide +kernel, by decide +kernel, by decide +kernel, by decide +kernel, by decide +kernel⟩
/-- PostRoom.tray -/
theorem pn_26 : plainName (mY 26).cls = true := by decide +kernel
