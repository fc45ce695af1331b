/-! ===== WHAT THE THREE THROWS OF NoSuchElementException NEED (made by wip/gen2/gens7.py) ===== -/
def xI_n : List (Nat × Nat) := [(1, 26), (7, 136), (7, 145), (7, 149), (7, 152), (7, 154), (7, 137), (7, 138), (1, 39), (1, 40), (7, 139), (7, 144), (7, 150), (7, 170), (7, 126), (7, 171), (7, 128), (7, 172), (7, 130), (7, 140), (7, 142), (7, 132), (7, 166), (7, 167), (7, 169), (7, 132), (8, 91), (8, 92), (8, 93), (7, 160), (7, 118), (7, 160), (7, 161), (7, 162), (7, 163), (7, 120), (7, 163), (7, 164), (7, 165), (7, 166), (7, 122), (8, 90), (8, 81), (8, 82), (8, 83), (7, 148), (8, 84), (8, 85), (8, 86), (8, 87), (7, 135), (7, 134), (8, 88)]
set_option maxRecDepth 16384 in
theorem xW_n : (nxS "PostRoom" 159).map some = xI_n.map wt := rfl
theorem xG_n : (nxS "PostRoom" 159).all (fun w => isX w && vx_ot w) = true := by decide +kernel
theorem xA_n : ∀ w ∈ nxS "PostRoom" 159, (w ∈ lw_tbl ∧ isX w = true) ∧ vx_ot w = true := fun w hw => by
  have h := List.all_eq_true.mp xG_n w hw
  rw [Bool.and_eq_true] at h
  exact ⟨⟨wt_all xW_n w hw, h.1⟩, h.2⟩
theorem nxF_23 : nxFq mY mB exS 23 21 155 157 159 21 := ⟨⟨wt_in (q := (8, 80)) rfl, rfl⟩, ⟨wt_in (q := (1, 31)) rfl, rfl⟩, nth_mem (n := 21) rfl, xA_n, by decide +kernel, by decide +kernel, by decide +kernel, by decide +kernel, by decide +kernel⟩
/-- PostRoom.bar -/
theorem pn_23 : plainName (mY 23).cls = true := by decide +kernel
theorem nxF_27 : nxFq mY mB exS 27 39 155 231 159 25 := ⟨⟨wt_in (q := (8, 80)) rfl, rfl⟩, ⟨wt_in (q := (1, 31)) rfl, rfl⟩, nth_mem (n := 25) rfl, xA_n, by decide +kernel, by decide +kernel, by decide +kernel, by decide +kernel, by decide +kernel⟩
/-- PostRoom.place -/
theorem pn_27 : plainName (mY 27).cls = true := by decide +kernel
theorem nxF_28 : nxFq mY mB exS 28 21 155 239 159 26 := ⟨⟨wt_in (q := (8, 80)) rfl, rfl⟩, ⟨wt_in (q := (1, 31)) rfl, rfl⟩, nth_mem (n := 26) rfl, xA_n, by decide +kernel, by decide +kernel, by decide +kernel, by decide +kernel, by decide +kernel⟩
/-- PostRoom.item -/
theorem pn_28 : plainName (mY 28).cls = true := by decide +kernel
