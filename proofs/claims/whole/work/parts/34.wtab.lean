/-! ===== THE TABLES OF THE WRAPPERS (made by wip/gen/gen34.py) ===== -/
/-- code out of rows -/
noncomputable def cdR (L : List (List CR)) (pc : Nat) : CI := lkC (nthD L (pc / 32) []) pc
theorem cdR_ok {own : String} {cc : ByteArray} {nL : Nat} {ini : Bool} {rt : Option FieldType} {L : List (List CR)} (h1 : chA own cc nL ini rt L = true) (h2 : chW own L = chI L) (h3 : chG own L = true) : ∀ pc, (cdR L pc).1 = .nop ∨ okB wQ wQ0 mY mK exS exZ own cc nL ini rt pc (cdR L pc) = true := by
  intro pc
  rcases lkC_or (l := nthD L (pc / 32) []) (pc := pc) with e | ⟨a, e1, e2, e3⟩
  · refine Or.inl ?_
    show (lkC (nthD L (pc / 32) []) pc).1 = _
    rw [e]
  · refine Or.inr ?_
    rcases nthD_mem (d := []) (l := L) (n := pc / 32) with g | g
    · rw [g] at e1; cases e1
    · have g1 := List.all_eq_true.mp (List.all_eq_true.mp h1 _ g) _ e1
      have g3 := List.all_eq_true.mp (List.all_eq_true.mp h3 _ g) _ e1
      have g2 := List.map_inj_left.mp (List.map_inj_left.mp h2 _ g) _ e1
      rw [e2] at g1
      show okB wQ wQ0 mY mK exS exZ own cc nL ini rt pc (lkC (nthD L (pc / 32) []) pc) = true
      rw [← e3]
      exact okB_of g1 (fun w hw => wQ_of ⟨wt_all g2 w (List.mem_append_left _ hw), List.all_eq_true.mp g3 w hw⟩) (fun w hw => wQ0_of (wt_all g2 w (List.mem_append_right _ hw)))
def wd0_0 : List CR := [j0 0 (.aload 5) [], jk 2 (.iconst 0) 0 [], j0 3 (.aload_n 0) [], j0 4 (.iload_n 1) [], j0 5 (.iload_n 2) [], j0 6 (.iload_n 3) [], j0 7 (.iload 4) [], jw 9 (.invokevirtual 7) 20 4 13 [] [(7, 106)], j0 12 .i2l [], j0 13 .lastore [], jj 14 (.goto 7) 21 [], j0 17 (.astore 6) [], jk 19 (.iconst 1) 1 [], j0 20 .ireturn [], jk 21 (.iconst 0) 0 [], j0 22 .ireturn []]
def wd0 : List (List CR) := [wd0_0]
theorem wd0a_0 : chA "PostRoomLaw" method_3_code 7 false (some .int) [wd0_0] = true := by decide +kernel
theorem wd0a : chA "PostRoomLaw" method_3_code 7 false (some .int) wd0 = true := chA_c wd0a_0 (rfl)
set_option maxRecDepth 16384 in
theorem wd0b : chW "PostRoomLaw" wd0 = chI wd0 := rfl
theorem wd0g : chG "PostRoomLaw" wd0 = true := by decide +kernel
theorem wdo0 : ∀ pc, (cdR wd0 pc).1 = .nop ∨ okB wQ wQ0 mY mK exS exZ "PostRoomLaw" method_3_code 7 false (some .int) pc (cdR wd0 pc) = true := cdR_ok wd0a wd0b wd0g
def wd1_0 : List CR := [j0 0 (.aload_n 3) [], jk 1 (.iconst 0) 0 [], j0 2 (.aload_n 0) [], j0 3 (.iload_n 1) [], j0 4 (.iload_n 2) [], jw 5 (.invokevirtual 15) 21 2 13 [] [(7, 212)], j0 8 .i2l [], j0 9 .lastore [], jj 10 (.goto 7) 17 [], j0 13 (.astore 4) [], jk 15 (.iconst 1) 1 [], j0 16 .ireturn [], jk 17 (.iconst 0) 0 [], j0 18 .ireturn []]
def wd1 : List (List CR) := [wd1_0]
theorem wd1a_0 : chA "PostRoomLaw" method_4_code 5 false (some .int) [wd1_0] = true := by decide +kernel
theorem wd1a : chA "PostRoomLaw" method_4_code 5 false (some .int) wd1 = true := chA_c wd1a_0 (rfl)
set_option maxRecDepth 16384 in
theorem wd1b : chW "PostRoomLaw" wd1 = chI wd1 := rfl
theorem wd1g : chG "PostRoomLaw" wd1 = true := by decide +kernel
theorem wdo1 : ∀ pc, (cdR wd1 pc).1 = .nop ∨ okB wQ wQ0 mY mK exS exZ "PostRoomLaw" method_4_code 5 false (some .int) pc (cdR wd1 pc) = true := cdR_ok wd1a wd1b wd1g
def wd2_0 : List CR := [j0 0 (.aload 4) [], jk 2 (.iconst 0) 0 [], j0 3 (.aload_n 0) [], j0 4 (.iload_n 1) [], j0 5 (.iload_n 2) [], j0 6 (.iload_n 3) [], jw 7 (.invokevirtual 19) 22 3 13 [] [(7, 224)], j0 10 .i2l [], j0 11 .lastore [], jj 12 (.goto 7) 19 [], j0 15 (.astore 5) [], jk 17 (.iconst 1) 1 [], j0 18 .ireturn [], jk 19 (.iconst 0) 0 [], j0 20 .ireturn []]
def wd2 : List (List CR) := [wd2_0]
theorem wd2a_0 : chA "PostRoomLaw" method_5_code 6 false (some .int) [wd2_0] = true := by decide +kernel
theorem wd2a : chA "PostRoomLaw" method_5_code 6 false (some .int) wd2 = true := chA_c wd2a_0 (rfl)
set_option maxRecDepth 16384 in
theorem wd2b : chW "PostRoomLaw" wd2 = chI wd2 := rfl
theorem wd2g : chG "PostRoomLaw" wd2 = true := by decide +kernel
theorem wdo2 : ∀ pc, (cdR wd2 pc).1 = .nop ∨ okB wQ wQ0 mY mK exS exZ "PostRoomLaw" method_5_code 6 false (some .int) pc (cdR wd2 pc) = true := cdR_ok wd2a wd2b wd2g
def wd3_0 : List CR := [j0 0 (.aload_n 3) [], jk 1 (.iconst 0) 0 [], j0 2 (.aload_n 0) [], j0 3 (.iload_n 1) [], j0 4 (.iload_n 2) [], jw 5 (.invokevirtual 23) 23 2 13 [] [(8, 72)], j0 8 .i2l [], j0 9 .lastore [], jj 10 (.goto 7) 17 [], j0 13 (.astore 4) [], jk 15 (.iconst 1) 1 [], j0 16 .ireturn [], jk 17 (.iconst 0) 0 [], j0 18 .ireturn []]
def wd3 : List (List CR) := [wd3_0]
theorem wd3a_0 : chA "PostRoomLaw" method_6_code 5 false (some .int) [wd3_0] = true := by decide +kernel
theorem wd3a : chA "PostRoomLaw" method_6_code 5 false (some .int) wd3 = true := chA_c wd3a_0 (rfl)
set_option maxRecDepth 16384 in
theorem wd3b : chW "PostRoomLaw" wd3 = chI wd3 := rfl
theorem wd3g : chG "PostRoomLaw" wd3 = true := by decide +kernel
theorem wdo3 : ∀ pc, (cdR wd3 pc).1 = .nop ∨ okB wQ wQ0 mY mK exS exZ "PostRoomLaw" method_6_code 5 false (some .int) pc (cdR wd3 pc) = true := cdR_ok wd3a wd3b wd3g
def wd4_0 : List CR := [j0 0 (.aload_n 2) [], jk 1 (.iconst 0) 0 [], j0 2 (.aload_n 0) [], j0 3 (.iload_n 1) [], jw 4 (.invokevirtual 28) 24 1 13 [] [(8, 100)], j0 7 .lastore [], jj 8 (.goto 6) 14 [], j0 11 (.astore_n 3) [], jk 12 (.iconst 1) 1 [], j0 13 .ireturn [], jk 14 (.iconst 0) 0 [], j0 15 .ireturn []]
def wd4 : List (List CR) := [wd4_0]
theorem wd4a_0 : chA "PostRoomLaw" method_7_code 4 false (some .int) [wd4_0] = true := by decide +kernel
theorem wd4a : chA "PostRoomLaw" method_7_code 4 false (some .int) wd4 = true := chA_c wd4a_0 (rfl)
set_option maxRecDepth 16384 in
theorem wd4b : chW "PostRoomLaw" wd4 = chI wd4 := rfl
theorem wd4g : chG "PostRoomLaw" wd4 = true := by decide +kernel
theorem wdo4 : ∀ pc, (cdR wd4 pc).1 = .nop ∨ okB wQ wQ0 mY mK exS exZ "PostRoomLaw" method_7_code 4 false (some .int) pc (cdR wd4 pc) = true := cdR_ok wd4a wd4b wd4g
def wd5_0 : List CR := [j0 0 (.aload_n 2) [], jk 1 (.iconst 0) 0 [], j0 2 (.aload_n 0) [], j0 3 (.iload_n 1) [], jw 4 (.invokevirtual 34) 25 1 13 [] [(8, 123)], j0 7 .i2l [], j0 8 .lastore [], jj 9 (.goto 6) 15 [], j0 12 (.astore_n 3) [], jk 13 (.iconst 1) 1 [], j0 14 .ireturn [], jk 15 (.iconst 0) 0 [], j0 16 .ireturn []]
def wd5 : List (List CR) := [wd5_0]
theorem wd5a_0 : chA "PostRoomLaw" method_8_code 4 false (some .int) [wd5_0] = true := by decide +kernel
theorem wd5a : chA "PostRoomLaw" method_8_code 4 false (some .int) wd5 = true := chA_c wd5a_0 (rfl)
set_option maxRecDepth 16384 in
theorem wd5b : chW "PostRoomLaw" wd5 = chI wd5 := rfl
theorem wd5g : chG "PostRoomLaw" wd5 = true := by decide +kernel
theorem wdo5 : ∀ pc, (cdR wd5 pc).1 = .nop ∨ okB wQ wQ0 mY mK exS exZ "PostRoomLaw" method_8_code 4 false (some .int) pc (cdR wd5 pc) = true := cdR_ok wd5a wd5b wd5g
def wd6_0 : List CR := [j0 0 (.aload_n 3) [], jk 1 (.iconst 0) 0 [], j0 2 (.aload_n 0) [], j0 3 (.iload_n 1) [], j0 4 (.iload_n 2) [], jw 5 (.invokevirtual 38) 26 2 13 [] [(8, 131)], j0 8 .i2l [], j0 9 .lastore [], jj 10 (.goto 7) 17 [], j0 13 (.astore 4) [], jk 15 (.iconst 1) 1 [], j0 16 .ireturn [], jk 17 (.iconst 0) 0 [], j0 18 .ireturn []]
def wd6 : List (List CR) := [wd6_0]
theorem wd6a_0 : chA "PostRoomLaw" method_9_code 5 false (some .int) [wd6_0] = true := by decide +kernel
theorem wd6a : chA "PostRoomLaw" method_9_code 5 false (some .int) wd6 = true := chA_c wd6a_0 (rfl)
set_option maxRecDepth 16384 in
theorem wd6b : chW "PostRoomLaw" wd6 = chI wd6 := rfl
theorem wd6g : chG "PostRoomLaw" wd6 = true := by decide +kernel
theorem wdo6 : ∀ pc, (cdR wd6 pc).1 = .nop ∨ okB wQ wQ0 mY mK exS exZ "PostRoomLaw" method_9_code 5 false (some .int) pc (cdR wd6 pc) = true := cdR_ok wd6a wd6b wd6g
def wd7_0 : List CR := [j0 0 (.aload_n 3) [], jk 1 (.iconst 0) 0 [], j0 2 (.aload_n 0) [], j0 3 (.iload_n 1) [], j0 4 (.iload_n 2) [], jw 5 (.invokevirtual 41) 27 2 13 [] [(8, 143)], j0 8 .lastore [], jj 9 (.goto 7) 16 [], j0 12 (.astore 4) [], jk 14 (.iconst 1) 1 [], j0 15 .ireturn [], jk 16 (.iconst 0) 0 [], j0 17 .ireturn []]
def wd7 : List (List CR) := [wd7_0]
theorem wd7a_0 : chA "PostRoomLaw" method_10_code 5 false (some .int) [wd7_0] = true := by decide +kernel
theorem wd7a : chA "PostRoomLaw" method_10_code 5 false (some .int) wd7 = true := chA_c wd7a_0 (rfl)
set_option maxRecDepth 16384 in
theorem wd7b : chW "PostRoomLaw" wd7 = chI wd7 := rfl
theorem wd7g : chG "PostRoomLaw" wd7 = true := by decide +kernel
theorem wdo7 : ∀ pc, (cdR wd7 pc).1 = .nop ∨ okB wQ wQ0 mY mK exS exZ "PostRoomLaw" method_10_code 5 false (some .int) pc (cdR wd7 pc) = true := cdR_ok wd7a wd7b wd7g
def wd8_0 : List CR := [j0 0 (.aload_n 3) [], jk 1 (.iconst 0) 0 [], j0 2 (.aload_n 0) [], j0 3 (.iload_n 1) [], j0 4 (.iload_n 2) [], jw 5 (.invokevirtual 45) 28 2 13 [] [(8, 151)], j0 8 .i2l [], j0 9 .lastore [], jj 10 (.goto 7) 17 [], j0 13 (.astore 4) [], jk 15 (.iconst 1) 1 [], j0 16 .ireturn [], jk 17 (.iconst 0) 0 [], j0 18 .ireturn []]
def wd8 : List (List CR) := [wd8_0]
theorem wd8a_0 : chA "PostRoomLaw" method_11_code 5 false (some .int) [wd8_0] = true := by decide +kernel
theorem wd8a : chA "PostRoomLaw" method_11_code 5 false (some .int) wd8 = true := chA_c wd8a_0 (rfl)
set_option maxRecDepth 16384 in
theorem wd8b : chW "PostRoomLaw" wd8 = chI wd8 := rfl
theorem wd8g : chG "PostRoomLaw" wd8 = true := by decide +kernel
theorem wdo8 : ∀ pc, (cdR wd8 pc).1 = .nop ∨ okB wQ wQ0 mY mK exS exZ "PostRoomLaw" method_11_code 5 false (some .int) pc (cdR wd8 pc) = true := cdR_ok wd8a wd8b wd8g
