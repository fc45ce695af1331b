/-! ===== THE TABLES OF THE PROGRAM: its methods (made by wip/gen/gen17.py) ===== -/
noncomputable def nth {α : Type} (l : List α) : Nat → Option α := List.rec (motive := fun _ => Nat → Option α) (fun _ => none) (fun a _ ih n => Nat.rec (motive := fun _ => Option α) (some a) (fun k _ => ih k) n) l
theorem nth_mem {α : Type} {a : α} : ∀ {l : List α} {n : Nat}, nth l n = some a → a ∈ l
  | [], n, h => by cases h
  | b :: t, 0, h => by cases h; exact List.mem_cons_self
  | b :: t, n + 1, h => List.mem_cons_of_mem _ (nth_mem (l := t) (n := n) h)
noncomputable def nthD {α : Type} (l : List α) (n : Nat) (d : α) : α := Option.rec (motive := fun _ => α) d (fun a => a) (nth l n)
theorem nthD_mem {α : Type} {d : α} {l : List α} {n : Nat} : nthD l n d = d ∨ nthD l n d ∈ l := by
  unfold nthD
  cases h : nth l n with
  | none => exact Or.inl rfl
  | some a => exact Or.inr (nth_mem h)
def tabs : List (List Cond) := [k2_sels lw_privs, tables_1_1, tables_1_2, tables_1_3, tables_1_4, tables_1_5, tables_1_6, tables_1_7, tables_1_8, tables_1_9, tables_1_10, tables_1_11, tables_1_12, tables_1_13]
theorem tabs_in : ∀ l ∈ tabs, ∀ w ∈ l, w ∈ lw_tbl := by
  intro l hl w hw
  unfold lw_tbl tables_1
  simp only [tabs, List.mem_cons, List.not_mem_nil, or_false] at hl
  simp only [List.mem_append]
  rcases hl with rfl | rfl | rfl | rfl | rfl | rfl | rfl | rfl | rfl | rfl | rfl | rfl | rfl | rfl
  · exact Or.inl hw
  · exact Or.inr (Or.inl hw)
  · exact Or.inr (Or.inr (Or.inl hw))
  · exact Or.inr (Or.inr (Or.inr (Or.inl hw)))
  · exact Or.inr (Or.inr (Or.inr (Or.inr (Or.inl hw))))
  · exact Or.inr (Or.inr (Or.inr (Or.inr (Or.inr (Or.inl hw)))))
  · exact Or.inr (Or.inr (Or.inr (Or.inr (Or.inr (Or.inr (Or.inl hw))))))
  · exact Or.inr (Or.inr (Or.inr (Or.inr (Or.inr (Or.inr (Or.inr (Or.inl hw)))))))
  · exact Or.inr (Or.inr (Or.inr (Or.inr (Or.inr (Or.inr (Or.inr (Or.inr (Or.inl hw))))))))
  · exact Or.inr (Or.inr (Or.inr (Or.inr (Or.inr (Or.inr (Or.inr (Or.inr (Or.inr (Or.inl hw)))))))))
  · exact Or.inr (Or.inr (Or.inr (Or.inr (Or.inr (Or.inr (Or.inr (Or.inr (Or.inr (Or.inr (Or.inl hw))))))))))
  · exact Or.inr (Or.inr (Or.inr (Or.inr (Or.inr (Or.inr (Or.inr (Or.inr (Or.inr (Or.inr (Or.inr (Or.inl hw)))))))))))
  · exact Or.inr (Or.inr (Or.inr (Or.inr (Or.inr (Or.inr (Or.inr (Or.inr (Or.inr (Or.inr (Or.inr (Or.inr (Or.inl hw))))))))))))
  · exact Or.inr (Or.inr (Or.inr (Or.inr (Or.inr (Or.inr (Or.inr (Or.inr (Or.inr (Or.inr (Or.inr (Or.inr (Or.inr (hw)))))))))))))
/-- a word by its place -/
noncomputable def wt (q : Nat × Nat) : Option Cond := nth (nthD tabs q.1 []) q.2
theorem wt_in {q : Nat × Nat} {w : Cond} (h : wt q = some w) : w ∈ lw_tbl := by
  have h1 := nth_mem h
  rcases nthD_mem (d := []) (l := tabs) (n := q.1) with e | e
  · rw [e] at h1; cases h1
  · exact tabs_in _ e _ h1
abbrev MR : Type := MethodName × ByteArray × Nat × Option FieldType × (Nat × Nat × Nat) × List (Nat × Nat)
def tM_0 : List MR := [(⟨"PostRoom", "<init>", "()V"⟩, prog_1_method_1_code, 1, none, (2, 0, 0), [(1, 37), (1, 1), (1, 36)]),
  (⟨"PostRoomModel", "<init>", "()V"⟩, prog_14_method_2_code, 6, none, (2, 0, 0), [(8, 168), (1, 11), (8, 167)]),
  (⟨"PostRoom", "feed", "(JJJ)I"⟩, prog_1_method_2_code, 7, some .int, (1, 13, 3), [(2, 160), (1, 1), (2, 158), (2, 159)]),
  (⟨"PostRoom", "book", "()I"⟩, prog_1_method_3_code, 3, some .int, (1, 13, 0), [(2, 168), (1, 1), (2, 166), (2, 167)]),
  (⟨"PostRoom", "find", "()I"⟩, prog_1_method_4_code, 2, some .int, (1, 13, 0), [(4, 195), (1, 1), (4, 193), (4, 194)]),
  (⟨"PostRoom", "takeAddress", "()I"⟩, prog_1_method_27_code, 2, some .int, (1, 13, 0), [(4, 199), (1, 1), (4, 198), (0, 3)]),
  (⟨"PostRoom", "found", "(I)I"⟩, prog_1_method_5_code, 2, some .int, (1, 13, 1), [(5, 26), (1, 1), (5, 24), (5, 25)]),
  (⟨"PostRoom", "read", "()I"⟩, prog_1_method_10_code, 6, some .int, (1, 13, 0), [(5, 30), (1, 1), (5, 28), (5, 29)]),
  (⟨"PostRoom", "mended", "()I"⟩, prog_1_method_11_code, 1, some .int, (1, 13, 0), [(5, 77), (1, 1), (5, 75), (5, 76)]),
  (⟨"PostRoom", "tick", "(I)I"⟩, prog_1_method_12_code, 2, some .int, (1, 13, 1), [(5, 81), (1, 1), (5, 79), (5, 80)]),
  (⟨"PostRoom", "sort", "(I)I"⟩, prog_1_method_13_code, 2, some .int, (1, 13, 1), [(5, 135), (1, 1), (5, 133), (5, 134)]),
  (⟨"PostRoom", "deliver", "(II)I"⟩, prog_1_method_14_code, 3, some .int, (1, 13, 2), [(5, 178), (1, 1), (5, 176), (5, 177)]),
  (⟨"PostRoom", "moved", "(II)Z"⟩, prog_1_method_15_code, 4, some .boolean, (1, 13, 2), [(6, 2), (1, 1), (6, 0), (6, 1)]),
  (⟨"PostRoom", "gone", "(II)Z"⟩, prog_1_method_16_code, 3, some .boolean, (1, 13, 2), [(6, 12), (1, 1), (6, 10), (6, 11)]),
  (⟨"PostRoom", "programme", "()I"⟩, prog_1_method_17_code, 3, some .int, (1, 13, 0), [(6, 16), (1, 1), (6, 14), (6, 15)]),
  (⟨"PostRoom", "run", "(II)I"⟩, prog_1_method_18_code, 3, some .int, (1, 13, 2), [(6, 100), (1, 1), (6, 98), (6, 99)]),
  (⟨"PostRoom", "shelf", "(II)I"⟩, prog_1_method_24_code, 3, some .int, (1, 13, 2), [(7, 69), (1, 1), (7, 67), (7, 68)]),
  (⟨"PostRoom", "numberIn", "(Ljava/util/ArrayList;I)I"⟩, prog_1_method_28_code, 2, some .int, (0, 0, 2), [(7, 74), (1, 1), (7, 73)]),
  (⟨"PostRoom", "bag", "(II)I"⟩, prog_1_method_25_code, 3, some .int, (1, 13, 2), [(7, 80), (1, 1), (7, 78), (7, 79)]),
  (⟨"PostRoom", "count", "(I)I"⟩, prog_1_method_26_code, 2, some .int, (1, 13, 1), [(7, 89), (1, 1), (7, 87), (7, 88)]),
  (⟨"PostRoom", "price", "(IIII)I"⟩, prog_1_method_6_code, 6, some .int, (1, 13, 4), [(7, 109), (1, 1), (7, 107), (7, 108)]),
  (⟨"PostRoom", "way", "(II)I"⟩, prog_1_method_7_code, 3, some .int, (1, 13, 2), [(7, 215), (1, 1), (7, 213), (7, 214)]),
  (⟨"PostRoom", "accept", "(III)I"⟩, prog_1_method_8_code, 6, some .int, (1, 13, 3), [(7, 227), (1, 1), (7, 225), (7, 226)]),
  (⟨"PostRoom", "bar", "(II)I"⟩, prog_1_method_9_code, 3, some .int, (1, 13, 2), [(8, 75), (1, 1), (8, 73), (8, 74)]),
  (⟨"PostRoom", "number", "(I)J"⟩, prog_1_method_19_code, 2, some .long, (1, 13, 1), [(8, 103), (1, 1), (8, 101), (8, 102)]),
  (⟨"PostRoom", "held", "(I)I"⟩, prog_1_method_20_code, 2, some .int, (1, 13, 1), [(8, 126), (1, 1), (8, 124), (8, 125)]),
  (⟨"PostRoom", "tray", "(II)I"⟩, prog_1_method_21_code, 3, some .int, (1, 13, 2), [(8, 134), (1, 1), (8, 132), (8, 133)]),
  (⟨"PostRoom", "place", "(II)J"⟩, prog_1_method_22_code, 3, some .long, (1, 13, 2), [(8, 146), (1, 1), (8, 144), (8, 145)]),
  (⟨"PostRoom", "item", "(II)I"⟩, prog_1_method_23_code, 3, some .int, (1, 13, 2), [(8, 154), (1, 1), (8, 152), (8, 153)]),
  (⟨"PostRoomModel", "thrown", "()I"⟩, prog_14_method_1_code, 1, some .int, (1, 14, 0), [(8, 163), (1, 11), (8, 161), (8, 162)]),
  (⟨"PostRoomModel", "rank", "(I)I"⟩, prog_14_method_3_code, 1, some .int, (0, 0, 1), [(8, 176), (1, 11), (8, 175)]),
  (⟨"PostRoomModel", "forget", "()V"⟩, prog_14_method_35_code, 2, none, (1, 14, 0), [(8, 180), (1, 11), (8, 179), (0, 35)])]
def tM_1 : List MR := [(⟨"PostRoomModel", "forgetRun", "()V"⟩, prog_14_method_36_code, 2, none, (1, 14, 0), [(8, 184), (1, 11), (8, 183), (0, 36)]),
  (⟨"PostRoomModel", "feed", "(JJJ)I"⟩, prog_14_method_6_code, 7, some .int, (1, 14, 3), [(10, 165), (1, 11), (10, 163), (10, 164)]),
  (⟨"PostRoomModel", "lay", "(J)V"⟩, prog_14_method_7_code, 5, none, (1, 14, 1), [(10, 169), (1, 11), (10, 168), (0, 37)]),
  (⟨"PostRoomModel", "book", "()I"⟩, prog_14_method_24_code, 1, some .int, (1, 14, 0), [(10, 173), (1, 11), (10, 171), (10, 172)]),
  (⟨"PostRoomModel", "takeTape", "()V"⟩, prog_14_method_8_code, 1, none, (1, 14, 0), [(10, 177), (1, 11), (10, 176), (0, 38)]),
  (⟨"PostRoomModel", "cutAll", "()V"⟩, prog_14_method_12_code, 4, none, (1, 14, 0), [(10, 181), (1, 11), (10, 180), (0, 39)]),
  (⟨"PostRoomModel", "isLetter", "(I)Z"⟩, prog_14_method_11_code, 1, some .boolean, (0, 0, 1), [(10, 184), (1, 11), (10, 183)]),
  (⟨"PostRoomModel", "cutName", "(II)I"⟩, prog_14_method_13_code, 6, some .int, (1, 14, 2), [(10, 188), (1, 11), (10, 187), (0, 40)]),
  (⟨"PostRoomModel", "isDigit", "(I)Z"⟩, prog_14_method_10_code, 1, some .boolean, (0, 0, 1), [(10, 191), (1, 11), (10, 190)]),
  (⟨"PostRoomModel", "cutNumber", "(II)I"⟩, prog_14_method_14_code, 6, some .int, (1, 14, 2), [(10, 195), (1, 11), (10, 194), (0, 41)]),
  (⟨"PostRoomModel", "cutSign", "(II)I"⟩, prog_14_method_15_code, 3, some .int, (1, 14, 2), [(10, 201), (1, 11), (10, 200), (0, 42)]),
  (⟨"PostRoomModel", "isSign", "(I)Z"⟩, prog_14_method_9_code, 2, some .boolean, (1, 14, 1), [(10, 205), (1, 11), (10, 204), (0, 43)]),
  (⟨"PostRoomModel", "told", "()V"⟩, prog_14_method_25_code, 1, none, (1, 14, 0), [(10, 209), (1, 11), (10, 208), (0, 44)]),
  (⟨"PostRoomModel", "isWord", "(I)Z"⟩, prog_14_method_18_code, 2, some .boolean, (1, 14, 1), [(10, 213), (1, 11), (10, 212), (0, 45)]),
  (⟨"PostRoomModel", "toldOffice", "()V"⟩, prog_14_method_27_code, 4, none, (1, 14, 0), [(10, 217), (1, 11), (10, 216), (0, 46)]),
  (⟨"PostRoomModel", "begins", "(Z)V"⟩, prog_14_method_26_code, 2, none, (1, 14, 1), [(10, 221), (1, 11), (10, 220), (0, 47)]),
  (⟨"PostRoomModel", "wrong", "(I)V"⟩, prog_14_method_16_code, 2, none, (1, 14, 1), [(10, 225), (1, 11), (10, 224), (0, 48)]),
  (⟨"PostRoomModel", "takeName", "([JII)J"⟩, prog_14_method_23_code, 5, some .long, (1, 14, 3), [(10, 229), (1, 11), (10, 228), (0, 49)]),
  (⟨"PostRoomModel", "takeNumber", "(II)I"⟩, prog_14_method_22_code, 3, some .int, (1, 14, 2), [(10, 233), (1, 11), (10, 232), (0, 50)]),
  (⟨"PostRoomModel", "toldShort", "()V"⟩, prog_14_method_28_code, 2, none, (1, 14, 0), [(10, 237), (1, 11), (10, 236), (0, 51)]),
  (⟨"PostRoomModel", "toldStreet", "()V"⟩, prog_14_method_30_code, 4, none, (1, 14, 0), [(11, 1), (1, 11), (11, 0), (0, 52)]),
  (⟨"PostRoomModel", "takeWord", "(I)V"⟩, prog_14_method_20_code, 2, none, (1, 14, 1), [(11, 5), (1, 11), (11, 4), (0, 53)]),
  (⟨"PostRoomModel", "takeOffice", "()I"⟩, prog_14_method_29_code, 3, some .int, (1, 14, 0), [(11, 9), (1, 11), (11, 8), (0, 54)]),
  (⟨"PostRoomModel", "hasWord", "(I)Z"⟩, prog_14_method_21_code, 3, some .boolean, (1, 14, 1), [(11, 13), (1, 11), (11, 12), (0, 55)]),
  (⟨"PostRoomModel", "oneOf", "(II)I"⟩, prog_14_method_31_code, 4, some .int, (1, 14, 2), [(11, 17), (1, 11), (11, 16), (0, 56)]),
  (⟨"PostRoomModel", "toldService", "()V"⟩, prog_14_method_32_code, 3, none, (1, 14, 0), [(11, 21), (1, 11), (11, 20), (0, 57)]),
  (⟨"PostRoomModel", "isAt", "(I)Z"⟩, prog_14_method_17_code, 2, some .boolean, (1, 14, 1), [(11, 25), (1, 11), (11, 24), (0, 58)]),
  (⟨"PostRoomModel", "toldRule", "(I)V"⟩, prog_14_method_33_code, 5, none, (1, 14, 1), [(11, 29), (1, 11), (11, 28), (0, 59)]),
  (⟨"PostRoomModel", "toldCoach", "()V"⟩, prog_14_method_34_code, 3, none, (1, 14, 0), [(11, 33), (1, 11), (11, 32), (0, 60)]),
  (⟨"PostRoomModel", "takeSign", "(I)V"⟩, prog_14_method_19_code, 2, none, (1, 14, 1), [(11, 37), (1, 11), (11, 36), (0, 61)]),
  (⟨"PostRoomModel", "find", "()I"⟩, prog_14_method_51_code, 2, some .int, (1, 14, 0), [(11, 41), (1, 11), (11, 39), (11, 40)]),
  (⟨"PostRoomModel", "address", "()I"⟩, prog_14_method_44_code, 4, some .int, (1, 14, 0), [(11, 45), (1, 11), (11, 44), (0, 62)])]
def tM_2 : List MR := [(⟨"PostRoomModel", "takeWords", "()V"⟩, prog_14_method_39_code, 8, none, (1, 14, 0), [(11, 49), (1, 11), (11, 48), (0, 63)]),
  (⟨"PostRoomModel", "isOfWord", "(I)Z"⟩, prog_14_method_38_code, 2, some .boolean, (1, 14, 1), [(11, 53), (1, 11), (11, 52), (0, 64)]),
  (⟨"PostRoomModel", "small", "(I)I"⟩, prog_14_method_37_code, 1, some .int, (0, 0, 1), [(11, 56), (1, 11), (11, 55)]),
  (⟨"PostRoomModel", "shortened", "(J)J"⟩, prog_14_method_40_code, 4, some .long, (1, 14, 1), [(11, 60), (1, 11), (11, 59), (0, 65)]),
  (⟨"PostRoomModel", "spell", "(J)V"⟩, prog_14_method_41_code, 7, none, (1, 14, 1), [(11, 64), (1, 11), (11, 63), (0, 66)]),
  (⟨"PostRoomModel", "signOf", "(I)I"⟩, prog_14_method_4_code, 1, some .int, (0, 0, 1), [(11, 67), (1, 11), (11, 66)]),
  (⟨"PostRoomModel", "isDoor", "()Z"⟩, prog_14_method_43_code, 2, some .boolean, (1, 14, 0), [(11, 71), (1, 11), (11, 70), (0, 67)]),
  (⟨"PostRoomModel", "isCode", "(I)Z"⟩, prog_14_method_42_code, 4, some .boolean, (1, 14, 1), [(11, 75), (1, 11), (11, 74), (0, 68)]),
  (⟨"PostRoomModel", "fits", "(II)Z"⟩, prog_14_method_45_code, 5, some .boolean, (1, 14, 2), [(11, 79), (1, 11), (11, 78), (0, 69)]),
  (⟨"PostRoomModel", "farOf", "(I)I"⟩, prog_14_method_46_code, 13, some .int, (1, 14, 1), [(11, 83), (1, 11), (11, 82), (0, 70)]),
  (⟨"PostRoomModel", "unlikeDigits", "(I)I"⟩, prog_14_method_48_code, 4, some .int, (1, 14, 1), [(11, 87), (1, 11), (11, 86), (0, 71)]),
  (⟨"PostRoomModel", "endOf", "(I)I"⟩, prog_14_method_47_code, 2, some .int, (1, 14, 1), [(11, 91), (1, 11), (11, 90), (0, 72)]),
  (⟨"PostRoomModel", "apart", "(IIII)I"⟩, prog_14_method_50_code, 11, some .int, (1, 14, 4), [(11, 95), (1, 11), (11, 94), (0, 73)]),
  (⟨"PostRoomModel", "away", "(II)I"⟩, prog_14_method_5_code, 2, some .int, (0, 0, 2), [(11, 98), (1, 11), (11, 97)]),
  (⟨"PostRoomModel", "least", "(II)I"⟩, prog_14_method_49_code, 2, some .int, (0, 0, 2), [(11, 101), (1, 11), (11, 100)]),
  (⟨"PostRoomModel", "found", "(I)I"⟩, prog_14_method_52_code, 2, some .int, (1, 14, 1), [(11, 105), (1, 11), (11, 103), (11, 104)]),
  (⟨"PostRoomModel", "price", "(IIII)I"⟩, prog_14_method_58_code, 5, some .int, (1, 14, 4), [(11, 109), (1, 11), (11, 107), (11, 108)]),
  (⟨"PostRoomModel", "isService", "(I)Z"⟩, prog_14_method_54_code, 2, some .boolean, (1, 14, 1), [(11, 113), (1, 11), (11, 112), (0, 74)]),
  (⟨"PostRoomModel", "isOffice", "(I)Z"⟩, prog_14_method_53_code, 2, some .boolean, (1, 14, 1), [(11, 117), (1, 11), (11, 116), (0, 75)]),
  (⟨"PostRoomModel", "isTaken", "(II)Z"⟩, prog_14_method_57_code, 3, some .boolean, (1, 14, 2), [(11, 121), (1, 11), (11, 120), (0, 76)]),
  (⟨"PostRoomModel", "zone", "(II)I"⟩, prog_14_method_55_code, 6, some .int, (1, 14, 2), [(11, 125), (1, 11), (11, 124), (0, 77)]),
  (⟨"PostRoomModel", "priceOf", "(III)I"⟩, prog_14_method_56_code, 12, some .int, (1, 14, 3), [(11, 129), (1, 11), (11, 128), (0, 78)]),
  (⟨"PostRoomModel", "bar", "(II)I"⟩, prog_14_method_64_code, 4, some .int, (1, 14, 2), [(11, 136), (1, 11), (11, 134), (11, 135)]),
  (⟨"PostRoomModel", "tell", "(I)V"⟩, prog_14_method_63_code, 3, none, (1, 14, 1), [(11, 140), (1, 11), (11, 139), (0, 79)]),
  (⟨"PostRoomModel", "solve", "()Z"⟩, prog_14_method_61_code, 6, some .boolean, (1, 14, 0), [(11, 144), (1, 11), (11, 143), (0, 80)]),
  (⟨"PostRoomModel", "product", "(II)I"⟩, prog_14_method_59_code, 3, some .int, (1, 14, 2), [(11, 148), (1, 11), (11, 147), (0, 81)]),
  (⟨"PostRoomModel", "cleared", "(I)Z"⟩, prog_14_method_62_code, 7, some .boolean, (1, 14, 1), [(11, 152), (1, 11), (11, 151), (0, 82)]),
  (⟨"PostRoomModel", "quotient", "(II)I"⟩, prog_14_method_60_code, 3, some .int, (1, 14, 2), [(11, 156), (1, 11), (11, 155), (0, 83)]),
  (⟨"PostRoomModel", "read", "()I"⟩, prog_14_method_68_code, 4, some .int, (1, 14, 0), [(11, 160), (1, 11), (11, 158), (11, 159)]),
  (⟨"PostRoomModel", "takeBars", "()Z"⟩, prog_14_method_65_code, 4, some .boolean, (1, 14, 0), [(11, 164), (1, 11), (11, 163), (0, 84)]),
  (⟨"PostRoomModel", "isRead", "()Z"⟩, prog_14_method_67_code, 5, some .boolean, (1, 14, 0), [(11, 168), (1, 11), (11, 167), (0, 85)]),
  (⟨"PostRoomModel", "tries", "(II)Z"⟩, prog_14_method_66_code, 4, some .boolean, (1, 14, 2), [(11, 172), (1, 11), (11, 171), (0, 86)])]
def tM_3 : List MR := [(⟨"PostRoomModel", "mended", "()I"⟩, prog_14_method_69_code, 1, some .int, (1, 14, 0), [(11, 176), (1, 11), (11, 174), (11, 175)]),
  (⟨"PostRoomModel", "accept", "(III)I"⟩, prog_14_method_78_code, 6, some .int, (1, 14, 3), [(11, 180), (1, 11), (11, 178), (11, 179)]),
  (⟨"PostRoomModel", "shelve", "(II)V"⟩, prog_14_method_74_code, 3, none, (1, 14, 2), [(11, 184), (1, 11), (11, 183), (0, 87)]),
  (⟨"PostRoomModel", "comes", "(IIII)V"⟩, prog_14_method_73_code, 5, none, (1, 14, 4), [(11, 188), (1, 11), (11, 187), (0, 88)]),
  (⟨"PostRoomModel", "note", "(III)V"⟩, prog_14_method_72_code, 4, none, (1, 14, 3), [(11, 192), (1, 11), (11, 191), (0, 89)]),
  (⟨"PostRoomModel", "sortOf", "(I)I"⟩, prog_14_method_70_code, 2, some .int, (1, 14, 1), [(11, 196), (1, 11), (11, 195), (0, 90)]),
  (⟨"PostRoomModel", "tick", "(I)I"⟩, prog_14_method_82_code, 4, some .int, (1, 14, 1), [(11, 204), (1, 11), (11, 202), (11, 203)]),
  (⟨"PostRoomModel", "arrive", "()V"⟩, prog_14_method_80_code, 5, none, (1, 14, 0), [(11, 208), (1, 11), (11, 207), (0, 91)]),
  (⟨"PostRoomModel", "goes", "(II)I"⟩, prog_14_method_79_code, 8, some .int, (1, 14, 2), [(11, 212), (1, 11), (11, 211), (0, 92)]),
  (⟨"PostRoomModel", "depart", "(I)V"⟩, prog_14_method_81_code, 6, none, (1, 14, 1), [(11, 216), (1, 11), (11, 215), (0, 93)]),
  (⟨"PostRoomModel", "way", "(II)I"⟩, prog_14_method_85_code, 3, some .int, (1, 14, 2), [(11, 220), (1, 11), (11, 218), (11, 219)]),
  (⟨"PostRoomModel", "findWays", "(I)V"⟩, prog_14_method_83_code, 4, none, (1, 14, 1), [(11, 224), (1, 11), (11, 223), (0, 94)]),
  (⟨"PostRoomModel", "goOn", "(I)V"⟩, prog_14_method_84_code, 6, none, (1, 14, 1), [(11, 228), (1, 11), (11, 227), (0, 95)]),
  (⟨"PostRoomModel", "sort", "(I)I"⟩, prog_14_method_86_code, 6, some .int, (1, 14, 1), [(11, 233), (1, 11), (11, 231), (11, 232)]),
  (⟨"PostRoomModel", "goesTo", "(I)I"⟩, prog_14_method_71_code, 2, some .int, (1, 14, 1), [(11, 237), (1, 11), (11, 236), (0, 96)]),
  (⟨"PostRoomModel", "intoBag", "(II)V"⟩, prog_14_method_77_code, 4, none, (1, 14, 2), [(12, 1), (1, 11), (12, 0), (0, 97)]),
  (⟨"PostRoomModel", "unshelve", "(II)V"⟩, prog_14_method_76_code, 5, none, (1, 14, 2), [(12, 5), (1, 11), (12, 4), (0, 98)]),
  (⟨"PostRoomModel", "placeOn", "(II)I"⟩, prog_14_method_75_code, 5, some .int, (1, 14, 2), [(12, 9), (1, 11), (12, 8), (0, 99)]),
  (⟨"PostRoomModel", "moved", "(II)Z"⟩, prog_14_method_89_code, 4, some .boolean, (1, 14, 2), [(12, 13), (1, 11), (12, 11), (12, 12)]),
  (⟨"PostRoomModel", "move", "(IIII)Z"⟩, prog_14_method_88_code, 6, some .boolean, (1, 14, 4), [(12, 17), (1, 11), (12, 16), (0, 100)]),
  (⟨"PostRoomModel", "movedAt", "(II)I"⟩, prog_14_method_87_code, 5, some .int, (1, 14, 2), [(12, 21), (1, 11), (12, 20), (0, 101)]),
  (⟨"PostRoomModel", "gone", "(II)Z"⟩, prog_14_method_90_code, 3, some .boolean, (1, 14, 2), [(12, 25), (1, 11), (12, 23), (12, 24)]),
  (⟨"PostRoomModel", "deliver", "(II)I"⟩, prog_14_method_98_code, 9, some .int, (1, 14, 2), [(12, 29), (1, 11), (12, 27), (12, 28)]),
  (⟨"PostRoomModel", "deliverBack", "(I)I"⟩, prog_14_method_99_code, 5, some .int, (1, 14, 1), [(12, 33), (1, 11), (12, 32), (0, 102)]),
  (⟨"PostRoomModel", "takeStops", "(II)V"⟩, prog_14_method_95_code, 7, none, (1, 14, 2), [(12, 37), (1, 11), (12, 36), (0, 103)]),
  (⟨"PostRoomModel", "sendAfter", "(III)V"⟩, prog_14_method_91_code, 4, none, (1, 14, 3), [(12, 41), (1, 11), (12, 40), (0, 104)]),
  (⟨"PostRoomModel", "doorX", "(II)I"⟩, prog_14_method_92_code, 5, some .int, (1, 14, 2), [(12, 45), (1, 11), (12, 44), (0, 105)]),
  (⟨"PostRoomModel", "doorY", "(II)I"⟩, prog_14_method_93_code, 5, some .int, (1, 14, 2), [(12, 49), (1, 11), (12, 48), (0, 106)]),
  (⟨"PostRoomModel", "stopAt", "(II)I"⟩, prog_14_method_94_code, 4, some .int, (1, 14, 2), [(12, 53), (1, 11), (12, 52), (0, 107)]),
  (⟨"PostRoomModel", "reckonWalk", "(I)V"⟩, prog_14_method_97_code, 7, none, (1, 14, 1), [(12, 57), (1, 11), (12, 56), (0, 108)]),
  (⟨"PostRoomModel", "between", "(II)I"⟩, prog_14_method_96_code, 3, some .int, (1, 14, 2), [(12, 61), (1, 11), (12, 60), (0, 109)]),
  (⟨"PostRoomModel", "programme", "()I"⟩, prog_14_method_102_code, 2, some .int, (1, 14, 0), [(12, 65), (1, 11), (12, 63), (12, 64)])]
def tM_4 : List MR := [(⟨"PostRoomModel", "statement", "()V"⟩, prog_14_method_106_code, 4, none, (1, 14, 0), [(12, 69), (1, 11), (12, 68), (0, 110)]),
  (⟨"PostRoomModel", "loop", "()V"⟩, prog_14_method_111_code, 4, none, (1, 14, 0), [(12, 73), (1, 11), (12, 72), (0, 111)]),
  (⟨"PostRoomModel", "emit", "(II)I"⟩, prog_14_method_100_code, 3, some .int, (1, 14, 2), [(12, 77), (1, 11), (12, 76), (0, 112)]),
  (⟨"PostRoomModel", "expression", "()V"⟩, prog_14_method_114_code, 3, none, (1, 14, 0), [(12, 81), (1, 11), (12, 80), (0, 113)]),
  (⟨"PostRoomModel", "sum", "()V"⟩, prog_14_method_115_code, 3, none, (1, 14, 0), [(12, 85), (1, 11), (12, 84), (0, 114)]),
  (⟨"PostRoomModel", "part", "()V"⟩, prog_14_method_116_code, 3, none, (1, 14, 0), [(12, 89), (1, 11), (12, 88), (0, 115)]),
  (⟨"PostRoomModel", "unit", "()V"⟩, prog_14_method_119_code, 1, none, (1, 14, 0), [(12, 93), (1, 11), (12, 92), (0, 116)]),
  (⟨"PostRoomModel", "isUnit", "()Z"⟩, prog_14_method_118_code, 3, some .boolean, (1, 14, 0), [(12, 97), (1, 11), (12, 96), (0, 117)]),
  (⟨"PostRoomModel", "registerAt", "(II)I"⟩, prog_14_method_103_code, 4, some .int, (1, 14, 2), [(12, 101), (1, 11), (12, 100), (0, 118)]),
  (⟨"PostRoomModel", "within", "(Z)V"⟩, prog_14_method_104_code, 2, none, (1, 14, 1), [(12, 105), (1, 11), (12, 104), (0, 119)]),
  (⟨"PostRoomModel", "unitWithin", "()V"⟩, prog_14_method_120_code, 3, none, (1, 14, 0), [(12, 109), (1, 11), (12, 108), (0, 120)]),
  (⟨"PostRoomModel", "trayPart", "()V"⟩, prog_14_method_117_code, 2, none, (1, 14, 0), [(12, 113), (1, 11), (12, 112), (0, 121)]),
  (⟨"PostRoomModel", "indexed", "()V"⟩, prog_14_method_109_code, 1, none, (1, 14, 0), [(12, 117), (1, 11), (12, 116), (0, 122)]),
  (⟨"PostRoomModel", "asked", "()V"⟩, prog_14_method_121_code, 3, none, (1, 14, 0), [(12, 121), (1, 11), (12, 120), (0, 123)]),
  (⟨"PostRoomModel", "itemPart", "()V"⟩, prog_14_method_122_code, 3, none, (1, 14, 0), [(12, 125), (1, 11), (12, 124), (0, 124)]),
  (⟨"PostRoomModel", "itemWithin", "(I)V"⟩, prog_14_method_123_code, 4, none, (1, 14, 1), [(12, 129), (1, 11), (12, 128), (0, 125)]),
  (⟨"PostRoomModel", "block", "()V"⟩, prog_14_method_105_code, 1, none, (1, 14, 0), [(12, 133), (1, 11), (12, 132), (0, 126)]),
  (⟨"PostRoomModel", "here", "(I)V"⟩, prog_14_method_101_code, 2, none, (1, 14, 1), [(12, 137), (1, 11), (12, 136), (0, 127)]),
  (⟨"PostRoomModel", "choice", "()V"⟩, prog_14_method_110_code, 3, none, (1, 14, 0), [(12, 141), (1, 11), (12, 140), (0, 128)]),
  (⟨"PostRoomModel", "trial", "()V"⟩, prog_14_method_112_code, 4, none, (1, 14, 0), [(12, 145), (1, 11), (12, 144), (0, 129)]),
  (⟨"PostRoomModel", "on", "(II)I"⟩, prog_14_method_113_code, 6, some .int, (1, 14, 2), [(12, 149), (1, 11), (12, 148), (0, 130)]),
  (⟨"PostRoomModel", "act", "()V"⟩, prog_14_method_107_code, 3, none, (1, 14, 0), [(12, 153), (1, 11), (12, 152), (0, 131)]),
  (⟨"PostRoomModel", "slide", "()V"⟩, prog_14_method_108_code, 2, none, (1, 14, 0), [(12, 157), (1, 11), (12, 156), (0, 132)]),
  (⟨"PostRoomModel", "run", "(II)I"⟩, prog_14_method_124_code, 4, some .int, (1, 14, 2), [(12, 161), (1, 11), (12, 159), (12, 160)]),
  (⟨"PostRoomModel", "works", "(II)V"⟩, prog_14_method_132_code, 3, none, (1, 14, 2), [(12, 165), (1, 11), (12, 164), (0, 133)]),
  (⟨"PostRoomModel", "goesOn", "(II)V"⟩, prog_14_method_135_code, 4, none, (1, 14, 2), [(12, 169), (1, 11), (12, 168), (0, 134)]),
  (⟨"PostRoomModel", "steps", "()Z"⟩, prog_14_method_131_code, 1, some .boolean, (1, 14, 0), [(12, 173), (1, 11), (12, 172), (0, 135)]),
  (⟨"PostRoomModel", "pop", "()J"⟩, prog_14_method_129_code, 1, some .long, (1, 14, 0), [(12, 178), (1, 11), (12, 177), (0, 136)]),
  (⟨"PostRoomModel", "tried", "(I)V"⟩, prog_14_method_136_code, 2, none, (1, 14, 1), [(12, 182), (1, 11), (12, 181), (0, 137)]),
  (⟨"PostRoomModel", "outward", "(IJ)V"⟩, prog_14_method_126_code, 6, none, (1, 14, 2), [(12, 186), (1, 11), (12, 185), (0, 138)]),
  (⟨"PostRoomModel", "onFor", "(II)I"⟩, prog_14_method_127_code, 4, some .int, (1, 14, 2), [(12, 190), (1, 11), (12, 189), (0, 139)]),
  (⟨"PostRoomModel", "does", "(II)V"⟩, prog_14_method_143_code, 9, none, (1, 14, 2), [(12, 194), (1, 11), (12, 193), (0, 140)])]
def tM_5 : List MR := [(⟨"PostRoomModel", "makes", "(I)V"⟩, prog_14_method_145_code, 7, none, (1, 14, 1), [(12, 198), (1, 11), (12, 197), (0, 141)]),
  (⟨"PostRoomModel", "refuse", "(I)V"⟩, prog_14_method_128_code, 2, none, (1, 14, 1), [(12, 202), (1, 11), (12, 201), (0, 142)]),
  (⟨"PostRoomModel", "isHeld", "(I)Z"⟩, prog_14_method_146_code, 4, some .boolean, (1, 14, 1), [(12, 208), (1, 11), (12, 207), (0, 143)]),
  (⟨"PostRoomModel", "cellOf", "(IJZ)I"⟩, prog_14_method_141_code, 5, some .int, (1, 14, 3), [(12, 213), (1, 11), (12, 212), (0, 144)]),
  (⟨"PostRoomModel", "isOfItems", "(I)Z"⟩, prog_14_method_137_code, 1, some .boolean, (0, 0, 1), [(12, 216), (1, 11), (12, 215)]),
  (⟨"PostRoomModel", "shaped", "(IJ)J"⟩, prog_14_method_144_code, 3, some .long, (0, 0, 2), [(12, 219), (1, 11), (12, 218)]),
  (⟨"PostRoomModel", "lays", "()V"⟩, prog_14_method_147_code, 6, none, (1, 14, 0), [(12, 223), (1, 11), (12, 222), (0, 145)]),
  (⟨"PostRoomModel", "mayHave", "(II)Z"⟩, prog_14_method_139_code, 3, some .boolean, (1, 14, 2), [(12, 227), (1, 11), (12, 226), (0, 146)]),
  (⟨"PostRoomModel", "hasSort", "(II)Z"⟩, prog_14_method_138_code, 4, some .boolean, (1, 14, 2), [(12, 231), (1, 11), (12, 230), (0, 147)]),
  (⟨"PostRoomModel", "slides", "()V"⟩, prog_14_method_148_code, 13, none, (1, 14, 0), [(12, 235), (1, 11), (12, 234), (0, 148)]),
  (⟨"PostRoomModel", "bags", "()V"⟩, prog_14_method_149_code, 4, none, (1, 14, 0), [(12, 239), (1, 11), (12, 238), (0, 149)]),
  (⟨"PostRoomModel", "asks", "(II)V"⟩, prog_14_method_140_code, 7, none, (1, 14, 2), [(13, 3), (1, 11), (13, 2), (0, 150)]),
  (⟨"PostRoomModel", "push", "(J)V"⟩, prog_14_method_130_code, 3, none, (1, 14, 1), [(13, 8), (1, 11), (13, 7), (0, 151)]),
  (⟨"PostRoomModel", "asksItem", "(II)V"⟩, prog_14_method_142_code, 4, none, (1, 14, 2), [(13, 12), (1, 11), (13, 11), (0, 152)]),
  (⟨"PostRoomModel", "reckons", "(I)V"⟩, prog_14_method_134_code, 6, none, (1, 14, 1), [(13, 16), (1, 11), (13, 15), (0, 153)]),
  (⟨"PostRoomModel", "moves", "(II)V"⟩, prog_14_method_133_code, 3, none, (1, 14, 2), [(13, 20), (1, 11), (13, 19), (0, 154)]),
  (⟨"PostRoomModel", "refused", "()V"⟩, prog_14_method_125_code, 1, none, (1, 14, 0), [(13, 24), (1, 11), (13, 23), (0, 155)]),
  (⟨"PostRoomModel", "number", "(I)J"⟩, prog_14_method_150_code, 2, some .long, (1, 14, 1), [(13, 28), (1, 11), (13, 26), (13, 27)]),
  (⟨"PostRoomModel", "held", "(I)I"⟩, prog_14_method_151_code, 2, some .int, (1, 14, 1), [(13, 32), (1, 11), (13, 30), (13, 31)]),
  (⟨"PostRoomModel", "tray", "(II)I"⟩, prog_14_method_152_code, 5, some .int, (1, 14, 2), [(13, 36), (1, 11), (13, 34), (13, 35)]),
  (⟨"PostRoomModel", "place", "(II)J"⟩, prog_14_method_153_code, 3, some .long, (1, 14, 2), [(13, 40), (1, 11), (13, 38), (13, 39)]),
  (⟨"PostRoomModel", "item", "(II)I"⟩, prog_14_method_154_code, 3, some .int, (1, 14, 2), [(13, 44), (1, 11), (13, 42), (13, 43)]),
  (⟨"PostRoomModel", "shelf", "(II)I"⟩, prog_14_method_155_code, 3, some .int, (1, 14, 2), [(13, 48), (1, 11), (13, 46), (13, 47)]),
  (⟨"PostRoomModel", "bag", "(II)I"⟩, prog_14_method_156_code, 3, some .int, (1, 14, 2), [(13, 52), (1, 11), (13, 50), (13, 51)]),
  (⟨"PostRoomModel", "count", "(I)I"⟩, prog_14_method_157_code, 4, some .int, (1, 14, 1), [(13, 56), (1, 11), (13, 54), (13, 55)]),
  (⟨"PostRoom$Tape", "<init>", "()V"⟩, prog_12_method_1_code, 1, none, (2, 0, 0), [(1, 45), (1, 2), (1, 44)]),
  (⟨"PostRoom$Finder", "<init>", "()V"⟩, prog_4_method_1_code, 1, none, (2, 0, 0), [(1, 87), (1, 3), (1, 86)]),
  (⟨"PostRoom$Post", "<init>", "(LPostRoom$Tape;)V"⟩, prog_8_method_1_code, 2, none, (2, 0, 1), [(1, 123), (1, 4), (1, 122)]),
  (⟨"PostRoom$Machine", "<init>", "(LPostRoom$Post;)V"⟩, prog_6_method_1_code, 2, none, (2, 0, 1), [(2, 29), (1, 9), (2, 28)]),
  (⟨"PostRoom$Script", "<init>", "()V"⟩, prog_9_method_1_code, 1, none, (2, 0, 0), [(2, 104), (1, 10), (2, 103)]),
  (⟨"java/lang/String", "length", "()I"⟩, prog_26_method_54_code, 1, some .int, (1, 15, 0), [(2, 205), (1, 12), (2, 203), (2, 204)]),
  (⟨"java/lang/String", "charAt", "(I)C"⟩, prog_26_method_56_code, 2, some .char, (1, 15, 1), [(3, 43), (1, 12), (3, 41), (3, 42)])]
def tM_6 : List MR := [(⟨"PostRoom$Tape", "append", "(J)V"⟩, prog_12_method_2_code, 5, none, (1, 12, 1), [(2, 164), (1, 2), (2, 162), (2, 163)]),
  (⟨"PostRoom$Book", "<init>", "(LPostRoom$Tape;)V"⟩, prog_2_method_1_code, 2, none, (2, 0, 1), [(1, 129), (1, 5), (1, 128)]),
  (⟨"PostRoom$Book", "readAll", "()I"⟩, prog_2_method_12_code, 2, some .int, (1, 2, 0), [(2, 174), (1, 5), (2, 172), (2, 173)]),
  (⟨"PostRoom$Tape", "clear", "()V"⟩, prog_12_method_3_code, 1, none, (1, 12, 0), [(4, 173), (1, 2), (4, 171), (4, 172)]),
  (⟨"PostRoom$Post", "begin", "(LPostRoom$Book;)V"⟩, prog_8_method_2_code, 2, none, (1, 8, 1), [(4, 177), (1, 4), (4, 175), (4, 176)]),
  (⟨"PostRoom$Machine", "begin", "()V"⟩, prog_6_method_2_code, 1, none, (1, 6, 0), [(4, 185), (1, 9), (4, 183), (4, 184)]),
  (⟨"PostRoom$Finder", "seek", "(LPostRoom$Tape;LPostRoom$Book;)I"⟩, prog_4_method_2_code, 3, some .int, (1, 4, 2), [(4, 203), (1, 3), (4, 201), (4, 202)]),
  (⟨"PostRoom$Tape", "readBars", "([I[Z)Z"⟩, prog_12_method_9_code, 5, some .boolean, (1, 12, 2), [(5, 34), (1, 2), (5, 32), (5, 33)]),
  (⟨"PostRoom$Item", "mend", "([I[Z)I"⟩, prog_5_method_9_code, 6, some .int, (0, 0, 2), [(5, 37), (1, 30), (5, 36)]),
  (⟨"PostRoom$Post", "itemWith", "([I)I"⟩, prog_8_method_4_code, 3, some .int, (1, 8, 1), [(5, 65), (1, 4), (5, 63), (5, 64)]),
  (⟨"PostRoom$Post", "pass", "(I)I"⟩, prog_8_method_10_code, 4, some .int, (1, 8, 1), [(5, 85), (1, 4), (5, 83), (5, 84)]),
  (⟨"PostRoom$Book", "hasOffice", "(I)Z"⟩, prog_2_method_2_code, 2, some .boolean, (1, 2, 1), [(5, 139), (1, 5), (5, 137), (5, 138)]),
  (⟨"PostRoom$Post", "sortShelf", "(I)I"⟩, prog_8_method_19_code, 8, some .int, (1, 8, 1), [(5, 143), (1, 4), (5, 141), (5, 142)]),
  (⟨"PostRoom$Post", "giveBack", "(I)I"⟩, prog_8_method_26_code, 7, some .int, (1, 8, 1), [(5, 182), (1, 4), (5, 180), (5, 181)]),
  (⟨"PostRoom$Post", "walkOut", "(II)I"⟩, prog_8_method_27_code, 6, some .int, (1, 8, 2), [(5, 186), (1, 4), (5, 184), (5, 185)]),
  (⟨"PostRoom$Book", "hasPiece", "(I)Z"⟩, prog_2_method_3_code, 2, some .boolean, (1, 2, 1), [(5, 165), (1, 5), (5, 163), (5, 164)]),
  (⟨"PostRoom$Post", "doorKey", "(II)I"⟩, prog_8_method_22_code, 2, some .int, (0, 0, 2), [(5, 197), (1, 4), (5, 196)]),
  (⟨"PostRoom$Post", "tellMoved", "(III)Z"⟩, prog_8_method_24_code, 6, some .boolean, (1, 8, 3), [(6, 8), (1, 4), (6, 6), (6, 7)]),
  (⟨"PostRoom$Script", "readAll", "(LPostRoom$Tape;)I"⟩, prog_9_method_4_code, 3, some .int, (1, 9, 1), [(6, 20), (1, 10), (6, 18), (6, 19)]),
  (⟨"PostRoom$Machine", "perform", "(LPostRoom$Script;II)I"⟩, prog_6_method_3_code, 5, some .int, (1, 6, 3), [(6, 104), (1, 9), (6, 102), (6, 103)]),
  (⟨"java/util/ArrayList", "get", "(I)Ljava/lang/Object;"⟩, prog_35_method_20_code, 2, some (.object "java/lang/Object"), (1, 1, 1), [(3, 122), (1, 8), (3, 120), (3, 121)]),
  (⟨"java/util/ArrayList", "size", "()I"⟩, prog_35_method_8_code, 1, some .int, (1, 1, 0), [(3, 68), (1, 8), (3, 66), (3, 67)]),
  (⟨"PostRoom$Book", "hasCoach", "(I)Z"⟩, prog_2_method_5_code, 2, some .boolean, (1, 2, 1), [(7, 84), (1, 5), (7, 82), (7, 83)]),
  (⟨"PostRoom$Post", "itemsThatAre", "(I)I"⟩, prog_8_method_5_code, 4, some .int, (1, 8, 1), [(7, 93), (1, 4), (7, 91), (7, 92)]),
  (⟨"PostRoom$Post", "allPrices", "()I"⟩, prog_8_method_6_code, 3, some .int, (1, 8, 0), [(7, 97), (1, 4), (7, 95), (7, 96)]),
  (⟨"PostRoom$Post", "coachesUnderWay", "()I"⟩, prog_8_method_14_code, 4, some .int, (1, 8, 0), [(7, 101), (1, 4), (7, 99), (7, 100)]),
  (⟨"PostRoom$Book", "hasService", "(I)Z"⟩, prog_2_method_4_code, 2, some .boolean, (1, 2, 1), [(7, 113), (1, 5), (7, 111), (7, 112)]),
  (⟨"PostRoom$Book", "priceOf", "(IIII)I"⟩, prog_2_method_6_code, 6, some .int, (1, 2, 4), [(7, 184), (1, 5), (7, 182), (7, 183)]),
  (⟨"PostRoom$Post", "wayComes", "(II)I"⟩, prog_8_method_15_code, 3, some .int, (1, 8, 2), [(7, 220), (1, 4), (7, 218), (7, 219)]),
  (⟨"PostRoom$Service", "takes", "(I)Z"⟩, prog_10_method_2_code, 2, some .boolean, (1, 10, 1), [(7, 188), (1, 24), (7, 186), (7, 187)]),
  (⟨"PostRoom$Post", "takeIn", "(IIIII)I"⟩, prog_8_method_9_code, 9, some .int, (1, 8, 5), [(7, 233), (1, 4), (7, 231), (7, 232)]),
  (⟨"PostRoom$Post", "hasItem", "(I)Z"⟩, prog_8_method_3_code, 2, some .boolean, (1, 8, 1), [(8, 79), (1, 4), (8, 77), (8, 78)])]
def tM_7 : List MR := [(⟨"PostRoom$Machine", "toldOfTray", "(II)I"⟩, prog_6_method_4_code, 4, some .int, (1, 6, 2), [(8, 139), (1, 9), (8, 137), (8, 138)]),
  (⟨"PostRoom$Item", "told", "(I)I"⟩, prog_5_method_2_code, 2, some .int, (1, 5, 1), [(8, 159), (1, 30), (8, 157), (8, 158)]),
  (⟨"java/util/ArrayList", "<init>", "()V"⟩, prog_35_method_2_code, 1, none, (2, 0, 0), [(1, 135), (1, 8), (1, 134)]),
  (⟨"java/lang/String", "coder", "()B"⟩, prog_26_method_152_code, 1, some .byte, (1, 15, 0), [(2, 209), (1, 12), (2, 207), (2, 208)]),
  (⟨"java/lang/String", "isLatin1", "()Z"⟩, prog_26_method_154_code, 1, some .boolean, (1, 15, 0), [(2, 199), (1, 12), (2, 197), (2, 198)]),
  (⟨"java/lang/StringLatin1", "charAt", "([BI)C"⟩, prog_27_method_2_code, 2, some .char, (0, 0, 2), [(3, 46), (1, 13), (3, 45)]),
  (⟨"PostRoom$Tape", "rewind", "()V"⟩, prog_12_method_5_code, 1, none, (1, 12, 0), [(2, 178), (1, 2), (2, 176), (2, 177)]),
  (⟨"PostRoom$Tape", "wordIn", "(Ljava/lang/String;)I"⟩, prog_12_method_7_code, 7, some .int, (1, 12, 1), [(3, 38), (1, 2), (3, 36), (3, 37)]),
  (⟨"PostRoom$Book", "readOffice", "()Z"⟩, prog_2_method_19_code, 2, some .boolean, (1, 2, 0), [(3, 64), (1, 5), (3, 62), (3, 63)]),
  (⟨"PostRoom$Book", "readShort", "()Z"⟩, prog_2_method_20_code, 1, some .boolean, (1, 2, 0), [(3, 210), (1, 5), (3, 208), (3, 209)]),
  (⟨"PostRoom$Book", "readStreet", "()Z"⟩, prog_2_method_21_code, 2, some .boolean, (1, 2, 0), [(3, 218), (1, 5), (3, 216), (3, 217)]),
  (⟨"PostRoom$Book", "readService", "()Z"⟩, prog_2_method_24_code, 2, some .boolean, (1, 2, 0), [(4, 59), (1, 5), (4, 57), (4, 58)]),
  (⟨"PostRoom$Book", "readCoach", "()Z"⟩, prog_2_method_27_code, 2, some .boolean, (1, 2, 0), [(4, 117), (1, 5), (4, 115), (4, 116)]),
  (⟨"PostRoom$Book", "fails", "(I)Z"⟩, prog_2_method_13_code, 2, some .boolean, (1, 2, 1), [(3, 72), (1, 5), (3, 70), (3, 71)]),
  (⟨"PostRoom$Tape", "advance", "()V"⟩, prog_12_method_6_code, 5, none, (1, 12, 0), [(2, 182), (1, 2), (2, 180), (2, 181)]),
  (⟨"java/util/ArrayList", "clear", "()V"⟩, prog_35_method_40_code, 4, none, (1, 1, 0), [(4, 181), (1, 8), (4, 179), (4, 180)]),
  (⟨"java/util/Arrays", "fill", "([JJ)V"⟩, prog_36_method_101_code, 5, none, (0, 0, 2), [(4, 188), (1, 21), (4, 187)]),
  (⟨"java/util/Arrays", "fill", "([II)V"⟩, prog_36_method_103_code, 4, none, (0, 0, 2), [(4, 191), (1, 21), (4, 190)]),
  (⟨"PostRoom$Finder", "readWords", "(LPostRoom$Tape;LPostRoom$Book;)V"⟩, prog_4_method_4_code, 5, none, (1, 4, 2), [(4, 207), (1, 3), (4, 205), (4, 206)]),
  (⟨"PostRoom$Finder", "readDoor", "()Z"⟩, prog_4_method_7_code, 4, some .boolean, (1, 4, 0), [(4, 225), (1, 3), (4, 223), (4, 224)]),
  (⟨"PostRoom$Finder", "findCode", "()I"⟩, prog_4_method_8_code, 3, some .int, (1, 4, 0), [(4, 229), (1, 3), (4, 227), (4, 228)]),
  (⟨"PostRoom$Finder", "nearest", "(LPostRoom$Book;)I"⟩, prog_4_method_9_code, 8, some .int, (1, 4, 1), [(4, 233), (1, 3), (4, 231), (4, 232)]),
  (⟨"PostRoom$Item", "solve", "([I[II[[I)Z"⟩, prog_5_method_12_code, 6, some .boolean, (0, 0, 4), [(5, 41), (1, 30), (5, 40)]),
  (⟨"PostRoom$Item", "mendOne", "([I[Z[II[[I)Z"⟩, prog_5_method_10_code, 6, some .boolean, (0, 0, 5), [(5, 58), (1, 30), (5, 57)]),
  (⟨"PostRoom$Item", "mendTwo", "([I[Z[I[[I)Z"⟩, prog_5_method_11_code, 6, some .boolean, (0, 0, 4), [(5, 61), (1, 30), (5, 60)]),
  (⟨"PostRoom$Item", "hasSigns", "([I)Z"⟩, prog_5_method_6_code, 3, some .boolean, (1, 5, 1), [(5, 72), (1, 30), (5, 70), (5, 71)]),
  (⟨"PostRoom$Post", "nextMinute", "(I)I"⟩, prog_8_method_11_code, 5, some .int, (1, 8, 1), [(5, 89), (1, 4), (5, 87), (5, 88)]),
  (⟨"PostRoom$Post", "letCome", "()V"⟩, prog_8_method_12_code, 4, none, (1, 8, 0), [(5, 103), (1, 4), (5, 101), (5, 102)]),
  (⟨"PostRoom$Post", "letGo", "()V"⟩, prog_8_method_13_code, 5, none, (1, 8, 0), [(5, 127), (1, 4), (5, 125), (5, 126)]),
  (⟨"PostRoom$Post", "workOutWays", "(I)V"⟩, prog_8_method_16_code, 3, none, (1, 8, 1), [(5, 147), (1, 4), (5, 145), (5, 146)]),
  (⟨"PostRoom$Post", "goal", "(LPostRoom$Item;)I"⟩, prog_8_method_7_code, 2, some .int, (1, 8, 1), [(5, 161), (1, 4), (5, 159), (5, 160)]),
  (⟨"PostRoom$Post", "putInBag", "(LPostRoom$Item;I)V"⟩, prog_8_method_21_code, 4, none, (1, 8, 2), [(5, 170), (1, 4), (5, 168), (5, 169)])]
def tM_8 : List MR := [(⟨"java/util/ArrayList", "remove", "(I)Ljava/lang/Object;"⟩, prog_35_method_29_code, 4, some (.object "java/lang/Object"), (1, 1, 1), [(5, 107), (1, 8), (5, 105), (5, 106)]),
  (⟨"PostRoom$Item", "comesTo", "(IIII)V"⟩, prog_5_method_3_code, 5, none, (1, 5, 4), [(5, 116), (1, 30), (5, 114), (5, 115)]),
  (⟨"PostRoom$Post", "log", "(LPostRoom$Item;II)V"⟩, prog_8_method_8_code, 4, none, (1, 8, 3), [(5, 122), (1, 4), (5, 120), (5, 121)]),
  (⟨"PostRoom$Post", "isOfWalk", "(LPostRoom$Item;II)Z"⟩, prog_8_method_28_code, 5, some .boolean, (1, 8, 3), [(5, 190), (1, 4), (5, 188), (5, 189)]),
  (⟨"PostRoom$Post", "stopFor", "(LPostRoom$Item;)I"⟩, prog_8_method_29_code, 7, some .int, (1, 8, 1), [(5, 194), (1, 4), (5, 192), (5, 193)]),
  (⟨"PostRoom$Post", "workOutWalk", "()V"⟩, prog_8_method_31_code, 3, none, (1, 8, 0), [(5, 217), (1, 4), (5, 215), (5, 216)]),
  (⟨"PostRoom$Post", "goWalk", "(Ljava/util/ArrayList;I)I"⟩, prog_8_method_34_code, 9, some .int, (1, 8, 2), [(5, 234), (1, 4), (5, 232), (5, 233)]),
  (⟨"PostRoom$Post", "movedIndex", "(I)I"⟩, prog_8_method_23_code, 3, some .int, (1, 8, 1), [(5, 201), (1, 4), (5, 199), (5, 200)]),
  (⟨"PostRoom$Script", "look", "()V"⟩, prog_9_method_6_code, 6, none, (1, 9, 0), [(6, 25), (1, 10), (6, 23), (6, 24)]),
  (⟨"PostRoom$Script", "readStatement", "(I)Z"⟩, prog_9_method_9_code, 3, some .boolean, (1, 9, 1), [(6, 31), (1, 10), (6, 30), (0, 5)]),
  (⟨"PostRoom$Machine", "doStatement", "(I)V"⟩, prog_6_method_9_code, 4, none, (1, 6, 1), [(6, 109), (1, 9), (6, 108), (0, 15)]),
  (⟨"java/util/Objects", "checkIndex", "(II)I"⟩, prog_40_method_17_code, 2, some .int, (0, 0, 2), [(3, 125), (1, 19), (3, 124)]),
  (⟨"java/util/ArrayList", "elementData", "(I)Ljava/lang/Object;"⟩, prog_35_method_18_code, 2, some (.object "java/lang/Object"), (1, 1, 1), [(3, 130), (1, 8), (3, 128), (3, 129)]),
  (⟨"PostRoom$Book", "zoneOf", "(II)I"⟩, prog_2_method_7_code, 5, some .int, (1, 2, 2), [(7, 192), (1, 5), (7, 190), (7, 191)]),
  (⟨"PostRoom$Service", "priceFor", "(II)I"⟩, prog_10_method_3_code, 6, some .int, (1, 10, 2), [(7, 198), (1, 24), (7, 196), (7, 197)]),
  (⟨"PostRoom$Item", "<init>", "(IIIII)V"⟩, prog_5_method_1_code, 6, none, (2, 0, 5), [(7, 238), (1, 30), (7, 237)]),
  (⟨"PostRoom$Item", "setSigns", "(I)V"⟩, prog_5_method_5_code, 3, none, (1, 5, 1), [(8, 67), (1, 30), (8, 65), (8, 66)]),
  (⟨"java/util/ArrayList", "add", "(Ljava/lang/Object;)Z"⟩, prog_35_method_25_code, 2, some .boolean, (1, 1, 1), [(3, 146), (1, 8), (3, 144), (3, 145)]),
  (⟨"java/util/AbstractList", "<init>", "()V"⟩, prog_34_method_1_code, 1, none, (2, 0, 0), [(1, 138), (1, 7), (1, 137)]),
  (⟨"java/lang/String", "checkIndex", "(II)V"⟩, prog_26_method_155_code, 2, none, (0, 0, 2), [(3, 49), (1, 12), (3, 48)]),
  (⟨"PostRoom$Office", "<init>", "()V"⟩, prog_7_method_1_code, 1, none, (2, 0, 0), [(3, 77), (1, 18), (3, 76)]),
  (⟨"PostRoom$Book", "takesName", "()Z"⟩, prog_2_method_14_code, 1, some .boolean, (1, 2, 0), [(3, 113), (1, 5), (3, 111), (3, 112)]),
  (⟨"PostRoom$Book", "officeNamed", "(J)I"⟩, prog_2_method_8_code, 4, some .int, (1, 2, 1), [(3, 118), (1, 5), (3, 116), (3, 117)]),
  (⟨"PostRoom$Tape", "copyCodes", "([II)I"⟩, prog_12_method_8_code, 5, some .int, (1, 12, 2), [(3, 134), (1, 2), (3, 132), (3, 133)]),
  (⟨"PostRoom$Book", "takesNumber", "(II)Z"⟩, prog_2_method_15_code, 3, some .boolean, (1, 2, 2), [(3, 138), (1, 5), (3, 136), (3, 137)]),
  (⟨"PostRoom$Book", "hasCode", "(I)Z"⟩, prog_2_method_9_code, 3, some .boolean, (1, 2, 1), [(3, 142), (1, 5), (3, 140), (3, 141)]),
  (⟨"PostRoom$Book", "takesEnd", "()Z"⟩, prog_2_method_17_code, 1, some .boolean, (1, 2, 0), [(3, 206), (1, 5), (3, 204), (3, 205)]),
  (⟨"PostRoom$Book", "shortNamed", "(J)I"⟩, prog_2_method_11_code, 4, some .int, (1, 2, 1), [(3, 214), (1, 5), (3, 212), (3, 213)]),
  (⟨"PostRoom$Street", "<init>", "()V"⟩, prog_11_method_1_code, 1, none, (2, 0, 0), [(3, 223), (1, 23), (3, 222)]),
  (⟨"PostRoom$Book", "readNames", "(LPostRoom$Street;)Z"⟩, prog_2_method_22_code, 6, some .boolean, (1, 2, 1), [(4, 26), (1, 5), (4, 24), (4, 25)]),
  (⟨"PostRoom$Book", "takesOffice", "()Z"⟩, prog_2_method_18_code, 1, some .boolean, (1, 2, 0), [(4, 45), (1, 5), (4, 43), (4, 44)]),
  (⟨"PostRoom$Book", "readNumbers", "(LPostRoom$Street;)Z"⟩, prog_2_method_23_code, 2, some .boolean, (1, 2, 1), [(4, 49), (1, 5), (4, 47), (4, 48)])]
def tM_9 : List MR := [(⟨"PostRoom$Book", "takesWord", "(Ljava/lang/String;)Z"⟩, prog_2_method_16_code, 2, some .boolean, (1, 2, 1), [(4, 41), (1, 5), (4, 39), (4, 40)]),
  (⟨"PostRoom$Service", "<init>", "()V"⟩, prog_10_method_1_code, 1, none, (2, 0, 0), [(4, 64), (1, 24), (4, 63)]),
  (⟨"PostRoom$Book", "hasServiceNamed", "(J)Z"⟩, prog_2_method_10_code, 4, some .boolean, (1, 2, 1), [(4, 101), (1, 5), (4, 99), (4, 100)]),
  (⟨"PostRoom$Book", "readRules", "(LPostRoom$Service;)Z"⟩, prog_2_method_25_code, 4, some .boolean, (1, 2, 1), [(4, 107), (1, 5), (4, 105), (4, 106)]),
  (⟨"PostRoom$Coach", "<init>", "()V"⟩, prog_3_method_1_code, 1, none, (2, 0, 0), [(4, 122), (1, 25), (4, 121)]),
  (⟨"PostRoom$Book", "readTimes", "(LPostRoom$Coach;)Z"⟩, prog_2_method_28_code, 2, some .boolean, (1, 2, 1), [(4, 164), (1, 5), (4, 162), (4, 163)]),
  (⟨"PostRoom$Tape", "codeOf", "(C)I"⟩, prog_12_method_4_code, 1, some .int, (0, 0, 1), [(2, 185), (1, 2), (2, 184)]),
  (⟨"java/lang/String", "indexOf", "(I)I"⟩, prog_26_method_79_code, 2, some .int, (1, 15, 1), [(2, 191), (1, 12), (2, 189), (2, 190)]),
  (⟨"PostRoom$Finder", "plainCode", "(C)I"⟩, prog_4_method_3_code, 1, some .int, (0, 0, 1), [(4, 210), (1, 3), (4, 209)]),
  (⟨"PostRoom$Finder", "addWord", "(LPostRoom$Tape;IILPostRoom$Book;)V"⟩, prog_4_method_5_code, 10, none, (1, 4, 4), [(4, 215), (1, 3), (4, 213), (4, 214)]),
  (⟨"PostRoom$Street", "fits", "(I)Z"⟩, prog_11_method_2_code, 2, some .boolean, (1, 11, 1), [(5, 0), (1, 23), (4, 238), (4, 239)]),
  (⟨"PostRoom$Finder", "farOf", "(LPostRoom$Street;LPostRoom$Office;)I"⟩, prog_4_method_10_code, 6, some .int, (1, 4, 2), [(5, 5), (1, 3), (5, 3), (5, 4)]),
  (⟨"PostRoom$Item", "valueAt", "([II)I"⟩, prog_5_method_13_code, 4, some .int, (0, 0, 2), [(5, 46), (1, 30), (5, 45)]),
  (⟨"PostRoom$Item", "clearColumn", "([[III)Z"⟩, prog_5_method_14_code, 8, some .boolean, (0, 0, 3), [(5, 52), (1, 30), (5, 51)]),
  (⟨"java/lang/Math", "min", "(II)I"⟩, prog_24_method_69_code, 2, some .int, (0, 0, 2), [(2, 221), (1, 16), (2, 220)]),
  (⟨"java/util/ArrayList", "isEmpty", "()Z"⟩, prog_35_method_9_code, 1, some .boolean, (1, 1, 0), [(5, 95), (1, 8), (5, 93), (5, 94)]),
  (⟨"PostRoom$Coach", "timeBehind", "(I)I"⟩, prog_3_method_3_code, 5, some .int, (1, 3, 1), [(5, 99), (1, 25), (5, 97), (5, 98)]),
  (⟨"PostRoom$Coach", "goesAt", "(I)Z"⟩, prog_3_method_2_code, 3, some .boolean, (1, 3, 1), [(5, 131), (1, 25), (5, 129), (5, 130)]),
  (⟨"PostRoom$Post", "rideFirst", "(LPostRoom$Coach;)V"⟩, prog_8_method_17_code, 7, none, (1, 8, 1), [(5, 153), (1, 4), (5, 151), (5, 152)]),
  (⟨"PostRoom$Post", "keepEarlier", "(I)V"⟩, prog_8_method_18_code, 3, none, (1, 8, 1), [(5, 157), (1, 4), (5, 155), (5, 156)]),
  (⟨"PostRoom$Post", "takeFromShelf", "(LPostRoom$Item;)V"⟩, prog_8_method_20_code, 4, none, (1, 8, 1), [(5, 174), (1, 4), (5, 172), (5, 173)]),
  (⟨"java/util/ArrayList", "fastRemove", "([Ljava/lang/Object;I)V"⟩, prog_35_method_39_code, 4, none, (1, 1, 2), [(5, 111), (1, 8), (5, 110), (0, 4)]),
  (⟨"PostRoom$Post", "sendOn", "(LPostRoom$Item;I)V"⟩, prog_8_method_25_code, 3, none, (1, 8, 2), [(5, 205), (1, 4), (5, 203), (5, 204)]),
  (⟨"PostRoom$Street", "doorX", "(I)I"⟩, prog_11_method_3_code, 3, some .int, (1, 11, 1), [(5, 209), (1, 23), (5, 207), (5, 208)]),
  (⟨"PostRoom$Street", "doorY", "(I)I"⟩, prog_11_method_4_code, 3, some .int, (1, 11, 1), [(5, 213), (1, 23), (5, 211), (5, 212)]),
  (⟨"PostRoom$Post", "between", "(II)I"⟩, prog_8_method_30_code, 3, some .int, (1, 8, 2), [(5, 221), (1, 4), (5, 219), (5, 220)]),
  (⟨"PostRoom$Post", "leastFrom", "(II)I"⟩, prog_8_method_32_code, 5, some .int, (1, 8, 2), [(5, 226), (1, 4), (5, 224), (5, 225)]),
  (⟨"PostRoom$Post", "restBy", "(III)I"⟩, prog_8_method_33_code, 4, some .int, (1, 8, 3), [(5, 230), (1, 4), (5, 228), (5, 229)]),
  (⟨"PostRoom$Post", "deliverAt", "(ILjava/util/ArrayList;I)V"⟩, prog_8_method_35_code, 7, none, (1, 8, 3), [(5, 238), (1, 4), (5, 236), (5, 237)]),
  (⟨"PostRoom$Script", "push", "()Z"⟩, prog_9_method_7_code, 1, some .boolean, (1, 9, 0), [(6, 35), (1, 10), (6, 33), (6, 34)]),
  (⟨"PostRoom$Script", "takes", "(I)Z"⟩, prog_9_method_8_code, 2, some .boolean, (1, 9, 1), [(6, 44), (1, 10), (6, 42), (6, 43)]),
  (⟨"PostRoom$Script", "readExpression", "(I)Z"⟩, prog_9_method_17_code, 2, some .boolean, (1, 9, 1), [(6, 48), (1, 10), (6, 47), (0, 6)])]
def tM_10 : List MR := [(⟨"PostRoom$Script", "readItem", "(I)Z"⟩, prog_9_method_22_code, 3, some .boolean, (1, 9, 1), [(6, 76), (1, 10), (6, 75), (0, 12)]),
  (⟨"PostRoom$Script", "readTray", "(I)Z"⟩, prog_9_method_15_code, 2, some .boolean, (1, 9, 1), [(6, 68), (1, 10), (6, 67), (0, 10)]),
  (⟨"PostRoom$Script", "readRow", "()Z"⟩, prog_9_method_14_code, 1, some .boolean, (1, 9, 0), [(6, 80), (1, 10), (6, 78), (6, 79)]),
  (⟨"PostRoom$Script", "readSpot", "(I)Z"⟩, prog_9_method_16_code, 2, some .boolean, (1, 9, 1), [(6, 72), (1, 10), (6, 71), (0, 11)]),
  (⟨"PostRoom$Script", "readSlide", "(I)Z"⟩, prog_9_method_10_code, 2, some .boolean, (1, 9, 1), [(6, 84), (1, 10), (6, 82), (6, 83)]),
  (⟨"PostRoom$Script", "readBlock", "(I)Z"⟩, prog_9_method_13_code, 4, some .boolean, (1, 9, 1), [(6, 88), (1, 10), (6, 87), (0, 13)]),
  (⟨"PostRoom$Script", "readTry", "(I)Z"⟩, prog_9_method_11_code, 3, some .boolean, (1, 9, 1), [(6, 92), (1, 10), (6, 91), (0, 14)]),
  (⟨"PostRoom$Script", "fails", "(I)Z"⟩, prog_9_method_5_code, 2, some .boolean, (1, 9, 1), [(6, 39), (1, 10), (6, 37), (6, 38)]),
  (⟨"PostRoom$Machine", "peek", "()I"⟩, prog_6_method_6_code, 1, some .int, (1, 6, 0), [(6, 113), (1, 9), (6, 111), (6, 112)]),
  (⟨"PostRoom$Machine", "begins", "()Z"⟩, prog_6_method_7_code, 1, some .boolean, (1, 6, 0), [(6, 121), (1, 9), (6, 119), (6, 120)]),
  (⟨"PostRoom$Script", "valueAt", "(I)I"⟩, prog_9_method_3_code, 2, some .int, (1, 9, 1), [(6, 126), (1, 10), (6, 124), (6, 125)]),
  (⟨"PostRoom$Machine", "setNumber", "(II)V"⟩, prog_6_method_10_code, 5, none, (1, 6, 2), [(6, 130), (1, 9), (6, 128), (6, 129)]),
  (⟨"PostRoom$Machine", "setHand", "(II)V"⟩, prog_6_method_11_code, 4, none, (1, 6, 2), [(6, 225), (1, 9), (6, 223), (6, 224)]),
  (⟨"PostRoom$Machine", "make", "(I)V"⟩, prog_6_method_12_code, 6, none, (1, 6, 1), [(6, 229), (1, 9), (6, 227), (6, 228)]),
  (⟨"PostRoom$Machine", "drop", "(I)V"⟩, prog_6_method_14_code, 3, none, (1, 6, 1), [(6, 238), (1, 9), (6, 236), (6, 237)]),
  (⟨"PostRoom$Machine", "same", "(I)V"⟩, prog_6_method_15_code, 4, none, (1, 6, 1), [(7, 2), (1, 9), (7, 0), (7, 1)]),
  (⟨"PostRoom$Machine", "put", "(I)V"⟩, prog_6_method_18_code, 8, none, (1, 6, 1), [(7, 6), (1, 9), (7, 4), (7, 5)]),
  (⟨"PostRoom$Machine", "lay", "(I)V"⟩, prog_6_method_21_code, 7, none, (1, 6, 1), [(7, 14), (1, 9), (7, 12), (7, 13)]),
  (⟨"PostRoom$Machine", "slide", "(I)V"⟩, prog_6_method_22_code, 10, none, (1, 6, 1), [(7, 22), (1, 9), (7, 20), (7, 21)]),
  (⟨"PostRoom$Machine", "bagItem", "(I)V"⟩, prog_6_method_25_code, 5, none, (1, 6, 1), [(7, 35), (1, 9), (7, 33), (7, 34)]),
  (⟨"PostRoom$Machine", "refuseOwn", "(I)V"⟩, prog_6_method_26_code, 4, none, (1, 6, 1), [(7, 41), (1, 9), (7, 39), (7, 40)]),
  (⟨"PostRoom$Machine", "choose", "(I)V"⟩, prog_6_method_30_code, 3, none, (1, 6, 1), [(7, 45), (1, 9), (7, 44), (0, 29)]),
  (⟨"PostRoom$Machine", "repeat", "(I)V"⟩, prog_6_method_31_code, 5, none, (1, 6, 1), [(7, 57), (1, 9), (7, 56), (0, 31)]),
  (⟨"PostRoom$Machine", "attempt", "(I)V"⟩, prog_6_method_32_code, 6, none, (1, 6, 1), [(7, 61), (1, 9), (7, 60), (0, 32)]),
  (⟨"jdk/internal/util/Preconditions", "checkIndex", "(IILjava/util/function/BiFunction;)I"⟩, prog_44_method_11_code, 3, some .int, (0, 0, 3), [(3, 52), (1, 14), (3, 51)]),
  (⟨"java/lang/Math", "abs", "(I)I"⟩, prog_24_method_59_code, 1, some .int, (0, 0, 1), [(5, 12), (1, 16), (5, 11)]),
  (⟨"PostRoom$Service", "byRule", "(IJII)J"⟩, prog_10_method_4_code, 8, some .long, (1, 10, 4), [(7, 202), (1, 24), (7, 200), (7, 201)]),
  (⟨"java/util/ArrayList", "add", "(Ljava/lang/Object;[Ljava/lang/Object;I)V"⟩, prog_35_method_24_code, 4, none, (1, 1, 3), [(3, 150), (1, 8), (3, 149), (0, 0)]),
  (⟨"java/util/AbstractCollection", "<init>", "()V"⟩, prog_33_method_1_code, 1, none, (2, 0, 0), [(1, 141), (1, 6), (1, 140)]),
  (⟨"java/util/Arrays", "copyOf", "([II)[I"⟩, prog_36_method_123_code, 3, some (.array .int), (0, 0, 2), [(4, 30), (1, 21), (4, 29)]),
  (⟨"PostRoom$Book", "readRule", "(LPostRoom$Service;II)Z"⟩, prog_2_method_26_code, 4, some .boolean, (1, 2, 3), [(4, 112), (1, 5), (4, 110), (4, 111)]),
  (⟨"java/lang/String", "indexOf", "(II)I"⟩, prog_26_method_80_code, 3, some .int, (1, 15, 2), [(2, 195), (1, 12), (2, 193), (2, 194)])]
def tM_11 : List MR := [(⟨"PostRoom$Finder", "unpack", "(JI)I"⟩, prog_4_method_6_code, 8, some .int, (1, 4, 2), [(4, 221), (1, 3), (4, 219), (4, 220)]),
  (⟨"PostRoom$Finder", "farness", "([III)I"⟩, prog_4_method_12_code, 8, some .int, (1, 4, 3), [(5, 9), (1, 3), (5, 7), (5, 8)]),
  (⟨"PostRoom$Finder", "wrongDigits", "(I)I"⟩, prog_4_method_11_code, 4, some .int, (1, 4, 1), [(5, 22), (1, 3), (5, 20), (5, 21)]),
  (⟨"PostRoom$Item", "times", "(II)I"⟩, prog_5_method_7_code, 4, some .int, (0, 0, 2), [(5, 49), (1, 30), (5, 48)]),
  (⟨"PostRoom$Item", "inverse", "(I)I"⟩, prog_5_method_8_code, 2, some .int, (0, 0, 1), [(5, 55), (1, 30), (5, 54)]),
  (⟨"PostRoom$Script", "readSum", "(I)Z"⟩, prog_9_method_18_code, 3, some .boolean, (1, 9, 1), [(6, 52), (1, 10), (6, 51), (0, 7)]),
  (⟨"PostRoom$Script", "readUnit", "(I)Z"⟩, prog_9_method_21_code, 3, some .boolean, (1, 9, 1), [(6, 60), (1, 10), (6, 59), (0, 9)]),
  (⟨"PostRoom$Script", "readRefusal", "()Z"⟩, prog_9_method_12_code, 1, some .boolean, (1, 9, 0), [(6, 96), (1, 10), (6, 94), (6, 95)]),
  (⟨"PostRoom$Script", "kindAt", "(I)I"⟩, prog_9_method_2_code, 2, some .int, (1, 9, 1), [(6, 117), (1, 10), (6, 115), (6, 116)]),
  (⟨"PostRoom$Machine", "expression", "(I)J"⟩, prog_6_method_34_code, 8, some .long, (1, 6, 1), [(6, 134), (1, 9), (6, 133), (0, 16)]),
  (⟨"PostRoom$Machine", "isGoing", "()Z"⟩, prog_6_method_5_code, 1, some .boolean, (1, 6, 0), [(6, 166), (1, 9), (6, 164), (6, 165)]),
  (⟨"PostRoom$Machine", "itemTold", "(I)I"⟩, prog_6_method_45_code, 4, some .int, (1, 6, 1), [(6, 198), (1, 9), (6, 197), (0, 27)]),
  (⟨"PostRoom$Machine", "trayTold", "(I)I"⟩, prog_6_method_39_code, 4, some .int, (1, 6, 1), [(6, 162), (1, 9), (6, 161), (0, 22)]),
  (⟨"PostRoom$Machine", "refuse", "(I)V"⟩, prog_6_method_8_code, 2, none, (1, 6, 1), [(6, 171), (1, 9), (6, 169), (6, 170)]),
  (⟨"PostRoom$Machine", "newRow", "(III)V"⟩, prog_6_method_13_code, 5, none, (1, 6, 3), [(6, 233), (1, 9), (6, 231), (6, 232)]),
  (⟨"PostRoom$Machine", "spotTold", "(I)J"⟩, prog_6_method_16_code, 4, some .long, (1, 6, 1), [(6, 187), (1, 9), (6, 186), (0, 26)]),
  (⟨"PostRoom$Machine", "arenaPlace", "(IJZ)I"⟩, prog_6_method_17_code, 5, some .int, (1, 6, 3), [(6, 191), (1, 9), (6, 189), (6, 190)]),
  (⟨"PostRoom$Machine", "kept", "(IJ)J"⟩, prog_6_method_19_code, 3, some .long, (0, 0, 2), [(7, 9), (1, 9), (7, 8)]),
  (⟨"PostRoom$Machine", "fitsRow", "(IJ)Z"⟩, prog_6_method_20_code, 4, some .boolean, (1, 6, 2), [(7, 18), (1, 9), (7, 16), (7, 17)]),
  (⟨"PostRoom$Machine", "hasPart", "(IJJ)Z"⟩, prog_6_method_23_code, 6, some .boolean, (1, 6, 3), [(7, 26), (1, 9), (7, 24), (7, 25)]),
  (⟨"PostRoom$Machine", "slideRow", "(IIII)V"⟩, prog_6_method_24_code, 6, none, (1, 6, 4), [(7, 30), (1, 9), (7, 28), (7, 29)]),
  (⟨"PostRoom$Machine", "doBlock", "(I)V"⟩, prog_6_method_28_code, 5, none, (1, 6, 1), [(7, 49), (1, 9), (7, 48), (0, 30)]),
  (⟨"PostRoom$Machine", "passBlock", "()V"⟩, prog_6_method_29_code, 1, none, (1, 6, 0), [(7, 53), (1, 9), (7, 51), (7, 52)]),
  (⟨"PostRoom$Machine", "doAlways", "(I)V"⟩, prog_6_method_33_code, 5, none, (1, 6, 1), [(7, 65), (1, 9), (7, 64), (0, 33)]),
  (⟨"java/lang/Math", "max", "(JJ)J"⟩, prog_24_method_66_code, 4, some .long, (0, 0, 2), [(7, 205), (1, 16), (7, 204)]),
  (⟨"java/util/ArrayList", "grow", "()[Ljava/lang/Object;"⟩, prog_35_method_7_code, 1, some (.array (.object "java/lang/Object")), (1, 1, 0), [(3, 154), (1, 8), (3, 153), (0, 1)]),
  (⟨"java/lang/StringLatin1", "indexOf", "([BIII)I"⟩, prog_27_method_22_code, 4, some .int, (0, 0, 4), [(2, 212), (1, 13), (2, 211)]),
  (⟨"PostRoom$Finder", "fillLine", "([IIII)V"⟩, prog_4_method_13_code, 10, none, (1, 4, 4), [(5, 16), (1, 3), (5, 14), (5, 15)]),
  (⟨"PostRoom$Script", "readProduct", "(I)Z"⟩, prog_9_method_19_code, 3, some .boolean, (1, 9, 1), [(6, 56), (1, 10), (6, 55), (0, 8)]),
  (⟨"PostRoom$Script", "beginsUnit", "()Z"⟩, prog_9_method_20_code, 1, some .boolean, (1, 9, 0), [(6, 64), (1, 10), (6, 62), (6, 63)]),
  (⟨"PostRoom$Machine", "sum", "(I)J"⟩, prog_6_method_35_code, 8, some .long, (1, 6, 1), [(6, 138), (1, 9), (6, 137), (0, 17)]),
  (⟨"PostRoom$Machine", "isTooDeep", "(I)Z"⟩, prog_6_method_27_code, 2, some .boolean, (1, 6, 1), [(6, 150), (1, 9), (6, 148), (6, 149)])]
def tM_12 : List MR := [(⟨"PostRoom$Machine", "unit", "(I)J"⟩, prog_6_method_37_code, 4, some .long, (1, 6, 1), [(6, 146), (1, 9), (6, 145), (0, 19)]),
  (⟨"PostRoom$Machine", "onShelf", "(J)I"⟩, prog_6_method_46_code, 4, some .int, (1, 6, 1), [(6, 202), (1, 9), (6, 200), (6, 201)]),
  (⟨"PostRoom$Machine", "inRow", "(I)I"⟩, prog_6_method_47_code, 3, some .int, (1, 6, 1), [(6, 207), (1, 9), (6, 206), (0, 28)]),
  (⟨"PostRoom$Machine", "ofSort", "(II)I"⟩, prog_6_method_48_code, 3, some .int, (1, 6, 2), [(6, 211), (1, 9), (6, 209), (6, 210)]),
  (⟨"PostRoom$Item", "isOf", "(I)Z"⟩, prog_5_method_4_code, 2, some .boolean, (1, 5, 1), [(6, 215), (1, 30), (6, 213), (6, 214)]),
  (⟨"java/util/ArrayList", "grow", "(I)[Ljava/lang/Object;"⟩, prog_35_method_6_code, 4, some (.array (.object "java/lang/Object")), (1, 1, 1), [(3, 158), (1, 8), (3, 157), (0, 2)]),
  (⟨"java/lang/StringLatin1", "canEncode", "(I)Z"⟩, prog_27_method_4_code, 1, some .boolean, (0, 0, 1), [(2, 215), (1, 13), (2, 214)]),
  (⟨"java/lang/Math", "max", "(II)I"⟩, prog_24_method_65_code, 2, some .int, (0, 0, 2), [(2, 218), (1, 16), (2, 217)]),
  (⟨"java/lang/StringLatin1", "indexOfChar", "([BIII)I"⟩, prog_27_method_23_code, 6, some .int, (0, 0, 4), [(2, 224), (1, 13), (2, 223)]),
  (⟨"PostRoom$Machine", "product", "(I)J"⟩, prog_6_method_36_code, 8, some .long, (1, 6, 1), [(6, 142), (1, 9), (6, 141), (0, 18)]),
  (⟨"PostRoom$Machine", "inBrackets", "(I)J"⟩, prog_6_method_38_code, 4, some .long, (1, 6, 1), [(6, 154), (1, 9), (6, 153), (0, 20)]),
  (⟨"PostRoom$Machine", "lengthTold", "(I)J"⟩, prog_6_method_40_code, 3, some .long, (1, 6, 1), [(6, 158), (1, 9), (6, 157), (0, 21)]),
  (⟨"PostRoom$Machine", "rowTold", "(I)J"⟩, prog_6_method_41_code, 3, some .long, (1, 6, 1), [(6, 175), (1, 9), (6, 174), (0, 23)]),
  (⟨"PostRoom$Machine", "numberTold", "(I)J"⟩, prog_6_method_42_code, 3, some .long, (1, 6, 1), [(6, 179), (1, 9), (6, 178), (0, 24)]),
  (⟨"PostRoom$Machine", "ofItem", "(II)J"⟩, prog_6_method_44_code, 4, some .long, (1, 6, 2), [(6, 219), (1, 9), (6, 217), (6, 218)]),
  (⟨"PostRoom$Machine", "whereTold", "(IZ)I"⟩, prog_6_method_43_code, 6, some .int, (1, 6, 2), [(6, 183), (1, 9), (6, 182), (0, 25)]),
  (⟨"jdk/internal/util/ArraysSupport", "newLength", "(III)I"⟩, prog_43_method_27_code, 4, some .int, (0, 0, 3), [(3, 161), (1, 20), (3, 160)]),
  (⟨"java/util/Arrays", "copyOf", "([Ljava/lang/Object;I)[Ljava/lang/Object;"⟩, prog_36_method_119_code, 2, some (.array (.object "java/lang/Object")), (0, 0, 2), [(3, 169), (1, 21), (3, 168)]),
  (⟨"java/util/Arrays", "copyOf", "([Ljava/lang/Object;ILjava/lang/Class;)[Ljava/lang/Object;"⟩, prog_36_method_120_code, 4, some (.array (.object "java/lang/Object")), (0, 0, 3), [(3, 193), (1, 21), (3, 192)])]
def tMs : List (List MR) := [tM_0, tM_1, tM_2, tM_3, tM_4, tM_5, tM_6, tM_7, tM_8, tM_9, tM_10, tM_11, tM_12]
noncomputable def mG (y : Nat) : MR := nthD (nthD tMs (y / 32) []) (y % 32) (⟨"", "", ""⟩, ⟨#[]⟩, 0, none, (3, 0, 0), [])
noncomputable def mY (y : Nat) : MethodName := (mG y).1
noncomputable def mB (y : Nat) : ByteArray := (mG y).2.1
noncomputable def mL (y : Nat) : Nat := (mG y).2.2.1
noncomputable def mT (y : Nat) : Option FieldType := (mG y).2.2.2.1
noncomputable def mK (y : Nat) : Nat × Nat × Nat := (mG y).2.2.2.2.1
def exS : List (String × Nat × Nat) := [("PostRoom$Tape", 44, 0), ("PostRoom$Book", 99, 1), ("PostRoom$Book", 203, 2), ("PostRoom$Book", 212, 3), ("PostRoom$Book", 217, 4), ("PostRoom$Book", 222, 5), ("PostRoom$Book", 186, 6), ("PostRoom$Book", 194, 7), ("PostRoom$Book", 199, 8), ("PostRoom$Book", 232, 9), ("PostRoom$Book", 235, 10), ("PostRoom$Book", 241, 11), ("PostRoom$Book", 256, 12), ("PostRoom$Book", 281, 13), ("PostRoom$Book", 285, 14), ("PostRoom$Book", 289, 15), ("PostRoom$Book", 274, 16), ("PostRoom$Book", 277, 17), ("PostRoom$Script", 48, 18), ("PostRoom", 110, 19), ("PostRoom", 119, 20), ("PostRoom", 157, 21), ("PostRoom", 212, 22), ("PostRoom", 218, 23), ("PostRoom", 220, 24), ("PostRoom", 231, 25), ("PostRoom", 239, 26), ("PostRoomModel", 13, 27)]
def exZ : List (String × String × String × (Int32 ⊕ Nat)) := [("PostRoom$Item", "POWERS", "[I", .inr 60), ("java/util/ArrayList", "DEFAULTCAPACITY_EMPTY_ELEMENTDATA", "[Ljava/lang/Object;", .inr 61), ("java/lang/String", "COMPACT_STRINGS", "Z", .inl 1), ("jdk/internal/util/Preconditions", "SIOOBE_FORMATTER", "Ljava/util/function/BiFunction;", .inr 64)]
/-- of a method's row: what needs no word -/
def okR (r : MR) : Bool := match r with
  | (y, _, ml, rt, (k, t, na), _) => decide (ml ≤ 60) && decide ((parseMethodDescriptor y.desc).map (fun d => d.parameters.length) = some na) && plainFor y &&
    (match k with
    | 0 => true
    | 1 => decide (1 ≤ t) && decide (t ≤ 15)
    | _ => decide (y.name = "<init>") && decide (rt = none))
/-- .. its words -/
def ndR (r : MR) : List Cond := match r with
  | (y, b, ml, rt, (k, t, _), _) => [.code y b ml rt, .initialized y.cls] ++ (match k with
    | 0 => [.static y]
    | 1 => [.instanceMethod y, .selects (cR t) y y]
    | _ => [.instanceMethod y])
def clR (r : MR) : Bool := decide (r.1.cls ≠ "java/lang/invoke/MethodHandle") && decide (r.1.cls ≠ "java/lang/invoke/VarHandle")
abbrev CR : Type := Nat × CI × List (Nat × Nat)
/-- a row of code: its place, its instruction, operands, dead locals, words -/
def j0 (pc : Nat) (i : Instr) (d : List Bool) : CR := (pc, (i, (0, 0, 0), [], 0, d), [])
def jk (pc : Nat) (i : Instr) (v : Int32) (d : List Bool) : CR := (pc, (i, (0, 0, 0), [(v, 0)], 0, d), [])
def jj (pc : Nat) (i : Instr) (a : Nat) (d : List Bool) : CR := (pc, (i, (a, 0, 0), [], 0, d), [])
def jw (pc : Nat) (i : Instr) (a b c : Nat) (d : List Bool) (ws : List (Nat × Nat)) : CR := (pc, (i, (a, b, c), [], 0, d), ws)
def jx (pc : Nat) (i : Instr) (a b c : Nat) (tb : List (Int32 × Nat)) (lc : Int64) (d : List Bool) (ws : List (Nat × Nat)) : CR := (pc, (i, (a, b, c), tb, lc, d), ws)
noncomputable def lkC (l : List CR) (pc : Nat) : CI := List.rec (motive := fun _ => CI) (.nop, (0, 0, 0), [], 0, []) (fun a _ ih => bif Nat.beq a.1 pc then a.2.1 else ih) l
theorem tM_a0 : tM_0.all okR = true := by decide +kernel
theorem tM_b0 : tM_0.map (fun r => (ndR r).map some) = tM_0.map (fun r => r.2.2.2.2.2.map wt) := rfl
theorem tM_c0 : tM_0.all clR = true := by decide +kernel
theorem tM_d0 : tM_0.all (fun r => (ndR r).all goodWord) = true := by decide +kernel
theorem tM_a1 : tM_1.all okR = true := by decide +kernel
theorem tM_b1 : tM_1.map (fun r => (ndR r).map some) = tM_1.map (fun r => r.2.2.2.2.2.map wt) := rfl
theorem tM_c1 : tM_1.all clR = true := by decide +kernel
theorem tM_d1 : tM_1.all (fun r => (ndR r).all goodWord) = true := by decide +kernel
theorem tM_a2 : tM_2.all okR = true := by decide +kernel
theorem tM_b2 : tM_2.map (fun r => (ndR r).map some) = tM_2.map (fun r => r.2.2.2.2.2.map wt) := rfl
theorem tM_c2 : tM_2.all clR = true := by decide +kernel
theorem tM_d2 : tM_2.all (fun r => (ndR r).all goodWord) = true := by decide +kernel
theorem tM_a3 : tM_3.all okR = true := by decide +kernel
theorem tM_b3 : tM_3.map (fun r => (ndR r).map some) = tM_3.map (fun r => r.2.2.2.2.2.map wt) := rfl
theorem tM_c3 : tM_3.all clR = true := by decide +kernel
theorem tM_d3 : tM_3.all (fun r => (ndR r).all goodWord) = true := by decide +kernel
theorem tM_a4 : tM_4.all okR = true := by decide +kernel
theorem tM_b4 : tM_4.map (fun r => (ndR r).map some) = tM_4.map (fun r => r.2.2.2.2.2.map wt) := rfl
theorem tM_c4 : tM_4.all clR = true := by decide +kernel
theorem tM_d4 : tM_4.all (fun r => (ndR r).all goodWord) = true := by decide +kernel
theorem tM_a5 : tM_5.all okR = true := by decide +kernel
theorem tM_b5 : tM_5.map (fun r => (ndR r).map some) = tM_5.map (fun r => r.2.2.2.2.2.map wt) := rfl
theorem tM_c5 : tM_5.all clR = true := by decide +kernel
theorem tM_d5 : tM_5.all (fun r => (ndR r).all goodWord) = true := by decide +kernel
theorem tM_a6 : tM_6.all okR = true := by decide +kernel
theorem tM_b6 : tM_6.map (fun r => (ndR r).map some) = tM_6.map (fun r => r.2.2.2.2.2.map wt) := rfl
theorem tM_c6 : tM_6.all clR = true := by decide +kernel
theorem tM_d6 : tM_6.all (fun r => (ndR r).all goodWord) = true := by decide +kernel
theorem tM_a7 : tM_7.all okR = true := by decide +kernel
theorem tM_b7 : tM_7.map (fun r => (ndR r).map some) = tM_7.map (fun r => r.2.2.2.2.2.map wt) := rfl
theorem tM_c7 : tM_7.all clR = true := by decide +kernel
theorem tM_d7 : tM_7.all (fun r => (ndR r).all goodWord) = true := by decide +kernel
theorem tM_a8 : tM_8.all okR = true := by decide +kernel
theorem tM_b8 : tM_8.map (fun r => (ndR r).map some) = tM_8.map (fun r => r.2.2.2.2.2.map wt) := rfl
theorem tM_c8 : tM_8.all clR = true := by decide +kernel
theorem tM_d8 : tM_8.all (fun r => (ndR r).all goodWord) = true := by decide +kernel
theorem tM_a9 : tM_9.all okR = true := by decide +kernel
theorem tM_b9 : tM_9.map (fun r => (ndR r).map some) = tM_9.map (fun r => r.2.2.2.2.2.map wt) := rfl
theorem tM_c9 : tM_9.all clR = true := by decide +kernel
theorem tM_d9 : tM_9.all (fun r => (ndR r).all goodWord) = true := by decide +kernel
theorem tM_a10 : tM_10.all okR = true := by decide +kernel
theorem tM_b10 : tM_10.map (fun r => (ndR r).map some) = tM_10.map (fun r => r.2.2.2.2.2.map wt) := rfl
theorem tM_c10 : tM_10.all clR = true := by decide +kernel
theorem tM_d10 : tM_10.all (fun r => (ndR r).all goodWord) = true := by decide +kernel
theorem tM_a11 : tM_11.all okR = true := by decide +kernel
theorem tM_b11 : tM_11.map (fun r => (ndR r).map some) = tM_11.map (fun r => r.2.2.2.2.2.map wt) := rfl
theorem tM_c11 : tM_11.all clR = true := by decide +kernel
theorem tM_d11 : tM_11.all (fun r => (ndR r).all goodWord) = true := by decide +kernel
theorem tM_a12 : tM_12.all okR = true := by decide +kernel
theorem tM_b12 : tM_12.map (fun r => (ndR r).map some) = tM_12.map (fun r => r.2.2.2.2.2.map wt) := rfl
theorem tM_c12 : tM_12.all clR = true := by decide +kernel
theorem tM_d12 : tM_12.all (fun r => (ndR r).all goodWord) = true := by decide +kernel
