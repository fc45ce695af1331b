/-! ===== FOUND, MENDED, ITEM ===== -/
/-- what is told of an item -/
def itA (s : St) (i : Nat) (w : Int32) : Int32 :=
  if w = nI 0 then nI (iN s 0 i) else if w = nI 1 then nI (iN s 1 i) else if w = nI 2 then nI (iN s 2 i) else if w = nI 3 then oI (iP s i) else if w = nI 4 then nI (iN s 4 i) else
  if w = nI 5 then nI (iN s 5 i) else if w = nI 6 then nI (iN s 6 i) else if w = nI 7 then oI (iC s i) else if w = nI 8 then iM s i else if w = nI 9 then nI (iN s 7 i) else nI (iN s 8 i)
section ITM
variable {d : Nat} {h : AH} {b : Nat} {bk : Bk} {G Cp : Nat → Nat → Nat} {s : St}
theorem c_told (hs : Sh h) (C1 : CS1 h bk s G) {i : Nat} (hi : i < zN s 2) (x : Int32) : E (d + 1) 225 [.ref (G 4 i), .int x] h = some (some (.int (itA s i x)), h) := by
  obtain ⟨b1, b2, b3, b4, b5, b6, b7, b8, b9, b10, b11, b12, b13, b14, b15, b16⟩ := C1.2.2.2 i hi
  rw [t_225 hs]
  simp only [ck_ok b1, b4, b5, b6, b8, b9, b10, b11, b12, b13, b14, b15]
  unfold itA
  repeat' split
  all_goals rfl
theorem c_item (C : CSt h b bk s G Cp) (w : WS bk s) {i k : Nat} (hi : i < zN s 2) (hk : k ≤ 10) : E (d + 5) 28 [.ref 100, .int (nI i), .int (nI k)] h = some (some (.int (itA s i (nI k))), h) := by
  obtain ⟨hs, hw, hb, B, C1, C2⟩ := C
  have w1 := w.1
  have A := C2.2.2 0 (Or.inl (by omega)) (Or.inl (by omega))
  have e1 : lX s 0 = List.range (zN s 2) := rfl
  have e2 : lo G 0 = 164 := rfl
  rw [e1, e2, List.length_range] at A
  have hg : (List.range (zN s 2)).getD i 0 = i := by
    rw [getD_ix (by rw [List.length_range]; exact hi), List.getElem_range]
  have g := al_get (d := d + 1) hs A hi
  rw [hg] at g
  have c5 := (C1.2.2.2 i hi).1
  rw [t_28 hs, t_223 hs, if_neg (nI_nlt (by omega) (by omega)), al_size hs A, cK_v, t_223_12 hs, if_pos (nI_lt hi (by omega)), cK_v, t_28_8 hs, if_neg (by decide), if_neg (nI_nlt (by omega) (by omega)), if_neg (nI_nlt (by omega) (by omega)), g, cK_v, t_28_42 hs, ck_ok c5, ck_ok c5, c_told hs C1 hi, cK_v, t_28_49 hs]
theorem r_item (hs : Sh h) (w : WS bk s) (R : RS1 h s) {i k : Nat} (hi : i < zN s 2) (hk : k ≤ 10) : E (d + 1) 181 [.ref 189, .int (nI i), .int (nI k)] h = some (some (.int (itA s i (nI k))), sI h 3586 189 (nI 0)) := by
  have w1 := w.1
  obtain ⟨a1, a2, a3, a4, a5, a6, a7, a8, a9, a10, a11, a12⟩ := R.2.2.2.2 i hi
  have g : ∀ x, gd (nI i) 200 x = x := fun x => gd_nI (by omega) (by decide)
  rw [t_181 hs, if_neg (nI_nlt (by omega) (by omega)), R.1, if_pos (nI_lt hi (by omega)), if_neg (nI_nlt (by omega) (by omega)), if_neg (nI_nlt (by omega) (by omega)), if_neg (by decide)]
  simp only [g, ix_nI (show i < 2 ^ 31 by omega), a1, a2, a3, a5, a6, a7, a8, a9, a10, a11, a12]
  unfold itA
  repeat' split
  all_goals rfl
/-- what was found and mended last -/
def CF (h : AH) (fd ff md : Int32) : Prop := gI h 3335 100 = fd ∧ gI h 3336 100 = ff ∧ gI h 3337 100 = md
def RF (h : AH) (fd ff md : Int32) : Prop := gI h 3644 189 = fd ∧ gI h 3645 189 = ff ∧ gI h 3653 189 = md
def fdA (fd ff x : Int32) : Int32 := if x = nI 0 then fd else if x = nI 1 then ff else -1
theorem c_found (hs : Sh h) {fd ff md : Int32} (F : CF h fd ff md) (x : Int32) : E (d + 1) 6 [.ref 100, .int x] h = some (some (.int (fdA fd ff x)), h) := by
  rw [t_6 hs, F.1, F.2.1]
  unfold fdA
  repeat' split
  all_goals rfl
theorem r_found (hs : Sh h) {fd ff md : Int32} (F : RF h fd ff md) (x : Int32) : E (d + 1) 79 [.ref 189, .int x] h = some (some (.int (fdA fd ff x)), sI h 3586 189 (nI 0)) := by
  rw [t_79 hs, F.1, F.2.1]
  unfold fdA
  repeat' split
  all_goals rfl
theorem c_mended (hs : Sh h) {fd ff md : Int32} (F : CF h fd ff md) : E (d + 1) 8 [.ref 100] h = some (some (.int md), h) := by
  rw [t_8 hs, F.2.2]
theorem r_mended (hs : Sh h) {fd ff md : Int32} (F : RF h fd ff md) : E (d + 1) 96 [.ref 189] h = some (some (.int md), sI h 3586 189 (nI 0)) := by
  rw [t_96 hs, F.2.2]
end ITM
