/-! ===== book AS A CALL (reference) ===== -/
def bk0 : Bk := fun _ _ => 0
theorem WX.z : WX bk0 := by
  unfold WX WB WN bk0
  refine ⟨⟨⟨by decide, by decide, by decide, by decide, by decide⟩, ?_, ?_, ?_, ?_, ?_⟩, ⟨?_, ?_, ?_⟩, ?_, ?_⟩ <;> intro i <;> intros <;> omega
/-- what a tape says as a book: the fault, the book -/
def bookS (t : Tp) : Nat × Bk := bkS t (t.1 + 1) 0 bk0
abbrev KBk : List Nat := [3586, 3590, 3591, 3595, 3596, 3598]
def XBk : List Nat := 194 :: 195 :: 196 :: XB
theorem xbk {x : Nat} : x ∈ XBk ↔ 194 ≤ x ∧ x ≤ 232 := by
  unfold XBk
  rw [List.mem_cons, List.mem_cons, List.mem_cons, xb]; omega
section RBO
variable {d : Nat} {h : AH} {t : Tp} {w0 : Nat} {b0 : Bk}
theorem r_book (hs : Sh h) (K : KR h) (T : RT h t) (hw : w0 ≤ 1) (ew : gI h 3597 189 = nI w0) (B : RB h w0 b0) (W : WB b0) : ∃ h', E (d + 7) 35 [.ref 189] h = some (some (.int (nI (bookS t).1)), h') ∧ gI h' 3586 189 = nI 0 ∧ RT h' (0, t.2) ∧ (bookS t).1 < 100000 ∧ ((bookS t).1 ≠ 0 → RB h' w0 b0 ∧ Fr KBk XBk h h') ∧ ((bookS t).1 = 0 → gI h' 3597 189 = nI (1 - w0) ∧ RB h' (1 - w0) (bookS t).2 ∧ WX (bookS t).2 ∧ RZ0 h' ∧ Fr (3597 :: KBk ++ KZ) (XBk ++ XZ) h h') := by
  have F1 : Fr KBk [] h (sI h 3586 189 (nI 0)) := Fr.rfl.sI (by decide)
  have T1 : RT (sI h 3586 189 (nI 0)) t := T
  have F2 : Fr KBk [] h (sI (sI (sI h 3586 189 (nI 0)) 3591 189 (gI (sI h 3586 189 (nI 0)) 3590 189)) 3590 189 (nI 0)) := (F1.sI (by decide)).sI (by decide)
  have hs2 := F2.sh hs
  have T2 := RT.tk T1
  obtain ⟨h3, M, a1, a2, a3, a4, a5⟩ := r_cut (d := d + 3) hs2 T2
  have hs3 := a2.sh hs2
  have F3 : Fr KBk [194, 195, 196] h h3 := (F2.wk (fun _ q => q) (fun _ q => absurd q List.not_mem_nil)).trans (a2.wk (by decide) (fun _ q => q))
  have ew3 : gI h3 3597 189 = nI w0 := by rw [F3.I (by decide)]; exact ew
  obtain ⟨w, hwE⟩ : ∃ w, w = 1 - w0 := ⟨_, rfl⟩
  have hw1 : w ≤ 1 := by omega
  have F4 : Fr KBk [194, 195, 196] h (sI h3 3598 189 (nI w)) := F3.sI (by decide)
  have hs4 := F4.sh hs
  have R4 : RQ (sI h3 3598 189 (nI w)) t M 0 0 := ⟨a3.fr (Fr.rfl.sI (List.mem_singleton.mpr rfl) : Fr [3598] [] h3 (sI h3 3598 189 (nI w))) (by decide) (by decide) (by decide), by rw [gI_k (by decide)]; exact a5, by decide, 0, by rw [gI_k (by decide)]; exact a4, Nat.zero_le _, fun _ => rfl⟩
  have I4 : RIb (sI h3 3598 189 (nI w)) t M w 0 0 (sI h3 3598 189 (nI w)) := ⟨hs4, K.fr F4 (by decide), R4, gI_s, RGb.rfl⟩
  have hz : ∀ x, x = 197 ∨ x = 202 ∨ x = 205 ∨ x = 216 ∨ x = 225 → hzA x * w ≤ w ∧ w < hzA x * w + hzA x := fun x hx => by
    unfold hzA; rw [if_pos hx]; omega
  have I5 := ((((I4.sA (x := 197) (i := w) (v := nI 0) (by decide) (hz _ (by decide))).sA (x := 202) (i := w) (v := nI 0) (by decide) (hz _ (by decide))).sA (x := 205) (i := w) (v := nI 0) (by decide) (hz _ (by decide))).sA (x := 216) (i := w) (v := nI 0) (by decide) (hz _ (by decide))).sA (x := 225) (i := w) (v := nI 0) (by decide) (hz _ (by decide))
  have B5 : RB (sA (sA (sA (sA (sA (sI h3 3598 189 (nI w)) 197 w (nI 0)) 202 w (nI 0)) 205 w (nI 0)) 216 w (nI 0)) 225 w (nI 0)) w bk0 := by
    unfold RB bk0
    refine ⟨⟨?_, ?_, ?_, ?_, ?_⟩, fun i hi => absurd hi (by omega), fun i hi => absurd hi (by omega), fun i hi => absurd hi (by omega), fun i hi => absurd hi (by omega), fun i hi => absurd hi (by omega)⟩
    · rw [gA_k (by decide), gA_k (by decide), gA_k (by decide), gA_k (by decide), gA_s, up1_s]
    · rw [gA_k (by decide), gA_k (by decide), gA_s, up1_s]
    · rw [gA_k (by decide), gA_s, up1_s]
    · rw [gA_s, up1_s]
    · rw [gA_k (by decide), gA_k (by decide), gA_k (by decide), gA_s, up1_s]
  have M4 := a3.1
  have e13 : E (d + 7) 35 [.ref 189] h = Q (d + 6) 35 73 [some (.ref 189)] [] (sA (sA (sA (sA (sA (sI h3 3598 189 (nI w)) 197 w (nI 0)) 202 w (nI 0)) 205 w (nI 0)) 216 w (nI 0)) 225 w (nI 0)) := by
    rw [t_35 hs, t_36 (F1.sh hs), cK_n, t_35_9 hs2, a1, cK_n, t_35_13 hs3, ew3, pk_sub hw, ← hwE, gd_nI (by omega) (by decide), gd_nI (by omega) (by decide), gd_nI (by omega) (by decide), gd_nI (by omega) (by decide), gd_nI (by omega) (by decide), ix_nI (by omega)]
  obtain ⟨h6, k', I6, o1, o2⟩ := r_bklp (d := d) (M := M) hw1 (t.1 + 1) 0 bk0 (by omega) WX.z I5 B5
  have B3 : RB (sI h3 3598 189 (nI w)) w0 b0 := B.fr F4 (fun x hx => by
    have : ∀ x, x ∈ [194, 195, 196] → x < 197 := by decide
    exact Or.inl (this x hx))
  have B6 : RB h6 w0 b0 := B3.rg I6.2.2.2.2 W ⟨hw, hw1, by omega⟩
  have F6 : Fr KBk XBk h h6 := (F4.wk (fun _ q => q) (fun x q => by
      have : ∀ x, x ∈ [194, 195, 196] → 194 ≤ x ∧ x ≤ 232 := by decide
      exact xbk.mpr (this x q))).trans (I6.2.2.2.2.1.wk (by decide) (fun x q => xbk.mpr (by have := xb.mp q; omega)))
  have z3 : gI h3 3590 189 = nI 0 := by rw [a2.I (by decide), gI_s]
  have g90 : gI h6 3590 189 = nI 0 := by rw [I6.2.2.2.2.1.I (by decide), gI_k (by decide)]; exact z3
  have g86 : gI h6 3586 189 = nI 0 := by rw [I6.2.2.2.2.1.I (by decide), gI_k (by decide), a2.I (by decide), gI_k (by decide), gI_k (by decide), gI_s]
  rw [e13]
  unfold bookS
  by_cases q : (bkS t (t.1 + 1) 0 bk0).1 = 0
  · obtain ⟨p1, p2, p3⟩ := o2 q
    have hs6 := I6.1
    have hs7 : Sh (sI h6 3597 189 (nI w)) := hs6.sI
    obtain ⟨h7, c1, c2, c3⟩ := r_forget (d := d + 4) hs7
    rw [p1, c1, cK_n, t_35_123 (c2.sh hs7), q]
    refine ⟨h7, rfl, ?_, RT.z ?_, by decide, fun z => absurd rfl z, fun _ => ⟨?_, ?_, p3, c3, ?_⟩⟩
    · rw [c2.I (by decide), gI_k (by decide)]; exact g86
    · rw [c2.I (by decide), gI_k (by decide)]; exact g90
    · rw [c2.I (by decide), gI_s, hwE]
    · rw [← hwE]
      have P2 : RB (sI h6 3597 189 (nI w)) w (bkS t (t.1 + 1) 0 bk0).2 := p2
      exact P2.fr c2 (fun x hx => by
        have : ∀ x, x ∈ XZ → 232 < x := by decide
        exact Or.inr (this x hx))
    · have FF : Fr (3597 :: KBk ++ KZ) (XBk ++ XZ) h (sI h6 3597 189 (nI w)) := (F6.wk (fun x q => by
        have : ∀ x, x ∈ KBk → x ∈ 3597 :: KBk ++ KZ := by decide
        exact this x q) (fun x q => List.mem_append_left _ q)).sI (by decide)
      exact FF.trans (c2.wk (fun x q => by
        have : ∀ x, x ∈ KZ → x ∈ 3597 :: KBk ++ KZ := by decide
        exact this x q) (fun x q => List.mem_append_right _ q))
  · have lt := I6.2.2.1.2.2.1
    rw [o1 q]
    exact ⟨h6, rfl, g86, RT.z g90, lt, fun _ => ⟨B6, F6⟩, fun z => absurd z q⟩
end RBO
