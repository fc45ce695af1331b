/-! ===== THE LAW: the reference where a call throws: price, way, bar, item ===== -/
section JJB
variable {d v : Nat} {h : AH} {bk : Bk} {s : St}
theorem r_price_t (hs : Sh h) (W : WB bk) (hv' : v ≤ 1) (hN : gI h 3597 189 = nI v) (B : RB h v bk) {sv f t : Int32} (x : Int32) (q : hv sv (bk 0 2) = none ∨ hv f (bk 0 0) = none ∨ hv t (bk 0 0) = none) : E (d + 3) 80 [.ref 189, .int sv, .int x, .int f, .int t] h = some (some (.int (nI 0)), sI h 3586 189 (nI 1)) := by
  have w0 := W.1.1
  have w2 := W.1.2.2.1
  have c14 : gC h 189 = 14 := by rw [ShC hs (by decide)]; rfl
  have lt : nI 0 < nI 1 := by decide
  rw [t_80 hs, (r_has hs W hv' hN B _).2, cK_v, t_80_6 hs]
  rcases hv_c sv (show bk 0 2 < 2 ^ 31 by omega) with ⟨e1, -⟩ | ⟨j1, -, rfl, e1⟩
  · rw [hb1_n e1, if_pos rfl, ck_ok c14, gI_s, if_pos lt]
  rw [hb1_s e1, if_neg (by decide), (r_has hs W hv' hN B _).1, cK_v, t_80_14 hs]
  rcases hv_c f (show bk 0 0 < 2 ^ 31 by omega) with ⟨e2, -⟩ | ⟨j2, -, rfl, e2⟩
  · rw [hb1_n e2, if_pos rfl, ck_ok c14, gI_s, if_pos lt]
  rw [hb1_s e2, if_neg (by decide), (r_has hs W hv' hN B _).1, cK_v, t_80_23 hs]
  rcases hv_c t (show bk 0 0 < 2 ^ 31 by omega) with ⟨e3, -⟩ | ⟨j3, -, rfl, e3⟩
  · rw [hb1_n e3, if_pos rfl, ck_ok c14, gI_s, if_pos lt]
  · rw [e1, e2, e3] at q
    rcases q with q | q | q <;> cases q
theorem r_way_t (hs : Sh h) (W : WB bk) (hv' : v ≤ 1) (hN : gI h 3597 189 = nI v) (B : RB h v bk) {f t : Int32} (q : hv f (bk 0 0) = none ∨ hv t (bk 0 0) = none) : E (d + 3) 106 [.ref 189, .int f, .int t] h = some (some (.int (nI 0)), sI h 3586 189 (nI 1)) := by
  have w0 := W.1.1
  have c14 : gC h 189 = 14 := by rw [ShC hs (by decide)]; rfl
  have lt : nI 0 < nI 1 := by decide
  rw [t_106 hs, (r_has hs W hv' hN B _).1, cK_v, t_106_6 hs]
  rcases hv_c f (show bk 0 0 < 2 ^ 31 by omega) with ⟨e2, -⟩ | ⟨j2, -, rfl, e2⟩
  · rw [hb1_n e2, if_pos rfl, ck_ok c14, gI_s, if_pos lt]
  rw [hb1_s e2, if_neg (by decide), (r_has hs W hv' hN B _).1, cK_v, t_106_14 hs]
  rcases hv_c t (show bk 0 0 < 2 ^ 31 by omega) with ⟨e3, -⟩ | ⟨j3, -, rfl, e3⟩
  · rw [hb1_n e3, if_pos rfl, ck_ok c14, gI_s, if_pos lt]
  · rw [e2, e3] at q
    rcases q with q | q <;> cases q
theorem r_bar_t (hs : Sh h) (w : WS bk s) (R : RS1 h s) {x y : Int32} (q : hv x (zN s 2) = none ∨ hv y 33 = none) : E (d + 3) 86 [.ref 189, .int x, .int y] h = some (some (.int (nI 0)), sI h 3586 189 (nI 1)) := by
  have w0 := w.1
  have lt : nI 0 < nI 1 := by decide
  rw [t_86 hs]
  rcases hv_c x (show zN s 2 < 2 ^ 31 by omega) with ⟨e1, r⟩ | ⟨j1, l1, rfl, e1⟩
  · rcases r with r | ⟨r1, r2⟩
    · rw [if_pos r, if_pos lt]
    · rw [if_neg r1, R.1, if_neg r2, if_pos lt]
  · rw [if_neg (nI_nlt (by omega) (by omega)), R.1, if_pos (nI_lt l1 (by omega))]
    rcases hv_c y (show 33 < 2 ^ 31 by decide) with ⟨e2, r⟩ | ⟨j2, l2, rfl, e2⟩
    · rcases r with r | ⟨r1, r2⟩
      · rw [if_pos r, if_pos lt]
      · rw [if_neg r1, if_neg r2, if_pos lt]
    · rw [e1, e2] at q
      rcases q with q | q <;> cases q
theorem r_item_t (hs : Sh h) (w : WS bk s) (R : RS1 h s) {x y : Int32} (q : hv x (zN s 2) = none ∨ hv y 11 = none) : E (d + 1) 181 [.ref 189, .int x, .int y] h = some (some (.int (nI 0)), sI h 3586 189 (nI 1)) := by
  have w0 := w.1
  have lt : nI 0 < nI 1 := by decide
  rw [t_181 hs]
  rcases hv_c x (show zN s 2 < 2 ^ 31 by omega) with ⟨e1, r⟩ | ⟨j1, l1, rfl, e1⟩
  · rcases r with r | ⟨r1, r2⟩
    · rw [if_pos r, if_pos lt]
    · rw [if_neg r1, R.1, if_neg r2, if_pos lt]
  · rw [if_neg (nI_nlt (by omega) (by omega)), R.1, if_pos (nI_lt l1 (by omega))]
    rcases hv_c y (show 11 < 2 ^ 31 by decide) with ⟨e2, r⟩ | ⟨j2, l2, rfl, e2⟩
    · rcases r with r | ⟨r1, r2⟩
      · rw [if_pos r, if_pos lt]
      · have r3 : nI 10 < y := by
          rcases Int32.lt_or_le (nI 10) y with z | z
          · exact z
          · exact absurd (Int32.lt_of_le_of_lt z (show nI 10 < nI 11 by decide)) r2
        rw [if_neg r1, if_pos r3, if_pos lt]
    · rw [e1, e2] at q
      rcases q with q | q <;> cases q
end JJB
