/-! ===== the code among the words; its digits; doors that fit ===== -/
def fcL (ws : List (List Nat)) : Nat → Nat → Option Nat
  | 0, _ => none
  | k + 1, i => if isC (ws.getD i []) then some i else fcL ws k (i + 1)
def coI : Option Nat → Int32
  | none => -1
  | some i => nI i
theorem fc_b {ws : List (List Nat)} {c : Nat} : ∀ (k i : Nat), fcL ws k i = some c → i ≤ c ∧ c < i + k ∧ isC (ws.getD c []) = true
  | 0, i, e => by cases e
  | k + 1, i, e => by
    rw [fcL] at e
    by_cases q : isC (ws.getD i []) = true
    · rw [if_pos q] at e; cases e; exact ⟨Nat.le_refl _, by omega, q⟩
    · rw [if_neg q] at e; have := fc_b k (i + 1) e; exact ⟨by omega, by omega, this.2.2⟩
theorem gtD {ws : List (List Nat)} {i : Nat} (h : i < ws.length) : ws[i]? = some (ws.getD i []) := by
  rw [List.getD_eq_getElem?_getD, List.getElem?_eq_getElem h]; rfl
section CDE
variable {d : Nat} {ws : List (List Nat)} {u : Nat}
theorem c_fcl {h : AH} (hs : Sh h) (C : CWs h ws) (V : WWb u ws) (hu : u ≤ 81) : ∀ (k i : Nat), k + i = ws.length → Q d 244 2 [some (.ref 103), some (.int (nI i)), none] [] h = some (some (.int (coI (fcL ws k i))), h)
  | 0, i, e => by
    have v1 := V.1
    rw [t_244_2 hs, C.1, if_neg (nI_nlt (by omega) (by omega))]; rfl
  | k + 1, i, e => by
    have v1 := V.1
    have ih := c_fcl hs C V hu k (i + 1) (by omega)
    have ew := gtD (ws := ws) (i := i) (by omega)
    rw [fcL]
    generalize ws.getD i [] = w at *
    have lb := V.lb ew
    obtain ⟨s1, s2⟩ := C.2.1 i w ew
    rw [t_244_2 hs, C.1, if_pos (nI_lt (by omega) (by omega)), gd_nI (by omega) (by decide), gd_nI (by omega) (by decide), ix_nI (by omega), s1, s2, pk_sub (by omega), Nat.add_sub_cancel_left, nI_add]
    simp only [show (nI w.length = nI 3) = (w.length = 3) from propext (nI_eq (by omega) (by decide))]
    by_cases q : w.length = 3
    · have a0 := C.at ew (i := 0) (by omega)
      have a1 := C.at ew (i := 1) (by omega)
      have a2 := C.at ew (i := 2) (by omega)
      have b0 := (V.cd ew (i := 0) (by omega)).2
      have b1 := (V.cd ew (i := 1) (by omega)).2
      have b2 := (V.cd ew (i := 2) (by omega)).2
      rw [Nat.add_zero] at a0
      rw [if_pos q, gd_nI (by omega) (by decide), ix_nI (by omega), a0, nI_add, gd_nI (by omega) (by decide), ix_nI (by omega), a1, nI_add, gd_nI (by omega) (by decide), ix_nI (by omega), a2]
      by_cases z0 : w.getD 0 0 < 27
      · rw [if_pos (nI_lt z0 (by decide)), if_neg (c := isC w = true) (fun y => by have := isC_i.mp y; omega)]; exact ih
      · rw [if_neg (nI_nlt (by omega) (by omega))]
        by_cases z1 : w.getD 1 0 < 27
        · rw [if_pos (nI_lt z1 (by decide)), if_neg (c := isC w = true) (fun y => by have := isC_i.mp y; omega)]; exact ih
        · rw [if_neg (nI_nlt (by omega) (by omega))]
          by_cases z2 : w.getD 2 0 < 27
          · rw [if_pos (nI_lt z2 (by decide)), if_neg (c := isC w = true) (fun y => by have := isC_i.mp y; omega)]; exact ih
          · rw [if_neg (nI_nlt (by omega) (by omega)), if_pos (c := isC w = true) (isC_i.mpr ⟨q, by omega, by omega, by omega⟩)]; rfl
    · rw [if_neg q, if_neg (c := isC w = true) (fun y => q (isC_i.mp y).1)]; exact ih
theorem c_fcode {h : AH} (hs : Sh h) (C : CWs h ws) (V : WWb u ws) (hu : u ≤ 81) (h2 : 2 ≤ ws.length) : E (d + 1) 244 [.ref 103] h = some (some (.int (coI (fcL ws (ws.length - 2) 2))), h) := by
  rw [t_244 hs]; exact c_fcl hs C V hu _ 2 (by omega)
theorem r_isC {h : AH} (hs : Sh h) (C : RWs h ws) (V : WWb u ws) (hu : u ≤ 81) {i : Nat} {w : List Nat} (ew : ws[i]? = some w) : E (d + 2) 71 [.ref 189, .int (nI i)] h = some (some (.int (nI (if isC w then 1 else 0))), h) := by
  have v1 := V.1
  have lb := V.lb ew
  obtain ⟨s1, s2⟩ := C.2.2.1 i w ew
  rw [t_71 hs, gd_nI (by omega) (by decide), ix_nI (by omega), s2]
  simp only [show (nI w.length = nI 3) = (w.length = 3) from propext (nI_eq (by omega) (by decide))]
  by_cases q : w.length = 3
  · have stp : ∀ j, j < 3 → Q (d + 1) 71 18 [some (.ref 189), some (.int (nI i)), some (.int (nI 1)), some (.int (nI j))] [] h = Q (d + 1) 71 18 [some (.ref 189), some (.int (nI i)), some (.int (nI (if 27 ≤ w.getD j 0 then 1 else 0))), some (.int (nI (j + 1)))] [] h := fun j hj => by
      have a := C.at ew (i := j) (by omega)
      obtain ⟨b0, b1⟩ := V.cd ew (i := j) (by omega)
      obtain ⟨d1, d2, d3, d4, d5⟩ := asc_d b0 b1
      rw [t_71_18 hs, if_pos (nI_lt hj (by decide)), if_neg (by decide), gd_nI (by omega) (by decide), ix_nI (by omega), s1, nI_add, gd_nI (by omega) (by decide), ix_nI (by omega), a, r_digit hs (by omega), cK_v, t_71_43 hs, nI_add]
      by_cases z : 27 ≤ w.getD j 0
      · rw [if_pos (d1.mpr z), if_pos z]
      · rw [if_neg fun y => z (d1.mp y), if_neg z]
    have no : ∀ j, j < 3 → Q (d + 1) 71 18 [some (.ref 189), some (.int (nI i)), some (.int (nI 0)), some (.int (nI (j + 1)))] [] h = some (some (.int (nI 0)), h) := fun j hj => by
      rw [t_71_18 hs, if_pos (show nI 0 = nI 0 from rfl), if_pos (c := nI 0 = 0 ∨ nI 0 = 1) (Or.inl rfl), ite_self]
    rw [if_pos q, stp 0 (by decide)]
    by_cases z0 : 27 ≤ w.getD 0 0
    · rw [if_pos z0, stp 1 (by decide)]
      by_cases z1 : 27 ≤ w.getD 1 0
      · rw [if_pos z1, stp 2 (by decide)]
        by_cases z2 : 27 ≤ w.getD 2 0
        · rw [if_pos z2, t_71_18 hs, if_neg (by decide), if_pos (c := nI 1 = 0 ∨ nI 1 = 1) (Or.inr rfl), if_pos (c := isC w = true) (isC_i.mpr ⟨q, z0, z1, z2⟩)]
        · rw [if_neg z2, no 2 (by decide), if_neg (c := isC w = true) (fun y => z2 (isC_i.mp y).2.2.2)]
      · rw [if_neg z1, no 1 (by decide), if_neg (c := isC w = true) (fun y => z1 (isC_i.mp y).2.2.1)]
    · rw [if_neg z0, no 0 (by decide), if_neg (c := isC w = true) (fun y => z0 (isC_i.mp y).2.1)]
  · rw [if_neg q, t_71_18 hs, if_pos (by decide), if_pos (show nI 0 = nI 0 from rfl), if_pos (c := nI 0 = 0 ∨ nI 0 = 1) (Or.inl rfl), if_neg (c := isC w = true) (fun y => q (isC_i.mp y).1)]
theorem Sh.c189 {h : AH} (hs : Sh h) : gC h 189 = 14 := by rw [← congrFun hs.c 189]; rfl
theorem r_fcl (V : WWb u ws) (hu : u ≤ 81) : ∀ (i : Nat) {h : AH}, Sh h → RWs h ws → i + 1 < ws.length → gI h 3642 189 = coI (fcL ws (ws.length - 2 - i) (i + 2)) → ∃ h', Q (d + 2) 63 49 [some (.ref 189), some (.int (nI (i + 1))), none, none] [] h = Q (d + 2) 63 49 [some (.ref 189), some (.int (nI 1)), none, none] [] h' ∧ gI h' 3642 189 = coI (fcL ws (ws.length - 2) 2) ∧ Fr [3642] [] h h'
  | 0, h, hs, C, hl, e => ⟨h, rfl, e, Fr.rfl⟩
  | i + 1, h, hs, C, hl, e => by
    have v1 := V.1
    have ew := gtD (ws := ws) (i := i + 2) (by omega)
    have eL : fcL ws (ws.length - 2 - i) (i + 2) = if isC (ws.getD (i + 2) []) then some (i + 2) else fcL ws (ws.length - 2 - (i + 1)) (i + 3) := by
      rw [show ws.length - 2 - i = (ws.length - 2 - (i + 1)) + 1 from by omega, fcL]
    rw [t_63_49 hs, if_pos (nI_lt (by omega) (by omega)), r_isC hs C V hu ew, cK_v, t_63_60 hs, ck_ok hs.c189, ck_ok hs.c189, show nI (i + 1 + 1) + (-1) = nI (i + 1) from pk_m1 _]
    by_cases q : isC (ws.getD (i + 2) []) = true
    · have hf : Fr [3642] [] h (sI h 3642 189 (nI (i + 2))) := Fr.rfl.sI (List.mem_singleton.mpr rfl)
      obtain ⟨h', e1, e2, f'⟩ := r_fcl V hu i (hf.sh hs) (C.fr hf (by decide) (by decide)) (by omega) (by rw [gI_s, eL, if_pos q]; rfl)
      refine ⟨h', ?_, e2, hf.trans f'⟩
      rw [if_pos q, if_neg (by decide)]; exact e1
    · have hf : Fr [3642] [] h (sI h 3642 189 (gI h 3642 189)) := Fr.rfl.sI (List.mem_singleton.mpr rfl)
      obtain ⟨h', e1, e2, f'⟩ := r_fcl V hu i (hf.sh hs) (C.fr hf (by decide) (by decide)) (by omega) (by rw [gI_s, eL, if_neg q]; exact e)
      refine ⟨h', ?_, e2, hf.trans f'⟩
      rw [if_neg q, if_pos rfl]; exact e1
/-- how many digits of a code are others -/
def ugN (w : List Nat) (c : Nat) : Nat := (if w.getD 0 0 - 27 = c / 100 then 0 else 1) + (if w.getD 1 0 - 27 = c / 10 % 10 then 0 else 1) + (if w.getD 2 0 - 27 = c % 10 then 0 else 1)
theorem ug_b {w : List Nat} {c : Nat} : ugN w c ≤ 3 := by unfold ugN; (repeat' split) <;> omega
theorem c_ug {h : AH} (hs : Sh h) (C : CWs h ws) (V : WWb u ws) (hu : u ≤ 81) {k c : Nat} {w : List Nat} (ew : ws[k]? = some w) (hw : isC w = true) (ek : gI h 1029 103 = nI k) (hc : c ≤ 999) : E (d + 1) 354 [.ref 103, .int (nI c)] h = some (some (.int (nI (ugN w c))), h) := by
  have v1 := V.1
  have lb := V.lb ew
  obtain ⟨q, z0, z1, z2⟩ := isC_i.mp hw
  obtain ⟨s1, s2⟩ := C.2.1 k w ew
  have a0 := C.at ew (i := 0) (by omega)
  have a1 := C.at ew (i := 1) (by omega)
  have a2 := C.at ew (i := 2) (by omega)
  have b0 := (V.cd ew (i := 0) (by omega)).2
  have b1 := (V.cd ew (i := 1) (by omega)).2
  have b2 := (V.cd ew (i := 2) (by omega)).2
  rw [Nat.add_zero] at a0
  have rr : nI c - nI (c / 10) * nI 10 = nI (c % 10) := by rw [← pk_div (show c < 2 ^ 31 by omega) (show 0 < 10 by decide) (by decide), pk_rem (show c < 2 ^ 31 by omega) (show 0 < 10 by decide) (by decide)]
  rw [t_354 hs]
  simp only [ek, ix_nI (show k < 2 ^ 31 by omega), s1, ix_nI (show off ws k < 2 ^ 31 by omega), nI_add, ix_nI (show off ws k + 1 < 2 ^ 31 by omega), ix_nI (show off ws k + 2 < 2 ^ 31 by omega), a0, a1, a2, pk_sub z0, pk_sub z1, pk_sub z2, pk_div (show c < 2 ^ 31 by omega) (show 0 < 100 by decide) (by decide), pk_div (show c < 2 ^ 31 by omega) (show 0 < 10 by decide) (by decide), rr, pk_rem (show c / 10 < 2 ^ 31 by omega) (show 0 < 10 by decide) (by decide), gd_nI (show k < 41 by omega) (by decide), gd_nI (show off ws k < 613 by omega) (by decide), gd_nI (show off ws k + 1 < 613 by omega) (by decide), gd_nI (show off ws k + 2 < 613 by omega) (by decide), dz_ok (show ¬ nI 100 = 0 by decide), dz_ok (show ¬ nI 10 = 0 by decide)]
  simp only [show (nI (w.getD 0 0 - 27) = nI (c / 100)) = (w.getD 0 0 - 27 = c / 100) from propext (nI_eq (by omega) (by omega)), show (nI (w.getD 1 0 - 27) = nI (c / 10 % 10)) = (w.getD 1 0 - 27 = c / 10 % 10) from propext (nI_eq (by omega) (by omega)), show (nI (w.getD 2 0 - 27) = nI (c % 10)) = (w.getD 2 0 - 27 = c % 10) from propext (nI_eq (by omega) (by omega))]
  unfold ugN
  (repeat' split) <;> rfl
theorem r_ug {h : AH} (hs : Sh h) (C : RWs h ws) (V : WWb u ws) (hu : u ≤ 81) {k c : Nat} {w : List Nat} (ew : ws[k]? = some w) (hw : isC w = true) (ek : gI h 3642 189 = nI k) (hc : c ≤ 999) : E (d + 1) 74 [.ref 189, .int (nI c)] h = some (some (.int (nI (ugN w c))), h) := by
  have v1 := V.1
  have lb := V.lb ew
  obtain ⟨q, z0, z1, z2⟩ := isC_i.mp hw
  obtain ⟨s1, s2⟩ := C.2.2.1 k w ew
  have a0 := C.at ew (i := 0) (by omega)
  have a1 := C.at ew (i := 1) (by omega)
  have a2 := C.at ew (i := 2) (by omega)
  have b0 := V.cd ew (i := 0) (by omega)
  have b1 := V.cd ew (i := 1) (by omega)
  have b2 := V.cd ew (i := 2) (by omega)
  rw [(asc_d b0.1 b0.2).2.2.1 z0] at a0
  rw [(asc_d b1.1 b1.2).2.2.1 z1] at a1
  rw [(asc_d b2.1 b2.2).2.2.1 z2] at a2
  have y0 : nI (w.getD 0 0 + 21) - nI 48 = nI (w.getD 0 0 - 27) := by rw [pk_sub (by omega)]; congr 1
  have y1 : nI (w.getD 1 0 + 21) - nI 48 = nI (w.getD 1 0 - 27) := by rw [pk_sub (by omega)]; congr 1
  have y2 : nI (w.getD 2 0 + 21) - nI 48 = nI (w.getD 2 0 - 27) := by rw [pk_sub (by omega)]; congr 1
  rw [Nat.add_zero] at a0
  have rr : nI c - nI (c / 10) * nI 10 = nI (c % 10) := by rw [← pk_div (show c < 2 ^ 31 by omega) (show 0 < 10 by decide) (by decide), pk_rem (show c < 2 ^ 31 by omega) (show 0 < 10 by decide) (by decide)]
  rw [t_74 hs]
  simp only [ek, ix_nI (show k < 2 ^ 31 by omega), s1, ix_nI (show off ws k < 2 ^ 31 by omega), nI_add, ix_nI (show off ws k + 1 < 2 ^ 31 by omega), ix_nI (show off ws k + 2 < 2 ^ 31 by omega), a0, a1, a2, y0, y1, y2, pk_div (show c < 2 ^ 31 by omega) (show 0 < 100 by decide) (by decide), pk_div (show c < 2 ^ 31 by omega) (show 0 < 10 by decide) (by decide), rr, pk_rem (show c / 10 < 2 ^ 31 by omega) (show 0 < 10 by decide) (by decide), gd_nI (show k < 82 by omega) (by decide), gd_nI (show off ws k < 1200 by omega) (by decide), gd_nI (show off ws k + 1 < 1200 by omega) (by decide), gd_nI (show off ws k + 2 < 1200 by omega) (by decide), dz_ok (show ¬ nI 100 = 0 by decide), dz_ok (show ¬ nI 10 = 0 by decide)]
  simp only [show (nI (w.getD 0 0 - 27) = nI (c / 100)) = (w.getD 0 0 - 27 = c / 100) from propext (nI_eq (by omega) (by omega)), show (nI (w.getD 1 0 - 27) = nI (c / 10 % 10)) = (w.getD 1 0 - 27 = c / 10 % 10) from propext (nI_eq (by omega) (by omega)), show (nI (w.getD 2 0 - 27) = nI (c % 10)) = (w.getD 2 0 - 27 = c % 10) from propext (nI_eq (by omega) (by omega))]
  unfold ugN
  (repeat' split) <;> rfl
end CDE
/-- a number that is one of a piece -/
def ftB (bk : Bk) (p n : Nat) : Bool := decide (bk 11 p ≤ n ∧ n ≤ bk 12 p ∧ (bk 10 p = 0 ∨ n % 2 = bk 10 p % 2))
section FIT
variable {d : Nat} {bk : Bk} {G Cp : Nat → Nat → Nat} {b w : Nat}
theorem c_fits {h : AH} (hs : Sh h) (W : WB bk) (B : CB h b bk G Cp) {p n : Nat} (hp : p < bk 0 1) (hn : n ≤ 9999) : E (d + 1) 298 [.ref (G 1 p), .int (nI n)] h = some (some (.int (nI (if ftB bk p n then 1 else 0))), h) := by
  have w1 := W.2.2.2.1 p hp
  obtain ⟨-, -, -, -, -, c6, -⟩ := B
  obtain ⟨c1, -, c3, c4, c5, -⟩ := c6 p hp
  rw [t_298 hs]
  simp only [ck_ok c1, c3, c4, c5, dz_ok (show ¬ nI 2 = 0 by decide), pk_rem (show n < 2 ^ 31 by omega) (show 0 < 2 by decide) (by decide), pk_rem (show bk 10 p < 2 ^ 31 by omega) (show 0 < 2 by decide) (by decide), nlt' (show n < 2 ^ 31 by omega) (show bk 11 p < 2 ^ 31 by omega), nlt' (show bk 12 p < 2 ^ 31 by omega) (show n < 2 ^ 31 by omega), show (nI (bk 10 p) = nI 0) = (bk 10 p = 0) from propext (nI_eq (by omega) (by decide)), show (nI (n % 2) = nI (bk 10 p % 2)) = (n % 2 = bk 10 p % 2) from propext (nI_eq (by omega) (by omega))]
  unfold ftB
  simp only [decide_eq_true_eq]
  (repeat' split) <;> first | rfl | omega
theorem r_fits {h : AH} (hs : Sh h) (W : WB bk) (R : RB h w bk) (hw : w ≤ 1) (ew : gI h 3597 189 = nI w) {p n : Nat} (hp : p < bk 0 1) (hn : n ≤ 9999) : E (d + 1) 72 [.ref 189, .int (nI p), .int (nI n)] h = some (some (.int (nI (if ftB bk p n then 1 else 0))), h) := by
  have w1 := W.2.2.2.1 p hp
  have w2 := W.1.2.1
  obtain ⟨-, -, -, r4, -⟩ := R
  obtain ⟨-, -, -, c3, c4, c5, -⟩ := r4 p hp
  rw [t_72 hs]
  simp only [ew, pk_mul, nI_add, ix_nI (show 60 * w + p < 2 ^ 31 by omega), gd_nI (show 60 * w + p < 120 by omega) (by decide), c3, c4, c5, dz_ok (show ¬ nI 2 = 0 by decide), pk_rem (show n < 2 ^ 31 by omega) (show 0 < 2 by decide) (by decide), pk_rem (show bk 10 p < 2 ^ 31 by omega) (show 0 < 2 by decide) (by decide), nlt' (show n < 2 ^ 31 by omega) (show bk 11 p < 2 ^ 31 by omega), nlt' (show bk 12 p < 2 ^ 31 by omega) (show n < 2 ^ 31 by omega), show (nI (bk 10 p) = nI 0) = (bk 10 p = 0) from propext (nI_eq (by omega) (by decide)), show (nI (bk 10 p % 2) = nI (n % 2)) = (bk 10 p % 2 = n % 2) from propext (nI_eq (by omega) (by omega)), show (nI 1 = nI 0) = False from propext ⟨by decide, False.elim⟩, show (nI 0 = nI 0) = True from propext ⟨fun _ => trivial, fun _ => rfl⟩, if_true, if_false]
  unfold ftB
  simp only [decide_eq_true_eq]
  (repeat' split) <;> first | rfl | omega
end FIT
