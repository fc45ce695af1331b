/-! ===== MOVED DOORS ARE TOLD ===== -/
def stM (s : St) (l : List (Nat × Nat × Option (Nat × Nat))) : St := (zN s, iN s, iP s, iC s, iM s, sH s, sG s, sT s, l)
/-- the list behind it, if there is room -/
def tmL (s : St) (p dr : Nat) (to : Option (Nat × Nat)) : Option (List (Nat × Nat × Option (Nat × Nat))) := match mvI s p dr with
  | some k => some ((sM s).set k (p, dr, to))
  | none => if (sM s).length < 40 then some (sM s ++ [(p, dr, to)]) else none
def tmSt (s : St) (p dr : Nat) (to : Option (Nat × Nat)) : St := match tmL s p dr to with
  | some l => stM s l
  | none => s
def tmB (s : St) (p dr : Nat) (to : Option (Nat × Nat)) : Int32 := match tmL s p dr to with
  | some _ => nI 1
  | none => nI 0
section TMV
variable {d : Nat} {h : AH} {bk : Bk} {s : St}
theorem CS4.set {l : List (Nat × Nat × Option (Nat × Nat))} {x4 x3 : Int32} {k : Nat} {m : Nat × Nat × Option (Nat × Nat)} {h' : AH} (hI : gI h' 2055 156 = nI l.length) (hlen : l.length ≤ 40) (hk : k < l.length) (hm : l[k] = m) (a1 : gA h' 166 = up1 (gA h 166) k x4) (a2 : gA h' 167 = up1 (gA h 167) k x3) (e4 : x4 = nI (27000 * m.1 + m.2.1)) (e3 : x3 = oI (m.2.2.map fun q => 27000 * q.1 + q.2)) (old : ∀ j (hj : j < l.length), j ≠ k → gA h 166 j = nI (27000 * l[j].1 + l[j].2.1) ∧ gA h 167 j = oI (l[j].2.2.map fun q => 27000 * q.1 + q.2)) : CS4 h' (stM s l) := by
  refine ⟨hI, fun j hj => ?_⟩
  have hj : j < l.length := hj
  show gA h' 166 j = nI (27000 * l[j].1 + l[j].2.1) ∧ gA h' 167 j = oI (l[j].2.2.map fun q => 27000 * q.1 + q.2)
  rw [a1, a2]
  by_cases q : j = k
  · subst q
    rw [up1_s, up1_s, hm]; exact ⟨e4, e3⟩
  · rw [up1_x q, up1_x q]; exact old j hj q
theorem c_tell (hs : Sh h) (W : WB bk) (w : WS bk s) (C4 : CS4 h s) {p dr : Nat} (hp : p < bk 0 1) (hd1 : 27 ≤ dr) (hd : dr < 27000) (to : Option (Nat × Nat)) : ∃ h', E (d + 2) 209 [.ref 156, .int (nI p), .int (nI dr), .int (oI (to.map fun q => 27000 * q.1 + q.2))] h = some (some (.int (tmB s p dr to)), h') ∧ Fr [2055] [166, 167] h h' ∧ CS4 h' (tmSt s p dr to) := by
  have wp := W.1.2.1
  obtain ⟨w40, wpw, wm⟩ := w.2.2.2.2.2.2.2.2.2.2.2
  rw [t_209 hs, if_neg (nI_nlt (by omega) (by omega)), if_pos (nI_lt hd (by decide)), t_208 hs, cK_v, t_209_20 hs, pk_mul, nI_add, Nat.mul_comm p 27000, c_mvI hs W w C4 hp hd, cK_v, t_209_28 hs]
  unfold tmB tmSt tmL
  cases hm : mvI s p dr with
  | some k =>
    obtain ⟨hk, h1⟩ := mvI_s hm
    have : ∀ j, j < 40 → ¬ nI j = -1 := by decide
    rw [show oI (some k) = nI k from rfl, if_neg (this k (by omega)), gd_nI (by omega) (by decide), gd_nI (by omega) (by decide), ix_nI (by omega)]
    refine ⟨_, rfl, (Fr.rfl.sA (by decide)).sA (by decide), CS4.set (h := h) (k := k) (m := (p, dr, to)) (by rw [List.length_set]; exact C4.1) (by rw [List.length_set]; exact w40) (by rw [List.length_set]; exact hk) (List.getElem_set_self _) (by
        funext j
        show up2 (gA h) 166 k _ 166 j = _
        rfl) (by
        funext j
        show up2 (gA h) 167 k _ 167 j = _
        rfl) rfl rfl (fun j hj q => ?_)⟩
    rw [List.length_set] at hj
    rw [List.getElem_set_ne (by omega)]
    exact C4.2 j hj
  | none =>
    rw [show oI none = -1 from rfl, if_pos rfl, C4.1]
    by_cases q : (sM s).length < 40
    · simp only [if_pos q]
      rw [if_pos (nI_lt q (by decide)), gd_nI q (by decide), gd_nI q (by decide), ix_nI (by omega), nI_add]
      refine ⟨_, rfl, ((Fr.rfl.sI (by decide)).sA (by decide)).sA (by decide), CS4.set (h := h) (k := (sM s).length) (m := (p, dr, to)) (by rw [List.length_append]; rfl) (by rw [List.length_append]; exact q) (by rw [List.length_append]; exact Nat.lt_succ_self _) (by rw [List.getElem_append_right (Nat.le_refl _)]; simp) rfl rfl rfl rfl (fun j hj q2 => ?_)⟩
      rw [List.length_append] at hj
      have hj : j < (sM s).length := by
        have : j < (sM s).length + 1 := hj
        omega
      rw [List.getElem_append_left hj]
      exact C4.2 j hj
    · simp only [if_neg q]
      rw [if_neg (nI_nlt (by omega) (by omega))]
      exact ⟨h, rfl, Fr.rfl, C4⟩
theorem RS4.set {l : List (Nat × Nat × Option (Nat × Nat))} {x1 x2 x3 x4 : Int32} {k : Nat} {m : Nat × Nat × Option (Nat × Nat)} {h' : AH} (hI : gI h' 3688 189 = nI l.length) (hk : k < l.length) (hm : l[k] = m) (a1 : gA h' 265 = up1 (gA h 265) k x1) (a2 : gA h' 266 = up1 (gA h 266) k x2) (a3 : gA h' 267 = up1 (gA h 267) k x3) (a4 : gA h' 268 = up1 (gA h 268) k x4) (e1 : x1 = nI m.1) (e2 : x2 = nI m.2.1) (e3 : x3 = oI (m.2.2.map fun q => q.1)) (e4 : ∀ q, m.2.2 = some q → x4 = nI q.2) (old : ∀ j (hj : j < l.length), j ≠ k → gA h 265 j = nI l[j].1 ∧ gA h 266 j = nI l[j].2.1 ∧ gA h 267 j = oI (l[j].2.2.map fun q => q.1) ∧ ∀ q, l[j].2.2 = some q → gA h 268 j = nI q.2) : RS4 h' (stM s l) := by
  refine ⟨hI, fun j hj => ?_⟩
  have hj : j < l.length := hj
  show gA h' 265 j = nI l[j].1 ∧ gA h' 266 j = nI l[j].2.1 ∧ gA h' 267 j = oI (l[j].2.2.map fun q => q.1) ∧ ∀ q, l[j].2.2 = some q → gA h' 268 j = nI q.2
  rw [a1, a2, a3, a4]
  by_cases q : j = k
  · subst q
    rw [up1_s, up1_s, up1_s, up1_s, hm]; exact ⟨e1, e2, e3, e4⟩
  · rw [up1_x q, up1_x q, up1_x q, up1_x q]; exact old j hj q
theorem r_move (hs : Sh h) (W : WB bk) (w : WS bk s) {v : Nat} (hv' : v ≤ 1) (hN : gI h 3597 189 = nI v) (B : RB h v bk) (R4 : RS4 h s) {p dr : Nat} (hp : p < bk 0 1) (hd1 : 27 ≤ dr) (hd : dr < 27000) (to : Option (Nat × Nat)) (y : Int32) (hy : ∀ q, to = some q → y = nI q.2) : ∃ h', E (d + 2) 115 [.ref 189, .int (nI p), .int (nI dr), .int (oI (to.map fun q => q.1)), .int y] h = some (some (.int (tmB s p dr to)), h') ∧ Fr [3688] [265, 266, 267, 268] h h' ∧ RS4 h' (tmSt s p dr to) := by
  have wp := W.1.2.1
  obtain ⟨w40, wpw, wm⟩ := w.2.2.2.2.2.2.2.2.2.2.2
  rw [t_115 hs, if_neg (nI_nlt (by omega) (by omega)), hN, gd_nI (by omega) (by decide), ix_nI (by omega), B.1.2.1, if_pos (nI_lt hp (by omega)), if_neg (nI_nlt (by omega) (by omega)), if_neg (nI_nlt (by omega) (by omega)), r_mvI hs W w R4 hp hd, cK_v, t_115_38 hs]
  unfold tmB tmSt tmL
  cases hm : mvI s p dr with
  | some k =>
    obtain ⟨hk, h1⟩ := mvI_s hm
    rw [show oI (some k) = nI k from rfl, if_neg (nI_nlt (by omega) (by omega)), if_neg (nI_nlt (by omega) (by omega)), gd_nI (by omega) (by decide), gd_nI (by omega) (by decide), gd_nI (by omega) (by decide), gd_nI (by omega) (by decide), ix_nI (by omega)]
    refine ⟨_, rfl, (((Fr.rfl.sA (by decide)).sA (by decide)).sA (by decide)).sA (by decide), RS4.set (h := h) (k := k) (m := (p, dr, to)) (by rw [List.length_set]; exact R4.1) (by rw [List.length_set]; exact hk) (List.getElem_set_self _) rfl rfl rfl rfl rfl rfl rfl hy (fun j hj q => ?_)⟩
    rw [List.length_set] at hj
    rw [List.getElem_set_ne (by omega)]
    exact R4.2 j hj
  | none =>
    rw [show oI none = -1 from rfl, if_pos (show (-1 : Int32) < nI 0 by decide), if_pos (show (-1 : Int32) < nI 0 by decide), R4.1]
    simp only [show (nI (sM s).length = nI 40) = ((sM s).length = 40) from propext (nI_eq (by omega) (by decide))]
    by_cases q : (sM s).length < 40
    · simp only [if_pos q]
      rw [if_neg (by omega), gd_nI q (by decide), gd_nI q (by decide), gd_nI q (by decide), gd_nI q (by decide), ix_nI (by omega), nI_add]
      refine ⟨_, rfl, ((((Fr.rfl.sI (by decide)).sA (by decide)).sA (by decide)).sA (by decide)).sA (by decide), RS4.set (h := h) (k := (sM s).length) (m := (p, dr, to)) (by rw [List.length_append]; rfl) (by rw [List.length_append]; exact Nat.lt_succ_self _) (by rw [List.getElem_append_right (Nat.le_refl _)]; simp) rfl rfl rfl rfl rfl rfl rfl hy (fun j hj q2 => ?_)⟩
      rw [List.length_append] at hj
      have hj : j < (sM s).length := by
        have : j < (sM s).length + 1 := hj
        omega
      rw [List.getElem_append_left hj]
      exact R4.2 j hj
    · simp only [if_neg q]
      rw [if_pos (by omega)]
      exact ⟨h, rfl, Fr.rfl, R4⟩
end TMV
