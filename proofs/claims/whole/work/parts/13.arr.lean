/-! ===== ROWS: arrays ===== -/
section AWA
variable {p : Program} {l : Launch} {e : Env} {R : Room} {s : State} {m : MethodId} {args : Array Value} {below : List Frame} {meth : Method} {c : Code} {Q : State → Prop} {z : State} {D : va_G} {dA : Nat → ClassId} {φ0 : Nat → Nat} {n0 s0 nL : Nat} {lo : Ls} {st : Vs} {h : AH} {o : Ot} {pc : Nat} {za : Array Value} {own : String} {cc : ByteArray}
/-- the contents of one array have changed -/
theorem HR.arr {φ : Nat → Nat} {h h' : AH} {H H' : Heap} (a : HR z D dA φ h H) {x t : Nat} (hx : gC h x = t) (ht : 60 ≤ t) (hx1 : 100 ≤ x) (e0 : h'.1 = h.1) (e2 : gC h' = gC h) (e3 : gK h' = gK h) (e4 : gI h' = gI h) (e5 : gL h' = gL h) (e6 : gR h' = gR h)
    (g : ∀ y, y ≠ x → ∀ j, gA h' y j = gA h y j ∧ gB h' y j = gB h y j ∧ gO h' y j = gO h y j) (ho : ∀ i y, gO h' x i = some y → y < gN h ∧ (gC h x = 65 → gC h y ≠ 0 ∧ gC h y < 15)) (hz : H'.size = H.size) (hq : ∀ q, q ≠ φ x → H'[q]? = H[q]?) (hc : H'[φ x]? = some (arrV (dA t) (gK h x) (eV φ h' t x))) : HR z D dA φ h' H' := by
  have e1 : gN h' = gN h := congrArg Prod.fst e0
  refine a.upd (by omega) hx1 e1 e2 e3 (fun y _ k => ⟨by rw [e4], by rw [e5], by rw [e6]⟩) g (fun k y w => a.vR (k := k) (x := x) (by omega) (by rw [← e6]; exact w)) ho hz hq ?_
  refine ⟨_, hc, (fun w => by cases w), rfl, ?_, ?_, ?_, ?_⟩
  · rw [e2, hx]; exact fun w => absurd w (by omega)
  · rw [e2, hx]; exact fun w => absurd w (by omega)
  · rw [e2, e3, hx]; exact fun _ => ⟨Or.inl rfl, szA_of (arrV_size _ _ _), fun j hj => arrV_read _ _ hj⟩
  · rw [e2, e3, hx]; exact fun _ _ => rfl
theorem eV_int {φ : Nat → Nat} {h : AH} {t x j : Nat} (h1 : t ≠ 61) (h2 : t ≠ 65) (h3 : t ≠ 66) : eV φ h t x j = .int (gA h x j) := by
  unfold eV
  split <;> first | rfl | contradiction
theorem eV_ref {φ : Nat → Nat} {h : AH} {t x j : Nat} (h1 : t = 65 ∨ t = 66) : eV φ h t x j = va_rf ((gO h x j).map φ) := by
  rcases h1 with rfl | rfl <;> rfl
theorem inb_of {i : Int32} {n : Nat} (h1 : ¬ i < 0) (h2 : ix i < n) : ¬ (i < 0 ∨ n ≤ i.toNatClampNeg) := fun q => by
  rcases q with q | q
  · exact h1 q
  · exact absurd h2 (Nat.not_lt.mpr q)
theorem aw_ali (E : EV z za D dA) (X : Cx p s m c z own cc nL) {t : Nat} (ht : 60 ≤ t) (ht2 : t ≤ 64) (ht3 : t ≠ 61)
    (row : ∀ {H : Heap} {locs : List Loc} {cells slots : Nat} {ls : Array Slot} {rest : List Value} {a : Nat} {cell : Cell} {j : Int32} {v : Value}, H[a]? = some cell → s.isArrayOf cell (aY t) → cell.vm ≠ .unknown → ¬ (j < 0 ∨ cell.slots.size ≤ j.toNatClampNeg) → cell.slots[j.toNatClampNeg]? = some v → W p l e R s m args below meth c H locs cells slots Q (F0 m (pc + 1) ls (v :: rest)) → W p l e R s m args below meth c H locs cells slots Q (F0 m pc ls (.int j :: .ref a :: rest)))
    {K : Vs → Option Ot} (hk : ∀ st, K st = some o → AW p l e R s m args below meth c Q z D dA φ0 n0 s0 nL (pc + 1) lo st h) (q : o_ali h t K st = some o) : AW p l e R s m args below meth c Q z D dA φ0 n0 s0 nL pc lo st h := by
  unfold o_ali at q
  split at q
  case h_2 => cases q
  rename_i i x r
  by_cases hx : gC h x = t
  case neg => rw [if_neg hx] at q; cases q
  rw [if_pos hx] at q
  by_cases hi : i < 0
  case pos => rw [if_pos hi] at q; cases q
  rw [if_neg hi] at q
  by_cases hi2 : ix i < gK h x
  case neg => rw [if_neg hi2] at q; cases q
  rw [if_pos hi2] at q
  intro φ H locs ls a1 a2 a3 a4 a5 a6 a7 a8
  obtain ⟨cell, h1, h2, h3, -, -, h6, -⟩ := (a1.cel (x := x) (by omega)).2
  obtain ⟨w1, w2, w3⟩ := h6 (by omega)
  rw [hx] at w1 w3
  refine row h1 (isArr E X.2.2.2.2 ht (by omega) w1 h3) h2 (inb_of hi (Nat.lt_of_lt_of_le hi2 w2.1)) (w3 _ hi2) ?_
  have k := hk _ q φ H locs ls a1 a2 a3 a4 ⟨trivial, a5.2.2⟩ a6 a7 a8
  rw [eV_int ht3 (by omega) (by omega)]
  exact k
theorem aw_all (E : EV z za D dA) (X : Cx p s m c z own cc nL) (hd : decode cc pc = .ok (.laload, 1)) {K : Vs → Option Ot} (hk : ∀ st, K st = some o → AW p l e R s m args below meth c Q z D dA φ0 n0 s0 nL (pc + 1) lo st h) (q : o_all h K st = some o) : AW p l e R s m args below meth c Q z D dA φ0 n0 s0 nL pc lo st h := by
  unfold o_all at q
  split at q
  case h_2 => cases q
  rename_i i x r
  by_cases hx : gC h x = 61
  case neg => rw [if_neg hx] at q; cases q
  rw [if_pos hx] at q
  by_cases hi : i < 0
  case pos => rw [if_pos hi] at q; cases q
  rw [if_neg hi] at q
  by_cases hi2 : ix i < gK h x
  case neg => rw [if_neg hi2] at q; cases q
  rw [if_pos hi2] at q
  intro φ H locs ls a1 a2 a3 a4 a5 a6 a7 a8
  obtain ⟨cell, h1, h2, h3, -, -, h6, -⟩ := (a1.cel (x := x) (by omega)).2
  obtain ⟨w1, w2, w3⟩ := h6 (by omega)
  rw [hx] at w1 w3
  exact W.lald X.1 X.2.1 h1 (isArr (t := 61) E X.2.2.2.2 (by omega) (by omega) w1 h3) h2 (inb_of hi (Nat.lt_of_lt_of_le hi2 w2.1)) (w3 _ hi2) rfl rfl hd (hk _ q φ H locs ls a1 a2 a3 a4 ⟨trivial, a5.2.2⟩ a6 a7 a8)
theorem aw_ala (E : EV z za D dA) (X : Cx p s m c z own cc nL) {t : Nat} (ht : t = 65 ∨ t = 66) (hd : decode cc pc = .ok (.aaload, 1)) {K : Vs → Option Ot} (hk : ∀ st, K st = some o → AW p l e R s m args below meth c Q z D dA φ0 n0 s0 nL (pc + 1) lo st h) (q : o_ala h t K st = some o) : AW p l e R s m args below meth c Q z D dA φ0 n0 s0 nL pc lo st h := by
  unfold o_ala at q
  split at q
  case h_2 => cases q
  rename_i i x r
  by_cases hx : gC h x = t
  case neg => rw [if_neg hx] at q; cases q
  rw [if_pos hx] at q
  by_cases hi : i < 0
  case pos => rw [if_pos hi] at q; cases q
  rw [if_neg hi] at q
  by_cases hi2 : ix i < gK h x
  case neg => rw [if_neg hi2] at q; cases q
  rw [if_pos hi2] at q
  cases hy : gO h x (ix i) with
  | none => rw [hy] at q; cases q
  | some y =>
    rw [hy] at q
    intro φ H locs ls a1 a2 a3 a4 a5 a6 a7 a8
    obtain ⟨cell, h1, h2, h3, -, -, h6, -⟩ := (a1.cel (x := x) (by omega)).2
    obtain ⟨w1, w2, w3⟩ := h6 (by omega)
    rw [hx] at w1 w3
    have w4 := w3 _ hi2
    rw [eV_ref ht, va_rf_some _ _ φ hy] at w4
    exact W.aald (ty := aY t) X.1 X.2.1 h1 (isArr E X.2.2.2.2 (by omega) (by omega) w1 h3) (by rcases ht with rfl | rfl <;> rfl) h2 (inb_of hi (Nat.lt_of_lt_of_le hi2 w2.1)) w4 rfl rfl hd (hk _ q φ H locs ls a1 a2 a3 a4 ⟨a1.vO (by omega) hy, a5.2.2⟩ a6 a7 a8)
theorem locs_app {B a k : Nat} {locs : List Loc} (h : ∀ q ∈ locs, B ≤ q.base) (ha : B ≤ a) : ∀ q ∈ locs ++ [⟨a, k⟩], B ≤ q.base := fun q hq => by
  rcases List.mem_append.mp hq with w | w
  · exact h q w
  · rw [List.mem_singleton.mp w]; exact ha
theorem aw_asi (E : EV z za D dA) (X : Cx p s m c z own cc nL) {t : Nat} (ht : t = 60 ∨ t = 62 ∨ t = 63)
    (row : ∀ {H : Heap} {locs : List Loc} {cells slots : Nat} {ls : Array Slot} {rest : List Value} {a : Nat} {cell : Cell} {j x : Int32}, H[a]? = some cell → s.isArrayOf cell (aY t) → cell.vm ≠ .unknown → ¬ (j < 0 ∨ cell.slots.size ≤ j.toNatClampNeg) → (∀ H' : Heap, H'[a]? = some (cell.setSlot j.toNatClampNeg (.int (nrA t x))) → H'.size = H.size → (∀ q, q ≠ a → H'[q]? = H[q]?) → W p l e R s m args below meth c H' (locs ++ [⟨a, j.toNatClampNeg⟩]) cells slots Q (F0 m (pc + 1) ls rest)) → W p l e R s m args below meth c H locs cells slots Q (F0 m pc ls (.int x :: .int j :: .ref a :: rest)))
    {K : Vs → AH → Option Ot} (hk : ∀ st h, K st h = some o → AW p l e R s m args below meth c Q z D dA φ0 n0 s0 nL (pc + 1) lo st h) (q : o_asi h t K st = some o) : AW p l e R s m args below meth c Q z D dA φ0 n0 s0 nL pc lo st h := by
  unfold o_asi at q
  split at q
  case h_2 => cases q
  rename_i v i x r
  by_cases hx : gC h x = t ∧ 100 ≤ x
  case neg => rw [if_neg hx] at q; cases q
  rw [if_pos hx] at q
  obtain ⟨hx, hx1⟩ := hx
  by_cases hi : i < 0
  case pos => rw [if_pos hi] at q; cases q
  rw [if_neg hi] at q
  by_cases hi2 : ix i < gK h x
  case neg => rw [if_neg hi2] at q; cases q
  rw [if_pos hi2] at q
  intro φ H locs ls a1 a2 a3 a4 a5 a6 a7 a8
  obtain ⟨hxn, cell, h1, h2, h3, -, -, h6, h7⟩ := a1.cel (x := x) (by omega)
  obtain ⟨w1, w2, w3⟩ := h6 (by omega)
  rw [hx] at w1 w3
  refine row h1 (isArr E X.2.2.2.2 (by omega) (by omega) w1 h3) h2 (inb_of hi (Nat.lt_of_lt_of_le hi2 w2.1)) ?_
  intro H' b1 b2 b3
  refine hk _ _ q φ H' _ ls ?_ a2 (locs_app a3 (a1.2.2.2.2.2.1 x hx1 (by omega))) a4 a5.2.2.2 a6 a7 a8
  refine a1.arr hx (by omega) hx1 rfl rfl rfl rfl rfl rfl (fun y hy j => ⟨by show up2 (gA h) _ _ _ _ _ = _; rw [up2_nk _ _ _ hy], rfl, rfl⟩) (fun k y w => a1.vO2 (x := x) (by omega) w) b2 b3 ?_
  rw [b1, h7 (by omega) hx1, hx, arrV_store]
  refine congrArg some (congrArg _ (funext fun j => ?_))
  rw [eV_int (by omega) (by omega) (by omega)]
  show updV (eV φ h t x) (ix i) (.int (nrA t v)) j = .int (up2 (gA h) x (ix i) (nrA t v) x j)
  by_cases hj : j = ix i
  · subst hj; rw [up2_eq]; simp [updV]
  · rw [up2_nx _ _ _ hj]
    simp only [updV, if_neg hj]
    exact eV_int (by omega) (by omega) (by omega)
theorem aw_asl (E : EV z za D dA) (X : Cx p s m c z own cc nL) (hd : decode cc pc = .ok (.lastore, 1))
    {K : Vs → AH → Option Ot} (hk : ∀ st h, K st h = some o → AW p l e R s m args below meth c Q z D dA φ0 n0 s0 nL (pc + 1) lo st h) (q : o_asl h K st = some o) : AW p l e R s m args below meth c Q z D dA φ0 n0 s0 nL pc lo st h := by
  unfold o_asl at q
  split at q
  case h_2 => cases q
  rename_i v i x r
  by_cases hx : gC h x = 61 ∧ 100 ≤ x
  case neg => rw [if_neg hx] at q; cases q
  rw [if_pos hx] at q
  obtain ⟨hx, hx1⟩ := hx
  by_cases hi : i < 0
  case pos => rw [if_pos hi] at q; cases q
  rw [if_neg hi] at q
  by_cases hi2 : ix i < gK h x
  case neg => rw [if_neg hi2] at q; cases q
  rw [if_pos hi2] at q
  intro φ H locs ls a1 a2 a3 a4 a5 a6 a7 a8
  obtain ⟨hxn, cell, h1, h2, h3, -, -, h6, h7⟩ := a1.cel (x := x) (by omega)
  obtain ⟨w1, w2, w3⟩ := h6 (by omega)
  rw [hx] at w1 w3
  refine W.last X.1 X.2.1 h1 (isArr (t := 61) E X.2.2.2.2 (by omega) (by omega) w1 h3) h2 (inb_of hi (Nat.lt_of_lt_of_le hi2 w2.1)) rfl rfl hd ?_
  intro H' b1 b2 b3
  refine hk _ _ q φ H' _ ls ?_ a2 (locs_app a3 (a1.2.2.2.2.2.1 x hx1 (by omega))) a4 a5.2.2.2 a6 a7 a8
  refine a1.arr hx (by omega) hx1 rfl rfl rfl rfl rfl rfl (fun y hy j => ⟨rfl, by show up2 (gB h) _ _ _ _ _ = _; rw [up2_nk _ _ _ hy], rfl⟩) (fun k y w => a1.vO2 (x := x) (by omega) w) b2 b3 ?_
  rw [b1, h7 (by omega) hx1, hx, arrV_store]
  refine congrArg some (congrArg _ (funext fun j => ?_))
  show updV (eV φ h 61 x) (ix i) (.long v) j = .long (up2 (gB h) x (ix i) v x j)
  by_cases hj : j = ix i
  · subst hj; rw [up2_eq]; simp [updV]
  · rw [up2_nx _ _ _ hj]
    simp only [updV, if_neg hj]
    rfl
theorem aw_len (E : EV z za D dA) (X : Cx p s m c z own cc nL) (hd : decode cc pc = .ok (.arraylength, 1)) {K : Vs → Option Ot} (hk : ∀ st, K st = some o → AW p l e R s m args below meth c Q z D dA φ0 n0 s0 nL (pc + 1) lo st h) (q : o_len h K st = some o) : AW p l e R s m args below meth c Q z D dA φ0 n0 s0 nL pc lo st h := by
  unfold o_len at q
  split at q
  case h_2 => cases q
  rename_i x r
  by_cases hx : 60 ≤ gC h x ∧ gC h x ≤ 66
  case neg => rw [if_neg hx] at q; cases q
  rw [if_pos hx] at q
  obtain ⟨hx, hC⟩ := hx
  intro φ H locs ls a1 a2 a3 a4 a5 a6 a7 a8
  obtain ⟨cell, h1, h2, h3, -, -, h6, -⟩ := (a1.cel (x := x) (by omega)).2
  obtain ⟨w1, w2, w3⟩ := h6 hx
  exact W.alen (n := nI (gK h x)) X.1 X.2.1 h1 (isArr E X.2.2.2.2 hx hC w1 h3) w2.2 rfl rfl hd (hk _ q φ H locs ls a1 a2 a3 a4 ⟨trivial, a5.2⟩ a6 a7 a8)
end AWA
