/-! ===== ROWS: new int[n][k] ===== -/
section AWM
variable {p : Program} {l : Launch} {e : Env} {R : Room} {s : State} {m : MethodId} {args : Array Value} {below : List Frame} {meth : Method} {c : Code} {Q : State → Prop} {z : State} {D : va_G} {dA : Nat → ClassId} {φ0 : Nat → Nat} {n0 s0 nL : Nat} {lo : Ls} {st : Vs} {h : AH} {o : Ot} {pc pc' : Nat} {za : Array Value} {own : String} {cc : ByteArray}
theorem outer_eq (c : ClassId) (N h0 : Nat) : ∀ i : Nat, Jvm.Free.Multi.outerC c N h0 i = arrV c N (fun j => va_rf (if j < i then some (h0 + 1 + j) else none))
  | 0 => by
    show ({ cls := c, slots := Array.replicate N .null, vm := .none } : Cell) = _
    rw [arrV_new]
    refine congrArg (arrV c N) (funext fun j => ?_)
    simp [va_rf]
  | i + 1 => by
    show (Jvm.Free.Multi.outerC c N h0 i).setSlot i (.ref (h0 + 1 + i)) = _
    rw [outer_eq c N h0 i, arrV_store]
    refine congrArg (arrV c N) (funext fun j => ?_)
    by_cases e : j = i
    · subst e
      simp [updV, va_rf]
    · by_cases h : j < i
      · simp [updV, e, h, Nat.lt_succ_of_lt h]
      · simp [updV, e, h, show ¬ j < i + 1 by omega]
/-- new int[n][k] -/
theorem aw_nwm (E : EV z za D dA) (X : Cx p s m c z own cc nL) {idx : Nat} (hw1 : Cond.classLink own idx "[[I" ∈ lw_tbl ∧ goodWord (Cond.classLink own idx "[[I") = true) (hw2 : Cond.arrayOver (.array .int) ∈ lw_tbl) (hw3 : Cond.arrayClass .int ∈ lw_tbl ∧ goodWord (Cond.arrayClass .int) = true) (hd : decode cc pc = .ok (.multianewarray idx 2, 4)) (hcS : ∀ a b r, st = .int b :: .int a :: r → gN h + (1 + ix a) - n0 ≤ R.cells ∧ gS h + (ix a + ix a * ix b) - s0 ≤ R.slots)
    {K : Vs → AH → Option Ot} (hk : ∀ st h, K st h = some o → AW p l e R s m args below meth c Q z D dA φ0 n0 s0 nL (pc + 4) lo st h) (q : o_nwm h K st = some o) : AW p l e R s m args below meth c Q z D dA φ0 n0 s0 nL pc lo st h := by
  unfold o_nwm at q
  have hW := X.2.2.2.2
  split at q
  case h_2 => cases q
  rename_i b a r
  by_cases hn : a < 0 ∨ b < 0
  case pos => rw [if_pos hn] at q; cases q
  rw [if_neg hn] at q
  by_cases hb : ix a ≤ 1000 ∧ ix b ≤ 1000
  case neg => rw [if_neg hb] at q; cases q
  rw [if_pos hb] at q
  obtain ⟨hc1, hc2⟩ := hcS a b r rfl
  have ha0 : ¬ a < 0 := fun w => hn (Or.inl w)
  have hb0 : ¬ b < 0 := fun w => hn (Or.inr w)
  have hixa : a.toNatClampNeg = ix a := rfl
  have hixb : b.toNatClampNeg = ix b := rfl
  intro φ H locs ls a1 a2 a3 a4 a5 a6 a7 a8
  have hov : (Cond.arrayOver (.array .int)).before args s = true := by
    have h1 : (Cond.arrayOver (.array .int)).before za (z.setVm s.vm) = true := by
      rw [Cond.arrayOver_setVmC hW.alike]; exact E.1 _ hw2
    exact h1
  intro T hT Y
  obtain ⟨vm₁, cA, comp, -, fA, fC, hO, -, Y', step⟩ := Y.multianewarray2F X.1 X.2.2.2.1 (ty := .int) (E.w hW hw1 args) hov (E.w hW hw3 args) (g := F0 m pc ls (.int b :: .int a :: r.map (vmp φ))) rfl (by rw [X.2.1]; exact hd) rfl ha0 hb0 (by rw [hixa]; omega) (by rw [hixb]; show ix b * 4 ≤ _; omega) (by rw [hixb]; omega) rfl rfl (by rw [hixa]; omega) (by rw [hixa, hixb]; omega)
  rw [hixa, hixb] at Y' step
  have e66 : cA = dA 66 := Option.some.inj (fA.symm.trans (((E.2.2.2.1 66 (by omega) (by omega)).1.2).moved hW.alike))
  have e60 : comp = dA 60 := Option.some.inj (fC.symm.trans (((E.2.2.2.1 60 (by omega) (by omega)).1.2).moved hW.alike))
  subst e66 e60
  generalize hF : Jvm.Free.Multi.fill (T.setVm vm₁) (dA 66) (dA 60) (ix a) (ix b) (defaultValue .int) (ix a) = F at Y' step
  have hTh : (T.setVm vm₁).heap = H := hT
  obtain ⟨f1, f2, -, -⟩ := Jvm.Free.Multi.fill_facts (T.setVm vm₁) (dA 66) (dA 60) (ix a) (ix b) (defaultValue .int) (ix a)
  rw [hF, hTh] at f1 f2
  have hold : ∀ x : Nat, x < H.size → F.heap[x]? = H[x]? := fun x hx => by
    have := Jvm.Free.Multi.fill_old (T.setVm vm₁) (dA 66) (dA 60) (ix a) (ix b) (defaultValue .int) (a := x) (by rw [hTh]; exact hx) (ix a)
    rw [hF, hTh] at this
    exact this
  have hrow : ∀ j : Nat, j < ix a → F.heap[H.size + 1 + j]? = some (arrV (dA 60) (ix b) (fun _ => .int 0)) := fun j hj => by
    have := Jvm.Free.Multi.fill_inner (T.setVm vm₁) (dA 66) (dA 60) (ix a) (ix b) (defaultValue .int) (ix a) j hj
    rw [hF, hTh] at this
    rw [this]
    exact congrArg some (arrV_new _ _ _)
  rw [outer_eq] at f2
  have hx : ∀ x, x < gN h → alφ φ (gN h) H.size x = φ x := fun x w => alφ_lt w
  have hN9 : gN (nwM h (ix a) (ix b)) = gN h + (1 + ix a) := rfl
  have hHR : HR z D dA (alφ φ (gN h) H.size) (nwM h (ix a) (ix b)) F.heap := by
    refine a1.alloc (1 + ix a) rfl (fun x hx => ⟨?_, ?_⟩) (fun x hx => ?_) (fun y hy k => ⟨?_, ?_, ?_⟩) (fun y hy j => ⟨?_, ?_, ?_⟩) (fun k x y h1 h2 h3 => ?_) (fun x i y h1 h2 h3 => ?_) (by omega) hold (fun i hi => ?_)
    · show (if x = gN h then 66 else if gN h < x ∧ x < gN h + (1 + ix a) then 60 else gC h x) = _
      rw [if_neg (by omega), if_neg (by omega)]
    · show (if x = gN h then ix a else if gN h < x ∧ x < gN h + (1 + ix a) then ix b else gK h x) = _
      rw [if_neg (by omega), if_neg (by omega)]
    · show (if x = gN h then 66 else if gN h < x ∧ x < gN h + (1 + ix a) then 60 else gC h x) = _
      rw [if_neg (by omega), if_neg (by omega)]
    · exact if_neg (by omega)
    · exact if_neg (by omega)
    · exact if_neg (by omega)
    · exact congrFun (if_neg (by omega)) j
    · exact congrFun (if_neg (by omega)) j
    · show (if y = gN h then _ else if gN h < y ∧ y < gN h + (1 + ix a) then _ else gO h y) j = _
      rw [if_neg (by omega), if_neg (by omega)]
    · rw [hN9] at h3
      have h2' : (if gN h ≤ x ∧ x < gN h + (1 + ix a) then none else gR h k x) = some y := h2
      rw [if_pos ⟨h1, h3⟩] at h2'
      cases h2'
    · rw [hN9] at h3 ⊢
      have h2' : (if x = gN h then (fun i => if i < ix a then some (gN h + 1 + i) else none) else if gN h < x ∧ x < gN h + (1 + ix a) then fun _ => none else gO h x) i = some y := h2
      by_cases q1 : x = gN h
      · rw [if_pos q1] at h2'
        by_cases q2 : i < ix a
        · have h4 : some (gN h + 1 + i) = some y := by rw [← h2']; exact (if_pos q2).symm
          cases h4
          refine ⟨by omega, fun w => ?_⟩
          subst q1
          have w' : (if gN h = gN h then 66 else _) = 65 := w
          rw [if_pos rfl] at w'
          cases w'
        · have h4 : (none : Option Nat) = some y := by rw [← h2']; exact (if_neg q2).symm
          cases h4
      · rw [if_neg q1, if_pos ⟨by omega, h3⟩] at h2'
        cases h2'
    · by_cases q1 : i = 0
      · subst q1
        have hC : gC (nwM h (ix a) (ix b)) (gN h + 0) = 66 := if_pos rfl
        have hK : gK (nwM h (ix a) (ix b)) (gN h + 0) = ix a := if_pos rfl
        have hE : ∀ j, eV (alφ φ (gN h) H.size) (nwM h (ix a) (ix b)) 66 (gN h + 0) j = va_rf (if j < ix a then some (H.size + 1 + j) else none) := by
          intro j
          have hO9 : gO (nwM h (ix a) (ix b)) (gN h + 0) j = if j < ix a then some (gN h + 1 + j) else none := congrFun (if_pos rfl) j
          show va_rf ((gO (nwM h (ix a) (ix b)) (gN h + 0) j).map _) = _
          rw [hO9]
          by_cases q2 : j < ix a
          · rw [if_pos q2, if_pos q2]
            show Value.ref (alφ φ (gN h) H.size (gN h + 1 + j)) = .ref (H.size + 1 + j)
            rw [Nat.add_assoc, alφ_at, Nat.add_assoc]
          · rw [if_neg q2, if_neg q2]; rfl
        refine ⟨_, by rw [alφ_at]; exact f2, (fun q => by cases q), rfl, ?_, ?_, ?_, ?_⟩
        · rw [hC]; exact fun w => absurd w (by omega)
        · rw [hC]; exact fun w => absurd w (by omega)
        · rw [hC, hK]; exact fun _ => ⟨Or.inl rfl, szA_of (arrV_size _ _ _), fun j hj => by rw [hE]; exact arrV_read _ _ hj⟩
        · rw [hC, hK]; exact fun _ _ => congrArg _ (funext fun j => (hE j).symm)
      · have hC : gC (nwM h (ix a) (ix b)) (gN h + i) = 60 := by
          show (if gN h + i = gN h then 66 else if gN h < gN h + i ∧ gN h + i < gN h + (1 + ix a) then 60 else _) = 60
          rw [if_neg (by omega), if_pos (by omega)]
        have hK : gK (nwM h (ix a) (ix b)) (gN h + i) = ix b := by
          show (if gN h + i = gN h then ix a else if gN h < gN h + i ∧ gN h + i < gN h + (1 + ix a) then ix b else _) = ix b
          rw [if_neg (by omega), if_pos (by omega)]
        have hE : ∀ j, eV (alφ φ (gN h) H.size) (nwM h (ix a) (ix b)) 60 (gN h + i) j = .int 0 := by
          intro j
          show Value.int ((if gN h ≤ gN h + i ∧ gN h + i < gN h + (1 + ix a) then fun _ => 0 else gA h (gN h + i)) j) = .int 0
          rw [if_pos (by omega)]
        have hr := hrow (i - 1) (by omega)
        rw [show H.size + 1 + (i - 1) = H.size + i by omega] at hr
        refine ⟨_, by rw [alφ_at]; exact hr, (fun q => by cases q), rfl, ?_, ?_, ?_, ?_⟩
        · rw [hC]; exact fun w => absurd w (by omega)
        · rw [hC]; exact fun w => absurd w (by omega)
        · rw [hC, hK]; exact fun _ => ⟨Or.inl rfl, szA_of (arrV_size _ _ _), fun j hj => by rw [hE]; exact arrV_read _ _ hj⟩
        · rw [hC, hK]; exact fun _ _ => congrArg _ (funext fun j => (hE j).symm)
  have key := hk _ _ q (alφ φ (gN h) H.size) F.heap locs ls hHR (fun x w => (hx x (by omega)).trans (a2 x w)) a3 (a4.ext a6 hx) ⟨by rw [hN9]; show gN h < _; omega, a5.2.2.mono (by rw [hN9]; omega)⟩ (a6.mono (by rw [hN9]; omega)) (by rw [hN9]; omega) (Nat.le_trans a8 (Nat.le_add_right _ _))
  rw [List.map_cons, vmpS_ext hx a5.2.2, show vmp (alφ φ (gN h) H.size) (.ref (gN h)) = .ref H.size from congrArg Value.ref alφ_0] at key
  have hS9 : gS (nwM h (ix a) (ix b)) = gS h + (ix a + ix a * ix b) := rfl
  rw [hN9, hS9, show gN h + (1 + ix a) - n0 = gN h - n0 + 1 + ix a by omega, show gS h + (ix a + ix a * ix b) - s0 = gS h - s0 + ix a + ix a * ix b by omega] at key
  obtain ⟨t, b1, b2⟩ := key F rfl Y'
  refine ⟨t, step t ?_, b2⟩
  rw [show T.heap.size = H.size by rw [hT]]
  exact b1
end AWM
