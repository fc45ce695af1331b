/-! ===== ROWS: references into arrays, casts, compares, copies, grids ===== -/
section AWR
variable {p : Program} {l : Launch} {e : Env} {R : Room} {s : State} {m : MethodId} {args : Array Value} {below : List Frame} {meth : Method} {c : Code} {Q : State → Prop} {z : State} {D : va_G} {dA : Nat → ClassId} {φ0 : Nat → Nat} {n0 s0 nL : Nat} {lo : Ls} {st : Vs} {h : AH} {o : Ot} {pc pc' : Nat} {za : Array Value} {own : String} {cc : ByteArray}
/-- an object's cell: its class by its name -/
theorem HR.cls (E : EV z za D dA) (hW : z.WarmedH s.vm) {φ : Nat → Nat} {H : Heap} (a : HR z D dA φ h H) {x t : Nat} (hx : gC h x = t) (h1 : 1 ≤ t) (h2 : t ≤ 15) : ∃ cell : Cell, H[φ x]? = some cell ∧ cell.vm.isStatics = false ∧ s.vm.findClass (cR t) = some cell.cls := by
  obtain ⟨cell, g1, g2, g3, g4, -⟩ := (a.cel (x := x) (by omega)).2
  have g5 := (g4 (by omega)).1
  rw [hx] at g5
  refine ⟨cell, g1, g3, ?_⟩
  rw [g5]
  by_cases q : t ≤ 14
  · exact (u_Kn_moved hW.alike (E.2.1 t h1 q)).2.1
  · have e9 : t = 15 := by omega
    subst e9
    rw [hW.alike.findClass]
    exact E.2.2.2.2.1
theorem aw_cast (E : EV z za D dA) (X : Cx p s m c z own cc nL) {t idx x : Nat} {r : Vs} (ht : 1 ≤ t) (ht2 : t ≤ 14) (hw : Cond.classLink own idx (cR t) ∈ lw_tbl ∧ goodWord (Cond.classLink own idx (cR t)) = true) (hx : gC h x = t) (hd : decode cc pc = .ok (.checkcast idx, 3))
    (k : AW p l e R s m args below meth c Q z D dA φ0 n0 s0 nL (pc + 3) lo (.ref x :: r) h) : AW p l e R s m args below meth c Q z D dA φ0 n0 s0 nL pc lo (.ref x :: r) h := by
  intro φ H locs ls a1 a2 a3 a4 a5 a6 a7 a8
  exact va_castS X.1 X.2.1 X.2.2.2.1 (E.w X.2.2.2.2 hw args) (u_Kn_moved X.2.2.2.2.alike (E.2.1 t ht ht2)).2 (a1.cls E X.2.2.2.2 hx ht (by omega)) hd (k φ H locs ls a1 a2 a3 a4 a5 a6 a7 a8)
theorem aw_acmp (X : Cx p s m c z own cc nL) {a b : Vs → Option Ot} {A B : Nat}
    (row : ∀ {H : Heap} {locs : List Loc} {cells slots : Nat} {ls : Array Slot} {rest : List Value} {x y : Nat}, (some x = some y → W p l e R s m args below meth c H locs cells slots Q (F0 m A ls rest)) → (¬ some x = some y → W p l e R s m args below meth c H locs cells slots Q (F0 m B ls rest)) → W p l e R s m args below meth c H locs cells slots Q (F0 m pc ls (va_rf (some y) :: va_rf (some x) :: rest)))
    (ha : ∀ st, a st = some o → AW p l e R s m args below meth c Q z D dA φ0 n0 s0 nL A lo st h) (hb : ∀ st, b st = some o → AW p l e R s m args below meth c Q z D dA φ0 n0 s0 nL B lo st h) (q : o_ifa h a b st = some o) : AW p l e R s m args below meth c Q z D dA φ0 n0 s0 nL pc lo st h := by
  unfold o_ifa at q
  split at q
  case h_2 => cases q
  rename_i y x r
  intro φ H locs ls a1 a2 a3 a4 a5 a6 a7 a8
  refine row (x := φ x) (y := φ y) (fun w => ?_) (fun w => ?_)
  · by_cases e9 : x = y
    · rw [if_pos e9] at q
      exact ha _ q φ H locs ls a1 a2 a3 a4 a5.2.2 a6 a7 a8
    · rw [if_neg e9] at q
      by_cases e8 : gC h x ≠ 0 ∧ gC h y ≠ 0 ∧ (100 ≤ x ∨ 100 ≤ y)
      · exact absurd (a1.2.2.2.1 x y e8.2.2 e8.1 e8.2.1 (Option.some.inj w)) e9
      · rw [if_neg e8] at q; cases q
  · have e9 : ¬ x = y := fun z => w (by rw [z])
    rw [if_neg e9] at q
    by_cases e8 : gC h x ≠ 0 ∧ gC h y ≠ 0 ∧ (100 ≤ x ∨ 100 ≤ y)
    · rw [if_pos e8] at q
      exact hb _ q φ H locs ls a1 a2 a3 a4 a5.2.2 a6 a7 a8
    · rw [if_neg e8] at q; cases q
theorem aw_asa (E : EV z za D dA) (X : Cx p s m c z own cc nL) (hcast : ∀ t, 1 ≤ t → t ≤ 14 → Cond.castable (cR t) "java/lang/Object" ∈ lw_tbl) (hd : decode cc pc = .ok (.aastore, 1))
    {K : Vs → AH → Option Ot} (hk : ∀ st h, K st h = some o → AW p l e R s m args below meth c Q z D dA φ0 n0 s0 nL (pc + 1) lo st h) (q : o_asa h K st = some o) : AW p l e R s m args below meth c Q z D dA φ0 n0 s0 nL pc lo st h := by
  unfold o_asa at q
  have hW := X.2.2.2.2
  split at q
  · rename_i v i x r
    by_cases hx : gC h x = 65 ∧ 100 ≤ x
    case neg => rw [if_neg hx] at q; cases q
    rw [if_pos hx] at q
    obtain ⟨hx, hx1⟩ := hx
    by_cases hv : gC h v ≠ 0 ∧ gC h v < 15
    case neg => rw [if_neg hv] at q; cases q
    rw [if_pos hv] at q
    by_cases hi : i < 0
    case pos => rw [if_pos hi] at q; cases q
    rw [if_neg hi] at q
    by_cases hi2 : ix i < gK h x
    case neg => rw [if_neg hi2] at q; cases q
    rw [if_pos hi2] at q
    intro φ H locs ls a1 a2 a3 a4 a5 a6 a7 a8
    obtain ⟨hxn, cell, h1, h2, h3, -, -, h6, h7⟩ := a1.cel (x := x) (by omega)
    obtain ⟨w1, w2, w3⟩ := h6 (by omega)
    rw [hx] at w1 w3
    have w1 := clA65 w1
    obtain ⟨cv, b1, b2, b3⟩ := a1.cls E hW (x := v) rfl (by omega) (by omega)
    obtain ⟨kA, comp, k1, k2, k3, -⟩ := ((E.2.2.2.1 65 (by omega) (by omega)).1.2).moved hW.alike
    obtain ⟨kE, hkE, -⟩ := Vm.findClass_spec k3
    obtain ⟨kC, hkC, -⟩ := Vm.findClass_spec b3
    obtain ⟨c0, t0, f1, f2, f3⟩ := Cond.castable_spec (va_Nw.use (A := args) rfl (va_Nw.warmC hW (va_Nw.of rfl (E.1 _ (hcast (gC h v) (by omega) (by omega))))))
    have e1 : c0 = cv.cls := Option.some.inj (f1.symm.trans b3)
    have e2 : t0 = comp := Option.some.inj (f2.symm.trans k3)
    subst e1 e2
    refine W.aast X.1 X.2.1 h1 (fun q hq => by rw [hq] at h3; cases h3) h2 (by rw [w1]; exact k1) k2 rfl hkE ⟨hi, Nat.lt_of_lt_of_le hi2 w2.1⟩ b1 (fun q hq => by rw [hq] at b2; cases b2) hkC f3 rfl rfl hd ?_
    intro H' d1 d2 d3
    refine hk _ _ q φ H' _ ls ?_ a2 (locs_app a3 (a1.2.2.2.2.2.1 x hx1 (by omega))) a4 a5.2.2.2 a6 a7 a8
    refine a1.arr hx (by omega) hx1 rfl rfl rfl rfl rfl rfl (fun y hy j => ⟨rfl, rfl, by show up2 (gO h) _ _ _ _ _ = _; rw [up2_nk _ _ _ hy]⟩) (fun k y w => ?_) d2 d3 ?_
    · have w' : up2 (gO h) x (ix i) (some v) x k = some y := w
      by_cases hj : k = ix i
      · subst hj; rw [up2_eq] at w'; cases w'; exact ⟨a5.1, fun _ => ⟨hv.1, hv.2⟩⟩
      · rw [up2_nx _ _ _ hj] at w'; exact a1.vO2 (by omega) w'
    · rw [d1, h7 (by omega) hx1, hx, arrV_store]
      refine congrArg some (congrArg _ (funext fun j => ?_))
      show updV (eV φ h 65 x) (ix i) (.ref (φ v)) j = va_rf ((up2 (gO h) x (ix i) (some v) x j).map φ)
      by_cases hj : j = ix i
      · subst hj; rw [up2_eq]; simp [updV, va_rf]
      · rw [up2_nx _ _ _ hj]
        simp only [updV, if_neg hj]
        rfl
  · rename_i i x r
    by_cases hx : gC h x = 65 ∧ 100 ≤ x
    case neg => rw [if_neg hx] at q; cases q
    rw [if_pos hx] at q
    obtain ⟨hx, hx1⟩ := hx
    by_cases hi : i < 0
    case pos => rw [if_pos hi] at q; cases q
    rw [if_neg hi] at q
    by_cases hi2 : ix i < gK h x
    case neg => rw [if_neg hi2] at q; cases q
    rw [if_pos hi2] at q
    intro φ H locs ls a1 a2 a3 a4 a5 a6 a7 a8
    obtain ⟨hxn, cell, h1, h2, h3, -, -, h6, h7⟩ := a1.cel (x := x) (by omega)
    obtain ⟨w1, w2, w3⟩ := h6 (by omega)
    rw [hx] at w1 w3
    refine va_WaastN (C := "java/lang/Object") X.1 X.2.1 h1 (isArr (t := 65) E hW (by omega) (by omega) w1 h3) h2 (inb_of hi (Nat.lt_of_lt_of_le hi2 w2.1)) rfl rfl hd ?_
    intro H' d1 d2 d3
    refine hk _ _ q φ H' _ ls ?_ a2 (locs_app a3 (a1.2.2.2.2.2.1 x hx1 (by omega))) a4 a5.2.2.2 a6 a7 a8
    refine a1.arr hx (by omega) hx1 rfl rfl rfl rfl rfl rfl (fun y hy j => ⟨rfl, rfl, by show up2 (gO h) _ _ _ _ _ = _; rw [up2_nk _ _ _ hy]⟩) (fun k y w => ?_) d2 d3 ?_
    · have w' : up2 (gO h) x (ix i) none x k = some y := w
      by_cases hj : k = ix i
      · subst hj; rw [up2_eq] at w'; cases w'
      · rw [up2_nx _ _ _ hj] at w'; exact a1.vO2 (by omega) w'
    · rw [d1, h7 (by omega) hx1, hx, arrV_store]
      refine congrArg some (congrArg _ (funext fun j => ?_))
      show updV (eV φ h 65 x) (ix i) .null j = va_rf ((up2 (gO h) x (ix i) none x j).map φ)
      by_cases hj : j = ix i
      · subst hj; rw [up2_eq]; simp [updV, va_rf]
      · rw [up2_nx _ _ _ hj]
        simp only [updV, if_neg hj]
        rfl
  · cases q
theorem vsz_cat (φ : Nat → Nat) : ∀ r : Vs, ((r.map (vmp φ)).map fun v => v.category).sum = vsz r
  | [] => rfl
  | v :: t => by
    rw [List.map_cons, List.map_cons, List.sum_cons, vsz_cat φ t]
    cases v <;> rfl
/-- System.arraycopy of arrays that are known cells -/
theorem cp_row (X : Cx p s m c z own cc nL) {idx : Nat} (hlink : (Cond.methodLink own idx arraycopyName).before args s = true) (hnat : (Cond.native arraycopyName).before args s = true) (hstat : (Cond.static arraycopyName).before args s = true) (hini : (Cond.initialized "java/lang/System").before args s = true)
    {H : Heap} {locs : List Loc} {cells slots : Nat} {ls : Array Slot} {rest : List Value} (hls : ls.size = nL) {a0 a : Nat} {cA comp : ClassId} {kA : Class} {n0 n1 : Nat} {F G : Nat → Value} {ty : FieldType} (hc0 : H[a0]? = some (arrV cA n0 F)) (hc1 : H[a]? = some (arrV cA n1 G)) (hkA : s.vm.classes[cA]? = some kA) (hkk : kA.kind = .array comp ty)
    {sp dp n : Int32} (h1 : ¬ sp < 0) (h2 : ¬ dp < 0) (h3 : ¬ n < 0) (h4 : ix sp + ix n ≤ n0) (h5 : ix dp + ix n ≤ n1)
    (hvals : ∀ T : State, T.heap = H → ∀ vm', s.vm.Alike vm' → ∀ i, i < ix n → fits ty (F (ix sp + i)) = true ∧ (T.setVm vm').takes comp (F (ix sp + i)))
    (hframes : 1 ≤ R.frames) (hlocals : (rest.map fun v => v.category).sum + (nativeFrameWords "java/lang/System" "arraycopy" 5 + 11) ≤ R.locals) (hd : decode cc pc = .ok (.invokestatic idx, 3))
    (kk : ∀ (H1 : Heap) (locs1 : List Loc), H1[a]? = some (arrV cA n1 (va_cpy F G (ix sp) (ix dp) (ix n))) → H1.size = H.size → (∀ q, q ≠ a → H1[q]? = H[q]?) → (∀ q ∈ locs1, q ∈ locs ∨ q.base = a) → W p l e R s m args below meth c H1 locs1 cells slots Q (F0 m (pc + 3) ls rest)) : W p l e R s m args below meth c H locs cells slots Q (F0 m pc ls (.int n :: .int dp :: .ref a :: .int sp :: .ref a0 :: rest)) := by
  have nn : ∀ z : Int32, ¬ z < 0 → z.toInt = (z.toNatClampNeg : Int) := by
    intro z hz
    have hz0 : (0 : Int) ≤ z.toInt := by
      have := Int32.not_lt.mp hz
      simpa using Int32.le_iff_toInt_le.mp this
    show z.toInt = ((z.toInt.toNat : Nat) : Int)
    omega
  have h4' : sp.toNatClampNeg + n.toNatClampNeg ≤ n0 := h4
  have h5' : dp.toNatClampNeg + n.toNatClampNeg ≤ n1 := h5
  intro T hT Y
  obtain ⟨vm', Y', step⟩ := Y.arraycopy X.1 X.2.2.2.1 hlink hnat hstat hini (src := a0) (dst := a) (cs := arrV cA n0 F) (cd := arrV cA n1 G) (srcPos := sp) (destPos := dp) (n := n) (by rw [hT]; exact hc0) (by rw [hT]; exact hc1)
    (fun _ h => by cases h) (fun _ h => by cases h) (fun h => by cases h) (fun h => by cases h) hkA hkA hkk hkk (by simp) h1 h2 h3
    (by rw [nn sp h1, nn n h3, arrV_size]; omega) (by rw [nn dp h2, nn n h3, arrV_size]; omega)
    (fun vm₁ hal i hi => by
      have e9 : (arrV cA n0 F).slots.getD (sp.toNatClampNeg + i) .null = F (ix sp + i) := by
        rw [Array.getD_eq_getD_getElem?, arrV_read _ _ (by omega)]
        rfl
      rw [e9]
      exact hvals T hT vm₁ hal i hi)
    (g := F0 m pc ls (.int n :: .int dp :: .ref a :: .int sp :: .ref a0 :: rest)) rfl (by rw [X.2.2.1]; exact hls) (rest := rest) rfl (by rw [X.2.1]; exact hd) hframes (by show 2 * 0 + _ + _ ≤ _; omega)
  have e1 : copied (arrV cA n0 F) (arrV cA n1 G) sp dp n = arrV cA n1 (va_cpy F G (ix sp) (ix dp) (ix n)) := va_copied (fun v => v) cA cA F G h4
  rw [e1] at Y' step
  have hl : a < H.size := (Array.getElem?_eq_some_iff.mp hc1).1
  have hheap : ((T.setVm vm').setCell a (arrV cA n1 (va_cpy F G (ix sp) (ix dp) (ix n)))).heap = H.setIfInBounds a (arrV cA n1 (va_cpy F G (ix sp) (ix dp) (ix n))) := by rw [← hT]; rfl
  obtain ⟨t, b1, b2⟩ := kk _ _ (show (H.setIfInBounds a _)[a]? = some _ by simp [Array.getElem?_setIfInBounds, hl]) (by simp) (fun q hq => by simp [Array.getElem?_setIfInBounds, Ne.symm hq]) (fun q hq => by
      rcases List.mem_append.mp hq with h | h
      · exact Or.inl h
      · obtain ⟨w, -, hw⟩ := List.mem_map.mp h
        rw [← hw]
        exact Or.inr rfl) _ hheap Y'
  exact ⟨t, step t b1, b2⟩
theorem cpy_mk {α β : Type} (mk : α → β) (f g : Nat → α) (sp dp n j : Nat) : va_cpy (fun i => mk (f i)) (fun i => mk (g i)) sp dp n j = mk (va_cpy f g sp dp n j) := by
  unfold va_cpy
  split <;> rfl
theorem cpy_mem {α : Type} {f g : Nat → α} {sp dp n j : Nat} {P : α → Prop} (h1 : ∀ i, P (f i)) (h2 : ∀ i, P (g i)) : P (va_cpy f g sp dp n j) := by
  unfold va_cpy
  split
  · exact h1 _
  · exact h2 _
/-- System.arraycopy -/
theorem aw_cpy (E : EV z za D dA) (X : Cx p s m c z own cc nL) {t idx : Nat} (ht : t = 60 ∨ t = 61 ∨ t = 65) (hcast : ∀ t, 1 ≤ t → t ≤ 14 → Cond.castable (cR t) "java/lang/Object" ∈ lw_tbl)
    (hw1 : Cond.methodLink own idx arraycopyName ∈ lw_tbl ∧ goodWord (Cond.methodLink own idx arraycopyName) = true) (hw2 : Cond.native arraycopyName ∈ lw_tbl ∧ goodWord (Cond.native arraycopyName) = true) (hw3 : Cond.static arraycopyName ∈ lw_tbl ∧ goodWord (Cond.static arraycopyName) = true) (hw4 : Cond.initialized "java/lang/System" ∈ lw_tbl ∧ goodWord (Cond.initialized "java/lang/System") = true)
    (hd : decode cc pc = .ok (.invokestatic idx, 3)) (hframes : 1 ≤ R.frames) (hlocals : 20 + (nativeFrameWords "java/lang/System" "arraycopy" 5 + 11) ≤ R.locals)
    {K : Vs → AH → Option Ot} (hk : ∀ st h, K st h = some o → AW p l e R s m args below meth c Q z D dA φ0 n0 s0 nL (pc + 3) lo st h) (q : o_cpy h t K st = some o) : AW p l e R s m args below meth c Q z D dA φ0 n0 s0 nL pc lo st h := by
  unfold o_cpy at q
  have hW := X.2.2.2.2
  split at q
  case h_2 => cases q
  rename_i n dp y sp x r
  by_cases hx : gC h x = t ∧ gC h y = t ∧ 100 ≤ x ∧ 100 ≤ y ∧ vsz r ≤ 20
  case neg => rw [if_neg hx] at q; cases q
  rw [if_pos hx] at q
  obtain ⟨hx, hy, hx1, hy1, hsz⟩ := hx
  by_cases hn : n < 0 ∨ dp < 0 ∨ sp < 0
  case pos => rw [if_pos hn] at q; cases q
  rw [if_neg hn] at q
  by_cases hb : ix sp + ix n ≤ gK h x ∧ ix dp + ix n ≤ gK h y
  case neg => rw [if_neg hb] at q; cases q
  rw [if_pos hb] at q
  have h1 : ¬ sp < 0 := fun w => hn (Or.inr (Or.inr w))
  have h2 : ¬ dp < 0 := fun w => hn (Or.inr (Or.inl w))
  have h3 : ¬ n < 0 := fun w => hn (Or.inl w)
  intro φ H locs ls a1 a2 a3 a4 a5 a6 a7 a8
  obtain ⟨hxn, cell, g1, g2, g3, -, -, g6, g7⟩ := a1.cel (x := x) (by omega)
  obtain ⟨hyn, cell', f1, f2, f3, -, -, f6, f7⟩ := a1.cel (x := y) (by omega)
  rw [g7 (by omega) hx1, hx] at g1
  rw [f7 (by omega) hy1, hy] at f1
  obtain ⟨-, kA, hkA, comp, hkk⟩ := arrOfT_moved hW.alike (E.2.2.2.1 t (by omega) (by omega)).1.1 0 (fun _ => .null)
  have hcat := vsz_cat φ r
  refine cp_row X (E.w hW hw1 args) (E.w hW hw2 args) (E.w hW hw3 args) (E.w hW hw4 args) a4.1 g1 f1 hkA hkk h1 h2 h3 hb.1 hb.2 ?_ hframes (by rw [hcat]; omega) hd ?_
  · intro T hT vm' hal i hi
    rcases ht with rfl | rfl | rfl
    · exact ⟨rfl, trivial⟩
    · exact ⟨rfl, trivial⟩
    · show fits (.object "java/lang/Object") (va_rf ((gO h x (ix sp + i)).map φ)) = true ∧ _
      show fits (.object "java/lang/Object") (va_rf ((gO h x (ix sp + i)).map φ)) = true ∧ (T.setVm vm').takes comp (va_rf ((gO h x (ix sp + i)).map φ))
      cases hv : gO h x (ix sp + i) with
      | none => exact ⟨rfl, trivial⟩
      | some v =>
        obtain ⟨d1, d2⟩ := (a1.vO2 (by omega) hv).2 hx
        obtain ⟨cv, b1, b2, b3⟩ := a1.cls E hW (x := v) rfl (by omega) (by omega)
        obtain ⟨kB, cm, k1, k2, k3, -⟩ := ((E.2.2.2.1 65 (by omega) (by omega)).1.2).moved hW.alike
        cases hkA.symm.trans k1
        cases hkk.symm.trans k2
        obtain ⟨kE, hkE, -⟩ := Vm.findClass_spec k3
        obtain ⟨kC, hkC, -⟩ := Vm.findClass_spec b3
        obtain ⟨c0, t0, u1, u2, u3⟩ := Cond.castable_spec (va_Nw.use (A := args) rfl (va_Nw.warmC hW (va_Nw.of rfl (E.1 _ (hcast (gC h v) (by omega) (by omega))))))
        have e1 : c0 = cv.cls := Option.some.inj (u1.symm.trans b3)
        have e2 : t0 = comp := Option.some.inj (u2.symm.trans k3)
        subst e1 e2
        obtain ⟨kC', hkC', -⟩ := hal.2.2 _ _ hkC
        obtain ⟨kE', hkE', -⟩ := hal.2.2 _ _ hkE
        refine ⟨rfl, cv, (show T.heap[φ v]? = some cv by rw [hT]; exact b1), (fun q w => by rw [w] at b2; cases b2), ⟨kC', hkC'⟩, ⟨kE', hkE'⟩, ?_⟩
        show vm'.assignable _ _ = true
        rw [hal.assignable]
        exact u3
  · intro H1 locs1 b1 b2 b3 b4
    have a3' : ∀ w ∈ locs1, z.heap.size ≤ w.base := fun w hw => (b4 w hw).elim (a3 w) (fun e9 => by rw [e9]; exact a1.2.2.2.2.2.1 y hy1 (by omega))
    rcases ht with rfl | rfl | rfl
    · refine hk _ _ q φ H1 locs1 ls ?_ a2 a3' a4 a5.2.2.2.2.2 a6 a7 a8
      refine a1.arr hy (by omega) hy1 rfl rfl rfl rfl rfl rfl (fun w hw j => ⟨congrFun (up1_ne _ _ hw) j, rfl, rfl⟩) (fun k w e9 => a1.vO2 (x := y) (by omega) e9) b2 b3 (b1.trans (congrArg some (congrArg _ (funext fun j => ?_))))
      show va_cpy (fun j => Value.int (gA h x j)) (fun j => Value.int (gA h y j)) _ _ _ j = .int (up1 (gA h) y _ y j)
      rw [up1_eq, cpy_mk]
    · refine hk _ _ q φ H1 locs1 ls ?_ a2 a3' a4 a5.2.2.2.2.2 a6 a7 a8
      refine a1.arr hy (by omega) hy1 rfl rfl rfl rfl rfl rfl (fun w hw j => ⟨rfl, congrFun (up1_ne _ _ hw) j, rfl⟩) (fun k w e9 => a1.vO2 (x := y) (by omega) e9) b2 b3 (b1.trans (congrArg some (congrArg _ (funext fun j => ?_))))
      show va_cpy (fun j => Value.long (gB h x j)) (fun j => Value.long (gB h y j)) _ _ _ j = .long (up1 (gB h) y _ y j)
      rw [up1_eq, cpy_mk]
    · refine hk _ _ q φ H1 locs1 ls ?_ a2 a3' a4 a5.2.2.2.2.2 a6 a7 a8
      refine a1.arr hy (by omega) hy1 rfl rfl rfl rfl rfl rfl (fun w hw j => ⟨rfl, rfl, congrFun (up1_ne _ _ hw) j⟩) (fun k w e9 => ?_) b2 b3 (b1.trans (congrArg some (congrArg _ (funext fun j => ?_))))
      · have e8 : up1 (gO h) y (va_cpy (gO h x) (gO h y) (ix sp) (ix dp) (ix n)) y k = some w := e9
        rw [up1_eq] at e8
        revert e8
        refine cpy_mem (P := fun v => v = some w → w < gN h ∧ (gC h y = 65 → gC h w ≠ 0 ∧ gC h w < 15)) (fun i e7 => ?_) (fun i e7 => a1.vO2 (x := y) (by omega) e7)
        have := a1.vO2 (x := x) (by omega) e7
        exact ⟨this.1, fun _ => this.2 hx⟩
      · show va_cpy (fun j => va_rf ((gO h x j).map φ)) (fun j => va_rf ((gO h y j).map φ)) _ _ _ j = va_rf ((up1 (gO h) y _ y j).map φ)
        rw [up1_eq]
        exact cpy_mk (fun v : Option Nat => va_rf (v.map φ)) _ _ _ _ _ _
end AWR
