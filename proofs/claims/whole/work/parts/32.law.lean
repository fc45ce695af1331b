/-! ===== THE LAW'S CODE: as a method's, but for the calls of its wrappers ===== -/
/-- what a call of a wrapper needs: its name, code, table, the call's constant, its arguments' number -/
def wrF (y : MethodName) (cc : ByteArray) (nL : Nat) (hh : List (Nat × Nat × Nat × Nat)) (own : String) (lc : ByteArray) (pc idx na : Nat) : Prop :=
  decode lc pc = .ok (.invokestatic idx, 3) ∧ (Cond.methodLink own idx y ∈ lw_tbl ∧ goodWord (Cond.methodLink own idx y) = true) ∧ (Cond.static y ∈ lw_tbl ∧ goodWord (Cond.static y) = true) ∧ (Cond.initialized y.cls ∈ lw_tbl ∧ goodWord (Cond.initialized y.cls) = true) ∧
  (Cond.codeWith y cc nL (some .int) hh ∈ lw_tbl ∧ goodWord (Cond.codeWith y cc nL (some .int) hh) = true) ∧ (y.cls ≠ "java/lang/invoke/MethodHandle" ∧ y.cls ≠ "java/lang/invoke/VarHandle") ∧ (parseMethodDescriptor y.desc).map (fun d => d.parameters.length) = some na ∧ nL ≤ 60
section LAW
variable {p : Program} {l : Launch} {e : Env} {R : Room} {s : State} {m : MethodId} {args : Array Value} {below : List Frame} {meth : Method} {c : Code} {Q : State → Prop} {z : State} {D : va_G} {dA : Nat → ClassId} {φ0 : Nat → Nat} {n0 s0 nL : Nat} {lo : Ls} {st : Vs} {h : AH} {o : Ot} {pc : Nat} {za : Array Value} {own : String} {cc : ByteArray}
variable {mY : Nat → MethodName} {mB : Nat → ByteArray} {mL : Nat → Nat} {mT : Nat → Option FieldType} {mK : Nat → Nat × Nat × Nat} {exS : List (String × Nat × Nat)} {exZ : List (String × String × String × (Int32 ⊕ Nat))} {ext : Nat → Nat} {d : Nat} {rt : Option FieldType}
theorem call_end {r : Vs} {o' : Ot} (M1 : gN h ≤ gN o'.2) (M2 : gS h ≤ gS o'.2) {φ : Nat → Nat} {H : Heap} {locs : List Loc} {ls : Array Slot} {stk : List Value} {aa : Array Value} (a2 : ∀ x, x < n0 → φ x = φ0 x) (a3 : ∀ q ∈ locs, z.heap.size ≤ q.base) (a4 : LR φ ls nL lo) (a5 : vlS (gN h) r) (a6 : vlL (gN h) lo) (a7 : n0 ≤ gN h) (a8 : s0 ≤ gS h)
    (run : ∀ T : State, T.heap = H → Stand p l e R s m args below meth c T locs (gN h - n0) (gS h - s0) → ∃ (v : Option Value) (vm₁ : Vm) (B : Pt), s.WarmedH vm₁ ∧ Stand p l e R s m args below meth c B.U B.locs B.cells B.slots ∧
      PostOf (fun _ _ oc t => ∃ φ' : Nat → Nat, (∀ x, x < gN h → φ' x = φ x) ∧ oc = .returned (o'.1.map (vmp φ')) ∧ HR z D dA φ' o'.2 t.heap ∧ ∀ v, o'.1 = some v → vld (gN o'.2) v) (gN o'.2 - gN h) (gS o'.2 - gS h) (fun q => z.heap.size ≤ q) ⟨T.setVm vm₁, locs, gN h - n0, gS h - s0⟩ aa v B ∧
      ∀ target, Steps p.tables e below (B.U.setTop (F0 m (pc + 3) ls (v.toList ++ r.map (vmp φ)))) target → Steps p.tables e below (T.setTop (F0 m pc ls stk)) target)
    (k : AW p l e R s m args below meth c Q z D dA φ0 n0 s0 nL (pc + 3) lo (o'.1.toList ++ r) o'.2) : W p l e R s m args below meth c H locs (gN h - n0) (gS h - s0) Q (F0 m pc ls stk) := by
  intro T hT Y
  obtain ⟨v, vm₁, ⟨U', l2, c2, s2⟩, hW₁, Y', ⟨g', mk, t, L, e1, e2, ⟨φ', hφ, hoc, hHR, hvl⟩, h1, hL, h2, h3⟩, st⟩ := run T hT Y
  dsimp only [Pt.U, Pt.locs, Pt.cells, Pt.slots] at Y' e1 e2 h1 h2 h3 st
  subst h1; subst h2; subst h3
  have hv : v = o'.1.map (vmp φ') := Outcome.returned.inj hoc
  subst hv
  have key := k φ' U'.heap (locs ++ L) ls (by rw [e1]; exact hHR) (fun x hx => (hφ x (by omega)).trans (a2 x hx)) (fun q hq => (List.mem_append.mp hq).elim (a3 q) (hL q)) (a4.ext a6 hφ) (vlS_app.mpr ⟨?_, a5.mono M1⟩) (a6.mono M1) (Nat.le_trans a7 M1) (Nat.le_trans a8 M2)
  · rw [show gN o'.2 - n0 = gN h - n0 + (gN o'.2 - gN h) by omega, show gS o'.2 - s0 = gS h - s0 + (gS o'.2 - gS h) by omega, List.map_append, vmpS_ext hφ a5] at key
    obtain ⟨t2, b1, b2⟩ := key U' rfl Y'
    refine ⟨t2, st t2 ?_, b2⟩
    have e9 : (o'.1.map (vmp φ')).toList = o'.1.toList.map (vmp φ') := by cases o'.1 <;> rfl
    rw [e9]
    exact b1
  · cases ho : o'.1 with
    | none => trivial
    | some w => exact ⟨hvl w ho, trivial⟩
/-- a call of a wrapper -/
theorem aw_wrp (E : EV z za D dA) (X : Cx p s m c z own cc nL) {y : MethodName} {wc : ByteArray} {wL : Nat} {hh : List (Nat × Nat × Nat × Nat)} {idx na : Nat} (F : wrF y wc wL hh own cc pc idx na) (hφ0 : ∀ x, x < 100 → φ0 x = ext x) (hn0 : 100 ≤ n0) (hR1 : d + 2 ≤ R.frames) (hR2 : 100 * (d + 2) ≤ R.locals)
    {pre r : Vs} (hst : st = pre ++ r) (hna : pre.length = na) (hr : vsz r ≤ 20) {o' : Ot} (M : MetW y wc wL hh l z D dA ext d pre.reverse h o') (hroom : gN o'.2 - n0 ≤ R.cells ∧ gS o'.2 - s0 ≤ R.slots)
    (k : AW p l e R s m args below meth c Q z D dA φ0 n0 s0 nL (pc + 3) lo (o'.1.toList ++ r) o'.2) : AW p l e R s m args below meth c Q z D dA φ0 n0 s0 nL pc lo st h := by
  obtain ⟨f1, f2, f3, f4, f5, f6, f7, f8⟩ := F
  subst hst
  have hW := X.2.2.2.2
  intro φ H locs ls a1 a2 a3 a4 a5 a6 a7 a8
  obtain ⟨b5, b7⟩ := vlS_app.mp a5
  have hK : Back l R p e below s args y 3 20 (PreOf R (gN o'.2 - gN h) (gS o'.2 - gS h) (fun a U => a = (pre.reverse.map (vmp φ)).toArray ∧ z.WarmedH U.vm ∧ HR z D dA φ h U.heap ∧ vlS (gN h) pre.reverse ∧ ∀ x, x < 100 → φ x = ext x)) (PostOf (fun _ _ oc t => ∃ φ' : Nat → Nat, (∀ x, x < gN h → φ' x = φ x) ∧ oc = .returned (o'.1.map (vmp φ')) ∧ HR z D dA φ' o'.2 t.heap ∧ ∀ v, o'.1 = some v → vld (gN o'.2) v) (gN o'.2 - gN h) (gS o'.2 - gS h) (fun q => z.heap.size ≤ q)) :=
    va_backW (hh := hh) (bytes := wc) (maxL := wL) (ret := some .int) (M.2.2 φ) (fun a U g mk q => q) rfl rfl (by show d + 1 + 1 ≤ R.frames; omega) (by show 20 + (wL + 11) + 100 * (d + 1) ≤ R.locals; omega) (fun w hw a' U hU => by rw [List.mem_singleton.mp hw]; exact E.w (State.WarmedH.trans hW hU) f5 a') List.mem_cons_self (fun a' U hU => E.w (State.WarmedH.trans hW hU) f4 a')
  refine call_end (aa := (pre.reverse.map (vmp φ)).toArray) M.1 M.2.1 a2 a3 a4 b7 a6 a7 a8 (fun T hT Y => ?_) k
  have hstk : (pre ++ r).map (vmp φ) = (pre.reverse.map (vmp φ)).reverse ++ r.map (vmp φ) := by
    rw [List.map_append, List.map_reverse, List.reverse_reverse]
  have m1 := M.1
  have m2 := M.2.1
  exact vx_callSW Y X.1 (hh := hh) (bytes := wc) (maxL := wL) (ret := some .int) X.2.2.2.1 (E.w hW f2 args) (E.w hW f3 args) (E.w hW f4 args) (E.w hW f5 args) f6 hK (g := F0 m pc ls ((pre ++ r).map (vmp φ))) rfl (by rw [X.2.2.1]; exact a4.1) (argsL := pre.reverse.map (vmp φ)) (rest := r.map (vmp φ)) (desc_len f7 (by rw [List.length_reverse]; exact hna)) hstk (by rw [vsz_cat]; show 2 * 0 + vsz r ≤ 20; omega) (by rw [X.2.1]; exact f1)
    (fun vm₁ hW₁ => ⟨by show gN h - n0 + (gN o'.2 - gN h) ≤ _; omega, by show gS h - s0 + (gS o'.2 - gS h) ≤ _; omega, rfl, State.WarmedH.trans hW hW₁, by show HR z D dA φ h T.heap; rw [hT]; exact a1, vlS_rev b5, fun x hx => (a2 x (by omega)).trans (hφ0 x hx)⟩)
end LAW
