/-! ===== ROWS: calls ===== -/
theorem spl_spec : ∀ (n : Nat) (acc st as t : Vs), spl n acc st = some (as, t) → ∃ pre : Vs, st = pre ++ t ∧ as = pre.reverse ++ acc ∧ pre.length = n
  | 0, acc, st, as, t, h => by
    cases h
    exact ⟨[], rfl, rfl, rfl⟩
  | n + 1, acc, [], as, t, h => by cases h
  | n + 1, acc, v :: r, as, t, h => by
    obtain ⟨pre, h1, h2, h3⟩ := spl_spec n (v :: acc) r as t h
    refine ⟨v :: pre, by rw [h1]; rfl, ?_, by rw [List.length_cons, h3]⟩
    rw [h2, List.reverse_cons, List.append_assoc]
    rfl
theorem vlS_app {n : Nat} : ∀ {a b : Vs}, vlS n (a ++ b) ↔ vlS n a ∧ vlS n b
  | [], b => ⟨fun h => ⟨trivial, h⟩, fun h => h.2⟩
  | v :: a, b => by
    show vld n v ∧ vlS n (a ++ b) ↔ (vld n v ∧ vlS n a) ∧ vlS n b
    rw [vlS_app]
    exact ⟨fun h => ⟨⟨h.1, h.2.1⟩, h.2.2⟩, fun h => ⟨h.1.1, h.1.2, h.2⟩⟩
theorem vlS_rev {n : Nat} : ∀ {a : Vs}, vlS n a → vlS n a.reverse
  | [], _ => trivial
  | v :: a, h => by
    rw [List.reverse_cons]
    exact vlS_app.mpr ⟨vlS_rev h.2, h.1, trivial⟩
/-- a call is met: the room by its depth d -/
def MetA (mY : Nat → MethodName) (mB : Nat → ByteArray) (mL : Nat → Nat) (mT : Nat → Option FieldType) (l : Launch) (z : State) (D : va_G) (dA : Nat → ClassId) (ext : Nat → Nat) (d y : Nat) (as : Vs) (h : AH) (o : Ot) : Prop :=
  gN h ≤ gN o.2 ∧ gS h ≤ gS o.2 ∧ ∀ φ : Nat → Nat, Met l (mY y) [Cond.code (mY y) (mB y) (mL y) (mT y)] { frames := d, cells := gN o.2 - gN h, slots := gS o.2 - gS h, locals := 100 * d }
    (fun a U => a = (as.map (vmp φ)).toArray ∧ z.WarmedH U.vm ∧ HR z D dA φ h U.heap ∧ vlS (gN h) as ∧ ∀ x, x < 100 → φ x = ext x)
    (fun _ _ oc t => ∃ φ' : Nat → Nat, (∀ x, x < gN h → φ' x = φ x) ∧ oc = .returned (o.1.map (vmp φ')) ∧ HR z D dA φ' o.2 t.heap ∧ ∀ v, o.1 = some v → vld (gN o.2) v)
    (gN o.2 - gN h) (gS o.2 - gS h) (fun q => z.heap.size ≤ q)
/-- what the tables say of a method, whoever calls it -/
def okM (y : MethodName) (b : ByteArray) (ml : Nat) (rt : Option FieldType) : Prop :=
  (Cond.code y b ml rt ∈ lw_tbl ∧ goodWord (Cond.code y b ml rt) = true) ∧ (Cond.initialized y.cls ∈ lw_tbl ∧ goodWord (Cond.initialized y.cls) = true) ∧ (y.cls ≠ "java/lang/invoke/MethodHandle" ∧ y.cls ≠ "java/lang/invoke/VarHandle") ∧ ml ≤ 60
section AWC
variable {p : Program} {l : Launch} {e : Env} {R : Room} {s : State} {m : MethodId} {args : Array Value} {below : List Frame} {meth : Method} {c : Code} {Q : State → Prop} {z : State} {D : va_G} {dA : Nat → ClassId} {φ0 : Nat → Nat} {n0 s0 nL : Nat} {lo : Ls} {st : Vs} {h : AH} {o : Ot} {pc pc' : Nat} {za : Array Value} {own : String} {cc : ByteArray}
variable {mY : Nat → MethodName} {mB : Nat → ByteArray} {mL : Nat → Nat} {mT : Nat → Option FieldType} {ext : Nat → Nat} {d : Nat}
theorem call_fin {y : Nat} {as r : Vs} {o' : Ot} (M : MetA mY mB mL mT l z D dA ext d y as h o') {φ : Nat → Nat} {H : Heap} {locs : List Loc} {ls : Array Slot} {stk : List Value} {aa : Array Value} (a2 : ∀ x, x < n0 → φ x = φ0 x) (a3 : ∀ q ∈ locs, z.heap.size ≤ q.base) (a4 : LR φ ls nL lo) (a5 : vlS (gN h) r) (a6 : vlL (gN h) lo) (a7 : n0 ≤ gN h) (a8 : s0 ≤ gS h)
    (run : ∀ T : State, T.heap = H → Stand p l e R s m args below meth c T locs (gN h - n0) (gS h - s0) → ∃ (v : Option Value) (vm₁ : Vm) (B : Pt), s.WarmedH vm₁ ∧ Stand p l e R s m args below meth c B.U B.locs B.cells B.slots ∧
      PostOf (fun _ _ oc t => ∃ φ' : Nat → Nat, (∀ x, x < gN h → φ' x = φ x) ∧ oc = .returned (o'.1.map (vmp φ')) ∧ HR z D dA φ' o'.2 t.heap ∧ ∀ v, o'.1 = some v → vld (gN o'.2) v) (gN o'.2 - gN h) (gS o'.2 - gS h) (fun q => z.heap.size ≤ q) ⟨T.setVm vm₁, locs, gN h - n0, gS h - s0⟩ aa v B ∧
      ∀ target, Steps p.tables e below (B.U.setTop (F0 m (pc + 3) ls (v.toList ++ r.map (vmp φ)))) target → Steps p.tables e below (T.setTop (F0 m pc ls stk)) target)
    (k : AW p l e R s m args below meth c Q z D dA φ0 n0 s0 nL (pc + 3) lo (o'.1.toList ++ r) o'.2) : W p l e R s m args below meth c H locs (gN h - n0) (gS h - s0) Q (F0 m pc ls stk) := by
  intro T hT Y
  obtain ⟨v, vm₁, ⟨U', l2, c2, s2⟩, hW₁, Y', ⟨g', mk, t, L, e1, e2, ⟨φ', hφ, hoc, hHR, hvl⟩, h1, hL, h2, h3⟩, st⟩ := run T hT Y
  dsimp only [Pt.U, Pt.locs, Pt.cells, Pt.slots] at Y' e1 e2 h1 h2 h3 st
  subst h1; subst h2; subst h3
  have hv : v = o'.1.map (vmp φ') := Outcome.returned.inj hoc
  subst hv
  have key := k φ' U'.heap (locs ++ L) ls (by rw [e1]; exact hHR) (fun x hx => (hφ x (by omega)).trans (a2 x hx)) (fun q hq => (List.mem_append.mp hq).elim (a3 q) (hL q)) (a4.ext a6 hφ) (vlS_app.mpr ⟨?_, a5.mono M.1⟩) (a6.mono M.1) (Nat.le_trans a7 M.1) (Nat.le_trans a8 M.2.1)
  · rw [show gN o'.2 - n0 = gN h - n0 + (gN o'.2 - gN h) by have := M.1; omega, show gS o'.2 - s0 = gS h - s0 + (gS o'.2 - gS h) by have := M.2.1; omega, List.map_append, vmpS_ext hφ a5] at key
    obtain ⟨t2, b1, b2⟩ := key U' rfl Y'
    refine ⟨t2, st t2 ?_, b2⟩
    have e9 : (o'.1.map (vmp φ')).toList = o'.1.toList.map (vmp φ') := by cases o'.1 <;> rfl
    rw [e9]
    exact b1
  · cases ho : o'.1 with
    | none => trivial
    | some w => exact ⟨hvl w ho, trivial⟩
theorem metBack (E : EV z za D dA) (hW : z.WarmedH s.vm) {y : Nat} {as : Vs} {o' : Ot} (M : MetA mY mB mL mT l z D dA ext d y as h o') (ok : okM (mY y) (mB y) (mL y) (mT y)) (hR1 : d + 1 ≤ R.frames) (hR2 : 100 * (d + 1) ≤ R.locals) (φ : Nat → Nat) :
    Back l R p e below s args (mY y) 3 20 (PreOf R (gN o'.2 - gN h) (gS o'.2 - gS h) (fun a U => a = (as.map (vmp φ)).toArray ∧ z.WarmedH U.vm ∧ HR z D dA φ h U.heap ∧ vlS (gN h) as ∧ ∀ x, x < 100 → φ x = ext x)) (PostOf (fun _ _ oc t => ∃ φ' : Nat → Nat, (∀ x, x < gN h → φ' x = φ x) ∧ oc = .returned (o'.1.map (vmp φ')) ∧ HR z D dA φ' o'.2 t.heap ∧ ∀ v, o'.1 = some v → vld (gN o'.2) v) (gN o'.2 - gN h) (gS o'.2 - gS h) (fun q => z.heap.size ≤ q)) := by
  refine back_of (bytes := mB y) (maxL := mL y) (ret := mT y) (M.2.2 φ) (fun a U g mk q => q) rfl rfl hR1 (by have := ok.2.2.2; show 20 + (mL y + 11) + 100 * d ≤ _; omega) (fun w hw a' U hU => ?_) List.mem_cons_self (fun a' U hU => E.w (State.WarmedH.trans hW hU) ok.2.1 a')
  rw [List.mem_singleton.mp hw]
  exact E.w (State.WarmedH.trans hW hU) ok.1 a'
theorem desc_len {y : MethodName} {na : Nat} (h : (parseMethodDescriptor y.desc).map (fun d => d.parameters.length) = some na) {as : Vs} {φ : Nat → Nat} (hl : as.length = na) : ∀ sig, parseMethodDescriptor y.desc = some sig → (as.map (vmp φ)).length = sig.parameters.length := by
  intro sig hs
  rw [hs] at h
  rw [List.length_map, hl]
  exact (Option.some.inj h).symm
/-- invokevirtual -/
theorem aw_inv (E : EV z za D dA) (X : Cx p s m c z own cc nL) {t y na idx : Nat} (ht : 1 ≤ t) (ht2 : t ≤ 15) (ok : okM (mY y) (mB y) (mL y) (mT y)) (hw1 : Cond.methodLink own idx (mY y) ∈ lw_tbl ∧ goodWord (Cond.methodLink own idx (mY y)) = true) (hw2 : Cond.instanceMethod (mY y) ∈ lw_tbl ∧ goodWord (Cond.instanceMethod (mY y)) = true) (hw3 : Cond.selects (cR t) (mY y) (mY y) ∈ lw_tbl ∧ goodWord (Cond.selects (cR t) (mY y) (mY y)) = true)
    (hna : (parseMethodDescriptor (mY y).desc).map (fun d => d.parameters.length) = some na) (hφ0 : ∀ x, x < 100 → φ0 x = ext x) (hn0 : 100 ≤ n0) (hR1 : d + 1 ≤ R.frames) (hR2 : 100 * (d + 1) ≤ R.locals) (hd : decode cc pc = .ok (.invokevirtual idx, 3))
    {call : Cl} (hcall : ∀ as o', call y as h = some o' → MetA mY mB mL mT l z D dA ext d y as h o') {K : Vs → AH → Option Ot} (hk : ∀ st h, K st h = some o → AW p l e R s m args below meth c Q z D dA φ0 n0 s0 nL (pc + 3) lo st h) (hroom : ∀ st h', K st h' = some o → gN h' - n0 ≤ R.cells ∧ gS h' - s0 ≤ R.slots)
    (q : o_inv call h y na t K st = some o) : AW p l e R s m args below meth c Q z D dA φ0 n0 s0 nL pc lo st h := by
  unfold o_inv at q
  split at q
  case h_2 => cases q
  rename_i as x r hspl
  by_cases hx : gC h x = t
  case neg => rw [if_neg hx] at q; cases q
  rw [if_pos hx] at q
  by_cases hsz : Nat.ble (vsz r) 20 = true
  case neg => rw [Bool.eq_false_iff.mpr hsz] at q; cases q
  rw [hsz] at q
  have hsz' : vsz r ≤ 20 := Nat.le_of_ble_eq_true hsz
  cases hc : call y (.ref x :: as) h with
  | none => rw [hc] at q; cases q
  | some o' =>
    rw [hc] at q
    have q' : K (o'.1.toList ++ r) o'.2 = some o := q
    obtain ⟨pre, e1, e2, e3⟩ := spl_spec _ _ _ _ _ hspl
    rw [List.append_nil] at e2
    subst e1
    subst e2
    have M := hcall _ _ hc
    have hW := X.2.2.2.2
    intro φ H locs ls a1 a2 a3 a4 a5 a6 a7 a8
    obtain ⟨b5, b6, b7⟩ := vlS_app.mp a5
    refine call_fin (aa := (Value.ref (φ x) :: pre.reverse.map (vmp φ)).toArray) M a2 a3 a4 b7 a6 a7 a8 (fun T hT Y => ?_) (hk _ _ q')
    obtain ⟨cell, g1, g2, g3⟩ := a1.cls E hW hx ht ht2
    obtain ⟨hc1, hc2⟩ := hroom _ _ q'
    have hst : (pre ++ Value.ref x :: r).map (vmp φ) = (pre.reverse.map (vmp φ)).reverse ++ Value.ref (φ x) :: r.map (vmp φ) := by
      rw [List.map_append, List.map_cons, List.map_reverse, List.reverse_reverse]
      rfl
    exact callV Y X.1 (C := cR t) (bytes := mB y) (maxL := mL y) (ret := mT y) X.2.2.2.1 (E.w hW hw1 args) (E.w hW hw2 args) (E.w hW hw3 args) (E.w hW ok.1 args) ok.2.2.1 (metBack E hW M ok hR1 hR2 φ) (by rw [hT]; exact g1) g2 g3 (g := F0 m pc ls ((pre ++ Value.ref x :: r).map (vmp φ))) rfl (by rw [X.2.2.1]; exact a4.1) (argsL := pre.reverse.map (vmp φ)) (rest := r.map (vmp φ)) (desc_len hna (by rw [List.length_reverse]; exact e3)) hst (by rw [vsz_cat]; show 2 * 0 + vsz r ≤ 20; omega) (by rw [X.2.1]; exact hd)
      (fun vm₁ hW₁ => ⟨by have := M.1; show gN h - n0 + (gN o'.2 - gN h) ≤ _; omega, by have := M.2.1; show gS h - s0 + (gS o'.2 - gS h) ≤ _; omega, rfl, State.WarmedH.trans hW hW₁, by show HR z D dA φ h T.heap; rw [hT]; exact a1, ⟨b6, vlS_rev b5⟩, fun x hx => (a2 x (by omega)).trans (hφ0 x hx)⟩)
/-- invokestatic -/
theorem aw_ins (E : EV z za D dA) (X : Cx p s m c z own cc nL) {y na idx : Nat} (ok : okM (mY y) (mB y) (mL y) (mT y)) (hw1 : Cond.methodLink own idx (mY y) ∈ lw_tbl ∧ goodWord (Cond.methodLink own idx (mY y)) = true) (hw2 : Cond.static (mY y) ∈ lw_tbl ∧ goodWord (Cond.static (mY y)) = true)
    (hna : (parseMethodDescriptor (mY y).desc).map (fun d => d.parameters.length) = some na) (hφ0 : ∀ x, x < 100 → φ0 x = ext x) (hn0 : 100 ≤ n0) (hR1 : d + 1 ≤ R.frames) (hR2 : 100 * (d + 1) ≤ R.locals) (hd : decode cc pc = .ok (.invokestatic idx, 3))
    {call : Cl} (hcall : ∀ as o', call y as h = some o' → MetA mY mB mL mT l z D dA ext d y as h o') {K : Vs → AH → Option Ot} (hk : ∀ st h, K st h = some o → AW p l e R s m args below meth c Q z D dA φ0 n0 s0 nL (pc + 3) lo st h) (hroom : ∀ st h', K st h' = some o → gN h' - n0 ≤ R.cells ∧ gS h' - s0 ≤ R.slots)
    (q : o_ins call h y na K st = some o) : AW p l e R s m args below meth c Q z D dA φ0 n0 s0 nL pc lo st h := by
  unfold o_ins at q
  split at q
  case h_2 => cases q
  rename_i as r hspl
  by_cases hsz : Nat.ble (vsz r) 20 = true
  case neg => rw [Bool.eq_false_iff.mpr hsz] at q; cases q
  rw [hsz] at q
  have hsz' : vsz r ≤ 20 := Nat.le_of_ble_eq_true hsz
  cases hc : call y as h with
  | none => rw [hc] at q; cases q
  | some o' =>
    rw [hc] at q
    have q' : K (o'.1.toList ++ r) o'.2 = some o := q
    obtain ⟨pre, e1, e2, e3⟩ := spl_spec _ _ _ _ _ hspl
    rw [List.append_nil] at e2
    subst e1
    subst e2
    have M := hcall _ _ hc
    have hW := X.2.2.2.2
    intro φ H locs ls a1 a2 a3 a4 a5 a6 a7 a8
    obtain ⟨b5, b7⟩ := vlS_app.mp a5
    refine call_fin (aa := (pre.reverse.map (vmp φ)).toArray) M a2 a3 a4 b7 a6 a7 a8 (fun T hT Y => ?_) (hk _ _ q')
    obtain ⟨hc1, hc2⟩ := hroom _ _ q'
    have hst : (pre ++ r).map (vmp φ) = (pre.reverse.map (vmp φ)).reverse ++ r.map (vmp φ) := by
      rw [List.map_append, List.map_reverse, List.reverse_reverse]
    exact callS Y X.1 (bytes := mB y) (maxL := mL y) (ret := mT y) X.2.2.2.1 (E.w hW hw1 args) (E.w hW hw2 args) (E.w hW ok.2.1 args) (E.w hW ok.1 args) ok.2.2.1 (metBack E hW M ok hR1 hR2 φ) (g := F0 m pc ls ((pre ++ r).map (vmp φ))) rfl (by rw [X.2.2.1]; exact a4.1) (argsL := pre.reverse.map (vmp φ)) (rest := r.map (vmp φ)) (desc_len hna (by rw [List.length_reverse]; exact e3)) hst (by rw [vsz_cat]; show 2 * 0 + vsz r ≤ 20; omega) (by rw [X.2.1]; exact hd)
      (fun vm₁ hW₁ => ⟨by have := M.1; show gN h - n0 + (gN o'.2 - gN h) ≤ _; omega, by have := M.2.1; show gS h - s0 + (gS o'.2 - gS h) ≤ _; omega, rfl, State.WarmedH.trans hW hW₁, by show HR z D dA φ h T.heap; rw [hT]; exact a1, vlS_rev b5, fun x hx => (a2 x (by omega)).trans (hφ0 x hx)⟩)
/-- invokespecial of a constructor -/
theorem aw_ctor (E : EV z za D dA) (X : Cx p s m c z own cc nL) {y na idx : Nat} (ok : okM (mY y) (mB y) (mL y) (mT y)) (hT0 : mT y = none) (hin : (mY y).name = "<init>") (hw1 : (Cond.methodLink own idx (mY y) ∈ lw_tbl ∧ goodWord (Cond.methodLink own idx (mY y)) = true) ∨ ∃ host, Cond.methodLinkNest own idx (mY y) host ∈ lw_tbl) (hw2 : Cond.instanceMethod (mY y) ∈ lw_tbl ∧ goodWord (Cond.instanceMethod (mY y)) = true)
    (hna : (parseMethodDescriptor (mY y).desc).map (fun d => d.parameters.length) = some na) (hφ0 : ∀ x, x < 100 → φ0 x = ext x) (hn0 : 100 ≤ n0) (hR1 : d + 1 ≤ R.frames) (hR2 : 100 * (d + 1) ≤ R.locals) (hd : decode cc pc = .ok (.invokespecial idx, 3))
    {call : Cl} (hcall : ∀ as o', call y as h = some o' → MetA mY mB mL mT l z D dA ext d y as h o') {K : Vs → AH → Option Ot} (hk : ∀ st h, K st h = some o → AW p l e R s m args below meth c Q z D dA φ0 n0 s0 nL (pc + 3) lo st h) (hroom : ∀ st h', K st h' = some o → gN h' - n0 ≤ R.cells ∧ gS h' - s0 ≤ R.slots)
    (q : o_inc call h y na K st = some o) : AW p l e R s m args below meth c Q z D dA φ0 n0 s0 nL pc lo st h := by
  unfold o_inc at q
  split at q
  case h_2 => cases q
  rename_i as x r hspl
  by_cases hsz : Nat.ble (vsz r) 20 = true
  case neg => rw [Bool.eq_false_iff.mpr hsz] at q; cases q
  rw [hsz] at q
  have hsz' : vsz r ≤ 20 := Nat.le_of_ble_eq_true hsz
  cases hc : call y (.ref x :: as) h with
  | none => rw [hc] at q; cases q
  | some o' =>
    rw [hc] at q
    have q' : K (o'.1.toList ++ r) o'.2 = some o := q
    obtain ⟨pre, e1, e2, e3⟩ := spl_spec _ _ _ _ _ hspl
    rw [List.append_nil] at e2
    subst e1
    subst e2
    have M := hcall _ _ hc
    have hW := X.2.2.2.2
    intro φ H locs ls a1 a2 a3 a4 a5 a6 a7 a8
    obtain ⟨b5, b6, b7⟩ := vlS_app.mp a5
    refine call_fin (aa := (Value.ref (φ x) :: pre.reverse.map (vmp φ)).toArray) M a2 a3 a4 b7 a6 a7 a8 (fun T hT Y => ?_) (hk _ _ q')
    obtain ⟨hc1, hc2⟩ := hroom _ _ q'
    have hst : (pre ++ Value.ref x :: r).map (vmp φ) = (pre.reverse.map (vmp φ)).reverse ++ Value.ref (φ x) :: r.map (vmp φ) := by
      rw [List.map_append, List.map_cons, List.map_reverse, List.reverse_reverse]
      rfl
    have hcode := E.w hW ok.1 args
    rw [hT0] at hcode
    have hpre : ∀ vm₁, s.WarmedH vm₁ → PreOf R (gN o'.2 - gN h) (gS o'.2 - gS h) (fun a U => a = ((Value.ref x :: pre.reverse).map (vmp φ)).toArray ∧ z.WarmedH U.vm ∧ HR z D dA φ h U.heap ∧ vlS (gN h) (Value.ref x :: pre.reverse) ∧ ∀ x, x < 100 → φ x = ext x) ⟨T.setVm vm₁, locs, gN h - n0, gS h - s0⟩ (Value.ref (φ x) :: pre.reverse.map (vmp φ)).toArray :=
      fun vm₁ hW₁ => ⟨by have := M.1; show gN h - n0 + (gN o'.2 - gN h) ≤ _; omega, by have := M.2.1; show gS h - s0 + (gS o'.2 - gS h) ≤ _; omega, rfl, State.WarmedH.trans hW hW₁, by show HR z D dA φ h T.heap; rw [hT]; exact a1, ⟨b6, vlS_rev b5⟩, fun x hx => (a2 x (by omega)).trans (hφ0 x hx)⟩
    rcases hw1 with hw1 | ⟨host, hw1⟩
    · exact callI Y X.1 (bytes := mB y) (maxL := mL y) X.2.2.2.1 hin (E.w hW hw1 args) (E.w hW hw2 args) hcode ok.2.2.1 (metBack E hW M ok hR1 hR2 φ) (g := F0 m pc ls ((pre ++ Value.ref x :: r).map (vmp φ))) rfl (by rw [X.2.2.1]; exact a4.1) (a := φ x) (argsL := pre.reverse.map (vmp φ)) (rest := r.map (vmp φ)) (desc_len hna (by rw [List.length_reverse]; exact e3)) hst (by rw [vsz_cat]; show 2 * 0 + vsz r ≤ 20; omega) (by rw [X.2.1]; exact hd) hpre
    · exact va_callIN Y X.1 (bytes := mB y) (maxL := mL y) X.2.2.2.1 hin (va_Nw.use rfl (va_Nw.warmM hW (va_Nw.of rfl (E.1 _ hw1)))) (E.w hW hw2 args) hcode ok.2.2.1 (metBack E hW M ok hR1 hR2 φ) (g := F0 m pc ls ((pre ++ Value.ref x :: r).map (vmp φ))) rfl (by rw [X.2.2.1]; exact a4.1) (a := φ x) (argsL := pre.reverse.map (vmp φ)) (rest := r.map (vmp φ)) (desc_len hna (by rw [List.length_reverse]; exact e3)) hst (by rw [vsz_cat]; show 2 * 0 + vsz r ≤ 20; omega) (by rw [X.2.1]; exact hd) hpre
end AWC
