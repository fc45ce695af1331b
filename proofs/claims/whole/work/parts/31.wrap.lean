/-! ===== THE LAW'S WRAPPERS: a call that may throw, caught ===== -/
theorem Met.ofWH {l : Launch} {y : MethodName} {ws ws' : List Cond} {rm : Room} {Pc : Array Value → State → Prop} {Qc : Array Value → State → Outcome → State → Prop} {mc ms : Nat} {free : Addr → Prop} {cc : ByteArray} {maxL : Nat} {ret : Option FieldType} {hh : List (Nat × Nat × Nat × Nat)}
    (hy : plainName y.cls = true) (hw : ws = Cond.codeWith y cc maxL ret hh :: ws')
    (body : ∀ p e s m args below meth c s₁, BodyLoose p l y (headSpec ws rm) cc maxL ret e s m args below meth c s₁ → c.maxLocals = maxL → c.exceptionTable.toList = tableOf hh → Pc args s →
      W p l e (headSpec ws rm).room s m args below meth c s.heap [] 0 0 (MQ below Qc args s mc ms free) (entryFrame m args maxL)) : Met l y ws rm Pc Qc mc ms free := by
  refine MetFree.of_bodyS (code := cc) (maxLocals := maxL) (ret := ret) hy ?_ ?_
  · intro args s m h hn
    obtain ⟨m9, meth, c, hn9, h1, h2, h3, h4, -, h5, h6, -⟩ := Cond.codeWith_spec (atoms_spec (ws := ws) h _ (by rw [hw]; exact List.mem_cons_self))
    cases hn.symm.trans hn9
    exact ⟨meth, c, h1, h2, h3, h4, h5, h6⟩
  · intro p e s m args below meth c s₁ B hml hP _
    have hh0 : s₁.heap = s.heap := by rw [B.state]; rfl
    have ht := vx_table (x := y) B (atoms_spec (ws := ws) B.pre _ (by rw [hw]; exact List.mem_cons_self))
    obtain ⟨t, a1, o, b1, b2, b3⟩ := body p e s m args below meth c s₁ B hml ht hP s₁ hh0 (Stand.of_body B)
    exact ⟨t, o, a1, b1, b2, ⟨b3.1, b3.2⟩⟩
/-- a wrapper's call is met -/
def MetW (y : MethodName) (cc : ByteArray) (nL : Nat) (hh : List (Nat × Nat × Nat × Nat)) (l : Launch) (z : State) (D : va_G) (dA : Nat → ClassId) (ext : Nat → Nat) (d : Nat) (as : Vs) (h : AH) (o : Ot) : Prop :=
  gN h ≤ gN o.2 ∧ gS h ≤ gS o.2 ∧ ∀ φ : Nat → Nat, Met l y [Cond.codeWith y cc nL (some .int) hh] { frames := d + 1, cells := gN o.2 - gN h, slots := gS o.2 - gS h, locals := 100 * (d + 1) }
    (fun a U => a = (as.map (vmp φ)).toArray ∧ z.WarmedH U.vm ∧ HR z D dA φ h U.heap ∧ vlS (gN h) as ∧ ∀ x, x < 100 → φ x = ext x)
    (fun _ _ oc t => ∃ φ' : Nat → Nat, (∀ x, x < gN h → φ' x = φ x) ∧ oc = .returned (o.1.map (vmp φ')) ∧ HR z D dA φ' o.2 t.heap ∧ ∀ v, o.1 = some v → vld (gN o.2) v)
    (gN o.2 - gN h) (gS o.2 - gS h) (fun q => z.heap.size ≤ q)
section WRP
variable {l : Launch} {z : State} {D : va_G} {dA : Nat → ClassId} {za : Array Value}
variable {mY : Nat → MethodName} {mB : Nat → ByteArray} {mL : Nat → Nat} {mT : Nat → Option FieldType} {mK : Nat → Nat × Nat × Nat} {exS : List (String × Nat × Nat)} {exZ : List (String × String × String × (Int32 ⊕ Nat))} {ext : Nat → Nat}
/-- the end of a method that gives an int -/
theorem ret_int {p : Program} {e : Env} {R : Room} {s : State} {m : MethodId} {args : Array Value} {below : List Frame} {meth : Method} {c : Code} {φ : Nat → Nat} {h : AH} {nL : Nat} {o : Ot} {own : String} {cc : ByteArray} (X : Cx p s m c z own cc nL) (hlk : meth.locks = false) (hrt : meth.sig.returnType = some .int) :
    RET p l e R s m args below meth c (MQ below (fun _ _ oc t => ∃ φ' : Nat → Nat, (∀ x, x < gN h → φ' x = φ x) ∧ oc = .returned (o.1.map (vmp φ')) ∧ HR z D dA φ' o.2 t.heap ∧ ∀ v, o.1 = some v → vld (gN o.2) v) args s (gN o.2 - gN h) (gS o.2 - gS h) (fun q => z.heap.size ≤ q)) z D dA φ (gN h) (gS h) nL cc (some .int) o := by
  refine ⟨fun pc lo v h' hd ⟨ty, ht, hn⟩ ho => ?_, fun pc lo v h' hd ht ho => (by cases ht), fun pc lo v h' hd ht ho => (by cases ht), fun pc lo h' hd ht ho => (by cases ht)⟩
  subst ho
  intro φ' H locs ls a1 a2 a3 a4 a5 a6 a7 a8
  exact W.zret X.1 X.2.1 (hrt.trans ht) hn (fun t e1 e2 => ⟨φ', a2, rfl, by rw [e1]; exact a1, fun w hw => by cases hw; trivial⟩) a3 hd hlk
theorem wrpA (G : GL mY mB mL mT mK exS exZ z ext) (E : EV z za D dA) {cd : Nat → Nat → CI} {N : Nat} (hcd : ∀ y, (∀ pc, (cd y pc).1 = .nop) ∨ okT mY mB mL mT mK exS exZ cd y) {y : MethodName} {cc : ByteArray} {nL : Nat} {hh : List (Nat × Nat × Nat × Nat)} {cw : Nat → CI} (hy : plainName y.cls = true)
    (hw : ∀ pc, (cw pc).1 = .nop ∨ okB wQ wQ0 mY mK exS exZ y.cls cc nL false (some .int) pc (cw pc) = true) {d : Nat} {as : Vs} {h : AH} {o : Ot} (hlen : (arL as).length ≤ nL) (q : rnF (evM cd mL N d) cw N 0 (pdL (arL as) nL) [] h = some o) : MetW y cc nL hh l z D dA ext d as h o := by
  have M := rnF_mo (evM_mo d) N 0 _ _ _ q
  refine ⟨M.1, M.2, fun φ => Met.ofWH (cc := cc) (maxL := nL) (ret := some .int) hy rfl ?_⟩
  intro p e s m args below meth c s₁ B hml htb hP
  obtain ⟨rfl, hW, hH, hv, hx⟩ := hP
  have X : Cx p s m c z y.cls cc nL := ⟨B.exec, B.bytes, hml, findClass_of_methodNamed B.named, hW⟩
  have hn0 : 100 ≤ gN h := hH.2.2.1
  have key := rnF_ok (l := l) (p := p) (e := e) (R := (headSpec [Cond.codeWith y cc nL (some .int) hh] { frames := d + 1, cells := gN o.2 - gN h, slots := gS o.2 - gS h, locals := 100 * (d + 1) }).room) (s := s) (m := m) (args := (as.map (vmp φ)).toArray) (below := below) (meth := meth) (c := c) (φ0 := φ) (n0 := gN h) (s0 := gS h) (o := o) (d := d) (ini := false) (rt := some .int)
    G E X (fun w => by cases w) hx hn0 (Nat.le_refl _) (Nat.le_refl _) (Nat.le_refl _) (Nat.le_refl _) hw (evM_ok G E hcd d) (evM_mo d) (ret_int X B.notSynchronized B.returns) N 0 _ _ _ q
  have ent := lv_entry (as.map (vmp φ)) (n := nL) (by rw [arL_len]; exact hlen)
  have w := key φ s.heap [] _ hH (fun _ _ => rfl) (fun q hq => by cases hq) ⟨ent.1, ent.2.1, fun i v hi => ?_⟩ trivial (fun i v hi => vl_ar hv i v (ldL_app _ _ _ _ hi)) (Nat.le_refl _) (Nat.le_refl _)
  · rw [Nat.sub_self, Nat.sub_self] at w
    rw [lg_entry_eq]
    exact w
  · have := ldL_ar φ as 0 i v (ldL_app _ _ _ _ hi)
    rw [Nat.zero_add] at this
    exact ent.2.2 _ this
/-- the call throws: the wrapper catches it -/
theorem wrpB (hl : l.stackTraces = false) (G : GL mY mB mL mT mK exS exZ z ext) (E : EV z za D dA) {cd : Nat → Nat → CI} {N : Nat} (hcd : ∀ y, (∀ pc, (cd y pc).1 = .nop) ∨ okT mY mB mL mT mK exS exZ cd y) {y : MethodName} {cc : ByteArray} {nL : Nat} {hs he hp ct : Nat} {cw : Nat → CI} (hy : plainName y.cls = true)
    (hw : ∀ pc, (cw pc).1 = .nop ∨ okB wQ wQ0 mY mK exS exZ y.cls cc nL false (some .int) pc (cw pc) = true) {d d' : Nat} {as : Vs} {h h1 h2 : AH} {o : Ot} (hlen : (arL as).length ≤ nL) {Pi idx yv na : Nat} {lo1 : Ls} {st1 pre r : Vs} {x : Nat} {cls : String}
    (hdec : decode cc Pi = .ok (.invokevirtual idx, 3)) (hst : st1 = pre ++ .ref x :: r) (hna : pre.length = na) (hxc : gC h1 x = 13) (hr : vsz r ≤ 20) (hmk : mK yv = (1, 13, na)) (hml : Cond.methodLink y.cls idx (mY yv) ∈ lw_tbl ∧ goodWord (Cond.methodLink y.cls idx (mY yv)) = true)
    (hcov : covers ((tableOf [(hs, he, hp, ct)]).headD default) Pi = true) (hct : ct ≠ 0) (hcl : Cond.classLink y.cls ct cls ∈ lw_tbl ∧ goodWord (Cond.classLink y.cls ct cls) = true) (hca : Cond.castable cls cls ∈ lw_tbl) (hd : d' + 1 ≤ d)
    (hth : ∀ φ : Nat → Nat, vx_Met l (mY yv) [Cond.code (mY yv) (mB yv) (mL yv) (mT yv)] { frames := d' + 1, cells := gN h2 + 1 - gN h1, slots := gS h2 + 6 - gS h1, locals := 100 * (d' + 1) }
      (fun a U => a = ((Value.ref x :: pre.reverse).map (vmp φ)).toArray ∧ z.WarmedH U.vm ∧ HR z D dA φ h1 U.heap ∧ vlS (gN h1) (Value.ref x :: pre.reverse) ∧ ∀ x, x < 100 → φ x = ext x) (fun _ _ _ _ => False)
      (fun E _ t => E = cls ∧ ∃ φ' : Nat → Nat, (∀ x, x < gN h1 → φ' x = φ x) ∧ HR z D dA φ' h2 t.heap) (gN h2 + 1 - gN h1) (gS h2 + 6 - gS h1) (fun q => z.heap.size ≤ q)) (hm2 : gN h1 ≤ gN h2 ∧ gS h1 ≤ gS h2)
    (q1 : rnT (evM cd mL N d) cw Pi (fun lo st _ => lo = lo1 ∧ st = st1) N 0 (pdL (arL as) nL) [] h = some (some (.double 0), h1)) (q3 : rnF (evM cd mL N d) cw N hp lo1 [.ref (gN h2)] (nw h2 0 0 6) = some o) : MetW y cc nL [(hs, he, hp, ct)] l z D dA ext d as h o := by
  have M1 : mo h (some (.double 0), h1) := rnT_mo (evM_mo d) N 0 _ _ _ q1
  have M3 := rnF_mo (evM_mo d) N hp _ _ _ q3
  have e1 : gN h ≤ gN h1 := M1.1
  have e2 : gS h ≤ gS h1 := M1.2
  have e3 : gN h2 + 1 ≤ gN o.2 := M3.1
  have e4 : gS h2 + 6 ≤ gS o.2 := M3.2
  refine ⟨by omega, by omega, fun φ => Met.ofWH (cc := cc) (maxL := nL) (ret := some .int) hy rfl ?_⟩
  intro p e s m args below meth c s₁ B hmlx htb hP
  obtain ⟨rfl, hW, hH, hv, hx⟩ := hP
  have X : Cx p s m c z y.cls cc nL := ⟨B.exec, B.bytes, hmlx, findClass_of_methodNamed B.named, hW⟩
  have hn0 : 100 ≤ gN h := hH.2.2.1
  have kH := rnF_ok (l := l) (p := p) (e := e) (R := (headSpec [Cond.codeWith y cc nL (some .int) [(hs, he, hp, ct)]] { frames := d + 1, cells := gN o.2 - gN h, slots := gS o.2 - gS h, locals := 100 * (d + 1) }).room) (s := s) (m := m) (args := (as.map (vmp φ)).toArray) (below := below) (meth := meth) (c := c) (φ0 := φ) (n0 := gN h) (s0 := gS h) (o := o) (d := d) (ini := false) (rt := some .int)
    G E X (fun w => by cases w) hx hn0 (Nat.le_refl _) (Nat.le_refl _) (Nat.le_refl _) (Nat.le_refl _) hw (evM_ok G E hcd d) (evM_mo d) (ret_int X B.notSynchronized B.returns) N hp _ _ _ q3
  have key := rnT_ok (l := l) (p := p) (e := e) (R := (headSpec [Cond.codeWith y cc nL (some .int) [(hs, he, hp, ct)]] { frames := d + 1, cells := gN o.2 - gN h, slots := gS o.2 - gS h, locals := 100 * (d + 1) }).room) (s := s) (m := m) (args := (as.map (vmp φ)).toArray) (below := below) (meth := meth) (c := c)
    (Q := MQ below (fun _ _ oc t => ∃ φ' : Nat → Nat, (∀ x, x < gN h → φ' x = φ x) ∧ oc = .returned (o.1.map (vmp φ')) ∧ HR z D dA φ' o.2 t.heap ∧ ∀ v, o.1 = some v → vld (gN o.2) v) (as.map (vmp φ)).toArray s (gN o.2 - gN h) (gS o.2 - gS h) (fun q => z.heap.size ≤ q)) (φ0 := φ) (n0 := gN h) (s0 := gS h) (hE := h1) (d := d) (ini := false) (rt := some .int)
    G E X (fun w => by cases w) hx hn0 (Nat.le_refl _) (Nat.le_refl _) (by show gN h1 - gN h ≤ gN o.2 - gN h; omega) (by show gS h1 - gS h ≤ gS o.2 - gS h; omega) hw (evM_ok G E hcd d) (evM_mo d) (fun lo st hc => ?_) N 0 _ _ _ q1
  · have ent := lv_entry (as.map (vmp φ)) (n := nL) (by rw [arL_len]; exact hlen)
    have w := key φ s.heap [] _ hH (fun _ _ => rfl) (fun q hq => by cases hq) ⟨ent.1, ent.2.1, fun i v hi => ?_⟩ trivial (fun i v hi => vl_ar hv i v (ldL_app _ _ _ _ hi)) (Nat.le_refl _) (Nat.le_refl _)
    · rw [Nat.sub_self, Nat.sub_self] at w
      rw [lg_entry_eq]
      exact w
    · have := ldL_ar φ as 0 i v (ldL_app _ _ _ _ hi)
      rw [Nat.zero_add] at this
      exact ent.2.2 _ this
  · obtain ⟨rfl, rfl⟩ := hc
    subst hst
    intro φ1 H locs ls a1 a2 a3 a4 a5 a6 a7 a8
    intro T hT Y
    obtain ⟨b5, b6, b7⟩ := vlS_app.mp a5
    obtain ⟨g1, g2, -, g4, -⟩ := G.1 yv (by rw [hmk]; show 1 ≤ 2; decide)
    obtain ⟨-, -, f3, f4⟩ := g4 (by rw [hmk])
    rw [hmk] at f4 g2
    obtain ⟨cell, c1, c2, c3⟩ := a1.cls E hW hxc (by omega) (by omega)
    have hK := vx_back (l := l) (R := (headSpec [Cond.codeWith y cc nL (some .int) [(hs, he, hp, ct)]] { frames := d + 1, cells := gN o.2 - gN h, slots := gS o.2 - gS h, locals := 100 * (d + 1) }).room) (p := p) (e := e) (below := below) (s := s) (sargs := (as.map (vmp φ)).toArray) (len := 3) (W9 := 20) (bytes := mB yv) (maxL := mL yv) (ret := mT yv) (hth φ1) (fun a U g mk q => q) rfl rfl (by show d' + 1 + 1 ≤ d + 1; omega) (by have := g1.2.2.2; show 20 + (mL yv + 11) + 100 * (d' + 1) ≤ 100 * (d + 1); omega)
      (fun w hw a' U hU => by rw [List.mem_singleton.mp hw]; exact E.w (State.WarmedH.trans hW hU) g1.1 a') List.mem_cons_self (fun a' U hU => E.w (State.WarmedH.trans hW hU) g1.2.1 a')
    have hstk : (pre ++ Value.ref x :: r).map (vmp φ1) = (pre.reverse.map (vmp φ1)).reverse ++ Value.ref (φ1 x) :: r.map (vmp φ1) := by
      rw [List.map_append, List.map_cons, List.map_reverse, List.reverse_reverse]
      rfl
    rcases vx_callV Y X.1 (C := cR 13) (bytes := mB yv) (maxL := mL yv) (ret := mT yv) X.2.2.2.1 (E.w hW hml _) (E.w hW f3 _) (E.w hW f4 _) (E.w hW g1.1 _) g1.2.2.1 hK (by rw [hT]; exact c1) c2 c3 (g := F0 m Pi ls ((pre ++ Value.ref x :: r).map (vmp φ1))) rfl (by rw [X.2.2.1]; exact a4.1) (argsL := pre.reverse.map (vmp φ1)) (rest := r.map (vmp φ1)) (desc_len g2 (by rw [List.length_reverse]; exact hna)) hstk (by rw [vsz_cat]; show 2 * 0 + vsz r ≤ 20; omega) (by rw [X.2.1]; exact hdec)
      (fun vm₁ hW₁ => ⟨by show gN h1 - gN h + (gN h2 + 1 - gN h1) ≤ gN o.2 - gN h; omega, by show gS h1 - gS h + (gS h2 + 6 - gS h1) ≤ gS o.2 - gS h; omega, rfl, State.WarmedH.trans hW hW₁, by show HR z D dA φ1 h1 T.heap; rw [hT]; exact a1, ⟨b6, vlS_rev b5⟩, fun x hxx => (a2 x (by omega)).trans (hx x hxx)⟩)
      with ⟨v, vm₁, Bp, hW₁, Y', hPost, st⟩ | ⟨qa, vm₁, ⟨U', l2, c2', s2⟩, hW₁, Y', hPost, st⟩
    · exfalso
      obtain ⟨g', mk, t, L, -, -, hF, -⟩ := hPost
      exact hF
    · obtain ⟨g', mk, t, L, E', ce, u1, u2, ⟨rfl, φ2, hφ2, hHR2⟩, u3, u4, u5, u6, u7, u8, u9⟩ := hPost
      dsimp only [Pt.U, Pt.locs, Pt.cells, Pt.slots] at Y' u1 u2 u5 u6 u8 u9 st
      subst u6; subst u8; subst u9
      have kHR : HR z D dA (up1 φ2 (gN h2) qa) (nw h2 0 0 6) U'.heap := by rw [u1]; exact hHR2.blind 6 qa
      have hup : ∀ x, x < gN h1 → up1 φ2 (gN h2) qa x = φ1 x := fun x hx => (if_neg (by omega) : up1 φ2 (gN h2) qa x = φ2 x).trans (hφ2 x hx)
      have kW := kH (up1 φ2 (gN h2) qa) U'.heap (locs ++ L) ls kHR (fun x hx => (hup x (by omega)).trans (a2 x hx)) (fun q hq => (List.mem_append.mp hq).elim (a3 q) (u7 q)) (a4.ext a6 hup) ⟨by show gN h2 < gN h2 + 1; omega, trivial⟩ (a6.mono (by show gN h1 ≤ gN h2 + 1; omega)) (by show gN h ≤ gN h2 + 1; omega) (by show gS h ≤ gS h2 + 6; omega)
      rw [show gN (nw h2 0 0 6) - gN h = gN h1 - gN h + (gN h2 + 1 - gN h1) from by show gN h2 + 1 - gN h = _; omega, show gS (nw h2 0 0 6) - gS h = gS h1 - gS h + (gS h2 + 6 - gS h1) from by show gS h2 + 6 - gS h = _; omega,
        show [Value.ref (gN h2)].map (vmp (up1 φ2 (gN h2) qa)) = [Value.ref qa] from by show [Value.ref (up1 φ2 (gN h2) qa (gN h2))] = _; rw [show up1 φ2 (gN h2) qa (gN h2) = qa from if_pos rfl]] at kW
      obtain ⟨t2, b1, b2⟩ := vx_catch (own := y.cls) (name := E') (E := E') (ce := ce) (q := qa) (pc := Pi) (rest := r.map (vmp φ1)) X.2.2.2.1 [] ((tableOf [(hs, he, hp, ct)]).headD default) [] (by rw [htb]; rfl) (fun z hz => by cases hz) hcov hct (E.w hW hcl _) (E.wx hW hca (by unfold isX; rw [Bool.or_true]) _) (by rw [u1]; exact u3) u4 (vx_cls hW₁ u5) kW U' rfl Y'
      exact ⟨t2, st.trans b1, b2⟩
end WRP
