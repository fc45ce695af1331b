/-! ===== A NoSuchElementException: its constructor passes the text on by constant 13 ===== -/
section NXA
def nxN : String := "java/util/NoSuchElementException"
def nxA (own : String) (ic : Nat) : List Cond := Bundle.throwableAtoms ++ Bundle.throwableSAtoms ++ (Bundle.passSAtoms nxN "java/lang/RuntimeException" 13 prog_39_method_4_code ++ Bundle.chainSAtoms "java/lang/RuntimeException" ["java/lang/Exception"]) ++
  [.methodLink own ic (Bundle.initS nxN), .instantiable nxN 6, .castable nxN nxN, .selects nxN Bundle.tFill0 Bundle.tFill0, .selects nxN Bundle.tFill Bundle.tFill,
   .lays nxN Bundle.tN "cause" "Ljava/lang/Throwable;", .lays nxN Bundle.tN "stackTrace" Bundle.steD, .lays nxN Bundle.tN "suppressedExceptions" Bundle.listD, .lays nxN Bundle.tN "detailMessage" "Ljava/lang/String;",
   .isRef (.static Bundle.tN "UNASSIGNED_STACK" Bundle.steD), .isRef (.static Bundle.tN "SUPPRESSED_SENTINEL" Bundle.listD),
   .fieldLink Bundle.tN 198 Bundle.tN "backtrace" "Ljava/lang/Object;", .lays Bundle.tN Bundle.tN "backtrace" "Ljava/lang/Object;", .lays nxN Bundle.tN "backtrace" "Ljava/lang/Object;"]
def nxS (own : String) (ic : Nat) : List Cond := (nxA own ic).filter vx_no
theorem nx_fit : Bundle.fit nxN = true ∧ Bundle.fit "java/lang/RuntimeException" = true ∧ Bundle.fit "java/lang/Exception" = true := ⟨by decide +kernel, by decide +kernel, by decide +kernel⟩
/-- the constructors' chain -/
theorem nx_chain {args : Array Value} {s : State} {pl : Platform} (hpl : pl.magicAccessors = ({} : Platform).magicAccessors) {top : MethodId} (htop : s.methodNamed? (Bundle.initS Bundle.tN) = some top)
    (h : ∀ c ∈ Bundle.passSAtoms nxN "java/lang/RuntimeException" 13 prog_39_method_4_code ++ Bundle.chainSAtoms "java/lang/RuntimeException" ["java/lang/Exception"], c.before args s = true) :
    ∃ (P1 : PassC) (Ps : List PassC), Ps.length = 2 ∧ P1.LinksS pl s ∧ (∀ P, P ∈ Ps → P.LinksS pl s) ∧ s.methodNamed? (Bundle.initS nxN) = some P1.m ∧ P1.sup = firstOf top (Ps.map (·.toPassT)) ∧ PassesOn top (Ps.map (·.toPassT)) := by
  obtain ⟨P1, L1, m1, s1⟩ := PassC.ofS_atoms (args := args) (s := s) hpl (X := nxN) (Y := "java/lang/RuntimeException") (index := 13) (bytes := prog_39_method_4_code) (Bundle.fit_spec nx_fit.1).1 (Bundle.fit_spec nx_fit.2.1).2 (by decide +kernel) (by decide +kernel) (by decide +kernel) (by decide +kernel) (fun c hc => h c (List.mem_append_left _ hc))
  obtain ⟨P2, Ps, n2, L2, LL, m2, s2, q2⟩ := Bundle.chainS (args := args) hpl htop ["java/lang/Exception"] "java/lang/RuntimeException" nx_fit.2.1 (fun n hn => by rw [List.mem_singleton.mp hn]; exact nx_fit.2.2) (fun c hc => h c (List.mem_append_right _ hc))
  refine ⟨P1, P2 :: Ps, by rw [List.length_cons, n2]; rfl, L1, fun P hP => ?_, m1, Option.some.inj (s1.symm.trans m2), s2, q2⟩
  rcases List.mem_cons.mp hP with rfl | hP
  · exact L2
  · exact LL P hP
end NXA
section NXB
variable {p : Program} {l : Launch} {e : Env} {R : Room} {s : State} {m₀ : MethodId} {args : Array Value} {below : List Frame} {meth : Method} {c : Code} {W : State} {locs : List Loc} {cells slots : Nat}
/-- the constructor's call and the throw behind it -/
theorem nx_ctor (X : Stand p l e R s m₀ args below meth c W locs cells slots) (hexec : p.tables.exec = Jvm.exec) (htr : e.platform.stackTraces = false) {own : String} {ic : Nat} (hown : s.vm.findClass own = some m₀.cls)
    (h : ∀ a ∈ nxA own ic, a.before args s = true) (hlocs : ∀ x ∈ locs, ∀ cell, s.heap[x.base]? = some cell → cell.vm.isStatics = false)
    {a : Addr} {cX : ClassId} {kX : Class} (hfoundX : s.vm.findClass nxN = some cX) (hkX : s.vm.classes[cX]? = some kX) (hcell : W.heap[a]? = some (freshCell cX kX)) (hnew : s.heap.size ≤ a) {msg : Value} (hmsg : msg.isRef = true)
    {g : JFrame} (hg : g.method = m₀) (hsize : g.locals.size = c.maxLocals) (hlocked : g.locked = none) (hentered : g.entered = []) {rest : List Value} (hstack : g.stack = msg :: .ref a :: .ref a :: rest)
    (hd6 : decode c.code g.pc = .ok (.invokespecial ic, 3)) (hd9 : decode c.code (g.pc + 3) = .ok (.athrow, 1)) (hout : ∀ x ∈ c.exceptionTable.toList, covers x (g.pc + 3) = false)
    (hRframes : 2 + 3 < R.frames) (hRlocals : 2 * g.monitorRoom + ((Value.ref a :: rest).map fun v => v.category).sum + (13 * (2 + 1) + 42) ≤ R.locals) (hlocks : meth.locks = false) :
    ∃ U : State, Steps p.tables e below (W.setTop g) U ∧ U.status = .running ∧ Ended U below (.threw a) ∧ s.WarmedH U.vm ∧ s.sameButNew ({ U with vm := s.vm } : State) locs cells slots ∧
      ∃ ce, U.heap[a]? = some ce ∧ ce.vm = .none ∧ s.vm.findClass nxN = some ce.cls := by
  have pl1 : e.platform.frameOwnsMonitors = true := by rw [X.admits.platform]
  have pl2 : e.platform.finalization = false := by rw [X.admits.platform]
  have pl3 : e.platform.magicAccessors = ({} : Platform).magicAccessors := by rw [X.admits.platform]
  have a' : ∀ x, x ∈ nxA own ic → x.holds args s none s [] = true := fun x hx => h x hx
  obtain ⟨T, Z0, L, -, Y⟩ := ThrowableC.of_atoms (args := args) pl1 pl2 pl3 (fun x hx => h x (by unfold nxA; simp [hx]))
  obtain ⟨Z, M, LZ, LM, nZ⟩ := Init0T.ofS_atoms (args := args) pl3 L Y (fun x hx => h x (by unfold nxA; simp [hx]))
  obtain ⟨P1, Ps, hlen, L1, hL, nP, k1, k2⟩ := nx_chain (args := args) pl3 nZ (fun x hx => h x (by
    unfold nxA
    exact List.mem_append_left _ (List.mem_append_right _ hx)))
  have inA : ∀ x, x ∈ ([.methodLink own ic (Bundle.initS nxN), .instantiable nxN 6, .castable nxN nxN, .selects nxN Bundle.tFill0 Bundle.tFill0, .selects nxN Bundle.tFill Bundle.tFill,
   .lays nxN Bundle.tN "cause" "Ljava/lang/Throwable;", .lays nxN Bundle.tN "stackTrace" Bundle.steD, .lays nxN Bundle.tN "suppressedExceptions" Bundle.listD, .lays nxN Bundle.tN "detailMessage" "Ljava/lang/String;",
   .isRef (.static Bundle.tN "UNASSIGNED_STACK" Bundle.steD), .isRef (.static Bundle.tN "SUPPRESSED_SENTINEL" Bundle.listD),
   .fieldLink Bundle.tN 198 Bundle.tN "backtrace" "Ljava/lang/Object;", .lays Bundle.tN Bundle.tN "backtrace" "Ljava/lang/Object;", .lays nxN Bundle.tN "backtrace" "Ljava/lang/Object;"] : List Cond) → x ∈ nxA own ic := fun x hx => List.mem_append_right _ hx
  have hfound : s.vm.findClass nxN = some P1.m.cls := findClass_of_methodNamed nP
  cases Option.some.inj (hfoundX.symm.trans hfound)
  obtain ⟨c1, kX', hc1, hk, hord, -, -, hn6⟩ := Cond.instantiable_spec (a' (.instantiable nxN 6) (inA _ (by simp)))
  cases Option.some.inj (hc1.symm.trans hfound)
  cases Option.some.inj (hkX.symm.trans hk)
  have sel0 : selectMethod e.platform s.vm P1.m.cls T.fill0 = .method T.fill0 := by
    obtain ⟨c2, r2, m2, q1, q2, q3, q4, -⟩ := Cond.selects_spec (a' (.selects nxN Bundle.tFill0 Bundle.tFill0) (inA _ (by simp)))
    cases Option.some.inj (q1.symm.trans hfound)
    cases Option.some.inj (q2.symm.trans (State.methodFound?_of_named Y.fill0 (by decide)))
    cases Option.some.inj (q3.symm.trans Y.fill0)
    rw [Launch.admits_selectMethod X.admits]; exact q4
  have selF : selectMethod e.platform s.vm P1.m.cls T.fill = .method T.fill := by
    obtain ⟨c2, r2, m2, q1, q2, q3, q4, -⟩ := Cond.selects_spec (a' (.selects nxN Bundle.tFill Bundle.tFill) (inA _ (by simp)))
    cases Option.some.inj (q1.symm.trans hfound)
    cases Option.some.inj (q2.symm.trans (State.methodFound?_of_named Y.fill (by decide)))
    cases Option.some.inj (q3.symm.trans Y.fill)
    rw [Launch.admits_selectMethod X.admits]; exact q4
  obtain ⟨st0, hst0, his⟩ := Y.statics
  obtain ⟨u0, hu0⟩ := Cond.staticRefV Y.unassigned L.unassignedStatic L.statics hst0 his (a' (.isRef (.static Bundle.tN "UNASSIGNED_STACK" Bundle.steD)) (inA _ (by simp)))
  obtain ⟨sen, hsen⟩ := Cond.staticRefV Y.sentinel L.sentinelStatic L.statics hst0 his (a' (.isRef (.static Bundle.tN "SUPPRESSED_SENTINEL" Bundle.listD)) (inA _ (by simp)))
  obtain ⟨ci, ix, fB, w1, w2, w3, w4, -, hnB, htB, hffB⟩ := Cond.ownField (t := .object "java/lang/Object") Y.found L.cls (by decide +kernel) (a' (.fieldLink Bundle.tN 198 Bundle.tN "backtrace" "Ljava/lang/Object;") (inA _ (by simp))) (a' (.lays Bundle.tN Bundle.tN "backtrace" "Ljava/lang/Object;") (inA _ (by simp))) e.platform pl3
  obtain ⟨stW, hstW, heS, -, hkeep⟩ := X.same.2.2.2.2.2 T.aS st0 hst0
  have hcellS : W.heap[T.aS]? = some stW := hstW
  have hout' : ∀ i, (⟨T.aS, i⟩ : Loc) ∉ locs := fun i hmem => by
    have := hlocs _ hmem st0 hst0
    rw [his] at this; cases this
  have hknown : stW.vm ≠ .unknown := by
    rw [heS]; intro hu
    rw [show st0.vm = .unknown from hu] at his
    cases his
  have hne : T.aS ≠ a := Nat.ne_of_lt (Nat.lt_of_lt_of_le (Array.getElem?_eq_some_iff.mp hst0).1 hnew)
  obtain ⟨iM, hffM⟩ := Y.msg
  obtain ⟨tyC, dC, hdC, hdnC⟩ := Cond.laysAt hfound hk Y.cause (a' (.lays nxN Bundle.tN "cause" "Ljava/lang/Throwable;") (inA _ (by simp)))
  obtain ⟨tyS, dS, hdS, hdnS⟩ := Cond.laysAt hfound hk Y.stack (a' (.lays nxN Bundle.tN "stackTrace" Bundle.steD) (inA _ (by simp)))
  obtain ⟨tyP, dP, hdP, hdnP⟩ := Cond.laysAt hfound hk Y.supp (a' (.lays nxN Bundle.tN "suppressedExceptions" Bundle.listD) (inA _ (by simp)))
  obtain ⟨tyM, dM, hdM, hdnM⟩ := Cond.laysAt hfound hk hffM (a' (.lays nxN Bundle.tN "detailMessage" "Ljava/lang/String;") (inA _ (by simp)))
  obtain ⟨tyB, dB, hdB, hdnB⟩ := Cond.laysAt hfound hk hffB (a' (.lays nxN Bundle.tN "backtrace" "Ljava/lang/Object;") (inA _ (by simp)))
  have bC := Cond.laysApart hdB hdC hdnB hdnC (by rw [hnB, Y.causeName]; decide)
  have bS := Cond.laysApart hdB hdS hdnB hdnS (by rw [hnB, Y.stackName]; decide)
  have bP := Cond.laysApart hdB hdP hdnB hdnP (by rw [hnB, Y.suppName]; decide)
  have hskip : SkipFacts T e.platform s (fun u => u) u0 ((preparedCellV T.toThrowableT (freshCell P1.m.cls kX) a u0 sen).withEntry W.cur) :=
    ⟨{ ci198 := ci, i198 := ix, fBack := fB }, ⟨w1, w2, w3, w4⟩, by
      have := fresh_default (c := P1.m.cls) tyB
      rw [htB] at this
      simpa [preparedCellV, Cell.setSlot, Cell.withEntry, Array.getElem?_setIfInBounds, bC, bS, bP, bC.symm, bS.symm, bP.symm, defaultValue] using this, fun _ _ => rfl⟩
  obtain ⟨tm, mC, cdC, kC, vm₁, nC, -, -, -, -, -, -, -, hW₁, st1⟩ := Steps.initColdS (tb := p.tables) (e := e) (below := below) (s := s) (U := W) X.here hexec X.warmed pl3 hown (t := Bundle.initS nxN) rfl rfl (Bundle.fit_spec nx_fit.1).2
    (a' (.methodLink own ic (Bundle.initS nxN)) (inA _ (by simp))) (h (.instanceMethod (Bundle.initS nxN)) (by simp [nxA, Bundle.passSAtoms])) (bytes := prog_39_method_4_code) (maxL := 2) (h (.code (Bundle.initS nxN) prog_39_method_4_code 2 none) (by simp [nxA, Bundle.passSAtoms]))
    (f := g) hg (a := a) (msg := msg) (rest := .ref a :: rest) hstack hd6
  cases Option.some.inj (nC.symm.trans nP)
  have X₁ := X.noted hW₁
  obtain ⟨vm₂, X₂, st2⟩ := X₁.ctorMessageOffV hexec (g := { g with stack := .ref a :: rest }) hg hsize T L Z LZ M LM (P1 :: Ps)
    (fun P hP => by rcases List.mem_cons.mp hP with rfl | hP; exact L1; exact hL P hP) ⟨k1, k2⟩ (u0 := u0) (sen := sen) (self := a) hmsg (cell := freshCell P1.m.cls kX) (cellS := stW)
    hcell (fun _ => by simp) (by simp) rfl rfl sel0 selF hcellS hne hknown (by rw [hkeep _ (hout' _)]; exact hu0) (by rw [hkeep _ (hout' _)]; exact hsen)
    (Takes.of_laid hk hord tyC (by rw [Y.causeType]; rfl)) (Takes.of_laid hk hord tyS (by rw [Y.stackType]; exact fits_refV_array _ u0)) (Takes.of_laid hk hord tyP (by rw [Y.suppType]; exact fits_refV_object _ sen))
    (Takes.of_laid hk hord tyM (by rw [Y.msgType]; exact fits_refV_object _ ⟨msg, hmsg⟩)) Y.objLocals hskip htr [] hd6
    (by simp only [List.length_cons, hlen]; omega) (by simp only [List.length_cons, hlen]; exact hRlocals)
  obtain ⟨walk, hrun, hended, hWU, hsame⟩ := X₂.athrowLeaves hexec (g := { g with stack := .ref a :: rest, pc := g.pc + 3 }) hg hlocked hentered hout (a := a) (rest := rest) rfl hd9
  have hlt : a < ((W.setVm vm₁).setVm vm₂).heap.size := (Array.getElem?_eq_some_iff.mp hcell).1
  have hU := heapAt_setCell_self (s := (W.setVm vm₁).setVm vm₂) (plainBareV T.toThrowableT (freshCell P1.m.cls kX) a u0 sen msg) hlt
  refine ⟨_, st1 _ (fun acts => ?_), hrun, hended, hWU, hsame.weaken (fun y hy hlt' => ?_) (Nat.le_refl _) (Nat.le_refl _), _, hU, rfl, hfound⟩
  · rw [doInvoke_state]
    exact st2 _ walk
  · rcases List.mem_append.mp hy with q | q
    · exact q
    · exfalso
      have hb : y.base = a := by
        simp only [List.mem_cons, List.not_mem_nil, or_false] at q
        rcases q with rfl | rfl | rfl | rfl | rfl <;> rfl
      rw [hb] at hlt'
      exact Nat.not_lt.mpr hnew hlt'
end NXB
