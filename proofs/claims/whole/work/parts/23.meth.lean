/-! ===== A METHOD OF THE PURE MACHINE IS ONE OF THE JVM ===== -/
theorem Met.ofWF {l : Launch} {y : MethodName} {ws ws' : List Cond} {rm : Room} {Pc : Array Value → State → Prop} {Qc : Array Value → State → Outcome → State → Prop} {mc ms : Nat} {free : Addr → Prop} {cc : ByteArray} {maxL : Nat} {ret : Option FieldType}
    (hy : plainFor y = true) (hw : ws = Cond.code y cc maxL ret :: ws')
    (body : ∀ p e s m args below meth c s₁, BodyLoose p l y (headSpec ws rm) cc maxL ret e s m args below meth c s₁ → c.maxLocals = maxL → Pc args s →
      W p l e (headSpec ws rm).room s m args below meth c s.heap [] 0 0 (MQ below Qc args s mc ms free) (entryFrame m args maxL)) : Met l y ws rm Pc Qc mc ms free := by
  refine MetFree.of_bodySF (code := cc) (maxLocals := maxL) (ret := ret) hy ?_ ?_
  · intro args s m h hn
    obtain ⟨meth, c, h1, h2, h3, h4, h5, h6, -, -⟩ := Cond.code_spec hn (atoms_spec (ws := ws) h _ (by rw [hw]; exact List.mem_cons_self))
    exact ⟨meth, c, h1, h2, h3, h4, h5, h6⟩
  · intro p e s m args below meth c s₁ B hml hP _
    have hh0 : s₁.heap = s.heap := by rw [B.state]; rfl
    obtain ⟨t, a1, o, b1, b2, b3⟩ := body p e s m args below meth c s₁ B hml hP s₁ hh0 (Stand.of_body B)
    exact ⟨t, o, a1, b1, b2, ⟨b3.1, b3.2⟩⟩
theorem arL_cons (v : Value) (t : Vs) : arL (v :: t) = (if v.category = 2 then [some v, none] else [some v]) ++ arL t := by cases v <;> rfl
theorem arL_len (φ : Nat → Nat) : ∀ as : Vs, (lg_sl (as.map (vmp φ))).length = (arL as).length
  | [] => rfl
  | v :: t => by
    have ih := arL_len φ t
    rw [arL_cons, List.map_cons]
    unfold lg_sl at ih ⊢
    rw [List.flatMap_cons, List.length_append, List.length_append, ih, vmp_cat]
    congr 1
    split <;> rfl
theorem ldL_ar (φ : Nat → Nat) : ∀ (as : Vs) (k i : Nat) (v : Value), ldL (arL as) i = some v → (k + i, vmp φ v) ∈ lv_args k (as.map (vmp φ))
  | [], _, _, _, h => by cases h
  | w :: t, k, i, v, h => by
    rw [arL_cons] at h
    rw [List.map_cons]
    unfold lv_args
    rw [vmp_cat]
    by_cases hc : w.category = 2
    · rw [if_pos hc] at h ⊢
      match i, h with
      | 0, h => cases h; exact List.mem_cons_self
      | 1, h => cases h
      | i + 2, h =>
        refine List.mem_cons_of_mem _ ?_
        have := ldL_ar φ t (k + 2) i v h
        rw [show k + (i + 2) = k + 2 + i by omega]
        exact this
    · rw [if_neg hc] at h ⊢
      match i, h with
      | 0, h => cases h; exact List.mem_cons_self
      | i + 1, h =>
        refine List.mem_cons_of_mem _ ?_
        have := ldL_ar φ t (k + 1) i v h
        rw [show k + (i + 1) = k + 1 + i by omega]
        exact this
theorem ldL_rep : ∀ (n i : Nat) (v : Value), ldL (List.replicate n none) i = some v → False
  | 0, _, _, h => by cases h
  | n + 1, 0, _, h => by cases h
  | n + 1, i + 1, v, h => ldL_rep n i v h
theorem ldL_app : ∀ (a : Ls) (n i : Nat) (v : Value), ldL (a ++ List.replicate n none) i = some v → ldL a i = some v
  | [], n, i, v, h => (ldL_rep n i v h).elim
  | w :: t, n, 0, v, h => h
  | w :: t, n, i + 1, v, h => ldL_app t n i v h
theorem vl_ar {n : Nat} : ∀ {as : Vs}, vlS n as → vlL n (arL as)
  | [], _ => fun i v h => by cases h
  | w :: t, hv => fun i v h => by
    rw [arL_cons] at h
    by_cases hc : w.category = 2
    · rw [if_pos hc] at h
      match i, h with
      | 0, h => cases h; exact hv.1
      | 1, h => cases h
      | i + 2, h => exact vl_ar hv.2 i v h
    · rw [if_neg hc] at h
      match i, h with
      | 0, h => cases h; exact hv.1
      | i + 1, h => exact vl_ar hv.2 i v h
/-- a word of the table, that holds in every state -/
noncomputable def wQ (w : Cond) : Bool := @decide (w ∈ lw_tbl ∧ goodWord w = true) (Classical.propDecidable _)
noncomputable def wQ0 (w : Cond) : Bool := @decide (w ∈ lw_tbl) (Classical.propDecidable _)
theorem wQ_ok {w : Cond} (h : wQ w = true) : w ∈ lw_tbl ∧ goodWord w = true := @of_decide_eq_true _ (Classical.propDecidable _) h
theorem wQ0_ok {w : Cond} (h : wQ0 w = true) : w ∈ lw_tbl := @of_decide_eq_true _ (Classical.propDecidable _) h
theorem wQ_of {w : Cond} (h : w ∈ lw_tbl ∧ goodWord w = true) : wQ w = true := @decide_eq_true _ (Classical.propDecidable _) h
theorem wQ0_of {w : Cond} (h : w ∈ lw_tbl) : wQ0 w = true := @decide_eq_true _ (Classical.propDecidable _) h
/-- what a table of code must be: each instruction good, or none -/
def okT (mY : Nat → MethodName) (mB : Nat → ByteArray) (mL : Nat → Nat) (mT : Nat → Option FieldType) (mK : Nat → Nat × Nat × Nat) (exS : List (String × Nat × Nat)) (exZ : List (String × String × String × (Int32 ⊕ Nat))) (cd : Nat → Nat → CI) (y : Nat) : Prop :=
  plainFor (mY y) = true ∧ ∀ pc, (cd y pc).1 = .nop ∨ okB wQ wQ0 mY mK exS exZ (mY y).cls (mB y) (mL y) (decide ((mY y).name = "<init>")) (mT y) pc (cd y pc) = true
theorem stp_nop {call : Cl} {k : Cn} {ci : CI} {pc : Nat} {l : Ls} {st : Vs} {h : AH} (hn : ci.1 = .nop) : stp call k ci pc l st h = none := by
  obtain ⟨ins, ⟨ra, rb, rc⟩, tb, lc, dd⟩ := ci
  cases hn
  rfl
/-- what needs no word, and the words: all that an instruction needs -/
theorem okB_of {wP wP0 : Cond → Bool} {mY : Nat → MethodName} {mK : Nat → Nat × Nat × Nat} {exS : List (String × Nat × Nat)} {exZ : List (String × String × String × (Int32 ⊕ Nat))} {own : String} {cc : ByteArray} {nL : Nat} {ini : Bool} {rt : Option FieldType} {pc : Nat} {ci : CI}
    (h : okB (fun _ => true) (fun _ => true) mY mK exS exZ own cc nL ini rt pc ci = true) (h1 : ∀ w ∈ (ndW mY exZ own ci).1, wP w = true) (h2 : ∀ w ∈ (ndW mY exZ own ci).2, wP0 w = true) : okB wP wP0 mY mK exS exZ own cc nL ini rt pc ci = true := by
  obtain ⟨ins, ⟨ra, rb, rc⟩, tb, lc, dd⟩ := ci
  cases ins
  case ldc2_w i =>
    simp only [okB, ndW, List.mem_cons, List.not_mem_nil, or_false, forall_eq, Bool.and_true] at h h1 ⊢
    rw [h1, Bool.and_true]; exact h
  case ldc i =>
    match ra with
    | 0 =>
      simp only [okB, ndW, List.mem_cons, List.not_mem_nil, or_false, forall_eq, Bool.and_true] at h h1 ⊢
      rw [h1, Bool.and_true]; exact h
    | 1 => exact h
    | a + 2 =>
      simp only [okB, ndW, List.mem_cons, List.not_mem_nil, or_false, forall_eq, Bool.and_true] at h h1 ⊢
      rw [h1, Bool.and_true]; exact h
  case ldc_w i =>
    match ra with
    | 0 =>
      simp only [okB, ndW, List.mem_cons, List.not_mem_nil, or_false, forall_eq, Bool.and_true] at h h1 ⊢
      rw [h1, Bool.and_true]; exact h
    | 1 => exact h
    | a + 2 => exact h
  case getstatic i =>
    cases hz : exZ[rc]? with
    | none =>
      simp only [okB, ndW, hz] at h h1 ⊢
      exact h
    | some q =>
      obtain ⟨C, n, d, v⟩ := q
      cases v with
      | inl v =>
        simp only [okB, ndW, hz, List.mem_cons, List.not_mem_nil, or_false, forall_eq, Bool.and_true] at h h1 ⊢
        rw [h1, Bool.and_true]; exact h
      | inr v =>
        simp only [okB, ndW, hz, List.mem_cons, List.not_mem_nil, or_false, forall_eq, Bool.and_true] at h h1 ⊢
        rw [h1, Bool.and_true]; exact h
  case getfield i =>
    cases tb with
    | nil =>
      simp only [okB, ndW, List.mem_cons, List.not_mem_nil, or_false, forall_eq, Bool.and_true] at h h1 ⊢
      rw [h1, Bool.and_true]; exact h
    | cons a t =>
      simp only [okB, ndW, List.mem_cons, List.not_mem_nil, or_false, forall_eq_or_imp, forall_eq, Bool.and_true] at h h1 ⊢
      rw [h1.1, h1.2, Bool.and_true, Bool.and_true]; exact h
  case putfield i =>
    cases tb with
    | nil =>
      simp only [okB, ndW, List.mem_cons, List.not_mem_nil, or_false, forall_eq_or_imp, forall_eq, Bool.and_true] at h h1 ⊢
      rw [h1.1, h1.2, Bool.and_true, Bool.and_true]; exact h
    | cons a t =>
      simp only [okB, ndW, List.mem_cons, List.not_mem_nil, or_false, forall_eq_or_imp, forall_eq, Bool.and_true] at h h1 ⊢
      rw [h1.1, h1.2.1, h1.2.2, Bool.and_true, Bool.and_true, Bool.and_true]; exact h
  case new i =>
    simp only [okB, ndW, List.mem_cons, List.not_mem_nil, or_false, forall_eq_or_imp, forall_eq, Bool.and_true] at h h1 ⊢
    rw [h1.1, h1.2.1, h1.2.2, Bool.and_true, Bool.and_true, Bool.and_true]; exact h
  case newarray t =>
    simp only [okB, ndW, List.mem_cons, List.not_mem_nil, or_false, forall_eq, Bool.and_true] at h h1 ⊢
    rw [h1, Bool.and_true]; exact h
  case anewarray i =>
    simp only [okB, ndW, List.mem_cons, List.not_mem_nil, or_false, forall_eq, Bool.and_true] at h h1 h2 ⊢
    rw [h1, h2, Bool.and_true, Bool.and_true]; exact h
  case multianewarray i n =>
    simp only [okB, ndW, List.mem_cons, List.not_mem_nil, or_false, forall_eq_or_imp, forall_eq, Bool.and_true] at h h1 h2 ⊢
    rw [h1.1, h1.2, h2, Bool.and_true, Bool.and_true, Bool.and_true]; exact h
  case checkcast i =>
    simp only [okB, ndW, List.mem_cons, List.not_mem_nil, or_false, forall_eq, Bool.and_true] at h h1 ⊢
    rw [h1, Bool.and_true]; exact h
  case invokevirtual i =>
    match rc with
    | 0 =>
      simp only [okB, ndW, List.mem_cons, List.not_mem_nil, or_false, forall_eq_or_imp, forall_eq, Bool.and_true] at h h1 h2 ⊢
      rw [h1.1, h1.2.1, h1.2.2.1, h1.2.2.2, h2, Bool.and_true, Bool.and_true, Bool.and_true, Bool.and_true, Bool.and_true]; exact h
    | a + 1 =>
      simp only [okB, ndW, List.mem_cons, List.not_mem_nil, or_false, forall_eq, Bool.and_true] at h h1 ⊢
      rw [h1, Bool.and_true]; exact h
  case invokestatic i =>
    match rc with
    | 0 =>
      simp only [okB, ndW, List.mem_cons, List.not_mem_nil, or_false, forall_eq, Bool.and_true] at h h1 ⊢
      rw [h1, Bool.and_true]; exact h
    | a + 1 =>
      simp only [okB, ndW, List.mem_cons, List.not_mem_nil, or_false, forall_eq_or_imp, forall_eq, Bool.and_true] at h h1 ⊢
      rw [h1.1, h1.2.1, h1.2.2.1, h1.2.2.2, Bool.and_true, Bool.and_true, Bool.and_true, Bool.and_true]; exact h
  case invokespecial i =>
    match rc with
    | 0 =>
      simp only [okB, ndW, List.mem_cons, List.not_mem_nil, or_false, forall_eq_or_imp, forall_eq, Bool.and_true] at h h1 ⊢
      rw [h1.1, h1.2.1, h1.2.2, Bool.and_true, Bool.and_true, Bool.and_true]; exact h
    | 1 =>
      simp only [okB, ndW, List.mem_cons, List.not_mem_nil, or_false, forall_eq, Bool.and_true] at h h1 ⊢
      rw [h1, Bool.and_true]; exact h
    | a + 2 =>
      simp only [okB, ndW, List.mem_cons, List.not_mem_nil, or_false, forall_eq, Bool.and_true] at h h2 ⊢
      rw [h2, Bool.and_true]; exact h
  all_goals exact h
section RUN
variable {l : Launch} {z : State} {D : va_G} {dA : Nat → ClassId} {za : Array Value}
variable {mY : Nat → MethodName} {mB : Nat → ByteArray} {mL : Nat → Nat} {mT : Nat → Option FieldType} {mK : Nat → Nat × Nat × Nat} {exS : List (String × Nat × Nat)} {exZ : List (String × String × String × (Int32 ⊕ Nat))} {ext : Nat → Nat}
theorem rnF_ok {p : Program} {e : Env} {R : Room} {s : State} {m : MethodId} {args : Array Value} {below : List Frame} {meth : Method} {c : Code} {Q : State → Prop} {φ0 : Nat → Nat} {n0 s0 nL : Nat} {o : Ot} {own : String} {cc : ByteArray} {d : Nat} {ini : Bool} {rt : Option FieldType}
    (G : GL mY mB mL mT mK exS exZ z ext) (E : EV z za D dA) (X : Cx p s m c z own cc nL) (hini : ini = true → meth.name = "<init>") (hφ0 : ∀ x, x < 100 → φ0 x = ext x) (hn0 : 100 ≤ n0) (hR1 : d + 1 ≤ R.frames) (hR2 : 100 * (d + 1) ≤ R.locals) (hRc : gN o.2 - n0 ≤ R.cells) (hRs : gS o.2 - s0 ≤ R.slots) {call : Cl} {cd : Nat → CI}
    (hok : ∀ pc, (cd pc).1 = .nop ∨ okB wQ wQ0 mY mK exS exZ own cc nL ini rt pc (cd pc) = true) (hcall : ∀ y as h o', call y as h = some o' → MetA mY mB mL mT l z D dA ext d y as h o') (hmo : ∀ y as h o', call y as h = some o' → mo h o') (hret : RET p l e R s m args below meth c Q z D dA φ0 n0 s0 nL cc rt o) :
    ∀ (N pc : Nat) (lo : Ls) (st : Vs) (h : AH), rnF call cd N pc lo st h = some o → AW p l e R s m args below meth c Q z D dA φ0 n0 s0 nL pc lo st h
  | 0, _, _, _, _, q => by cases q
  | N + 1, pc, lo, st, h, q => by
    have q' : stp call (rnF call cd N) (cd pc) pc (mkL lo (dd5 (cd pc))) st h = some o := q
    rcases hok pc with hn | hw
    · rw [stp_nop hn] at q'
      cases q'
    · refine aw_mk (stp_ok wQ_ok wQ0_ok G E X hini hφ0 hn0 hR1 hR2 hw hcall (rnF_ok G E X hini hφ0 hn0 hR1 hR2 hRc hRs hok hcall hmo hret N) (fun pc lo st h w => ?_) hret q')
      have := rnF_mo hmo N pc lo st h w
      exact ⟨by have := this.1; omega, by have := this.2; omega⟩
/-- THE PURE MACHINE IS SOUND -/
theorem evM_ok (G : GL mY mB mL mT mK exS exZ z ext) (E : EV z za D dA) {cd : Nat → Nat → CI} {N : Nat} (hcd : ∀ y, (∀ pc, (cd y pc).1 = .nop) ∨ okT mY mB mL mT mK exS exZ cd y) : ∀ (d y : Nat) (as : Vs) (h : AH) (o : Ot), evM cd mL N d y as h = some o → MetA mY mB mL mT l z D dA ext d y as h o
  | 0, _, _, _, _, q => by cases q
  | d + 1, y, as, h, o, q => by
    have M := evM_mo _ _ _ _ _ q
    unfold evM at q
    cases hb : Nat.ble (arL as).length (mL y) with
    | false => rw [hb] at q; cases q
    | true =>
    rw [hb] at q
    have hlen : (arL as).length ≤ mL y := Nat.le_of_ble_eq_true hb
    have q : rnF (evM cd mL N d) (cd y) N 0 (pdL (arL as) (mL y)) [] h = some o := q
    refine ⟨M.1, M.2, fun φ => ?_⟩
    rcases hcd y with hn | ⟨hp, hk⟩
    · exfalso
      cases N with
      | zero => cases q
      | succ N =>
        have q' : stp (evM cd mL (N + 1) d) (rnF (evM cd mL (N + 1) d) (cd y) N) (cd y 0) 0 (mkL (pdL (arL as) (mL y)) (dd5 (cd y 0))) [] h = some o := q
        rw [stp_nop (hn 0)] at q'
        cases q'
    refine Met.ofWF (cc := mB y) (maxL := mL y) (ret := mT y) hp rfl ?_
    intro p e s m args below meth c s₁ B hml hP
    obtain ⟨rfl, hW, hH, hv, hx⟩ := hP
    have X : Cx p s m c z (mY y).cls (mB y) (mL y) := ⟨B.exec, B.bytes, hml, findClass_of_methodNamed B.named, hW⟩
    have hlk : meth.locks = false := B.notSynchronized
    have hrt : meth.sig.returnType = mT y := B.returns
    have hn0 : 100 ≤ gN h := hH.2.2.1
    have key := rnF_ok (p := p) (e := e) (R := (headSpec [Cond.code (mY y) (mB y) (mL y) (mT y)] { frames := d + 1, cells := gN o.2 - gN h, slots := gS o.2 - gS h, locals := 100 * (d + 1) }).room) (s := s) (m := m) (args := (as.map (vmp φ)).toArray) (below := below) (meth := meth) (c := c)
      (Q := MQ below (fun _ _ oc t => ∃ φ' : Nat → Nat, (∀ x, x < gN h → φ' x = φ x) ∧ oc = .returned (o.1.map (vmp φ')) ∧ HR z D dA φ' o.2 t.heap ∧ ∀ v, o.1 = some v → vld (gN o.2) v) (as.map (vmp φ)).toArray s (gN o.2 - gN h) (gS o.2 - gS h) (fun q => z.heap.size ≤ q)) (φ0 := φ) (n0 := gN h) (s0 := gS h) (o := o) (d := d) (ini := decide ((mY y).name = "<init>")) (rt := mT y)
      G E X (fun w => (name_of_methodNamed B.named B.method).1.trans (of_decide_eq_true w)) hx hn0 (Nat.le_refl _) (Nat.le_refl _) (Nat.le_refl _) (Nat.le_refl _) hk (evM_ok G E hcd d) (evM_mo d) ?_ N 0 _ _ _ q
    · have ent := lv_entry (as.map (vmp φ)) (n := mL y) (by rw [arL_len]; exact hlen)
      have w := key φ s.heap [] _ hH (fun _ _ => rfl) (fun q hq => by cases hq) ⟨ent.1, ent.2.1, fun i v hi => ?_⟩ trivial (fun i v hi => vl_ar hv i v (ldL_app _ _ _ _ hi)) (Nat.le_refl _) (Nat.le_refl _)
      · rw [Nat.sub_self, Nat.sub_self] at w
        rw [lg_entry_eq]
        exact w
      · have := ldL_ar φ as 0 i v (ldL_app _ _ _ _ hi)
        rw [Nat.zero_add] at this
        exact ent.2.2 _ this
    · refine ⟨fun pc lo v h' hd ⟨ty, ht, hn⟩ ho => ?_, fun pc lo v h' hd ht ho => ?_, fun pc lo v h' hd ht ho => ?_, fun pc lo h' hd ht ho => ?_⟩
      · subst ho
        intro φ' H locs ls a1 a2 a3 a4 a5 a6 a7 a8
        exact W.zret X.1 X.2.1 (hrt.trans ht) hn (fun t e1 e2 => ⟨φ', a2, rfl, by rw [e1]; exact a1, fun w hw => by cases hw; trivial⟩) a3 hd hlk
      · subst ho
        intro φ' H locs ls a1 a2 a3 a4 a5 a6 a7 a8
        exact W.lret X.1 X.2.1 (hrt.trans ht) (fun t e1 e2 => ⟨φ', a2, rfl, by rw [e1]; exact a1, fun w hw => by cases hw; trivial⟩) a3 hd hlk
      · subst ho
        intro φ' H locs ls a1 a2 a3 a4 a5 a6 a7 a8
        have hrt2 : ∃ rt', mT y = some rt' ∧ ((∃ n, rt' = .object n) ∨ ∃ t, rt' = .array t) := by
          unfold refRt at ht
          split at ht
          · exact ⟨_, ‹_›, Or.inl ⟨_, rfl⟩⟩
          · exact ⟨_, ‹_›, Or.inr ⟨_, rfl⟩⟩
          · cases ht
        obtain ⟨rt', e1, e2⟩ := hrt2
        exact W.aret X.1 X.2.1 (hrt.trans e1) e2 (Or.inr ⟨_, rfl⟩) (fun t e1 e2 => ⟨φ', a2, rfl, by rw [e1]; exact a1, fun w hw => by cases hw; exact a5.1⟩) a3 hd hlk
      · subst ho
        intro φ' H locs ls a1 a2 a3 a4 a5 a6 a7 a8
        exact W.vret X.1 X.2.1 (hrt.trans ht) (fun t e1 e2 => ⟨φ', a2, rfl, by rw [e1]; exact a1, fun w hw => by cases hw⟩) a3 hd hlk
end RUN
