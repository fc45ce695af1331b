/-! THE CLAIM OUT OF ONE WALK OF THE LAW'S BODY. Your part is whole_start (and what it stands on); all else here is the same for every law, but numbers. -/
def R_law : String := "PostRoomLaw"
def lw_P (b : Addr) (xs : List Int32) (args : Array Value) (s : State) : Prop := args = #[.ref b] ∧ s.IntsAt b xs ∧ xs.length ≤ 3584 ∧ (Jvm.Cond.and given_1 narrow_1).before args s = true
def lw_Q (_ : Array Value) (s : State) (o : Outcome) (t : State) : Prop := o = .returned (some (.int 1)) ∧ Framed s o t [] 601024 7293034
def lw_Z (below : List Frame) (a : Array Value) (s : State) : State → Prop := fun t => ∃ o, t.status = .running ∧ Ended t below o ∧ lw_Q a s o t
/-- the law's own end, with 1 on the stack, nothing written that was there before, its room as the claim has it -/
theorem lw_ret {p : Program} {l : Launch} {e : Env} {s : State} {m : MethodId} {below : List Frame} {meth : Method} {c : Code} {b : Nat} (hx : p.tables.exec = Jvm.exec) (hb : c.code = code) (hr : meth.sig.returnType = ret) (hlocks : meth.locks = false) {pc : Nat} {H : Heap} {ls : Array Slot} (hdg : decode code pc = .ok (.ireturn, 1)) : W p l e room_1 s m #[Value.ref b] below meth c H [] 601024 7293034 (lw_Z below #[Value.ref b] s) (F0 m pc ls [.int 1]) := by
  intro T hT X
  obtain ⟨fs, hret, hrun, hended, hW, hframe⟩ := X.leave (v := some (.int 1)) (hlocks := hlocks) (fun h => by rw [hr] at h; cases h)
  have hmeth' : T.vm.method? m = some meth := X.method'
  refine ⟨T.setFrames fs, ?_, .returned (some (.int 1)), hrun, hended, rfl, ⟨_, rfl⟩, hW, hframe⟩
  jvm_step X.here [X.here.top, hx, hb, hdg, hmeth', hr, ret, narrow_b1]
  (try refine ⟨rfl, ?_⟩); (try refine ⟨rfl, ?_⟩)
  first | (intro acts; rw [hret _ acts rfl rfl rfl]) | rw [hret _ _ rfl rfl rfl]
  exact Steps.refl _
/-- what holds at the law's entry: the machine, the code, the tables' words (any of lw_tbl by 'hts w (by decide +kernel)'), the script of L ints xs at the cell b, what the Statement gives of the start (any of its parts by flat_of_before) -/
def lw_At (p : Program) (s : State) (m : MethodId) (meth : Method) (c : Code) (b L : Nat) (xs : Nat → Int32) : Prop :=
  p.tables.exec = Jvm.exec ∧ c.code = code ∧ meth.sig.returnType = ret ∧ c.maxLocals = 8 ∧ s.vm.findClass R_law = some m.cls ∧ (∀ w ∈ lw_tbl, w.before #[Value.ref b] s = true) ∧ va_X b L xs s s.heap ∧ b < s.heap.size ∧ meth.locks = false ∧ (Jvm.Cond.and given_1 narrow_1).before #[Value.ref b] s = true
/-- the law's run: at a wrapper's call its own answer -/
noncomputable def rnL (call : Cl) (wc : Nat → Option (Nat × (Vs → AH → Option Ot))) (cd : Nat → CI) : Nat → Cn
  | 0 => fun _ _ _ _ => none
  | n + 1 => fun pc l st h => match wc pc with
    | none => stp call (rnL call wc cd n) (cd pc) pc (mkL l (dd5 (cd pc))) st h
    | some (na, f) => match spl na [] st with
      | some (as, t) => bif Nat.ble (vsz t) 20 then (f as h).bind fun o => rnL call wc cd n (pc + 3) l (o.1.toList ++ t) o.2 else none
      | none => none
theorem rnL_mo {call : Cl} {wc : Nat → Option (Nat × (Vs → AH → Option Ot))} {cd : Nat → CI} {o : Ot} (hc : ∀ y as h o', call y as h = some o' → mo h o') (hf : ∀ pc na f, wc pc = some (na, f) → ∀ as h o', f as h = some o' → mo h o') : ∀ (N pc : Nat) (l : Ls) (st : Vs) (h : AH), rnL call wc cd N pc l st h = some o → mo h o
  | 0, _, _, _, _, q => by cases q
  | N + 1, pc, l, st, h, q => by
    unfold rnL at q
    split at q
    · exact stp_mo hc (rnL_mo hc hf N) q
    · rename_i na f hw
      split at q
      · rename_i as t _
        cases hb : Nat.ble (vsz t) 20 with
        | true => rw [hb] at q; exact mo.bind (fun o' w => hf _ _ _ hw _ _ _ w) (fun o' w => rnL_mo hc hf N _ _ _ _ w) q
        | false => rw [hb] at q; cases q
      · cases q
section LAWR
variable {l : Launch} {z : State} {D : va_G} {dA : Nat → ClassId} {za : Array Value}
variable {mY : Nat → MethodName} {mB : Nat → ByteArray} {mL : Nat → Nat} {mT : Nat → Option FieldType} {mK : Nat → Nat × Nat × Nat} {exS : List (String × Nat × Nat)} {exZ : List (String × String × String × (Int32 ⊕ Nat))} {ext : Nat → Nat}
theorem rnL_ok {p : Program} {e : Env} {R : Room} {s : State} {m : MethodId} {args : Array Value} {below : List Frame} {meth : Method} {c : Code} {Q : State → Prop} {φ0 : Nat → Nat} {n0 s0 nL : Nat} {o : Ot} {own : String} {cc : ByteArray} {d : Nat} {ini : Bool} {rt : Option FieldType} {wc : Nat → Option (Nat × (Vs → AH → Option Ot))}
    (G : GL mY mB mL mT mK exS exZ z ext) (E : EV z za D dA) (X : Cx p s m c z own cc nL) (hini : ini = true → meth.name = "<init>") (hφ0 : ∀ x, x < 100 → φ0 x = ext x) (hn0 : 100 ≤ n0) (hR1 : d + 2 ≤ R.frames) (hR2 : 100 * (d + 2) ≤ R.locals) (hRc : gN o.2 - n0 ≤ R.cells) (hRs : gS o.2 - s0 ≤ R.slots) {call : Cl} {cd : Nat → CI}
    (hok : ∀ pc, (cd pc).1 = .nop ∨ okB wQ wQ0 mY mK exS exZ own cc nL ini rt pc (cd pc) = true) (hcall : ∀ y as h o', call y as h = some o' → MetA mY mB mL mT l z D dA ext d y as h o') (hmo : ∀ y as h o', call y as h = some o' → mo h o')
    (hwc : ∀ pc na f, wc pc = some (na, f) → ∃ y wcc wL hh idx, wrF y wcc wL hh own cc pc idx na ∧ ∀ as h o', f as h = some o' → MetW y wcc wL hh l z D dA ext d as h o') (hret : RET p l e R s m args below meth c Q z D dA φ0 n0 s0 nL cc rt o) :
    ∀ (N pc : Nat) (lo : Ls) (st : Vs) (h : AH), rnL call wc cd N pc lo st h = some o → AW p l e R s m args below meth c Q z D dA φ0 n0 s0 nL pc lo st h
  | 0, _, _, _, _, q => by cases q
  | N + 1, pc, lo, st, h, q => by
    have hf : ∀ pc na f, wc pc = some (na, f) → ∀ as h o', f as h = some o' → mo h o' := fun pc na f w as h o' w2 => by
      obtain ⟨y, wcc, wL, hh, idx, -, hM⟩ := hwc pc na f w
      exact ⟨(hM as h o' w2).1, (hM as h o' w2).2.1⟩
    unfold rnL at q
    split at q
    · rcases hok pc with hn | hw
      · rw [stp_nop hn] at q
        cases q
      · refine aw_mk (stp_ok wQ_ok wQ0_ok G E X hini hφ0 hn0 (by omega) (by omega) hw hcall (rnL_ok G E X hini hφ0 hn0 hR1 hR2 hRc hRs hok hcall hmo hwc hret N) (fun pc lo st h w => ?_) hret q)
        have := rnL_mo hmo hf N pc lo st h w
        exact ⟨by have := this.1; omega, by have := this.2; omega⟩
    · rename_i na f hw
      obtain ⟨y, wcc, wL, hh, idx, F, hM⟩ := hwc pc na f hw
      split at q
      · rename_i as t hs
        cases hb : Nat.ble (vsz t) 20 with
        | false => rw [hb] at q; cases q
        | true =>
          rw [hb] at q
          obtain ⟨o', w1, w2⟩ := Option.bind_eq_some_iff.mp q
          obtain ⟨pre, e1, e2, e3⟩ := spl_spec _ _ _ _ _ hs
          rw [List.append_nil] at e2
          subst e2
          have m3 := rnL_mo hmo hf N _ _ _ _ w2
          exact aw_wrp E X F hφ0 hn0 hR1 hR2 e1 e3 (Nat.le_of_ble_eq_true hb) (hM _ _ _ w1) ⟨by have := m3.1; omega, by have := m3.2; omega⟩ (rnL_ok G E X hini hφ0 hn0 hR1 hR2 hRc hRs hok hcall hmo hwc hret N _ _ _ _ w2)
      · cases q
/-- the law's end -/
theorem law_ret {p : Program} {e : Env} {s : State} {m : MethodId} {below : List Frame} {meth : Method} {c : Code} {b : Nat} {φ : Nat → Nat} {hE : AH} (X : Cx p s m c s R_law code 8) (hlk : meth.locks = false) (hr : meth.sig.returnType = ret) (hN : gN hE - 100 ≤ 601024) (hS : gS hE ≤ 7293034) :
    RET p l e room_1 s m #[Value.ref b] below meth c (lw_Z below #[Value.ref b] s) s D dA φ 100 0 8 code (some .boolean) (some (.int 1), hE) := by
  refine ⟨fun pc lo v h' hd _ ho => ?_, fun pc lo v h' hd ht ho => (by cases ht), fun pc lo v h' hd ht ho => (by cases ht), fun pc lo h' hd ht ho => (by cases ht)⟩
  cases ho
  intro φ' H locs ls a1 a2 a3 a4 a5 a6 a7 a8
  refine W.widen (k := 601024) (n := 7293034) hN hS ?_
  exact W.forget (locs := []) (L := locs) a3 (lw_ret X.1 X.2.1 hr hlk hd)
end LAWR
