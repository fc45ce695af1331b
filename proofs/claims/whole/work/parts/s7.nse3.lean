/-! ===== A METHOD THAT THROWS A NoSuchElementException (gens7.py) ===== -/
section THN
variable {l : Launch} {z : State} {D : va_G} {dA : Nat → ClassId} {za : Array Value}
variable {mY : Nat → MethodName} {mB : Nat → ByteArray} {mL : Nat → Nat} {mT : Nat → Option FieldType} {mK : Nat → Nat × Nat × Nat} {exS : List (String × Nat × Nat)} {exZ : List (String × String × String × (Int32 ⊕ Nat))} {ext : Nat → Nat}
/-- what a method's throw needs: the place, the constants' numbers, the string's id -/
def nxFq (mY : Nat → MethodName) (mB : Nat → ByteArray) (exS : List (String × Nat × Nat)) (y P ik is ic sid : Nat) : Prop :=
  (Cond.classLink (mY y).cls ik nxN ∈ lw_tbl ∧ goodWord (Cond.classLink (mY y).cls ik nxN) = true) ∧ (Cond.initialized nxN ∈ lw_tbl ∧ goodWord (Cond.initialized nxN) = true) ∧ ((mY y).cls, is, sid) ∈ exS ∧
  (∀ w ∈ nxS (mY y).cls ic, (w ∈ lw_tbl ∧ isX w = true) ∧ vx_ot w = true) ∧
  decode (mB y) P = .ok (.new ik, 3) ∧ decode (mB y) (P + 3) = .ok (.dup, 1) ∧ decode (mB y) (P + 4) = .ok (.ldc is, 2) ∧ decode (mB y) (P + 6) = .ok (.invokespecial ic, 3) ∧ decode (mB y) (P + 9) = .ok (.athrow, 1)
theorem thr_metN (hl : l.stackTraces = false) (G : GL mY mB mL mT mK exS exZ z ext) (E : EV z za D dA) {cd : Nat → Nat → CI} {N : Nat} (hcd : ∀ y, (∀ pc, (cd y pc).1 = .nop) ∨ okT mY mB mL mT mK exS exZ cd y) {d y : Nat} {as : Vs} {h h' : AH} {P ik is ic sid : Nat} (hp : plainName (mY y).cls = true) (hok : okT mY mB mL mT mK exS exZ cd y)
    (hU0 : vx_Zq Bundle.tN "UNASSIGNED_STACK" Bundle.steD (fun q => z.heap.size ≤ q) z z.heap) (hN0 : vx_Zq Bundle.tN "SUPPRESSED_SENTINEL" Bundle.listD (fun q => z.heap.size ≤ q) z z.heap) (F : nxFq mY mB exS y P ik is ic sid) (hd : 8 ≤ d) (hlen : (arL as).length ≤ mL y)
    (q : rnT (evM cd mL N d) (cd y) P (fun _ st _ => st = []) N 0 (pdL (arL as) (mL y)) [] h = some (some (.double 0), h')) (φ : Nat → Nat) :
    vx_Met l (mY y) [Cond.code (mY y) (mB y) (mL y) (mT y)] { frames := d + 1, cells := gN h' + 1 - gN h, slots := gS h' + 6 - gS h, locals := 100 * (d + 1) }
      (fun a U => a = (as.map (vmp φ)).toArray ∧ z.WarmedH U.vm ∧ HR z D dA φ h U.heap ∧ vlS (gN h) as ∧ ∀ x, x < 100 → φ x = ext x) (fun _ _ _ _ => False)
      (fun E _ t => E = nxN ∧ ∃ φ' : Nat → Nat, (∀ x, x < gN h → φ' x = φ x) ∧ HR z D dA φ' h' t.heap) (gN h' + 1 - gN h) (gS h' + 6 - gS h) (fun q => z.heap.size ≤ q) := by
  have M := rnT_mo (evM_mo d) N 0 _ _ _ q
  have M1 : gN h ≤ gN h' := M.1
  have M2 : gS h ≤ gS h' := M.2
  obtain ⟨f2, f3, f4, f5, d0, d3, d4, d6, d9⟩ := F
  refine vx_ofW (cc := mB y) (maxL := mL y) (ret := mT y) hp rfl ?_
  intro p e s m args below meth c s₁ B hml hne hP
  obtain ⟨rfl, hW, hH, hv, hx⟩ := hP
  have X : Cx p s m c z (mY y).cls (mB y) (mL y) := ⟨B.exec, B.bytes, hml, findClass_of_methodNamed B.named, hW⟩
  have hlk : meth.locks = false := B.notSynchronized
  have hn0 : 100 ≤ gN h := hH.2.2.1
  have key := rnT_ok (l := l) (p := p) (e := e) (R := (headSpec [Cond.code (mY y) (mB y) (mL y) (mT y)] { frames := d + 1, cells := gN h' + 1 - gN h, slots := gS h' + 6 - gS h, locals := 100 * (d + 1) }).room) (s := s) (m := m) (args := (as.map (vmp φ)).toArray) (below := below) (meth := meth) (c := c)
    (Q := vx_MQ below (fun _ _ _ _ => False) (fun E _ t => E = nxN ∧ ∃ φ' : Nat → Nat, (∀ x, x < gN h → φ' x = φ x) ∧ HR z D dA φ' h' t.heap) (as.map (vmp φ)).toArray s (gN h' + 1 - gN h) (gS h' + 6 - gS h) (fun q => z.heap.size ≤ q)) (φ0 := φ) (n0 := gN h) (s0 := gS h) (hE := h') (d := d) (ini := decide ((mY y).name = "<init>")) (rt := mT y)
    G E X (fun w => (name_of_methodNamed B.named B.method).1.trans (of_decide_eq_true w)) hx hn0 (Nat.le_refl _) (Nat.le_refl _) (by show gN h' - gN h ≤ gN h' + 1 - gN h; omega) (by show gS h' - gS h ≤ gS h' + 6 - gS h; omega) hok.2 (evM_ok G E hcd d) (evM_mo d) (fun lo st hst => ?_) N 0 _ _ _ q
  · have ent := lv_entry (as.map (vmp φ)) (n := mL y) (by rw [arL_len]; exact hlen)
    have w := key φ s.heap [] _ hH (fun _ _ => rfl) (fun q hq => by cases hq) ⟨ent.1, ent.2.1, fun i v hi => ?_⟩ trivial (fun i v hi => vl_ar hv i v (ldL_app _ _ _ _ hi)) (Nat.le_refl _) (Nat.le_refl _)
    · rw [Nat.sub_self, Nat.sub_self] at w
      rw [lg_entry_eq]
      exact w
    · have := ldL_ar φ as 0 i v (ldL_app _ _ _ _ hi)
      rw [Nat.zero_add] at this
      exact ent.2.2 _ this
  · subst hst
    intro φ' H locs ls a1 a2 a3 a4 a5 a6 a7 a8
    intro T hT Y
    obtain ⟨tx, hR⟩ := (G.2.2.1 _ f4).2
    obtain ⟨k1, k2⟩ := vx_frame Y.same
    have kS : va_S (fun q => z.heap.size ≤ q) s.heap H locs := ⟨by rw [← hT]; exact k1, fun q hq hA => by
      have hlt : q < z.heap.size := Nat.not_le.mp hA
      rw [a1.2.1 q hlt, hH.2.1 q hlt], a3⟩
    have kk : ∀ a : Nat, a < z.heap.size → ¬ (fun q => z.heap.size ≤ q) a → s.heap[a]? = z.heap[a]? := fun a ha _ => hH.2.1 a ha
    exact nx_throw (rest := []) (text := tx) (A := fun q => z.heap.size ≤ q) X.1 X.2.1 hl X.2.2.2.1 (E.w hW f2 _) (E.w hW f3 _) (hR.warm hW) (fun w hw => E.wx hW (f5 w hw).1.1 (f5 w hw).1.2 _)
      (fun w hw => by
        rcases List.mem_cons.mp hw with rfl | hw
        · unfold vx_ot; rw [f2.2, Bool.or_true]
        · rcases List.mem_cons.mp hw with rfl | hw
          · unfold vx_ot; rw [f3.2, Bool.or_true]
          · exact (f5 w hw).2)
      (vx_Zq.moved hW.alike (hU0.kept kk)) (vx_Zq.moved hW.alike (hN0.kept kk)) kS (by rw [X.2.2.1]; exact a4.1) d0 d3 d4 d6 d9 (fun x hx => (hne x hx).elim)
      (by show 5 < d + 1; omega) (by show 0 + 82 ≤ 100 * (d + 1); omega) (by show gN h' - gN h + 1 ≤ gN h' + 1 - gN h; omega) (by show gS h' - gS h + 6 ≤ gS h' + 6 - gS h; omega) hlk
      (fun t _ g1 g2 => ⟨rfl, φ', a2, a1.grow g1 g2⟩) a3 (by omega) (by omega) T hT Y
end THN
