/-! ===== A STEP OF THE PURE MACHINE IS A STEP OF THE JVM ===== -/
def okY (mY : Nat → MethodName) (mB : Nat → ByteArray) (mL : Nat → Nat) (mT : Nat → Option FieldType) (mK : Nat → Nat × Nat × Nat) (y : Nat) : Prop :=
  okM (mY y) (mB y) (mL y) (mT y) ∧ (parseMethodDescriptor (mY y).desc).map (fun d => d.parameters.length) = some (mK y).2.2 ∧
  ((mK y).1 = 0 → Cond.static (mY y) ∈ lw_tbl ∧ goodWord (Cond.static (mY y)) = true) ∧
  ((mK y).1 = 1 → 1 ≤ (mK y).2.1 ∧ (mK y).2.1 ≤ 15 ∧ (Cond.instanceMethod (mY y) ∈ lw_tbl ∧ goodWord (Cond.instanceMethod (mY y)) = true) ∧ (Cond.selects (cR (mK y).2.1) (mY y) (mY y) ∈ lw_tbl ∧ goodWord (Cond.selects (cR (mK y).2.1) (mY y) (mY y)) = true)) ∧
  ((mK y).1 = 2 → (Cond.instanceMethod (mY y) ∈ lw_tbl ∧ goodWord (Cond.instanceMethod (mY y)) = true) ∧ (mY y).name = "<init>" ∧ mT y = none)
/-- of a class: its words, its fields' types -/
def okC (t : Nat) : Prop := (∀ w ∈ u_ws (cR t) (cT t) (cF t), w ∈ lw_tbl ∧ goodWord w = true) ∧ (∀ j, j < cF t → parseFieldDescriptor (cT t j).2.2.1 = some (cY t j) ∧ kdY (cY t j) ≠ 9) ∧ Cond.castable (cR t) "java/lang/Object" ∈ lw_tbl
/-- what holds of the claim's tables and of the start -/
def GL (mY : Nat → MethodName) (mB : Nat → ByteArray) (mL : Nat → Nat) (mT : Nat → Option FieldType) (mK : Nat → Nat × Nat × Nat) (exS : List (String × Nat × Nat)) (exZ : List (String × String × String × (Int32 ⊕ Nat))) (z : State) (ext : Nat → Nat) : Prop :=
  (∀ y, (mK y).1 ≤ 2 → okY mY mB mL mT mK y) ∧ (∀ t, 1 ≤ t → t ≤ 14 → okC t) ∧ (∀ q ∈ exS, q.2.2 < 100 ∧ ∃ tx, vk_R q.1 q.2.1 tx (ext q.2.2) z) ∧
  (∀ C n d v, (C, n, d, .inl v) ∈ exZ → ZS z C n d (.int v)) ∧ (∀ C n d x, (C, n, d, .inr x) ∈ exZ → x < 100 ∧ ((x ≠ 64 ∧ ZS z C n d (.ref (ext x))) ∨ (x = 64 ∧ C = "jdk/internal/util/Preconditions" ∧ n = "SIOOBE_FORMATTER" ∧ d = "Ljava/util/function/BiFunction;"))) ∧ va_Mi "[Ljava/lang/Object;" (ext 62) z
section SND
variable {p : Program} {l : Launch} {e : Env} {R : Room} {s : State} {m : MethodId} {args : Array Value} {below : List Frame} {meth : Method} {c : Code} {Q : State → Prop} {z : State} {D : va_G} {dA : Nat → ClassId} {φ0 : Nat → Nat} {n0 s0 nL : Nat} {lo : Ls} {st : Vs} {h : AH} {o : Ot} {pc pc' : Nat} {za : Array Value} {own : String} {cc : ByteArray}
variable {mY : Nat → MethodName} {mB : Nat → ByteArray} {mL : Nat → Nat} {mT : Nat → Option FieldType} {mK : Nat → Nat × Nat × Nat} {exS : List (String × Nat × Nat)} {exZ : List (String × String × String × (Int32 ⊕ Nat))} {ext : Nat → Nat} {d : Nat} {ini : Bool} {rt : Option FieldType} {wP wP0 : Cond → Bool}
theorem row_st (X : Cx p s m c z own cc nL) {ins : Instr} {ln i : Nat} {v : Value} (hd : decode cc pc = .ok (ins, ln)) {H : Heap} {locs : List Loc} {cells slots : Nat} {ls ls' : Array Slot} {rest : List Value} (hins : ins = .istore i ∧ ln = 2 ∧ (∃ x, v = .int x) ∨ ins = .lstore i ∧ ln = 2 ∧ (∃ x, v = .long x) ∨ ins = .astore i ∧ ln = 2 ∧ (∃ x, v = .ref x) ∨ (∃ f : Fin 4, (f : Nat) = i ∧ ln = 1 ∧ (ins = .istore_n f ∧ (∃ x, v = .int x) ∨ ins = .lstore_n f ∧ (∃ x, v = .long x) ∨ ins = .astore_n f ∧ (∃ x, v = .ref x))))
    (hs : storeLocals ls i v = some ls') (k : W p l e R s m args below meth c H locs cells slots Q (F0 m (pc + ln) ls' rest)) : W p l e R s m args below meth c H locs cells slots Q (F0 m pc ls (v :: rest)) := by
  have hx := X.1
  have hb := X.2.1
  intro T hT Y
  obtain ⟨t, a, b⟩ := k T hT Y
  refine ⟨t, ?_, b⟩
  rcases hins with ⟨rfl, rfl, x, rfl⟩ | ⟨rfl, rfl, x, rfl⟩ | ⟨rfl, rfl, x, rfl⟩ | ⟨f, rfl, rfl, ⟨rfl, x, rfl⟩ | ⟨rfl, x, rfl⟩ | ⟨rfl, x, rfl⟩⟩
  · jvm_step Y.here [Y.here.top, ↓top_set Y.here.top, hx, hb, hd, hs]
    exact a
  · jvm_step Y.here [Y.here.top, ↓top_set Y.here.top, hx, hb, hd, hs]
    exact a
  · jvm_step Y.here [Y.here.top, ↓top_set Y.here.top, hx, hb, hd, hs, Value.isRef]
    exact a
  · jvm_step Y.here [Y.here.top, ↓top_set Y.here.top, hx, hb, hd, hs]
    exact a
  · jvm_step Y.here [Y.here.top, ↓top_set Y.here.top, hx, hb, hd, hs]
    exact a
  · jvm_step Y.here [Y.here.top, ↓top_set Y.here.top, hx, hb, hd, hs, Value.isRef]
    exact a
theorem ldcw_row (X : Cx p s m c z own cc nL) {tx : String} {index q : Nat} (hZ : vk_R own index tx q s) (hdg : decode cc pc = .ok (.ldc_w index, 3)) {H : Heap} {locs : List Loc} {cells slots : Nat} {ls : Array Slot} {rest : List Value}
    (k : W p l e R s m args below meth c H locs cells slots Q (F0 m (pc + 3) ls (.ref q :: rest))) : W p l e R s m args below meth c H locs cells slots Q (F0 m pc ls rest) := by
  intro T hT Y
  obtain ⟨t, a1, b1⟩ := k T hT Y
  exact ⟨t, Y.ldcStringW X.1 X.2.2.2.1 (text := tx) (a := q) hZ.1 hZ.2 (g := F0 m pc ls rest) rfl (by rw [X.2.1]; exact hdg) t a1, b1⟩
theorem row_inc (X : Cx p s m c z own cc nL) {i : Nat} {n : Int} {v x : Int32} (hv : Int32.ofInt n = v) (hd : decode cc pc = .ok (.iinc i n, 3)) {H : Heap} {locs : List Loc} {cells slots : Nat} {ls ls' : Array Slot} {rest : List Value} (hl : ls[i]? = some (.val (.int x))) (hs : storeLocals ls i (.int (x + v)) = some ls')
    (k : W p l e R s m args below meth c H locs cells slots Q (F0 m (pc + 3) ls' rest)) : W p l e R s m args below meth c H locs cells slots Q (F0 m pc ls rest) := by
  have hx := X.1
  have hb := X.2.1
  subst hv
  intro T hT Y
  obtain ⟨t, a, b⟩ := k T hT Y
  refine ⟨t, ?_, b⟩
  jvm_step Y.here [Y.here.top, ↓top_set Y.here.top, hx, hb, hd, hl, hs]
  exact a
theorem okB_dec {ins : Instr} {r : Nat × Nat × Nat} {tb : List (Int32 × Nat)} {lc : Int64} {dd : List Bool} (hok : okB wP wP0 mY mK exS exZ own cc nL ini rt pc (ins, r, tb, lc, dd) = true) : ∃ n, decode cc pc = .ok (ins, n) ∧ (isSw ins = true ∨ n = lnI ins) := by
  obtain ⟨ra, rb, rc⟩ := r
  unfold okB at hok
  have h1 := (Bool.and_eq_true _ _ ▸ hok).1
  split at h1
  · rename_i i n hi
    rw [Bool.and_eq_true, Bool.or_eq_true, decide_eq_true_eq, decide_eq_true_eq] at h1
    exact ⟨n, by rw [hi, h1.1], h1.2⟩
  · cases h1
end SND
