/-! ===== ROWS: constants that are references, statics, getClass, grids ===== -/
section AWK
variable {p : Program} {l : Launch} {e : Env} {R : Room} {s : State} {m : MethodId} {args : Array Value} {below : List Frame} {meth : Method} {c : Code} {Q : State → Prop} {z : State} {D : va_G} {dA : Nat → ClassId} {φ0 : Nat → Nat} {n0 s0 nL : Nat} {lo : Ls} {st : Vs} {h : AH} {o : Ot} {pc pc' : Nat} {za : Array Value} {own : String} {cc : ByteArray}
theorem aw_ext {x a : Nat} (hx : x < 100) (hn0 : 100 ≤ n0) (hφ : φ0 x = a)
    (row : ∀ {H : Heap} {locs : List Loc} {cells slots : Nat} {ls : Array Slot} {rest : List Value}, (z.heap.size ≤ H.size ∧ ∀ q, q < z.heap.size → H[q]? = z.heap[q]?) → W p l e R s m args below meth c H locs cells slots Q (F0 m pc' ls (.ref a :: rest)) → W p l e R s m args below meth c H locs cells slots Q (F0 m pc ls rest))
    (k : AW p l e R s m args below meth c Q z D dA φ0 n0 s0 nL pc' lo (.ref x :: st) h) : AW p l e R s m args below meth c Q z D dA φ0 n0 s0 nL pc lo st h := by
  intro φ H locs ls a1 a2 a3 a4 a5 a6 a7 a8
  have w := k φ H locs ls a1 a2 a3 a4 ⟨Nat.lt_of_lt_of_le hx a1.2.2.1, a5⟩ a6 a7 a8
  rw [List.map_cons, show vmp φ (.ref x) = .ref a from congrArg Value.ref ((a2 x (by omega)).trans hφ)] at w
  exact row ⟨a1.1, a1.2.1⟩ w
theorem gets_row (X : Cx p s m c z own cc nL) {C n d : String} {v : Value} (hZ : ZS z C n d v) {idx : Nat} (hlink : (Cond.fieldLink own idx C n d).before args s = true) (hd : decode cc pc = .ok (.getstatic idx, 3)) {H : Heap} {locs : List Loc} {cells slots : Nat} {ls : Array Slot} {rest : List Value} (hH : z.heap.size ≤ H.size ∧ ∀ q, q < z.heap.size → H[q]? = z.heap[q]?)
    (k : W p l e R s m args below meth c H locs cells slots Q (F0 m (pc + 3) ls (v :: rest))) : W p l e R s m args below meth c H locs cells slots Q (F0 m pc ls rest) := by
  obtain ⟨cf, kf, fi, f, a, cell, h1, h2, h3, h4, h5, h6, h7, h8⟩ := va_Z.moved X.2.2.2.2.alike hZ
  exact W.gets X.1 X.2.1 X.2.2.2.1 hlink h1 h2 h3 h4 (by rw [hH.2 a (Nat.not_le.mp h8)]; exact h5) (fun e => by rw [e] at h6; cases h6) h7 rfl hd k
theorem aw_gsi (X : Cx p s m c z own cc nL) (E : EV z za D dA) {C n d : String} {v : Int32} {idx : Nat} (hZ : ZS z C n d (.int v)) (hw : Cond.fieldLink own idx C n d ∈ lw_tbl ∧ goodWord (Cond.fieldLink own idx C n d) = true) (hd : decode cc pc = .ok (.getstatic idx, 3))
    (k : AW p l e R s m args below meth c Q z D dA φ0 n0 s0 nL (pc + 3) lo (.int v :: st) h) : AW p l e R s m args below meth c Q z D dA φ0 n0 s0 nL pc lo st h := by
  intro φ H locs ls a1 a2 a3 a4 a5 a6 a7 a8
  exact gets_row X hZ (E.w X.2.2.2.2 hw args) hd ⟨a1.1, a1.2.1⟩ (k φ H locs ls a1 a2 a3 a4 ⟨trivial, a5⟩ a6 a7 a8)
/-- getClass of an array of Objects -/
theorem aw_gcl (E : EV z za D dA) (X : Cx p s m c z own cc nL) {idx x y : Nat} {r : Vs} (hx : gC h x = 65) (hy : y < 100) (hn0 : 100 ≤ n0) (hM : va_Mi "[Ljava/lang/Object;" (φ0 y) z)
    (hw1 : Cond.methodLink own idx ⟨"java/lang/Object", "getClass", "()Ljava/lang/Class;"⟩ ∈ lw_tbl ∧ goodWord (Cond.methodLink own idx ⟨"java/lang/Object", "getClass", "()Ljava/lang/Class;"⟩) = true) (hw2 : Cond.declares ⟨"java/lang/Object", "getClass", "()Ljava/lang/Class;"⟩ ∈ lw_tbl)
    (hw3 : Cond.selects "[Ljava/lang/Object;" ⟨"java/lang/Object", "getClass", "()Ljava/lang/Class;"⟩ ⟨"java/lang/Object", "getClass", "()Ljava/lang/Class;"⟩ ∈ lw_tbl ∧ goodWord (Cond.selects "[Ljava/lang/Object;" ⟨"java/lang/Object", "getClass", "()Ljava/lang/Class;"⟩ ⟨"java/lang/Object", "getClass", "()Ljava/lang/Class;"⟩) = true)
    (hw4 : Cond.instanceMethod ⟨"java/lang/Object", "getClass", "()Ljava/lang/Class;"⟩ ∈ lw_tbl ∧ goodWord (Cond.instanceMethod ⟨"java/lang/Object", "getClass", "()Ljava/lang/Class;"⟩) = true) (hw5 : Cond.native ⟨"java/lang/Object", "getClass", "()Ljava/lang/Class;"⟩ ∈ lw_tbl ∧ goodWord (Cond.native ⟨"java/lang/Object", "getClass", "()Ljava/lang/Class;"⟩) = true)
    (hframes : 1 ≤ R.frames) (hlocals : vsz r + 14 ≤ R.locals) (hd : decode cc pc = .ok (.invokevirtual idx, 3))
    (k : AW p l e R s m args below meth c Q z D dA φ0 n0 s0 nL (pc + 3) lo (.ref y :: r) h) : AW p l e R s m args below meth c Q z D dA φ0 n0 s0 nL pc lo (.ref x :: r) h := by
  intro φ H locs ls a1 a2 a3 a4 a5 a6 a7 a8
  have hW := X.2.2.2.2
  have w := k φ H locs ls a1 a2 a3 a4 ⟨Nat.lt_of_lt_of_le hy a1.2.2.1, a5.2⟩ a6 a7 a8
  rw [List.map_cons, show vmp φ (.ref y) = .ref (φ0 y) from congrArg Value.ref (a2 y (by omega))] at w
  obtain ⟨cell, g1, g2, g3, -, -, g6, -⟩ := (a1.cel (x := x) (by omega)).2
  have g5 := (g6 (by omega)).1
  rw [hx] at g5
  have g5 := clA65 g5
  obtain ⟨kA, comp, -, -, -, h8⟩ := ((E.2.2.2.1 65 (by omega) (by omega)).1.2).moved hW.alike
  have hcat := vsz_cat φ r
  refine va_getC X.1 X.2.1 (by rw [X.2.2.1]; exact a4.1.symm) X.2.2.2.1 (E.w hW hw1 args) (va_Dc.use (va_Dc.moved hW.alike (va_Dc.of (E.1 _ hw2)))) (E.w hW hw3 args) (E.w hW hw4 args) (E.w hW hw5 args) (hM.moved hW.alike) ⟨cell, g1, g3, by rw [g5]; exact h8⟩ hframes (by rw [hcat]; exact hlocals) hd w
end AWK
