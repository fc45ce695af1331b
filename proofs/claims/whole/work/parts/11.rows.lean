/-! ===== ROWS: an instruction of the pure machine is one of the JVM's (what touches no heap) ===== -/
def Cx (p : Program) (s : State) (m : MethodId) (c : Code) (z : State) (own : String) (cc : ByteArray) (nL : Nat) : Prop :=
  p.tables.exec = Jvm.exec ∧ c.code = cc ∧ c.maxLocals = nL ∧ s.vm.findClass own = some m.cls ∧ z.WarmedH s.vm
/-- from every JVM heap that holds the pure one, and every frame that holds the pure one: the JVM comes to Q -/
def AW (p : Program) (l : Launch) (e : Env) (R : Room) (s : State) (m : MethodId) (args : Array Value) (below : List Frame) (meth : Method) (c : Code) (Q : State → Prop) (z : State) (D : va_G) (dA : Nat → ClassId) (φ0 : Nat → Nat) (n0 s0 nL : Nat) (pc : Nat) (lo : Ls) (st : Vs) (h : AH) : Prop :=
  ∀ (φ : Nat → Nat) (H : Heap) (locs : List Loc) (ls : Array Slot), HR z D dA φ h H → (∀ x, x < n0 → φ x = φ0 x) → (∀ q ∈ locs, z.heap.size ≤ q.base) → LR φ ls nL lo → vlS (gN h) st → vlL (gN h) lo → n0 ≤ gN h → s0 ≤ gS h →
    W p l e R s m args below meth c H locs (gN h - n0) (gS h - s0) Q (F0 m pc ls (st.map (vmp φ)))
section AWP
variable {p : Program} {l : Launch} {e : Env} {R : Room} {s : State} {m : MethodId} {args : Array Value} {below : List Frame} {meth : Method} {c : Code} {Q : State → Prop} {z : State} {D : va_G} {dA : Nat → ClassId} {φ0 : Nat → Nat} {n0 s0 nL : Nat} {lo : Ls} {st : Vs} {h : AH} {o : Ot} {pc pc' : Nat}
theorem aw_mk {bs : List Bool} (k : AW p l e R s m args below meth c Q z D dA φ0 n0 s0 nL pc (mkL lo bs) st h) : AW p l e R s m args below meth c Q z D dA φ0 n0 s0 nL pc lo st h :=
  fun φ H locs ls a1 a2 a3 a4 a5 a6 a7 a8 => k φ H locs ls a1 a2 a3 (a4.mk bs) a5 (a6.mk bs) a7 a8
theorem aw_push {v : Value} (hv : ∀ n, vld n v) (hm : ∀ φ, vmp φ v = v) (row : ∀ {H : Heap} {locs : List Loc} {cells slots : Nat} {ls : Array Slot} {rest : List Value}, W p l e R s m args below meth c H locs cells slots Q (F0 m pc' ls (v :: rest)) → W p l e R s m args below meth c H locs cells slots Q (F0 m pc ls rest))
    (k : AW p l e R s m args below meth c Q z D dA φ0 n0 s0 nL pc' lo (v :: st) h) : AW p l e R s m args below meth c Q z D dA φ0 n0 s0 nL pc lo st h := by
  intro φ H locs ls a1 a2 a3 a4 a5 a6 a7 a8
  have w := k φ H locs ls a1 a2 a3 a4 ⟨hv _, a5⟩ a6 a7 a8
  rw [List.map_cons, hm] at w
  exact row w
theorem aw_ld {i : Nat} {K : Vs → Option Ot} (row : ∀ {H : Heap} {locs : List Loc} {cells slots : Nat} {ls : Array Slot} {rest : List Value} {x : Int32}, ls[i]? = some (.val (.int x)) → W p l e R s m args below meth c H locs cells slots Q (F0 m pc' ls (.int x :: rest)) → W p l e R s m args below meth c H locs cells slots Q (F0 m pc ls rest))
    (hk : ∀ st, K st = some o → AW p l e R s m args below meth c Q z D dA φ0 n0 s0 nL pc' lo st h) (q : o_ld K lo i st = some o) : AW p l e R s m args below meth c Q z D dA φ0 n0 s0 nL pc lo st h := by
  unfold o_ld at q
  split at q
  · rename_i x hx
    intro φ H locs ls a1 a2 a3 a4 a5 a6 a7 a8
    exact row (a4.2.2 i _ hx) (hk _ q φ H locs ls a1 a2 a3 a4 ⟨trivial, a5⟩ a6 a7 a8)
  · cases q
theorem aw_ldl {i : Nat} {K : Vs → Option Ot} (row : ∀ {H : Heap} {locs : List Loc} {cells slots : Nat} {ls : Array Slot} {rest : List Value} {x : Int64}, ls[i]? = some (.val (.long x)) → W p l e R s m args below meth c H locs cells slots Q (F0 m pc' ls (.long x :: rest)) → W p l e R s m args below meth c H locs cells slots Q (F0 m pc ls rest))
    (hk : ∀ st, K st = some o → AW p l e R s m args below meth c Q z D dA φ0 n0 s0 nL pc' lo st h) (q : o_ldl K lo i st = some o) : AW p l e R s m args below meth c Q z D dA φ0 n0 s0 nL pc lo st h := by
  unfold o_ldl at q
  split at q
  · rename_i x hx
    intro φ H locs ls a1 a2 a3 a4 a5 a6 a7 a8
    exact row (a4.2.2 i _ hx) (hk _ q φ H locs ls a1 a2 a3 a4 ⟨trivial, a5⟩ a6 a7 a8)
  · cases q
theorem aw_lda {i : Nat} {K : Vs → Option Ot} (row : ∀ {H : Heap} {locs : List Loc} {cells slots : Nat} {ls : Array Slot} {rest : List Value} {x : Nat}, ls[i]? = some (.val (.ref x)) → W p l e R s m args below meth c H locs cells slots Q (F0 m pc' ls (.ref x :: rest)) → W p l e R s m args below meth c H locs cells slots Q (F0 m pc ls rest))
    (rowN : ∀ {H : Heap} {locs : List Loc} {cells slots : Nat} {ls : Array Slot} {rest : List Value}, ls[i]? = some (.val .null) → W p l e R s m args below meth c H locs cells slots Q (F0 m pc' ls (.null :: rest)) → W p l e R s m args below meth c H locs cells slots Q (F0 m pc ls rest))
    (hk : ∀ st, K st = some o → AW p l e R s m args below meth c Q z D dA φ0 n0 s0 nL pc' lo st h) (q : o_lda K lo i st = some o) : AW p l e R s m args below meth c Q z D dA φ0 n0 s0 nL pc lo st h := by
  unfold o_lda at q
  split at q
  · rename_i x hx
    intro φ H locs ls a1 a2 a3 a4 a5 a6 a7 a8
    exact row (a4.2.2 i _ hx) (hk _ q φ H locs ls a1 a2 a3 a4 ⟨a6 i _ hx, a5⟩ a6 a7 a8)
  · rename_i hx
    intro φ H locs ls a1 a2 a3 a4 a5 a6 a7 a8
    exact rowN (a4.2.2 i _ hx) (hk _ q φ H locs ls a1 a2 a3 a4 ⟨trivial, a5⟩ a6 a7 a8)
  · cases q
theorem aw_st {i : Nat} {K : Ls → Vs → Option Ot} (hi : i < nL) (row : ∀ {H : Heap} {locs : List Loc} {cells slots : Nat} {ls ls' : Array Slot} {rest : List Value} {x : Int32}, storeLocals ls i (.int x) = some ls' → W p l e R s m args below meth c H locs cells slots Q (F0 m pc' ls' rest) → W p l e R s m args below meth c H locs cells slots Q (F0 m pc ls (.int x :: rest)))
    (hk : ∀ lo st, K lo st = some o → AW p l e R s m args below meth c Q z D dA φ0 n0 s0 nL pc' lo st h) (q : o_st K lo i st = some o) : AW p l e R s m args below meth c Q z D dA φ0 n0 s0 nL pc lo st h := by
  unfold o_st at q
  split at q
  · rename_i x t
    intro φ H locs ls a1 a2 a3 a4 a5 a6 a7 a8
    obtain ⟨ls', e1, e2⟩ := a4.st (v := .int x) hi rfl
    exact row e1 (hk _ _ q φ H locs ls' a1 a2 a3 e2 a5.2 (a6.st trivial) a7 a8)
  · cases q
theorem aw_stl {i : Nat} {K : Ls → Vs → Option Ot} (hi : i + 1 < nL) (row : ∀ {H : Heap} {locs : List Loc} {cells slots : Nat} {ls ls' : Array Slot} {rest : List Value} {x : Int64}, storeLocals ls i (.long x) = some ls' → W p l e R s m args below meth c H locs cells slots Q (F0 m pc' ls' rest) → W p l e R s m args below meth c H locs cells slots Q (F0 m pc ls (.long x :: rest)))
    (hk : ∀ lo st, K lo st = some o → AW p l e R s m args below meth c Q z D dA φ0 n0 s0 nL pc' lo st h) (q : o_stl K lo i st = some o) : AW p l e R s m args below meth c Q z D dA φ0 n0 s0 nL pc lo st h := by
  unfold o_stl at q
  split at q
  · rename_i x t
    intro φ H locs ls a1 a2 a3 a4 a5 a6 a7 a8
    obtain ⟨ls', e1, e2⟩ := a4.st2 (v := .long x) hi rfl
    exact row e1 (hk _ _ q φ H locs ls' a1 a2 a3 e2 a5.2 (a6.st2 trivial) a7 a8)
  · cases q
theorem aw_sta {i : Nat} {K : Ls → Vs → Option Ot} (hi : i < nL) (row : ∀ {H : Heap} {locs : List Loc} {cells slots : Nat} {ls ls' : Array Slot} {rest : List Value} {x : Nat}, storeLocals ls i (.ref x) = some ls' → W p l e R s m args below meth c H locs cells slots Q (F0 m pc' ls' rest) → W p l e R s m args below meth c H locs cells slots Q (F0 m pc ls (.ref x :: rest)))
    (hk : ∀ lo st, K lo st = some o → AW p l e R s m args below meth c Q z D dA φ0 n0 s0 nL pc' lo st h) (q : o_sta K lo i st = some o) : AW p l e R s m args below meth c Q z D dA φ0 n0 s0 nL pc lo st h := by
  unfold o_sta at q
  split at q
  · rename_i x t
    intro φ H locs ls a1 a2 a3 a4 a5 a6 a7 a8
    obtain ⟨ls', e1, e2⟩ := a4.st (v := .ref x) hi rfl
    exact row e1 (hk _ _ q φ H locs ls' a1 a2 a3 e2 a5.2 (a6.st a5.1) a7 a8)
  · cases q
theorem aw_inc {i : Nat} {v : Int32} {K : Ls → Option Ot} (hi : i < nL) (row : ∀ {H : Heap} {locs : List Loc} {cells slots : Nat} {ls ls' : Array Slot} {rest : List Value} {x : Int32}, ls[i]? = some (.val (.int x)) → storeLocals ls i (.int (x + v)) = some ls' → W p l e R s m args below meth c H locs cells slots Q (F0 m pc' ls' rest) → W p l e R s m args below meth c H locs cells slots Q (F0 m pc ls rest))
    (hk : ∀ lo, K lo = some o → AW p l e R s m args below meth c Q z D dA φ0 n0 s0 nL pc' lo st h) (q : (match ldL lo i with
      | some (.int x) => K (stL lo i (.int (x + v)))
      | _ => none) = some o) : AW p l e R s m args below meth c Q z D dA φ0 n0 s0 nL pc lo st h := by
  split at q
  · rename_i x hx
    intro φ H locs ls a1 a2 a3 a4 a5 a6 a7 a8
    obtain ⟨ls', e1, e2⟩ := a4.st (v := .int (x + v)) hi rfl
    exact row (a4.2.2 i _ hx) e1 (hk _ q φ H locs ls' a1 a2 a3 e2 a5 (a6.st trivial) a7 a8)
  · cases q
theorem aw_b {f : Int32 → Int32 → Int32} {K : Vs → Option Ot} (row : ∀ {H : Heap} {locs : List Loc} {cells slots : Nat} {ls : Array Slot} {rest : List Value} {x y : Int32}, W p l e R s m args below meth c H locs cells slots Q (F0 m pc' ls (.int (f x y) :: rest)) → W p l e R s m args below meth c H locs cells slots Q (F0 m pc ls (.int y :: .int x :: rest)))
    (hk : ∀ st, K st = some o → AW p l e R s m args below meth c Q z D dA φ0 n0 s0 nL pc' lo st h) (q : o_b f K st = some o) : AW p l e R s m args below meth c Q z D dA φ0 n0 s0 nL pc lo st h := by
  unfold o_b at q
  split at q
  · intro φ H locs ls a1 a2 a3 a4 a5 a6 a7 a8
    exact row (hk _ q φ H locs ls a1 a2 a3 a4 ⟨trivial, a5.2.2⟩ a6 a7 a8)
  · cases q
theorem aw_bd {f : Int32 → Int32 → Int32} {K : Vs → Option Ot} (row : ∀ {H : Heap} {locs : List Loc} {cells slots : Nat} {ls : Array Slot} {rest : List Value} {x y : Int32}, ¬ y = 0 → W p l e R s m args below meth c H locs cells slots Q (F0 m pc' ls (.int (f x y) :: rest)) → W p l e R s m args below meth c H locs cells slots Q (F0 m pc ls (.int y :: .int x :: rest)))
    (hk : ∀ st, K st = some o → AW p l e R s m args below meth c Q z D dA φ0 n0 s0 nL pc' lo st h) (q : o_bd f K st = some o) : AW p l e R s m args below meth c Q z D dA φ0 n0 s0 nL pc lo st h := by
  unfold o_bd at q
  split at q
  · split at q
    · cases q
    · rename_i hy
      intro φ H locs ls a1 a2 a3 a4 a5 a6 a7 a8
      exact row hy (hk _ q φ H locs ls a1 a2 a3 a4 ⟨trivial, a5.2.2⟩ a6 a7 a8)
  · cases q
theorem aw_u {f : Int32 → Int32} {K : Vs → Option Ot} (row : ∀ {H : Heap} {locs : List Loc} {cells slots : Nat} {ls : Array Slot} {rest : List Value} {x : Int32}, W p l e R s m args below meth c H locs cells slots Q (F0 m pc' ls (.int (f x) :: rest)) → W p l e R s m args below meth c H locs cells slots Q (F0 m pc ls (.int x :: rest)))
    (hk : ∀ st, K st = some o → AW p l e R s m args below meth c Q z D dA φ0 n0 s0 nL pc' lo st h) (q : o_u f K st = some o) : AW p l e R s m args below meth c Q z D dA φ0 n0 s0 nL pc lo st h := by
  unfold o_u at q
  split at q
  · intro φ H locs ls a1 a2 a3 a4 a5 a6 a7 a8
    exact row (hk _ q φ H locs ls a1 a2 a3 a4 ⟨trivial, a5.2⟩ a6 a7 a8)
  · cases q
theorem aw_B {f : Int64 → Int64 → Int64} {K : Vs → Option Ot} (row : ∀ {H : Heap} {locs : List Loc} {cells slots : Nat} {ls : Array Slot} {rest : List Value} {x y : Int64}, W p l e R s m args below meth c H locs cells slots Q (F0 m pc' ls (.long (f x y) :: rest)) → W p l e R s m args below meth c H locs cells slots Q (F0 m pc ls (.long y :: .long x :: rest)))
    (hk : ∀ st, K st = some o → AW p l e R s m args below meth c Q z D dA φ0 n0 s0 nL pc' lo st h) (q : o_B f K st = some o) : AW p l e R s m args below meth c Q z D dA φ0 n0 s0 nL pc lo st h := by
  unfold o_B at q
  split at q
  · intro φ H locs ls a1 a2 a3 a4 a5 a6 a7 a8
    exact row (hk _ q φ H locs ls a1 a2 a3 a4 ⟨trivial, a5.2.2⟩ a6 a7 a8)
  · cases q
theorem aw_Bd {f : Int64 → Int64 → Int64} {K : Vs → Option Ot} (row : ∀ {H : Heap} {locs : List Loc} {cells slots : Nat} {ls : Array Slot} {rest : List Value} {x y : Int64}, ¬ y = 0 → W p l e R s m args below meth c H locs cells slots Q (F0 m pc' ls (.long (f x y) :: rest)) → W p l e R s m args below meth c H locs cells slots Q (F0 m pc ls (.long y :: .long x :: rest)))
    (hk : ∀ st, K st = some o → AW p l e R s m args below meth c Q z D dA φ0 n0 s0 nL pc' lo st h) (q : o_Bd f K st = some o) : AW p l e R s m args below meth c Q z D dA φ0 n0 s0 nL pc lo st h := by
  unfold o_Bd at q
  split at q
  · split at q
    · cases q
    · rename_i hy
      intro φ H locs ls a1 a2 a3 a4 a5 a6 a7 a8
      exact row hy (hk _ q φ H locs ls a1 a2 a3 a4 ⟨trivial, a5.2.2⟩ a6 a7 a8)
  · cases q
theorem aw_Bs {f : Int64 → Int32 → Int64} {K : Vs → Option Ot} (row : ∀ {H : Heap} {locs : List Loc} {cells slots : Nat} {ls : Array Slot} {rest : List Value} {x : Int64} {y : Int32}, W p l e R s m args below meth c H locs cells slots Q (F0 m pc' ls (.long (f x y) :: rest)) → W p l e R s m args below meth c H locs cells slots Q (F0 m pc ls (.int y :: .long x :: rest)))
    (hk : ∀ st, K st = some o → AW p l e R s m args below meth c Q z D dA φ0 n0 s0 nL pc' lo st h) (q : o_Bs f K st = some o) : AW p l e R s m args below meth c Q z D dA φ0 n0 s0 nL pc lo st h := by
  unfold o_Bs at q
  split at q
  · intro φ H locs ls a1 a2 a3 a4 a5 a6 a7 a8
    exact row (hk _ q φ H locs ls a1 a2 a3 a4 ⟨trivial, a5.2.2⟩ a6 a7 a8)
  · cases q
theorem aw_cmp {K : Vs → Option Ot} (row : ∀ {H : Heap} {locs : List Loc} {cells slots : Nat} {ls : Array Slot} {rest : List Value} {x y : Int64}, W p l e R s m args below meth c H locs cells slots Q (F0 m pc' ls (.int (lg_cmp x y) :: rest)) → W p l e R s m args below meth c H locs cells slots Q (F0 m pc ls (.long y :: .long x :: rest)))
    (hk : ∀ st, K st = some o → AW p l e R s m args below meth c Q z D dA φ0 n0 s0 nL pc' lo st h) (q : o_cmp K st = some o) : AW p l e R s m args below meth c Q z D dA φ0 n0 s0 nL pc lo st h := by
  unfold o_cmp at q
  split at q
  · intro φ H locs ls a1 a2 a3 a4 a5 a6 a7 a8
    exact row (hk _ q φ H locs ls a1 a2 a3 a4 ⟨trivial, a5.2.2⟩ a6 a7 a8)
  · cases q
/-- one value for one value, neither a reference -/
theorem aw_1 {v w : Value} {t : Vs} (h1 : ∀ φ, vmp φ v = v) (h2 : ∀ φ, vmp φ w = w) (h3 : ∀ n, vld n w) (row : ∀ {H : Heap} {locs : List Loc} {cells slots : Nat} {ls : Array Slot} {rest : List Value}, W p l e R s m args below meth c H locs cells slots Q (F0 m pc' ls (w :: rest)) → W p l e R s m args below meth c H locs cells slots Q (F0 m pc ls (v :: rest)))
    (k : AW p l e R s m args below meth c Q z D dA φ0 n0 s0 nL pc' lo (w :: t) h) : AW p l e R s m args below meth c Q z D dA φ0 n0 s0 nL pc lo (v :: t) h := by
  intro φ H locs ls a1 a2 a3 a4 a5 a6 a7 a8
  have x := k φ H locs ls a1 a2 a3 a4 ⟨h3 _, a5.2⟩ a6 a7 a8
  rw [List.map_cons, h2] at x
  rw [List.map_cons, h1]
  exact row x
/-- a jump on two ints; the conditions as the JVM's rows have them -/
theorem aw_if (X : p.tables.exec = Jvm.exec) (Y : Int32 → Int32 → List Value → List Value) (K : Vs → Option Ot → Prop) {a b : Vs → Option Ot} {cn : Nat} {x y : Int32} {t : Vs}
    (ha : a t = some o → AW p l e R s m args below meth c Q z D dA φ0 n0 s0 nL pc' lo t h) (hb : b t = some o → AW p l e R s m args below meth c Q z D dA φ0 n0 s0 nL (pc + 3) lo t h) {st0 : Vs} (hst : vlS (gN h) st0 → vlS (gN h) t) (hmp : ∀ φ, st0.map (vmp φ) = Y x y (t.map (vmp φ)))
    (r0 : cn = 0 → ∀ {H : Heap} {locs : List Loc} {cells slots : Nat} {ls : Array Slot} {rest : List Value}, (x = y → W p l e R s m args below meth c H locs cells slots Q (F0 m pc' ls rest)) → (¬ x = y → W p l e R s m args below meth c H locs cells slots Q (F0 m (pc + 3) ls rest)) → W p l e R s m args below meth c H locs cells slots Q (F0 m pc ls (Y x y rest)))
    (r1 : cn = 1 → ∀ {H : Heap} {locs : List Loc} {cells slots : Nat} {ls : Array Slot} {rest : List Value}, (¬ x = y → W p l e R s m args below meth c H locs cells slots Q (F0 m pc' ls rest)) → (x = y → W p l e R s m args below meth c H locs cells slots Q (F0 m (pc + 3) ls rest)) → W p l e R s m args below meth c H locs cells slots Q (F0 m pc ls (Y x y rest)))
    (r2 : cn = 2 → ∀ {H : Heap} {locs : List Loc} {cells slots : Nat} {ls : Array Slot} {rest : List Value}, (x < y → W p l e R s m args below meth c H locs cells slots Q (F0 m pc' ls rest)) → (¬ x < y → W p l e R s m args below meth c H locs cells slots Q (F0 m (pc + 3) ls rest)) → W p l e R s m args below meth c H locs cells slots Q (F0 m pc ls (Y x y rest)))
    (r3 : cn = 3 → ∀ {H : Heap} {locs : List Loc} {cells slots : Nat} {ls : Array Slot} {rest : List Value}, (y ≤ x → W p l e R s m args below meth c H locs cells slots Q (F0 m pc' ls rest)) → (¬ y ≤ x → W p l e R s m args below meth c H locs cells slots Q (F0 m (pc + 3) ls rest)) → W p l e R s m args below meth c H locs cells slots Q (F0 m pc ls (Y x y rest)))
    (r4 : cn = 4 → ∀ {H : Heap} {locs : List Loc} {cells slots : Nat} {ls : Array Slot} {rest : List Value}, (y < x → W p l e R s m args below meth c H locs cells slots Q (F0 m pc' ls rest)) → (¬ y < x → W p l e R s m args below meth c H locs cells slots Q (F0 m (pc + 3) ls rest)) → W p l e R s m args below meth c H locs cells slots Q (F0 m pc ls (Y x y rest)))
    (r5 : cn = 5 → ∀ {H : Heap} {locs : List Loc} {cells slots : Nat} {ls : Array Slot} {rest : List Value}, (x ≤ y → W p l e R s m args below meth c H locs cells slots Q (F0 m pc' ls rest)) → (¬ x ≤ y → W p l e R s m args below meth c H locs cells slots Q (F0 m (pc + 3) ls rest)) → W p l e R s m args below meth c H locs cells slots Q (F0 m pc ls (Y x y rest)))
    (hc : cn < 6) (q : o_if a b cn x y t = some o) : AW p l e R s m args below meth c Q z D dA φ0 n0 s0 nL pc lo st0 h := by
  intro φ H locs ls a1 a2 a3 a4 a5 a6 a7 a8
  rw [hmp]
  have ha : a t = some o → W p l e R s m args below meth c H locs (gN h - n0) (gS h - s0) Q (F0 m pc' ls (t.map (vmp φ))) := fun z => ha z φ H locs ls a1 a2 a3 a4 (hst a5) a6 a7 a8
  have hb : b t = some o → W p l e R s m args below meth c H locs (gN h - n0) (gS h - s0) Q (F0 m (pc + 3) ls (t.map (vmp φ))) := fun z => hb z φ H locs ls a1 a2 a3 a4 (hst a5) a6 a7 a8
  match cn, hc with
  | 0, _ =>
    refine r0 rfl (fun z => ha ?_) (fun z => hb ?_)
    · rw [o_if, if_pos z] at q; exact q
    · rw [o_if, if_neg z] at q; exact q
  | 1, _ =>
    refine r1 rfl (fun z => ha ?_) (fun z => hb ?_)
    · rw [o_if, if_neg z] at q; exact q
    · rw [o_if, if_pos z] at q; exact q
  | 2, _ =>
    refine r2 rfl (fun z => ha ?_) (fun z => hb ?_)
    · rw [o_if, if_pos z] at q; exact q
    · rw [o_if, if_neg z] at q; exact q
  | 3, _ =>
    refine r3 rfl (fun z => ha ?_) (fun z => hb ?_)
    · rw [o_if, if_neg (Int32.not_lt.mpr z)] at q; exact q
    · rw [o_if, if_pos (Int32.not_le.mp z)] at q; exact q
  | 4, _ =>
    refine r4 rfl (fun z => ha ?_) (fun z => hb ?_)
    · rw [o_if, if_pos z] at q; exact q
    · rw [o_if, if_neg z] at q; exact q
  | 5, _ =>
    refine r5 rfl (fun z => ha ?_) (fun z => hb ?_)
    · rw [o_if, if_neg (Int32.not_lt.mpr z)] at q
      · exact q
      all_goals intros; omega
    · rw [o_if, if_pos (Int32.not_le.mp z)] at q
      · exact q
      all_goals intros; omega
  | n + 6, z => exact absurd z (by omega)
end AWP
