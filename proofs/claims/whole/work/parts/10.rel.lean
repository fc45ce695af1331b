/-! ===== THE PURE MACHINE AND THE JVM's: how a heap of maps is held by the JVM's heap; a frame by a frame ===== -/
def vmp (φ : Nat → Nat) : Value → Value
  | .ref x => .ref (φ x)
  | v => v
def vld (n : Nat) : Value → Prop
  | .ref x => x < n
  | _ => True
def vlS (n : Nat) : Vs → Prop
  | [] => True
  | v :: t => vld n v ∧ vlS n t
def vlL (n : Nat) (lo : Ls) : Prop := ∀ i v, ldL lo i = some v → vld n v
/-- what the field j of the object x, of class c, holds -/
def fV (φ : Nat → Nat) (h : AH) (c x j : Nat) : Value := match cY c j with
  | .long => .long (gL h (256 * c + j) x)
  | .object _ => va_rf ((gR h (256 * c + j) x).map φ)
  | .array _ => va_rf ((gR h (256 * c + j) x).map φ)
  | _ => .int (gI h (256 * c + j) x)
/-- what the place j of the array x, of kind c, holds -/
def eV (φ : Nat → Nat) (h : AH) (c x j : Nat) : Value := match c with
  | 61 => .long (gB h x j)
  | 65 => va_rf ((gO h x j).map φ)
  | 66 => va_rf ((gO h x j).map φ)
  | _ => .int (gA h x j)
/-- an array's length: as an int its places' number; one that is there at the start may have more places than are known -/
def szA (n k : Nat) : Prop := n ≤ k ∧ k.toInt32 = nI n
theorem szA_of {n k : Nat} (h : k = n) : szA n k := by subst h; exact ⟨Nat.le_refl _, rfl⟩
/-- the class of an array: the kind's, or, of one that is there at the start, its own -/
def clA (dA : Nat → ClassId) (t x : Nat) (c : ClassId) : Prop := c = dA t ∨ (x < 100 ∧ eK x = t ∧ c = dA (100 + x))
theorem clA65 {dA : Nat → ClassId} {x : Nat} {c : ClassId} (h : clA dA 65 x c) : c = dA 65 := by
  rcases h with h | ⟨-, h, -⟩
  · exact h
  · unfold eK at h
    split at h
    · cases h
    · split at h <;> cases h
/-- the cell of an id -/
def Cel (D : va_G) (dA : Nat → ClassId) (φ : Nat → Nat) (h : AH) (x : Nat) (H : Heap) : Prop :=
  ∃ cell : Cell, H[φ x]? = some cell ∧ cell.vm ≠ .unknown ∧ cell.vm.isStatics = false ∧
    (gC h x ≤ 15 → cell.cls = D.1 (gC h x) ∧ ∀ j, j < cF (gC h x) → cell.slots[D.2 (gC h x) j]? = some (fV φ h (gC h x) x j)) ∧
    (gC h x ≤ 14 → cell.vm = .none ∧ 100 ≤ x) ∧
    (60 ≤ gC h x → clA dA (gC h x) x cell.cls ∧ szA (gK h x) cell.slots.size ∧ ∀ j, j < gK h x → cell.slots[j]? = some (eV φ h (gC h x) x j)) ∧
    (60 ≤ gC h x → 100 ≤ x → cell = arrV (dA (gC h x)) (gK h x) (eV φ h (gC h x) x))
/-- a static of the start -/
def ZS (z : State) (C n d : String) (v : Value) : Prop := va_Z C n d v (fun q => z.heap.size ≤ q) z z.heap
/-- the one static that may be null, number 64 -/
def SI (z : State) (φ : Nat → Nat) (h : AH) : Prop := gC h 64 = 0 ∧ ((gK h 64 = 1 ∧ ZS z "jdk/internal/util/Preconditions" "SIOOBE_FORMATTER" "Ljava/util/function/BiFunction;" .null) ∨ (¬ gK h 64 = 1 ∧ ZS z "jdk/internal/util/Preconditions" "SIOOBE_FORMATTER" "Ljava/util/function/BiFunction;" (.ref (φ 64))))
def HR (z : State) (D : va_G) (dA : Nat → ClassId) (φ : Nat → Nat) (h : AH) (H : Heap) : Prop :=
  z.heap.size ≤ H.size ∧ (∀ q, q < z.heap.size → H[q]? = z.heap[q]?) ∧ 100 ≤ gN h ∧
  (∀ x y, (100 ≤ x ∨ 100 ≤ y) → gC h x ≠ 0 → gC h y ≠ 0 → φ x = φ y → x = y) ∧ (∀ x, gC h x ≠ 0 → φ x < H.size) ∧ (∀ x, 100 ≤ x → gC h x ≠ 0 → z.heap.size ≤ φ x) ∧
  (∀ x, gC h x ≠ 0 → x < gN h ∧ Cel D dA φ h x H) ∧
  (∀ k x y, x < gN h → gR h k x = some y → y < gN h) ∧ (∀ x i y, x < gN h → gO h x i = some y → y < gN h ∧ (gC h x = 65 → gC h y ≠ 0 ∧ gC h y < 15)) ∧ SI z φ h
def LR (φ : Nat → Nat) (ls : Array Slot) (nL : Nat) (lo : Ls) : Prop := ls.size = nL ∧ lv_wf ls ∧ ∀ i v, ldL lo i = some v → ls[i]? = some (.val (vmp φ v))
theorem vmp_cat (φ : Nat → Nat) (v : Value) : (vmp φ v).category = v.category := by cases v <;> rfl
theorem ldL_se {l : Ls} {i j : Nat} {v : Option Value} {w : Value} (h : ldL (seL l i v) j = some w) : (j = i ∧ v = some w) ∨ (j ≠ i ∧ ldL l j = some w) := by
  induction l generalizing i j with
  | nil => simp [seL, ldL] at h
  | cons a t ih =>
    cases i with
    | zero =>
      cases j with
      | zero => exact Or.inl ⟨rfl, h⟩
      | succ j => exact Or.inr ⟨by omega, h⟩
    | succ i =>
      cases j with
      | zero => exact Or.inr ⟨by omega, h⟩
      | succ j =>
        rcases ih (i := i) (j := j) h with ⟨a1, a2⟩ | ⟨a1, a2⟩
        · exact Or.inl ⟨by omega, a2⟩
        · exact Or.inr ⟨by omega, a2⟩
theorem klV_some {o : Option Value} {w : Value} (h : klV o = some w) : o = some w ∧ w.category = 1 := by
  unfold klV at h
  split at h
  · cases h
  · cases h
  · rename_i n1 n2
    subst h
    refine ⟨rfl, ?_⟩
    cases w <;> first | rfl | exact absurd rfl (n1 _) | exact absurd rfl (n2 _)
theorem ldL_kl {l : Ls} {i j : Nat} {w : Value} (h : ldL (klL l i) j = some w) : ldL l j = some w ∧ ¬ (j + 1 = i ∧ w.category = 2) := by
  cases i with
  | zero => exact ⟨h, fun q => by omega⟩
  | succ i =>
    rcases ldL_se h with ⟨a1, a2⟩ | ⟨a1, a2⟩
    · subst a1
      obtain ⟨b1, b2⟩ := klV_some a2
      exact ⟨b1, fun q => by omega⟩
    · exact ⟨a2, fun q => by omega⟩
theorem ldL_st {l : Ls} {i j : Nat} {v w : Value} (h : ldL (stL l i v) j = some w) : (j = i ∧ v = w) ∨ (j ≠ i ∧ ldL l j = some w ∧ ¬ (j + 1 = i ∧ w.category = 2)) := by
  rcases ldL_se h with ⟨a1, a2⟩ | ⟨a1, a2⟩
  · exact Or.inl ⟨a1, Option.some.inj a2⟩
  · exact Or.inr ⟨a1, ldL_kl a2⟩
theorem ldL_st2 {l : Ls} {i j : Nat} {v w : Value} (h : ldL (stL2 l i v) j = some w) : (j = i ∧ v = w) ∨ (j ≠ i ∧ j ≠ i + 1 ∧ ldL l j = some w ∧ ¬ (j + 1 = i ∧ w.category = 2)) := by
  rcases ldL_se h with ⟨a1, a2⟩ | ⟨a1, a2⟩
  · cases a2
  · rcases ldL_st a2 with b | ⟨b1, b2, b3⟩
    · exact Or.inl b
    · exact Or.inr ⟨b1, a1, b2, b3⟩
theorem ldL_mk {l : Ls} {bs : List Bool} {j : Nat} {w : Value} (h : ldL (mkL l bs) j = some w) : ldL l j = some w := by
  induction l generalizing bs j with
  | nil =>
    cases bs <;> simp [mkL, ldL] at h
  | cons a t ih =>
    cases bs with
    | nil => exact h
    | cons b bs =>
      cases j with
      | zero =>
        cases b with
        | true => cases h
        | false => exact h
      | succ j => exact ih (bs := bs) (j := j) h
theorem LR.mk {φ : Nat → Nat} {ls : Array Slot} {nL : Nat} {lo : Ls} (h : LR φ ls nL lo) (bs : List Bool) : LR φ ls nL (mkL lo bs) := ⟨h.1, h.2.1, fun i v hv => h.2.2 i v (ldL_mk hv)⟩
theorem vlL.mk {n : Nat} {lo : Ls} (h : vlL n lo) (bs : List Bool) : vlL n (mkL lo bs) := fun i v hv => h i v (ldL_mk hv)
theorem vlL.st {n i : Nat} {lo : Ls} {v : Value} (h : vlL n lo) (hv : vld n v) : vlL n (stL lo i v) := fun j w hw => by
  rcases ldL_st hw with ⟨-, a⟩ | ⟨-, a, -⟩
  · exact a ▸ hv
  · exact h j w a
theorem vlL.st2 {n i : Nat} {lo : Ls} {v : Value} (h : vlL n lo) (hv : vld n v) : vlL n (stL2 lo i v) := fun j w hw => by
  rcases ldL_st2 hw with ⟨-, a⟩ | ⟨-, -, a, -⟩
  · exact a ▸ hv
  · exact h j w a
theorem LR.st {φ : Nat → Nat} {ls : Array Slot} {nL i : Nat} {lo : Ls} {v : Value} (h : LR φ ls nL lo) (hi : i < nL) (hc : v.category = 1) : ∃ ls', storeLocals ls i (vmp φ v) = some ls' ∧ LR φ ls' nL (stL lo i v) := by
  have hc' : (vmp φ v).category = 1 := by rw [vmp_cat]; exact hc
  obtain ⟨ls', e, h1, h2, h3⟩ := lv_store1 (l := []) (v := vmp φ v) ⟨h.1, h.2.1, fun q hq => by cases hq⟩ hi hc'
  refine ⟨ls', e, h1, h2, fun j w hw => ?_⟩
  rcases ldL_st hw with ⟨rfl, rfl⟩ | ⟨a1, a2, a3⟩
  · exact h3 _ List.mem_cons_self
  · obtain ⟨ls2, e2, -, -, g3⟩ := lv_store1 (l := [(j, vmp φ w)]) (v := vmp φ v) ⟨h.1, h.2.1, fun q hq => by rw [List.mem_singleton.mp hq]; exact h.2.2 j w a2⟩ hi hc'
    have : ls2 = ls' := Option.some.inj (e2.symm.trans e)
    subst this
    refine g3 (j, vmp φ w) (List.mem_cons_of_mem _ (List.mem_filter.mpr ⟨List.mem_singleton.mpr rfl, ?_⟩))
    simp only [Bool.and_eq_true, Bool.not_eq_true', beq_eq_false_iff_ne, ne_eq, Bool.and_eq_false_iff, vmp_cat]
    refine ⟨a1, ?_⟩
    by_cases q : j + 1 = i
    · exact Or.inr (fun z => a3 ⟨q, z⟩)
    · exact Or.inl q
theorem LR.st2 {φ : Nat → Nat} {ls : Array Slot} {nL i : Nat} {lo : Ls} {v : Value} (h : LR φ ls nL lo) (hi : i + 1 < nL) (hc : v.category = 2) : ∃ ls', storeLocals ls i (vmp φ v) = some ls' ∧ LR φ ls' nL (stL2 lo i v) := by
  have hc' : (vmp φ v).category = 2 := by rw [vmp_cat]; exact hc
  obtain ⟨ls', e, h1, h2, h3⟩ := lv_store2 (l := []) (v := vmp φ v) ⟨h.1, h.2.1, fun q hq => by cases hq⟩ hi hc'
  refine ⟨ls', e, h1, h2, fun j w hw => ?_⟩
  rcases ldL_st2 hw with ⟨rfl, rfl⟩ | ⟨a1, a4, a2, a3⟩
  · exact h3 _ List.mem_cons_self
  · obtain ⟨ls2, e2, -, -, g3⟩ := lv_store2 (l := [(j, vmp φ w)]) (v := vmp φ v) ⟨h.1, h.2.1, fun q hq => by rw [List.mem_singleton.mp hq]; exact h.2.2 j w a2⟩ hi hc'
    have : ls2 = ls' := Option.some.inj (e2.symm.trans e)
    subst this
    refine g3 (j, vmp φ w) (List.mem_cons_of_mem _ (List.mem_filter.mpr ⟨List.mem_singleton.mpr rfl, ?_⟩))
    simp only [Bool.and_eq_true, Bool.not_eq_true', beq_eq_false_iff_ne, ne_eq, Bool.and_eq_false_iff, vmp_cat]
    refine ⟨a1, a4, ?_⟩
    by_cases q : j + 1 = i
    · exact Or.inr (fun z => a3 ⟨q, z⟩)
    · exact Or.inl q
theorem vmp_ext {φ ψ : Nat → Nat} {n : Nat} (h : ∀ x, x < n → ψ x = φ x) {v : Value} (hv : vld n v) : vmp ψ v = vmp φ v := by
  cases v <;> first | rfl | exact congrArg Value.ref (h _ hv)
theorem vmpS_ext {φ ψ : Nat → Nat} {n : Nat} (h : ∀ x, x < n → ψ x = φ x) : ∀ {st : Vs}, vlS n st → st.map (vmp ψ) = st.map (vmp φ)
  | [], _ => rfl
  | _ :: _, hv => by rw [List.map_cons, List.map_cons, vmp_ext h hv.1, vmpS_ext h hv.2]
theorem LR.ext {φ ψ : Nat → Nat} {ls : Array Slot} {nL n : Nat} {lo : Ls} (h : LR φ ls nL lo) (hv : vlL n lo) (hx : ∀ x, x < n → ψ x = φ x) : LR ψ ls nL lo := ⟨h.1, h.2.1, fun i v e => by rw [vmp_ext hx (hv i v e)]; exact h.2.2 i v e⟩
theorem vld.mono {n k : Nat} (h : n ≤ k) {v : Value} (hv : vld n v) : vld k v := by
  cases v <;> first | trivial | exact Nat.lt_of_lt_of_le hv h
theorem vlS.mono {n k : Nat} (h : n ≤ k) : ∀ {st : Vs}, vlS n st → vlS k st
  | [], _ => trivial
  | _ :: _, hv => ⟨hv.1.mono h, hv.2.mono h⟩
theorem vlL.mono {n k : Nat} (h : n ≤ k) {lo : Ls} (hv : vlL n lo) : vlL k lo := fun i v e => (hv i v e).mono h
