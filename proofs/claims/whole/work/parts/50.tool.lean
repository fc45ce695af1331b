/-! ===== TOOLS FOR THE PURE PART ===== -/
section SH
variable {h : AH}
theorem HH.mk {h : AH} (a : cX (gC h) = gC h) (b : kX (gK h) = gK h) (c : rX (gR h) = gR h) (e : oX (gO h) = gO h) : HH h = h := by
  unfold HH
  rw [a, b, c, e]
  rfl
theorem Sh.c (a : Sh h) : cX (gC h) = gC h := congrArg gC a.1
theorem Sh.k (a : Sh h) : kX (gK h) = gK h := congrArg gK a.1
theorem Sh.r (a : Sh h) : rX (gR h) = gR h := congrArg gR a.1
theorem Sh.o (a : Sh h) : oX (gO h) = gO h := congrArg gO a.1
theorem Sh.sI (a : Sh h) {k x : Nat} {v : Int32} : Sh (sI h k x v) := ⟨HH.mk a.c a.k a.r a.o, a.2⟩
theorem Sh.sL (a : Sh h) {k x : Nat} {v : Int64} : Sh (sL h k x v) := ⟨HH.mk a.c a.k a.r a.o, a.2⟩
theorem Sh.sA (a : Sh h) {k x : Nat} {v : Int32} : Sh (sA h k x v) := ⟨HH.mk a.c a.k a.r a.o, a.2⟩
theorem Sh.sB (a : Sh h) {k x : Nat} {v : Int64} : Sh (sB h k x v) := ⟨HH.mk a.c a.k a.r a.o, a.2⟩
theorem Sh.cpA (a : Sh h) {x y sp dp n : Nat} : Sh (cpA h x sp y dp n) := ⟨HH.mk a.c a.k a.r a.o, a.2⟩
theorem Sh.cpB (a : Sh h) {x y sp dp n : Nat} : Sh (cpB h x sp y dp n) := ⟨HH.mk a.c a.k a.r a.o, a.2⟩
theorem Sh.sR (a : Sh h) {k x : Nat} {v : Option Nat} (hk : inS x = false ∨ rS k x = none) : Sh (sR h k x v) := by
  refine ⟨HH.mk a.c a.k ?_ a.o, a.2⟩
  funext k' x'
  have e : rX (gR h) k' x' = gR h k' x' := congrFun (congrFun a.r k') x'
  show rX (up2 (gR h) k x v) k' x' = up2 (gR h) k x v k' x'
  unfold rX at e ⊢
  by_cases h1 : k' = k
  · by_cases h2 : x' = x
    · subst h1 h2
      rcases hk with q | q
      · rw [q]; rfl
      · rw [q]; cases inS x' <;> rfl
    · have : up2 (gR h) k x v k' x' = gR h k' x' := by unfold up2 up1; rw [if_pos h1, if_neg h2]
      rw [this]; exact e
  · have : up2 (gR h) k x v k' x' = gR h k' x' := by unfold up2; rw [if_neg h1]
    rw [this]; exact e
theorem Sh.sO (a : Sh h) {x i : Nat} {v : Option Nat} (hx : x ≠ 107) : Sh (sO h x i v) := by
  refine ⟨HH.mk a.c a.k a.r ?_, a.2⟩
  funext x' i'
  have e : oX (gO h) x' i' = gO h x' i' := congrFun (congrFun a.o x') i'
  show oX (up2 (gO h) x i v) x' i' = up2 (gO h) x i v x' i'
  by_cases h1 : x' = x
  · subst h1
    unfold oX
    rw [show Nat.beq x' 107 = false from by cases hb : Nat.beq x' 107 with | false => rfl | true => exact absurd (Nat.eq_of_beq_eq_true hb) hx]
    rfl
  · have : up2 (gO h) x i v x' = gO h x' := by unfold up2; rw [if_neg h1]
    unfold oX at e ⊢
    rw [this]; exact e
theorem inS_lt {x : Nat} : inS x = true ↔ x < 296 := by unfold inS; rw [Nat.blt_eq]
theorem inS_ge {x : Nat} (e : 296 ≤ x) : inS x = false := by
  cases hb : inS x with
  | false => rfl
  | true => have := inS_lt.mp hb; omega
theorem Sh.nw (a : Sh h) {c k n : Nat} : Sh (nw h c k n) := by
  have hg := a.2
  refine ⟨HH.mk ?_ ?_ ?_ ?_, Nat.le_succ_of_le a.2⟩
  · funext x
    show cX (up1 (gC h) (gN h) c) x = up1 (gC h) (gN h) c x
    by_cases e : x = gN h
    · unfold cX; rw [inS_ge (by omega)]; rfl
    · have : up1 (gC h) (gN h) c x = gC h x := if_neg e
      have w := congrFun a.c x
      unfold cX at w ⊢; rw [this]; exact w
  · funext x
    show kX (up1 (gK h) (gN h) k) x = up1 (gK h) (gN h) k x
    by_cases e : x = gN h
    · unfold kX; rw [inS_ge (by omega)]; rfl
    · have : up1 (gK h) (gN h) k x = gK h x := if_neg e
      have w := congrFun a.k x
      unfold kX at w ⊢; rw [this]; exact w
  · funext j x
    show rX (fun j => up1 (gR h j) (gN h) none) j x = up1 (gR h j) (gN h) none x
    by_cases e : x = gN h
    · unfold rX; rw [inS_ge (by omega)]; rfl
    · have : up1 (gR h j) (gN h) none x = gR h j x := if_neg e
      have w := congrFun (congrFun a.r j) x
      unfold rX at w ⊢; dsimp only; rw [this]; exact w
  · funext x i
    show oX (up1 (gO h) (gN h) (fun _ => none)) x i = up1 (gO h) (gN h) (fun _ => none) x i
    by_cases e : x = gN h
    · unfold oX
      rw [show Nat.beq x 107 = false from by cases hb : Nat.beq x 107 with | false => rfl | true => have := Nat.eq_of_beq_eq_true hb; omega]
      rfl
    · have : up1 (gO h) (gN h) (fun _ => none) x = gO h x := if_neg e
      have w := congrFun (congrFun a.o x) i
      unfold oX at w ⊢; rw [this]; exact w
end SH
/-- only these int and long fields, only these arrays of numbers have changed -/
def Fr (K X : List Nat) (h h' : AH) : Prop := h'.1 = h.1 ∧ gC h' = gC h ∧ gK h' = gK h ∧ gR h' = gR h ∧ gO h' = gO h ∧ (∀ k, k ∉ K → gI h' k = gI h k) ∧ (∀ k, k ∉ K → gL h' k = gL h k) ∧ (∀ x, x ∉ X → gA h' x = gA h x) ∧ ∀ x, x ∉ X → gB h' x = gB h x
section FR
variable {K X K' X' : List Nat} {h h' h'' : AH}
theorem Fr.rfl : Fr K X h h := ⟨Eq.refl _, Eq.refl _, Eq.refl _, Eq.refl _, Eq.refl _, fun _ _ => Eq.refl _, fun _ _ => Eq.refl _, fun _ _ => Eq.refl _, fun _ _ => Eq.refl _⟩
theorem Fr.trans (a : Fr K X h h') (b : Fr K X h' h'') : Fr K X h h'' := by
  obtain ⟨a1, a2, a3, a4, a5, a6, a7, a8, a9⟩ := a
  obtain ⟨b1, b2, b3, b4, b5, b6, b7, b8, b9⟩ := b
  exact ⟨b1.trans a1, b2.trans a2, b3.trans a3, b4.trans a4, b5.trans a5, fun k q => (b6 k q).trans (a6 k q), fun k q => (b7 k q).trans (a7 k q), fun k q => (b8 k q).trans (a8 k q), fun k q => (b9 k q).trans (a9 k q)⟩
theorem Fr.wk (a : Fr K X h h') (hK : K ⊆ K') (hX : X ⊆ X') : Fr K' X' h h' := by
  obtain ⟨a1, a2, a3, a4, a5, a6, a7, a8, a9⟩ := a
  exact ⟨a1, a2, a3, a4, a5, fun k q => a6 k fun w => q (hK w), fun k q => a7 k fun w => q (hK w), fun k q => a8 k fun w => q (hX w), fun k q => a9 k fun w => q (hX w)⟩
theorem Fr.sh (a : Fr K X h h') (s : Sh h) : Sh h' := by
  obtain ⟨a1, a2, a3, a4, a5, -⟩ := a
  refine ⟨HH.mk (by rw [a2]; exact s.c) (by rw [a3]; exact s.k) (by rw [a4]; exact s.r) (by rw [a5]; exact s.o), ?_⟩
  show 296 ≤ h'.1.1
  rw [a1]; exact s.2
theorem Fr.I (a : Fr K X h h') {k : Nat} (q : k ∉ K) : gI h' k = gI h k := a.2.2.2.2.2.1 k q
theorem Fr.L (a : Fr K X h h') {k : Nat} (q : k ∉ K) : gL h' k = gL h k := a.2.2.2.2.2.2.1 k q
theorem Fr.A (a : Fr K X h h') {k : Nat} (q : k ∉ X) : gA h' k = gA h k := a.2.2.2.2.2.2.2.1 k q
theorem Fr.B (a : Fr K X h h') {k : Nat} (q : k ∉ X) : gB h' k = gB h k := a.2.2.2.2.2.2.2.2 k q
theorem Fr.sI {k x : Nat} {v : Int32} (a : Fr K X h h') (q : k ∈ K) : Fr K X h (sI h' k x v) :=
  a.trans ⟨Eq.refl _, Eq.refl _, Eq.refl _, Eq.refl _, Eq.refl _, fun k' w => if_neg (fun (e : k' = k) => w (by rw [e]; exact q)), fun _ _ => Eq.refl _, fun _ _ => Eq.refl _, fun _ _ => Eq.refl _⟩
theorem Fr.sL {k x : Nat} {v : Int64} (a : Fr K X h h') (q : k ∈ K) : Fr K X h (sL h' k x v) :=
  a.trans ⟨Eq.refl _, Eq.refl _, Eq.refl _, Eq.refl _, Eq.refl _, fun _ _ => Eq.refl _, fun k' w => if_neg (fun (e : k' = k) => w (by rw [e]; exact q)), fun _ _ => Eq.refl _, fun _ _ => Eq.refl _⟩
theorem Fr.sA {k x : Nat} {v : Int32} (a : Fr K X h h') (q : k ∈ X) : Fr K X h (sA h' k x v) :=
  a.trans ⟨Eq.refl _, Eq.refl _, Eq.refl _, Eq.refl _, Eq.refl _, fun _ _ => Eq.refl _, fun _ _ => Eq.refl _, fun k' w => if_neg (fun (e : k' = k) => w (by rw [e]; exact q)), fun _ _ => Eq.refl _⟩
theorem Fr.sB {k x : Nat} {v : Int64} (a : Fr K X h h') (q : k ∈ X) : Fr K X h (sB h' k x v) :=
  a.trans ⟨Eq.refl _, Eq.refl _, Eq.refl _, Eq.refl _, Eq.refl _, fun _ _ => Eq.refl _, fun _ _ => Eq.refl _, fun _ _ => Eq.refl _, fun k' w => if_neg (fun (e : k' = k) => w (by rw [e]; exact q))⟩
end FR
theorem up2_s {α : Type} {f : Nat → Nat → α} {k x : Nat} {v : α} : up2 f k x v k x = v := by unfold up2 up1; rw [if_pos rfl, if_pos rfl]
theorem up2_x {α : Type} {f : Nat → Nat → α} {k x x' : Nat} {v : α} (e : x' ≠ x) : up2 f k x v k x' = f k x' := by unfold up2 up1; rw [if_pos rfl, if_neg e]
theorem up2_k {α : Type} {f : Nat → Nat → α} {k k' x : Nat} {v : α} (e : k' ≠ k) : up2 f k x v k' = f k' := by unfold up2; rw [if_neg e]
theorem up1_s {α : Type} {f : Nat → α} {x : Nat} {v : α} : up1 f x v x = v := if_pos rfl
theorem up1_x {α : Type} {f : Nat → α} {x x' : Nat} {v : α} (e : x' ≠ x) : up1 f x v x' = f x' := if_neg e
theorem ix_nI {n : Nat} (h : n < 2 ^ 31) : ix (nI n) = n := nI_clamp h
theorem gd_nI {n K : Nat} {x : Option Ot} (h : n < K) (hK : K ≤ 2 ^ 31) : gd (nI n) K x = x := by
  unfold gd
  rw [if_neg (nI_pos (by omega)), if_pos (by rw [ix_nI (by omega)]; exact h)]
