/-! ===== ROWS: fields and arrays ===== -/
def FS (U : State) (ref n d : String) (i : Nat) : Prop := ∃ cf kf fi fd, U.fieldFound? ref n d = some (cf, kf, fi, fd) ∧ fd.isStatic = false ∧ fd.slot = i
theorem FS.moved {u U : State} {ref n d : String} {i : Nat} (hvm : u.vm.Alike U.vm) (h : FS u ref n d i) : FS U ref n d i := by
  obtain ⟨cf, kf, fi, fd, hi, h1, h2⟩ := h
  obtain ⟨kf', hi', -⟩ := State.fieldFound?_setVm (s := u) hvm hi
  exact ⟨cf, kf', fi, fd, by simpa only [State.fieldFound?, State.vm_setVm] using hi', h1, h2⟩
theorem up1_eq {α : Type} (f : Nat → α) (x : Nat) (v : α) : up1 f x v x = v := if_pos rfl
theorem up1_ne {α : Type} (f : Nat → α) {x y : Nat} (v : α) (h : y ≠ x) : up1 f x v y = f y := if_neg h
theorem up2_eq {α : Type} (f : Nat → Nat → α) (k x : Nat) (v : α) : up2 f k x v k x = v := by
  unfold up2; rw [if_pos rfl, up1_eq]
theorem up2_nx {α : Type} (f : Nat → Nat → α) {k x : Nat} (v : α) {y : Nat} (k' : Nat) (h : y ≠ x) : up2 f k x v k' y = f k' y := by
  unfold up2
  by_cases q : k' = k
  · rw [if_pos q, up1_ne _ _ h]
  · rw [if_neg q]
theorem up2_nk {α : Type} (f : Nat → Nat → α) {k x : Nat} (v : α) {k' : Nat} (y : Nat) (h : k' ≠ k) : up2 f k x v k' y = f k' y := by
  unfold up2; rw [if_neg h]
theorem fV_eq {φ ψ : Nat → Nat} {h h' : AH} {c x j : Nat} (h1 : gI h' (256 * c + j) x = gI h (256 * c + j) x) (h2 : gL h' (256 * c + j) x = gL h (256 * c + j) x) (h3 : (gR h' (256 * c + j) x).map ψ = (gR h (256 * c + j) x).map φ) : fV ψ h' c x j = fV φ h c x j := by
  unfold fV
  rw [h1, h2, h3]
theorem eV_eq {φ ψ : Nat → Nat} {h h' : AH} {c x j : Nat} (h1 : gA h' x j = gA h x j) (h2 : gB h' x j = gB h x j) (h3 : (gO h' x j).map ψ = (gO h x j).map φ) : eV ψ h' c x j = eV φ h c x j := by
  unfold eV
  rw [h1, h2, h3]
theorem opt_map_eq {φ ψ : Nat → Nat} {n : Nat} (hx : ∀ x, x < n → ψ x = φ x) {o : Option Nat} (ho : ∀ y, o = some y → y < n) : o.map ψ = o.map φ := by
  cases o with
  | none => rfl
  | some y => exact congrArg some (hx y (ho y rfl))
/-- a cell whose contents did not change -/
theorem Cel.kept {D : va_G} {dA : Nat → ClassId} {φ ψ : Nat → Nat} {h h' : AH} {x : Nat} {H H' : Heap} (a : Cel D dA φ h x H) (e0 : ψ x = φ x) (e1 : H'[φ x]? = H[φ x]?) (e2 : gC h' x = gC h x) (e3 : gK h' x = gK h x)
    (f : ∀ c j, fV ψ h' c x j = fV φ h c x j) (g : ∀ c j, eV ψ h' c x j = eV φ h c x j) : Cel D dA ψ h' x H' := by
  obtain ⟨cell, h1, h2, h3, h4, h5, h6, h7⟩ := a
  refine ⟨cell, by rw [e0, e1]; exact h1, h2, h3, ?_, ?_, ?_, ?_⟩
  · rw [e2]
    intro q
    exact ⟨(h4 q).1, fun j hj => by rw [f]; exact (h4 q).2 j hj⟩
  · rw [e2]; exact h5
  · rw [e2, e3]
    intro q
    exact ⟨(h6 q).1, (h6 q).2.1, fun j hj => by rw [g]; exact (h6 q).2.2 j hj⟩
  · rw [e2, e3]
    intro q1 q2
    rw [h7 q1 q2]
    exact congrArg _ (funext fun j => (g _ j).symm)
/-- one cell of an id has changed -/
theorem HR.upd {z : State} {D : va_G} {dA : Nat → ClassId} {φ : Nat → Nat} {h h' : AH} {H H' : Heap} (a : HR z D dA φ h H) {x : Nat} (hx : gC h x ≠ 0) (hx1 : 100 ≤ x) (e1 : gN h' = gN h) (e2 : gC h' = gC h) (e3 : gK h' = gK h)
    (f : ∀ y, y ≠ x → ∀ k, gI h' k y = gI h k y ∧ gL h' k y = gL h k y ∧ gR h' k y = gR h k y) (g : ∀ y, y ≠ x → ∀ j, gA h' y j = gA h y j ∧ gB h' y j = gB h y j ∧ gO h' y j = gO h y j)
    (hr : ∀ k y, gR h' k x = some y → y < gN h) (ho : ∀ i y, gO h' x i = some y → y < gN h ∧ (gC h x = 65 → gC h y ≠ 0 ∧ gC h y < 15)) (hz : H'.size = H.size) (hq : ∀ q, q ≠ φ x → H'[q]? = H[q]?) (hc : Cel D dA φ h' x H') : HR z D dA φ h' H' := by
  obtain ⟨b1, b2, b3, b4, b5, b6, b7, b8, b9, b10⟩ := a
  have hxn : x < gN h := (b7 x hx).1
  have hxB : z.heap.size ≤ φ x := b6 x hx1 hx
  refine ⟨by rw [hz]; exact b1, fun q hq' => (hq q (by omega)).trans (b2 q hq'), by rw [e1]; exact b3, by rw [e2]; exact b4, by rw [e2, hz]; exact b5, by rw [e2]; exact b6, fun y hy => ?_, fun k y w hy e => ?_, fun y i w hy e => ?_, by unfold SI; rw [e2, e3]; exact b10⟩
  · rw [e1]
    rw [e2] at hy
    obtain ⟨c1, c2⟩ := b7 y hy
    refine ⟨c1, ?_⟩
    by_cases q : y = x
    · subst q; exact hc
    · refine c2.kept rfl (hq _ (fun w => q (b4 y x (Or.inr hx1) hy hx w))) (by rw [e2]) (by rw [e3]) (fun c j => fV_eq (f y q _).1 (f y q _).2.1 (by rw [(f y q _).2.2])) (fun c j => eV_eq (g y q _).1 (g y q _).2.1 (by rw [(g y q _).2.2]))
  · rw [e1] at hy ⊢
    by_cases q : y = x
    · subst q; exact hr k w e
    · rw [(f y q k).2.2] at e; exact b8 k y w hy e
  · rw [e1] at hy ⊢
    rw [e2]
    by_cases q : y = x
    · subst q; exact ho i w e
    · rw [(g y q i).2.2] at e; exact b9 y i w hy e
theorem HR.cel {z : State} {D : va_G} {dA : Nat → ClassId} {φ : Nat → Nat} {h : AH} {H : Heap} (a : HR z D dA φ h H) {x : Nat} (hx : gC h x ≠ 0) : x < gN h ∧ Cel D dA φ h x H := a.2.2.2.2.2.2.1 x hx
theorem HR.vR {z : State} {D : va_G} {dA : Nat → ClassId} {φ : Nat → Nat} {h : AH} {H : Heap} (a : HR z D dA φ h H) {k x y : Nat} (hx : gC h x ≠ 0) (e : gR h k x = some y) : y < gN h := a.2.2.2.2.2.2.2.1 k x y (a.cel hx).1 e
theorem HR.vO {z : State} {D : va_G} {dA : Nat → ClassId} {φ : Nat → Nat} {h : AH} {H : Heap} (a : HR z D dA φ h H) {x i y : Nat} (hx : gC h x ≠ 0) (e : gO h x i = some y) : y < gN h := (a.2.2.2.2.2.2.2.2.1 x i y (a.cel hx).1 e).1
theorem HR.vO2 {z : State} {D : va_G} {dA : Nat → ClassId} {φ : Nat → Nat} {h : AH} {H : Heap} (a : HR z D dA φ h H) {x i y : Nat} (hx : gC h x ≠ 0) (e : gO h x i = some y) : y < gN h ∧ (gC h x = 65 → gC h y ≠ 0 ∧ gC h y < 15) := a.2.2.2.2.2.2.2.2.1 x i y (a.cel hx).1 e
/-- what is known of the start z, and holds of every later state -/
def EV (z : State) (za : Array Value) (D : va_G) (dA : Nat → ClassId) : Prop :=
  (∀ w ∈ lw_tbl, w.before za z = true) ∧ (∀ c, 1 ≤ c → c ≤ 14 → u_Kn z (cR c) (cT c) (cF c) (D.1 c) (D.2 c)) ∧ (∀ c j, 1 ≤ c → c ≤ 15 → j < cF c → FS z (cT c j).1 (cT c j).2.1 (cT c j).2.2.1 (D.2 c j)) ∧
  (∀ t, 60 ≤ t → t ≤ 66 → (ArrOfT z (dA t) (aY t) ∧ va_RA z (dA t) (aY t)) ∧ ∀ x, x < 100 → eK x = t → ArrOfT z (dA (100 + x)) (aY t)) ∧ z.vm.findClass "java/lang/String" = some (D.1 15) ∧ (∀ c, 1 ≤ c → c ≤ 14 → ∀ a b, a < cF c → b < cF c → a ≠ b → D.2 c a ≠ D.2 c b)
theorem EV.w {z : State} {za : Array Value} {D : va_G} {dA : Nat → ClassId} (E : EV z za D dA) {s : State} (hW : z.WarmedH s.vm) {w : Cond} (hw : w ∈ lw_tbl ∧ goodWord w = true) (args : Array Value) : w.before args s = true := word_at hW (good_of_word hw.2) (E.1 w hw.1)
/-- the link of a field: the word, and that its class has it under that name -/
def fLk (own ref : String) (idx t j : Nat) : Prop := (Cond.fieldLink own idx ref (cT t j).2.1 (cT t j).2.2.1 ∈ lw_tbl ∧ goodWord (Cond.fieldLink own idx ref (cT t j).2.1 (cT t j).2.2.1) = true) ∧ (ref = (cT t j).1 ∨ (Cond.sameField ref (cT t j).1 (cT t j).2.1 (cT t j).2.2.1 ∈ lw_tbl ∧ goodWord (Cond.sameField ref (cT t j).1 (cT t j).2.1 (cT t j).2.2.1) = true))
section AWH
variable {p : Program} {l : Launch} {e : Env} {R : Room} {s : State} {m : MethodId} {args : Array Value} {below : List Frame} {meth : Method} {c : Code} {Q : State → Prop} {z : State} {D : va_G} {dA : Nat → ClassId} {φ0 : Nat → Nat} {n0 s0 nL : Nat} {lo : Ls} {st : Vs} {h : AH} {o : Ot} {pc : Nat} {za : Array Value} {own : String} {cc : ByteArray}
theorem isArr {t x : Nat} {cell : Cell} (E : EV z za D dA) (hW : z.WarmedH s.vm) (h1 : 60 ≤ t) (h2 : t ≤ 66) (hc : clA dA t x cell.cls) (hv : cell.vm.isStatics = false) : s.isArrayOf cell (aY t) := by
  rcases hc with hc | ⟨hx, he, hc⟩
  · obtain ⟨-, k, hk, hkk⟩ := arrOfT_moved hW.alike (E.2.2.2.1 t h1 h2).1.1 0 (fun _ => .null)
    exact ⟨fun q hq => (by rw [hq] at hv; cases hv), k, by rw [hc]; exact hk, hkk⟩
  · obtain ⟨-, k, hk, hkk⟩ := arrOfT_moved hW.alike ((E.2.2.2.1 t h1 h2).2 x hx he) 0 (fun _ => .null)
    exact ⟨fun q hq => (by rw [hq] at hv; cases hv), k, by rw [hc]; exact hk, hkk⟩
theorem va_rf_some (o : Option Nat) (y : Nat) (φ : Nat → Nat) (h : o = some y) : va_rf (o.map φ) = .ref (φ y) := by rw [h]; rfl
theorem fsAt (E : EV z za D dA) (hW : z.WarmedH s.vm) {t j idx : Nat} {ref : String} (ht : 1 ≤ t) (ht2 : t ≤ 15) (hj : j < cF t) (hL : fLk own ref idx t j) :
    ∃ cf kf fi fd, s.fieldFound? (cT t j).1 (cT t j).2.1 (cT t j).2.2.1 = some (cf, kf, fi, fd) ∧ s.fieldFound? ref (cT t j).2.1 (cT t j).2.2.1 = some (cf, kf, fi, fd) ∧ fd.isStatic = false ∧ fd.slot = D.2 t j := by
  obtain ⟨cf, kf, fi, fd, g1, g2, g3⟩ := (E.2.2.1 t j ht ht2 hj).moved hW.alike
  refine ⟨cf, kf, fi, fd, g1, ?_, g2, g3⟩
  rcases hL.2 with q | q
  · rw [q]; exact g1
  · exact u_same (E.w hW q #[]) _ g1
/-- getfield -/
theorem aw_get (E : EV z za D dA) (X : Cx p s m c z own cc nL) {t j kd idx : Nat} {ref : String} (ht : 1 ≤ t) (ht2 : t ≤ 15) (hj : j < cF t) (hL : fLk own ref idx t j) (hkd : kdY (cY t j) = kd) (hk9 : kd ≠ 9)
    (hd : decode cc pc = .ok (.getfield idx, 3)) {K : Vs → Option Ot} (hk : ∀ st, K st = some o → AW p l e R s m args below meth c Q z D dA φ0 n0 s0 nL (pc + 3) lo st h) (q : o_get h t j kd K st = some o) : AW p l e R s m args below meth c Q z D dA φ0 n0 s0 nL pc lo st h := by
  unfold o_get at q
  split at q
  case h_2 => cases q
  rename_i x r
  by_cases hx : gC h x = t
  case neg => rw [if_neg hx] at q; cases q
  rw [if_pos hx] at q
  have hx0 : gC h x ≠ 0 := by omega
  have key : ∀ (φ : Nat → Nat) (H : Heap) (locs : List Loc) (ls : Array Slot), HR z D dA φ h H → ∀ w, fV φ h t x j = w → W p l e R s m args below meth c H locs (gN h - n0) (gS h - s0) Q (F0 m (pc + 3) ls (w :: r.map (vmp φ))) → W p l e R s m args below meth c H locs (gN h - n0) (gS h - s0) Q (F0 m pc ls (.ref (φ x) :: r.map (vmp φ))) := by
    intro φ H locs ls a1 w hw2 hh
    obtain ⟨cell, h1, h2, h3, h4, -⟩ := (a1.cel hx0).2
    obtain ⟨cf, kf, fi, fd, -, g1, g2, g3⟩ := fsAt E X.2.2.2.2 ht ht2 hj hL
    have h5 := (h4 (by omega)).2 j (by rw [hx]; exact hj)
    rw [hx, hw2] at h5
    exact W.getf X.1 X.2.1 X.2.2.2.1 (E.w X.2.2.2.2 hL.1 args) g1 g2 h1 h2 (by rw [g3]; exact h5) rfl rfl hd hh
  split at q
  · intro φ H locs ls a1 a2 a3 a4 a5 a6 a7 a8
    refine key φ H locs ls a1 _ ?_ (hk _ q φ H locs ls a1 a2 a3 a4 ⟨trivial, a5.2⟩ a6 a7 a8)
    unfold fV
    cases hy : cY t j <;> first | rfl | (rw [hy] at hkd; cases hkd)
  · cases hy : gR h (256 * t + j) x with
    | none => rw [hy] at q; cases q
    | some y =>
      rw [hy] at q
      intro φ H locs ls a1 a2 a3 a4 a5 a6 a7 a8
      refine key φ H locs ls a1 (.ref (φ y)) ?_ (hk _ q φ H locs ls a1 a2 a3 a4 ⟨a1.vR hx0 hy, a5.2⟩ a6 a7 a8)
      unfold fV
      cases hz : cY t j <;> first | exact va_rf_some _ _ φ hy | (rw [hz] at hkd; cases hkd)
  · rename_i n1 n2
    intro φ H locs ls a1 a2 a3 a4 a5 a6 a7 a8
    refine key φ H locs ls a1 _ ?_ (hk _ q φ H locs ls a1 a2 a3 a4 ⟨trivial, a5.2⟩ a6 a7 a8)
    unfold fV
    cases hz : cY t j <;> first | rfl | (rw [hz] at hkd; exact absurd hkd.symm n1) | (rw [hz] at hkd; exact absurd hkd.symm n2)
/-- a field is written: v into the field j of x, of class t; h' is h but for that -/
theorem put_core (E : EV z za D dA) (X : Cx p s m c z own cc nL) {t j idx : Nat} {ref : String} (ht : 1 ≤ t) (ht2 : t ≤ 14) (hj : j < cF t) (hL : fLk own ref idx t j) (hlay : u_lay (cR t) (cT t) j ∈ lw_tbl ∧ goodWord (u_lay (cR t) (cT t) j) = true) (hty : parseFieldDescriptor (cT t j).2.2.1 = some (cY t j)) (hfin : (cT t j).2.2.2 = true → meth.name = "<init>" ∧ (cT t j).1 = own)
    (hd : decode cc pc = .ok (.putfield idx, 3)) {φ : Nat → Nat} {H : Heap} {locs : List Loc} {ls : Array Slot} {rest : List Value} {cells slots : Nat} (a1 : HR z D dA φ h H) (a3 : ∀ q ∈ locs, z.heap.size ≤ q.base) {x : Nat} {v : Value} {h' : AH} (hx : gC h x = t) (hn : narrow (cY t j) v = v) (hfit : fits (cY t j) v = true)
    (e1 : gN h' = gN h) (e2 : gC h' = gC h) (e3 : gK h' = gK h) (f : ∀ y, y ≠ x → ∀ k, gI h' k y = gI h k y ∧ gL h' k y = gL h k y ∧ gR h' k y = gR h k y) (g : ∀ y j, gA h' y j = gA h y j ∧ gB h' y j = gB h y j ∧ gO h' y j = gO h y j) (hr : ∀ k y, gR h' k x = some y → y < gN h)
    (hv : fV φ h' t x j = v) (hv2 : ∀ i, i ≠ j → i < cF t → fV φ h' t x i = fV φ h t x i)
    (kk : ∀ H' locs', HR z D dA φ h' H' → (∀ q ∈ locs', z.heap.size ≤ q.base) → W p l e R s m args below meth c H' locs' cells slots Q (F0 m (pc + 3) ls rest)) : W p l e R s m args below meth c H locs cells slots Q (F0 m pc ls (v :: .ref (φ x) :: rest)) := by
  have hx0 : gC h x ≠ 0 := by omega
  obtain ⟨hxn, cell, h1, h2, h3, h4, h5, h6, h7⟩ := a1.cel hx0
  obtain ⟨cf, kf, fi, fd, g0, g1, g2, g3⟩ := fsAt E X.2.2.2.2 ht (by omega) hj hL
  obtain ⟨hcls, hslots⟩ := h4 (by omega)
  obtain ⟨hvm, hx1⟩ := h5 (by omega)
  rw [hx] at hcls hslots
  have hKn := u_Kn_moved X.2.2.2.2.alike (E.2.1 t ht ht2)
  obtain ⟨hfc, kC, hkC, hkind⟩ := hKn.2
  have hap := E.2.2.2.2.2 t ht ht2
  have hsl : fd.slot < cell.slots.size := by rw [g3]; exact k2_hasslot (hslots j hj)
  have fin : ∀ H' : Heap, H'[φ x]? = some (cell.setSlot fd.slot v) → H'.size = H.size → (∀ q, q ≠ φ x → H'[q]? = H[q]?) → W p l e R s m args below meth c H' (locs ++ [⟨φ x, fd.slot⟩]) cells slots Q (F0 m (pc + 3) ls rest) := by
    intro H' w1 w2 w3
    refine kk H' _ ?_ ?_
    · refine a1.upd hx0 hx1 e1 e2 e3 f (fun y _ j => g y j) hr (fun i y w => a1.vO2 hx0 (by rw [← (g x i).2.2]; exact w)) w2 w3 ?_
      refine ⟨_, w1, h2, h3, ?_, ?_, ?_, ?_⟩
      · rw [e2, hx]
        intro _
        refine ⟨hcls, fun i hi => ?_⟩
        rw [g3, t_set hslots hap hj v i hi]
        by_cases q : i = j
        · subst q; rw [hv]; simp [updV]
        · rw [hv2 i q hi]; simp [updV, q]
      · rw [e2, hx]; exact fun _ => ⟨hvm, hx1⟩
      · rw [e2, hx]; exact fun w => absurd w (by omega)
      · rw [e2, hx]; exact fun w => absurd w (by omega)
    · intro q hq
      rcases List.mem_append.mp hq with w | w
      · exact a3 q w
      · rw [List.mem_singleton.mp w]; exact a1.2.2.2.2.2.1 x hx1 hx0
  have hl := E.w X.2.2.2.2 hlay args
  unfold u_lay at hl
  by_cases hfi : (cT t j).2.2.2 = true
  · rw [if_pos hfi] at hl
    have hcf : m.cls = cf := by
      obtain ⟨_, _, c', _, _, _, -, -, hf', -, -, -, hown2, -⟩ := Cond.laysFinal_spec hl
      have e9 : c' = cf := by have := g0.symm.trans hf'; simp at this; exact this.1.symm
      rw [(hfin hfi).2] at hown2
      rw [← e9]; exact Option.some.inj (X.2.2.2.1.symm.trans hown2)
    exact W.putFinK X.1 X.2.1 X.2.2.2.1 (E.w X.2.2.2.2 hL.1 args) g1 g2 hcf (hfin hfi).1 (by rw [hcls]; exact u_fits hfc hkC hkind (Or.inr hl) g0 hty hn hfit) h1 hvm hsl rfl rfl hd fin
  · rw [if_neg hfi] at hl
    exact W.putK X.1 X.2.1 (f := fd) ⟨X.2.2.2.1, E.w X.2.2.2.2 hL.1 args, ⟨_, _, _, g1⟩, g2⟩ (by rw [hcls]; exact u_store hfc hkC hkind hl g0 hty hn hfit) h1 hvm hsl rfl rfl hd fin
theorem fV_int {φ : Nat → Nat} {t j x : Nat} (h : AH) (hk : kdY (cY t j) ≠ 1) (hk2 : kdY (cY t j) ≠ 2) : fV φ h t x j = .int (gI h (256 * t + j) x) := by
  unfold fV
  cases hz : cY t j <;> first | rfl | (rw [hz] at hk; exact absurd rfl hk) | (rw [hz] at hk2; exact absurd rfl hk2)
theorem fV_long {φ : Nat → Nat} {t j x : Nat} (h : AH) (hk : kdY (cY t j) = 1) : fV φ h t x j = .long (gL h (256 * t + j) x) := by
  unfold fV
  cases hz : cY t j <;> first | rfl | (rw [hz] at hk; cases hk)
theorem fV_ref {φ : Nat → Nat} {t j x : Nat} (h : AH) (hk : kdY (cY t j) = 2) : fV φ h t x j = va_rf ((gR h (256 * t + j) x).map φ) := by
  unfold fV
  cases hz : cY t j <;> first | rfl | (rw [hz] at hk; cases hk)
theorem ne_fld {t i j : Nat} (h : i ≠ j) : 256 * t + i ≠ 256 * t + j := by omega
/-- putfield -/
theorem aw_put (E : EV z za D dA) (X : Cx p s m c z own cc nL) {t j kd idx : Nat} {ref : String} (ht : 1 ≤ t) (ht2 : t ≤ 14) (hj : j < cF t) (hL : fLk own ref idx t j) (hlay : u_lay (cR t) (cT t) j ∈ lw_tbl ∧ goodWord (u_lay (cR t) (cT t) j) = true) (hty : parseFieldDescriptor (cT t j).2.2.1 = some (cY t j)) (hfin : (cT t j).2.2.2 = true → meth.name = "<init>" ∧ (cT t j).1 = own) (hkd : kdY (cY t j) = kd)
    (hd : decode cc pc = .ok (.putfield idx, 3)) {K : Vs → AH → Option Ot} (hk : ∀ st h, K st h = some o → AW p l e R s m args below meth c Q z D dA φ0 n0 s0 nL (pc + 3) lo st h) (q : o_put h t j kd K st = some o) : AW p l e R s m args below meth c Q z D dA φ0 n0 s0 nL pc lo st h := by
  unfold o_put at q
  have hI : ∀ {x : Nat} {v : Int32} {r : Vs}, gC h x = t → kdY (cY t j) ≠ 1 → kdY (cY t j) ≠ 2 → narrow (cY t j) (.int v) = .int v → fits (cY t j) (.int v) = true → K r (sI h (256 * t + j) x v) = some o → AW p l e R s m args below meth c Q z D dA φ0 n0 s0 nL pc lo (.int v :: .ref x :: r) h := by
    intro x v r hx k1 k2 w1 w2 q φ H locs ls a1 a2 a3 a4 a5 a6 a7 a8
    refine put_core E X ht ht2 hj hL hlay hty hfin hd a1 a3 (h' := sI h (256 * t + j) x v) hx w1 w2 rfl rfl rfl (fun y hy k => ⟨up2_nx _ _ _ hy, rfl, rfl⟩) (fun y i => ⟨rfl, rfl, rfl⟩) (fun k y w => a1.vR (by omega) w) ?_ ?_ ?_
    · rw [fV_int _ k1 k2]; exact congrArg _ (up2_eq _ _ _ _)
    · intro i hi _
      exact fV_eq (up2_nk _ _ _ (ne_fld hi)) rfl rfl
    · intro H' locs' b1 b3
      exact hk _ _ q φ H' locs' ls b1 a2 b3 a4 a5.2.2 a6 a7 a8
  split at q
  · rename_i v x r
    by_cases hx : gC h x = t
    case neg => rw [if_neg hx] at q; cases q
    rw [if_pos hx] at q
    split at q
    · have hc : cY t j = .int := by cases hz : cY t j <;> first | rfl | (rw [hz] at hkd; cases hkd)
      exact hI hx (by rw [hkd]; decide) (by rw [hkd]; decide) (by rw [hc]; rfl) (by rw [hc]; rfl) q
    · by_cases hv : v = 0 ∨ v = 1
      case neg => rw [if_neg hv] at q; cases q
      rw [if_pos hv] at q
      have hc : cY t j = .boolean := by cases hz : cY t j <;> first | rfl | (rw [hz] at hkd; cases hkd)
      refine hI hx (by rw [hkd]; decide) (by rw [hkd]; decide) ?_ ?_ q
      · rw [hc]; rcases hv with rfl | rfl <;> decide
      · rw [hc]; rcases hv with rfl | rfl <;> decide
    · cases q
  · rename_i v x r
    by_cases hx : gC h x = t
    case neg => rw [if_neg hx] at q; cases q
    rw [if_pos hx] at q
    split at q
    · have hc : cY t j = .long := by cases hz : cY t j <;> first | rfl | (rw [hz] at hkd; cases hkd)
      intro φ H locs ls a1 a2 a3 a4 a5 a6 a7 a8
      refine put_core E X ht ht2 hj hL hlay hty hfin hd a1 a3 (v := .long v) (h' := sL h (256 * t + j) x v) hx (by rw [hc]; rfl) (by rw [hc]; rfl) rfl rfl rfl (fun y hy k => ⟨rfl, up2_nx _ _ _ hy, rfl⟩) (fun y i => ⟨rfl, rfl, rfl⟩) (fun k y w => a1.vR (by omega) w) ?_ ?_ ?_
      · rw [fV_long _ hkd]; exact congrArg _ (up2_eq _ _ _ _)
      · intro i hi _
        exact fV_eq rfl (up2_nk _ _ _ (ne_fld hi)) rfl
      · intro H' locs' b1 b3
        exact hk _ _ q φ H' locs' ls b1 a2 b3 a4 a5.2.2 a6 a7 a8
    · cases q
  · rename_i v x r
    by_cases hx : gC h x = t
    case neg => rw [if_neg hx] at q; cases q
    rw [if_pos hx] at q
    split at q
    · intro φ H locs ls a1 a2 a3 a4 a5 a6 a7 a8
      refine put_core E X ht ht2 hj hL hlay hty hfin hd a1 a3 (v := .ref (φ v)) (h' := sR h (256 * t + j) x (some v)) hx ?_ ?_ rfl rfl rfl (fun y hy k => ⟨rfl, rfl, up2_nx _ _ _ hy⟩) (fun y i => ⟨rfl, rfl, rfl⟩) (fun k y w => ?_) ?_ ?_ ?_
      · cases hz : cY t j <;> first | rfl | (rw [hz] at hkd; cases hkd)
      · cases hz : cY t j <;> first | rfl | (rw [hz] at hkd; cases hkd)
      · by_cases hk9 : k = 256 * t + j
        · subst hk9
          have w' : up2 (gR h) (256 * t + j) x (some v) (256 * t + j) x = some y := w
          rw [up2_eq] at w'
          cases w'
          exact a5.1
        · have w' : up2 (gR h) (256 * t + j) x (some v) k x = some y := w
          rw [up2_nk _ _ _ hk9] at w'
          exact a1.vR (by omega) w'
      · rw [fV_ref _ hkd]; exact va_rf_some _ _ φ (up2_eq _ _ _ _)
      · intro i hi _
        exact fV_eq rfl rfl (congrArg (Option.map φ) (up2_nk _ _ _ (ne_fld hi)))
      · intro H' locs' b1 b3
        exact hk _ _ q φ H' locs' ls b1 a2 b3 a4 a5.2.2 a6 a7 a8
    · cases q
  · cases q
end AWH
