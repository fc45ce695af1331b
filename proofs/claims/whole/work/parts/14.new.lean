/-! ===== ROWS: what is made ===== -/
def alφ (φ : Nat → Nat) (n a : Nat) : Nat → Nat := fun x => if x < n then φ x else a + (x - n)
theorem alφ_lt {φ : Nat → Nat} {n a x : Nat} (h : x < n) : alφ φ n a x = φ x := if_pos h
theorem alφ_at {φ : Nat → Nat} {n a : Nat} (i : Nat) : alφ φ n a (n + i) = a + i := by
  unfold alφ; rw [if_neg (by omega)]; omega
theorem alφ_0 {φ : Nat → Nat} {n a : Nat} : alφ φ n a n = a := alφ_at 0
section AWN
variable {p : Program} {l : Launch} {e : Env} {R : Room} {s : State} {m : MethodId} {args : Array Value} {below : List Frame} {meth : Method} {c : Code} {Q : State → Prop} {z : State} {D : va_G} {dA : Nat → ClassId} {φ0 : Nat → Nat} {n0 s0 nL : Nat} {lo : Ls} {st : Vs} {h : AH} {o : Ot} {pc : Nat} {za : Array Value} {own : String} {cc : ByteArray}
theorem HR.zero {φ : Nat → Nat} {H : Heap} (a : HR z D dA φ h H) {x : Nat} (hx : gN h ≤ x) : gC h x = 0 := by
  by_cases q : gC h x = 0
  · exact q
  · exact absurd (a.cel q).1 (by omega)
theorem HR.alloc {φ : Nat → Nat} {h h' : AH} {H H' : Heap} (a : HR z D dA φ h H) (k : Nat) (e1 : gN h' = gN h + k) (e2 : ∀ x, x < gN h → gC h' x = gC h x ∧ gK h' x = gK h x) (e3 : ∀ x, gN h + k ≤ x → gC h' x = gC h x)
    (f : ∀ y, y < gN h → ∀ k, gI h' k y = gI h k y ∧ gL h' k y = gL h k y ∧ gR h' k y = gR h k y) (g : ∀ y, y < gN h → ∀ j, gA h' y j = gA h y j ∧ gB h' y j = gB h y j ∧ gO h' y j = gO h y j)
    (hr : ∀ k x y, gN h ≤ x → gR h' k x = some y → x < gN h' → y < gN h') (ho : ∀ x i y, gN h ≤ x → gO h' x i = some y → x < gN h' → y < gN h' ∧ (gC h' x = 65 → gC h' y ≠ 0 ∧ gC h' y < 15)) (hz : H'.size = H.size + k) (hq : ∀ q, q < H.size → H'[q]? = H[q]?) (hc : ∀ i, i < k → Cel D dA (alφ φ (gN h) H.size) h' (gN h + i) H') : HR z D dA (alφ φ (gN h) H.size) h' H' := by
  obtain ⟨b1, b2, b3, b4, b5, b6, b7, b8, b9, b10⟩ := id a
  refine ⟨by omega, fun q w => (hq q (by omega)).trans (b2 q w), by omega, fun x y ho1 hx hy w => ?_, fun x hx => ?_, fun x w1 hx => ?_, fun x hx => ?_, fun k x y hx w => ?_, fun x i y hx w => ?_, by unfold SI; rw [(e2 64 (by omega)).1, (e2 64 (by omega)).2, alφ_lt (show 64 < gN h by omega)]; exact b10⟩
  · unfold alφ at w
    by_cases q1 : x < gN h <;> by_cases q2 : y < gN h
    · rw [if_pos q1, if_pos q2] at w; rw [(e2 x q1).1] at hx; rw [(e2 y q2).1] at hy; exact b4 x y ho1 hx hy w
    · rw [if_pos q1, if_neg q2] at w; rw [(e2 x q1).1] at hx; have := b5 x hx; omega
    · rw [if_neg q1, if_pos q2] at w; rw [(e2 y q2).1] at hy; have := b5 y hy; omega
    · rw [if_neg q1, if_neg q2] at w; omega
  · unfold alφ
    by_cases q1 : x < gN h
    · rw [if_pos q1]; rw [(e2 x q1).1] at hx; have := b5 x hx; omega
    · rw [if_neg q1]
      by_cases q2 : x < gN h + k
      · omega
      · rw [e3 x (by omega), a.zero (by omega)] at hx
        exact absurd rfl hx
  · unfold alφ
    by_cases q1 : x < gN h
    · rw [if_pos q1]; rw [(e2 x q1).1] at hx; exact b6 x w1 hx
    · rw [if_neg q1]; omega
  · by_cases q1 : x < gN h
    · rw [(e2 x q1).1] at hx
      refine ⟨by omega, (b7 x hx).2.kept (alφ_lt q1) (hq _ (b5 x hx)) (e2 x q1).1 (e2 x q1).2 (fun c j => fV_eq (f x q1 _).1 (f x q1 _).2.1 ?_) (fun c j => eV_eq (g x q1 _).1 (g x q1 _).2.1 ?_)⟩
      · rw [(f x q1 _).2.2]; exact opt_map_eq (fun y hy => alφ_lt hy) (fun y hy => b8 _ x y q1 hy)
      · rw [(g x q1 _).2.2]; exact opt_map_eq (fun y hy => alφ_lt hy) (fun y hy => (b9 x _ y q1 hy).1)
    · by_cases q2 : x < gN h + k
      · have w := hc (x - gN h) (by omega)
        rw [show gN h + (x - gN h) = x by omega] at w
        exact ⟨by omega, w⟩
      · rw [e3 x (by omega), a.zero (by omega)] at hx
        exact absurd rfl hx
  · by_cases q1 : x < gN h
    · rw [(f x q1 k).2.2] at w; have := b8 k x y q1 w; omega
    · exact hr k x y (by omega) w hx
  · by_cases q1 : x < gN h
    · rw [(g x q1 i).2.2] at w
      obtain ⟨d1, d2⟩ := b9 x i y q1 w
      refine ⟨by omega, ?_⟩
      rw [(e2 x q1).1, (e2 y d1).1]
      exact d2
    · exact ho x i y (by omega) w hx
/-- one new cell in the pure heap and in the JVM's -/
theorem HR.one {φ : Nat → Nat} {H H1 : Heap} (a1 : HR z D dA φ h H) {t k n : Nat} (z1 : H1.size = H.size + 1) (o1 : ∀ q, q < H.size → H1[q]? = H[q]?) (hc : Cel D dA (alφ φ (gN h) H.size) (nw h t k n) (gN h) H1) : HR z D dA (alφ φ (gN h) H.size) (nw h t k n) H1 := by
  refine a1.alloc 1 rfl (fun x hx => ⟨up1_ne _ _ (by omega), up1_ne _ _ (by omega)⟩) (fun x hx => up1_ne _ _ (by omega)) (fun y hy k => ⟨up1_ne _ _ (by omega), up1_ne _ _ (by omega), up1_ne _ _ (by omega)⟩) (fun y hy j => ⟨?_, ?_, ?_⟩) (fun k x y h1 h2 h3 => ?_) (fun x i y h1 h2 h3 => ?_) z1 o1 (fun i hi => ?_)
  · exact congrFun (up1_ne _ _ (by omega)) j
  · exact congrFun (up1_ne _ _ (by omega)) j
  · exact congrFun (up1_ne _ _ (by omega)) j
  · have h3' : x < gN h + 1 := h3
    have e9 : x = gN h := by omega
    subst e9
    have h2' : up1 (gR h k) (gN h) none (gN h) = some y := h2
    rw [up1_eq] at h2'
    cases h2'
  · have h3' : x < gN h + 1 := h3
    have e9 : x = gN h := by omega
    subst e9
    have h2' : up1 (gO h) (gN h) (fun _ => none) (gN h) i = some y := h2
    rw [up1_eq] at h2'
    cases h2'
  · have e9 : i = 0 := by omega
    subst e9
    exact hc
/-- the walk goes on with the new cell on the stack -/
theorem aw_one {φ : Nat → Nat} {H H1 : Heap} {locs : List Loc} {ls : Array Slot} {t k n : Nat} {r : Vs} {pc' : Nat} (a1 : HR z D dA φ h H) (a2 : ∀ x, x < n0 → φ x = φ0 x) (a3 : ∀ q ∈ locs, z.heap.size ≤ q.base) (a4 : LR φ ls nL lo) (a5 : vlS (gN h) r) (a6 : vlL (gN h) lo) (a7 : n0 ≤ gN h) (a8 : s0 ≤ gS h)
    (z1 : H1.size = H.size + 1) (o1 : ∀ q, q < H.size → H1[q]? = H[q]?) (hc : Cel D dA (alφ φ (gN h) H.size) (nw h t k n) (gN h) H1)
    (kk : AW p l e R s m args below meth c Q z D dA φ0 n0 s0 nL pc' lo (.ref (gN h) :: r) (nw h t k n)) : W p l e R s m args below meth c H1 locs (gN h - n0 + 1) (gS h - s0 + n) Q (F0 m pc' ls (.ref H.size :: r.map (vmp φ))) := by
  have hx : ∀ x, x < gN h → alφ φ (gN h) H.size x = φ x := fun x w => alφ_lt w
  have key := kk (alφ φ (gN h) H.size) H1 locs ls (a1.one z1 o1 hc) (fun x w => (hx x (by omega)).trans (a2 x w)) a3 (a4.ext a6 hx) ⟨Nat.lt_succ_self _, a5.mono (Nat.le_succ _)⟩ (a6.mono (Nat.le_succ _)) (Nat.le_succ_of_le a7) (Nat.le_trans a8 (Nat.le_add_right _ _))
  rw [List.map_cons, vmpS_ext hx a5, show vmp (alφ φ (gN h) H.size) (.ref (gN h)) = .ref H.size from congrArg Value.ref alφ_0] at key
  exact W.cs (show gN h - n0 + 1 = gN h + 1 - n0 by omega) (show gS h - s0 + n = gS h + n - s0 by omega) key
/-- new -/
theorem aw_new (E : EV z za D dA) (X : Cx p s m c z own cc nL) {t idx : Nat} (ht : 1 ≤ t) (ht2 : t ≤ 14) (hw1 : Cond.classLink own idx (cR t) ∈ lw_tbl ∧ goodWord (Cond.classLink own idx (cR t)) = true) (hw2 : Cond.instantiable (cR t) (cF t) ∈ lw_tbl ∧ goodWord (Cond.instantiable (cR t) (cF t)) = true) (hw3 : Cond.initialized (cR t) ∈ lw_tbl ∧ goodWord (Cond.initialized (cR t)) = true)
    (hls : ∀ w ∈ u_ws (cR t) (cT t) (cF t), w ∈ lw_tbl ∧ goodWord w = true) (hty : ∀ j, j < cF t → parseFieldDescriptor (cT t j).2.2.1 = some (cY t j) ∧ kdY (cY t j) ≠ 9) (hd : decode cc pc = .ok (.new idx, 3)) (hc1 : gN h + 1 - n0 ≤ R.cells) (hc2 : gS h + cF t - s0 ≤ R.slots)
    (k : AW p l e R s m args below meth c Q z D dA φ0 n0 s0 nL (pc + 3) lo (.ref (gN h) :: st) (nwO h t (cF t))) : AW p l e R s m args below meth c Q z D dA φ0 n0 s0 nL pc lo st h := by
  intro φ H locs ls a1 a2 a3 a4 a5 a6 a7 a8
  have hW := X.2.2.2.2
  have hKn := u_Kn_moved hW.alike (E.2.1 t ht ht2)
  refine W.newcK X.1 X.2.1 X.2.2.2.1 (E.w hW hw1 args) (E.w hW hw2 args) (E.w hW hw3 args) rfl hd (by omega) (by omega) hKn.2.1 rfl fun H1 kC hkC e1 z1 o1 => ?_
  refine aw_one a1 a2 a3 a4 a5 a6 a7 a8 z1 o1 ?_ k
  obtain ⟨cell, w1, w2, w3, w4⟩ := u_born (cY t) (fun w hw => E.w hW (hls w hw) args) (fun w hw => hw) hKn hkC e1 (fun j hj => (hty j hj).1)
  have hC : gC (nwO h t (cF t)) (gN h) = t := up1_eq _ _ _
  refine ⟨cell, by rw [alφ_0]; exact w1, by rw [w3]; exact (fun q => by cases q), by rw [w3]; rfl, ?_, ?_, ?_, ?_⟩
  · rw [hC]
    intro _
    refine ⟨w2, fun j hj => (w4 j hj).trans (congrArg some ?_)⟩
    have eI : gI (nwO h t (cF t)) (256 * t + j) (gN h) = 0 := up1_eq _ _ _
    have eL : gL (nwO h t (cF t)) (256 * t + j) (gN h) = 0 := up1_eq _ _ _
    have eR : gR (nwO h t (cF t)) (256 * t + j) (gN h) = none := up1_eq _ _ _
    show defaultValue (cY t j) = _
    unfold fV
    rw [eI, eL, eR]
    have h9 := (hty j hj).2
    generalize cY t j = y at h9 ⊢
    cases y <;> first | rfl | exact absurd rfl h9
  · rw [hC]
    exact fun _ => ⟨w3, a1.2.2.1⟩
  · rw [hC]; exact fun w => absurd w (by omega)
  · rw [hC]; exact fun w => absurd w (by omega)
/-- the cell of a new array -/
theorem Cel.arr0 {φ : Nat → Nat} {H1 : Heap} {t n a : Nat} (ht : 60 ≤ t) (hn : 100 ≤ gN h) (dv : Value) (hdv : ∀ ψ j, eV ψ (nwA h t n) t (gN h) j = dv) (e1 : H1[a]? = some (arrV (dA t) n (fun _ => dv))) : Cel D dA (alφ φ (gN h) a) (nwA h t n) (gN h) H1 := by
  have hC : gC (nwA h t n) (gN h) = t := up1_eq _ _ _
  have hK : gK (nwA h t n) (gN h) = n := up1_eq _ _ _
  refine ⟨_, by rw [alφ_0]; exact e1, (fun q => by cases q), rfl, ?_, ?_, ?_, ?_⟩
  · rw [hC]; exact fun w => absurd w (by omega)
  · rw [hC]; exact fun w => absurd w (by omega)
  · rw [hC, hK]; exact fun _ => ⟨Or.inl rfl, szA_of (arrV_size _ _ _), fun j hj => by rw [hdv]; exact arrV_read _ _ hj⟩
  · rw [hC, hK]; exact fun _ _ => congrArg _ (funext fun j => (hdv _ j).symm)
/-- newarray -/
theorem aw_nwa (E : EV z za D dA) (X : Cx p s m c z own cc nL) {t : Nat} {at_ : ArrayType} (hat : atK at_ = t) (ht : 60 ≤ t) (hw : Cond.arrayClass (newarray.typeOf at_) ∈ lw_tbl ∧ goodWord (Cond.arrayClass (newarray.typeOf at_)) = true) (hd : decode cc pc = .ok (.newarray at_, 2)) (hcS : ∀ n, st.head? = some (.int n) → gN h + 1 - n0 ≤ R.cells ∧ gS h + ix n - s0 ≤ R.slots)
    {K : Vs → AH → Option Ot} (hk : ∀ st h, K st h = some o → AW p l e R s m args below meth c Q z D dA φ0 n0 s0 nL (pc + 2) lo st h) (q : o_nwa h t K st = some o) : AW p l e R s m args below meth c Q z D dA φ0 n0 s0 nL pc lo st h := by
  unfold o_nwa at q
  split at q
  case h_2 => cases q
  rename_i n r
  by_cases hn : n < 0
  case pos => rw [if_pos hn] at q; cases q
  rw [if_neg hn] at q
  by_cases hn2 : ix n ≤ 1000000
  case neg => rw [if_neg hn2] at q; cases q
  rw [if_pos hn2] at q
  obtain ⟨hc1, hc2⟩ := hcS n rfl
  intro φ H locs ls a1 a2 a3 a4 a5 a6 a7 a8
  have hW := X.2.2.2.2
  have ht6 : t ≤ 64 := by subst hat; cases at_ <;> simp [atK]
  have hty : newarray.typeOf at_ = aY t := by subst hat; cases at_ <;> first | rfl | (simp [atK] at ht)
  have hb : ix n * componentBytes (newarray.typeOf at_) ≤ 536870912 := by
    have : componentBytes (newarray.typeOf at_) ≤ 8 := by cases at_ <;> decide
    calc ix n * componentBytes (newarray.typeOf at_) ≤ 1000000 * 8 := Nat.mul_le_mul hn2 this
      _ ≤ 536870912 := by decide
  refine va_newaK X.1 X.2.1 (E.w hW hw args) rfl hd rfl hn (show n.toNatClampNeg = ix n from rfl) hb (by omega) (by omega) rfl fun H1 cA e1 z1 o1 hAr hNm => ?_
  have hcA : cA = dA t := by
    have h9 := ((E.2.2.2.1 t ht (by omega)).1.2).moved hW.alike
    rw [hty] at hNm
    have h8 : s.vm.findClass ("[" ++ (aY t).toString) = some (dA t) := by
      subst hat
      cases at_ <;> first | exact h9 | (simp [atK] at ht)
    exact Option.some.inj (hNm.symm.trans h8)
  subst hcA
  refine aw_one a1 a2 a3 a4 a5.2 a6 a7 a8 z1 o1 (Cel.arr0 ht a1.2.2.1 _ (fun ψ j => ?_) e1) (hk _ _ q)
  have eA : gA (nwA h t (ix n)) (gN h) j = 0 := congrFun (up1_eq _ _ _) j
  have eB : gB (nwA h t (ix n)) (gN h) j = 0 := congrFun (up1_eq _ _ _) j
  unfold eV
  rw [eA, eB]
  subst hat
  cases at_ <;> first | rfl | (simp [atK] at ht)
/-- anewarray, of Objects -/
theorem aw_nwq (E : EV z za D dA) (X : Cx p s m c z own cc nL) {idx : Nat} (hw1 : Cond.classLink own idx "java/lang/Object" ∈ lw_tbl ∧ goodWord (Cond.classLink own idx "java/lang/Object") = true) (hw2 : Cond.arrayOver (.object "java/lang/Object") ∈ lw_tbl) (hd : decode cc pc = .ok (.anewarray idx, 3)) (hcS : ∀ n, st.head? = some (.int n) → gN h + 1 - n0 ≤ R.cells ∧ gS h + ix n - s0 ≤ R.slots)
    {K : Vs → AH → Option Ot} (hk : ∀ st h, K st h = some o → AW p l e R s m args below meth c Q z D dA φ0 n0 s0 nL (pc + 3) lo st h) (q : o_nwa h 65 K st = some o) : AW p l e R s m args below meth c Q z D dA φ0 n0 s0 nL pc lo st h := by
  unfold o_nwa at q
  split at q
  case h_2 => cases q
  rename_i n r
  by_cases hn : n < 0
  case pos => rw [if_pos hn] at q; cases q
  rw [if_neg hn] at q
  by_cases hn2 : ix n ≤ 1000000
  case neg => rw [if_neg hn2] at q; cases q
  rw [if_pos hn2] at q
  obtain ⟨hc1, hc2⟩ := hcS n rfl
  intro φ H locs ls a1 a2 a3 a4 a5 a6 a7 a8
  have hW := X.2.2.2.2
  have hov : (Cond.arrayOver (.object "java/lang/Object")).before args s = true := va_AO.use (va_AO.moved hW.alike (va_AO.of (E.1 _ hw2)))
  have hix : n.toNatClampNeg = ix n := rfl
  refine W.anew X.1 X.2.1 X.2.2.2.1 (E.w hW hw1 args) hov rfl hd rfl hn (by rw [hix]; omega) (by omega) (by rw [hix]; omega) fun cA kA comp f1 f2 f3 f4 => ?_
  have hcA : cA = dA 65 := by
    obtain ⟨kA, comp, -, -, -, h8⟩ := ((E.2.2.2.1 65 (by omega) (by omega)).1.2).moved hW.alike
    exact Option.some.inj (f1.symm.trans h8)
  subst hcA
  refine aw_one a1 a2 a3 a4 a5.2 a6 a7 a8 (by simp) (fun q hq => by rw [Array.getElem?_push, if_neg (Nat.ne_of_lt hq)]) (Cel.arr0 (by omega) a1.2.2.1 .null (fun ψ j => ?_) ?_) (hk _ _ q)
  · have eO : gO (nwA h 65 (ix n)) (gN h) j = none := congrFun (up1_eq _ _ _) j
    show va_rf ((gO (nwA h 65 (ix n)) (gN h) j).map ψ) = .null
    rw [eO]; rfl
  · rw [← arrV_new]; simp [ix]
end AWN
