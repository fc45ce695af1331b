/-! ===== PROGRAMMES: the component's steps among tokens ===== -/
abbrev KSc : List Nat := [519, 2306, 2307, 2308, 3074, 3075, 3076, 3077, 3078]
abbrev XSc (x : Nat) : List Nat := [x + 1, x + 2]
/-- k tokens are kept, token k is looked at -/
def SPs (h : AH) (b x0 : Nat) (t : Tp) (k : Nat) : Prop := CPs h b t k ∧ gR h 2309 x0 = some 101 ∧ gI h 2306 x0 = nI k ∧ LKs h x0 t k ∧ ∀ i, i < k → gA h (x0 + 1) i = nI (lk t i) ∧ (v35 (lk t i) → gA h (x0 + 2) i = nI (lkV t i))
/-- what is changed in reading: of the sizes only the own -/
def FrP (x0 : Nat) (h h' : AH) : Prop := Fr KSc (XSc x0) h h' ∧ ∀ x, x ≠ x0 → gI h' 2306 x = gI h 2306 x
theorem FrP.trans {x0 : Nat} {h h1 h2 : AH} (a : FrP x0 h h1) (c : FrP x0 h1 h2) : FrP x0 h h2 := ⟨a.1.trans c.1, fun x hx => (c.2 x hx).trans (a.2 x hx)⟩
theorem FrP.sh {x0 : Nat} {h h' : AH} (a : FrP x0 h h') (hs : Sh h) : Sh h' := a.1.sh hs
theorem FrP.rfl {x0 : Nat} {h : AH} : FrP x0 h h := ⟨Fr.rfl, fun _ _ => Eq.refl _⟩
theorem FrP.of {x0 : Nat} {h h' : AH} {K : List Nat} (f : Fr K (XSc x0) h h') (hK : ∀ k, k ∈ K → k ∈ KSc) (hn : 2306 ∉ K) : FrP x0 h h' := ⟨f.wk hK (fun _ q => q), fun x _ => by rw [f.I hn]⟩
def PRs (h h' : AH) (b x0 : Nat) (t : Tp) (k : Nat) (r : Nat × Nat) : Prop := FrP x0 h h' ∧ (∀ i, i < k → gA h' (x0 + 2) i = gA h (x0 + 2) i) ∧ (r.1 ≠ 0 → gI h' 2308 x0 = nI r.1) ∧ (r.1 = 0 → k ≤ r.2 ∧ SPs h' b x0 t r.2 ∧ ∀ i, k ≤ i → i < r.2 → lk t i = 123 → ∃ j, MT t i j ∧ gA h' (x0 + 2) i = nI j)
def PO (o : Option Ot) (h : AH) (b x0 : Nat) (t : Tp) (k : Nat) (r : Nat × Nat) : Prop := ∃ h', o = some (some (.int (bz r.1)), h') ∧ PRs h h' b x0 t k r
section POS
variable {d : Nat} {h h' : AH} {b x0 : Nat} {t : Tp} {k : Nat}
theorem PRs.tr {h1 h2 : AH} {k1 : Nat} {r : Nat × Nat} (a : PRs h h1 b x0 t k (0, k1)) (c : PRs h1 h2 b x0 t k1 r) : PRs h h2 b x0 t k r := by
  obtain ⟨a1, a2, -, a4⟩ := a
  obtain ⟨c1, c2, c3, c4⟩ := c
  obtain ⟨e1, e2, e3⟩ := a4 rfl
  have e1 : k ≤ k1 := e1
  refine ⟨a1.trans c1, fun i hi => (c2 i (by omega)).trans (a2 i hi), c3, fun z => ?_⟩
  obtain ⟨g1, g2, g3⟩ := c4 z
  refine ⟨by omega, g2, fun i h1 h2 h3 => ?_⟩
  by_cases q : i < k1
  · obtain ⟨j, j1, j2⟩ := e3 i h1 q h3
    exact ⟨j, j1, (c2 i q).trans j2⟩
  · exact g3 i (by omega) h2 h3
theorem PRs.rf (C : SPs h b x0 t k) : PRs h h b x0 t k (0, k) := ⟨FrP.rfl, fun _ _ => rfl, fun z => absurd rfl z, fun _ => ⟨Nat.le_refl _, C, fun i h1 h2 => absurd h1 (Nat.not_le_of_lt h2)⟩⟩
theorem PO.seq {o1 : Option Ot} {Kq : Vs → AH → Option Ot} {r1 r2 : Nat × Nat} (p : PO o1 h b x0 t k r1) (h0 : r1.1 ≠ 0 → ∀ h', Sh h' → Kq [.int (nI 0)] h' = some (some (.int (nI 0)), h')) (h1 : r1.1 = 0 → ∀ h', SPs h' b x0 t r1.2 → PO (Kq [.int (nI 1)] h') h' b x0 t r1.2 r2) (hs : Sh h) : PO (cK o1 Kq []) h b x0 t k (if r1.1 = 0 then r2 else r1) := by
  obtain ⟨g, e, R⟩ := p
  rw [e, cK_v]
  by_cases q : r1.1 = 0
  · rw [if_pos q]
    have C := (R.2.2.2 q).2.1
    obtain ⟨g2, e2, R2⟩ := h1 q g C
    refine ⟨g2, ?_, PRs.tr (k1 := r1.2) (by have : r1 = (0, r1.2) := Prod.ext q rfl; rw [← this]; exact R) R2⟩
    have : bz r1.1 = nI 1 := by rw [q]; rfl
    rw [this]; exact e2
  · rw [if_neg q]
    refine ⟨g, ?_, R⟩
    rw [bz_n q]; exact h0 q g (R.1.sh hs)
/-- the last of a row -/
theorem PO.fin {o1 : Option Ot} {Kq : Vs → AH → Option Ot} {r : Nat × Nat} (p : PO o1 h b x0 t k r) (hs : Sh h) (h0 : ∀ v h', v = nI 0 ∨ v = nI 1 → Sh h' → Kq [.int v] h' = some (some (.int v), h')) : PO (cK o1 Kq []) h b x0 t k r := by
  obtain ⟨g, e, R⟩ := p
  refine ⟨g, ?_, R⟩
  rw [e, cK_v]
  refine h0 _ g ?_ (R.1.sh hs)
  by_cases q : r.1 = 0
  · rw [q]; exact Or.inr rfl
  · rw [bz_n q]; exact Or.inl rfl
theorem id_a {v : Int32} {h' : AH} (q : v = nI 0 ∨ v = nI 1) : (if v = nI 0 then some (some (Value.int (nI 0)), h') else some (some (Value.int (nI 1)), h')) = some (some (.int v), h') := by
  rcases q with q | q <;> subst q
  · rw [if_pos rfl]
  · rw [if_neg (by decide)]
theorem id_b {v : Int32} {h' : AH} (q : v = nI 0 ∨ v = nI 1) : (if v = 0 ∨ v = 1 then some (some (Value.int v), h') else none) = some (some (.int v), h') := if_pos q
theorem po_fail (C : SPs h b x0 t k) (hx : scX x0) {c : Nat} (hc : c ≠ 0) : PO (E (d + 1) 327 [.ref x0, .int (nI c)] h) h b x0 t k (fX t c k, 0) := by
  obtain ⟨hs, -, -, -, TK, -⟩ := C.1
  have sc := hs.scr hx
  refine ⟨sI h 2308 x0 (nI (fX t c k)), ?_, FrP.of (Fr.rfl.sI (by decide) : Fr [2308] (XSc x0) h _) (by decide) (by decide), fun _ _ => rfl, fun _ => gI_s, fun z => absurd z (fX_0 hc)⟩
  rw [t_327 hs, ck_ok sc.1, C.2.1, Option.bind_some, ck_ok hs.t101.1, ck_ok sc.1, TK.2.2.2.1, pk_mul, nI_add, bz_n (fX_0 hc)]; rfl
/-- a token is kept -/
theorem c_push (C : SPs h b x0 t k) (hx : scX x0) (hk : k < 4001) : ∃ h', E (d + 8) 317 [.ref x0] h = some (some (.int (nI 1)), h') ∧ FrP x0 h h' ∧ (∀ i, i < k → gA h' (x0 + 2) i = gA h (x0 + 2) i) ∧ SPs h' b x0 t (k + 1) := by
  obtain ⟨C1, c2, c3, c4, c5⟩ := C
  have hs := C1.1
  have sc := hs.scr hx
  have xge : 183 ≤ x0 := by rcases hx with q | q <;> omega
  obtain ⟨g, gE⟩ : ∃ g, g = sI (sA (sA h (x0 + 1) k (gI h 2307 x0)) (x0 + 2) k (gI h 3077 101)) 2306 x0 (nI (k + 1)) := ⟨_, rfl⟩
  have f1 : Fr [2306] (XSc x0) h g := by rw [gE]; exact ((Fr.rfl.sA (by simp)).sA (by simp)).sI (by decide)
  have C2 : CPs g b t k := C1.fx f1 (by decide) (fun x q => by simp only [List.mem_cons, List.not_mem_nil, or_false] at q; omega)
  obtain ⟨g2, b1, b2, b3, -⟩ := C2.nx (d := d)
  have s1 := C2.1
  have hr2 : gR g2 2309 x0 = some 101 := by rw [b3.2.2.2.1, f1.2.2.2.1]; exact c2
  obtain ⟨g3, d1, d2, d77, d3⟩ := c_look (d := d + 1) b2 hx hr2
  have f23 : Fr KSc (XSc x0) g g3 := (b3.wk (by decide) (fun x q => absurd q List.not_mem_nil)).trans (d2.wk (by decide) (fun x q => absurd q List.not_mem_nil))
  have fa : ∀ x, gA g3 x = gA g x := fun x => (d2.A List.not_mem_nil).trans (b3.A List.not_mem_nil)
  have v2 : gA g (x0 + 2) = up1 (gA h (x0 + 2)) k (gI h 3077 101) := by
    rw [gE]
    show gA (sA (sA h (x0 + 1) k (gI h 2307 x0)) (x0 + 2) k (gI h 3077 101)) (x0 + 2) = _
    rw [gA_s, gA_k (by omega)]
  have v1 : gA g (x0 + 1) = up1 (gA h (x0 + 1)) k (gI h 2307 x0) := by
    rw [gE]
    show gA (sA (sA h (x0 + 1) k (gI h 2307 x0)) (x0 + 2) k (gI h 3077 101)) (x0 + 1) = _
    rw [gA_k (by omega), gA_s]
  refine ⟨g3, ?_, ⟨(f1.wk (by decide) (fun _ q => q)).trans f23, fun x hx => by rw [d2.I (by decide), b3.I (by decide), gE]; exact (up2_x (f := gI h) hx : up2 (gI h) 2306 x0 (nI (k + 1)) 2306 x = gI h 2306 x)⟩, fun i hi => by rw [fa, v2, up1_x (by omega)], ?_⟩
  · have sc2 := b2.1.scr hx
    rw [t_317 hs, ck_ok sc.1, ck_ok sc.1, sc.2.1, Option.bind_some, if_pos (by rw [sc.2.2.2.1]; decide), c3, sc.2.2.2.2.1, if_pos (nI_lt hk (by decide)), ck_ok sc.1, Option.bind_some, ck_ok sc.1, ck_ok sc.1, cw_ok sc.2.2.2.1 (by omega), sc.2.2.2.2.1, gd_nI hk (by decide), ck_ok sc.1, sc.2.2.1, Option.bind_some, ck_ok sc.1, ck_ok sc.1, c2, Option.bind_some, ck_ok hs.t101.1, cw_ok sc.2.2.2.2.2.1 (by omega), sc.2.2.2.2.2.2, gd_nI hk (by decide), ck_ok sc.1, ck_ok sc.1, ck_ok sc.1, Option.bind_some, ck_ok hs.t101.1, ix_nI (by omega), nI_add, ← gE, b1, cK_n, t_317_64 b2.1, ck_ok sc2.1, d1, cK_n, t_317_68 (d2.sh b2.1)]
  · refine ⟨?_, by rw [d2.2.2.2.1]; exact hr2, ?_, d3, fun i hi => ?_⟩
    · obtain ⟨y1, y2, y3, y4, ⟨y5, y6, y7, y8, y9⟩, y10, y11⟩ := b2
      refine ⟨d2.sh y1, y2.fr d2, y3.fr d2 (by decide) (fun x q => absurd q List.not_mem_nil), y4.fr d2 (by decide) List.not_mem_nil, ⟨?_, fun q3 => ?_, fun q2 => ?_, ?_, ?_⟩, by rw [d2.2.1]; exact y10, by rw [d2.2.2.2.1]; exact y11⟩
      · rw [d2.I (by decide)]; exact y5
      · have q3 : tK t (k + 1) = 3 := q3
        rw [d77 (by omega)]; exact y6 q3
      · rw [d2.L (by decide)]; exact y7 q2
      · rw [d2.I (by decide)]; exact y8
      · rw [d2.I (by decide)]; exact y9
    · rw [d2.I (by decide), b3.I (by decide), gE, gI_s]
    · rw [fa, fa, v1, v2]
      by_cases q : i = k
      · subst q
        rw [up1_s, up1_s]
        exact c4
      · rw [up1_x q, up1_x q]; exact c5 i (by omega)
end POS
