/-! ===== PROGRAMMES: the component's programme() ===== -/
theorem px_end {t : Tp} {d : Nat} : ∀ (N k : Nat) (r : Nat × Nat), px t N 13 d k = some r → r.1 = 0 → lk t r.2 = 0
  | 0, k, r, e, _ => by cases e
  | N + 1, k, r, e, z => by
    have e : (if lk t k = 0 then some (0, k) else sq (px t N 1 d k) fun k => px t N 13 d k) = some r := e
    by_cases q : lk t k = 0
    · rw [if_pos q] at e; cases e; exact q
    · rw [if_neg q] at e
      obtain ⟨r1, e1, ⟨e2, e3⟩ | ⟨e2, e3⟩⟩ := sq_s e
      · exact px_end N _ r e3 z
      · rw [e3] at z; exact absurd z e2
/-- what the text of a programme comes to: the fault, the last token -/
def pxR (t : Tp) : Nat × Nat := (px t (6 * t.1 + 3) 13 0 0).getD (0, 0)
theorem pxR_e (t : Tp) : px t (6 * t.1 + 3) 13 0 0 = some (pxR t) := by
  obtain ⟨M, m1, m2, m3⟩ := tk_M (t := t)
  obtain ⟨r, e, -⟩ := px_t (t := t) (M := M) ⟨m2, m3⟩ (6 * t.1 + 3) 13 0 0 (by decide) (Nat.zero_le _) (by show 6 * (M - 0) + 2 < _; omega)
  unfold pxR
  rw [e]; rfl
theorem pxR_M {t : Tp} {M : Nat} (hM : ME t M) (z : (pxR t).1 = 0) : (pxR t).2 = M := by
  have e := pxR_e t
  have l0 := lk_0.mp (px_end _ _ _ e z)
  have le := px_le hM _ 13 0 _ _ e z (Nat.zero_le _)
  by_cases q : (pxR t).2 < M
  · exact absurd l0 (hM.2 _ q)
  · omega
/-- a script that holds the programme t -/
def Scr (h : AH) (x0 : Nat) (t : Tp) : Prop := ∃ M, ME t M ∧ M ≤ t.1 ∧ gI h 2306 x0 = nI M ∧ ∀ i, i < M → gA h (x0 + 1) i = nI (lk t i) ∧ (v35 (lk t i) → gA h (x0 + 2) i = nI (lkV t i)) ∧ (lk t i = 123 → ∃ j, MT t i j ∧ gA h (x0 + 2) i = nI j)
/-- what programme() changes -/
abbrev PgF (h h' : AH) : Prop := GF (fun k _ => 3073 ≤ k ∧ k ≤ 3078 ∨ k = 519 ∨ 2306 ≤ k ∧ k ≤ 2308 ∨ k = 3334) (fun k _ => k = 2309 ∨ k = 3332 ∨ k = 3333) (fun _ => False) (fun x => 184 ≤ x ∧ x ≤ 188) h h'
section PRG
variable {h : AH} {t : Tp} {x0 y0 b d : Nat}
theorem c_readAll (hs : Sh h) (w : HW h) (K : KS h) (T : CT h t) (hb : gC h b = 2 ∧ gR h 520 b = some 101) (hx : scX x0) : ∃ h', E (d + 181) 210 [.ref x0, .ref 101] h = some (some (.int (nI (pxR t).1)), h') ∧ ∃ g, g = sI (sI (sR h 2309 x0 (some 101)) 2306 x0 (nI 0)) 2308 x0 (nI 0) ∧ Fr [3074, 3075, 3076, 3077, 3078, 519, 2306, 2307, 2308] (XSc x0) g h' ∧ (∀ x, x ≠ x0 → gI h' 2306 x = gI h 2306 x) ∧ ((pxR t).1 = 0 → Scr h' x0 t) := by
  have sc := hs.scr hx
  obtain ⟨M, m1, m2, m3⟩ := tk_M (t := t)
  have hM : ME t M := ⟨m2, m3⟩
  have t4 := T.2.1
  obtain ⟨g1, g1E⟩ : ∃ g, g = sR h 2309 x0 (some 101) := ⟨_, rfl⟩
  have s1 : Sh g1 := by
    rw [g1E]
    refine hs.sR ?_
    rcases hx with q | q <;> subst q <;> exact Or.inr rfl
  obtain ⟨g, gE⟩ : ∃ g, g = sI (sI g1 2306 x0 (nI 0)) 2308 x0 (nI 0) := ⟨_, rfl⟩
  have F1 : Fr [2306, 2308] [] g1 g := by rw [gE]; exact (Fr.rfl.sI (by decide)).sI (by decide)
  have sg : Sh g := F1.sh s1
  have r1 : gR g1 2309 x0 = some 101 := by rw [g1E, gR_s]
  have K1 : KS g1 := by rw [g1E]; exact K
  have T1 : CT g1 t := by rw [g1E]; exact T
  have w1 : HW g1 := by rw [g1E]; exact w
  have Kg := K1.fr F1 (by decide) (by decide)
  have Tg := T1.fr F1 (by decide) (by decide)
  have wg := F1.hw w1
  obtain ⟨h2, a1, a2, a3⟩ := c_rewind (d := d + 172) sg Kg Tg
  have C2 : CPs h2 b t 0 := by
    refine ⟨a2.sh sg, a2.hw wg, Kg.fr a2 (by decide) (by decide), Tg.fr a2 (by decide) (by decide), a3, ?_, ?_⟩
    · rw [a2.2.1, F1.2.1, g1E]; exact hb.1
    · rw [a2.2.2.2.1, F1.2.2.2.1, g1E, gR_k (by decide)]; exact hb.2
  have r2 : gR h2 2309 x0 = some 101 := by rw [a2.2.2.2.1, F1.2.2.2.1]; exact r1
  obtain ⟨h3, b1, b2, b77, b3⟩ := c_look (d := d + 174) C2 hx r2
  have C3 : SPs h3 b x0 t 0 := by
    obtain ⟨y1, y2, y3, y4, ⟨y5, y6, y7, y8, y9⟩, y10, y11⟩ := C2
    refine ⟨⟨b2.sh y1, y2.fr b2, y3.fr b2 (by decide) (fun x q => absurd q List.not_mem_nil), y4.fr b2 (by decide) List.not_mem_nil, ⟨?_, fun q3 => ?_, fun q2 => ?_, ?_, ?_⟩, by rw [b2.2.1]; exact y10, by rw [b2.2.2.2.1]; exact y11⟩, by rw [b2.2.2.2.1]; exact r2, ?_, b3, fun i hi => absurd hi (Nat.not_lt_zero _)⟩
    · rw [b2.I (by decide)]; exact y5
    · have q3' : tK t 0 = 3 := q3
      rw [b77 (by omega)]; exact y6 q3
    · rw [b2.L (by decide)]; exact y7 q2
    · rw [b2.I (by decide)]; exact y8
    · rw [b2.I (by decide)]; exact y9
    · rw [b2.I (by decide), a2.I (by decide), gE, gI_k (by decide), gI_s]
  obtain ⟨h4, c1, c2⟩ := (pih hM (by omega) hx _ 13 0 0 _ (d + 180) h3 (pxR_e t) C3 (by decide) (by show 20 + 8 * (20 - 0) ≤ _; omega)).2.2.2.2.2.2.2.2.2.2.2.2.2 rfl rfl 0 (Nat.le_refl _) (Nat.zero_le _)
  have F23 : Fr [3074, 3075, 3076, 3077, 3078, 519, 2306, 2307, 2308] (XSc x0) g h4 := ((a2.wk (by decide) (fun x q => absurd q List.not_mem_nil)).trans (b2.wk (by decide) (fun x q => absurd q List.not_mem_nil))).trans (c2.1.1.wk (by decide) (fun _ q => q))
  refine ⟨h4, ?_, g, by rw [gE, g1E], F23, fun x hne => ?_, fun z => ?_⟩
  · have s2 := C2.1
    rw [t_210 hs, ck_ok sc.1, ck_ok sc.1, ck_ok sc.1, ck_ok sc.1, ← g1E, r1, Option.bind_some, ck_ok hs.t101.1, ← gE, a1, cK_n, t_210_22 s2, ck_ok (s2.scr hx).1, b1, cK_n, t_210_26 C3.1.1, c1]
  · rw [c2.1.2 x hne, b2.I (by decide), a2.I (by decide), gE, gI_k (by decide), g1E]
    exact (up2_x (f := gI h) hne : up2 (gI h) 2306 x0 (nI 0) 2306 x = gI h 2306 x)
  · obtain ⟨-, d1, d2⟩ := c2.2.2.2 z
    have e2 := pxR_M hM z
    rw [e2] at d1 d2
    obtain ⟨-, -, k1, -, k2⟩ := d1
    exact ⟨M, hM, m1, k1, fun i hi => ⟨(k2 i hi).1, (k2 i hi).2, fun q => d2 i (Nat.zero_le _) hi q⟩⟩
theorem c_prog (hs : Sh h) (w : HW h) (K : KS h) (T : CT h t) (hb : gC h b = 2 ∧ gR h 520 b = some 101) (hx : scX x0) (hy : scX y0) (hxy : x0 ≠ y0) (e1 : gR h 3333 100 = some x0) (e2 : gR h 3332 100 = some y0) (hpf : (pxR t).1 < 2 ^ 31) : ∃ h', E (d + 182) 14 [.ref 100] h = some (some (.int (nI (pxR t).1)), h') ∧ CT h' (0, t.2) ∧ Sh h' ∧ HW h' ∧ gN h' = gN h ∧ gS h' = gS h ∧ PgF h h' ∧
    ((pxR t).1 ≠ 0 → gI h' 3334 = gI h 3334 ∧ gR h' 3333 100 = some x0 ∧ gR h' 3332 100 = some y0 ∧ gI h' 2306 y0 = gI h 2306 y0 ∧ gA h' (y0 + 1) = gA h (y0 + 1) ∧ gA h' (y0 + 2) = gA h (y0 + 2)) ∧
    ((pxR t).1 = 0 → gI h' 3334 100 = nI 1 ∧ gR h' 3332 100 = some x0 ∧ gR h' 3333 100 = some y0 ∧ Scr h' x0 t) := by
  have sc := hs.scr hx
  obtain ⟨h1, a1, g, gE, F, a2, a3⟩ := c_readAll (d := d) hs w K T hb hx
  have xx : ∀ x, x ∈ XSc x0 → 184 ≤ x ∧ x ≤ 188 := fun x hx' => by
    simp only [List.mem_cons, List.not_mem_nil, or_false] at hx'
    rcases hx with q | q <;> omega
  have xy : y0 + 1 ∉ XSc x0 ∧ y0 + 2 ∉ XSc x0 := by
    constructor
    · intro m
      simp only [List.mem_cons, List.not_mem_nil, or_false] at m
      rcases hx with q | q <;> rcases hy with q' | q' <;> omega
    · intro m
      simp only [List.mem_cons, List.not_mem_nil, or_false] at m
      rcases hx with q | q <;> rcases hy with q' | q' <;> omega
  have r9 : inS x0 = false ∨ rS 2309 x0 = none := by rcases hx with q | q <;> subst q <;> exact Or.inr rfl
  have sg : Sh g := by rw [gE]; exact ((hs.sR r9).sI).sI
  have wg : HW g := by rw [gE]; exact w
  have s1 := F.sh sg
  have w1 := F.hw wg
  have G0 : PgF h g := by
    rw [gE]
    exact ((GF.sR (Or.inl rfl)).trans (GF.sI (Or.inr (Or.inr (Or.inl (by omega)))))).trans (GF.sI (Or.inr (Or.inr (Or.inl (by omega)))))
  have G1 : PgF g h1 := by
    have kk : ∀ k, k ∈ [3074, 3075, 3076, 3077, 3078, 519, 2306, 2307, 2308] → 3073 ≤ k ∧ k ≤ 3078 ∨ k = 519 ∨ 2306 ≤ k ∧ k ≤ 2308 ∨ k = 3334 := by decide
    obtain ⟨n6, z6⟩ := F.ct
    exact ⟨⟨by rw [n6]; exact Nat.le_refl _, by rw [z6]; exact Nat.le_refl _⟩, fun x _ => ⟨by rw [F.2.1], by rw [F.2.2.1]⟩, fun k x _ hk => by rw [F.I fun m => hk (kk k m)], fun k x _ hk => by rw [F.L fun m => hk (kk k m)], fun k x _ _ => by rw [F.2.2.2.1], fun x _ hx => ⟨by rw [F.A fun m => hx (xx x m)], by rw [F.B fun m => hx (xx x m)]⟩, fun x _ _ => by rw [F.2.2.2.2.1]⟩
  have gr : ∀ k x, k ≠ 2309 → gR h1 k x = gR h k x := fun k x q => by
    rw [F.2.2.2.1, gE]
    show gR (sR h 2309 x0 (some 101)) k x = _
    rw [gR_k q]
  obtain ⟨h2, h2E⟩ : ∃ h2, h2 = sI h1 3073 101 (nI 0) := ⟨_, rfl⟩
  have s2 : Sh h2 := by rw [h2E]; exact s1.sI
  have w2 : HW h2 := by rw [h2E]; exact w1
  have T2 : CT h2 (0, t.2) := by rw [h2E]; exact ⟨gI_s, Nat.zero_le _, fun i hi => absurd hi (Nat.not_lt_zero _)⟩
  have G2 : PgF h1 h2 := by rw [h2E]; exact GF.sI (Or.inl (by omega))
  have ct1 : gN h1 = gN h ∧ gS h1 = gS h := by obtain ⟨n, z⟩ := F.ct; rw [n, z, gE]; exact ⟨rfl, rfl⟩
  have ct2 : gN h2 = gN h ∧ gS h2 = gS h := by rw [h2E]; exact ct1
  have r33 : gR h2 3333 100 = some x0 := by rw [h2E]; exact (gr 3333 100 (by decide)).trans e1
  have r32 : gR h2 3332 100 = some y0 := by rw [h2E]; exact (gr 3332 100 (by decide)).trans e2
  have a13 : ∀ x, gA h2 x = gA h1 x := fun x => by rw [h2E]; rfl
  have e0 : E (d + 182) 14 [.ref 100] h = (if nI (pxR t).1 = nI 0 then some (some (.int (nI (pxR t).1)), sI (sR (sR h2 3332 100 (some x0)) 3333 100 (some y0)) 3334 100 (nI 1)) else some (some (.int (nI (pxR t).1)), h2)) := by
    rw [t_14 hs, e1, Option.bind_some, ck_ok sc.1, a1, cK_v, t_14_11 s1, t_195 s1, cK_n, ← h2E, t_14_19 s2, r32, r33]; rfl
  rw [e0]
  simp only [show (nI (pxR t).1 = nI 0) = ((pxR t).1 = 0) from propext (nI_eq hpf (by decide))]
  by_cases q : (pxR t).1 = 0
  · rw [if_pos q]
    have T3 : CT (sI (sR (sR h2 3332 100 (some x0)) 3333 100 (some y0)) 3334 100 (nI 1)) (0, t.2) := ⟨by rw [gI_k (by decide)]; exact T2.1, Nat.zero_le _, fun i hi => absurd hi (Nat.not_lt_zero _)⟩
    have s3 : Sh (sI (sR (sR h2 3332 100 (some x0)) 3333 100 (some y0)) 3334 100 (nI 1)) := ((s2.sR (Or.inr rfl)).sR (Or.inr rfl)).sI
    refine ⟨_, rfl, T3, s3, w2, ct2.1, ct2.2, (((G0.trans G1).trans G2).trans (GF.sR (Or.inr (Or.inl rfl)))).trans ((GF.sR (Or.inr (Or.inr rfl))).trans (GF.sI (Or.inr (Or.inr (Or.inr rfl))))), fun z => absurd q z, fun _ => ⟨gI_s, ?_, ?_, ?_⟩⟩
    · show gR (sR (sR h2 3332 100 (some x0)) 3333 100 (some y0)) 3332 100 = _
      rw [gR_k (by decide), gR_s]
    · show gR (sR (sR h2 3332 100 (some x0)) 3333 100 (some y0)) 3333 100 = _
      rw [gR_s]
    · obtain ⟨M, k1, k2, k3, k4⟩ := a3 q
      refine ⟨M, k1, k2, ?_, fun i hi => ?_⟩
      · rw [gI_k (by decide)]
        show gI h2 2306 x0 = _
        rw [h2E, gI_k (by decide)]; exact k3
      · show gA h2 (x0 + 1) i = _ ∧ (_ → gA h2 (x0 + 2) i = _) ∧ (_ → ∃ j, _ ∧ gA h2 (x0 + 2) i = _)
        rw [a13, a13]; exact k4 i hi
  · rw [if_neg q]
    refine ⟨_, rfl, T2, s2, w2, ct2.1, ct2.2, (G0.trans G1).trans G2, fun _ => ⟨?_, r33, r32, ?_, ?_, ?_⟩, fun z => absurd z q⟩
    · rw [h2E, gI_k (by decide), F.I (by decide), gE, gI_k (by decide), gI_k (by decide)]; rfl
    · rw [h2E, gI_k (by decide)]; exact a2 y0 (Ne.symm hxy)
    · rw [a13, F.A xy.1, gE]; rfl
    · rw [a13, F.A xy.2, gE]; rfl
end PRG
