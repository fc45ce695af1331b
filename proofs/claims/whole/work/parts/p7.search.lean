/-! ===== RUN: the search of the ons; a try; statements for every fuel ===== -/
section SRC
variable {c : CXm} {M N d k k' k1 k2 D T p y o n m a E0 : Nat} {hc hr h0 hc1 hr1 hc' hX : AH} {L L1 L2 L3 : Cds} {Y O Y2 O2 Y3 O3 : C3} {fi : Int32}
theorem Fnd.no {e : Nat} : Fnd c (-1) e (-1) := fun h s _ _ => by rw [t_158_7 s, if_pos (by decide)]
theorem Fnd.hit {e v : Nat} (ha : a < 1400) (e1 : gA (hR c) 279 a = nI v) (q : v = 0 ∨ v = e) : Fnd c (nI a) e (nI a) := fun h s h9 h1 => by
  rw [t_158_7 s, if_neg (nI_nlt (by omega) (by omega)), gd_nI ha (by decide), ix_nI (by omega), h9, e1]
  rcases q with q | q
  · rw [if_pos (by rw [q])]
  · by_cases z : nI v = nI 0
    · rw [if_pos z]
    · rw [if_neg z, gd_nI ha (by decide), if_pos (by rw [q])]
theorem Fnd.nx {e v : Nat} {f2 r : Int32} (ha : a < 1400) (e1 : gA (hR c) 279 a = nI v) (e2 : gA (hR c) 281 a = f2) (hv : v ≤ 9) (he : e ≤ 9) (q : v ≠ 0 ∧ v ≠ e) (f : Fnd c f2 e r) : Fnd c (nI a) e r := fun h s h9 h1 => by
  rw [t_158_7 s, if_neg (nI_nlt (by omega) (by omega)), gd_nI ha (by decide), ix_nI (by omega), h9, e1, if_neg (fun z => q.1 ((nI_eq (by omega) (by decide)).mp z)), gd_nI ha (by decide), if_neg (fun z => q.2 ((nI_eq (by omega) (by omega)).mp z)), gd_nI ha (by decide), h1, e2]
  exact f h s h9 h1
/-- an on takes it: both stand at its block -/
theorem on_in (K : KXs c) (r : CRm c hc hr) {e0 : Nat} {w : Int64} (hD : D < 24) (ow : e0 = 9 → w = gL hc 1548 175) (dp : gI hr 3731 189 = nI (D + 1)) (en : gI hr 3732 189 = -1) (tp : gI hr 3723 189 = nI 0) (e2 : gA (hR c) 280 a = nI p) : Gs c (D + 1) 0 p k (sI (sB (sI hc 1545 175 (nI k)) 176 9 (if e0 = 9 then gL hc 1548 175 else (nI e0).toInt64)) 1547 175 (nI 0)) (hXo hr D e0 w a) ∧ HF D hr (hXo hr D e0 w a) ∧ gA (hXo hr D e0 w a) 290 = gA hr 290 ∧ gA (hXo hr D e0 w a) 291 D = nI 1 := by
  have sr := r.shR K
  obtain ⟨val, hval⟩ : ∃ val, val = (if e0 = 9 then gL hc 1548 175 else (nI e0).toInt64) := ⟨_, rfl⟩
  have hval2 : (if e0 = 9 then w else (nI e0).toInt64) = val := by
    rw [hval]
    by_cases z : e0 = 9
    · rw [if_pos z, if_pos z]; exact ow z
    · rw [if_neg z, if_neg z]
  have a8 : gA hr 280 a = nI p := by rw [r.tA (by decide) (by decide)]; exact e2
  unfold hXo
  rw [hval2, ← hval, a8]
  obtain ⟨c1, hc1⟩ : ∃ c1, c1 = sI hc 1545 175 (nI k) := ⟨_, rfl⟩
  have w1 : Fr [1545] [] hc c1 := by rw [hc1]; exact Fr.rfl.sI (by decide)
  obtain ⟨c2, hc2⟩ : ∃ c2, c2 = sB c1 176 9 val := ⟨_, rfl⟩
  have w2 : Fr [] [176] c1 c2 := by rw [hc2]; exact Fr.rfl.sB (by decide)
  obtain ⟨r1, hr1⟩ : ∃ r1, r1 = sA hr 291 D (nI 1) := ⟨_, rfl⟩
  have z1 : Fr [] [291] hr r1 := by rw [hr1]; exact Fr.rfl.sA (by decide)
  obtain ⟨r2, hr2⟩ : ∃ r2, r2 = sB r1 282 9 val := ⟨_, rfl⟩
  have z2 : Fr [] [282] r1 r2 := by rw [hr2]; exact Fr.rfl.sB (by decide)
  rw [← hc1, ← hc2, ← hr1, ← hr2]
  obtain ⟨r3, hr3⟩ : ∃ r3, r3 = sI r2 3724 189 (nI p) := ⟨_, rfl⟩
  have z3 : Fr [3724] [] r2 r3 := by rw [hr3]; exact Fr.rfl.sI (by decide)
  obtain ⟨c3, hc3⟩ : ∃ c3, c3 = sI c2 1547 175 (nI 0) := ⟨_, rfl⟩
  have w3 : Fr [1547] [] c2 c3 := by rw [hc3]; exact Fr.rfl.sI (by decide)
  rw [← hr3, ← hc3]
  have q1 : CRm c c1 r1 := (r.frC (w1.wk (by decide) (fun _ q => q))).frR (z1.wk (fun _ q => absurd q List.not_mem_nil) (by decide))
  have q2 : CRm c c2 r2 := q1.upd (w2.wk (fun _ q => absurd q List.not_mem_nil) (by decide)) (z2.wk (fun _ q => absurd q List.not_mem_nil) (by decide)) (by
    rintro ty a1 a2 p1 p2 mk rf ⟨m1, m2⟩
    refine ⟨ty, p1, p2, mk, fun i hi => ?_, ?_⟩
    · rw [hc2, hr2, gB_s, gB_s]
      unfold up1
      by_cases z : i = 9
      · rw [if_pos z, if_pos z]
      · rw [if_neg z, if_neg z]; exact m1 i hi
    · rw [hc2, hr2]; exact m2)
  have q3 : CRm c c3 r3 := (q2.frC (w3.wk (by decide) (fun _ q => q))).frR (z3.wk (by decide) (fun _ q => absurd q List.not_mem_nil))
  have zf : Fr [3724] [282, 291] hr r3 := (z1.wk (fun _ q => absurd q List.not_mem_nil) (by decide)).trans ((z2.wk (fun _ q => absurd q List.not_mem_nil) (by decide)).trans (z3.wk (fun _ q => q) (fun _ q => absurd q List.not_mem_nil)))
  have B1 : ∀ j, gA r3 291 j = if j = D then nI 1 else gA hr 291 j := fun j => by
    rw [z3.A List.not_mem_nil, z2.A (by decide), hr1, gA_s]; rfl
  exact ⟨⟨q3, by rw [hc3, gI_s], by rw [w3.I (by decide), w2.I List.not_mem_nil, hc1, gI_s], by rw [hr3, gI_s], by rw [zf.I (by decide)]; exact tp, by rw [zf.I (by decide)]; exact dp, by rw [zf.I (by decide)]; exact en⟩, ⟨by rw [zf.I (by decide)]; exact Nat.le_refl _, fun j hj => ⟨by rw [zf.A (by decide)], by rw [B1, if_neg (by omega)], by rw [zf.A (by decide)], by rw [zf.B (by decide)]⟩⟩, zf.A (by decide), by rw [B1, if_pos rfl]⟩
theorem sx_12 (K : KXs c) (hM : ME (kT c) M) (h4 : M ≤ 4000) (ih : STm c M N) (e : CSx (kT c) (1 - kn c 5) (N + 1) 12 d k k' T p y o L Y O fi) (A : AT (hR c) (4400 * kn c 5 + p) L) (tb : TBl c y o Y O) (hp : p + L.length ≤ 4300) (hD : D ≤ d) (hd : d ≤ 20) (hk : k ≤ M) (hn : 30 + 13 * (20 - d) ≤ n) {j e0 : Nat} {w : Int64} (h1 : 1 ≤ e0) (h9 : e0 ≤ 9) (hj : j ≤ k) (r : CRm c hc hr) (x1 : gI hc 1547 175 = nI e0) (at_ : gI hc 1545 175 = nI k) (ow : e0 = 9 → w = gL hc 1548 175) (dp : gI hr 3731 189 = nI (D + 1)) (en : gI hr 3732 189 = -1) (tp : gI hr 3723 189 = nI 0) :
    ∃ hc', Q n 343 30 [some (.ref 175), some (.int (nI d)), some (.int (nI e0)), some (.int (nI 1)), some (.int (nI j)), none] [] hc = cK (E n 328 [.ref 175] hc') (Q n 343 139 [some (.ref 175), some (.int (nI d)), none, none, none, none]) [] ∧ gI hc' 1545 175 = nI k' ∧
      ((Fr [1545] [] hc hc' ∧ Fnd c fi e0 (-1)) ∨ ∃ a, a < 1400 ∧ Fnd c fi e0 (nI a) ∧ ((stp1 hc hc' ∧ ∃ hr2 p2, LPm c (hXo hr D e0 w a) = LPm c hr2 ∧ Gs c (D + 1) 0 p2 k' hc' hr2 ∧ HF (D + 1) (hXo hr D e0 w a) hr2 ∧ AT (hR c) (4400 * kn c 5 + p2) [(nI 42, nI T)] ∧ p2 < 4300) ∨ Dd c (D + 1) hc' (hXo hr D e0 w a))) := by
  have i := r.ci
  have s := i.1
  have sc := s.scr K.2.2.2.1
  have lb := lk_b (t := kT c) (k := k)
  have pk := cm_peek (n := n) i K (by omega) (by omega) at_
  have e41 : (nI (lk (kT c) k) = nI 141) = (lk (kT c) k = 141) := propext (nI_eq (by omega) (by decide))
  have hs5 : kn c 5 ≤ 1 := K.2.2.2.2.2.2.2.2.2.2.2.2.2.2.2.2.1
  rw [t_343_30 s]
  rcases csx_1 e with ⟨q, k1, L1, Y1, O1, L2, Y2, O2, f2, q3, q9, p1, p2, eL, eY, eO, ef⟩ | ⟨q, ek, eL, eY, eO, ef⟩
  case inr =>
    refine ⟨hc, ?_, by rw [ek]; exact at_, Or.inl ⟨Fr.rfl, by rw [ef]; exact Fnd.no⟩⟩
    by_cases z : nI j < nI 4000
    · rw [if_pos z, pk, cK_v, t_343_42 s]
      simp only [e41]
      rw [if_neg q, pk]
    · rw [if_neg z]
  have one : ∀ x, ([x] : Cds).length = 1 := fun _ => rfl
  have one3 : ∀ x, ([x] : C3).length = 1 := fun _ => rfl
  have kM := ltk hM q (by decide)
  have kM3 := ltk hM q3 (by decide)
  have hk1 := csx_le hM p1 (by omega)
  obtain ⟨b1, b2, jj, b3, b4, b5⟩ := csx_b p1
  have j4 := b4.1
  have hl : L.length = L1.length + (1 + L2.length) := by rw [eL, List.length_append, List.length_append, one]
  rw [eL] at A
  have X1 := (AT_app.mp A).1
  have X2 := (AT_app.mp (AT_app.mp A).2).1.at (b := 4400 * kn c 5 + (p + L1.length)) (by omega)
  have X3 := (AT_app.mp (AT_app.mp A).2).2.at (b := 4400 * kn c 5 + (p + L1.length + 1)) (by rw [one]; omega)
  rw [eY, eO] at tb
  have tbO : T3 (hR c) 279 (700 * kn c 5 + o) [(nI (tV (kT c) (k + 1)), nI p, f2)] := (T3_app.mp tb.2.1).1
  have lO := tb.2.2.2
  rw [List.length_append, one3, List.length_append] at lO
  have lY := tb.2.2.1
  rw [List.length_append] at lY
  obtain ⟨o1, o2, o3⟩ := T3_one.mp tbO
  have tb1 : TBl c y (o + 1) Y1 O1 := ⟨(T3_app.mp tb.1).1, (T3_app.mp (T3_app.mp tb.2.1).2).1, by omega, by omega⟩
  have tb2 : TBl c (y + Y1.length) (o + 1 + O1.length) Y2 O2 := ⟨by rw [← Nat.add_assoc]; exact (T3_app.mp tb.1).2, by
    have := (T3_app.mp (T3_app.mp tb.2.1).2).2
    rw [one3] at this
    rw [show 700 * kn c 5 + (o + 1 + O1.length) = 700 * kn c 5 + o + 1 + O1.length by omega]; exact this, by omega, by omega⟩
  have ha : 700 * kn c 5 + o < 1400 := by omega
  have ef' : fi = nI (700 * kn c 5 + o) := by rw [ef]; congr 2; omega
  have t3 := lk_3 q3
  have lv : lkV (kT c) (k + 1) = tV (kT c) (k + 1) := by unfold lkV; rw [if_pos t3]
  obtain ⟨v, v1, v2, -⟩ := cm_vl (n := n) i K (by omega) (show k + 1 < 2 ^ 31 by omega)
  have ev : v = nI (tV (kT c) (k + 1)) := by rw [v2 (by rw [q3]; decide), lv]
  rw [if_pos (nI_lt (by omega) (by decide)), pk, cK_v, t_343_42 s]
  simp only [e41]
  rw [if_pos q, (i.scr K).2.1, Option.bind_some, ck_ok sc.1, at_, nI_add, v1, cK_v, ev, t_343_61 s, if_neg (by decide), at_, nI_add]
  by_cases hit : tV (kT c) (k + 1) = 0 ∨ tV (kT c) (k + 1) = e0
  · obtain ⟨g0, f0, g90, g91⟩ := on_in (k := k + 2) (a := 700 * kn c 5 + o) (p := p) K r (e0 := e0) (w := w) (D := D) (by omega) ow dp en tp o2
    obtain ⟨hq, hqE⟩ : ∃ hq, hq = sI (sB (sI hc 1545 175 (nI (k + 2))) 176 9 (if e0 = 9 then gL hc 1548 175 else (nI e0).toInt64)) 1547 175 (nI 0) := ⟨_, rfl⟩
    rw [← hqE] at g0
    have stq : stp1 hc hq := by rw [hqE]; exact stp1.of (K := [1545, 1547]) (X := [176]) (((Fr.rfl.sI (by decide)).sB (by decide)).sI (by decide)) (by decide)
    obtain ⟨h5, c1, c2, c3⟩ := (ih 2 d (k + 2) k1 0 p y (o + 1) L1 Y1 O1 0 p1 hq _ (D + 1) n X1 tb1 (by omega) (Nat.succ_le_succ hD) hd (by omega) hn).2.1 rfl g0
    have i5 : CIm c h5 := by
      rcases c3 with ⟨-, hr5, -, g5, -⟩ | dd
      · exact g5.1.ci
      · exact dd.ci
    obtain ⟨hc', d1, d2, d3⟩ := pass_12 (n := n) K hM h4 (by omega) N d k1 k' T _ _ _ _ _ _ _ p2 hk1 h5 (j + 1) (nI d) (nI e0) i5 c2 (by omega)
    have e61 : (if nI (tV (kT c) (k + 1)) = nI e0 then if nI e0 = nI 9 then cK (E n 373 [.ref 175, .int (nI d)] (sI (sB (sI hc 1545 175 (nI (k + 2))) 176 9 (gL hc 1548 175)) 1547 175 (nI 0))) (Q n 343 122 [some (.ref 175), some (.int (nI d)), some (.int (nI e0)), some (.int (nI 0)), some (.int (nI j)), none]) [] else cK (E n 373 [.ref 175, .int (nI d)] (sI (sB (sI hc 1545 175 (nI (k + 2))) 176 9 (nI e0).toInt64) 1547 175 (nI 0))) (Q n 343 122 [some (.ref 175), some (.int (nI d)), some (.int (nI e0)), some (.int (nI 0)), some (.int (nI j)), none]) [] else if nI (tV (kT c) (k + 1)) = nI 0 then if nI e0 = nI 9 then cK (E n 373 [.ref 175, .int (nI d)] (sI (sB (sI hc 1545 175 (nI (k + 2))) 176 9 (gL hc 1548 175)) 1547 175 (nI 0))) (Q n 343 122 [some (.ref 175), some (.int (nI d)), some (.int (nI e0)), some (.int (nI 0)), some (.int (nI j)), none]) [] else cK (E n 373 [.ref 175, .int (nI d)] (sI (sB (sI hc 1545 175 (nI (k + 2))) 176 9 (nI e0).toInt64) 1547 175 (nI 0))) (Q n 343 122 [some (.ref 175), some (.int (nI d)), some (.int (nI e0)), some (.int (nI 0)), some (.int (nI j)), none]) [] else cK (E n 374 [.ref 175] (sI hc 1545 175 (nI (k + 2)))) (Q n 343 129 [some (.ref 175), some (.int (nI d)), some (.int (nI e0)), some (.int (nI 1)), some (.int (nI j)), none]) []) = cK (E n 373 [.ref 175, .int (nI d)] hq) (Q n 343 122 [some (.ref 175), some (.int (nI d)), some (.int (nI e0)), some (.int (nI 0)), some (.int (nI j)), none]) [] := by
      have e9 : (nI e0 = nI 9) = (e0 = 9) := propext (nI_eq (by omega) (by decide))
      have inner : (if nI e0 = nI 9 then cK (E n 373 [.ref 175, .int (nI d)] (sI (sB (sI hc 1545 175 (nI (k + 2))) 176 9 (gL hc 1548 175)) 1547 175 (nI 0))) (Q n 343 122 [some (.ref 175), some (.int (nI d)), some (.int (nI e0)), some (.int (nI 0)), some (.int (nI j)), none]) [] else cK (E n 373 [.ref 175, .int (nI d)] (sI (sB (sI hc 1545 175 (nI (k + 2))) 176 9 (nI e0).toInt64) 1547 175 (nI 0))) (Q n 343 122 [some (.ref 175), some (.int (nI d)), some (.int (nI e0)), some (.int (nI 0)), some (.int (nI j)), none]) []) = cK (E n 373 [.ref 175, .int (nI d)] hq) (Q n 343 122 [some (.ref 175), some (.int (nI d)), some (.int (nI e0)), some (.int (nI 0)), some (.int (nI j)), none]) [] := by
        rw [hqE]
        by_cases z : e0 = 9
        · rw [if_pos (by rw [z]), if_pos z]
        · rw [if_neg (fun y => z ((nI_eq (by omega) (by decide)).mp y)), if_neg z]
      rw [inner]
      by_cases z : nI (tV (kT c) (k + 1)) = nI e0
      · rw [if_pos z]
      · rw [if_neg z, if_pos (hit.elim (fun y => by rw [y]) (fun y => absurd (by rw [y]) z))]
    have gl1 : gL (sI hc 1545 175 (nI (k + 2))) 1548 175 = gL hc 1548 175 := rfl
    refine ⟨hc', ?_, d3, Or.inr ⟨700 * kn c 5 + o, ha, by rw [ef']; exact Fnd.hit ha o1 hit, ?_⟩⟩
    · rw [e61, c1, cK_n, t_343_122 i5.1, t_343_129 i5.1, nI_add, d1]
    · rcases c3 with ⟨st, hr5, l5, g5, f5⟩ | dd
      · refine Or.inl ⟨stq.tr (st.tr (stp1.of d2 (by decide))), hr5, p + L1.length, l5, ⟨g5.1.frC (d2.wk (by decide) (fun _ q => q)), by rw [d2.I (by decide)]; exact g5.2.1, d3, g5.2.2.2⟩, f5, X2, by omega⟩
      · exact Or.inr (dd.frC d2)
  · have n0 : tV (kT c) (k + 1) ≠ 0 ∧ tV (kT c) (k + 1) ≠ e0 := ⟨fun z => hit (Or.inl z), fun z => hit (Or.inr z)⟩
    have f1 : Fr [1545] [] hc (sI hc 1545 175 (nI (k + 2))) := Fr.rfl.sI (by decide)
    have i1 := i.fr f1
    have e74 := cm_374 (n := n) i1 K p1 (by omega) gI_s (by omega)
    have ff : Fr [1545] [] hc (sI (sI hc 1545 175 (nI (k + 2))) 1545 175 (nI k1)) := f1.sI (by decide)
    obtain ⟨hc', d1, d2, d3⟩ := (ih 12 d k1 k' T (p + L1.length + 1) (y + Y1.length) (o + 1 + O1.length) L2 Y2 O2 f2 p2 (sI (sI hc 1545 175 (nI (k + 2))) 1545 175 (nI k1)) hr D n X3 tb2 (by omega) hD hd hk1 hn).2.2.2 rfl (j + 1) e0 w h1 h9 (by omega) (r.frC (ff.wk (by decide) (fun _ q => q))) (by rw [ff.I (by decide)]; exact x1) gI_s ow dp en tp
    refine ⟨hc', ?_, d2, ?_⟩
    · rw [if_neg (fun z => n0.2 ((nI_eq (by omega) (by omega)).mp z)), if_neg (fun z => n0.1 ((nI_eq (by omega) (by decide)).mp z)), e74, cK_n, t_343_129 (i.fr ff).1, nI_add, d1]
    · rcases d3 with ⟨y1, y2⟩ | ⟨a, y1, y2, y3⟩
      · exact Or.inl ⟨ff.trans y1, by rw [ef']; exact y2.nx ha o1 o3 q9 h9 n0⟩
      · refine Or.inr ⟨a, y1, by rw [ef']; exact y2.nx ha o1 o3 q9 h9 n0, ?_⟩
        rcases y3 with ⟨y4, y5⟩ | dd
        · exact Or.inl ⟨(stp1.of ff (by decide)).tr y4, y5⟩
        · exact Or.inr dd
end SRC
