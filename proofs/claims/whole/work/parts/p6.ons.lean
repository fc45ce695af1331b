/-! ===== RUN: ons and always, on both sides ===== -/
section ONS
variable {c : CXm} {M N d k k' k1 k2 D T p y o n m a E0 : Nat} {hc hr h0 hc1 hr1 hc' hX : AH} {L L1 L2 L3 : Cds} {Y O Y2 O2 Y3 O3 : C3} {fi : Int32}
theorem PhA.ci (q : PhA c h0 D T k2 hc hr) : CIm c hc ∧ gI hc 1545 175 = nI k2 := by
  rcases q with ⟨hr', p2, -, -, g, -⟩ | ⟨e, w, hr', -, -, r, -, -, -, -, -, -, -, -, at_⟩ | ⟨e, hr', -, -, r, -, at_⟩
  · exact ⟨g.1.ci, g.2.2.1⟩
  · exact ⟨r.ci, at_⟩
  · exact ⟨r.ci, at_⟩
/-- no always behind it -/
theorem ph_no (K : KXs c) (hD : D < 24) (hT : T < 1640) (no : lk (kT c) k2 ≠ 142) (hk : k2 < 2 ^ 31) (e7 : gA (hR c) 277 T = -1) (e8 : gA (hR c) 278 T = nI E0) (q : PhA c h0 D T k2 hc hr) (hn : 2 ≤ n) {x1 : Int32} : StO c (cK (E n 328 [.ref 175] hc) (Q n 343 139 [some (.ref 175), some (.int x1), none, none, none, none]) []) h0 hr D E0 k2 := by
  obtain ⟨i, at_⟩ := q.ci
  have lb := lk_b (t := kT c) (k := k2)
  rw [cm_peek i K hn hk at_, cK_v, t_343_139 i.1, if_neg (fun z => no ((nI_eq (by omega) (by decide)).mp z)), t_343_178 i.1]
  rcases q with ⟨hr', p2, st, l, g, f, t1, p43, A⟩ | ⟨e, w, hr', x1, x2, r, lq, ow, dp, f, t1, tp, en, sg, -⟩ | ⟨e, hr', x1, x2, r, l, -⟩
  · obtain ⟨hr2, l2, g2, f2⟩ := (b_tried (E0 := E0) K g hD hT (by omega) A).1 e7 e8
    exact StO.go rfl st (l.trans l2) g2 (f.tr f2)
  · have sr := r.shR K
    have fr : Fr [3731] [] hr' (sI hr' 3731 189 (nI D)) := Fr.rfl.sI (by decide)
    refine StO.dx rfl ⟨e, x1, by omega, by omega, sI hr' 3731 189 (nI D), r.frR (fr.wk (by decide) (fun _ q => absurd q List.not_mem_nil)), Or.inl ⟨by omega, w, fun h2 q0 q1 q => lq h2 q0 (by rw [q1, gI_k (by decide)]) ?_, ow, gI_s, f.tr (HF.of fr (by decide)), by rw [gI_k (by decide)]; exact tp, by rw [gI_k (by decide)]; exact en⟩⟩
    have a7 : gA hr' 277 T = -1 := by rw [r.tA (by decide) (by decide)]; exact e7
    have := (ow_n (e := if e = 12 then 20 else e) (w := w) sr dp hD t1 hT (by split <;> omega) (by
      rcases sg with ⟨s0, s1⟩ | s0
      · rcases s1 with s1 | s1
        · exact Or.inr (Or.inl (if_pos s1))
        · by_cases z : e = 12
          · exact Or.inr (Or.inl (if_pos z))
          · rw [if_neg z, r.tA (x := 276) (by decide) (by decide)]
            exact Or.inr (Or.inr (s1 hr' sr (r.tA (by decide) (by decide)) (r.tA (by decide) (by decide))))
      · exact Or.inl (by rw [s0]; decide))).2 (fun z => z.2 (by rw [a7]; decide))
    rw [this]; exact q
  · exact StO.dx rfl ⟨e, x1, by omega, by omega, hr', r, Or.inr ⟨x2, l⟩⟩
/-- the block of always -/
theorem al_blk (K : KXs c) (ih : STm c M N) (hD : D ≤ d) (hd : d ≤ 20) (hT : T < 1640) {c2 : Nat} (p3 : CSx (kT c) (1 - kn c 5) N 2 d k k' 0 c2 y o L3 Y3 O3 0) (hk : k ≤ M) (A3 : AT (hR c) (4400 * kn c 5 + c2) L3) (A4 : AT (hR c) (4400 * kn c 5 + (c2 + L3.length)) [(nI 43, nI T)]) (tb : TBl c y o Y3 O3) (hp : c2 + L3.length + 1 ≤ 4300) (e8 : gA (hR c) 278 T = nI E0) (hn : 30 + 13 * (20 - d) ≤ n)
    (G : Gs c (D + 1) 0 c2 k hc hr) (t1 : gA hr 290 D = nI T) (t2 : gA hr 291 D = nI 2) {e : Nat} {w : Int64} (he : e ≤ 9 ∨ e = 12) (t3 : gA hr 292 D = nI (if e = 12 then 20 else e)) (t4 : 0 < e → gB hr 293 D = w) (x3 : Int64) (hw : e = 9 → w = x3) {u1 : Option Value} : ∃ hc', cK (E n 373 [.ref 175, .int (nI d)] hc) (Q n 375 20 [some (.ref 175), u1, some (.int (nI e)), some (.long x3), none]) [] = some (none, hc') ∧ ((e = 0 ∧ stp1 hc hc' ∧ ∃ hr', LPm c hr = LPm c hr' ∧ Gs c D 0 E0 k' hc' hr' ∧ HF D hr hr') ∨ Dd c D hc' hr) := by
  obtain ⟨h5, b1, b2, b3⟩ := (ih 2 d k k' 0 c2 y o L3 Y3 O3 0 p3 hc hr (D + 1) n A3 tb (by omega) (Nat.succ_le_succ hD) hd hk hn).2.1 rfl G
  rw [b1, cK_n]
  rcases b3 with ⟨b4, hr5, b5, g5, f5⟩ | dd
  · have s5 := g5.sC
    obtain ⟨z1, z2, z3, z4⟩ := f5.2 D (Nat.lt_succ_self _)
    have bd := b_done (E0 := E0) (e := if e = 12 then 20 else e) (w := w) K g5 (by omega) hT (by omega) A4 (by split <;> omega) (by rw [z3]; exact t3) (fun q => by rw [z4]; exact t4 (by by_cases z : e = 12 <;> simp_all <;> omega)) e8
    rw [t_375_20 s5, cm_go s5 (by omega) g5.2.1, cK_v, t_375_24 s5, if_neg (by decide)]
    have fc : Fr [1547, 1548] [] h5 (sL (sI h5 1547 175 (nI e)) 1548 175 x3) := (Fr.rfl.sI (by decide)).sL (by decide)
    refine ⟨_, rfl, ?_⟩
    have i7 : gI (sL (sI h5 1547 175 (nI e)) 1548 175 x3) 1547 175 = nI e := by show gI (sI h5 1547 175 (nI e)) 1547 175 = _; rw [gI_s]
    by_cases z : e = 0
    · obtain ⟨hr6, l6, g6, f6⟩ := bd.1 (by rw [z]; rfl)
      exact Or.inl ⟨z, b4.tr (stp1.of fc (by decide)), hr6, b5.trans l6, ⟨g6.1.frC (fc.wk (by decide) (fun _ q => q)), by rw [i7, z], by rw [fc.I (by decide)]; exact g6.2.2.1, g6.2.2.2⟩, (f5.lo (Nat.le_succ _)).tr f6⟩
    · obtain ⟨hr6, l6, r6, d6, f6, t6, n6⟩ := bd.2 (by split <;> omega)
      exact Or.inr ⟨e, i7, by omega, by omega, hr6, r6.frC (fc.wk (by decide) (fun _ q => q)), Or.inl ⟨by omega, w, fun h2 q0 q1 q => b5.trans (l6 h2 q0 q1 q), fun q => by rw [gL_s]; exact hw q, d6, (f5.lo (Nat.le_succ _)).tr f6, t6, n6⟩⟩
  · have s5 := dd.shC
    rw [t_375_20 s5, cm_ngo s5 (by omega) dd.ne, cK_v, t_375_24 s5, if_pos rfl]
    exact ⟨_, rfl, Or.inr (dd.pop K (by omega) hT t1 t2)⟩
/-- always behind it -/
theorem ph_al (K : KXs c) (ih : STm c M N) (hD : D ≤ d) (hd : d ≤ 20) (hT : T < 1640) (q1 : lk (kT c) k2 = 142) (hM : ME (kT c) M) (h4 : M ≤ 4000) {c2 : Nat} (p3 : CSx (kT c) (1 - kn c 5) N 2 d (k2 + 1) k' 0 c2 y o L3 Y3 O3 0) (A3 : AT (hR c) (4400 * kn c 5 + c2) L3) (A4 : AT (hR c) (4400 * kn c 5 + (c2 + L3.length)) [(nI 43, nI T)]) (tb : TBl c y o Y3 O3) (hp : c2 + L3.length + 1 ≤ 4300) (e7 : gA (hR c) 277 T = nI c2) (e8 : gA (hR c) 278 T = nI E0) (hn : 30 + 13 * (20 - d) ≤ n) (q : PhA c h0 D T k2 hc hr) : StO c (cK (E (n + 1) 328 [.ref 175] hc) (Q (n + 1) 343 139 [some (.ref 175), some (.int (nI d)), none, none, none, none]) []) h0 hr D E0 k' := by
  obtain ⟨i, at_⟩ := q.ci
  have kM := ltk hM q1 (by decide)
  rw [cm_peek i K (by omega) (by omega) at_, cK_v, t_343_139 i.1, if_pos (by rw [q1])]
  have u178 : ∀ h', Sh h' → Q (n + 1) 343 178 [none, none, none, none, none, none] [] h' = some (none, h') := fun h' s' => t_343_178 s'
  have s1 : Sh (sI hc 1545 175 ((gI hc 1545 175) + (nI 1))) := i.1.sI
  rcases q with ⟨hr', p2, st, l, g, f, t1, p43, A⟩ | ⟨e, w, hr', x1, x2, r, lq, ow, dp, f, t1, tp, en, sg, -⟩ | ⟨e, hr', x1, x2, r, l, -⟩
  · obtain ⟨hr2, l2, g2, f2, y1, y2, y3⟩ := (b_tried (E0 := E0) K g (by omega) hT (by omega) A).2 c2 (by omega) e7
    have g3 := g2.at1
    have f3 : Fr [1547] [] (sI hc 1545 175 ((gI hc 1545 175) + (nI 1))) (sI (sI hc 1545 175 ((gI hc 1545 175) + (nI 1))) 1547 175 (nI 0)) := Fr.rfl.sI (by decide)
    have g4 : Gs c (D + 1) 0 c2 (k2 + 1) (sI (sI hc 1545 175 ((gI hc 1545 175) + (nI 1))) 1547 175 (nI 0)) hr2 := ⟨g3.1.frC (f3.wk (by decide) (fun _ q => q)), gI_s, by rw [f3.I (by decide)]; exact g3.2.2.1, g3.2.2.2⟩
    have i7 : gI (sI hc 1545 175 ((gI hc 1545 175) + (nI 1))) 1547 175 = nI 0 := g3.2.1
    obtain ⟨h9, z1, z2⟩ := al_blk (E0 := E0) (e := 0) (w := 0) (n := n) K ih hD hd hT p3 (by omega) A3 A4 tb hp e8 hn g4 (y1.trans t1) y2 (Or.inl (by decide)) (by rw [if_neg (by decide)]; exact y3) (fun z => absurd z (by decide)) (gL (sI hc 1545 175 ((gI hc 1545 175) + (nI 1))) 1548 175) (fun z => absurd z (by decide)) (u1 := some (.int (nI d)))
    have e0 : ¬ gI hc 1547 175 = nI 10 := by rw [g.2.1]; decide
    have e1 : ¬ gI hc 1547 175 = nI 11 := by rw [g.2.1]; decide
    rw [if_neg e0, if_neg e1, t_375 s1, i7, z1, cK_n]
    rcases z2 with ⟨-, z3, hr3, z4, z5, z6⟩ | dd
    · rw [u178 _ z5.sC]
      exact StO.go rfl (st.tr ((at_1 hc).2.1.tr ((stp1.of f3 (by decide)).tr z3))) (l.trans (l2.trans z4)) z5 (f.tr (f2.tr z6))
    · rw [u178 _ dd.shC]
      exact StO.dx rfl (dd.pre (l.trans l2) (f.tr f2))
  · have sr := r.shR K
    have a7 : gA hr' 277 T = nI c2 := by rw [r.tA (by decide) (by decide)]; exact e7
    obtain ⟨j1, hj1⟩ : ∃ j1, j1 = sA hr' 291 D (nI 2) := ⟨_, rfl⟩
    have w1 : Fr [] [291] hr' j1 := by rw [hj1]; exact Fr.rfl.sA (by decide)
    obtain ⟨j2, hj2⟩ : ∃ j2, j2 = sA j1 292 D (nI (if e = 12 then 20 else e)) := ⟨_, rfl⟩
    have w2 : Fr [] [292] j1 j2 := by rw [hj2]; exact Fr.rfl.sA (by decide)
    obtain ⟨j3, hj3⟩ : ∃ j3, j3 = sB j2 293 D w := ⟨_, rfl⟩
    have w3 : Fr [] [293] j2 j3 := by rw [hj3]; exact Fr.rfl.sB (by decide)
    obtain ⟨j4, hj4⟩ : ∃ j4, j4 = sI j3 3724 189 (nI c2) := ⟨_, rfl⟩
    have w4 : Fr [3724] [] j3 j4 := by rw [hj4]; exact Fr.rfl.sI (by decide)
    have wf : Fr [3724] [291, 292, 293] hr' j4 := (w1.wk (fun _ q => absurd q List.not_mem_nil) (by decide)).trans ((w2.wk (fun _ q => absurd q List.not_mem_nil) (by decide)).trans ((w3.wk (fun _ q => absurd q List.not_mem_nil) (by decide)).trans (w4.wk (fun _ q => q) (fun _ q => absurd q List.not_mem_nil))))
    have B1 : ∀ j, gA j4 291 j = if j = D then nI 2 else gA hr' 291 j := fun j => by
      rw [w4.A List.not_mem_nil, w3.A (by decide), w2.A (by decide), hj1, gA_s]; rfl
    have B2 : ∀ j, gA j4 292 j = if j = D then nI (if e = 12 then 20 else e) else gA hr' 292 j := fun j => by
      rw [w4.A List.not_mem_nil, w3.A (by decide), hj2, gA_s]; show (if j = D then _ else gA j1 292 j) = _; rw [w1.A (by decide)]
    have B3 : ∀ j, gB j4 293 j = if j = D then w else gB hr' 293 j := fun j => by
      rw [w4.B List.not_mem_nil, hj3, gB_s]; show (if j = D then _ else gB j2 293 j) = _; rw [w2.B (by decide), w1.B (by decide)]
    have hf4 : HF D hr' j4 := ⟨by rw [wf.I (by decide)]; exact Nat.le_refl _, fun j hj => ⟨by rw [wf.A (by decide)], by rw [B1, if_neg (by omega)], by rw [B2, if_neg (by omega)], by rw [B3, if_neg (by omega)]⟩⟩
    have sj := wf.sh sr
    have e2 : E 2 157 [.ref 189, .int (nI (if e = 12 then 20 else e)), .long w] hr' = some (none, j4) := by
      have := (ow_n (e := if e = 12 then 20 else e) (w := w) sr dp (by omega) t1 hT (by split <;> omega) (by
        rcases sg with ⟨s0, s1⟩ | s0
        · rcases s1 with s1 | s1
          · exact Or.inr (Or.inl (if_pos s1))
          · by_cases z : e = 12
            · exact Or.inr (Or.inl (if_pos z))
            · rw [if_neg z, r.tA (x := 276) (by decide) (by decide)]
              exact Or.inr (Or.inr (s1 hr' sr (r.tA (by decide) (by decide)) (r.tA (by decide) (by decide))))
        · exact Or.inl (by rw [s0]; decide))).1 (by rcases sg with ⟨s0, -⟩ | s0 <;> (rw [s0]; decide)) (by rw [a7]; exact nI_nlt (by omega) (by omega))
      rw [this, a7, ← hj1, ← hj2, ← hj3, ← hj4]
    have lA := lq j4 sj (by rw [wf.I (by decide)]) e2
    have f3 : Fr [1545, 1547] [] hc (sI (sI hc 1545 175 ((gI hc 1545 175) + (nI 1))) 1547 175 (nI 0)) := (Fr.rfl.sI (by decide)).sI (by decide)
    have g4 : Gs c (D + 1) 0 c2 (k2 + 1) (sI (sI hc 1545 175 ((gI hc 1545 175) + (nI 1))) 1547 175 (nI 0)) j4 := ⟨(r.frC (f3.wk (by decide) (fun _ q => q))).frR (wf.wk (by decide) (by decide)), gI_s, by rw [gI_k (by decide), gI_s, at_, nI_add], by rw [hj4, gI_s], by rw [wf.I (by decide)]; exact tp, by rw [wf.I (by decide)]; exact dp, by rw [wf.I (by decide)]; exact en⟩
    obtain ⟨h9, z1, z2⟩ := al_blk (E0 := E0) (e := e) (w := w) (n := n) K ih hD hd hT p3 (by omega) A3 A4 tb hp e8 hn g4 (by rw [wf.A (by decide)]; exact t1) (by rw [B1, if_pos rfl]) (by omega) (by rw [B2, if_pos rfl]) (fun _ => by rw [B3, if_pos rfl]) (gL (sI hc 1545 175 ((gI hc 1545 175) + (nI 1))) 1548 175) (fun z => ow z) (u1 := some (.int (nI d)))
    have i7 : gI (sI hc 1545 175 ((gI hc 1545 175) + (nI 1))) 1547 175 = nI e := by rw [gI_k (by decide)]; exact x1
    have e0 : ¬ gI hc 1547 175 = nI 10 := by rw [x1]; exact fun z => by have := (nI_eq (by omega) (by decide)).mp z; omega
    have e1 : ¬ gI hc 1547 175 = nI 11 := by rw [x1]; exact fun z => by have := (nI_eq (by omega) (by decide)).mp z; omega
    rw [if_neg e0, if_neg e1, t_375 s1, i7, z1, cK_n]
    rcases z2 with ⟨z0, -⟩ | dd
    · omega
    · rw [u178 _ dd.shC]
      exact StO.dx rfl (dd.pre lA (f.tr hf4))
  · have dd : Dd c D hc hr := ⟨e, x1, by omega, by omega, hr', r, Or.inr ⟨x2, l⟩⟩
    have : (if gI hc 1547 175 = nI 10 then Q (n + 1) 343 178 [none, none, none, none, none, none] [] hc else if gI hc 1547 175 = nI 11 then Q (n + 1) 343 178 [none, none, none, none, none, none] [] hc else cK (E (n + 1) 375 [.ref 175, .int (nI d)] (sI hc 1545 175 ((gI hc 1545 175) + (nI 1)))) (Q (n + 1) 343 178 [none, none, none, none, none, none]) []) = some (none, hc) := by
      rcases x2 with z | z
      · rw [x1, z, if_pos rfl]; exact u178 _ i.1
      · rw [x1, z, if_neg (by decide), if_pos rfl]; exact u178 _ i.1
    rw [this]
    exact StO.dx rfl dd
end ONS
