/-! ===== PROGRAMMES: the reference writes try, all of it ===== -/
section STT
variable {t : Tp} {M N d k n m f c y o sd T : Nat} {r : Nat × Nat} {h : AH}
abbrev exT (T : Nat) : Nat → Nat → Prop := fun x i => (276 ≤ x ∧ x ≤ 278) ∧ i = T
theorem exT_A {T c y o sd : Nat} (hT : T < 820 * (1 - sd) + y) : exA (exT T) sd c y o := fun x i w => ⟨fun z => by have := w.1.1; omega, fun _ _ => by have := w.2; omega, fun z => by have := w.1.2; omega⟩
theorem x_69 {x' : Int32} (S : SRt h t M k f c y o d sd) (hf : f ≠ 0) (hc : c ≤ 4400) (hn : 2 ≤ n) (hT2 : T < 1640) : ∃ h2, Q n 147 69 [some (.ref 189), some (.int (nI T)), none, some (.int x')] [.int (nI 0)] h = some (none, h2) ∧ FRg (fun x i => mTs sd c y o x i ∨ exT T x i) h h2 ∧ SRt h2 t M k f c y o d sd := by
  have gT : ∀ z, gd (nI T) 1640 z = z := fun z => gd_nI hT2 (by decide)
  rw [t_147_69 S.1.1, if_pos rfl, gT, ix_nI (by omega)]
  have S1 : SRt (sA h 277 T (-1)) t M k f c y o d sd := S.sT (by decide)
  obtain ⟨h2, a1, a2⟩ := hw_0 S1.1 (w := 48) (n := n) (by decide) (by omega) hn (fun z => hf z.1)
  have S2 : SRt h2 t M k f c y o d sd := S1.kp a2.1.1 kp3 a2.2
  rw [a1, cK_v, t_147_95 S2.1.1, if_pos rfl, gT, ix_nI (by omega)]
  exact ⟨_, rfl, ((FRg.sA (by decide) (Or.inr ⟨by decide, rfl⟩)).trans ((PW.fg S1 a2.1).wk fun x i q => Or.inl q)).trans (FRg.sA (by decide) (Or.inr ⟨by decide, rfl⟩)), S2.sT (by decide)⟩
theorem ps_t (ih : PSH t M sd N) (h4 : M ≤ 4000) (q0 : lk t k = 140) (e : (sq (px t N 2 d (k + 1)) fun k => sq (px t N 12 d k) fun k => if lk t k = 142 then px t N 2 d (k + 1) else some (0, k)) = some r) (S : SRt h t M (k + 1) 0 (c + 1) y o d sd) (hc : c ≤ k) (hk : k + 1 ≤ M) (hd : d ≤ 20) (hn : 22 + 10 * (20 - d) ≤ n) (I : IBs t 0 k d y o) : RTs exN (fun k' L Y O _ => CSs t sd (CE t N) (CSx t sd N) d k k' c y o ([(nI 38, nI 0)] ++ L) Y O ∧ IBs t 0 k' d (y + Y.length) (o + O.length)) (E n 147 [.ref 189] h) h t M (k + 1) (c + 1) y o d sd r (tlT 1 d) := by
  obtain ⟨m, rfl⟩ : ∃ m, n = m + 1 := ⟨n - 1, by omega⟩
  have tl1 : tlT 1 d = 10 * (21 - d) + 8 := rfl
  have tl2 : tlT 2 d = 10 * (21 - d) := rfl
  have tl12 : tlT 12 d = 10 * (21 - d) + 2 := rfl
  have t4 := S.1.2.2.1.1.2.1
  obtain ⟨iy, io⟩ := I.r t4 hd (by decide)
  have sd1 := S.2.2.2.2
  obtain ⟨T, hT⟩ : ∃ T, T = 820 * (1 - sd) + y := ⟨_, rfl⟩
  have hT2 : T < 1640 := by omega
  have gT : ∀ z, gd (nI T) 1640 z = z := fun z => gd_nI hT2 (by decide)
  rw [t_147 S.1.1, S.1.2.2.1.2.1, if_neg (by decide), S.ty, S.2.1, nI_add, ← hT]
  obtain ⟨hB, hBE⟩ : ∃ g, g = sI h 3701 189 (nI (y + 1)) := ⟨_, rfl⟩
  rw [← hBE]
  have frB : Fr [3701] [] h hB := by rw [hBE]; exact Fr.rfl.sI (List.mem_singleton.mpr rfl)
  have SB : SRt hB t M (k + 1) 0 (c + 1) (y + 1) o d sd := by
    obtain ⟨⟨s1, s2, s3, s4, s5, s6, s7⟩, y1, y2, y3, y4⟩ := id S
    exact ⟨⟨frB.sh s1, s2.fr frB (by decide), s3.fr frB (by decide) (by decide) (by decide) (by decide) (by decide), by rw [frB.I (by decide)]; exact s4, by rw [frB.I (by decide)]; exact s5, by rw [frB.I (by decide)]; exact s6, s7⟩, by rw [hBE]; exact gI_s, by rw [frB.I (by decide)]; exact y2, by rw [frB.I (by decide)]; exact y3, y4⟩
  refine RTs.fr (FRg.of frB (by decide)) (RTs.yo iy ?_)
  rw [← hT]
  refine RTs.em SB (exT_A (by omega)) (by omega) (by omega) fun h1 S1 => ?_
  rw [t_147_41 S1.1.1]
  have I1 : IBs t 2 (k + 1) d (y + 1) o := by
    have := tkP_try q0
    unfold IBs at I ⊢; omega
  obtain ⟨r1, e1, c1⟩ := sq_s e
  refine RTs.st (ex := exT T) (exT_A (by omega)) (by omega) (((ih 2 d (k + 1) r1 m h1 _ _ _ e1 S1 (by omega) hk hd (by show 20 + 10 * (20 - d) ≤ m; omega)).2.1 rfl I1).wk (fun _ _ _ _ _ _ p => p) (Nat.le_refl _) (Nat.le_refl _) (fun _ _ q => q.elim)) c1 (fun z f le h2 L1 Y1 O1 p1 fr b1 S2 => ?_) (fun z h2 c2 y2 o2 S2 b2 => ?_)
  · obtain ⟨r2, e2, c2⟩ := sq_s f
    obtain ⟨he, v1, v2, v3⟩ := r_emit S2.1 (n := m) (by omega) (by omega) (nI 42) (nI T)
    have S3 := S2.kp v2.1 kp3 v3
    have SA : SRt (sA he 276 T (-1)) t M r1.2 0 (c + 1 + 1 + L1.length + 1) (y + 1 + Y1.length) (o + O1.length) d sd := S3.sT (by decide)
    obtain ⟨hA, hAE⟩ : ∃ g, g = sA he 276 T (-1) := ⟨_, rfl⟩
    have hv : gA hA (slX none) (slI T none) = -1 := by
      rw [hAE]; show gA (sA he 276 T (-1)) 276 T = -1; rw [gA_s, up1_s]
    rw [t_147_46 S2.1.1, v1, cK_v, t_147_53 S3.1.1, gT, ix_nI (by omega), ← hAE]
    rw [← hAE] at SA
    obtain ⟨h', x', y1, y2⟩ := (ih 12 d r1.2 r2 m hA _ _ _ e2 SA (by omega) le hd (by show 21 + 10 * (20 - d) ≤ m; omega)).2.2.2.1 rfl (by omega) p1.2 T none (by omega) (fun i hi => by cases hi) hv
    have y1 : Q m 147 63 [some (.ref 189), some (.int (nI T)), none, some (.int (-1))] [] hA = Q m 147 69 [some (.ref 189), some (.int (nI T)), none, some (.int x')] [.int (nI 0)] h' := y1
    rw [y1]
    have fA : ∀ c1 y1 o1, FRg (fun x i => mTs sd c1 y1 o1 x i ∨ exT T x i) he hA := fun c1 y1 o1 => by rw [hAE]; exact FRg.sA (by decide) (Or.inr ⟨by decide, rfl⟩)
    have sle : ∀ x i, (x = slX none ∧ i = slI T none) → exT T x i := fun x i w => by
      have w1 : x = 276 := w.1
      have w2 : i = T := w.2
      exact ⟨by omega, w2⟩
    refine RTs.cat (L1 := [(nI 42, nI T)]) (Y1 := []) (O1 := []) (exT_A (by omega)) ((PW.fg S2 v2).wk fun x i w => Or.inl w) v2.2.2 T3.nil T3.nil (RTs.fr (fA _ _ _) ?_)
    rcases c2 with ⟨z2, f2⟩ | ⟨z2, f2⟩
    · obtain ⟨g2, L2, Y2, O2, w1, w2, w3, w4, w5, w6, S4⟩ := y2.all z2
      refine RTs.cat (L1 := L2) (Y1 := Y2) (O1 := O2) (exT_A (by show T < 820 * (1 - sd) + (y + 1 + Y1.length + 0); omega)) (g2.wk fun x i w => w.imp (fun w => w) (sle x i)) w4 w5 w6 ((ps_f ih h4 f2 S4 (by omega) w3 hd (by omega) w1.2 (by omega) hT2).wk (fun w L4 Y4 O4 g fg p => ?_) (by show k + 1 + 1 + L1.length + 1 + L2.length ≤ r2.2; omega) (Nat.le_refl _) (fun _ _ w => w))
      obtain ⟨p, p76, pI⟩ := p
      have p76 : gA g 276 T = gA h' (slX none) (slI T none) := p76
      refine ⟨Or.inr (Or.inr (Or.inr (Or.inr (Or.inr ⟨q0, T, r1.2, L1, Y1, O1, r2.2, L2, Y2, O2, gA g 276 T, c + 2 + L1.length + 1, c + 2 + L1.length + 1 + L2.length, hT, p1.1, rfl, by rw [p76]; exact w1.1, rfl, ?_⟩)))), ?_⟩
      · rcases p with ⟨x1, x2, x3, x4, x5, x6, x7⟩ | ⟨x1, L3, x2, x3, x4, x5⟩
        · refine Or.inl ⟨x1, x2, ?_, ?_, ?_⟩
          · rw [x3, List.append_nil]
          · rw [x6, x7, x4, List.append_nil]; rfl
          · rw [x5, List.append_nil]; rfl
        · refine Or.inr ⟨x1, L3, Y4, O4, x2, ?_, ?_, ?_⟩
          · rw [x3]
          · rw [x4, x5]; rfl
          · rfl
      · have e3 : y + ([(gA g 276 T, gA g 277 T, gA g 278 T)] ++ (Y1 ++ ([] ++ (Y2 ++ Y4)))).length = y + 1 + Y1.length + Y2.length + Y4.length := by
          rw [List.length_append, List.length_append, List.length_append, List.length_append, List.length_singleton, List.length_nil]; omega
        have e4 : o + (O1 ++ ([] ++ (O2 ++ O4))).length = o + O1.length + O2.length + O4.length := by
          rw [List.length_append, List.length_append, List.length_append, List.length_nil]; omega
        show IBs t 0 r.2 d (y + ([(gA g 276 T, gA g 277 T, gA g 278 T)] ++ (Y1 ++ ([] ++ (Y2 ++ Y4)))).length) (o + (O1 ++ ([] ++ (O2 ++ O4))).length)
        rw [e3, e4]; exact pI
    · subst f2
      obtain ⟨hb', x1, x2, x3, x4⟩ := id y2
      have eb : h' = hb' := by injection x1 with e; exact congrArg Prod.snd e
      subst eb
      obtain ⟨c', y', o', w1, w2, w3, w4, S4⟩ := x4 z2
      clear x3 x4 y2
      obtain ⟨h3, d1, d2, S5⟩ := x_69 (T := T) (x' := x') (n := m) S4 z2 (by omega) (by omega) hT2
      exact ⟨h3, d1, (x2.wk fun x i w => w.imp (fun w => w) (sle x i)).trans (fu d2 w1 w2 w3), fun w => absurd w z2, fun _ => ⟨c', y', o', w1, w2, w3, by omega, S5⟩⟩
  · obtain ⟨he, v1, v2, v3⟩ := r_emit S2.1 (n := m) (by omega) (by omega) (nI 42) (nI T)
    have S3 := S2.kp v2.1 kp3 v3
    have SA : SRt (sA he 276 T (-1)) t M r1.2 r1.1 (c2 + 1) y2 o2 d sd := S3.sT (by decide)
    rw [t_147_46 S2.1.1, v1, cK_v, t_147_53 S3.1.1, gT, ix_nI (by omega), t_147_63 SA.1.1]
    obtain ⟨h5, a1, a2⟩ := hw_0 SA.1 (w := 47) (n := m) (by decide) (by omega) (by omega) (fun w => z w.1)
    have S5 : SRt h5 t M r1.2 r1.1 (c2 + 1) y2 o2 d sd := SA.kp a2.1.1 kp3 a2.2
    rw [a1, cK_v]
    obtain ⟨h6, d1, d2, S6⟩ := x_69 (T := T) (x' := -1) (n := m) S5 z (by omega) (by omega) hT2
    exact ⟨h6, c2 + 1, y2, o2, d1, (((PW.fg S2 v2).wk fun x i w => Or.inl w).trans (FRg.sA (by decide) (Or.inr ⟨by decide, rfl⟩))).trans (((PW.fg SA a2.1).wk fun x i w => Or.inl (w.up (Nat.le_succ _) (Nat.le_refl _) (Nat.le_refl _))).trans (fu d2 (Nat.le_succ _) (Nat.le_refl _) (Nat.le_refl _))), by omega, Nat.le_refl _, Nat.le_refl _, by omega, S6⟩
end STT
