/-! ===== PROGRAMMES: the reference writes while ===== -/
section STO
variable {t : Tp} {M N d k n m f c y o sd : Nat} {r : Nat × Nat} {h : AH}
theorem exA.sl {ex : Nat → Nat → Prop} (a : exA ex sd c y o) : exA (fun x i => ex x i ∨ x = 275 ∧ i = 4400 * (1 - sd) + c) sd (c + 1) y o := fun x i q => by
  rcases q with q | ⟨q1, q2⟩
  · exact (a.up (Nat.le_succ c) (Nat.le_refl y) (Nat.le_refl o)) x i q
  · subst q1; subst q2
    exact ⟨fun _ => by omega, fun z => absurd z (by decide), fun z => absurd z (by decide)⟩
theorem XTs.pt {ex : Nat → Nat → Prop} {K : Vs → AH → Option Ot} {d' T tl : Nat} {x z : Int32} (S : SRt h t M k f c y o d' sd) (hc : c ≤ M + T) (hT : M + T < 4400) (hn : 1 ≤ n) (nx : ∀ h1, SRt h1 t M k f (c + 1) y o d' sd → XTs (fun a i => ex a i ∨ a = 275 ∧ i = 4400 * (1 - sd) + c) (K [.int (nI c)] h1) h1 t M k f (c + 1) y o d sd tl) : XTs ex (cK (E n 130 [.ref 189, .int x, .int z] h) K []) h t M k f c y o d sd tl := by
  obtain ⟨h1, a1, a2, a3⟩ := r_emit S.1 (by omega) hn x z
  have S1 := S.kp a2.1 kp3 a3
  obtain ⟨h2, c2, y2, o2, g1, g2, g3, g4, g5, g6, g7⟩ := nx h1 S1
  refine ⟨h2, c2, y2, o2, by rw [a1, cK_v]; exact g1, ((PW.fg S a2).wk fun x i q => Or.inl q).trans (g2.wk fun a i q => ?_), by omega, g4, g5, g6, g7⟩
  rcases q with q | q | ⟨q1, q2⟩
  · exact Or.inl (q.up (by omega) (Nat.le_refl _) (Nat.le_refl _))
  · exact Or.inr q
  · subst q1; subst q2
    exact Or.inl (Or.inl ⟨by decide, by omega, by omega⟩)
theorem XTs.em' {ex : Nat → Nat → Prop} {K : Vs → AH → Option Ot} {d' T tl : Nat} {x z : Int32} (S : SRt h t M k f c y o d' sd) (hc : c ≤ M + T) (hT : M + T < 4400) (hn : 1 ≤ n) (nx : ∀ h1, SRt h1 t M k f (c + 1) y o d' sd → XTs ex (K [.int (nI c)] h1) h1 t M k f (c + 1) y o d sd tl) : XTs ex (cK (E n 130 [.ref 189, .int x, .int z] h) K []) h t M k f c y o d sd tl := by
  obtain ⟨h1, a1, a2, a3⟩ := r_emit S.1 (by omega) hn x z
  have S1 := S.kp a2.1 kp3 a3
  obtain ⟨h2, c2, y2, o2, g1, g2, g3, g4, g5, g6, g7⟩ := nx h1 S1
  exact ⟨h2, c2, y2, o2, by rw [a1, cK_v]; exact g1, ((PW.fg S a2).wk fun x i q => Or.inl q).trans (fu g2 (by omega) (Nat.le_refl _) (Nat.le_refl _)), by omega, g4, g5, g6, g7⟩
theorem XTs.p145 {ex : Nat → Nat → Prop} {K : Vs → AH → Option Ot} {x tl : Nat} (S : SRt h t M k f c y o d sd) (hx : x < 4400) (hn : 1 ≤ n) (he : ex 275 (4400 * (1 - sd) + x)) (hc : c ≤ M + tl) (hK : ∀ h', Sh h' → K [] h' = some (none, h')) : XTs ex (cK (E n 145 [.ref 189, .int (nI x)] h) K []) h t M k f c y o d sd tl := by
  obtain ⟨a, b⟩ := r_145 S hx hn
  exact ⟨_, c, y, o, by rw [a, cK_n]; exact hK _ b.1.1, FRg.sA (by decide) (Or.inr he), Nat.le_refl _, Nat.le_refl _, Nat.le_refl _, hc, b⟩
theorem ps_w (ihe : PRH t M (4400 * (1 - sd)) N) (ih : PSH t M sd N) (h4 : M ≤ 4000) (q0 : lk t k = 139) (e : (sq (px t N 3 d (k + 1)) fun k => px t N 2 d k) = some r) (S : SRt h t M k 0 c y o d sd) (hc : c ≤ k) (hk : k ≤ M) (hd : d ≤ 20) (hn : 22 + 10 * (20 - d) ≤ n) (I : IBs t 0 k d y o) : RTs exN (PS1 t sd N 1 d k 0 c y o) (E n 129 [.ref 189] h) h t M k c y o d sd r (tlT 1 d) := by
  obtain ⟨m, rfl⟩ : ∃ m, n = m + 1 := ⟨n - 1, by omega⟩
  have tl1 : tlT 1 d = 10 * (21 - d) + 8 := rfl
  have tl2 : tlT 2 d = 10 * (21 - d) := rfl
  have tl3 : tlR 3 d = 8 * (21 - d) + 3 := rfl
  have lm := S.1.me.lk (k := k) (by omega)
  obtain ⟨u1, u2, u3⟩ := r_up S.1 (by omega)
  obtain ⟨r1, e1, c1⟩ := sq_s e
  rw [t_129 S.1.1, u1, nI_add]
  refine RTs.pre S ⟨u2, u3⟩ fun S0 => RTs.em S0 exA.none (by omega) (by omega) fun h1 S1 => ?_
  rw [t_129_17 S1.1.1]
  refine RTs.se S1 exA.none (by omega) ((ihe 3 d (k + 1) r1 m h1 (c + 1) e1 S1.1 (by omega) lm hd (by show 18 + 7 * (20 - d) ≤ m; omega)).1 rfl) c1 (fun z f le h2 L1 p1 b1 S2 => ?_) (fun z h2 c2 S2 b2 => ?_)
  · rw [t_129_22 S2.1.1]
    refine RTs.pt S2 exA.none (by omega) (by omega) fun h3 S3 _ => ?_
    rw [t_129_29 S3.1.1]
    have I1 : IBs t 2 r1.2 d y o := by
      have mono : tkP t k ≤ tkP t r1.2 := by
        have go : ∀ j, tkP t k ≤ tkP t (k + j) := by
          intro j
          induction j with
          | zero => exact Nat.le_refl _
          | succ j ih =>
            obtain ⟨a, b, c', e'⟩ := tkP_s (t := t) (k := k + j)
            have := tok_b (t := t) (tkP_b (t := t) (k + j))
            have b : tkP t (k + (j + 1)) = tE t (k + j) := b
            have t1 : tS t (k + j) ≤ tE t (k + j) := this.2.1
            omega
        have := go (r1.2 - k)
        rwa [show k + (r1.2 - k) = r1.2 by omega] at this
      unfold IBs at I ⊢; omega
    refine RTs.st (F := True) (exA.sl exA.none) (by omega) (((ih 2 d r1.2 r m h3 _ _ _ f S3 (by omega) le hd (by show 20 + 10 * (20 - d) ≤ m; omega)).2.1 rfl I1).wk (fun _ _ _ _ _ _ p => p) (Nat.le_refl _) (Nat.le_refl _) (fun _ _ q => q.elim)) (rr r) (fun z2 _ le2 h5 L2 Y2 O2 p2 fr b2 S5 => ?_) (fun z2 h5 c2 y2 o2 S5 b2 => ?_)
    · rw [t_129_34 S5.1.1]
      refine RTs.em S5 ((exA.sl (exA.none (sd := sd) (c := c + 1 + L1.length) (y := y) (o := o))).up (by omega) (by omega) (by omega)) (by omega) (by omega) fun h6 S6 => ?_
      rw [t_129_41 S6.1.1]
      obtain ⟨g1, g2⟩ := r_145 (n := m) (x := c + 1 + L1.length) S6 (by omega) (by omega)
      rw [g1, cK_n, t_129_47 g2.1.1]
      refine ⟨_, rfl, FRg.sA (by decide) (Or.inr (Or.inr ⟨rfl, rfl⟩)), fun _ => ⟨[], [], [], ⟨?_, ?_⟩, ?_, le2, AT.nil, T3.nil, T3.nil, g2⟩, fun w => absurd z2 w⟩
      · refine Or.inr (Or.inr (Or.inr (Or.inr (Or.inl ⟨q0, r1.2, L1, L2, c + 1 + L1.length + 1, p1, rfl, by rw [List.append_nil, List.append_nil]; exact p2.1, ?_⟩))))
        have : gA (sA h6 275 (4400 * (1 - sd) + (c + 1 + L1.length)) (nI (c + 1 + L1.length + 1 + L2.length + 1))) 275 (4400 * (1 - sd) + (c + 1 + L1.length)) = nI (c + 1 + L1.length + 1 + L2.length + 1) := by rw [gA_s, up1_s]
        rw [this, List.append_nil]
      · rw [List.append_nil, List.append_nil]; exact p2.2
      · show k + 1 + L1.length + 1 + L2.length + 1 + 0 ≤ r.2; omega
    · rw [t_129_34 S5.1.1]
      refine XTs.em' (T := 10 * (21 - d)) S5 (by omega) (by omega) (by omega) fun h6 S6 => ?_
      rw [t_129_41 S6.1.1]
      exact XTs.p145 S6 (by omega) (by omega) (Or.inr ⟨rfl, rfl⟩) (by omega) (fun h' hs' => t_129_47 hs' _ _ _ _)
  · rw [t_129_22 S2.1.1]
    refine XTs.pt (T := 8 * (21 - d) + 3) S2 (by omega) (by omega) (by omega) fun h3 S3 => ?_
    rw [t_129_29 S3.1.1]
    obtain ⟨h5, a1, a2⟩ := d_144 S3.1 z (by omega) hd (n := m) (by omega)
    refine XTs.st (d1 := d) (tl1 := 8 * (21 - d) + 4) (XTs.of S3 a1 a2 (by show c2 + 1 + 0 ≤ _; omega)) fun h5 c5 y5 o5 S5 b5 => ?_
    rw [t_129_34 S5.1.1]
    refine XTs.em' (T := 8 * (21 - d) + 4) S5 (by omega) (by omega) (by omega) fun h6 S6 => ?_
    rw [t_129_41 S6.1.1]
    exact XTs.p145 S6 (by omega) (by omega) (Or.inr ⟨rfl, rfl⟩) (by omega) (fun h' hs' => t_129_47 hs' _ _ _ _)
end STO
