/-! ===== PROGRAMMES: the reference writes if ===== -/
section STP
variable {t : Tp} {M N d k n m f c y o sd : Nat} {r : Nat × Nat} {h : AH}
theorem tkP_m {i j : Nat} (e : i ≤ j) : tkP t i ≤ tkP t j := by
  have go : ∀ n, tkP t i ≤ tkP t (i + n) := by
    intro n
    induction n with
    | zero => exact Nat.le_refl _
    | succ n ih =>
      have := tok_b (t := t) (tkP_b (t := t) (i + n))
      obtain ⟨a, b, c', e'⟩ := tkP_s (t := t) (k := i + n)
      have b : tkP t (i + (n + 1)) = tE t (i + n) := b
      have t1 : tS t (i + n) ≤ tE t (i + n) := this.2.1
      omega
  have := go (j - i)
  rwa [show i + (j - i) = j by omega] at this
theorem RTs.m145 {ex exR : Nat → Nat → Prop} {P : Nat → Cds → C3 → C3 → AH → Prop} {K : Vs → AH → Option Ot} {be d1 x tl : Nat} (S : SRt h t M k f c y o d1 sd) (hx : x < 4400) (hn : 1 ≤ n) (he : ex 275 (4400 * (1 - sd) + x)) (hR : ∀ x i, exR x i → ex x i) (p : ∀ hA, SRt hA t M k f c y o d1 sd → gA hA 275 (4400 * (1 - sd) + x) = nI c → RTs exR P (K [] hA) hA t M be c y o d sd r tl) : RTs ex P (cK (E n 145 [.ref 189, .int (nI x)] h) K []) h t M be c y o d sd r tl := by
  obtain ⟨a, b⟩ := r_145 S hx hn
  obtain ⟨h2, g1, g2, g3, g4⟩ := p _ b (by rw [gA_s, up1_s])
  exact ⟨h2, by rw [a, cK_n]; exact g1, (FRg.sA (by decide) (Or.inr he)).trans (g2.wk fun x i q => q.imp (fun z => z) (hR x i)), g3, g4⟩
theorem ps_i (ihe : PRH t M (4400 * (1 - sd)) N) (ih : PSH t M sd N) (h4 : M ≤ 4000) (q0 : lk t k = 137) (e : (sq (px t N 3 d (k + 1)) fun k => sq (px t N 2 d k) fun k => if lk t k = 138 then px t N 2 d (k + 1) else some (0, k)) = some r) (S : SRt h t M (k + 1) 0 (c + 1) y o d sd) (hc : c ≤ k) (hk : k + 1 ≤ M) (hd : d ≤ 20) (hn : 22 + 10 * (20 - d) ≤ n) (I : IBs t 0 k d y o) : RTs exN (fun k' L Y O _ => CSs t sd (CE t N) (CSx t sd N) d k k' c y o ([(nI 38, nI 0)] ++ L) Y O ∧ IBs t 0 k' d (y + Y.length) (o + O.length)) (E n 146 [.ref 189] h) h t M (k + 1) (c + 1) y o d sd r (tlT 1 d) := by
  obtain ⟨m, rfl⟩ : ∃ m, n = m + 1 := ⟨n - 1, by omega⟩
  have tl1 : tlT 1 d = 10 * (21 - d) + 8 := rfl
  have tl2 : tlT 2 d = 10 * (21 - d) := rfl
  have tl3 : tlR 3 d = 8 * (21 - d) + 3 := rfl
  obtain ⟨r1, e1, c1⟩ := sq_s e
  have f55 : ∀ (h' : AH), Sh h' → Q m 146 55 [none, none, none] [] h' = some (none, h') := fun h' s => t_146_55 s
  rw [t_146 S.1.1]
  refine RTs.se S exA.none (by omega) ((ihe 3 d (k + 1) r1 m h (c + 1) e1 S.1 (by omega) hk hd (by show 18 + 7 * (20 - d) ≤ m; omega)).1 rfl) c1 (fun z f le h2 L1 p1 b1 S2 => ?_) (fun z h2 c2 S2 b2 => ?_)
  · rw [t_146_4 S2.1.1]
    refine RTs.pt S2 exA.none (by omega) (by omega) fun h3 S3 _ => ?_
    rw [t_146_11 S3.1.1]
    have I1 : IBs t 2 r1.2 d y o := by
      have := tkP_m (t := t) (show k ≤ r1.2 by omega)
      unfold IBs at I ⊢; omega
    obtain ⟨r2, e2, c2⟩ := sq_s f
    have ex1 := exA.sl (exA.none (sd := sd) (c := c + 1 + L1.length) (y := y) (o := o))
    refine RTs.st ex1 (by omega) (((ih 2 d r1.2 r2 m h3 _ _ _ e2 S3 (by omega) le hd (by show 20 + 10 * (20 - d) ≤ m; omega)).2.1 rfl I1).wk (fun _ _ _ _ _ _ p => p) (Nat.le_refl _) (Nat.le_refl _) (fun _ _ q => q.elim)) c2 (fun z2 f2 le2 h5 L2 Y2 O2 p2 fr b2 S5 => ?_) (fun z2 h5 c2 y2 o2 S5 b2 => ?_)
    · rw [t_146_16 S5.1.1]
      by_cases q : lk t r2.2 = 138
      · rw [if_pos q] at f2
        obtain ⟨h6, a1, a2⟩ := hw_1 S5.1 (w := 44) (n := m) (by decide) (by omega) (by omega) (by rw [q]; decide)
        have lm2 := S5.1.me.lk (k := r2.2) (by omega)
        rw [a1, cK_v, t_146_22 a2.2.1, if_neg (by decide)]
        refine RTs.pre S5 a2 fun S6 => ?_
        refine RTs.pt S6 (ex1.up (by omega) (by omega) (by omega)) (by omega) (by omega) fun h7 S7 _ => ?_
        rw [t_146_32 S7.1.1]
        refine RTs.m145 (exR := fun a i => exN a i ∨ a = 275 ∧ i = 4400 * (1 - sd) + (c + 1 + L1.length + 1 + L2.length)) S7 (by omega) (by omega) (Or.inl (Or.inr ⟨rfl, rfl⟩)) (fun x i q => q.elim (fun q => q.elim) Or.inr) fun hA SA vA => ?_
        rw [t_146_38 SA.1.1]
        have I2 : IBs t 2 (r2.2 + 1) d (y + Y2.length) (o + O2.length) := by
          have i0 := p2.2
          have := tkP_m (t := t) (show r2.2 ≤ r2.2 + 1 by omega)
          unfold IBs at i0 ⊢; omega
        have ex2 := exA.sl (exA.none (sd := sd) (c := c + 1 + L1.length + 1 + L2.length) (y := y + Y2.length) (o := o + O2.length))
        -- what is to be told, the first place's value known
        refine RTs.wk (P := fun k' L3 Y3 O3 h' => CSs t sd (CE t N) (CSx t sd N) d k k' c y o ([(nI 38, nI 0)] ++ (L1 ++ ([(nI 40, nI (c + 1 + L1.length + 1 + L2.length + 1))] ++ (L2 ++ ([(nI 39, gA h' 275 (4400 * (1 - sd) + (c + 1 + L1.length + 1 + L2.length)))] ++ L3))))) (Y2 ++ Y3) (O2 ++ O3) ∧ IBs t 0 k' d (y + (Y2 ++ Y3).length) (o + (O2 ++ O3).length)) (RTs.st (F := True) ex2 (by omega) (((ih 2 d (r2.2 + 1) r m hA _ _ _ f2 SA (by omega) lm2 hd (by show 20 + 10 * (20 - d) ≤ m; omega)).2.1 rfl I2).wk (fun _ _ _ _ _ _ p => p) (Nat.le_refl _) (Nat.le_refl _) (fun _ _ q => q.elim)) (rr r) (fun z3 _ le3 h8 L3 Y3 O3 p3 fr3 b3 S8 => ?_) (fun z3 h8 c3 y3 o3 S8 b3 => ?_)) (fun _ L3 Y3 O3 g fg p => ?_) (Nat.le_refl _) (Nat.le_refl _) (fun _ _ q => q)
        · rw [t_146_42 S8.1.1]
          obtain ⟨g1, g2⟩ := r_145 (n := m) (x := c + 1 + L1.length + 1 + L2.length) S8 (by omega) (by omega)
          rw [g1, cK_n, t_146_47 g2.1.1, f55 _ g2.1.1]
          refine ⟨_, rfl, FRg.sA (by decide) (Or.inr (Or.inr ⟨rfl, rfl⟩)), fun _ => ⟨[], [], [], ⟨?_, ?_⟩, ?_, le3, AT.nil, T3.nil, T3.nil, g2⟩, fun w => absurd z3 w⟩
          · refine Or.inr (Or.inr (Or.inr (Or.inl ⟨q0, r1.2, L1, r2.2, L2, Y2, O2, c + 1 + L1.length + 1, c + 1 + L1.length + 1 + L2.length, p1, rfl, p2.1, rfl, Or.inr ⟨q, L3, Y3, O3, p3.1, ?_, by rw [List.append_nil], by rw [List.append_nil]⟩⟩)))
            rw [gA_s, up1_s, List.append_nil]
          · have i3 := p3.2
            rw [List.append_nil, List.append_nil, List.length_append, List.length_append, ← Nat.add_assoc, ← Nat.add_assoc]; exact i3
          · show k + 1 + L1.length + 1 + L2.length + 1 + L3.length + 0 ≤ r.2; omega
        · rw [t_146_42 S8.1.1]
          exact XTs.p145 S8 (by omega) (by omega) (Or.inr ⟨rfl, rfl⟩) (by omega) (fun h' hs' => by rw [t_146_47 hs', f55 h' hs'])
        · have e7 : gA g 275 (4400 * (1 - sd) + (c + 1 + L1.length)) = nI (c + 1 + L1.length + 1 + L2.length + 1) := by
            rw [fg.2 275 (by decide) (by decide) _ (fun q => ?_), vA]
            rcases q with q | q | ⟨-, q⟩
            · unfold mTs at q; omega
            · exact q
            · omega
          rw [e7]; exact p
      · rw [if_neg q] at f2
        obtain ⟨h6, a1, a2⟩ := hw_0 S5.1 (w := 44) (n := m) (by decide) (by omega) (by omega) (fun z => q (by rw [z.2]; decide))
        rw [a1, cK_v, t_146_22 a2.2.1, if_pos rfl]
        refine RTs.pre S5 a2 fun S6 => ?_
        cases f2
        obtain ⟨g1, g2⟩ := r_145 (n := m) (x := c + 1 + L1.length) S6 (by omega) (by omega)
        rw [g1, cK_n, f55 _ g2.1.1]
        refine ⟨_, rfl, FRg.sA (by decide) (Or.inr (Or.inr ⟨rfl, rfl⟩)), fun _ => ⟨[], [], [], ⟨?_, ?_⟩, ?_, le2, AT.nil, T3.nil, T3.nil, g2⟩, fun w => absurd rfl w⟩
        · refine Or.inr (Or.inr (Or.inr (Or.inl ⟨q0, r1.2, L1, r2.2, L2, Y2, O2, c + 1 + L1.length + 1, c + 1 + L1.length + 1 + L2.length, p1, rfl, p2.1, rfl, Or.inl ⟨q, rfl, ?_, by rw [List.append_nil], by rw [List.append_nil]⟩⟩)))
          rw [gA_s, up1_s, List.append_nil]
        · rw [List.append_nil, List.append_nil]; exact p2.2
        · show k + 1 + L1.length + 1 + L2.length + 0 ≤ r2.2; omega
    · rw [t_146_16 S5.1.1]
      obtain ⟨h6, a1, a2⟩ := hw_0 S5.1 (w := 44) (n := m) (by decide) (by omega) (by omega) (fun z => z2 z.1)
      rw [a1, cK_v, t_146_22 a2.2.1, if_pos rfl]
      refine XTs.pre S5 a2 fun S6 => ?_
      exact XTs.p145 S6 (by omega) (by omega) (Or.inr ⟨rfl, rfl⟩) (by omega) f55
  · rw [t_146_4 S2.1.1]
    refine XTs.pt (T := 8 * (21 - d) + 3) S2 (by omega) (by omega) (by omega) fun h3 S3 => ?_
    rw [t_146_11 S3.1.1]
    obtain ⟨h5, a1, a2⟩ := d_144 S3.1 z (by omega) hd (n := m) (by omega)
    refine XTs.st (d1 := d) (tl1 := 8 * (21 - d) + 4) (XTs.of S3 a1 a2 (by show c2 + 1 + 0 ≤ _; omega)) fun h5 c5 y5 o5 S5 b5 => ?_
    rw [t_146_16 S5.1.1]
    obtain ⟨h6, a1, a2⟩ := hw_0 S5.1 (w := 44) (n := m) (by decide) (by omega) (by omega) (fun w => z w.1)
    rw [a1, cK_v, t_146_22 a2.2.1, if_pos rfl]
    refine XTs.pre S5 a2 fun S6 => ?_
    exact XTs.p145 S6 (by omega) (by omega) (Or.inr ⟨rfl, rfl⟩) (by omega) f55
end STP
