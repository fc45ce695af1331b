/-! ===== PROGRAMMES: the reference writes blocks, whole programmes ===== -/
section STM
variable {t : Tp} {M N d k n c y o sd : Nat} {r : Nat × Nat} {h : AH}
theorem ps_13 (ih : PSH t M sd N) (e : px t (N + 1) 13 0 k = some r) (S : SRt h t M k 0 c y o 0 sd) (hc : c ≤ k) (hk : k ≤ M) (hn : ndT 13 0 ≤ n) (I : IBs t 0 k 0 y o) : ∃ h', Q n 127 47 [some (.ref 189), none] [] h = Q n 127 47 [some (.ref 189), none] [] h' ∧ RTs exN (PS1 t sd N 13 0 k 0 c y o) (some (none, h')) h t M k c y o 0 sd r (tlT 13 0) := by
  have hn0 : 24 + 10 * (20 - 0) ≤ n := hn
  have e : (if lk t k = 0 then some (0, k) else sq (px t N 1 0 k) fun k => px t N 13 0 k) = some r := e
  by_cases q : lk t k = 0
  · rw [if_pos q] at e
    cases e
    exact ⟨h, rfl, RTs.nul S (Nat.le_refl _) hk ⟨Or.inl ⟨q, rfl, rfl, rfl, rfl⟩, I⟩⟩
  rw [if_neg q] at e
  obtain ⟨r1, e1, c1⟩ := sq_s e
  obtain ⟨h1, a1, p⟩ := ((ih 1 0 k r1 n h c y o e1 S (by omega) hk (by decide) (by show 24 + 10 * (20 - 0) ≤ n; omega)).1 rfl hc I).q
  obtain ⟨c', y', o', S1⟩ := p.shh
  obtain ⟨e3, e4, e5, e6⟩ := S.1.2.2.1.at rfl
  have st : Q n 127 47 [some (.ref 189), none] [] h = Q n 127 47 [some (.ref 189), none] [] h1 := by
    rw [t_127_47 S.1.1, if_pos (f_0 S rfl), e3, gd_nI (by omega) (by decide), ix_nI (by omega), e6.1, if_neg (fun z => q (lk_0.mpr (rk_1.2.2.1.mp ((nI_eq (by have := (rk_1 (x := tK t k)).2.2.2.2; omega) (by decide)).mp z)))), a1, cK_n, t_127_70 S1.1.1]
  rcases c1 with ⟨z, f⟩ | ⟨z, f⟩
  · obtain ⟨a2, L1, Y1, O1, b1, b2, b3, b4, b5, b6, S2⟩ := p.all z
    obtain ⟨h', y1, y2⟩ := (ih 13 0 r1.2 r n h1 _ _ _ f S2 (by omega) b3 (by decide) (by show 24 + 10 * (20 - 0) ≤ n; omega)).2.2.2.2 rfl rfl (by omega) b1.2
    refine ⟨h', st.trans y1, RTs.cat exA.none a2 b4 b5 b6 (y2.wk (fun w L2 Y2 O2 g _ q2 => ?_) (by omega) (Nat.le_refl _) (fun _ _ q => q))⟩
    refine ⟨Or.inr ⟨q, r1.2, L1, Y1, O1, L2, Y2, O2, b1.1, q2.1, rfl, rfl, rfl⟩, ?_⟩
    rw [List.length_append, List.length_append, ← Nat.add_assoc, ← Nat.add_assoc]; exact q2.2
  · subst f
    exact ⟨h1, st, p.wk (fun w => absurd w z) (Nat.le_refl _) (Nat.le_refl _) (fun _ _ q => q)⟩
theorem ps_2 (ih : PSH t M sd N) (h4 : M ≤ 4000) (e : px t (N + 1) 2 d k = some r) (S : SRt h t M k 0 c y o d sd) (hc : c ≤ k + 1) (hk : k ≤ M) (hd : d ≤ 20) (hn : ndT 2 d ≤ n) (I : IBs t 2 k d y o) : RTs exN (PS1 t sd N 2 d k 0 c y o) (E n 144 [.ref 189] h) h t M (k + 2) c y o d sd r (tlT 2 d) := by
  have hn0 : 20 + 10 * (20 - d) ≤ n := hn
  have tl0 : tlT 2 d = 10 * (21 - d) := rfl
  obtain ⟨m, rfl⟩ : ∃ m, n = m + 1 := ⟨n - 1, by omega⟩
  have e : (if ¬ lk t k = 123 then some (fX t 1 k, 0) else if 20 ≤ d then some (fX t 5 k, 0) else sq (px t N 0 (d + 1) (k + 1)) fun k => some (0, k + 1)) = some r := e
  have bad : ∀ (b x : Nat), b ≤ 1 → x ≠ 0 → r = (fX t x k, 0) → (if 0 = 0 then (if b = 0 then fX t 1 k else if d = 20 then fX t 5 k else 0) else 0) = fX t x k → RTs exN (PS1 t sd N 2 d k 0 c y o) (cK (E m 137 [.ref 189, .int (nI b)] h) (Q m 144 10 [some (.ref 189)]) []) h t M (k + 2) c y o d sd r (tlT 2 d) := fun b x hb hx hr hf => by
    have fx := fX_0 (t := t) (k := k) hx
    obtain ⟨h1, a1, a2⟩ := r_137 S.1 hd (n := m) (by omega) hb
    rw [hf] at a2
    have S1 : SRs h1 t M k (fX t x k) c (d + 1) (4400 * (1 - sd)) := a2.2
    obtain ⟨h2, b1, b2⟩ := d_61 S1 fx (x := 123) (by decide) (by decide) (n := m) (by omega)
    have S2 : SRs h2 t M k (fX t x k) c (d + 1) (4400 * (1 - sd)) := b2.2
    obtain ⟨h3, d1, d2⟩ := d_61 S2 fx (x := 125) (by decide) (by decide) (n := m) (by omega)
    have S3 : SRs h3 t M k (fX t x k) c (d + 1) (4400 * (1 - sd)) := d2.2
    obtain ⟨h5, e5, f5⟩ := q_dn S3
    rw [a1, cK_n, t_144_10 S1.1, b1, cK_n, t_144_16 S2.1, if_neg (f_n0 S2 fx), d1, cK_n, t_144_45 S3.1, ← e5, hr]
    have al : RSp h h5 t M c d (4400 * (1 - sd)) [] k (fX t x k) := a2.nl (b2.nl (d2.nl f5 (by omega)) (by omega)) (by omega)
    have S5 : SRt h5 t M k (fX t x k) c y o d sd := S.kp al.1.1 kp3 al.2
    exact ⟨h5, rfl, (PW.fg S al.1).wk fun x i q => Or.inl q, fun z => absurd z fx, fun _ => ⟨c, y, o, Nat.le_refl _, Nat.le_refl _, Nat.le_refl _, by omega, S5.any fx 0⟩⟩
  rw [t_144 S.1.1]
  by_cases q : lk t k = 123
  · rw [if_neg (fun z => z q)] at e
    rw [g_1 S.1 (by decide) (by decide) (by omega) q, cK_v, t_144_7 S.1.1, ck_ok S.1.1.c189]
    by_cases q20 : 20 ≤ d
    · rw [if_pos q20] at e
      exact bad 1 5 (by decide) (by decide) (Option.some.inj e).symm (by rw [if_pos rfl, if_neg (by decide), if_pos (by omega)])
    rw [if_neg q20] at e
    have lm := S.1.me.lk (k := k) (by omega)
    obtain ⟨h1, a1, a2⟩ := r_137 S.1 hd (n := m) (by omega) (b := 1) (by decide)
    rw [if_pos rfl, if_neg (by decide), if_neg (by omega)] at a2
    have S1 : SRs h1 t M k 0 c (d + 1) (4400 * (1 - sd)) := a2.2
    obtain ⟨h2, b1, b2, b3⟩ := r_sig S1 (x := 123) (by decide) (by decide) (n := m) (by omega)
    rw [if_pos rfl, if_pos q] at b3
    rw [a1, cK_n, t_144_10 S1.1, b1, cK_n]
    refine RTs.pre S (a2.nl (RSp.mk b2 (by decide) b3) (by omega)) fun S2 => ?_
    obtain ⟨r1, e1, c1⟩ := sq_s e
    have I1 : IBs t 0 (k + 1) (d + 1) y o := by
      have := tkP_1 (t := t) (k := k) (by omega)
      unfold IBs at I ⊢; omega
    obtain ⟨h3, y1, p⟩ := (ih 0 (d + 1) (k + 1) r1 m h2 c y o e1 S2 (by omega) lm (by omega) (by show 24 + 10 * (20 - (d + 1)) ≤ m; omega)).2.2.1 rfl (by omega) I1
    rw [y1]
    rcases c1 with ⟨z, f⟩ | ⟨z, f⟩
    · obtain ⟨g2, L1, Y1, O1, x1, x2, x3, x4, x5, x6, S3⟩ := p.all z
      have q2 := (px_b N 0 (d + 1)).2 rfl _ _ e1 z
      cases f
      have lm2 := S3.1.me.lk (k := r1.2) (by omega)
      obtain ⟨h5, d1, d2, d3⟩ := r_sig S3.1 (x := 125) (by decide) (by decide) (n := m) (by omega)
      rw [if_pos rfl, if_pos q2] at d3
      obtain ⟨h6, e6, f6⟩ := q_dn d3
      rw [d1, cK_n, t_144_45 d3.1, ← e6]
      refine RTs.cat exA.none g2 x4 x5 x6 (RTs.pre S3 ((RSp.mk d2 (by decide) d3).nl f6 (by omega)) fun S6 => ?_)
      refine ⟨h6, rfl, FRg.rf, fun _ => ⟨[], [], [], ⟨⟨q, r1.2, by rw [List.append_nil, List.append_nil, List.append_nil]; exact x1.1, rfl⟩, ?_⟩, by show k + 2 + L1.length + 0 ≤ r1.2 + 1; omega, lm2, AT.nil, T3.nil, T3.nil, S6⟩, fun z => absurd rfl z⟩
      have i1 := x1.2
      have i2 := tkP_1 (t := t) (k := r1.2) (by omega)
      show IBs t 0 (r1.2 + 1) d (y + (Y1 ++ []).length) (o + (O1 ++ []).length)
      rw [List.append_nil, List.append_nil]
      unfold IBs at i1 ⊢; omega
    · subst f
      obtain ⟨g, z1, z2, z3, z4⟩ := id p
      have eg : h3 = g := by injection z1 with e; exact congrArg Prod.snd e
      subst eg
      obtain ⟨c', y', o', w1, w2, w3, w4, S3⟩ := z4 z
      have tl1 : tlT 0 (d + 1) = 10 * (21 - (d + 1)) + 8 := rfl
      obtain ⟨h5, d1, d2⟩ := d_61 S3.1 z (x := 125) (by decide) (by decide) (n := m) (by omega)
      have S5 : SRs h5 t M r.2 r.1 c' (d + 1) (4400 * (1 - sd)) := d2.2
      obtain ⟨h6, e6, f6⟩ := q_dn S5
      rw [d1, cK_n, t_144_45 S5.1, ← e6]
      have al : RSp h3 h6 t M c' d (4400 * (1 - sd)) [] r.2 r.1 := d2.nl f6 (by omega)
      exact ⟨h6, rfl, z2.trans ((PW.fg S3 al.1).wk fun x i q => Or.inl (q.up w1 w2 w3)), fun w => absurd w z, fun _ => ⟨c', y', o', w1, w2, w3, by omega, S3.kp al.1.1 kp3 al.2⟩⟩
  · rw [if_pos q] at e
    rw [g_0 S.1 (by decide) (by decide) (by omega) (fun z => q z.2), cK_v, t_144_7 S.1.1, ck_ok S.1.1.c189]
    exact bad 0 1 (by decide) (by decide) (Option.some.inj e).symm (by rw [if_pos rfl, if_pos rfl])
end STM
