/-! ===== PROGRAMMES: the reference writes statements, for every fuel ===== -/
section STU
variable {t : Tp} {M N d k n m f c y o sd T : Nat} {r : Nat × Nat} {h : AH}
theorem RPo.ri {P : Nat → Cds → Prop} {q : Option Ot} {be d' tl : Nat} (S : SRt h t M k f c y o d sd) {k0 : Nat} (hb : k0 ≤ be) (I : IBs t 0 k0 d' y o) (a : RPo P q h t M be c d' (4400 * (1 - sd)) r tl) : RTs exN (fun k' L Y O _ => (P k' L ∧ Y = [] ∧ O = []) ∧ IBs t 0 k' d' (y + Y.length) (o + O.length)) q h t M be c y o d' sd r tl := by
  obtain ⟨h', a1, a2, a3, a4⟩ := RPo.rt S a
  refine ⟨h', a1, a2, fun z => ?_, a4⟩
  obtain ⟨L, Y, O, ⟨p1, p2, p3⟩, b2, b3⟩ := a3 z
  refine ⟨L, Y, O, ⟨⟨p1, p2, p3⟩, ?_⟩, b2, b3⟩
  subst p2; subst p3
  have := tkP_m (t := t) (show k0 ≤ r.2 by omega)
  show IBs t 0 r.2 d' (y + 0) (o + 0)
  unfold IBs at I ⊢; omega
theorem ps_1 (ihe : PRH t M (4400 * (1 - sd)) N) (ih : PSH t M sd N) (h4 : M ≤ 4000) (e : px t (N + 1) 1 d k = some r) (S : SRt h t M k 0 c y o d sd) (hc : c ≤ k) (hk : k ≤ M) (hd : d ≤ 20) (hn : ndT 1 d ≤ n) (I : IBs t 0 k d y o) : RTs exN (PS1 t sd N 1 d k 0 c y o) (E n 128 [.ref 189] h) h t M k c y o d sd r (tlT 1 d) := by
  have hn0 : 24 + 10 * (20 - d) ≤ n := hn
  obtain ⟨m, rfl⟩ : ∃ m, n = m + 1 := ⟨n - 1, by omega⟩
  have e : pxS t (px t N) d k = some r := e
  rw [t_128 S.1.1, r_W S.1 (j := 11) (w := 45) (by decide) (by decide) (by omega), cK_v, t_128_6 S.1.1]
  by_cases q9 : lk t k = 139
  · rw [b1 (show 0 = 0 ∧ lk t k = 128 + 11 from ⟨rfl, q9⟩), if_neg (by decide)]
    unfold pxS at e
    rw [if_neg (by omega), if_neg (by omega), if_neg (by omega), if_neg (by omega), if_neg (by omega), if_neg (by omega), if_neg (by omega), if_neg (by omega), if_neg (by omega), if_neg (by omega), if_neg (by omega), if_neg (by omega), if_pos q9] at e
    exact RTs.fin (ps_w ihe ih h4 q9 e S hc hk hd (by omega) I) (fun h' hs' => t_128_13 hs' _ _ _ _)
  rw [b0 (show ¬ (0 = 0 ∧ lk t k = 128 + 11) from fun z => q9 z.2), if_pos (rfl : nI 0 = nI 0)]
  refine RTs.em S exA.none (by omega) (by omega) fun h1 S1 => ?_
  rw [t_128_21 S1.1.1, r_R S1.1 (Or.inl ⟨rfl, rfl, rfl⟩) (by omega), cK_v, t_128_30 S1.1.1, r_R S1.1 (Or.inr ⟨rfl, rfl, rfl⟩) (by omega), cK_v, t_128_38 S1.1.1]
  by_cases q4 : lk t k = 4
  · have lb : lkV t k < 100 := by
      obtain ⟨g1, g2⟩ := lk_rg (t := t) (k := k) (v := 4) (a := 18) (m := 9) (Or.inl ⟨rfl, rfl, rfl⟩)
      have := g1.mp q4
      rw [g2 q4]; omega
    obtain ⟨u1, u2, u3⟩ := r_up S1.1 (by omega)
    unfold pxS at e
    rw [if_pos q4] at e
    rw [if_pos (show 0 = 0 ∧ lk t k = 4 from ⟨rfl, q4⟩), if_neg (nI_nlt (Nat.zero_le _) (by omega)), u1, nI_add]
    refine (RPo.ri (k0 := k) S1 (by omega) I (RPo.pre ⟨u2, u3⟩ (by omega) (as_4 ihe h4 e u3 hc (S.1.me.lk (by omega)) hd (by omega) _ _ _))).wk (fun w L Y O g _ p => ?_) (Nat.le_refl _) (Nat.le_refl _) (fun _ _ w => w)
    obtain ⟨⟨⟨k1, L1, p1, p2, p3, p4, p5⟩, p6, p7⟩, p8⟩ := p
    exact ⟨Or.inl ⟨q4, k1, L1, p1, p2, p3, p4, by rw [p5], p6, p7⟩, p8⟩
  rw [if_neg (show ¬ (0 = 0 ∧ lk t k = 4) from fun z => q4 z.2), if_pos (by decide)]
  by_cases q5 : lk t k = 5
  · have lb : lkV t k < 100 := by
      obtain ⟨g1, g2⟩ := lk_rg (t := t) (k := k) (v := 5) (a := 24) (m := 3) (Or.inr ⟨rfl, rfl, rfl⟩)
      have := g1.mp q5
      rw [g2 q5]; omega
    obtain ⟨u1, u2, u3⟩ := r_up S1.1 (by omega)
    unfold pxS at e
    rw [if_neg q4, if_pos q5] at e
    rw [if_pos (show 0 = 0 ∧ lk t k = 5 from ⟨rfl, q5⟩), if_neg (nI_nlt (Nat.zero_le _) (by omega)), u1, nI_add]
    refine (RPo.ri (k0 := k) S1 (by omega) I (RPo.pre ⟨u2, u3⟩ (by omega) (as_5 ihe h4 e u3 hc (S.1.me.lk (by omega)) hd (by omega) _ _ _))).wk (fun w L Y O g _ p => ?_) (Nat.le_refl _) (Nat.le_refl _) (fun _ _ w => w)
    obtain ⟨⟨⟨k1, L1, p1, p2, p3, p4, p5⟩, p6, p7⟩, p8⟩ := p
    exact ⟨Or.inr (Or.inl ⟨q5, k1, L1, p1, p2, p3, p4, by rw [p5], p6, p7⟩), p8⟩
  rw [if_neg (show ¬ (0 = 0 ∧ lk t k = 5) from fun z => q5 z.2), if_pos (by decide)]
  by_cases q7 : lk t k = 137
  · have lm := S.1.me.lk (k := k) (by omega)
    obtain ⟨h2, a1, a2⟩ := hw_1 S1.1 (w := 43) (n := m) (by decide) (by omega) (by omega) (by rw [q7]; decide)
    unfold pxS at e
    rw [if_neg (by omega), if_neg (by omega), if_neg (by omega), if_neg (by omega), if_neg (by omega), if_neg (by omega), if_neg (by omega), if_neg (by omega), if_neg (by omega), if_neg (by omega), if_neg (by omega), if_pos q7] at e
    rw [a1, cK_v, t_128_113 a2.2.1, if_neg (by decide)]
    exact RTs.pre S1 a2 fun S2 => RTs.fin (ps_i ihe ih h4 q7 e S2 hc lm hd (by omega) I) (fun h' hs' => t_128_120 hs' _ _ _ _)
  obtain ⟨h2, a1, a2⟩ := hw_0 S1.1 (w := 43) (n := m) (by decide) (by omega) (by omega) (fun z => q7 (by rw [z.2]; decide))
  rw [a1, cK_v, t_128_113 a2.2.1, if_pos rfl]
  refine RTs.pre S1 a2 fun S2 => ?_
  by_cases q0 : lk t k = 140
  · have lm := S.1.me.lk (k := k) (by omega)
    obtain ⟨h3, a1, a2⟩ := hw_1 S2.1 (w := 46) (n := m) (by decide) (by omega) (by omega) (by rw [q0]; decide)
    unfold pxS at e
    rw [if_neg (by omega), if_neg (by omega), if_neg (by omega), if_neg (by omega), if_neg (by omega), if_neg (by omega), if_neg (by omega), if_neg (by omega), if_neg (by omega), if_neg (by omega), if_neg (by omega), if_neg (by omega), if_neg (by omega), if_pos q0] at e
    rw [a1, cK_v, t_128_127 a2.2.1, if_neg (by decide)]
    exact RTs.pre S2 a2 fun S3 => RTs.fin (ps_t ih h4 q0 e S3 hc lm hd (by omega) I) (fun h' hs' => t_128_134 hs' _ _ _ _)
  obtain ⟨h3, a1, a2⟩ := hw_0 S2.1 (w := 46) (n := m) (by decide) (by omega) (by omega) (fun z => q0 (by rw [z.2]; decide))
  rw [a1, cK_v, t_128_127 a2.2.1, if_pos rfl]
  refine RTs.pre S2 a2 fun S3 => ?_
  rw [pxW_e q4 q5 q7 q9 q0] at e
  refine (RPo.ri (k0 := k) S3 (by omega) I (ws_l ihe h4 e S3.1 hc hk hd (by omega))).wk (fun w L Y O g _ p => ?_) (Nat.le_refl _) (Nat.le_refl _) (fun _ _ w => w)
  obtain ⟨⟨⟨k1, p1, p2, p3⟩, p6, p7⟩, p8⟩ := p
  exact ⟨Or.inr (Or.inr (Or.inl ⟨k1, L, p1, p2, p3, rfl, p6, p7⟩)), p8⟩
end STU
