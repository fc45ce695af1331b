/-! ===== PROGRAMMES: the reference writes one statement ===== -/
section STN
variable {t : Tp} {M N B d k n m c y o sd : Nat} {r : Nat × Nat} {h : AH}
theorem RTs.fin {ex : Nat → Nat → Prop} {P : Nat → Cds → C3 → C3 → AH → Prop} {o1 : Option Ot} {K : Vs → AH → Option Ot} {be tl : Nat} (p : RTs ex P o1 h t M be c y o d sd r tl) (hK : ∀ h', Sh h' → K [] h' = some (none, h')) : RTs ex P (cK o1 K []) h t M be c y o d sd r tl := by
  obtain ⟨h1, a1, p⟩ := p.q
  obtain ⟨c', y', o', S⟩ := p.shh
  rw [a1, cK_n, hK h1 S.1.1]; exact p
theorem o_tk' {x tl : Nat} (S : SRs h t M k 0 c d B) (hc : c ≤ M + tl) (hk : k ≤ M) (h6 : 6 ≤ x) (h2 : x < 128) (hn : 2 ≤ n) (e : tk1 t x k = some r) : RPo (fun k' L => lk t k = x ∧ k' = k + 1 ∧ L = []) (E n 61 [.ref 189, .int (nI x)] h) h t M k c d B r tl := by
  obtain ⟨h1, a1, a2, a3⟩ := r_sig S h6 h2 hn
  rw [if_pos rfl] at a3
  unfold tk1 at e
  by_cases q : lk t k = x
  · rw [if_pos q] at e a3
    cases e
    have := S.me.lk (k := k) (by omega)
    exact ⟨h1, [], a1, RSp.mk a2 (by decide) a3, fun _ => ⟨⟨q, rfl, rfl⟩, Nat.le_succ _, this⟩, fun z => absurd rfl z⟩
  · rw [if_neg q] at e a3
    cases e
    exact ⟨h1, [], a1, RSp.mk a2 (by decide) (a3.any (fX_0 (by decide)) 0), fun z => absurd z (fX_0 (by decide)), fun _ => by show c + 0 ≤ _; omega⟩
/-- ; at the end of a statement -/
theorem sm_l {P : Nat → Cds → Prop} {be tl : Nat} (h4 : M ≤ 4000) (S : SRs h t M k 0 c d B) (hc : c ≤ M + tl) (hk : k ≤ M) (hn : 2 ≤ m) (e : tk1 t 59 k = some r) (hb : be ≤ k + 1) (hP : lk t k = 59 → P (k + 1) []) : RPo P (Q m 128 139 [some (.ref 189), none, none, none] [] h) h t M be c d B r tl := by
  rw [t_128_139 S.1]
  refine RPo.fin ?_ (fun h' hs' => t_128_145 hs' _ _ _ _)
  obtain ⟨h', L, a1, a2, a3, a4⟩ := o_tk' (tl := tl) S hc hk (by decide) (by decide) hn e
  refine ⟨h', L, a1, a2, fun z => ?_, a4⟩
  obtain ⟨⟨p1, p2, p3⟩, b2, b3⟩ := a3 z
  rw [p2] at b3 ⊢
  rw [p3]
  exact ⟨hP p1, hb, b3⟩
theorem sm_d {T tl f : Nat} (h4 : M ≤ 4000) (S : SRs h t M k f c d B) (hf : f ≠ 0) (hn : 2 ≤ m) (hc : c ≤ M + T) (hT : T ≤ tl) (ht : T ≤ 400) : ∃ h2 L2, Q m 128 139 [some (.ref 189), none, none, none] [] h = some (none, h2) ∧ RSp h h2 t M c d B L2 k f ∧ c + L2.length ≤ M + tl := by
  rw [t_128_139 S.1]
  obtain ⟨h1, a1, a2⟩ := d_61 S hf (x := 59) (by decide) (by decide) (n := m) hn
  have S1 : SRs h1 t M k f c d B := a2.2
  exact x_st (T := T) h4 a1 a2 (by show c + 0 ≤ _; omega) ht (x_id (T := T) S1 (t_128_145 S1.1 _ _ _ _) hc hT)
theorem as_4 (ih : PRH t M B N) (h4 : M ≤ 4000) (e : (sq (tk1 t 61 (k + 1)) fun k => sq (px t N 3 d k) fun k => tk1 t 59 k) = some r) (S : SRs h t M (k + 1) 0 (c + 1) d B) (hc : c ≤ k) (hk : k + 1 ≤ M) (hd : d ≤ 20) (hm : 20 + 7 * (20 - d) ≤ m) (x : Int32) (u1 u3 : Option Value) : RPo (fun k' L => ∃ k1 L1, lk t (k + 1) = 61 ∧ CE t N 3 d (k + 2) k1 L1 ∧ lk t k1 = 59 ∧ k' = k1 + 1 ∧ L = L1 ++ [(nI 3, x)]) (cK (E m 61 [.ref 189, .int (nI 61)] h) (Q m 128 59 [some (.ref 189), u1, some (.int x), u3]) []) h t M (k + 1) (c + 1) d B r (tlS d) := by
  have tls : tlS d = 10 * (21 - d) + 8 := rfl
  have tl3 : tlR 3 d = 8 * (21 - d) + 3 := rfl
  obtain ⟨r1, e1, c1⟩ := sq_s e
  refine RPo.st h4 (by omega) (o_tk (tl := 0) S (by omega) hk (by decide) (by decide) (by omega) e1) c1 (by decide) (fun z f le h1 L1 p1 b1 S1 => ?_) (fun z h1 c2 S1 b => ?_)
  · obtain ⟨q, p2, p3⟩ := p1
    subst p3
    rw [p2] at f S1 le
    rw [show c + 1 + ([] : Cds).length = c + 1 from rfl] at S1 ⊢
    rw [t_128_59 S1.1]
    obtain ⟨r2, e2, c2⟩ := sq_s f
    refine RPo.st h4 (by omega) ((ih 3 d (k + 1 + 1) r2 m h1 _ e2 S1 (by omega) le hd (by show 18 + 7 * (20 - d) ≤ m; omega)).1 rfl) c2 (by omega) (fun z2 f le2 h2 L2 p2 b2 S2 => ?_) (fun z2 h2 c2 S2 b2 => ?_)
    · rw [t_128_63 S2.1]
      refine RPo.em S2 (by omega) (by omega) fun h3 S3 => ?_
      rw [t_128_69 S3.1]
      exact sm_l h4 S3 (by omega) le2 (by omega) f (by show k + 1 + 0 + L2.length + 1 ≤ r2.2 + 1; omega) (fun q3 => ⟨r2.2, L2, q, p2, q3, rfl, rfl⟩)
    · rw [t_128_63 S2.1]
      obtain ⟨h3, a1, a2, a3⟩ := r_emit S2 (n := m) (by omega) (by omega) (nI 3) x
      obtain ⟨h5, L5, g1, g2, g3⟩ := sm_d (T := 8 * (21 - d) + 3 + 1) (tl := tlS d) (m := m) h4 a3 z2 (by omega) (by omega) (by omega) (by omega)
      exact ⟨h5, [(nI 3, x)] ++ L5, by rw [a1, cK_v, t_128_69 a3.1]; exact g1, RSp.tr (L1 := [(nI 3, x)]) ⟨a2, a3⟩ g2 (by show c2 + 1 ≤ _; omega), by rw [List.length_append, List.length_singleton]; omega⟩
  · rw [t_128_59 S1.1]
    obtain ⟨h2, a1, a2⟩ := d_131 S1 z (by omega) hd (n := m) (by omega)
    have S2 : SRs h2 t M r1.2 r1.1 c2 d B := a2.2
    refine x_st (T := 0) h4 a1 a2 (by show c2 + 0 ≤ _; omega) (by decide) ?_
    show ∃ g L2, _ = some (none, g) ∧ RSp h2 g t M c2 d B L2 _ _ ∧ c2 + L2.length ≤ _
    rw [t_128_63 S2.1]
    obtain ⟨h3, b1, b2, b3⟩ := r_emit S2 (n := m) (by omega) (by omega) (nI 3) x
    obtain ⟨h5, L5, g1, g2, g3⟩ := sm_d (T := 1) (tl := tlS d) (m := m) h4 b3 z (by omega) (by omega) (by omega) (by decide)
    exact ⟨h5, [(nI 3, x)] ++ L5, by rw [b1, cK_v, t_128_69 b3.1]; exact g1, RSp.tr (L1 := [(nI 3, x)]) ⟨b2, b3⟩ g2 (by show c2 + 1 ≤ _; omega), by rw [List.length_append, List.length_singleton]; omega⟩
theorem as_5 (ih : PRH t M B N) (h4 : M ≤ 4000) (e : (sq (tk1 t 61 (k + 1)) fun k => sq (px t N 9 d k) fun k => tk1 t 59 k) = some r) (S : SRs h t M (k + 1) 0 (c + 1) d B) (hc : c ≤ k) (hk : k + 1 ≤ M) (hd : d ≤ 20) (hm : 20 + 7 * (20 - d) ≤ m) (x : Int32) (u1 u2 : Option Value) : RPo (fun k' L => ∃ k1 L1, lk t (k + 1) = 61 ∧ CE t N 9 d (k + 2) k1 L1 ∧ lk t k1 = 59 ∧ k' = k1 + 1 ∧ L = L1 ++ [(nI 5, x)]) (cK (E m 61 [.ref 189, .int (nI 61)] h) (Q m 128 93 [some (.ref 189), u1, u2, some (.int x)]) []) h t M (k + 1) (c + 1) d B r (tlS d) := by
  have tls : tlS d = 10 * (21 - d) + 8 := rfl
  have tl3 : tlR 9 d = 8 * (21 - d) := rfl
  obtain ⟨r1, e1, c1⟩ := sq_s e
  refine RPo.st h4 (by omega) (o_tk (tl := 0) S (by omega) hk (by decide) (by decide) (by omega) e1) c1 (by decide) (fun z f le h1 L1 p1 b1 S1 => ?_) (fun z h1 c2 S1 b => ?_)
  · obtain ⟨q, p2, p3⟩ := p1
    subst p3
    rw [p2] at f S1 le
    rw [show c + 1 + ([] : Cds).length = c + 1 from rfl] at S1 ⊢
    rw [t_128_93 S1.1]
    obtain ⟨r2, e2, c2⟩ := sq_s f
    refine RPo.st h4 (by omega) ((ih 9 d (k + 1 + 1) r2 m h1 _ e2 S1 (by omega) le hd (by show 15 + 7 * (20 - d) ≤ m; omega)).2.2.2.2.2.2.1 rfl) c2 (by omega) (fun z2 f le2 h2 L2 p2 b2 S2 => ?_) (fun z2 h2 c2 S2 b2 => ?_)
    · rw [t_128_97 S2.1]
      refine RPo.em S2 (by omega) (by omega) fun h3 S3 => ?_
      rw [t_128_103 S3.1]
      exact sm_l h4 S3 (by omega) le2 (by omega) f (by show k + 1 + 0 + L2.length + 1 ≤ r2.2 + 1; omega) (fun q3 => ⟨r2.2, L2, q, p2, q3, rfl, rfl⟩)
    · rw [t_128_97 S2.1]
      obtain ⟨h3, a1, a2, a3⟩ := r_emit S2 (n := m) (by omega) (by omega) (nI 5) x
      obtain ⟨h5, L5, g1, g2, g3⟩ := sm_d (T := 8 * (21 - d) + 1) (tl := tlS d) (m := m) h4 a3 z2 (by omega) (by omega) (by omega) (by omega)
      exact ⟨h5, [(nI 5, x)] ++ L5, by rw [a1, cK_v, t_128_103 a3.1]; exact g1, RSp.tr (L1 := [(nI 5, x)]) ⟨a2, a3⟩ g2 (by show c2 + 1 ≤ _; omega), by rw [List.length_append, List.length_singleton]; omega⟩
  · rw [t_128_93 S1.1]
    obtain ⟨h2, a1, a2⟩ := d_142 S1 z (by omega) hd (n := m) (by omega)
    have S2 : SRs h2 t M r1.2 r1.1 c2 d B := a2.2
    refine x_st (T := 0) h4 a1 a2 (by show c2 + 0 ≤ _; omega) (by decide) ?_
    show ∃ g L2, _ = some (none, g) ∧ RSp h2 g t M c2 d B L2 _ _ ∧ c2 + L2.length ≤ _
    rw [t_128_97 S2.1]
    obtain ⟨h3, b1, b2, b3⟩ := r_emit S2 (n := m) (by omega) (by omega) (nI 5) x
    obtain ⟨h5, L5, g1, g2, g3⟩ := sm_d (T := 1) (tl := tlS d) (m := m) h4 b3 z (by omega) (by omega) (by omega) (by decide)
    exact ⟨h5, [(nI 5, x)] ++ L5, by rw [b1, cK_v, t_128_103 b3.1]; exact g1, RSp.tr (L1 := [(nI 5, x)]) ⟨b2, b3⟩ g2 (by show c2 + 1 ≤ _; omega), by rw [List.length_append, List.length_singleton]; omega⟩
theorem ws_l (ih : PRH t M B N) (h4 : M ≤ 4000) (e : (sq (pxW t (px t N) d k) fun k => tk1 t 59 k) = some r) (S : SRs h t M k 0 (c + 1) d B) (hc : c ≤ k) (hk : k ≤ M) (hd : d ≤ 20) (hm : 22 + 7 * (20 - d) ≤ m) : RPo (fun k' L => ∃ k1, CW1 t (CE t N) d k k1 L ∧ lk t k1 = 59 ∧ k' = k1 + 1) (cK (E m 149 [.ref 189] h) (Q m 128 139 [some (.ref 189), none, none, none]) []) h t M (k + 1) (c + 1) d B r (tlS d) := by
  have tls : tlS d = 10 * (21 - d) + 8 := rfl
  obtain ⟨r1, e1, c1⟩ := sq_s e
  obtain ⟨h1, L1, a1, a2, a3, a4⟩ := r_149 ih h4 e1 S hc hk hd hm
  rw [a1, cK_n]
  rcases c1 with ⟨z, f⟩ | ⟨z, f⟩
  · obtain ⟨b1, b2, b3⟩ := a3 z
    have S1 := a2.2
    rw [z] at S1
    obtain ⟨h2, L2, g1, g2, g3, g4⟩ := sm_l (m := m) (be := k + 1 + L1.length) (tl := tlS d) (P := fun k' L => lk t r1.2 = 59 ∧ k' = r1.2 + 1 ∧ L = []) h4 S1 (by omega) b3 (by omega) f (by omega) (fun q => ⟨q, rfl, rfl⟩)
    refine ⟨h2, L1 ++ L2, g1, a2.tr g2 (by omega), fun y => ?_, fun y => ?_⟩
    · obtain ⟨⟨y1, y2, y3⟩, y4, y5⟩ := g3 y
      subst y3
      rw [List.append_nil]
      exact ⟨⟨r1.2, b1, y1, y2⟩, by have : k + 1 + L1.length + 0 ≤ r.2 := y4; omega, y5⟩
    · have := g4 y
      rw [List.length_append]; omega
  · subst f
    have b := a4 z
    obtain ⟨h2, L2, g1, g2, g3⟩ := sm_d (T := tlS d) (tl := tlS d) (m := m) h4 a2.2 z (by omega) b (Nat.le_refl _) (by omega)
    exact ⟨h2, L1 ++ L2, g1, a2.tr g2 (by omega), fun y => absurd y z, fun _ => by rw [List.length_append]; omega⟩
end STN
