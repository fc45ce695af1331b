/-! ===== PROGRAMMES: the reference writes try ===== -/
section STS
variable {t : Tp} {M N d k n m f c y o sd T : Nat} {r : Nat × Nat} {h : AH}
/-- a row of the second table whose values may change -/
theorem RTs.yo {P : Nat → Cds → C3 → C3 → AH → Prop} {q : Option Ot} {be tl : Nat} (hy : y < 820) (p : RTs (fun x i => (276 ≤ x ∧ x ≤ 278) ∧ i = 820 * (1 - sd) + y) (fun k' L Y O h' => P k' L ([(gA h' 276 (820 * (1 - sd) + y), gA h' 277 (820 * (1 - sd) + y), gA h' 278 (820 * (1 - sd) + y))] ++ Y) O h') q h t M be c (y + 1) o d sd r tl) : RTs exN P q h t M be c y o d sd r tl := by
  obtain ⟨h2, g1, g2, g3, g4⟩ := p
  refine ⟨h2, g1, g2.wk fun x i q => ?_, fun w => ?_, fun w => ?_⟩
  · rcases q with q | ⟨⟨q1, q1'⟩, q2⟩
    · exact Or.inl (q.up (Nat.le_refl _) (Nat.le_succ _) (Nat.le_refl _))
    · exact Or.inl (Or.inr (Or.inl ⟨q1, q1', by omega, by omega⟩))
  · obtain ⟨L, Y, O, x1, x2, x3, x4, x5, x6, x7⟩ := g3 w
    exact ⟨L, _, O, x1, x2, x3, x4, T3_app.mpr ⟨T3_one.mpr ⟨rfl, rfl, rfl⟩, by rw [List.length_singleton, Nat.add_assoc]; exact x5⟩, x6, by rw [List.length_append, List.length_singleton, ← Nat.add_assoc]; exact x7⟩
  · obtain ⟨c', y', o', x1, x2, x3, x4, x5⟩ := g4 w
    exact ⟨c', y', o', x1, by omega, x3, x4, x5⟩
theorem SRt.sT {x i : Nat} {v : Int32} (S : SRt h t M k f c y o d sd) (hx : 276 ≤ x ∧ x ≤ 281) : SRt (sA h x i v) t M k f c y o d sd := by
  have fr : Fr [] [x] h (sA h x i v) := Fr.rfl.sA (List.mem_singleton.mpr rfl)
  have nx : ∀ a, a < 200 → a ∉ [x] := fun a ha q => by
    rw [List.mem_singleton] at q; omega
  obtain ⟨⟨s1, s2, s3, s4, s5, s6, s7⟩, y1, y2, y3, y4⟩ := id S
  exact ⟨⟨s1.sA, s2.fr fr (nx 190 (by decide)), s3.fr fr (by decide) (by decide) (nx 194 (by decide)) (nx 195 (by decide)) (nx 196 (by decide)), s4, s5, s6, s7⟩, y1, y2, y3, y4⟩
theorem xmem {x : Nat} (hx : 276 ≤ x ∧ x ≤ 281) : x ∈ XPt := by
  simp only [List.mem_cons, List.not_mem_nil, or_false]; omega
/-- the end of a try: whether there is finally -/
theorem ps_f (ih : PSH t M sd N) (h4 : M ≤ 4000) (e : (if lk t k = 142 then px t N 2 d (k + 1) else some (0, k)) = some r) (S : SRt h t M k 0 c y o d sd) (hc : c ≤ k) (hk : k ≤ M) (hd : d ≤ 20) (hn : 20 + 10 * (20 - d) ≤ n) (I : IBs t 0 k d y o) (hT : T < 820 * (1 - sd) + y) (hT2 : T < 1640) {x' : Int32} : RTs (fun x i => (276 ≤ x ∧ x ≤ 278) ∧ i = T) (fun k' L Y O h' => (lk t k ≠ 142 ∧ k' = k ∧ L = [] ∧ Y = [] ∧ O = [] ∧ gA h' 277 T = -1 ∧ gA h' 278 T = nI c ∨ lk t k = 142 ∧ ∃ L3, CSx t sd N 2 d (k + 1) k' 0 c y o L3 Y O 0 ∧ L = L3 ++ [(nI 43, nI T)] ∧ gA h' 277 T = nI c ∧ gA h' 278 T = nI (c + L3.length + 1)) ∧ gA h' 276 T = gA h 276 T ∧ IBs t 0 k' d (y + Y.length) (o + O.length)) (Q n 147 69 [some (.ref 189), some (.int (nI T)), none, some (.int x')] [.int (nI 0)] h) h t M k c y o d sd r (tlT 1 d) := by
  have tl1 : tlT 1 d = 10 * (21 - d) + 8 := rfl
  have tl2 : tlT 2 d = 10 * (21 - d) := rfl
  have t4 := S.1.2.2.1.1.2.1
  obtain ⟨iy, io⟩ := I.r t4 hd (by decide)
  have gT : ∀ z, gd (nI T) 1640 z = z := fun z => gd_nI hT2 (by decide)
  rw [t_147_69 S.1.1, if_pos rfl, gT, ix_nI (by omega)]
  have S1 : SRt (sA h 277 T (-1)) t M k 0 c y o d sd := S.sT (by decide)
  have f1 : FRg (fun x i => mTs sd c y o x i ∨ (276 ≤ x ∧ x ≤ 278) ∧ i = T) h (sA h 277 T (-1)) := FRg.sA (by decide) (Or.inr ⟨by decide, rfl⟩)
  obtain ⟨hA, hAE⟩ : ∃ g, g = sA h 277 T (-1) := ⟨_, rfl⟩
  rw [← hAE] at S1 f1 ⊢
  have v77 : gA hA 277 T = -1 := by rw [hAE, gA_s, up1_s]
  have v76 : gA hA 276 T = gA h 276 T := by rw [hAE, gA_k (by decide)]
  by_cases q : lk t k = 142
  · rw [if_pos q] at e
    have lm := S.1.me.lk (k := k) (by omega)
    obtain ⟨h2, a1, a2⟩ := hw_1 S1.1 (w := 48) (n := n) (by decide) (by omega) (by omega) (by rw [q]; decide)
    have S2 : SRt h2 t M (k + 1) 0 c y o d sd := S1.kp a2.1.1 kp3 a2.2
    rw [a1, cK_v, t_147_95 S2.1.1, if_neg (by decide), gT, ix_nI (by omega), S2.1.2.2.2.1]
    obtain ⟨hB, hBE⟩ : ∃ g, g = sA h2 277 T (nI c) := ⟨_, rfl⟩
    have S3 : SRt hB t M (k + 1) 0 c y o d sd := by rw [hBE]; exact S2.sT (by decide)
    have f3 : FRg (fun x i => mTs sd c y o x i ∨ (276 ≤ x ∧ x ≤ 278) ∧ i = T) h2 hB := by rw [hBE]; exact FRg.sA (by decide) (Or.inr ⟨by decide, rfl⟩)
    have w77 : gA hB 277 T = nI c := by rw [hBE, gA_s, up1_s]
    have w76 : gA hB 276 T = gA h 276 T := by rw [hBE, gA_k (by decide), a2.1.1.A (by decide), v76]
    rw [← hBE]
    refine RTs.fr f1 (RTs.pre S1 a2 fun _ => RTs.fr f3 ?_)
    have I2 : IBs t 2 (k + 1) d y o := by
      have := tkP_m (t := t) (show k ≤ k + 1 by omega)
      unfold IBs at I ⊢; omega
    have exT : ∀ c', exA (fun x i => (276 ≤ x ∧ x ≤ 278) ∧ i = T) sd c' y o := fun c' x i w => ⟨fun z => by omega, fun _ _ => by omega, fun z => by omega⟩
    refine RTs.st (F := True) (exT c) (by omega) (((ih 2 d (k + 1) r n hB _ _ _ e S3 (by omega) lm hd hn).2.1 rfl I2).wk (P' := fun k' L Y O h' => PSr t sd N 2 d (k + 1) 0 c y o k' L Y O h' ∧ gA h' 277 T = nI c ∧ gA h' 276 T = gA h 276 T) (fun _ L Y O g fg p => ⟨p, ?_, ?_⟩) (Nat.le_refl _) (Nat.le_refl _) (fun _ _ w => w.elim)) (rr r) (fun z _ le h5 L3 Y3 O3 p3 fr b3 S5 => ?_) (fun z h5 c5 y5 o5 S5 b5 => ?_)
    · rw [fg.2 277 (by decide) (by decide) _ (fun w => ?_)]
      · exact w77
      · rcases w with w | w
        · unfold mTs at w; omega
        · exact w
    · rw [fg.2 276 (by decide) (by decide) _ (fun w => ?_)]
      · exact w76
      · rcases w with w | w
        · unfold mTs at w; omega
        · exact w
    · obtain ⟨⟨p3, i3⟩, p77, p76⟩ := p3
      rw [t_147_112 S5.1.1]
      obtain ⟨he, v1, v2, v3⟩ := r_emit S5.1 (n := n) (by omega) (by omega) (nI 43) (nI T)
      have S6 : SRt he t M r.2 0 (c + L3.length + 1) (y + Y3.length) (o + O3.length) d sd := S5.kp v2.1 kp3 v3
      rw [v1, cK_v, t_147_119 S6.1.1, gT, ix_nI (by omega), S6.1.2.2.2.1]
      refine RTs.cat (L1 := [(nI 43, nI T)]) (Y1 := []) (O1 := []) ((exT c).up (by omega) (by omega) (by omega)) ((PW.fg S5 v2).wk fun x i w => Or.inl w) v2.2.2 T3.nil T3.nil ?_
      refine ⟨_, rfl, FRg.sA (by decide) (Or.inr ⟨by decide, rfl⟩), fun _ => ⟨[], [], [], ⟨Or.inr ⟨q, L3, ?_, ?_, ?_, ?_⟩, ?_, ?_⟩, ?_, le, AT.nil, T3.nil, T3.nil, S6.sT (by decide)⟩, fun w => absurd z w⟩
      · show CSx t sd N 2 d (k + 1) r.2 0 c y o L3 (Y3 ++ []) (O3 ++ []) 0
        rw [List.append_nil, List.append_nil]; exact p3
      · show L3 ++ ([(nI 43, nI T)] ++ []) = _; rw [List.append_nil]
      · rw [gA_k (by decide), v2.1.A (by decide)]; exact p77
      · rw [gA_s, up1_s]
      · rw [gA_k (by decide), v2.1.A (by decide)]; exact p76
      · show IBs t 0 r.2 d (y + (Y3 ++ []).length) (o + (O3 ++ []).length)
        rw [List.append_nil, List.append_nil]; exact i3
      · show k + L3.length + 1 + 0 ≤ r.2; omega
    · rw [t_147_112 S5.1.1]
      refine XTs.em' (T := 10 * (21 - d)) S5 (by omega) (by omega) (by omega) fun h6 S6 => ?_
      rw [t_147_119 S6.1.1, gT, ix_nI (by omega)]
      exact ⟨_, _, _, _, rfl, FRg.sA (by decide) (Or.inr ⟨by decide, rfl⟩), Nat.le_refl _, Nat.le_refl _, Nat.le_refl _, by omega, S6.sT (by decide)⟩
  · rw [if_neg q] at e
    cases e
    obtain ⟨h2, a1, a2⟩ := hw_0 S1.1 (w := 48) (n := n) (by decide) (by omega) (by omega) (fun z => q (by rw [z.2]; decide))
    have S2 : SRt h2 t M k 0 c y o d sd := S1.kp a2.1.1 kp3 a2.2
    rw [a1, cK_v, t_147_95 S2.1.1, if_pos rfl, gT, ix_nI (by omega), S2.1.2.2.2.1]
    refine RTs.fr f1 (RTs.pre S1 a2 fun _ => ⟨_, rfl, FRg.sA (by decide) (Or.inr ⟨by decide, rfl⟩), fun _ => ⟨[], [], [], ⟨Or.inl ⟨q, rfl, rfl, rfl, rfl, ?_, ?_⟩, ?_, I⟩, Nat.le_refl _, hk, AT.nil, T3.nil, T3.nil, S2.sT (by decide)⟩, fun w => absurd rfl w⟩)
    · rw [gA_k (by decide), a2.1.1.A (by decide)]; exact v77
    · rw [gA_s, up1_s]
    · rw [gA_k (by decide), a2.1.1.A (by decide)]; exact v76
end STS
