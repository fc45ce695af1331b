/-! ===== RUN: if and while, on both sides ===== -/
section IFW
variable {c : CXm} {M N d k k' k1 k2 D T p y o n m a : Nat} {hc hr hc1 hr1 : AH} {L L1 L2 L3 : Cds} {Y O Y2 O2 Y3 O3 : C3} {fi : Int32}
/-- the place of the codes behind a jump -/
theorem Gs.pc {p' : Nat} (G : Gs c D 0 p k hc hr) (e : p = p') : Gs c D 0 p' k hc hr := e ▸ G
/-- a block is passed: the component alone moves -/
theorem pass_b (K : KXs c) {sd : Nat} (e : CSx (kT c) sd N 2 d k k' T p y o L Y O fi) {p' : Nat} (G : Gs c D 0 p' k hc hr) (hk : k < 2 ^ 31) (hn : 2 ≤ n) : ∃ hc', E n 374 [.ref 175] hc = some (none, hc') ∧ Gs c D 0 p' k' hc' hr ∧ stp1 hc hc' := by
  exact ⟨_, cm_374 G.1.ci K e hk G.2.2.1 hn, G.atC, stp1.of (K := [1545]) (X := []) (Fr.rfl.sI (by decide)) (by decide)⟩
theorem sx_if (K : KXs c) (hM : ME (kT c) M) (h4 : M ≤ 4000) (ih : STm c M N) (q : lk (kT c) k = 137) (hd : d ≤ 20) (hD : D ≤ d) (hn : 30 + 13 * (20 - d) ≤ n) (G : Gs c D 0 p k hc hr) (hp : p + L.length ≤ 4300) (A : AT (hR c) (4400 * kn c 5 + p) L) (tb : TBl c y o Y O) {c1 c2 : Nat}
    (p1 : CE (kT c) N 3 d (k + 1) k1 L1) (ec1 : c1 = p + 1 + L1.length + 1) (p2 : CSx (kT c) (1 - kn c 5) N 2 d k1 k2 0 c1 y o L2 Y2 O2 0) (ec2 : c2 = c1 + L2.length)
    (w : lk (kT c) k2 ≠ 138 ∧ k' = k2 ∧ L = [(nI 38, nI 0)] ++ (L1 ++ ([(nI 40, nI c2)] ++ L2)) ∧ Y = Y2 ∧ O = O2 ∨ lk (kT c) k2 = 138 ∧ ∃ L3 Y3 O3, CSx (kT c) (1 - kn c 5) N 2 d (k2 + 1) k' 0 (c2 + 1) (y + Y2.length) (o + O2.length) L3 Y3 O3 0 ∧ L = [(nI 38, nI 0)] ++ (L1 ++ ([(nI 40, nI (c2 + 1))] ++ (L2 ++ ([(nI 39, nI (c2 + 1 + L3.length))] ++ L3)))) ∧ Y = Y2 ++ Y3 ∧ O = O2 ++ O3) : StO c (E (n + 10) 266 [.ref 175, .int (nI d)] hc) hc hr D (p + L.length) k' := by
  have lb := lk_b (t := kT c) (k := k)
  have en : ∀ z, z < 2 ^ 31 → (nI (lk (kT c) k) = nI z) = (lk (kT c) k = z) := fun z hz => propext (nI_eq (by omega) hz)
  have kM := ltk hM q (by decide)
  have one : ∀ x, ([x] : Cds).length = 1 := fun _ => rfl
  have hk1 := ce_le hM p1 (by omega)
  have hk2 := csx_le hM p2 hk1
  obtain ⟨A0, X1, tb2⟩ : AT (hR c) (4400 * kn c 5 + p) [(nI 38, nI 0)] ∧ (AT (hR c) (4400 * kn c 5 + (p + 1)) L1 ∧ AT (hR c) (4400 * kn c 5 + (p + 1 + L1.length)) [(nI 40, nI (if lk (kT c) k2 = 138 then c2 + 1 else c2))] ∧ AT (hR c) (4400 * kn c 5 + c1) L2 ∧ c2 ≤ p + L.length) ∧ TBl c y o Y2 O2 := by
    rcases w with ⟨w1, -, w3, w4, w5⟩ | ⟨w1, L3, Y3, O3, -, w3, w4, w5⟩
    · rw [w4, w5] at tb
      have hl : L.length = 1 + (L1.length + (1 + L2.length)) := by rw [w3, List.length_append, List.length_append, List.length_append, one, one]
      rw [w3] at A
      have A1 := (AT_app.mp A).2
      have A2 := (AT_app.mp A1).2
      have A3 := (AT_app.mp A2).2
      rw [if_neg w1]
      exact ⟨(AT_app.mp A).1, ⟨(AT_app.mp A1).1.at (by rw [one]; omega), (AT_app.mp A2).1.at (by rw [one]; omega), A3.at (by rw [one, one]; omega), by omega⟩, tb⟩
    · rw [w4, w5] at tb
      have hl : L.length = 1 + (L1.length + (1 + (L2.length + (1 + L3.length)))) := by rw [w3, List.length_append, List.length_append, List.length_append, List.length_append, List.length_append, one, one, one]
      rw [w3] at A
      have A1 := (AT_app.mp A).2
      have A2 := (AT_app.mp A1).2
      have A3 := (AT_app.mp A2).2
      rw [if_pos w1]
      exact ⟨(AT_app.mp A).1, ⟨(AT_app.mp A1).1.at (by rw [one]; omega), (AT_app.mp A2).1.at (by rw [one]; omega), (AT_app.mp A3).1.at (by rw [one, one]; omega), by omega⟩, tb.l⟩
  obtain ⟨X1, X2, X3, X4⟩ := X1
  rcases pre_266 (n := n + 9) (d := d) K hM h4 G (by omega) (by omega) (by omega) A0 (by omega) with ⟨hc1, hr1, v, e0, ev, l1, g1, hf1, st1, hmk⟩ | ⟨hc1, e0, dd⟩
  case inr => exact ⟨hc1, e0, Or.inr dd⟩
  have s1 := g1.sC
  obtain ⟨a1, a2, a3⟩ := at_1 hc1
  have g2 := g1.at1
  rw [show n + 10 = n + 9 + 1 from rfl, e0, t_266_31 s1]
  simp only [en 4 (by decide), en 5 (by decide), en 128 (by decide), en 129 (by decide), en 130 (by decide), en 131 (by decide), en 132 (by decide), en 133 (by decide), en 134 (by decide), en 135 (by decide), en 136 (by decide), en 137 (by decide), en 139 (by decide)]
  rw [if_neg (by omega), if_neg (by omega), if_neg (by omega), if_neg (by omega), if_neg (by omega), if_neg (by omega), if_neg (by omega), if_neg (by omega), if_neg (by omega), if_neg (by omega), if_neg (by omega), if_pos q]
  refine StO.pre ?_ (st1.tr a2) l1 hf1
  refine StO.nx ?_ (fun h' s' => by rw [t_266_252 s', t_266_268 s'])
  have s2 := g2.sC
  obtain ⟨x, h3, c3, c4⟩ := x3 (n := n + 8) K hM h4 p1 g2 X1 (by omega) hd (by omega) (by omega) (by omega)
  rw [show n + 9 = n + 8 + 1 from rfl, t_341 s2, c3, cK_v]
  have e5 : ∀ {h : AH}, Sh h → Q (n + 8) 341 5 [some (.ref 175), some (.int (nI d)), none] [.long x] h = cK (E (n + 8) 362 [.ref 175] h) (Q (n + 8) 341 20 [some (.ref 175), some (.int (nI d)), some (.int (nI (if x = 0 then 0 else 1)))]) [] := fun {h} sh => by
    rw [t_341_5 sh]
    simp only [c_eq]
    by_cases z : x = 0
    · rw [if_pos z, if_pos z]
    · rw [if_neg z, if_neg z]
  rcases c4 with ⟨f2, st2, hr2, l2, g3, hf2, v2, b2⟩ | dd
  case inr =>
    rw [e5 dd.shC, cm_ngo dd.shC (by omega) dd.ne, cK_v, t_341_20 dd.shC, if_pos rfl]
    exact StO.dx rfl dd
  have s3 := g3.sC
  obtain ⟨hr3, l3, g4, hf3⟩ := b_unl K g3 v2 (by omega) X2
  rw [e5 s3, cm_go s3 (by omega) g3.2.1, cK_v, t_341_20 s3, if_neg (by decide)]
  refine StO.pre ?_ st2 (l2.trans l3) (hf2.tr hf3)
  -- behind the first block
  have dead40 : ∀ {h : AH}, Dd c D h hr3 → ∀ {x2 : Int32}, StO c (Q (n + 8) 341 40 [some (.ref 175), some (.int (nI d)), some (.int x2)] [] h) h3 hr3 D (p + L.length) k' := fun {h} dd {x2} => by
    rw [t_341_40 dd.shC, cm_ngo dd.shC (by omega) dd.ne, cK_v, t_341_44 dd.shC, if_pos rfl]
    exact StO.dx rfl dd
  have pk : ∀ {h h' : AH} {p' : Nat}, Gs c D 0 p' k2 h h' → ∀ {x2 : Int32}, Q (n + 8) 341 40 [some (.ref 175), some (.int (nI d)), some (.int x2)] [] h = (if lk (kT c) k2 = 138 then (if x2 = nI 0 then cK (E (n + 8) 373 [.ref 175, .int (nI d)] (sI h 1545 175 ((gI h 1545 175) + (nI 1)))) (Q (n + 8) 341 84 [none, none, none]) [] else cK (E (n + 8) 374 [.ref 175] (sI h 1545 175 ((gI h 1545 175) + (nI 1)))) (Q (n + 8) 341 76 [some (.ref 175), some (.int (nI d)), some (.int x2)]) []) else some (none, h)) := fun {h h' p'} g {x2} => by
    have lb2 := lk_b (t := kT c) (k := k2)
    rw [t_341_40 g.sC, cm_go g.sC (by omega) g.2.1, cK_v, t_341_44 g.sC, if_neg (by decide), cm_peek g.1.ci K (by omega) (by omega) g.2.2.1, cK_v, t_341_51 g.sC]
    simp only [show (nI (lk (kT c) k2) = nI 138) = (lk (kT c) k2 = 138) from propext (nI_eq (by omega) (by decide))]
  by_cases z : x = 0
  · rw [if_pos z] at g4 ⊢
    obtain ⟨h5, d1, d2, d3⟩ := pass_b (n := n + 8) K p2 g4 (by omega) (by omega)
    rw [if_pos rfl, d1, cK_n, pk d2]
    rcases w with ⟨w1, w2, w3, w4, w5⟩ | ⟨w1, L3, Y3, O3, p3, w3, w4, w5⟩
    · have hl : L.length = 1 + (L1.length + (1 + L2.length)) := by rw [w3, List.length_append, List.length_append, List.length_append, one, one]
      rw [if_neg w1] at d2 ⊢
      exact StO.go rfl d3 rfl (w2 ▸ d2.pc (by omega)) HF.rf
    · have hl : L.length = 1 + (L1.length + (1 + (L2.length + (1 + L3.length)))) := by rw [w3, List.length_append, List.length_append, List.length_append, List.length_append, List.length_append, one, one, one]
      rw [if_pos w1] at d2 ⊢
      rw [if_pos rfl]
      rw [w3] at A
      have A5 := (AT_app.mp (AT_app.mp (AT_app.mp (AT_app.mp (AT_app.mp A).2).2).2).2).2
      rw [w4, w5] at tb
      obtain ⟨y1, y2, y3⟩ := at_1 h5
      have kM2 := ltk hM w1 (by decide)
      obtain ⟨h6, b1, b2, b3⟩ := (ih 2 d (k2 + 1) k' 0 (c2 + 1) _ _ L3 Y3 O3 0 p3 _ hr3 D (n + 8) (A5.at (by rw [one, one, one]; omega)) tb.r (by omega) (Nat.le_succ_of_le hD) hd (by omega) (by omega)).2.1 rfl d2.at1
      have s6 : Sh h6 := by
        rcases b3 with ⟨-, h', -, g, -⟩ | dd
        · exact g.sC
        · exact dd.shC
      rw [b1, cK_n, t_341_84 s6]
      rcases b3 with ⟨b4, h', b5, b6, b7⟩ | dd
      · exact StO.go rfl (d3.tr (y2.tr b4)) b5 (b6.pc (by omega)) b7
      · exact StO.dx rfl dd
  · rw [if_neg z] at g4 ⊢
    obtain ⟨h5, b1, b2, b3⟩ := (ih 2 d k1 k2 0 c1 y o L2 Y2 O2 0 p2 h3 hr3 D (n + 8) X3 tb2 (by omega) (Nat.le_succ_of_le hD) hd hk1 (by omega)).2.1 rfl (g4.pc (by omega))
    rw [if_neg (by decide), b1, cK_n]
    rcases b3 with ⟨b4, hr4, b5, b6, b7⟩ | dd
    case inr =>
      rw [t_341_33 dd.shC]
      exact dead40 dd
    rw [t_341_33 b6.sC, pk b6]
    rcases w with ⟨w1, w2, w3, w4, w5⟩ | ⟨w1, L3, Y3, O3, p3, w3, w4, w5⟩
    · have hl : L.length = 1 + (L1.length + (1 + L2.length)) := by rw [w3, List.length_append, List.length_append, List.length_append, one, one]
      rw [if_neg w1]
      exact StO.go rfl b4 b5 (w2 ▸ b6.pc (by omega)) b7
    · have hl : L.length = 1 + (L1.length + (1 + (L2.length + (1 + L3.length)))) := by rw [w3, List.length_append, List.length_append, List.length_append, List.length_append, List.length_append, one, one, one]
      rw [w3] at A
      have A4 := (AT_app.mp (AT_app.mp (AT_app.mp (AT_app.mp (AT_app.mp A).2).2).2).2).1
      obtain ⟨y1, y2, y3⟩ := at_1 h5
      have kM2 := ltk hM w1 (by decide)
      obtain ⟨hr5, l5, g5, hf5⟩ := b_jmp K b6.at1 (by omega) (A4.at (by rw [one, one]; omega))
      obtain ⟨h6, d1, d2, d3⟩ := pass_b (n := n + 8) K p3 g5 (by omega) (by omega)
      rw [if_pos w1, if_neg (by decide), d1, cK_n, t_341_76 d2.sC, t_341_84 d2.sC]
      exact StO.go rfl (b4.tr (y2.tr d3)) (b5.trans l5) (d2.pc (by omega)) (b7.tr hf5)
/-- while: one round after another -/
theorem wh_lp (K : KXs c) (hM : ME (kT c) M) (h4 : M ≤ 4000) (ih : STm c M N) (hd : d ≤ 20) (hD : D ≤ d) (hn : 30 + 13 * (20 - d) ≤ n) {c1 : Nat} (p1 : CE (kT c) N 3 d k k1 L1) (hk : k ≤ M) (ec1 : c1 = p + 1 + L1.length + 1) (p2 : CSx (kT c) (1 - kn c 5) N 2 d k1 k' 0 c1 y o L2 Y O 0) (hp : c1 + L2.length + 1 ≤ 4300) (A : AT (hR c) (4400 * kn c 5 + p) ([(nI 38, nI 0)] ++ (L1 ++ ([(nI 40, nI (c1 + L2.length + 1))] ++ (L2 ++ [(nI 39, nI p)]))))) (tb : TBl c y o Y O) : ∀ (m j kk : Nat) (hc hr : AH), kn c 4 ≤ ix (gI hc 1549 175) + m → j ≤ ix (gI hc 1549 175) → ix (gI hc 1549 175) ≤ kn c 4 → Gs c D 0 p kk hc hr → StO c (Q (n + 8) 342 7 [some (.ref 175), some (.int (nI d)), some (.int (nI k)), some (.int (nI j)), none] [] hc) hc hr D (c1 + L2.length + 1) k' := by
  have one : ∀ x, ([x] : Cds).length = 1 := fun _ => rfl
  have A1 := (AT_app.mp A).2
  have A2 := (AT_app.mp A1).2
  have A3 := (AT_app.mp A2).2
  have X0 := (AT_app.mp A).1
  have X1 := (AT_app.mp A1).1.at (b := 4400 * kn c 5 + (p + 1)) (by rw [one]; omega)
  have X2 := (AT_app.mp A2).1.at (b := 4400 * kn c 5 + (p + 1 + L1.length)) (by rw [one]; omega)
  have X3 := (AT_app.mp A3).1.at (b := 4400 * kn c 5 + c1) (by rw [one, one]; omega)
  have X4 := (AT_app.mp A3).2.at (b := 4400 * kn c 5 + (c1 + L2.length)) (by rw [one, one]; omega)
  have l2 : kn c 4 ≤ 20000 := K.2.2.2.2.2.2.2.2.2.1
  have hk1 := ce_le hM p1 hk
  intro m
  induction m with
  | zero =>
    intro j kk hc hr hm hj hl G
    have g0 : Gs c D 0 p k (sI hc 1545 175 (nI k)) hr := G.atC
    have s0 := g0.sC
    rw [t_342_7 G.sC, if_neg (nI_nlt (by omega) (by omega))]
    rcases b_stp (n := n + 8) K g0 (by omega) X0 (by omega) with ⟨hc1, hr1, y1, y2, y3, y4, y5, y6, y7⟩ | ⟨hc1, y1, y2⟩
    · rw [gI_k (by decide)] at y6; omega
    · rw [y1, cK_v, t_342_23 y2.shC, if_pos rfl]
      exact StO.dx rfl y2
  | succ m ihm =>
    intro j kk hc hr hm hj hl G
    have g0 : Gs c D 0 p k (sI hc 1545 175 (nI k)) hr := G.atC
    have s0 := g0.sC
    have st0 : stp1 hc (sI hc 1545 175 (nI k)) := stp1.of (K := [1545]) (X := []) (Fr.rfl.sI (by decide)) (by decide)
    rw [t_342_7 G.sC, if_neg (nI_nlt (by omega) (by omega))]
    rcases b_stp (n := n + 8) K g0 (by omega) X0 (by omega) with ⟨hc1, hr1, y1, y2, y3, y4, y5, y6, y7⟩ | ⟨hc1, y1, y2⟩
    case inr =>
      rw [y1, cK_v, t_342_23 y2.shC, if_pos rfl]
      exact StO.dx rfl y2
    rw [gI_k (by decide)] at y6
    obtain ⟨x, h3, c3, c4⟩ := x3 (n := n + 8) K hM h4 p1 y3 X1 (by omega) hd hk (by omega) (by omega)
    rw [y1, cK_v, t_342_23 y3.sC, if_neg (by decide), c3, cK_v]
    have e5 : ∀ {h : AH}, Sh h → Q (n + 8) 342 32 [some (.ref 175), some (.int (nI d)), some (.int (nI k)), some (.int (nI j)), none] [.long x] h = cK (E (n + 8) 362 [.ref 175] h) (Q (n + 8) 342 48 [some (.ref 175), some (.int (nI d)), some (.int (nI k)), some (.int (nI j)), some (.int (nI (if x = 0 then 0 else 1)))]) [] := fun {h} sh => by
      rw [t_342_32 sh]
      simp only [c_eq]
      by_cases z : x = 0
      · rw [if_pos z, if_pos z]
      · rw [if_neg z, if_neg z]
    have st1 : stp1 hc hc1 := by unfold stp1; omega
    rcases c4 with ⟨f2, st2, hr2, l2', g3, hf2, v2, b2⟩ | dd
    case inr =>
      rw [e5 dd.shC, cm_ngo dd.shC (by omega) dd.ne, cK_v, t_342_48 dd.shC, if_pos rfl]
      exact StO.dx rfl (dd.pre y2 y4)
    obtain ⟨hr3, l3, g4, hf3⟩ := b_unl K g3 v2 (by omega) X2
    have s3 := g3.sC
    rw [e5 s3, cm_go s3 (by omega) g3.2.1, cK_v, t_342_48 s3, if_neg (by decide)]
    by_cases z : x = 0
    · rw [if_pos z] at g4 ⊢
      obtain ⟨h5, d1, d2, d3⟩ := pass_b (n := n + 8) K p2 g4 (by omega) (by omega)
      rw [if_pos rfl, d1, cK_n, t_342_61 d2.sC]
      exact StO.go rfl (st1.tr (st2.tr d3)) (y2.trans (l2'.trans l3)) d2 (y4.tr (hf2.tr hf3))
    · rw [if_neg z] at g4 ⊢
      obtain ⟨h5, b1, b3, b4⟩ := (ih 2 d k1 k' 0 c1 y o L2 Y O 0 p2 h3 hr3 D (n + 8) X3 tb (by omega) (Nat.le_succ_of_le hD) hd hk1 (by omega)).2.1 rfl (g4.pc (by omega))
      rw [if_neg (by decide), b1, cK_n]
      rcases b4 with ⟨b5, hr4, b6, b7, b8⟩ | dd
      case inr =>
        rw [t_342_67 dd.shC, cm_ngo dd.shC (by omega) dd.ne, cK_v, t_342_71 dd.shC, if_pos rfl]
        exact StO.dx rfl (dd.pre (y2.trans (l2'.trans l3)) (y4.tr (hf2.tr hf3)))
      obtain ⟨hr5, l5, g5, hf5⟩ := b_jmp K b7 (by omega) X4
      have st5 := st2.tr b5
      have lim5 : ix (gI h5 1549 175) ≤ kn c 4 := by
        obtain ⟨-, -, -, ty, a1, a2, q1, q2, mk, rf, m0, mm⟩ := b7.1
        have n1 := mm.2.2.2.2.1.1
        rw [n1, ix_nI (by omega)]; exact m0
      rw [t_342_67 b7.sC, cm_go b7.sC (by omega) b7.2.1, cK_v, t_342_71 b7.sC, if_neg (by decide), nI_add]
      unfold stp1 at st5
      exact (ihm (j + 1) k' h5 hr5 (by omega) (by omega) lim5 g5).pre (st1.tr (st2.tr b5)) (y2.trans (l2'.trans (l3.trans (b6.trans l5)))) (y4.tr (hf2.tr (hf3.tr (b8.tr hf5))))
theorem sx_wh (K : KXs c) (hM : ME (kT c) M) (h4 : M ≤ 4000) (ih : STm c M N) (q : lk (kT c) k = 139) (hd : d ≤ 20) (hD : D ≤ d) (hn : 30 + 13 * (20 - d) ≤ n) (G : Gs c D 0 p k hc hr) (hp : p + L.length ≤ 4300) (A : AT (hR c) (4400 * kn c 5 + p) L) (tb : TBl c y o Y O) {c1 : Nat}
    (p1 : CE (kT c) N 3 d (k + 1) k1 L1) (ec1 : c1 = p + 1 + L1.length + 1) (p2 : CSx (kT c) (1 - kn c 5) N 2 d k1 k' 0 c1 y o L2 Y O 0) (eL : L = [(nI 38, nI 0)] ++ (L1 ++ ([(nI 40, nI (c1 + L2.length + 1))] ++ (L2 ++ [(nI 39, nI p)])))) : StO c (E (n + 10) 266 [.ref 175, .int (nI d)] hc) hc hr D (p + L.length) k' := by
  have one : ∀ x, ([x] : Cds).length = 1 := fun _ => rfl
  have hl : L.length = 1 + (L1.length + (1 + (L2.length + 1))) := by rw [eL, List.length_append, List.length_append, List.length_append, List.length_append, one, one, one]
  have kM := ltk hM q (by decide)
  have s := G.sC
  have sc := s.scr K.2.2.2.1
  have lb := lk_b (t := kT c) (k := k)
  have en : ∀ z, z < 2 ^ 31 → (nI (lk (kT c) k) = nI z) = (lk (kT c) k = z) := fun z hz => propext (nI_eq (by omega) hz)
  obtain ⟨v, v1, -⟩ := cm_vl (n := n + 9) G.1.ci K (by omega) (show k < 2 ^ 31 by omega)
  have lim : ix (gI hc 1549 175) ≤ kn c 4 := by
    obtain ⟨-, -, -, ty, a1, a2, q1, q2, mk, rf, m0, mm⟩ := G.1
    have n1 := mm.2.2.2.2.1.1
    have := K.2.2.2.2.2.2.2.2.2.1
    rw [n1, ix_nI (by omega)]; exact m0
  obtain ⟨a1, a2, a3⟩ := at_1 hc
  have g1 := G.at1
  have s1 := g1.sC
  rw [eL] at A
  have lp := wh_lp (n := n) K hM h4 ih hd hD hn p1 (by omega) ec1 p2 (by omega) A tb (kn c 4) 0 (k + 1) (sI hc 1545 175 ((gI hc 1545 175) + (nI 1))) hr (by omega) (Nat.zero_le _) (by rw [gI_k (by decide)]; exact lim) g1
  rw [show n + 10 = n + 9 + 1 from rfl, t_266 s, cm_peek G.1.ci K (by omega) (by omega) G.2.2.1, cK_v, t_266_4 s]
  simp only [en 139 (by decide)]
  rw [if_pos q, (G.1.ci.scr K).2.1, Option.bind_some, ck_ok sc.1, G.2.2.1, v1, cK_v, t_266_31 s]
  simp only [en 4 (by decide), en 5 (by decide), en 128 (by decide), en 129 (by decide), en 130 (by decide), en 131 (by decide), en 132 (by decide), en 133 (by decide), en 134 (by decide), en 135 (by decide), en 136 (by decide), en 137 (by decide), en 139 (by decide)]
  rw [if_neg (by omega), if_neg (by omega), if_neg (by omega), if_neg (by omega), if_neg (by omega), if_neg (by omega), if_neg (by omega), if_neg (by omega), if_neg (by omega), if_neg (by omega), if_neg (by omega), if_neg (by omega), if_pos q]
  refine StO.nx ?_ (fun h' s' => by rw [t_266_260 s', t_266_268 s'])
  rw [show n + 9 = n + 8 + 1 from rfl, t_342 s1, g1.2.2.1]
  exact (lp.st a2).to (by omega) rfl
end IFW
