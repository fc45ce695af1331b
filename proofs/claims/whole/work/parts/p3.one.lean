/-! ===== RUN: a statement, on both sides: the simple ones, if, while ===== -/
section ONE
variable {c : CXm} {M N d k k' k1 D T p y o n m a : Nat} {hc hr hc1 hr1 : AH} {L L1 L2 : Cds} {Y O : C3} {fi : Int32}
/-- a statement begins -/
theorem pre_266 (K : KXs c) (hM : ME (kT c) M) (h4 : M ≤ 4000) (G : Gs c D 0 p k hc hr) (hk : k ≤ M) (nw : lk (kT c) k ≠ 139) (hp : p < 4300) (A : AT (hR c) (4400 * kn c 5 + p) [(nI 38, nI 0)]) (hn : 2 ≤ n) :
    (∃ hc1 hr1 v, E (n + 1) 266 [.ref 175, .int (nI d)] hc = Q n 266 31 [some (.ref 175), some (.int (nI d)), some (.int (nI (lk (kT c) k))), none] [.int v] hc1 ∧ (v35 (lk (kT c) k) → v = nI (lkV (kT c) k)) ∧ LPm c hr = LPm c hr1 ∧ Gs c D 0 (p + 1) k hc1 hr1 ∧ HF D hr hr1 ∧ stp1 hc hc1 ∧ ix (gI hc1 1552 175) + 1 ≤ ix (gI hc1 1549 175)) ∨
    ∃ hc1, E (n + 1) 266 [.ref 175, .int (nI d)] hc = some (none, hc1) ∧ Dd c D hc1 hr := by
  have s := G.sC
  have lb := lk_b (t := kT c) (k := k)
  have e39 : (nI (lk (kT c) k) = nI 139) = (lk (kT c) k = 139) := propext (nI_eq (by omega) (by decide))
  rw [t_266 s, cm_peek G.1.ci K (by omega) (by omega) G.2.2.1, cK_v, t_266_4 s]
  simp only [e39]
  rw [if_neg nw]
  rcases b_stp (n := n) K G (by omega) A (by omega) with ⟨hc1, hr1, y1, y2, y3, y4, y5, y6, y7⟩ | ⟨hc1, y1, y2⟩
  · have s1 := y3.sC
    have sc := s1.scr K.2.2.2.1
    obtain ⟨v, v1, v2, -⟩ := cm_vl (n := n) y3.1.ci K (by omega) (show k < 2 ^ 31 by omega)
    refine Or.inl ⟨hc1, hr1, v, ?_, v2, y2, y3, y4, by unfold stp1; omega, ?_⟩
    · rw [y1, cK_v, t_266_16 s1, if_neg (by decide), (y3.1.ci.scr K).2.1, Option.bind_some, ck_ok sc.1, y3.2.2.1, v1, cK_v]
    · have := G.1.mk
      rw [y5.I (by decide)]; omega
  · refine Or.inr ⟨hc1, ?_, y2⟩
    rw [y1, cK_v, t_266_16 y2.shC, if_pos rfl]
/-- where a statement leads to -/
theorem to_268 {q : Option Ot} {x : Nat} (a : StO c q hc hr D p k) {u : Vs → AH → Option Ot} (hu : ∀ h', Sh h' → u [] h' = some (none, h')) : StO c (cK q u []) hc hr D p k := a.nx hu
/-- statements without blocks -/
theorem sx_simple (K : KXs c) (hM : ME (kT c) M) (h4 : M ≤ 4000) (hk : k < M) (hd : d ≤ 20) (hn : 32 + 9 * (20 - d) ≤ n) (G : Gs c D 0 p k hc hr) (hp : p + L.length ≤ 4300)
    (e : lk (kT c) k = 4 ∧ (∃ k1 L1, lk (kT c) (k + 1) = 61 ∧ CE (kT c) N 3 d (k + 2) k1 L1 ∧ lk (kT c) k1 = 59 ∧ k' = k1 + 1 ∧ L = [(nI 38, nI 0)] ++ (L1 ++ [(nI 3, nI (lkV (kT c) k))])) ∨
      lk (kT c) k = 5 ∧ (∃ k1 L1, lk (kT c) (k + 1) = 61 ∧ CE (kT c) N 9 d (k + 2) k1 L1 ∧ lk (kT c) k1 = 59 ∧ k' = k1 + 1 ∧ L = [(nI 38, nI 0)] ++ (L1 ++ [(nI 5, nI (lkV (kT c) k))])) ∨
      ∃ k1 L1, CW1 (kT c) (CE (kT c) N) d k k1 L1 ∧ lk (kT c) k1 = 59 ∧ k' = k1 + 1 ∧ L = [(nI 38, nI 0)] ++ L1)
    (A : AT (hR c) (4400 * kn c 5 + p) L) : StO c (E (n + 1) 266 [.ref 175, .int (nI d)] hc) hc hr D (p + L.length) k' := by
  have lb := lk_b (t := kT c) (k := k)
  have en : ∀ z, z < 2 ^ 31 → (nI (lk (kT c) k) = nI z) = (lk (kT c) k = z) := fun z hz => propext (nI_eq (by omega) hz)
  have A0 : AT (hR c) (4400 * kn c 5 + p) [(nI 38, nI 0)] := by
    rcases e with ⟨-, k1, L1, -, -, -, -, eL⟩ | ⟨-, k1, L1, -, -, -, -, eL⟩ | ⟨k1, L1, -, -, -, eL⟩ <;> (rw [eL] at A; exact (AT_app.mp A).1)
  have nw : lk (kT c) k ≠ 139 := by
    rcases e with ⟨q, -⟩ | ⟨q, -⟩ | ⟨k1, L1, w, -⟩
    · omega
    · omega
    · rcases w with ⟨q, -⟩ | ⟨q, -⟩ | ⟨q, -⟩ | ⟨q, -⟩ | ⟨q, -⟩ | ⟨q, -⟩ | ⟨q, -⟩ | ⟨q, -⟩ | ⟨q, -⟩ <;> omega
  have p43 : p < 4300 := by
    rcases e with ⟨-, k1, L1, -, -, -, -, eL⟩ | ⟨-, k1, L1, -, -, -, -, eL⟩ | ⟨k1, L1, -, -, -, eL⟩ <;> (rw [eL, List.length_append] at hp; have : ([(nI 38, nI 0)] : Cds).length = 1 := rfl; omega)
  rcases pre_266 (n := n) (d := d) K hM h4 G (by omega) nw p43 A0 (by omega) with ⟨hc1, hr1, v, e0, ev, l1, g1, hf1, st1, hmk⟩ | ⟨hc1, e0, dd⟩
  case inr => exact ⟨hc1, e0, Or.inr dd⟩
  have s1 := g1.sC
  obtain ⟨a1, a2, a3⟩ := at_1 hc1
  have g2 := g1.at1
  rw [e0, t_266_31 s1]
  simp only [en 4 (by decide), en 5 (by decide), en 128 (by decide), en 129 (by decide), en 130 (by decide), en 131 (by decide), en 132 (by decide), en 133 (by decide), en 134 (by decide), en 135 (by decide), en 136 (by decide), en 137 (by decide), en 139 (by decide)]
  have hst := st1.tr a2
  have one : ([(nI 38, nI 0)] : Cds).length = 1 := rfl
  rcases e with ⟨q, k1, L1, q1, p1, q2, ek, eL⟩ | ⟨q, k1, L1, q1, p1, q2, ek, eL⟩ | ⟨k1, L1, w, q2, ek, eL⟩
  · have km := ltk hM q1 (by decide)
    have hlen : L.length = 1 + (L1.length + 1) := by rw [eL, List.length_append, List.length_append]; rfl
    rw [eL] at A
    have A1 := (AT_app.mp A).2.at (b := 4400 * kn c 5 + (p + 1)) (by rw [one]; omega)
    have r3 := lk_reg.1 q
    have hv := ev (by rw [q]; decide)
    rw [if_pos q, hv]
    exact (((sm_4 (n := n) K hM h4 (a := lkV (kT c) k) (by omega) p1 q2 g2 A1 (by omega) hd (by omega) (by omega)).nx fun h' s' => by rw [t_266_162 s', t_266_268 s']).pre hst l1 hf1).to (by omega) ek.symm
  · have km := ltk hM q1 (by decide)
    have hlen : L.length = 1 + (L1.length + 1) := by rw [eL, List.length_append, List.length_append]; rfl
    rw [eL] at A
    have A1 := (AT_app.mp A).2.at (b := 4400 * kn c 5 + (p + 1)) (by rw [one]; omega)
    have r3 := lk_reg.2 q
    have hv := ev (by rw [q]; decide)
    rw [if_neg (by omega), if_pos q, hv]
    exact (((sm_5 (n := n) K hM h4 (a := lkV (kT c) k) (by omega) p1 q2 g2 A1 (by omega) hd (by omega) (by omega)).nx fun h' s' => by rw [t_266_171 s', t_266_268 s']).pre hst l1 hf1).to (by omega) ek.symm
  · rw [eL] at A
    have A1 := (AT_app.mp A).2.at (b := 4400 * kn c 5 + (p + 1)) (by rw [one]; omega)
    have hlen : L.length = 1 + L1.length := by rw [eL, List.length_append]; rfl
    have mk2 : ix (gI (sI hc1 1545 175 ((gI hc1 1545 175) + (nI 1))) 1552 175) + 1 ≤ ix (gI (sI hc1 1545 175 ((gI hc1 1545 175) + (nI 1))) 1549 175) := by
      rw [gI_k (by decide), gI_k (by decide)]; exact hmk
    rcases w with ⟨q, ka, La, Lb, p1, q3, p2, e1⟩ | ⟨q, La, p1, e1⟩ | ⟨q, ka, La, Lb, p1, p2, e1⟩ | ⟨q, ka, La, Lb, p1, p2, e1⟩ | ⟨q, ka, La, Lb, p1, p2, e1⟩ | ⟨q, ka, kb, kd, ke, La, Lb, Lc, Ld, Le, p1, p2, q3, p3, p4, q5, p5, e1⟩ | ⟨q, ka, La, Lb, p1, q3, p2, e1⟩ | ⟨q, La, p1, e1⟩ | ⟨q, e1, e2⟩
    · have hl : L1.length = La.length + (Lb.length + 1) := by rw [e1, List.length_append, List.length_append]; rfl
      rw [e1] at A1
      rw [if_neg (by omega), if_neg (by omega), if_pos q]
      exact (((sm_128 (n := n) K hM h4 p1 q3 p2 g2 mk2 A1 (by omega) hd (by omega) (by omega)).nx fun h' s' => by rw [t_266_179 s', t_266_268 s']).pre hst l1 hf1).to (by omega) ek.symm
    · have hl : L1.length = La.length + 1 := by rw [e1, List.length_append]; rfl
      rw [e1] at A1
      rw [if_neg (by omega), if_neg (by omega), if_neg (by omega), if_pos q]
      exact (((sm_129 (n := n) K hM h4 p1 g2 A1 (by omega) hd (by omega) (by omega)).nx fun h' s' => by rw [t_266_187 s', t_266_268 s']).pre hst l1 hf1).to (by omega) ek.symm
    · have hl : L1.length = La.length + (Lb.length + 1) := by rw [e1, List.length_append, List.length_append]; rfl
      rw [e1] at A1
      rw [if_neg (by omega), if_neg (by omega), if_neg (by omega), if_neg (by omega), if_pos q]
      exact (((sm_130 (n := n) K hM h4 p1 p2 g2 A1 (by omega) hd (by omega) (by omega)).nx fun h' s' => by rw [t_266_195 s', t_266_268 s']).pre hst l1 hf1).to (by omega) ek.symm
    · have hl : L1.length = La.length + (Lb.length + 1) := by rw [e1, List.length_append, List.length_append]; rfl
      rw [e1] at A1
      rw [if_neg (by omega), if_neg (by omega), if_neg (by omega), if_neg (by omega), if_neg (by omega), if_pos q]
      exact (((sm_131 (n := n) K hM h4 p1 p2 g2 A1 (by omega) hd (by omega) (by omega)).nx fun h' s' => by rw [t_266_203 s', t_266_268 s']).pre hst l1 hf1).to (by omega) ek.symm
    · have hl : L1.length = La.length + (Lb.length + 1) := by rw [e1, List.length_append, List.length_append]; rfl
      rw [e1] at A1
      rw [if_neg (by omega), if_neg (by omega), if_neg (by omega), if_neg (by omega), if_neg (by omega), if_neg (by omega), if_pos q]
      exact (((sm_132 (n := n) K hM h4 p1 p2 g2 A1 (by omega) hd (by omega) (by omega)).nx fun h' s' => by rw [t_266_211 s', t_266_268 s']).pre hst l1 hf1).to (by omega) ek.symm
    · have hl : L1.length = La.length + (Lb.length + (Lc.length + (Ld.length + (Le.length + 1)))) := by rw [e1, List.length_append, List.length_append, List.length_append, List.length_append, List.length_append]; rfl
      rw [e1] at A1
      rw [if_neg (by omega), if_neg (by omega), if_neg (by omega), if_neg (by omega), if_neg (by omega), if_neg (by omega), if_neg (by omega), if_pos q]
      exact (((sm_133 (n := n) K hM h4 p1 p2 q3 p3 p4 q5 p5 g2 A1 (by omega) hd (by omega) (by omega)).nx fun h' s' => by rw [t_266_219 s', t_266_268 s']).pre hst l1 hf1).to (by omega) ek.symm
    · have hl : L1.length = La.length + (Lb.length + 1) := by rw [e1, List.length_append, List.length_append]; rfl
      rw [e1] at A1
      rw [if_neg (by omega), if_neg (by omega), if_neg (by omega), if_neg (by omega), if_neg (by omega), if_neg (by omega), if_neg (by omega), if_neg (by omega), if_pos q]
      exact (((sm_134 (n := n) K hM h4 p1 q3 p2 g2 A1 (by omega) hd (by omega) (by omega)).nx fun h' s' => by rw [t_266_227 s', t_266_268 s']).pre hst l1 hf1).to (by omega) ek.symm
    · have hl : L1.length = La.length + 1 := by rw [e1, List.length_append]; rfl
      rw [e1] at A1
      rw [if_neg (by omega), if_neg (by omega), if_neg (by omega), if_neg (by omega), if_neg (by omega), if_neg (by omega), if_neg (by omega), if_neg (by omega), if_neg (by omega), if_pos q]
      exact (((sm_135 (n := n) K hM h4 p1 g2 A1 (by omega) hd (by omega) (by omega)).nx fun h' s' => by rw [t_266_235 s', t_266_268 s']).pre hst l1 hf1)
    · have hl : L1.length = 1 := by rw [e2]; rfl
      rw [e2] at A1
      have dd := b_stop K g2 (by omega) A1
      rw [if_neg (by omega), if_neg (by omega), if_neg (by omega), if_neg (by omega), if_neg (by omega), if_neg (by omega), if_neg (by omega), if_neg (by omega), if_neg (by omega), if_neg (by omega), if_pos q, t_266_268 dd.shC]
      exact StO.dx rfl (dd.pre l1 hf1)
end ONE
