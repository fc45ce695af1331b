/-! ===== RUN: statements for every fuel ===== -/
section STH
variable {c : CXm} {M N d k k' k1 k2 D T p y o n m a E0 : Nat} {hc hr h0 hc1 hr1 hc' hX : AH} {L L1 L2 L3 : Cds} {Y O Y1 O1 Y2 O2 Y3 O3 : C3} {fi : Int32}
theorem sx_try (K : KXs c) (hM : ME (kT c) M) (h4 : M ≤ 4000) (ih : STm c M N) (q : lk (kT c) k = 140) (hd : d ≤ 20) (hD : D ≤ d) (hn : 30 + 13 * (20 - d) ≤ n) (G : Gs c D 0 p k hc hr) (hp : p + L.length ≤ 4300) (A : AT (hR c) (4400 * kn c 5 + p) L) (tb : TBl c y o Y O) {c1 c2 : Nat} (eT : T = 820 * (1 - (1 - kn c 5)) + y)
    (p1 : CSx (kT c) (1 - kn c 5) N 2 d (k + 1) k1 0 (p + 2) (y + 1) o L1 Y1 O1 0) (ec1 : c1 = p + 2 + L1.length + 1) (p2 : CSx (kT c) (1 - kn c 5) N 12 d k1 k2 T c1 (y + 1 + Y1.length) (o + O1.length) L2 Y2 O2 fi) (ec2 : c2 = c1 + L2.length)
    (w : lk (kT c) k2 ≠ 142 ∧ k' = k2 ∧ L = [(nI 38, nI 0)] ++ ([(nI 41, nI T)] ++ (L1 ++ ([(nI 42, nI T)] ++ L2))) ∧ Y = [(fi, -1, nI c2)] ++ (Y1 ++ Y2) ∧ O = O1 ++ O2 ∨
      lk (kT c) k2 = 142 ∧ ∃ L3 Y3 O3, CSx (kT c) (1 - kn c 5) N 2 d (k2 + 1) k' 0 c2 (y + 1 + Y1.length + Y2.length) (o + O1.length + O2.length) L3 Y3 O3 0 ∧ L = [(nI 38, nI 0)] ++ ([(nI 41, nI T)] ++ (L1 ++ ([(nI 42, nI T)] ++ (L2 ++ (L3 ++ [(nI 43, nI T)]))))) ∧ Y = [(fi, nI c2, nI (c2 + L3.length + 1))] ++ (Y1 ++ (Y2 ++ Y3)) ∧ O = O1 ++ (O2 ++ O3)) : StO c (E (n + 10) 266 [.ref 175, .int (nI d)] hc) hc hr D (p + L.length) k' := by
  have hs5 : kn c 5 ≤ 1 := K.2.2.2.2.2.2.2.2.2.2.2.2.2.2.2.2.1
  have one : ∀ x, ([x] : Cds).length = 1 := fun _ => rfl
  have one3 : ∀ x, ([x] : C3).length = 1 := fun _ => rfl
  have kM := ltk hM q (by decide)
  have hk1 := csx_le hM p1 (by omega)
  have hk2 := csx_le hM p2 hk1
  have eT' : T = 820 * kn c 5 + y := by omega
  have lb := lk_b (t := kT c) (k := k)
  have en : ∀ z, z < 2 ^ 31 → (nI (lk (kT c) k) = nI z) = (lk (kT c) k = z) := fun z hz => propext (nI_eq (by omega) hz)
  obtain ⟨A0, A1, X1, X2, X3, e6, tb1, tb2, yT, hc2⟩ : AT (hR c) (4400 * kn c 5 + p) [(nI 38, nI 0)] ∧ AT (hR c) (4400 * kn c 5 + (p + 1)) [(nI 41, nI T)] ∧ AT (hR c) (4400 * kn c 5 + (p + 2)) L1 ∧ AT (hR c) (4400 * kn c 5 + (p + 2 + L1.length)) [(nI 42, nI T)] ∧ AT (hR c) (4400 * kn c 5 + c1) L2 ∧ gA (hR c) 276 T = fi ∧ TBl c (y + 1) o Y1 O1 ∧ TBl c (y + 1 + Y1.length) (o + O1.length) Y2 O2 ∧ y < 820 ∧ c2 ≤ p + L.length := by
    rcases w with ⟨-, -, w3, w4, w5⟩ | ⟨-, L3, Y3, O3, -, w3, w4, w5⟩
    · have hl : L.length = 1 + (1 + (L1.length + (1 + L2.length))) := by rw [w3, List.length_append, List.length_append, List.length_append, List.length_append, one, one, one]
      rw [w3] at A
      rw [w4, w5] at tb
      have lY := tb.2.2.1
      have lO := tb.2.2.2
      rw [List.length_append, one3, List.length_append] at lY
      rw [List.length_append] at lO
      have B1 := (AT_app.mp A).2
      have B2 := (AT_app.mp B1).2
      have B3 := (AT_app.mp B2).2
      have B4 := (AT_app.mp B3).2
      have t0 := T3_one.mp (T3_app.mp tb.1).1
      have t1 := (T3_app.mp tb.1).2
      rw [one3] at t1
      refine ⟨(AT_app.mp A).1, (AT_app.mp B1).1.at (by rw [one]; omega), (AT_app.mp B2).1.at (by rw [one, one]; omega), (AT_app.mp B3).1.at (by rw [one, one]; omega), B4.at (by rw [one, one, one]; omega), by rw [eT']; exact t0.1, ⟨(T3_app.mp t1).1, (T3_app.mp tb.2.1).1, by omega, by omega⟩, ⟨?_, ?_, by omega, by omega⟩, by omega, by omega⟩
      · have := (T3_app.mp t1).2
        rw [show 820 * kn c 5 + (y + 1 + Y1.length) = 820 * kn c 5 + y + 1 + Y1.length by omega]; exact this
      · have := (T3_app.mp tb.2.1).2
        rw [show 700 * kn c 5 + (o + O1.length) = 700 * kn c 5 + o + O1.length by omega]; exact this
    · have hl : L.length = 1 + (1 + (L1.length + (1 + (L2.length + (L3.length + 1))))) := by rw [w3, List.length_append, List.length_append, List.length_append, List.length_append, List.length_append, List.length_append, one, one, one, one]
      rw [w3] at A
      rw [w4, w5] at tb
      have lY := tb.2.2.1
      have lO := tb.2.2.2
      rw [List.length_append, one3, List.length_append, List.length_append] at lY
      rw [List.length_append, List.length_append] at lO
      have B1 := (AT_app.mp A).2
      have B2 := (AT_app.mp B1).2
      have B3 := (AT_app.mp B2).2
      have B4 := (AT_app.mp B3).2
      have t0 := T3_one.mp (T3_app.mp tb.1).1
      have t1 := (T3_app.mp tb.1).2
      rw [one3] at t1
      refine ⟨(AT_app.mp A).1, (AT_app.mp B1).1.at (by rw [one]; omega), (AT_app.mp B2).1.at (by rw [one, one]; omega), (AT_app.mp B3).1.at (by rw [one, one]; omega), (AT_app.mp B4).1.at (by rw [one, one, one]; omega), by rw [eT']; exact t0.1, ⟨(T3_app.mp t1).1, (T3_app.mp tb.2.1).1, by omega, by omega⟩, ⟨?_, ?_, by omega, by omega⟩, by omega, by omega⟩
      · have := (T3_app.mp (T3_app.mp t1).2).1
        rw [show 820 * kn c 5 + (y + 1 + Y1.length) = 820 * kn c 5 + y + 1 + Y1.length by omega]; exact this
      · have := (T3_app.mp (T3_app.mp tb.2.1).2).1
        rw [show 700 * kn c 5 + (o + O1.length) = 700 * kn c 5 + o + O1.length by omega]; exact this
  have hT : T < 1640 := by omega
  rcases pre_266 (n := n + 9) (d := d) K hM h4 G (by omega) (by omega) (by omega) A0 (by omega) with ⟨hc1, hr1, v, e0, ev, l1, g1, hf1, st1, hmk⟩ | ⟨hc1, e0, dd⟩
  case inr => exact ⟨hc1, e0, Or.inr dd⟩
  have s1 := g1.sC
  obtain ⟨a1, a2, a3⟩ := at_1 hc1
  have g2 := g1.at1
  obtain ⟨hr2, l2, g3, hf2, t1, t2⟩ := b_try K g2 (by omega) (by omega) A1
  obtain ⟨h9, z1, z2⟩ := try_on K hM h4 ih hd hD hn hT g3 t1 t2 (by omega) p1 X1 X2 ec1 tb1 p2 X3 tb2 (by omega) e6
  rw [show n + 10 = n + 9 + 1 from rfl, e0, t_266_31 s1]
  simp only [en 4 (by decide), en 5 (by decide), en 128 (by decide), en 129 (by decide), en 130 (by decide), en 131 (by decide), en 132 (by decide), en 133 (by decide), en 134 (by decide), en 135 (by decide), en 136 (by decide), en 137 (by decide), en 139 (by decide)]
  rw [if_neg (by omega), if_neg (by omega), if_neg (by omega), if_neg (by omega), if_neg (by omega), if_neg (by omega), if_neg (by omega), if_neg (by omega), if_neg (by omega), if_neg (by omega), if_neg (by omega), if_neg (by omega), if_neg (by omega)]
  refine StO.pre (hc := sI hc1 1545 175 ((gI hc1 1545 175) + (nI 1))) (hr := hr2) ?_ (st1.tr a2) (l1.trans l2) (hf1.tr hf2)
  refine StO.nx ?_ (fun h' s' => t_266_268 s')
  rw [show n + 9 = n + 8 + 1 from rfl, t_343 g2.sC, z1]
  rcases w with ⟨w1, w2, w3, w4, w5⟩ | ⟨w1, L3, Y3, O3, p3, w3, w4, w5⟩
  · have hl : L.length = 1 + (1 + (L1.length + (1 + L2.length))) := by rw [w3, List.length_append, List.length_append, List.length_append, List.length_append, one, one, one]
    rw [w4] at tb
    have t0 := T3_one.mp (T3_app.mp tb.1).1
    exact (ph_no (n := n + 8) (E0 := c2) K (by omega) hT w1 (by omega) (by rw [eT']; exact t0.2.1) (by rw [eT']; exact t0.2.2) z2 (by omega)).to (by omega) w2.symm
  · have hl : L.length = 1 + (1 + (L1.length + (1 + (L2.length + (L3.length + 1))))) := by rw [w3, List.length_append, List.length_append, List.length_append, List.length_append, List.length_append, List.length_append, one, one, one, one]
    rw [w3] at A
    rw [w4, w5] at tb
    have lY := tb.2.2.1
    have lO := tb.2.2.2
    rw [List.length_append, one3, List.length_append, List.length_append] at lY
    rw [List.length_append, List.length_append] at lO
    have t0 := T3_one.mp (T3_app.mp tb.1).1
    have t1' := (T3_app.mp tb.1).2
    rw [one3] at t1'
    have B5 := (AT_app.mp (AT_app.mp (AT_app.mp (AT_app.mp (AT_app.mp A).2).2).2).2).2
    have tb3 : TBl c (y + 1 + Y1.length + Y2.length) (o + O1.length + O2.length) Y3 O3 := by
      refine ⟨?_, ?_, by omega, by omega⟩
      · have := (T3_app.mp (T3_app.mp t1').2).2
        rw [show 820 * kn c 5 + (y + 1 + Y1.length + Y2.length) = 820 * kn c 5 + y + 1 + Y1.length + Y2.length by omega]; exact this
      · have := (T3_app.mp (T3_app.mp tb.2.1).2).2
        rw [show 700 * kn c 5 + (o + O1.length + O2.length) = 700 * kn c 5 + o + O1.length + O2.length by omega]; exact this
    exact (ph_al (n := n + 7) (E0 := c2 + L3.length + 1) K ih hD hd hT w1 hM h4 p3 ((AT_app.mp B5).1.at (by rw [one, one, one]; omega)) ((AT_app.mp B5).2.at (by rw [one, one, one]; omega)) tb3 (by omega) (by rw [eT']; exact t0.2.1) (by rw [eT']; exact t0.2.2) (by omega) z2).to (by omega) rfl
/-- statements, for every fuel -/
theorem sth (K : KXs c) (hM : ME (kT c) M) (h4 : M ≤ 4000) : ∀ N, STm c M N
  | 0 => fun tag d k k' T p y o L Y O fi e => e.elim
  | N + 1 => fun tag d k k' T p y o L Y O fi e hc hr D n A tb hp hD hd hk hn => by
    have ih := sth K hM h4 N
    refine ⟨fun z G => ?_, fun z G => ?_, fun z dd j e1 hj G => ?_, fun z j e0 w h1 h9 hj r x1 at_ ow dp en tp => ?_⟩
    · subst z
      have hD : D ≤ d := hD
      have e1 : CSs (kT c) (1 - kn c 5) (CE (kT c) N) (CSx (kT c) (1 - kn c 5) N) d k k' p y o L Y O := csx_1 e
      have klt := csx_lt e
      have kle := csx_le hM e hk
      rcases e1 with ⟨q, w⟩ | ⟨q, w⟩ | w | ⟨q, k1, L1, k2, L2, Y2, O2, c1, c2, p1, ec1, p2, ec2, w⟩ | ⟨q, k1, L1, L2, c1, p1, ec1, p2, eL⟩ | ⟨q, T', k1, L1, Y1, O1, k2, L2, Y2, O2, fi', c1, c2, eT, p1, ec1, p2, ec2, w⟩
      · obtain ⟨k1, L1, x1, x2, x3, x4, x5, -⟩ := w
        exact sx_simple (N := N) (n := n + 9) K hM h4 (by omega) hd (by omega) G hp (Or.inl ⟨q, k1, L1, x1, x2, x3, x4, x5⟩) A
      · obtain ⟨k1, L1, x1, x2, x3, x4, x5, -⟩ := w
        exact sx_simple (N := N) (n := n + 9) K hM h4 (by omega) hd (by omega) G hp (Or.inr (Or.inl ⟨q, k1, L1, x1, x2, x3, x4, x5⟩)) A
      · obtain ⟨k1, L1, x1, x2, x3, x4, -⟩ := w
        exact sx_simple (N := N) (n := n + 9) K hM h4 (by omega) hd (by omega) G hp (Or.inr (Or.inr ⟨k1, L1, x1, x2, x3, x4⟩)) A
      · exact sx_if K hM h4 ih q hd hD hn G hp A tb p1 ec1 p2 ec2 w
      · exact sx_wh K hM h4 ih q hd hD hn G hp A tb p1 ec1 p2 eL
      · exact sx_try K hM h4 ih q hd hD hn G hp A tb eT p1 ec1 p2 ec2 w
    · subst z
      exact sx_2 K hM h4 ih e G A tb hp hD hd hk hn
    · subst z; subst e1
      exact sx_0 K hM h4 ih e hj G A tb hp hD hd hk hn
    · subst z
      exact sx_12 K hM h4 ih e A tb hp hD hd hk hn h1 h9 hj r x1 at_ ow dp en tp
end STH
