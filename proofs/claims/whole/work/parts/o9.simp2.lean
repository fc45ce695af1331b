/-! ===== RUN: the simple statements, on both sides, one by one ===== -/
theorem AT.at {h : AH} {a b : Nat} {L : Cds} (A : AT h a L) (e : a = b) : AT h b L := e ▸ A
section SMQ
variable {c : CXm} {M N d k k' k1 D p n m : Nat} {hc hr hc1 hr1 : AH} {L L1 L2 : Cds}
/-- x = i; -/
theorem sm_5 (K : KXs c) (hM : ME (kT c) M) (h4 : M ≤ 4000) {a : Nat} (ha : a < 4) (e : CE (kT c) N 9 d (k + 1) k1 L1) (q : lk (kT c) k1 = 59) (G : Gs c D 0 p k hc hr) (A : AT (hR c) (4400 * kn c 5 + p) (L1 ++ [(nI 5, nI a)])) (hp : p + L1.length + 1 ≤ 4300) (hd : d ≤ 20) (hk : k + 1 ≤ M) (hn : 30 + 9 * (20 - d) ≤ n) : StO c (E n 332 [.ref 175, .int (nI a), .int (nI d)] hc) hc hr D (p + L1.length + 1) (k1 + 1) := by
  obtain ⟨n, rfl⟩ : ∃ m, n = m + 1 := ⟨n - 1, by omega⟩
  have s := G.sC
  obtain ⟨a1, a2, a3⟩ := at_1 hc
  have A2 := (AT_app.mp A).2
  rw [Nat.add_assoc] at A2
  obtain ⟨x, h2, c1, c2⟩ := x9 (n := n) K hM h4 e G.at1 (AT_app.mp A).1 (by omega) hd hk (by omega) (by omega)
  rw [t_332 s, c1, cK_v]
  rcases c2 with ⟨px, f1, st1, hr1, l1, g1, hf1, v1, b1⟩ | dd
  · obtain ⟨y1, y2, y3⟩ := at_1 h2
    have g2 := g1.at1
    obtain ⟨hr2, z1, z2, z3⟩ := b_hand K g2 v1 px ha (by omega) A2
    rw [t_332_15 g1.sC, cm_go g2.sC (by omega) g2.2.1, cK_v, t_332_30 g2.sC, if_neg (by decide), gd_nI ha (by decide), ix_nI (by omega)]
    exact StO.go rfl (a2.tr (st1.tr (y2.tr (stp1.of (K := []) (X := [177]) (Fr.rfl.sA (by decide)) List.not_mem_nil)))) (l1.trans z1) z2 (hf1.tr z3)
  · obtain ⟨y1, y2, y3⟩ := at_1 h2
    have d2 := dd.frC y3
    rw [t_332_15 dd.shC, cm_ngo d2.shC (by omega) d2.ne, cK_v, t_332_30 d2.shC, if_pos rfl]
    exact StO.dx rfl d2
/-- make -/
theorem sm_128 (K : KXs c) (hM : ME (kT c) M) (h4 : M ≤ 4000) {k2 : Nat} (e : CE (kT c) N 10 d k k1 L1) (q : 160 ≤ lk (kT c) k1 ∧ lk (kT c) k1 ≤ 171) (e2 : CE (kT c) N 3 d (k1 + 1) k2 L2) (G : Gs c D 0 p k hc hr) (hmk : ix (gI hc 1552 175) + 1 ≤ ix (gI hc 1549 175)) (A : AT (hR c) (4400 * kn c 5 + p) (L1 ++ (L2 ++ [(nI 29, nI (lk (kT c) k1 - 160 + 1))]))) (hp : p + L1.length + L2.length + 1 ≤ 4300) (hd : d ≤ 20) (hk : k ≤ M) (hn : 30 + 9 * (20 - d) ≤ n) : StO c (E n 333 [.ref 175, .int (nI d)] hc) hc hr D (p + L1.length + L2.length + 1) (k2 + 1) := by
  obtain ⟨n, rfl⟩ : ∃ m, n = m + 1 := ⟨n - 1, by omega⟩
  have s := G.sC
  have hk1 := ce_le hM e hk
  have km := hM.lk (k := k1) (by omega)
  have lb := lk_b (t := kT c) (k := k1)
  have A2 := (AT_app.mp A).2
  rw [Nat.add_assoc] at A2
  have A3 := (AT_app.mp A2).2
  rw [Nat.add_assoc, Nat.add_assoc] at A3
  obtain ⟨x, h2, c1, c2⟩ := x10 (n := n) K hM h4 e G (AT_app.mp A).1 (by omega) hd hk (by omega) (by omega)
  rw [t_333 s, c1, cK_v]
  rcases c2 with ⟨⟨t, ht, rfl⟩, f1, st1, hr1, l1, g1, hf1, v1, b1⟩ | dd
  · obtain ⟨y1, y2, y3⟩ := at_1 h2
    obtain ⟨l, h3, c3, c4⟩ := x3 (n := n) K hM h4 e2 g1.at1 (AT_app.mp A2).1 (by omega) hd (by omega) (by omega) (by omega)
    rw [t_333_5 g1.sC, cm_go g1.sC (by omega) g1.2.1, cK_v, t_333_10 g1.sC, if_neg (by decide), cm_peek g1.1.ci K (by omega) (by omega) g1.2.2.1, cK_v, t_333_18 g1.sC, c3, cK_v, pk_sub (by omega), nI_add]
    obtain ⟨w1, w2, w3⟩ := at_1 h3
    rcases c4 with ⟨f2, st2, hr2, l2, g2, hf2, v2, b2⟩ | dd
    · have g3 := g2.at1
      rw [t_333_40 g2.sC, cm_go g3.sC (by omega) g3.2.1, cK_v]
      have fe := ((f1.trans y1).trans f2).trans w1
      have stt := ((st1.tr y2).tr st2).tr w2
      refine ((b_make (t := t) (l := l) (kk := lk (kT c) k1 - 160 + 1) (n := n) K ht (by omega) g3 (by rw [b2 0 (by omega)]; exact v1) v2 ?_ (by omega) (A3.at (by omega)) (by omega)).pre stt (l1.trans l2) (hf1.tr hf2)).to (by omega) rfl
      have := stt
      unfold stp1 at this
      rw [fe.I (by decide)]; omega
    · have d2 := dd.frC w3
      rw [t_333_40 dd.shC, cm_ngo d2.shC (by omega) d2.ne, cK_v, t_333_56 d2.shC, if_pos rfl]
      exact StO.dx rfl (d2.pre l1 hf1)
  · rw [t_333_5 dd.shC, cm_ngo dd.shC (by omega) dd.ne, cK_v, t_333_10 dd.shC, if_pos rfl]
    exact StO.dx rfl dd
/-- drop -/
theorem sm_129 (K : KXs c) (hM : ME (kT c) M) (h4 : M ≤ 4000) (e : CE (kT c) N 10 d k k1 L1) (G : Gs c D 0 p k hc hr) (A : AT (hR c) (4400 * kn c 5 + p) (L1 ++ [(nI 30, nI 0)])) (hp : p + L1.length + 1 ≤ 4300) (hd : d ≤ 20) (hk : k ≤ M) (hn : 30 + 9 * (20 - d) ≤ n) : StO c (E n 334 [.ref 175, .int (nI d)] hc) hc hr D (p + L1.length + 1) (k1 + 1) := by
  obtain ⟨n, rfl⟩ : ∃ m, n = m + 1 := ⟨n - 1, by omega⟩
  have s := G.sC
  have A2 := (AT_app.mp A).2
  rw [Nat.add_assoc] at A2
  obtain ⟨x, h2, c1, c2⟩ := x10 (n := n) K hM h4 e G (AT_app.mp A).1 (by omega) hd hk (by omega) (by omega)
  rw [t_334 s, c1, cK_v]
  obtain ⟨y1, y2, y3⟩ := at_1 h2
  rcases c2 with ⟨⟨t, ht, rfl⟩, f1, st1, hr1, l1, g1, hf1, v1, b1⟩ | dd
  · have g2 := g1.at1
    obtain ⟨hr2, z1, z2, z3⟩ := b_drop K ht g2 v1 (by omega) A2
    rw [t_334_5 g1.sC, cm_go g2.sC (by omega) g2.2.1, cK_v, show klV (some (Value.int (nI d))) = some (Value.int (nI d)) from rfl, t_334_20 g2.sC, if_neg (by decide), gd_nI ht (by decide), ix_nI (by omega)]
    exact StO.go rfl (st1.tr (y2.tr (stp1.of (K := []) (X := [178]) (Fr.rfl.sA (by decide)) List.not_mem_nil))) (l1.trans z1) z2 (hf1.tr z3)
  · have d2 := dd.frC y3
    rw [t_334_5 dd.shC, cm_ngo d2.shC (by omega) d2.ne, cK_v, show klV (some (Value.int (nI d))) = some (Value.int (nI d)) from rfl, t_334_20 d2.shC, if_pos rfl]
    exact StO.dx rfl d2
/-- same -/
theorem sm_130 (K : KXs c) (hM : ME (kT c) M) (h4 : M ≤ 4000) {k2 : Nat} (e : CE (kT c) N 10 d k k1 L1) (e2 : CE (kT c) N 10 d k1 k2 L2) (G : Gs c D 0 p k hc hr) (A : AT (hR c) (4400 * kn c 5 + p) (L1 ++ (L2 ++ [(nI 31, nI 0)]))) (hp : p + L1.length + L2.length + 1 ≤ 4300) (hd : d ≤ 20) (hk : k ≤ M) (hn : 30 + 9 * (20 - d) ≤ n) : StO c (E n 335 [.ref 175, .int (nI d)] hc) hc hr D (p + L1.length + L2.length + 1) (k2 + 1) := by
  obtain ⟨n, rfl⟩ : ∃ m, n = m + 1 := ⟨n - 1, by omega⟩
  have s := G.sC
  have hk1 := ce_le hM e hk
  have A2 := (AT_app.mp A).2
  rw [Nat.add_assoc] at A2
  have A3 := (AT_app.mp A2).2
  rw [Nat.add_assoc, Nat.add_assoc] at A3
  obtain ⟨x, h2, c1, c2⟩ := x10 (n := n) K hM h4 e G (AT_app.mp A).1 (by omega) hd hk (by omega) (by omega)
  rw [t_335 s, c1, cK_v]
  rcases c2 with ⟨⟨t, ht, rfl⟩, f1, st1, hr1, l1, g1, hf1, v1, b1⟩ | dd
  · obtain ⟨x2, h3, c3, c4⟩ := x10 (n := n) K hM h4 e2 g1 (AT_app.mp A2).1 (by omega) hd hk1 (by omega) (by omega)
    rw [t_335_5 g1.sC, cm_go g1.sC (by omega) g1.2.1, cK_v, t_335_10 g1.sC, if_neg (by decide), c3, cK_v]
    obtain ⟨w1, w2, w3⟩ := at_1 h3
    rcases c4 with ⟨⟨u, hu, rfl⟩, f2, st2, hr2, l2, g2, hf2, v2, b2⟩ | dd
    · have g3 := g2.at1
      obtain ⟨hr3, z1, z2, z3⟩ := b_same K ht hu g3 (by rw [b2 0 (by omega)]; exact v1) v2 (by omega) (A3.at (by omega))
      rw [t_335_19 g2.sC, cm_go g3.sC (by omega) g3.2.1, cK_v, t_335_34 g3.sC, if_neg (by decide), gd_nI hu (by decide), gd_nI ht (by decide), gd_nI hu (by decide), gd_nI ht (by decide), gd_nI hu (by decide), gd_nI ht (by decide), gd_nI hu (by decide), gd_nI ht (by decide), ix_nI (by omega), ix_nI (by omega)]
      refine StO.go rfl (st1.tr (st2.tr (w2.tr (stp1.of (K := []) (X := [178, 179, 180, 181]) ((((Fr.rfl.sA (by decide)).sA (by decide)).sA (by decide)).sA (by decide)) List.not_mem_nil)))) (l1.trans (l2.trans z1)) z2 (hf1.tr (hf2.tr z3))
    · have d2 := dd.frC w3
      rw [t_335_19 dd.shC, cm_ngo d2.shC (by omega) d2.ne, cK_v, t_335_34 d2.shC, if_pos rfl]
      exact StO.dx rfl (d2.pre l1 hf1)
  · rw [t_335_5 dd.shC, cm_ngo dd.shC (by omega) dd.ne, cK_v, t_335_10 dd.shC, if_pos rfl]
    exact StO.dx rfl dd
/-- a tray and a place: what is told behind both -/
theorem x11 (K : KXs c) (hM : ME (kT c) M) (h4 : M ≤ 4000) (e : CE (kT c) N 11 d k k1 L1) : ∃ N' ka kb La Lb, CE (kT c) N' 10 d k ka La ∧ lk (kT c) ka = 91 ∧ CE (kT c) N' 3 d (ka + 1) kb Lb ∧ lk (kT c) kb = 93 ∧ k1 = kb + 1 ∧ L1 = La ++ Lb := by
  cases N with
  | zero => exact e.elim
  | succ N =>
    obtain ⟨ka, La, kb, Lb, p1, q1, p2, q2, ek, eL⟩ := ce_1 e
    exact ⟨N, ka, kb, La, Lb, p1, q1, p2, q2, ek, eL⟩
/-- put -/
theorem sm_131 (K : KXs c) (hM : ME (kT c) M) (h4 : M ≤ 4000) {k2 : Nat} (e : CE (kT c) N 11 d k k1 L1) (e2 : CE (kT c) N 3 d k1 k2 L2) (G : Gs c D 0 p k hc hr) (A : AT (hR c) (4400 * kn c 5 + p) (L1 ++ (L2 ++ [(nI 32, nI 0)]))) (hp : p + L1.length + L2.length + 1 ≤ 4300) (hd : d ≤ 20) (hk : k ≤ M) (hn : 30 + 9 * (20 - d) ≤ n) : StO c (E n 336 [.ref 175, .int (nI d)] hc) hc hr D (p + L1.length + L2.length + 1) (k2 + 1) := by
  obtain ⟨n, rfl⟩ : ∃ m, n = m + 2 := ⟨n - 2, by omega⟩
  have s := G.sC
  obtain ⟨N', ka, kb, La, Lb, p1, q1, p2, q2, ek, eL⟩ := x11 K hM h4 e
  have hk1 := ce_le hM p1 hk
  have kM1 := ltk hM q1 (by decide)
  have hk2 := ce_le hM p2 (by omega)
  have kM2 := ltk hM q2 (by decide)
  have hlen : L1.length = La.length + Lb.length := by rw [eL, List.length_append]
  rw [eL, List.append_assoc] at A
  have A2 := (AT_app.mp A).2
  rw [Nat.add_assoc] at A2
  have A3 := (AT_app.mp A2).2
  rw [Nat.add_assoc] at A3
  have A4 := (AT_app.mp A3).2
  rw [Nat.add_assoc] at A4
  obtain ⟨x, h2, c1, c2⟩ := x10 (n := n + 1) K hM h4 p1 G (AT_app.mp A).1 (by omega) hd hk (by omega) (by omega)
  rw [t_336 s, c1, cK_v]
  rcases c2 with ⟨⟨t, ht, rfl⟩, f1, st1, hr1, l1, g1, hf1, v1, b1⟩ | dd
  · obtain ⟨y1, y2, y3⟩ := at_1 h2
    obtain ⟨l, h3, c3, c4⟩ := x3 (n := n) K hM h4 p2 g1.at1 (AT_app.mp A2).1 (by omega) hd (by omega) (by omega) (by omega)
    rw [t_336_5 g1.sC, cm_go g1.sC (by omega) g1.2.1, cK_v, t_336_10 g1.sC, if_neg (by decide), t_367 g1.sC, c3, cK_v]
    obtain ⟨w1, w2, w3⟩ := at_1 h3
    rcases c4 with ⟨f2, st2, hr2, l2, g2, hf2, v2, b2⟩ | dd
    · have g3 := g2.at1
      rw [t_367_15 g2.sC, cK_v, t_336_19 g3.sC, cm_go g3.sC (by omega) g3.2.1, cK_v, t_336_24 g3.sC, if_neg (by decide)]
      obtain ⟨x, h4', c5, c6⟩ := x3 (n := n + 1) (k := k1) K hM h4 e2 (by rw [ek]; exact g3) ((AT_app.mp A3).1.at (by omega)) (by omega) hd (by omega) (by omega) (by omega)
      rw [c5, cK_v]
      obtain ⟨u1, u2, u3⟩ := at_1 h4'
      rcases c6 with ⟨f3, st3, hr3, l3, g4, hf3, v3, b3⟩ | dd
      · have g5 := g4.at1
        rw [t_336_33 g4.sC, cm_go g5.sC (by omega) g5.2.1, cK_v, t_336_49 g5.sC, if_neg (by decide)]
        refine ((b_put (t := t) (l := l) (x := x) (n := n + 1) K ht g5 (by rw [b3 0 (by omega), b2 0 (by omega)]; exact v1) (by rw [b3 1 (by omega)]; exact v2) v3 (by omega) (A4.at (by omega)) (by omega)).pre (((((st1.tr y2).tr st2).tr w2).tr st3).tr u2) (l1.trans (l2.trans l3)) (hf1.tr (hf2.tr hf3))).to (by omega) rfl
      · have d2 := dd.frC u3
        rw [t_336_33 dd.shC, cm_ngo d2.shC (by omega) d2.ne, cK_v, t_336_49 d2.shC, if_pos rfl]
        exact StO.dx rfl (d2.pre (l1.trans l2) (hf1.tr hf2))
    · have d2 := dd.frC w3
      rw [t_367_15 dd.shC, cK_v, t_336_19 d2.shC, cm_ngo d2.shC (by omega) d2.ne, cK_v, t_336_24 d2.shC, if_pos rfl]
      exact StO.dx rfl (d2.pre l1 hf1)
  · rw [t_336_5 dd.shC, cm_ngo dd.shC (by omega) dd.ne, cK_v, t_336_10 dd.shC, if_pos rfl]
    exact StO.dx rfl dd
/-- lay -/
theorem sm_132 (K : KXs c) (hM : ME (kT c) M) (h4 : M ≤ 4000) {k2 : Nat} (e : CE (kT c) N 11 d k k1 L1) (e2 : CE (kT c) N 9 d k1 k2 L2) (G : Gs c D 0 p k hc hr) (A : AT (hR c) (4400 * kn c 5 + p) (L1 ++ (L2 ++ [(nI 33, nI 0)]))) (hp : p + L1.length + L2.length + 1 ≤ 4300) (hd : d ≤ 20) (hk : k ≤ M) (hn : 30 + 9 * (20 - d) ≤ n) : StO c (E n 337 [.ref 175, .int (nI d)] hc) hc hr D (p + L1.length + L2.length + 1) (k2 + 1) := by
  obtain ⟨n, rfl⟩ : ∃ m, n = m + 2 := ⟨n - 2, by omega⟩
  have s := G.sC
  obtain ⟨N', ka, kb, La, Lb, p1, q1, p2, q2, ek, eL⟩ := x11 K hM h4 e
  have hk1 := ce_le hM p1 hk
  have kM1 := ltk hM q1 (by decide)
  have hk2 := ce_le hM p2 (by omega)
  have kM2 := ltk hM q2 (by decide)
  have hlen : L1.length = La.length + Lb.length := by rw [eL, List.length_append]
  rw [eL, List.append_assoc] at A
  have A2 := (AT_app.mp A).2
  rw [Nat.add_assoc] at A2
  have A3 := (AT_app.mp A2).2
  rw [Nat.add_assoc] at A3
  have A4 := (AT_app.mp A3).2
  rw [Nat.add_assoc] at A4
  obtain ⟨x, h2, c1, c2⟩ := x10 (n := n + 1) K hM h4 p1 G (AT_app.mp A).1 (by omega) hd hk (by omega) (by omega)
  rw [t_337 s, c1, cK_v]
  rcases c2 with ⟨⟨t, ht, rfl⟩, f1, st1, hr1, l1, g1, hf1, v1, b1⟩ | dd
  · obtain ⟨y1, y2, y3⟩ := at_1 h2
    obtain ⟨l, h3, c3, c4⟩ := x3 (n := n) K hM h4 p2 g1.at1 (AT_app.mp A2).1 (by omega) hd (by omega) (by omega) (by omega)
    rw [t_337_5 g1.sC, cm_go g1.sC (by omega) g1.2.1, cK_v, t_337_10 g1.sC, if_neg (by decide), t_367 g1.sC, c3, cK_v]
    obtain ⟨w1, w2, w3⟩ := at_1 h3
    rcases c4 with ⟨f2, st2, hr2, l2, g2, hf2, v2, b2⟩ | dd
    · have g3 := g2.at1
      rw [t_367_15 g2.sC, cK_v, t_337_19 g3.sC, cm_go g3.sC (by omega) g3.2.1, cK_v, t_337_24 g3.sC, if_neg (by decide)]
      obtain ⟨x, h4', c5, c6⟩ := x9 (n := n + 1) (k := k1) K hM h4 e2 (by rw [ek]; exact g3) ((AT_app.mp A3).1.at (by omega)) (by omega) hd (by omega) (by omega) (by omega)
      rw [c5, cK_v]
      obtain ⟨u1, u2, u3⟩ := at_1 h4'
      rcases c6 with ⟨px, f3, st3, hr3, l3, g4, hf3, v3, b3⟩ | dd
      · have g5 := g4.at1
        rw [t_337_33 g4.sC, cm_go g5.sC (by omega) g5.2.1, cK_v, t_337_49 g5.sC, if_neg (by decide)]
        refine ((b_lay (t := t) (l := l) (x := x) (n := n + 1) K ht g5 (by rw [b3 0 (by omega), b2 0 (by omega)]; exact v1) (by rw [b3 1 (by omega)]; exact v2) v3 px (by omega) (A4.at (by omega)) (by omega)).pre (((((st1.tr y2).tr st2).tr w2).tr st3).tr u2) (l1.trans (l2.trans l3)) (hf1.tr (hf2.tr hf3))).to (by omega) rfl
      · have d2 := dd.frC u3
        rw [t_337_33 dd.shC, cm_ngo d2.shC (by omega) d2.ne, cK_v, t_337_49 d2.shC, if_pos rfl]
        exact StO.dx rfl (d2.pre (l1.trans l2) (hf1.tr hf2))
    · have d2 := dd.frC w3
      rw [t_367_15 dd.shC, cK_v, t_337_19 d2.shC, cm_ngo d2.shC (by omega) d2.ne, cK_v, t_337_24 d2.shC, if_pos rfl]
      exact StO.dx rfl (d2.pre l1 hf1)
  · rw [t_337_5 dd.shC, cm_ngo dd.shC (by omega) dd.ne, cK_v, t_337_10 dd.shC, if_pos rfl]
    exact StO.dx rfl dd
end SMQ
