/-! ===== RUN: the simple statements, on both sides: slide, bag, refuse ===== -/
section SMR
variable {c : CXm} {M N d k k' k1 D p n m : Nat} {hc hr hc1 hr1 : AH} {L L1 L2 : Cds}
theorem d_111 (a : Dd c D hc hr) {x2 x5 : Int32} {x3 x6 x8 : Int64} {u1 : Option Value} {p' k' : Nat} : StO c (Q n 338 111 [some (.ref 175), u1, some (.int x2), some (.long x3), none, some (.int x5), some (.long x6), none, some (.long x8), none] [.int (nI 0)] hc) hc1 hr D p' k' := by
  rw [t_338_111 a.shC, if_pos rfl]; exact ⟨_, rfl, Or.inr a⟩
theorem d_83 (a : Dd c D hc hr) (hn : 1 ≤ n) {x1 x2 x5 : Int32} {x3 x6 : Int64} {u8 u9 : Option Value} {p' k' : Nat} : StO c (Q n 338 83 [some (.ref 175), some (.int x1), some (.int x2), some (.long x3), none, some (.int x5), some (.long x6), none, u8, u9] [.int (nI 0)] hc) hc1 hr D p' k' := by
  have d2 := a.frC (at_1 hc).2.2
  rw [t_338_83 a.shC, if_pos rfl, cm_ngo d2.shC hn d2.ne, cK_v]; exact d_111 d2
theorem d_55 (a : Dd c D hc hr) (hn : 1 ≤ n) {x1 x2 x5 : Int32} {x3 : Int64} {u6 u7 u8 u9 : Option Value} {p' k' : Nat} : StO c (Q n 338 55 [some (.ref 175), some (.int x1), some (.int x2), some (.long x3), none, some (.int x5), u6, u7, u8, u9] [.int (nI 0)] hc) hc1 hr D p' k' := by
  have d2 := a.frC (at_1 hc).2.2
  rw [t_338_55 a.shC, if_pos rfl, cm_ngo d2.shC hn d2.ne, cK_v]; exact d_83 d2 hn
theorem d_37 (a : Dd c D hc hr) (hn : 1 ≤ n) {x1 x2 : Int32} {x3 : Int64} {u5 u6 u7 u8 u9 : Option Value} {p' k' : Nat} : StO c (Q n 338 37 [some (.ref 175), some (.int x1), some (.int x2), some (.long x3), none, u5, u6, u7, u8, u9] [.int (nI 0)] hc) hc1 hr D p' k' := by
  rw [t_338_37 a.shC, if_pos rfl, cm_ngo a.shC hn a.ne, cK_v]; exact d_55 a hn
/-- slide -/
theorem sm_133 (K : KXs c) (hM : ME (kT c) M) (h4 : M ≤ 4000) {k2 k3 k4 k5 : Nat} {L3 L4 L5 : Cds} (e1 : CE (kT c) N 10 d k k1 L1) (e2 : CE (kT c) N 3 d k1 k2 L2) (q2 : lk (kT c) k2 = 44) (e3 : CE (kT c) N 10 d (k2 + 1) k3 L3) (e4 : CE (kT c) N 3 d k3 k4 L4) (q4 : lk (kT c) k4 = 44) (e5 : CE (kT c) N 3 d (k4 + 1) k5 L5) (G : Gs c D 0 p k hc hr) (A : AT (hR c) (4400 * kn c 5 + p) (L1 ++ (L2 ++ (L3 ++ (L4 ++ (L5 ++ [(nI 34, nI 0)])))))) (hp : p + L1.length + L2.length + L3.length + L4.length + L5.length + 1 ≤ 4300) (hd : d ≤ 20) (hk : k ≤ M) (hn : 30 + 9 * (20 - d) ≤ n) : StO c (E n 338 [.ref 175, .int (nI d)] hc) hc hr D (p + L1.length + L2.length + L3.length + L4.length + L5.length + 1) (k5 + 1) := by
  obtain ⟨n, rfl⟩ : ∃ m, n = m + 1 := ⟨n - 1, by omega⟩
  have s := G.sC
  have hk1 := ce_le hM e1 hk
  have hk2 := ltk hM q2 (by decide)
  have hk3 := ce_le hM e3 (by omega)
  have hk4 := ltk hM q4 (by decide)
  have A2 := (AT_app.mp A).2.at (b := 4400 * kn c 5 + (p + L1.length)) (by omega)
  have A3 := (AT_app.mp A2).2.at (b := 4400 * kn c 5 + (p + L1.length + L2.length)) (by omega)
  have A4 := (AT_app.mp A3).2.at (b := 4400 * kn c 5 + (p + L1.length + L2.length + L3.length)) (by omega)
  have A5 := (AT_app.mp A4).2.at (b := 4400 * kn c 5 + (p + L1.length + L2.length + L3.length + L4.length)) (by omega)
  have A6 := (AT_app.mp A5).2.at (b := 4400 * kn c 5 + (p + L1.length + L2.length + L3.length + L4.length + L5.length)) (by omega)
  obtain ⟨x, h2, c1, c2⟩ := x10 (n := n) K hM h4 e1 G (AT_app.mp A).1 (by omega) hd hk (by omega) (by omega)
  rw [t_338 s, c1, cK_v]
  rcases c2 with ⟨⟨t, ht, rfl⟩, f1, st1, hr1, l1, g1, hf1, v1, b1⟩ | dd
  case inr =>
    have d2 := dd.frC (at_1 h2).2.2
    rw [t_338_5 dd.shC, cm_ngo dd.shC (by omega) dd.ne, cK_v, t_338_10 dd.shC, if_pos rfl, cm_ngo d2.shC (by omega) d2.ne, cK_v]
    exact d_37 d2 (by omega)
  obtain ⟨la, h3, c3, c4⟩ := x3 (n := n) K hM h4 e2 g1 (AT_app.mp A2).1 (by omega) hd hk1 (by omega) (by omega)
  rw [t_338_5 g1.sC, cm_go g1.sC (by omega) g1.2.1, cK_v, t_338_10 g1.sC, if_neg (by decide), c3, cK_v]
  obtain ⟨w1, w2, w3⟩ := at_1 h3
  rcases c4 with ⟨f2, st2, hr2, l2, g2, hf2, v2, b2⟩ | dd
  case inr =>
    have d2 := dd.frC w3
    rw [t_338_18 dd.shC, cm_ngo d2.shC (by omega) d2.ne, cK_v]
    exact d_37 (d2.pre l1 hf1) (by omega)
  have g2' := g2.at1
  obtain ⟨x, h5, c5, c6⟩ := x10 (n := n) K hM h4 e3 g2' (AT_app.mp A3).1 (by omega) hd (by omega) (by omega) (by omega)
  rw [t_338_18 g2.sC, cm_go g2'.sC (by omega) g2'.2.1, cK_v, t_338_37 g2'.sC, if_neg (by decide), c5, cK_v]
  rcases c6 with ⟨⟨u, hu, rfl⟩, f3, st3, hr3, l3, g3, hf3, v3, b3⟩ | dd
  case inr =>
    rw [t_338_45 dd.shC, cm_ngo dd.shC (by omega) dd.ne, cK_v]
    exact d_55 (dd.pre (l1.trans l2) (hf1.tr hf2)) (by omega)
  obtain ⟨lb, h6, c7, c8⟩ := x3 (n := n) K hM h4 e4 g3 (AT_app.mp A4).1 (by omega) hd hk3 (by omega) (by omega)
  rw [t_338_45 g3.sC, cm_go g3.sC (by omega) g3.2.1, cK_v, t_338_55 g3.sC, if_neg (by decide), c7, cK_v]
  obtain ⟨y1, y2, y3⟩ := at_1 h6
  rcases c8 with ⟨f4, st4, hr4, l4, g4, hf4, v4, b4⟩ | dd
  case inr =>
    have d2 := dd.frC y3
    rw [t_338_63 dd.shC, cm_ngo d2.shC (by omega) d2.ne, cK_v]
    exact d_83 (d2.pre (l1.trans (l2.trans l3)) (hf1.tr (hf2.tr hf3))) (by omega)
  have g4' := g4.at1
  obtain ⟨lm, h7, c9, c10⟩ := x3 (n := n) K hM h4 e5 g4' (AT_app.mp A5).1 (by omega) hd (by omega) (by omega) (by omega)
  rw [t_338_63 g4.sC, cm_go g4'.sC (by omega) g4'.2.1, cK_v, t_338_83 g4'.sC, if_neg (by decide), c9, cK_v]
  obtain ⟨z1, z2, z3⟩ := at_1 h7
  rcases c10 with ⟨f5, st5, hr5, l5, g5, hf5, v5, b5⟩ | dd
  case inr =>
    have d2 := dd.frC z3
    rw [t_338_91 dd.shC, cm_ngo d2.shC (by omega) d2.ne, cK_v]
    exact d_111 (d2.pre (l1.trans (l2.trans (l3.trans l4))) (hf1.tr (hf2.tr (hf3.tr hf4))))
  have g5' := g5.at1
  rw [t_338_91 g5.sC, cm_go g5'.sC (by omega) g5'.2.1, cK_v]
  have e1' : gB hr5 289 1 = la := by rw [b5 1 (by omega), b4 1 (by omega), b3 1 (by omega)]; exact v2
  have e2' : gB hr5 289 2 = (nI u).toInt64 := by rw [b5 2 (by omega), b4 2 (by omega)]; exact v3
  have e3' : gB hr5 289 3 = lb := by rw [b5 3 (by omega)]; exact v4
  have e0' : gB hr5 289 0 = (nI t).toInt64 := by rw [b5 0 (by omega), b4 0 (by omega), b3 0 (by omega), b2 0 (by omega)]; exact v1
  exact (b_slide (t := t) (u := u) (la := la) (lb := lb) (lm := lm) (n := n) K ht hu g5' e0' e1' e2' e3' v5 (by omega) A6 (by omega)).pre ((((((st1.tr st2).tr w2).tr st3).tr st4).tr y2).tr (st5.tr z2)) (l1.trans (l2.trans (l3.trans (l4.trans l5)))) (hf1.tr (hf2.tr (hf3.tr (hf4.tr hf5))))
/-- bag -/
theorem sm_134 (K : KXs c) (hM : ME (kT c) M) (h4 : M ≤ 4000) {k2 : Nat} (e : CE (kT c) N 9 d k k1 L1) (q1 : lk (kT c) k1 = 44) (e2 : CE (kT c) N 3 d (k1 + 1) k2 L2) (G : Gs c D 0 p k hc hr) (A : AT (hR c) (4400 * kn c 5 + p) (L1 ++ (L2 ++ [(nI 35, nI 0)]))) (hp : p + L1.length + L2.length + 1 ≤ 4300) (hd : d ≤ 20) (hk : k ≤ M) (hn : 30 + 9 * (20 - d) ≤ n) : StO c (E n 339 [.ref 175, .int (nI d)] hc) hc hr D (p + L1.length + L2.length + 1) (k2 + 1) := by
  obtain ⟨n, rfl⟩ : ∃ m, n = m + 1 := ⟨n - 1, by omega⟩
  have s := G.sC
  have hk1 := ltk hM q1 (by decide)
  have A2 := (AT_app.mp A).2.at (b := 4400 * kn c 5 + (p + L1.length)) (by omega)
  have A3 := (AT_app.mp A2).2.at (b := 4400 * kn c 5 + (p + L1.length + L2.length)) (by omega)
  obtain ⟨x, h2, c1, c2⟩ := x9 (n := n) K hM h4 e G (AT_app.mp A).1 (by omega) hd hk (by omega) (by omega)
  rw [t_339 s, c1, cK_v]
  obtain ⟨y1, y2, y3⟩ := at_1 h2
  rcases c2 with ⟨px, f1, st1, hr1, l1, g1, hf1, v1, b1⟩ | dd
  case inr =>
    have d2 := dd.frC y3
    rw [t_339_5 dd.shC, cm_ngo d2.shC (by omega) d2.ne, cK_v, t_339_20 d2.shC, if_pos rfl]
    exact StO.dx rfl d2
  have g1' := g1.at1
  obtain ⟨l, h3, c3, c4⟩ := x3 (n := n) K hM h4 e2 g1' (AT_app.mp A2).1 (by omega) hd (by omega) (by omega) (by omega)
  rw [t_339_5 g1.sC, cm_go g1'.sC (by omega) g1'.2.1, cK_v, t_339_20 g1'.sC, if_neg (by decide), c3, cK_v]
  obtain ⟨w1, w2, w3⟩ := at_1 h3
  rcases c4 with ⟨f2, st2, hr2, l2, g2, hf2, v2, b2⟩ | dd
  case inr =>
    have d2 := dd.frC w3
    rw [t_339_29 dd.shC, cm_ngo d2.shC (by omega) d2.ne, cK_v, t_339_44 d2.shC, if_pos rfl]
    exact StO.dx rfl (d2.pre l1 hf1)
  have g3 := g2.at1
  rw [t_339_29 g2.sC, cm_go g3.sC (by omega) g3.2.1, cK_v]
  exact (b_bag (x := x) (l := l) (n := n) K g3 (by rw [b2 0 (by omega)]; exact v1) px v2 (by omega) A3 (by omega)).pre (((st1.tr y2).tr st2).tr w2) (l1.trans l2) (hf1.tr hf2)
/-- refuse -/
theorem sm_135 (K : KXs c) (hM : ME (kT c) M) (h4 : M ≤ 4000) (e : CE (kT c) N 3 d k k1 L1) (G : Gs c D 0 p k hc hr) (A : AT (hR c) (4400 * kn c 5 + p) (L1 ++ [(nI 36, nI 0)])) (hp : p + L1.length + 1 ≤ 4300) (hd : d ≤ 20) (hk : k ≤ M) (hn : 30 + 9 * (20 - d) ≤ n) {p' k' : Nat} : StO c (E n 340 [.ref 175, .int (nI d)] hc) hc hr D p' k' := by
  obtain ⟨n, rfl⟩ : ∃ m, n = m + 1 := ⟨n - 1, by omega⟩
  have s := G.sC
  have A2 := (AT_app.mp A).2.at (b := 4400 * kn c 5 + (p + L1.length)) (by omega)
  obtain ⟨l, h2, c1, c2⟩ := x3 (n := n) K hM h4 e G (AT_app.mp A).1 (by omega) hd hk (by omega) (by omega)
  rw [t_340 s, c1, cK_v]
  rcases c2 with ⟨f1, st1, hr1, l1, g1, hf1, v1, b1⟩ | dd
  · obtain ⟨hc3, z1, z2, z3⟩ := b_refuse (n := n) K g1 v1 (by omega) A2 (by omega)
    rw [t_340_5 g1.sC, cm_go g1.sC (by omega) g1.2.1, cK_v, show klV (some (Value.int (nI d))) = some (Value.int (nI d)) from rfl, t_340_10 g1.sC, if_neg (by decide), z1, cK_n, t_340_24 z3.shC]
    exact StO.dx rfl (z3.pre l1 hf1)
  · rw [t_340_5 dd.shC, cm_ngo dd.shC (by omega) dd.ne, cK_v, show klV (some (Value.int (nI d))) = some (Value.int (nI d)) from rfl, t_340_10 dd.shC, if_pos rfl, t_340_24 dd.shC]
    exact StO.dx rfl dd
end SMR
