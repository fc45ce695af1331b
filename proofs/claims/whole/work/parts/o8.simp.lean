/-! ===== RUN: the simple statements, on both sides ===== -/
section SMP
variable {c : CXm} {M N d k k' k1 D p n m : Nat} {hc hr hc1 hr1 : AH} {L L1 L2 : Cds}
/-- an expression, then more: the rest of a statement -/
theorem CRm.mk (r : CRm c hc hr) : ix (gI hc 1552 175) ≤ ix (gI hc 1549 175) := by
  obtain ⟨r1, r2, r3, ty, a1, a2, p1, p2, mk, rf, m0, mm⟩ := r
  obtain ⟨n1, n2, n3, n4, n5, n6, n7, n8, n9, n10, n11, n12, n13, n14, n15, n16, n17⟩ := mm.2.2.2.2.1
  rw [n13, n1, ix_nI (by omega), ix_nI (by omega)]; exact n14
theorem StO.nx {q : Option Ot} (a : StO c q hc hr D p k) {u : Vs → AH → Option Ot} (hu : ∀ h', Sh h' → u [] h' = some (none, h')) : StO c (cK q u []) hc hr D p k := by
  obtain ⟨hc', a1, a3⟩ := a
  have s : Sh hc' := by
    rcases a3 with ⟨-, hr', -, g, -⟩ | dd
    · exact g.sC
    · exact dd.shC
  exact ⟨hc', by rw [a1, cK_n]; exact hu _ s, a3⟩
theorem StO.st {q : Option Ot} {hc0 : AH} (a : StO c q hc hr D p k) (b : stp1 hc0 hc) : StO c q hc0 hr D p k := a.pre b rfl HF.rf
theorem StO.to {q : Option Ot} {p' k' : Nat} (a : StO c q hc hr D p k) (e1 : p = p') (e2 : k = k') : StO c q hc hr D p' k' := by subst e1; subst e2; exact a
theorem ltk (hM : ME (kT c) M) {v : Nat} (q : lk (kT c) k = v) (hv : v ≠ 0) : k < M := hM.lk (by rw [q]; exact hv)
/-- a tray is told -/
theorem x10 (K : KXs c) (hM : ME (kT c) M) (h4 : M ≤ 4000) (e : CE (kT c) N 10 d k k' L) {T : Nat} (G : Gs c D T p k hc hr) (A : AT (hR c) (4400 * kn c 5 + p) L) (hp : p + L.length ≤ 4300) (hd : d ≤ 20) (hk : k ≤ M) (hT : T ≤ 1000) (hn : 25 + 9 * (20 - d) ≤ n) : EvI c trv (E n 364 [.ref 175, .int (nI d)] hc) hc hr D T (p + L.length) k' := by
  obtain ⟨m, rfl⟩ : ∃ m, n = m + 1 := ⟨n - 1, by omega⟩
  exact (exh K hM h4 N N (Nat.le_refl _) 10 d k k' L e hc hr D T p m G A hp hd hk (by show T + 8 * (21 - d) + 0 ≤ 1900; omega) (by omega)).2.2.2.2.2.2.2 rfl
theorem x3 (K : KXs c) (hM : ME (kT c) M) (h4 : M ≤ 4000) (e : CE (kT c) N 3 d k k' L) {T : Nat} (G : Gs c D T p k hc hr) (A : AT (hR c) (4400 * kn c 5 + p) L) (hp : p + L.length ≤ 4300) (hd : d ≤ 20) (hk : k ≤ M) (hT : T ≤ 1000) (hn : 27 + 9 * (20 - d) ≤ n) : EvL c (E n 361 [.ref 175, .int (nI d)] hc) hc hr D T (p + L.length) k' := by
  obtain ⟨m, rfl⟩ : ∃ m, n = m + 3 := ⟨n - 3, by omega⟩
  exact (exh K hM h4 N N (Nat.le_refl _) 3 d k k' L e hc hr D T p m G A hp hd hk (by show T + 8 * (21 - d) + 3 ≤ 1900; omega) (by omega)).1 rfl
theorem x9 (K : KXs c) (hM : ME (kT c) M) (h4 : M ≤ 4000) (e : CE (kT c) N 9 d k k' L) {T : Nat} (G : Gs c D T p k hc hr) (A : AT (hR c) (4400 * kn c 5 + p) L) (hp : p + L.length ≤ 4300) (hd : d ≤ 20) (hk : k ≤ M) (hT : T ≤ 1000) (hn : 24 + 9 * (20 - d) ≤ n) : EvI c (itv (kn c 6)) (E n 363 [.ref 175, .int (nI d)] hc) hc hr D T (p + L.length) k' :=
  (exh K hM h4 N N (Nat.le_refl _) 9 d k k' L e hc hr D T p n G A hp hd hk (by show T + 8 * (21 - d) + 0 ≤ 1900; omega) hn).2.2.2.2.2.2.1 rfl
/-- r = e; -/
theorem sm_4 (K : KXs c) (hM : ME (kT c) M) (h4 : M ≤ 4000) {a : Nat} (ha : a < 10) (e : CE (kT c) N 3 d (k + 1) k1 L1) (q : lk (kT c) k1 = 59) (G : Gs c D 0 p k hc hr) (A : AT (hR c) (4400 * kn c 5 + p) (L1 ++ [(nI 3, nI a)])) (hp : p + L1.length + 1 ≤ 4300) (hd : d ≤ 20) (hk : k + 1 ≤ M) (hn : 30 + 9 * (20 - d) ≤ n) : StO c (E n 331 [.ref 175, .int (nI a), .int (nI d)] hc) hc hr D (p + L1.length + 1) (k1 + 1) := by
  obtain ⟨n, rfl⟩ : ∃ m, n = m + 1 := ⟨n - 1, by omega⟩
  have s := G.sC
  obtain ⟨a1, a2, a3⟩ := at_1 hc
  have A2 := (AT_app.mp A).2
  rw [Nat.add_assoc] at A2
  obtain ⟨x, h2, c1, c2⟩ := x3 (n := n) K hM h4 e G.at1 (AT_app.mp A).1 (by omega) hd hk (by omega) (by omega)
  rw [t_331 s, c1, cK_v]
  rcases c2 with ⟨f1, st1, hr1, l1, g1, hf1, v1, b1⟩ | dd
  · obtain ⟨y1, y2, y3⟩ := at_1 h2
    have g2 := g1.at1
    obtain ⟨hr2, z1, z2, z3⟩ := b_set K g2 v1 ha (by omega) A2
    rw [t_331_15 g1.sC, cm_go g2.sC (by omega) g2.2.1, cK_v, t_331_30 g2.sC, if_neg (by decide), gd_nI ha (by decide), ix_nI (by omega)]
    exact StO.go rfl (a2.tr (st1.tr (y2.tr (stp1.of (K := []) (X := [176]) (Fr.rfl.sB (by decide)) List.not_mem_nil)))) (l1.trans z1) z2 (hf1.tr z3)
  · obtain ⟨y1, y2, y3⟩ := at_1 h2
    have d2 := dd.frC y3
    rw [t_331_15 dd.shC, cm_ngo d2.shC (by omega) d2.ne, cK_v, t_331_30 d2.shC, if_pos rfl]
    exact StO.dx rfl d2
end SMP
