/-! ===== RUN: items and what they are asked ===== -/
section LEJ
variable {c : CXm} {M N d k k' D T p n : Nat} {hc hr h1 : AH} {L : Cds}
theorem ex_9 (K : KXs c) (hM : ME (kT c) M) (h4 : M ≤ 4000) (ih : ∀ N', N' ≤ N → EXm c M N') (e : CE (kT c) (N + 1) 9 d k k' L) (G : Gs c D T p k hc hr) (A : AT (hR c) (4400 * kn c 5 + p) L) (hp : p + L.length ≤ 4300) (hd : d ≤ 20) (hk : k ≤ M) (hT : T + 8 * (21 - d) + 0 ≤ 1900) (hn : 24 + 9 * (20 - d) ≤ n) : EvI c (itv (kn c 6)) (E n 363 [.ref 175, .int (nI d)] hc) hc hr D T (p + L.length) k' := by
  obtain ⟨m, rfl⟩ : ∃ m, n = m + 1 := ⟨n - 1, by omega⟩
  have hd' := ce_d (Or.inr rfl) e
  have s := G.sC
  have sf : Sh (fet hr p) := fet_fr.sh (G.sR K)
  have lb := lk_b (t := kT c) (k := k)
  obtain ⟨a1, a2, a3⟩ := at_1 hc
  have G1 := G.at1
  have s1 := G1.sC
  obtain ⟨v, pe, pv⟩ := pre_363 (n := m) K G (by omega) hd' (by omega)
  have en : ∀ x, x < 2 ^ 31 → (nI (lk (kT c) k) = nI x) = (lk (kT c) k = x) := fun x hx => propext (nI_eq (by omega) hx)
  rw [pe, t_363_26 s]
  simp only [en 5 (by decide), en 154 (by decide), en 155 (by decide), en 156 (by decide)]
  rcases ce_1 e with ⟨q, ek, eL⟩ | ⟨q, ek, eL⟩ | ⟨q, L1, p1, eL⟩ | ⟨q, L1, p1, eL⟩ | ⟨q, L1, p1, eL⟩
  · have l3 := lk_reg.2 q
    have hv := pv (by rw [q]; decide)
    obtain ⟨h1, h2⟩ := G.1.hand (i := lkV (kT c) k) (by omega)
    rw [eL] at A
    have ok := o_4 (n := kn c 8 + 20) sf G.fT (by omega) (by omega) (a := lkV (kT c) k) (by omega)
    rw [gA_fet, ← h1] at ok
    rw [if_pos q, hv, gd_nI (by omega) (by decide), ix_nI (by omega), eL, ek]
    exact EvI.of h2 a1 a2 (Gv.op K G (by omega) A ok a3 G1.2.2.1 rfl)
  · rw [eL] at A
    have ok := o_1 (n := kn c 8 + 20) sf G.fT (by omega) (by omega) (-1)
    rw [if_neg (by omega), if_pos q, eL, ek]
    exact EvI.of (Or.inl rfl) a1 a2 (Gv.op K G (by omega) A ok a3 G1.2.2.1 rfl)
  · have hlen : L.length = L1.length + 1 := by rw [eL, List.length_append]; rfl
    have kM := hM.lk (k := k) (by omega)
    rw [eL] at A
    have A2 := (AT_app.mp A).2
    rw [Nat.add_assoc] at A2
    obtain ⟨x, hc1, c1, c2⟩ := (ih N (Nat.le_refl _) 8 (d + 1) (k + 1) k' L1 p1 _ hr D T p m G1 (AT_app.mp A).1 (by omega) (by omega) (by omega) (by show T + 8 * (21 - (d + 1)) + 0 ≤ _; omega) (by omega)).2.2.2.2.2.1 rfl
    rw [if_neg (by omega), if_neg (by omega), if_pos q, nI_add, c1, cK_v]
    have tl : ∀ {hd : AH}, Sh hd → ∀ x, Q m 363 97 [some (.ref 175), some (.int (nI d)), some (.int (nI (lk (kT c) k))), some (.int v)] [.long x, .ref 175] hd = cK (E m 385 [.ref 175, .long x] hd) (Q m 363 100 [some (.ref 175), some (.int (nI d)), some (.int (nI (lk (kT c) k))), some (.int v)]) [] := fun {hd} sd x => by
      rw [t_363_97 sd, ck_ok (show gC hd 175 = 6 from ShC sd (by decide))]
    have u100 : ∀ (z : Int32) h', Sh h' → Q m 363 100 [some (.ref 175), some (.int (nI d)), some (.int (nI (lk (kT c) k))), some (.int v)] [.int z] h' = some (some (.int z), h') := fun z h' s' => by rw [t_363_100 s']
    rcases c2 with ⟨f1, st1, hr1, l1, g1, hf1, v1, b1⟩ | dd
    · rw [tl g1.sC]
      have := (b_385 (n := m) K g1 v1 (by omega) (by omega) A2 (by omega)).nx u100
      rw [show p + L1.length + 1 = p + L.length by omega] at this
      exact this.pre (a1.trans f1) (a2.tr st1) l1 hf1 b1
    · rw [tl dd.shC]
      exact (dead_385 dd x (by omega)).nx u100
  · have hlen : L.length = L1.length + 1 := by rw [eL, List.length_append]; rfl
    have kM := hM.lk (k := k) (by omega)
    obtain ⟨m', rfl⟩ : ∃ m', m = m' + 5 + 1 := ⟨m - 6, by omega⟩
    rw [eL] at A
    obtain ⟨w, hc1, c1, c2⟩ := wh_399 (n := m') K hM h4 ih p1 G1 true (y := nI 0) A (by omega) (by omega) (by omega) (by omega) (by omega)
    rw [if_pos rfl] at c1
    have u108 : ∀ (z : Int32) h', Sh h' → Q (m' + 5 + 1) 363 108 [some (.ref 175), some (.int (nI d)), some (.int (nI (lk (kT c) k))), some (.int v)] [.int z] h' = some (some (.int z), h') := fun z h' s' => by rw [t_363_108 s']
    rw [if_neg (by omega), if_neg (by omega), if_neg (by omega), if_pos q, nI_add]
    refine EvI.nx ?_ u108
    rw [t_386 s1, c1, cK_v]
    rcases c2 with ⟨a, wa, ha, ty, f1, st1, gv⟩ | ⟨wa, dd⟩
    · obtain ⟨u, u1, u2⟩ := ty rfl
      have s2 : Sh hc1 := by obtain ⟨hr', -, g, -⟩ := gv; exact g.sC
      rw [t_386_6 s2, wa, if_neg (fun z => by have : ¬ nI a < nI 0 := nI_nlt (by omega) (by omega); rw [z] at this; exact this (by decide)), gd_nI ha (by decide), ix_nI (by omega), u2, i3264]
      rw [u2, show p + L1.length + 1 = p + L.length by omega] at gv
      exact EvI.of u1 (a1.trans f1) (a2.tr st1) gv
    · rw [t_386_6 dd.shC, wa, if_pos rfl]
      exact EvI.dd dd
  · have hlen : L.length = L1.length + 1 := by rw [eL, List.length_append]; rfl
    have kM := hM.lk (k := k) (by omega)
    rw [eL] at A
    have A2 := (AT_app.mp A).2
    rw [Nat.add_assoc] at A2
    obtain ⟨x, hc1, c1, c2⟩ := (ih N (Nat.le_refl _) 9 (d + 1) (k + 1) k' L1 p1 _ hr D T p m G1 (AT_app.mp A).1 (by omega) (by omega) (by omega) (by show T + 8 * (21 - (d + 1)) + 0 ≤ _; omega) (by omega)).2.2.2.2.2.2.1 rfl
    rw [if_neg (by omega), if_neg (by omega), if_neg (by omega), if_neg (by omega), nI_add, c1, cK_v, pk_sub (by omega)]
    have u125 : ∀ (z : Int32) h', Sh h' → Q m 363 125 [some (.ref 175), some (.int (nI d)), some (.int (nI (lk (kT c) k))), some (.int v)] [.int z] h' = some (some (.int z), h') := fun z h' s' => by rw [t_363_125 s']
    have tl : ∀ {hd : AH}, Sh hd → Q m 363 122 [some (.ref 175), some (.int (nI d)), some (.int (nI (lk (kT c) k))), some (.int v)] [.int x, .int (nI (lk (kT c) k - 157)), .ref 175] hd = cK (E m 387 [.ref 175, .int (nI (lk (kT c) k - 157)), .int x] hd) (Q m 363 125 [some (.ref 175), some (.int (nI d)), some (.int (nI (lk (kT c) k))), some (.int v)]) [] := fun {hd} sd => by
      rw [t_363_122 sd, ck_ok (show gC hd 175 = 6 from ShC sd (by decide))]
    rcases c2 with ⟨px, f1, st1, hr1, l1, g1, hf1, v1, b1⟩ | dd
    · rw [tl g1.sC]
      have := (b_387 (n := m) K (kd := lk (kT c) k - 157) (by omega) g1 v1 px (by omega) (by omega) A2 (by omega)).nx u125
      rw [show p + L1.length + 1 = p + L.length by omega] at this
      exact this.pre (a1.trans f1) (a2.tr st1) l1 hf1 b1
    · rw [tl dd.shC]
      exact (dead_387 dd _ x (by omega)).nx u125
end LEJ
