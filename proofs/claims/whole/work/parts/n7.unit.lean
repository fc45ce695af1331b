/-! ===== RUN: a unit, on both sides; expressions for every fuel ===== -/
section LEU
variable {c : CXm} {M N d k k' D T p n : Nat} {hc hr h1 : AH} {L : Cds}
theorem Gs.tray (g : Gs c D T p k hc hr) {t : Nat} (ht : t < 12) : ∃ kk f z, TRx hc hr (kn c 6) t kk f z := g.1.tr ht
/-- a tray's size -/
theorem b_395 (K : KXs c) (hM : ME (kT c) M) (h4 : M ≤ 4000) (ih : EXm c M N) {L1 : Cds} (p1 : CE (kT c) N 10 d k k' L1) (G : Gs c D T p k hc hr) (A : AT (hR c) (4400 * kn c 5 + p) (L1 ++ [(nI 15, nI 0)])) (hp : p + L1.length + 1 ≤ 4300) (hd : d ≤ 20) (hk : k ≤ M) (hT : T + 8 * (21 - d) + 0 ≤ 1900) (hn : 24 + 9 * (20 - d) ≤ n) : EvL c (E (n + 2) 395 [.ref 175, .int (nI d)] hc) hc hr D T (p + L1.length + 1) k' := by
  have sC := G.sC
  have A2 := (AT_app.mp A).2
  rw [Nat.add_assoc] at A2
  obtain ⟨x, hc1, a1, a2⟩ := (ih 10 d k k' L1 p1 hc hr D T p n G (AT_app.mp A).1 (by omega) hd hk hT hn).2.2.2.2.2.2.2 rfl
  rw [t_395 sC, a1, cK_v]
  rcases a2 with ⟨⟨t, ht, rfl⟩, f1, st1, hr1, l1, g1, hf1, v1, b1⟩ | dd
  · have s1 := g1.sC
    have sf : Sh (fet hr1 (p + L1.length)) := fet_fr.sh (g1.sR K)
    obtain ⟨kk, f, z, X⟩ := g1.1.tr ht
    rw [t_395_5 s1, cm_go s1 (by omega) g1.2.1, cK_v, show klV (some (Value.int (nI d))) = some (Value.int (nI d)) from rfl, t_395_10 s1, if_neg (by decide), gd_nI ht (by decide), ix_nI (by omega), X.1]
    rcases X.2.2.1 with ⟨k0, r1⟩ | ⟨q, k1, k2, r1, hq, r2, r3, r4⟩
    · obtain ⟨hc4, z1, z2, z3⟩ := Dd.op K g1 (by omega) A2 (o_15r (n := kn c 8 + 20) sf g1.fT fet_c (by omega) (by omega) (nI 0) ht (by rw [gB_fet]; exact v1) (by rw [gA_fet]; exact r1)) (by decide) (Fr.rfl : Fr [1545] [] hc1 hc1) (n := n + 1) (by omega)
      rw [if_pos (by rw [k0]), z1, cK_n, t_395_29 z3.shC]
      exact EvL.dd (z3.pre l1 hf1)
    · have ok := o_15 (n := kn c 8 + 20) sf g1.fT (by omega) (by omega) (nI 0) ht (by rw [gB_fet]; exact v1) hq (by rw [gA_fet]; exact r1)
      rw [gA_fet, r4, ← (X.2.2.2.1 (by omega)).2] at ok
      rw [if_neg (fun w => absurd ((nI_eq (by omega) (by decide)).mp w) (by omega)), gd_nI ht (by decide)]
      exact EvL.of f1 st1 ((Gv.op K g1 (by omega) A2 ok Fr.rfl g1.2.2.1 rfl).pre l1 hf1 b1)
  · have s := dd.shC
    rw [t_395_5 s, cm_ngo s (by omega) dd.ne, cK_v]
    rw [show klV (some (Value.int (nI d))) = some (Value.int (nI d)) from rfl, t_395_10 s, if_pos rfl]
    exact EvL.dd dd
/-- a tray's kind -/
theorem b_396 (K : KXs c) (hM : ME (kT c) M) (h4 : M ≤ 4000) (ih : EXm c M N) {L1 : Cds} (p1 : CE (kT c) N 10 d k k' L1) (G : Gs c D T p k hc hr) (A : AT (hR c) (4400 * kn c 5 + p) (L1 ++ [(nI 16, nI 0)])) (hp : p + L1.length + 1 ≤ 4300) (hd : d ≤ 20) (hk : k ≤ M) (hT : T + 8 * (21 - d) + 0 ≤ 1900) (hn : 24 + 9 * (20 - d) ≤ n) : EvL c (E (n + 2) 396 [.ref 175, .int (nI d)] hc) hc hr D T (p + L1.length + 1) k' := by
  have sC := G.sC
  have A2 := (AT_app.mp A).2
  rw [Nat.add_assoc] at A2
  obtain ⟨x, hc1, a1, a2⟩ := (ih 10 d k k' L1 p1 hc hr D T p n G (AT_app.mp A).1 (by omega) hd hk hT hn).2.2.2.2.2.2.2 rfl
  rw [t_396 sC, a1, cK_v]
  rcases a2 with ⟨⟨t, ht, rfl⟩, f1, st1, hr1, l1, g1, hf1, v1, b1⟩ | dd
  · have s1 := g1.sC
    have sf : Sh (fet hr1 (p + L1.length)) := fet_fr.sh (g1.sR K)
    obtain ⟨kk, f, z, X⟩ := g1.1.tr ht
    rw [t_396_5 s1, cm_go s1 (by omega) g1.2.1, cK_v, show klV (some (Value.int (nI d))) = some (Value.int (nI d)) from rfl, t_396_10 s1, if_neg (by decide), gd_nI ht (by decide), ix_nI (by omega), X.1]
    refine EvL.of f1 st1 (Gv.pre ?_ l1 hf1 b1)
    rcases X.2.2.1 with ⟨k0, r1⟩ | ⟨q, k1, k2, r1, hq, r2, r3, r4⟩
    · have ok := o_16n (n := kn c 8 + 20) sf g1.fT (by omega) (by omega) (nI 0) ht (by rw [gB_fet]; exact v1) (by rw [gA_fet]; exact r1)
      rw [k0, show (nI 0).toInt64 = 0 by decide]
      exact Gv.op K g1 (by omega) A2 ok Fr.rfl g1.2.2.1 rfl
    · have ok := o_16 (n := kn c 8 + 20) sf g1.fT (by omega) (by omega) (nI 0) ht (by rw [gB_fet]; exact v1) hq (by rw [gA_fet]; exact r1)
      rw [gA_fet, r2] at ok
      exact Gv.op K g1 (by omega) A2 ok Fr.rfl g1.2.2.1 rfl
  · have s := dd.shC
    rw [t_396_5 s, cm_ngo s (by omega) dd.ne, cK_v, show klV (some (Value.int (nI d))) = some (Value.int (nI d)) from rfl, t_396_10 s, if_pos rfl]
    exact EvL.dd dd
theorem ex_8 (K : KXs c) (hM : ME (kT c) M) (h4 : M ≤ 4000) (ih : ∀ N', N' ≤ N → EXm c M N') (e : CE (kT c) (N + 1) 8 d k k' L) (G : Gs c D T p k hc hr) (A : AT (hR c) (4400 * kn c 5 + p) L) (hp : p + L.length ≤ 4300) (hd : d ≤ 20) (hk : k ≤ M) (hT : T + 8 * (21 - d) + 0 ≤ 1900) (hn : 24 + 9 * (20 - d) ≤ n) : EvL c (E n 384 [.ref 175, .int (nI d)] hc) hc hr D T (p + L.length) k' := by
  obtain ⟨m, rfl⟩ : ∃ m, n = m + 7 + 1 := ⟨n - 8, by omega⟩
  have hd' := ce_d (Or.inl rfl) e
  have s := G.sC
  have sf : Sh (fet hr p) := fet_fr.sh (G.sR K)
  have lb := lk_b (t := kT c) (k := k)
  obtain ⟨a1, a2, a3⟩ := at_1 hc
  have G1 := G.at1
  have s1 := G1.sC
  obtain ⟨v, pe, pv⟩ := pre_384 (n := m + 7) K G (by omega) hd' (by omega)
  have en : ∀ x, x < 2 ^ 31 → (nI (lk (kT c) k) = nI x) = (lk (kT c) k = x) := fun x hx => propext (nI_eq (by omega) hx)
  have kM : lk (kT c) k ≠ 0 → k < M := fun z => hM.lk z
  rw [pe, t_384_26 s]
  simp only [en 3 (by decide), en 4 (by decide), en 40 (by decide), en 45 (by decide), en 143 (by decide), en 144 (by decide), en 145 (by decide), en 151 (by decide), en 152 (by decide), en 153 (by decide)]
  rcases ce_1 e with ⟨q, ek, eL⟩ | ⟨q, ek, eL⟩ | ⟨q, k1, p1, q2, ek⟩ | ⟨q, L1, p1, eL⟩ | ⟨q, L1, p1, eL⟩ | ⟨q, L1, p1, eL⟩ | ⟨q, L1, p1, eL⟩ | ⟨q, ek, eL⟩
  · have hv := pv (by rw [q]; decide)
    have t3 := lk_3 q
    have lv : lkV (kT c) k = tV (kT c) k := by unfold lkV; rw [if_pos t3]
    rw [eL] at A
    have ok := o_1 (n := kn c 8 + 20) sf G.fT (by omega) (by omega) (nI (tV (kT c) k))
    rw [if_pos q, hv, lv, eL, ek]
    exact EvL.of a1 a2 (Gv.op K G (by omega) A ok a3 G1.2.2.1 rfl)
  · have l3 := lk_reg.1 q
    have hv := pv (by rw [q]; decide)
    have h1 := G.1.reg (i := lkV (kT c) k) (by omega)
    rw [eL] at A
    have ok := o_2 (n := kn c 8 + 20) sf G.fT (by omega) (by omega) (a := lkV (kT c) k) (by omega)
    rw [gB_fet, ← h1] at ok
    rw [if_neg (by omega), if_pos q, hv, gd_nI (by omega) (by decide), ix_nI (by omega), eL, ek]
    exact EvL.of a1 a2 (Gv.op K G (by omega) A ok a3 G1.2.2.1 rfl)
  · have km := kM (by omega)
    have hk1 := ce_le hM p1 (by omega)
    obtain ⟨x, hc1, c1, c2⟩ := (ih N (Nat.le_refl _) 3 (d + 1) (k + 1) k1 L p1 _ hr D T p (m + 3) G1 A hp (by omega) (by omega) (by show T + 8 * (21 - (d + 1)) + 3 ≤ _; omega) (by omega)).1 rfl
    rw [if_neg (by omega), if_neg (by omega), if_pos q, nI_add, t_394 s1, show m + 6 = m + 3 + 3 from rfl, c1, cK_v, ek]
    have u145 : ∀ (z : Int64) h', Sh h' → Q (m + 7) 384 145 [some (.ref 175), some (.int (nI d)), some (.int (nI (lk (kT c) k))), some (.int v)] [.long z] h' = some (some (.long z), h') := fun z h' s' => by rw [t_384_145 s']
    refine EvL.nx ?_ u145
    rcases c2 with ⟨f1, st1, hr1, l1, g1, hf1, v1, b1⟩ | dd
    · obtain ⟨x1, x2, x3⟩ := at_1 hc1
      rw [t_394_5 g1.sC]
      have g2 := g1.at1
      exact EvL.of (a1.trans (f1.trans x1)) (a2.tr (st1.tr x2)) ⟨hr1, l1, g2, hf1, v1, b1⟩
    · rw [t_394_5 dd.shC]
      exact EvL.dd (dd.frC (Fr.rfl.sI (by decide)))
  · have km := kM (by omega)
    have hlen : L.length = L1.length + 1 := by rw [eL, List.length_append]; rfl
    rw [eL] at A
    have A2 := (AT_app.mp A).2
    rw [Nat.add_assoc] at A2
    obtain ⟨x, hc1, c1, c2⟩ := (ih N (Nat.le_refl _) 8 (d + 1) (k + 1) k' L1 p1 _ hr D T p (m + 7) G1 (AT_app.mp A).1 (by omega) (by omega) (by omega) (by show T + 8 * (21 - (d + 1)) + 0 ≤ _; omega) (by omega)).2.2.2.2.2.1 rfl
    rw [if_neg (by omega), if_neg (by omega), if_neg (by omega), if_pos q, nI_add, c1, cK_v]
    rcases c2 with ⟨f1, st1, hr1, l1, g1, hf1, v1, b1⟩ | dd
    · have ok := o_6 (n := kn c 8 + 20) (fet_fr.sh (g1.sR K) : Sh (fet hr1 (p + L1.length))) g1.fT (by omega) (by omega) (nI 0)
      rw [gB_fet, v1] at ok
      rw [t_384_153 g1.sC]
      have gv := (Gv.op K g1 (by omega) A2 ok (Fr.rfl : Fr [1545] [] hc1 hc1) g1.2.2.1 rfl).pre l1 hf1 b1
      rw [show p + L1.length + 1 = p + L.length by omega] at gv
      exact EvL.of (a1.trans f1) (a2.tr st1) gv
    · rw [t_384_153 dd.shC]
      exact EvL.dd dd
  · have km := kM (by omega)
    have hlen : L.length = L1.length + 1 := by rw [eL, List.length_append]; rfl
    rw [eL] at A
    have u168 : ∀ (z : Int64) h', Sh h' → Q (m + 7) 384 162 [some (.ref 175), some (.int (nI d)), some (.int (nI (lk (kT c) k))), some (.int v)] [.long z] h' = some (some (.long z), h') := fun z h' s' => by rw [t_384_162 s']
    have u170 : ∀ (z : Int64) h', Sh h' → Q (m + 7) 384 170 [some (.ref 175), some (.int (nI d)), some (.int (nI (lk (kT c) k))), some (.int v)] [.long z] h' = some (some (.long z), h') := fun z h' s' => by rw [t_384_170 s']
    rcases q with q | q
    · rw [q] at A
      have := b_395 (n := m + 5) K hM h4 (ih N (Nat.le_refl _)) p1 G1 A (by omega) (by omega) (by omega) (by omega) (by omega)
      rw [if_neg (by omega), if_neg (by omega), if_neg (by omega), if_neg (by omega), if_pos q, nI_add, show p + L.length = p + L1.length + 1 by omega]
      exact (this.nx u168).pre a1 a2 rfl HF.rf fun _ _ => rfl
    · rw [q] at A
      have := b_396 (n := m + 5) K hM h4 (ih N (Nat.le_refl _)) p1 G1 A (by omega) (by omega) (by omega) (by omega) (by omega)
      rw [if_neg (by omega), if_neg (by omega), if_neg (by omega), if_neg (by omega), if_neg (by omega), if_pos q, nI_add, show p + L.length = p + L1.length + 1 by omega]
      exact (this.nx u170).pre a1 a2 rfl HF.rf fun _ _ => rfl
  · have km := kM (by omega)
    have hlen : L.length = L1.length + 1 := by rw [eL, List.length_append]; rfl
    rw [eL] at A
    obtain ⟨w, hc1, c1, c2⟩ := wh_399 (n := m + 1) K hM h4 ih p1 G1 false (y := nI 0) A (by omega) (by omega) (by omega) (by omega) (by omega)
    rw [if_neg (by decide)] at c1
    have u178 : ∀ (z : Int64) h', Sh h' → Q (m + 7) 384 178 [some (.ref 175), some (.int (nI d)), some (.int (nI (lk (kT c) k))), some (.int v)] [.long z] h' = some (some (.long z), h') := fun z h' s' => by rw [t_384_178 s']
    rw [if_neg (by omega), if_neg (by omega), if_neg (by omega), if_neg (by omega), if_neg (by omega), if_neg (by omega), if_pos q, nI_add]
    refine EvL.nx ?_ u178
    rw [t_397 s1, show m + 6 = m + 1 + 5 from rfl, c1, cK_v]
    rcases c2 with ⟨a, wa, ha, ty, f1, st1, gv⟩ | ⟨wa, dd⟩
    · have s2 : Sh hc1 := by obtain ⟨hr', -, g, -⟩ := gv; exact g.sC
      rw [t_397_6 s2, wa, if_neg (fun z => by have : ¬ nI a < nI 0 := nI_nlt (by omega) (by omega); rw [z] at this; exact this (by decide)), gd_nI ha (by decide), ix_nI (by omega)]
      rw [show p + L1.length + 1 = p + L.length by omega] at gv
      exact EvL.of (a1.trans f1) (a2.tr st1) gv
    · rw [t_397_6 dd.shC, wa, if_pos rfl]
      exact EvL.dd dd
  · have km := kM (by omega)
    have hlen : L.length = L1.length + 1 := by rw [eL, List.length_append]; rfl
    rw [eL] at A
    have A2 := (AT_app.mp A).2
    rw [Nat.add_assoc] at A2
    obtain ⟨x, hc1, c1, c2⟩ := (ih N (Nat.le_refl _) 9 (d + 1) (k + 1) k' L1 p1 _ hr D T p (m + 7) G1 (AT_app.mp A).1 (by omega) (by omega) (by omega) (by show T + 8 * (21 - (d + 1)) + 0 ≤ _; omega) (by omega)).2.2.2.2.2.2.1 rfl
    rw [if_neg (by omega), if_neg (by omega), if_neg (by omega), if_neg (by omega), if_neg (by omega), if_neg (by omega), if_neg (by omega), if_neg (by omega), if_neg (by omega), if_neg (by omega), nI_add, c1, cK_v]
    have u234 : ∀ (z : Int64) h', Sh h' → Q (m + 7) 384 234 [some (.ref 175), some (.int (nI d)), some (.int (nI (lk (kT c) k))), some (.int v)] [.long z] h' = some (some (.long z), h') := fun z h' s' => by rw [t_384_234 s']
    have tl : ∀ {hd : AH}, Sh hd → Q (m + 7) 384 231 [some (.ref 175), some (.int (nI d)), some (.int (nI (lk (kT c) k))), some (.int v)] [.int x, .int (nI (lk (kT c) k)), .ref 175] hd = cK (E (m + 7) 398 [.ref 175, .int (nI (lk (kT c) k)), .int x] hd) (Q (m + 7) 384 234 [some (.ref 175), some (.int (nI d)), some (.int (nI (lk (kT c) k))), some (.int v)]) [] := fun {hd} sd => by
      rw [t_384_231 sd, ck_ok (show gC hd 175 = 6 from ShC sd (by decide))]
    rcases c2 with ⟨px, f1, st1, hr1, l1, g1, hf1, v1, b1⟩ | dd
    · rw [tl g1.sC]
      have := (b_398 (n := m + 7) K q g1 v1 px (by omega) (by omega) A2 (by omega)).nx u234
      rw [show p + L1.length + 1 = p + L.length by omega] at this
      exact this.pre (a1.trans f1) (a2.tr st1) l1 hf1 b1
    · rw [tl dd.shC]
      exact (dead_398 dd _ x (by omega)).nx u234
  · obtain ⟨-, -, ⟨st, G0, Cp0, q0⟩, -⟩ := id G.1
    obtain ⟨b1, b2, b3, b4⟩ := q0.ff (q := p) G.1 K
    have W := K.2.2.1
    have w0 := W.1.1
    have ho := K.2.2.2.2.2.2.2.2.1
    have e46 := (G.1.ci.scr K).2.2.1
    rw [eL] at A
    rw [eL, ek]
    rw [if_neg (by omega), if_neg (by omega), if_neg (by omega), if_neg (by omega), if_neg (by omega), if_neg (by omega), if_neg (by omega)]
    have q3 : lk (kT c) k = 151 ∨ lk (kT c) k = 152 ∨ lk (kT c) k = 153 := by omega
    rcases q3 with q | q | q
    · obtain ⟨f1, f2, f3, f4, f5, f6, f7, f8, f9, f10, f11⟩ := shf_b q0 W ho
      have ok := o_23 (n := kn c 8 + 20) sf G.fT (by omega) (by omega) (nI 0) (o := kn c 3) (by omega) b4
      rw [gA_fet, f11] at ok
      rw [q] at A
      have sh1 : Fr [1545] [] hc (sI hc 1545 175 ((gI hc 1545 175) + (nI 1))) := a3
      obtain ⟨-, -, ⟨st1, G1', Cp1, q1⟩, -⟩ := id G1.1
      obtain ⟨j1, j2, j3, j4, j5, j6, j7, j8, j9, j10, j11⟩ := shf_b q1 W ho
      obtain ⟨y1, y2⟩ := j5 (m + 4) (kn c 3) ho
      have lenE : nI (sH st1 (kn c 3)).length = nI (sH st (kn c 3)).length := by rw [← j11, f11]
      have e8 := j8 (m + 6)
      rw [if_pos q, f1, Option.bind_some, ck_ok f2, f3, Option.bind_some, ck_ok f4, e46]
      have g70 : G1' 7 0 = G0 7 0 := congrFun ((q1.2.2.2.2.2.2.2.1 7 (by decide)).trans (q0.2.2.2.2.2.2.2.1 7 (by decide)).symm) 0
      rw [g70] at y1
      rw [show m + 4 + 3 = m + 7 from rfl] at y1
      rw [y1, cK_v, t_384_196 s1, ck_ok y2, ck_ok y2, j6, Option.bind_some, ck_ok j7, e8, cK_v, t_384_205 s1, lenE]
      exact EvL.of a1 a2 (Gv.op K G (by omega) A ok a3 G1.2.2.1 rfl)
    · have ok := o_24 (n := kn c 8 + 20) sf G.fT (by omega) (by omega) (nI 0)
      rw [b4] at ok
      rw [q] at A
      rw [if_neg (by omega), if_pos q, e46]
      exact EvL.of a1 a2 (Gv.op K G (by omega) A ok a3 G1.2.2.1 rfl)
    · have ok := o_25 (n := kn c 8 + 20) sf G.fT (by omega) (by omega) (nI 0)
      have ec : gI (fet hr p) 3677 189 = gI hc 2051 156 := by
        rw [fet_fr.I (by decide), q0.2.2.2.2.1.1.2.1, q0.1.2.2.2.2.1.1]
      rw [ec] at ok
      rw [q] at A
      rw [if_neg (by omega), if_neg (by omega), if_pos q]
      exact EvL.of a1 a2 (Gv.op K G (by omega) A ok a3 G1.2.2.1 rfl)
/-- expressions, for every fuel -/
theorem exh (K : KXs c) (hM : ME (kT c) M) (h4 : M ≤ 4000) : ∀ N, ∀ N', N' ≤ N → EXm c M N'
  | 0, N', h => by
    intro tag d k k' L e
    obtain rfl : N' = 0 := by omega
    exact e.elim
  | N + 1, N', h => by
    have ih := exh K hM h4 N
    by_cases q : N' ≤ N
    · exact ih N' q
    · obtain rfl : N' = N + 1 := by omega
      intro tag d k k' L e hc hr D T p n G A hp hd hk hT hn
      have i1 := ih N (Nat.le_refl _)
      exact ⟨(fun z => by subst z; exact ex_3 K hM h4 i1 e G A hp hd hk hT hn), (fun z => by subst z; exact ex_4 K hM i1 e G A hp hd hk hT hn),
        (fun z T0 x j hT0 vx hj => by subst z; subst hT0; exact ex_5 K hM h4 i1 e G vx hj A hp hd hk hT hn), (fun z => by subst z; exact ex_6 K hM i1 e G A hp hd hk hT hn),
        (fun z T0 x j hT0 vx hj => by subst z; subst hT0; exact ex_7 K hM h4 i1 e G vx hj A hp hd hk hT hn), (fun z => by subst z; exact ex_8 K hM h4 ih e G A hp hd hk hT hn),
        (fun z => by subst z; exact ex_9 K hM h4 ih e G A hp hd hk hT hn), (fun z => by subst z; exact ex_10 K hM h4 i1 e G A hp hd hk hT hn)⟩
end LEU
