/-! ===== RUN: expressions on both sides: the rest of a product, a tray ===== -/
section LEY
variable {c : CXm} {M N d k k' D T p n : Nat} {hc hr h1 : AH} {L : Cds}
theorem ex_7 (K : KXs c) (hM : ME (kT c) M) (h4 : M ≤ 4000) (ih : EXm c M N) (e : CE (kT c) (N + 1) 7 d k k' L) {T0 j : Nat} {x : Int64} (G : Gs c D (T0 + 1) p k hc hr) (vx : gB hr 289 T0 = x) (hj : j ≤ k) (A : AT (hR c) (4400 * kn c 5 + p) L) (hp : p + L.length ≤ 4300) (hd : d ≤ 20) (hk : k ≤ M) (hT : T0 + 1 + 8 * (21 - d) + 0 ≤ 1900) (hn : 24 + 9 * (20 - d) ≤ n) : EvL c (Q n 393 9 [some (.ref 175), some (.int (nI d)), some (.long x), none, some (.int (nI j)), none, none, none] [] hc) hc hr D T0 (p + L.length) k' := by
  have sC := G.sC
  have lb := lk_b (t := kT c) (k := k)
  have pk := cm_peek (n := n) G.1.ci K (by omega) (by omega) G.2.2.1
  have e42 : (nI (lk (kT c) k) = nI 42) = (lk (kT c) k = 42) := propext (nI_eq (by omega) (by decide))
  have e47 : (nI (lk (kT c) k) = nI 47) = (lk (kT c) k = 47) := propext (nI_eq (by omega) (by decide))
  have e37 : (nI (lk (kT c) k) = nI 37) = (lk (kT c) k = 37) := propext (nI_eq (by omega) (by decide))
  rw [t_393_9 sC]
  rcases ce_1 e with ⟨q, k1, L1, L2, p1, p2, eL⟩ | ⟨q, ek, eL⟩
  · have kM := hM.lk (k := k) (by omega)
    have hk1 := ce_le hM p1 (by omega)
    have lt1 : k + 1 ≤ k1 := (ce_gt _ _ _ _ _ _ p1).1
    have hlen : L.length = L1.length + (1 + L2.length) := by rw [eL, List.length_append, List.length_append]; rfl
    rw [eL] at A
    have A2 := (AT_app.mp A).2
    rw [Nat.add_assoc] at A2
    have A3 := (AT_app.mp A2).2
    rw [Nat.add_assoc] at A3
    have g1 : Gs c D (T0 + 1) p (k + 1) (sI hc 1545 175 ((gI hc 1545 175) + (nI 1))) hr := by rw [G.2.2.1, nI_add]; exact G.atC
    obtain ⟨x2, hc1, a1, a2⟩ := (ih 8 d (k + 1) k1 L1 p1 _ hr D (T0 + 1) p n g1 (AT_app.mp A).1 (by omega) hd (by omega) (by show T0 + 1 + 8 * (21 - d) + 0 ≤ _; omega) hn).2.2.2.2.2.1 rfl
    have fs : Fr KE XE hc (sI hc 1545 175 ((gI hc 1545 175) + (nI 1))) := Fr.rfl.sI (by decide)
    have ss : stp1 hc (sI hc 1545 175 ((gI hc 1545 175) + (nI 1))) := by unfold stp1; rw [gI_k (by decide)]; exact Nat.le_refl _
    obtain ⟨op, hop⟩ : ∃ op, op = if lk (kT c) k = 42 then 9 else if lk (kT c) k = 47 then 10 else 11 := ⟨_, rfl⟩
    have eop : (if lk (kT c) k = 42 then nI 9 else if lk (kT c) k = 47 then nI 10 else nI 11) = nI op := by
      rw [hop]; (repeat' split) <;> rfl
    rw [eop] at A2
    have op9 : op = 9 ∧ lk (kT c) k = 42 ∨ op = 10 ∧ lk (kT c) k = 47 ∨ op = 11 ∧ lk (kT c) k = 37 := by
      rcases q with z | z | z
      · rw [if_pos z] at hop; exact Or.inl ⟨hop, z⟩
      · rw [if_neg (by omega), if_pos z] at hop; exact Or.inr (Or.inl ⟨hop, z⟩)
      · rw [if_neg (by omega), if_neg (by omega)] at hop; exact Or.inr (Or.inr ⟨hop, z⟩)
    have e9 : cK (E n 362 [.ref 175] hc) (Q n 393 21 [some (.ref 175), some (.int (nI d)), some (.long x), none, some (.int (nI j)), none, none, none]) [] = cK (E n 384 [.ref 175, .int (nI d)] (sI hc 1545 175 ((gI hc 1545 175) + (nI 1)))) (Q n 393 68 [some (.ref 175), some (.int (nI d)), some (.long x), none, some (.int (nI j)), some (.int (nI (lk (kT c) k))), none, none]) [] := by
      rw [cm_go sC (by omega) G.2.1, cK_v, t_393_21 sC, if_neg (by decide), pk, cK_v, t_393_28 sC]
      simp only [e42, e47, e37]
      rcases q with z | z | z
      · rw [if_pos z]
      · rw [if_neg (by omega), if_pos z]
      · rw [if_neg (by omega), if_neg (by omega), if_pos z]
    rw [if_pos (nI_lt (by omega) (by omega)), e9, a1, cK_v]
    have dead68 : ∀ {hd : AH}, Dd c D hd hr → EvL c (Q n 393 97 [some (.ref 175), some (.int (nI d)), some (.long x), none, some (.int (nI j)), some (.int (nI (lk (kT c) k))), some (.long x2), none] [] hd) hc hr D T0 (p + L.length) k' := fun {hd} dd => by
      have s := dd.shC
      rw [t_393_97 s, cm_ngo s (by omega) dd.ne, cK_v, t_393_101 s, if_pos rfl]
      exact dead_393 K dd _ _ (by omega)
    rcases a2 with ⟨f1, st1, hr1, l1, g1, hf1, v1, b1⟩ | dd
    · have s1 := g1.sC
      have A4 := (AT_app.mp A2).1
      have go : ¬ ((op = 10 ∨ op = 11) ∧ x2 = 0) → EvL c (Q n 393 97 [some (.ref 175), some (.int (nI d)), some (.long x), none, some (.int (nI j)), some (.int (nI (lk (kT c) k))), some (.long x2), none] [] hc1) hc hr D T0 (p + L.length) k' := fun nz => by
        have G3 : Gv c D T0 (p + L1.length + 1) k1 (binV op x x2) hc1 hr1 := Gv.bin (a := x) (b := x2) K (by omega) g1 (by rw [b1 T0 (by omega)]; exact vx) v1 nz (by omega) (by omega) (y := nI 0) (L := []) A4
        obtain ⟨hr2, l2, g2, hf2, v2, b2⟩ := G3
        have e101 : Q n 393 97 [some (.ref 175), some (.int (nI d)), some (.long x), none, some (.int (nI j)), some (.int (nI (lk (kT c) k))), some (.long x2), none] [] hc1 = Q n 393 9 [some (.ref 175), some (.int (nI d)), some (.long (binV op x x2)), none, some (.int (nI (j + 1))), none, none, none] [] hc1 := by
          rw [t_393_97 s1, cm_go s1 (by omega) g1.2.1, cK_v, t_393_101 s1, if_neg (by decide), nI_add]
          simp only [e42, e47]
          rcases op9 with ⟨o, z⟩ | ⟨o, z⟩ | ⟨o, z⟩
          · rw [if_pos z, o]; rfl
          · rw [if_neg (by omega), if_pos z, o, dZ_ok (fun w => nz ⟨Or.inl o, w⟩)]; rfl
          · rw [if_neg (by omega), if_neg (by omega), o, dZ_ok (fun w => nz ⟨Or.inr o, w⟩)]; rfl
        rw [e101]
        have := (ih 7 d k1 k' L2 p2 hc1 hr2 D (T0 + 1) (p + L1.length + 1) n g2 (by rw [show p + L1.length + 1 = p + (L1.length + 1) by omega]; exact A3) (by omega) hd hk1 (by show T0 + 1 + 8 * (21 - d) + 0 ≤ _; omega) hn).2.2.2.2.1 rfl T0 _ (j + 1) rfl v2 (by omega)
        rw [show p + L1.length + 1 + L2.length = p + L.length by omega] at this
        exact this.pre (fs.trans f1) (ss.tr st1) (l1.trans l2) (hf1.tr hf2) fun i hi => (b2 i hi).trans (b1 i (by omega))
      rw [t_393_68 s1, cm_go s1 (by omega) g1.2.1, cK_v, t_393_74 s1, if_neg (by decide)]
      simp only [e42, c_eq]
      by_cases z : lk (kT c) k = 42
      · rw [if_pos z]; exact go fun w => by have := w.1; omega
      · rw [if_neg z]
        by_cases z0 : x2 = 0
        · rw [if_pos z0]
          have hs1 := g1.sR K
          have b2 : gB (fet hr1 (p + L1.length)) = gB hr1 := funext fun z => fet_fr.B (k := z) List.not_mem_nil
          have rf := o_div0 (n := kn c 8 + 20) (x := op) (T := T0) (fet_fr.sh hs1 : Sh (fet hr1 (p + L1.length))) (by omega) (nI 0) (by omega) (by rw [fet_fr.I (by decide)]; exact g1.2.2.2.2.1) fet_c (by rw [b2, v1]; exact z0) (by omega)
          obtain ⟨hc2, q1, q2, q3⟩ := Dd.op K g1 (by omega) A4 rf (by decide) (Fr.rfl : Fr [1545] [] hc1 hc1) (n := n) (by omega)
          rw [q1, cK_n]
          exact dead68 (q3.pre l1 hf1)
        · rw [if_neg z0]; exact go fun w => z0 w.2
    · have s := dd.shC
      rw [t_393_68 s, cm_ngo s (by omega) dd.ne, cK_v, t_393_74 s, if_pos rfl]
      exact dead68 dd
  · have hx : EvL c (some (some (.long x), hc)) hc hr D T0 (p + L.length) k' := by
      rw [ek, eL]; exact EvL.of Fr.rfl stp1.rf (Gv.here G vx)
    by_cases z : nI j < nI 4000
    · rw [if_pos z, cm_go sC (by omega) G.2.1, cK_v, t_393_21 sC, if_neg (by decide), pk, cK_v, t_393_28 sC]
      simp only [e42, e47, e37]
      rw [if_neg (fun z => q (Or.inl z)), if_neg (fun z => q (Or.inr (Or.inl z))), if_neg (fun z => q (Or.inr (Or.inr z)))]; exact hx
    · rw [if_neg z]; exact hx
theorem ex_10 (K : KXs c) (hM : ME (kT c) M) (h4 : M ≤ 4000) (ih : EXm c M N) (e : CE (kT c) (N + 1) 10 d k k' L) (G : Gs c D T p k hc hr) (A : AT (hR c) (4400 * kn c 5 + p) L) (hp : p + L.length ≤ 4300) (hd : d ≤ 20) (hk : k ≤ M) (hT : T + 8 * (21 - d) + 0 ≤ 1900) (hn : 24 + 9 * (20 - d) ≤ n) : EvI c trv (E (n + 1) 364 [.ref 175, .int (nI d)] hc) hc hr D T (p + L.length) k' := by
  have sC := G.sC
  obtain ⟨q, L1, p1, eL⟩ := ce_1 e
  have kM := hM.lk (k := k) (by omega)
  have hlen : L.length = L1.length + 1 := by rw [eL, List.length_append]; rfl
  rw [eL] at A
  have A2 := (AT_app.mp A).2
  rw [Nat.add_assoc] at A2
  have g1 : Gs c D T p (k + 1) (sI hc 1545 175 ((gI hc 1545 175) + (nI 1))) hr := by rw [G.2.2.1, nI_add]; exact G.atC
  have fs : Fr KE XE hc (sI hc 1545 175 ((gI hc 1545 175) + (nI 1))) := Fr.rfl.sI (by decide)
  have ss : stp1 hc (sI hc 1545 175 ((gI hc 1545 175) + (nI 1))) := by unfold stp1; rw [gI_k (by decide)]; exact Nat.le_refl _
  obtain ⟨x, hc1, a1, a2⟩ := (ih 8 d (k + 1) k' L1 p1 _ hr D T p n g1 (AT_app.mp A).1 (by omega) hd (by omega) (by show T + 8 * (21 - d) + 0 ≤ _; omega) hn).2.2.2.2.2.1 rfl
  have dead42 : ∀ {hd : AH}, Dd c D hd hr → EvI c trv (Q n 364 42 [some (.ref 175), none, some (.long x), none] [] hd) hc hr D T (p + L.length) k' := fun {hd} dd => by
    have s := dd.shC
    rw [t_364_42 s, cm_ngo s (by omega) dd.ne, cK_v, t_364_46 s, if_pos rfl]
    exact ⟨_, _, rfl, Or.inr dd⟩
  rw [t_364 sC, a1, cK_v]
  rcases a2 with ⟨f1, st1, hr1, l1, g1, hf1, v1, b1⟩ | dd
  · have s1 := g1.sC
    have hs1 := g1.sR K
    have b2 : gB (fet hr1 (p + L1.length)) = gB hr1 := funext fun z => fet_fr.B (k := z) List.not_mem_nil
    have eT : gI (fet hr1 (p + L1.length)) 3723 189 = nI (T + 1) := by rw [fet_fr.I (by decide)]; exact g1.2.2.2.2.1
    have v2 : gB (fet hr1 (p + L1.length)) 289 T = x := by rw [b2]; exact v1
    have rf : (x < 0 ∨ (11 : Int64) < x) → EvI c trv (cK (E n 365 [.ref 175, .int (nI 3)] hc1) (Q n 364 42 [some (.ref 175), none, some (.long x), none]) []) hc hr D T (p + L.length) k' := fun z => by
      have rf := o_14r (n := kn c 8 + 20) (T := T) (fet_fr.sh hs1 : Sh (fet hr1 (p + L1.length))) eT fet_c (by omega) (by omega) (nI 0) (by rw [v2]; exact z)
      obtain ⟨hc2, q1, q2, q3⟩ := Dd.op K g1 (by omega) A2 rf (by decide) (Fr.rfl : Fr [1545] [] hc1 hc1) (n := n) (by omega)
      rw [q1, cK_n]
      exact dead42 (q3.pre l1 hf1)
    rw [t_364_15 s1, cm_go s1 (by omega) g1.2.1, cK_v, show klV (some (Value.int (nI d))) = some (Value.int (nI d)) from rfl, t_364_20 s1, if_neg (by decide)]
    simp only [c_lt]
    by_cases z : x < 0
    · rw [if_pos z]; exact rf (Or.inl z)
    · rw [if_neg z]
      by_cases z2 : x < 12
      · obtain ⟨t, t1, t2⟩ := spot_in (z := 12) z (by rw [show (nI 12).toInt64 = 12 from by decide]; exact z2) (by decide)
        have tl : (nI t).toInt64 = x := by rw [nI_l (by omega), t2]
        rw [if_pos z2, t_364_42 s1, cm_go s1 (by omega) g1.2.1, cK_v, t_364_46 s1, if_neg (by decide), t2, lN_32]
        have n11 : ¬ (11 : Int64) < x := by
          rw [t2, Int64.lt_iff_toInt_lt, lN_toInt (by omega)]; show ¬ ((11 : Int) < t); omega
        have ok := o_14 (n := kn c 8 + 20) (T := T) (fet_fr.sh hs1 : Sh (fet hr1 (p + L1.length))) eT (by omega) (by omega) (nI 0) (by rw [v2]; exact ⟨z, n11⟩)
        rw [v2] at ok
        have G3 := Gv.op (k' := k') K g1 (by omega) A2 ok (Fr.rfl : Fr [1545] [] hc1 hc1) g1.2.2.1 rfl
        rw [show p + L1.length + 1 = p + L.length by omega] at G3
        refine EvI.of ⟨t, t1, rfl⟩ (fs.trans f1) (ss.tr st1) ?_
        rw [tl]
        exact G3.pre l1 hf1 b1
      · rw [if_neg z2]
        refine rf (Or.inr ?_)
        rw [Int64.lt_iff_toInt_lt] at z2 ⊢
        have e1 : (12 : Int64).toInt = 12 := by decide
        have e2 : (11 : Int64).toInt = 11 := by decide
        rw [e1] at z2; rw [e2]; omega
  · have s := dd.shC
    rw [t_364_15 s, cm_ngo s (by omega) dd.ne, cK_v, show klV (some (Value.int (nI d))) = some (Value.int (nI d)) from rfl, t_364_20 s, if_pos rfl]
    exact dead42 dd
end LEY
