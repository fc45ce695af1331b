/-! ===== RUN: blocks and rows of statements, on both sides ===== -/
section BLK
variable {c : CXm} {M N d k k' k1 D T p y o n m a : Nat} {hc hr hc1 hr1 : AH} {L L1 L2 : Cds} {Y O : C3} {fi : Int32}
theorem csx_1 {t : Tp} {sd tag : Nat} (e : CSx t sd (N + 1) tag d k k' T p y o L Y O fi) : CSg t sd (CE t N) (CSx t sd N) tag d k k' T p y o L Y O fi := e.2
theorem csx_p {t : Tp} {sd tag : Nat} (e : CSx t sd N tag d k k' T p y o L Y O fi) : px t N tag d k = some (0, k') := by
  cases N with
  | zero => exact e.elim
  | succ N => exact e.1
theorem csx_le (hM : ME (kT c) M) {sd tag : Nat} (e : CSx (kT c) sd N tag d k k' T p y o L Y O fi) (hk : k ≤ M) : k' ≤ M := px_le hM _ _ _ _ _ (csx_p e) rfl hk
theorem csx_lt {t : Tp} {sd : Nat} (e : CSx t sd N 1 d k k' T p y o L Y O fi) : k < k' := px_lt (csx_p e) rfl
/-- a block: its brackets -/
theorem csx_b {t : Tp} {sd : Nat} (e : CSx t sd N 2 d k k' T p y o L Y O fi) : lk t k = 123 ∧ d < 20 ∧ ∃ j, k' = j + 1 ∧ MT t k j ∧ lk t j = 125 := by
  cases N with
  | zero => exact e.elim
  | succ N =>
    obtain ⟨a1, a2, j, a3, a4, a5, -⟩ := px_m e.1 rfl
    exact ⟨a1, a2, j, a3, a4, a5⟩
/-- the component's value of a block's begin: its end -/
theorem cm_blk (i : CIm c hc) (K : KXs c) (hk : k < 2 ^ 31) {j : Nat} (q : lk (kT c) k = 123) (m : MT (kT c) k j) (hn : 1 ≤ n) : E n 330 [.ref (kn c 0), .int (nI k)] hc = some (some (.int (nI j)), hc) := by
  obtain ⟨v, a1, -, a3⟩ := cm_vl (n := n) i K hn hk
  obtain ⟨e, e1, e2⟩ := a3 q
  rw [a1, e2, MT.u e1 m]
/-- a block is passed -/
theorem cm_374 (i : CIm c hc) (K : KXs c) {sd : Nat} (e : CSx (kT c) sd N 2 d k k' T p y o L Y O fi) (hk : k < 2 ^ 31) (at_ : gI hc 1545 175 = nI k) (hn : 2 ≤ n) : E n 374 [.ref 175] hc = some (none, sI hc 1545 175 (nI k')) := by
  obtain ⟨n, rfl⟩ : ∃ m, n = m + 1 := ⟨n - 1, by omega⟩
  obtain ⟨b1, b2, j, b3, b4, b5⟩ := csx_b e
  have sc := i.1.scr K.2.2.2.1
  rw [t_374 i.1, (i.scr K).2.1, Option.bind_some, ck_ok sc.1, at_, cm_blk i K hk b1 b4 (by omega), cK_v, t_374_12 i.1, ck_ok (show gC hc 175 = 6 from ShC i.1 (by decide)), nI_add, b3]
theorem CIm.fr (i : CIm c hc) (f : Fr [1545] [] hc hc1) : CIm c hc1 := ⟨f.sh i.1, i.2.trans (f.gfm (by decide) (fun _ q => absurd q List.not_mem_nil))⟩
/-- the ons are passed -/
theorem pass_12 (K : KXs c) (hM : ME (kT c) M) (h4 : M ≤ 4000) {sd : Nat} (hn : 3 ≤ n) : ∀ (N d k k' T p y o : Nat) (L : Cds) (Y O : C3) (fi : Int32), CSx (kT c) sd N 12 d k k' T p y o L Y O fi → k ≤ M → ∀ (hc : AH) (j : Nat) (x1 x2 : Int32), CIm c hc → gI hc 1545 175 = nI k → j ≤ k → ∃ hc', Q n 343 30 [some (.ref 175), some (.int x1), some (.int x2), some (.int (nI 0)), some (.int (nI j)), none] [] hc = cK (E n 328 [.ref 175] hc') (Q n 343 139 [some (.ref 175), some (.int x1), none, none, none, none]) [] ∧ Fr [1545] [] hc hc' ∧ gI hc' 1545 175 = nI k'
  | 0, _, _, _, _, _, _, _, _, _, _, _, e, _, _, _, _, _, _, _, _ => e.elim
  | N + 1, d, k, k', T, p, y, o, L, Y, O, fi, e, hk, hc, j, x1, x2, i, at_, hj => by
    have lb := lk_b (t := kT c) (k := k)
    have pk := cm_peek (n := n) i K (by omega) (by omega) at_
    have sc := i.1.scr K.2.2.2.1
    have e41 : (nI (lk (kT c) k) = nI 141) = (lk (kT c) k = 141) := propext (nI_eq (by omega) (by decide))
    rw [t_343_30 i.1]
    rcases csx_1 e with ⟨q, k1, L1, Y1, O1, L2, Y2, O2, f2, q3, q9, p1, p2, -⟩ | ⟨q, ek, -⟩
    · have kM := ltk hM q (by decide)
      have kM3 := ltk hM q3 (by decide)
      have hk1 := csx_le hM p1 (by omega)
      obtain ⟨b1, b2, jj, b3, b4, b5⟩ := csx_b p1
      have j4 := b4.1
      obtain ⟨v, v1, -⟩ := cm_vl (n := n) i K (by omega) (show k + 1 < 2 ^ 31 by omega)
      have f1 : Fr [1545] [] hc (sI hc 1545 175 (nI (k + 2))) := Fr.rfl.sI (by decide)
      have i1 := i.fr f1
      have e74 := cm_374 (n := n) i1 K p1 (by omega) gI_s (by omega)
      have f2 : Fr [1545] [] hc (sI (sI hc 1545 175 (nI (k + 2))) 1545 175 (nI k1)) := f1.sI (by decide)
      have i2 := i.fr f2
      obtain ⟨hc', c1, c2, c3⟩ := pass_12 K hM h4 hn N d k1 k' T _ _ _ _ _ _ _ p2 hk1 (sI (sI hc 1545 175 (nI (k + 2))) 1545 175 (nI k1)) (j + 1) x1 x2 i2 gI_s (by omega)
      refine ⟨hc', ?_, f2.trans c2, c3⟩
      rw [if_pos (nI_lt (by omega) (by decide)), pk, cK_v, t_343_42 i.1]
      simp only [e41]
      rw [if_pos q, (i.scr K).2.1, Option.bind_some, ck_ok sc.1, at_, nI_add, v1, cK_v, t_343_61 i.1, if_pos rfl, at_, nI_add, e74, cK_n, t_343_129 i2.1, nI_add, c1]
    · refine ⟨hc, ?_, Fr.rfl, by rw [ek]; exact at_⟩
      by_cases z : nI j < nI 4000
      · rw [if_pos z, pk, cK_v, t_343_42 i.1]
        simp only [e41]
        rw [if_neg q, pk]
      · rw [if_neg z]
/-- a block -/
theorem sx_2 (K : KXs c) (hM : ME (kT c) M) (h4 : M ≤ 4000) (ih : STm c M N) (e : CSx (kT c) (1 - kn c 5) (N + 1) 2 d k k' T p y o L Y O fi) (G : Gs c D 0 p k hc hr) (A : AT (hR c) (4400 * kn c 5 + p) L) (tb : TBl c y o Y O) (hp : p + L.length ≤ 4300) (hD : D ≤ d + 1) (hd : d ≤ 20) (hk : k ≤ M) (hn : 30 + 13 * (20 - d) ≤ n) : StB c (E n 373 [.ref 175, .int (nI d)] hc) hc hr D (p + L.length) k' := by
  obtain ⟨b1, b2, j, b3, b4, b5⟩ := csx_b e
  obtain ⟨n, rfl⟩ : ∃ m, n = m + 10 + 1 := ⟨n - 11, by omega⟩
  obtain ⟨q, k1, p1, ek⟩ := csx_1 e
  obtain rfl : k1 = j := by omega
  have kM := ltk hM b1 (by decide)
  have s := G.sC
  have sc := s.scr K.2.2.2.1
  have i := G.1.ci
  have G1 := G.at1
  obtain ⟨a1, a2, a3⟩ := at_1 hc
  have := (ih 0 (d + 1) (k + 1) k1 0 p y o L Y O 0 p1 _ hr D n A tb hp hD (by omega) (by omega) (by omega)).2.2.1 rfl d 0 rfl (Nat.zero_le _) G1
  rw [t_373 s, (i.scr K).2.1, Option.bind_some, ck_ok sc.1, G.2.2.1, cm_blk i K (by omega) b1 b4 (by omega), cK_v, t_373_11 s, G.2.2.1, nI_add, cm_deep G.atC.sC (by omega) b2, cK_v, t_373_27 G.atC.sC, if_pos rfl, ek]
  rw [G.2.2.1, nI_add] at this a2
  exact this.pre a2 rfl HF.rf
theorem csx_ge {t : Tp} {sd : Nat} : ∀ (N d k k' T p y o : Nat) (L : Cds) (Y O : C3) (fi : Int32), CSx t sd N 0 d k k' T p y o L Y O fi → k ≤ k'
  | 0, _, _, _, _, _, _, _, _, _, _, _, e => e.elim
  | N + 1, d, k, k', T, p, y, o, L, Y, O, fi, e => by
    rcases csx_1 e with ⟨-, ek, -⟩ | ⟨-, k1, L1, Y1, O1, L2, Y2, O2, p1, p2, -⟩
    · omega
    · have h1 := csx_lt p1
      have h2 := csx_ge _ _ _ _ _ _ _ _ _ _ _ _ p2
      omega
/-- a row of statements, up to its } -/
theorem sx_0 (K : KXs c) (hM : ME (kT c) M) (h4 : M ≤ 4000) (ih : STm c M N) {dd j : Nat} (e : CSx (kT c) (1 - kn c 5) (N + 1) 0 (dd + 1) k k' T p y o L Y O fi) (hj : j ≤ k) (G : Gs c D 0 p k hc hr) (A : AT (hR c) (4400 * kn c 5 + p) L) (tb : TBl c y o Y O) (hp : p + L.length ≤ 4300) (hD : D ≤ dd + 1) (hd : dd + 1 ≤ 20) (hk : k ≤ M) (hn : 30 + 13 * (20 - (dd + 1)) ≤ n) : StB c (Q (n + 10) 373 39 [some (.ref 175), some (.int (nI dd)), some (.int (nI k')), some (.int (nI 1)), some (.int (nI j))] [] hc) hc hr D (p + L.length) (k' + 1) := by
  have s := G.sC
  have hk' := csx_le hM e hk
  rw [t_373_39 s]
  rcases csx_1 e with ⟨q, ek, eL, -⟩ | ⟨q, k1, L1, Y1, O1, L2, Y2, O2, p1, p2, eL, eY, eO⟩
  · have fin : StB c (some (none, sI hc 1545 175 (nI k' + nI 1))) hc hr D (p + L.length) (k' + 1) := by
      rw [nI_add, eL]
      exact ⟨_, rfl, gI_s, Or.inl ⟨stp1.of (K := [1545]) (X := []) (Fr.rfl.sI (by decide)) (by decide), hr, rfl, G.atC, HF.rf⟩⟩
    by_cases z : nI j < nI 4000
    · rw [if_pos z, if_neg (by decide), cm_go s (by omega) G.2.1, cK_v, t_373_55 s, if_neg (by decide), G.2.2.1, ek, if_neg (nI_nlt (Nat.le_refl _) (by omega)), ← ek]; exact fin
    · rw [if_neg z]; exact fin
  · have h1 := csx_lt p1
    have h2 := csx_ge _ _ _ _ _ _ _ _ _ _ _ _ p2
    have hk1 := csx_le hM p1 hk
    rw [eL] at A hp
    rw [eY, eO] at tb
    rw [List.length_append] at hp
    have A2 := (AT_app.mp A).2.at (b := 4400 * kn c 5 + (p + L1.length)) (by omega)
    have r1 := (ih 1 (dd + 1) k k1 0 p y o L1 Y1 O1 0 p1 hc hr D n (AT_app.mp A).1 tb.l (by omega) hD hd hk hn).1 rfl G
    rw [if_pos (nI_lt (by omega) (by decide)), if_neg (by decide), cm_go s (by omega) G.2.1, cK_v, t_373_55 s, if_neg (by decide), G.2.2.1, if_pos (nI_lt (by omega) (by omega)), nI_add]
    obtain ⟨hc1, c1, c2⟩ := r1
    rw [c1, cK_n]
    rcases c2 with ⟨st1, hr1, l1, g1, hf1⟩ | dd'
    · rw [t_373_73 g1.sC, nI_add, eL, List.length_append, ← Nat.add_assoc]
      exact ((ih 0 (dd + 1) k1 k' 0 (p + L1.length) (y + Y1.length) (o + O1.length) L2 Y2 O2 0 p2 hc1 hr1 D n A2 tb.r (by omega) hD hd hk1 hn).2.2.1 rfl dd (j + 1) rfl (by omega) g1).pre st1 l1 hf1
    · have s1 := dd'.shC
      have d2 : Dd c D (sI hc1 1545 175 (nI k' + nI 1)) hr := dd'.frC (Fr.rfl.sI (by decide))
      have fin : StB c (some (none, sI hc1 1545 175 (nI k' + nI 1))) hc hr D (p + L.length) (k' + 1) := ⟨_, rfl, by rw [gI_s, nI_add], Or.inr d2⟩
      rw [t_373_73 s1, nI_add, t_373_39 s1]
      by_cases z : nI (j + 1) < nI 4000
      · rw [if_pos z, if_neg (by decide), cm_ngo s1 (by omega) dd'.ne, cK_v, t_373_55 s1, if_pos rfl]; exact fin
      · rw [if_neg z]; exact fin
end BLK
