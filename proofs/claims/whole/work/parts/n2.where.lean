/-! ===== RUN: a place of a row, on both sides ===== -/
/-- a tray's row: kind, from, size -/
def TRx (hc hr : AH) (ni t k f z : Nat) : Prop := gA hc 178 t = nI k ∧ k ≤ 12 ∧ RRw hr t k (nI f) (nI z) ∧ (k ≠ 0 → gA hc 179 t = nI f ∧ gA hc 180 t = nI z) ∧ f + z ≤ 2000 ∧ (9 ≤ k → ∀ j, j < z → ∃ w, itv ni w ∧ gB hc 182 (f + j) = w.toInt64)
section WHE
variable {c : CXm} {M N d k k' D T p n t : Nat} {hc hr h1 : AH} {L : Cds}
theorem CRm.tr (r : CRm c hc hr) (ht : t < 12) : ∃ k f z, TRx hc hr (kn c 6) t k f z := by
  obtain ⟨r1, r2, -, ty, a1, a2, p1, p2, mk, rf, m0, m1, m2, m3, m4, mn, m6, m7⟩ := r
  rcases m6 t ht with ⟨x1, x2⟩ | ⟨k, f, z, m, q, x1, x2, x3, x4, x5, x6, x7, x8, x9, x10, x11, x12, x13, x14⟩
  · exact ⟨0, 0, 0, x1, by omega, Or.inl ⟨rfl, x2⟩, fun z => absurd rfl z, by omega, fun z => absurd z (by decide)⟩
  · refine ⟨k, f, z, x3, x2, Or.inr ⟨q, x1, x2, x7, x8, x9, x10, x11⟩, fun _ => ⟨x4, x5⟩, by have := mn.2.2.2.2.2.2.2.2.1; omega, fun h9 j hj => ?_⟩
    exact m4 _ (by omega) (by rw [x14 j hj]; exact decide_eq_true h9)
theorem CRm.cell (r : CRm c hc hr) {i : Nat} (hi : i < 2000) : gB hc 182 i = gB hr 288 i := by
  obtain ⟨r1, r2, -, ty, a1, a2, p1, p2, mk, rf, m0, m1, m2, m3, -⟩ := r
  exact m3 i hi
theorem CRm.reg (r : CRm c hc hr) {i : Nat} (hi : i < 10) : gB hc 176 i = gB hr 282 i := by
  obtain ⟨r1, r2, -, ty, a1, a2, p1, p2, mk, rf, m0, m1, -⟩ := r
  exact m1 i hi
theorem CRm.hand (r : CRm c hc hr) {i : Nat} (hi : i < 4) : gA hc 177 i = gA hr 283 i ∧ itv (kn c 6) (gA hc 177 i) := by
  obtain ⟨r1, r2, -, ty, a1, a2, p1, p2, mk, rf, m0, m1, m2, -⟩ := r
  exact m2 i hi
/-- the component looks for a place of a row -/
theorem cm_368 (hs : Sh hc) {ni kk f z : Nat} (X : TRx hc hr ni t kk f z) (ht : t < 12) (l : Int64) (b : Bool) :
    (cfS kk (nI z) l b = 0 → E (n + 1) 368 [.ref 175, .int (nI t), .long l, .int (nI (if b = true then 1 else 0))] hc = some (some (.int (nI f + l.toInt32)), hc)) ∧
    (cfS kk (nI z) l b ≠ 0 → ∀ h', Sh h' → E n 365 [.ref 175, .int (nI (cfS kk (nI z) l b))] hc = some (none, h') → E (n + 1) 368 [.ref 175, .int (nI t), .long l, .int (nI (if b = true then 1 else 0))] hc = some (some (.int (-1)), h')) := by
  obtain ⟨x1, x2, x3, x4, x5, x6⟩ := X
  rw [t_368 hs, gd_nI ht (by decide), ix_nI (by omega), x1]
  by_cases k0 : kk = 0
  · have c1 : cfS kk (nI z) l b = 1 := by unfold cfS; rw [if_pos k0]
    rw [c1, if_pos (by rw [k0])]
    exact ⟨(fun z => by cases z), fun _ h' s' e => by rw [e, cK_n, t_368_14 s']⟩
  · obtain ⟨y1, y2⟩ := x4 k0
    rw [if_neg (fun z => k0 ((nI_eq (by omega) (by decide)).mp z)), gd_nI ht (by decide)]
    have tail : decide (9 ≤ kk) = b → (cfS kk (nI z) l b = 0 → (if lg_cmp l 0 < nI 0 then cK (E n 365 [.ref 175, .int (nI 3)] hc) (Q n 368 69 [some (.ref 175), none, none, none, none]) [] else gd (nI t) 12 <| if lg_cmp l ((gA hc 180 t).toInt64) < nI 0 then gd (nI t) 12 <| some (some (.int ((gA hc 179 t) + l.toInt32)), hc) else cK (E n 365 [.ref 175, .int (nI 3)] hc) (Q n 368 69 [some (.ref 175), none, none, none, none]) []) = some (some (.int (nI f + l.toInt32)), hc)) ∧
        (cfS kk (nI z) l b ≠ 0 → ∀ h', Sh h' → E n 365 [.ref 175, .int (nI (cfS kk (nI z) l b))] hc = some (none, h') → (if lg_cmp l 0 < nI 0 then cK (E n 365 [.ref 175, .int (nI 3)] hc) (Q n 368 69 [some (.ref 175), none, none, none, none]) [] else gd (nI t) 12 <| if lg_cmp l ((gA hc 180 t).toInt64) < nI 0 then gd (nI t) 12 <| some (some (.int ((gA hc 179 t) + l.toInt32)), hc) else cK (E n 365 [.ref 175, .int (nI 3)] hc) (Q n 368 69 [some (.ref 175), none, none, none, none]) []) = some (some (.int (-1)), h')) := fun w => by
      simp only [c_lt]
      by_cases l0 : l < 0
      · have cv : cfS kk (nI z) l b = 3 := by unfold cfS; rw [if_neg k0, if_neg (show ¬ (decide (9 ≤ kk) ≠ b) from fun z => z w), if_pos l0]
        rw [cv, if_pos l0]
        exact ⟨(fun z => by cases z), fun _ h' s' e => by rw [e, cK_n, t_368_69 s']⟩
      · rw [if_neg l0, gd_nI ht (by decide), y2]
        by_cases l1 : l < (nI z).toInt64
        · have cv : cfS kk (nI z) l b = 0 := by unfold cfS; rw [if_neg k0, if_neg (show ¬ (decide (9 ≤ kk) ≠ b) from fun z => z w), if_neg l0, if_pos l1]
          rw [cv, if_pos l1, gd_nI ht (by decide), y1]
          exact ⟨fun _ => rfl, fun z => absurd rfl z⟩
        · have cv : cfS kk (nI z) l b = 3 := by unfold cfS; rw [if_neg k0, if_neg (show ¬ (decide (9 ≤ kk) ≠ b) from fun z => z w), if_neg l0, if_neg l1]
          rw [cv, if_neg l1]
          exact ⟨(fun z => by cases z), fun _ h' s' e => by rw [e, cK_n, t_368_69 s']⟩
    by_cases h9 : kk < 9
    · have d9 : decide (9 ≤ kk) = false := decide_eq_false (by omega)
      rw [if_pos (nI_lt h9 (by decide))]
      cases b with
      | false => rw [if_neg (show ¬ (false = true) by decide), if_pos rfl]; exact tail d9
      | true =>
        have cv : cfS kk (nI z) l true = 2 := by unfold cfS; rw [if_neg k0, if_pos (show decide (9 ≤ kk) ≠ true by rw [d9]; decide)]
        rw [cv, if_pos rfl, if_neg (by decide)]
        exact ⟨(fun z => by cases z), fun _ h' s' e => by rw [e, cK_n, t_368_43 s']⟩
    · have d9 : decide (9 ≤ kk) = true := decide_eq_true (by omega)
      rw [if_neg (nI_nlt (by omega) (by omega))]
      cases b with
      | true => rw [if_pos rfl, if_pos rfl]; exact tail d9
      | false =>
        have cv : cfS kk (nI z) l false = 2 := by unfold cfS; rw [if_neg k0, if_pos (show decide (9 ≤ kk) ≠ false by rw [d9]; decide)]
        rw [cv, if_neg (show ¬ (false = true) by decide), if_neg (by decide)]
        exact ⟨(fun z => by cases z), fun _ h' s' e => by rw [e, cK_n, t_368_43 s']⟩
theorem cfS_0 {kk z : Nat} {l : Int64} {b : Bool} (hz : z < 2 ^ 31) (e : cfS kk (nI z) l b = 0) : kk ≠ 0 ∧ decide (9 ≤ kk) = b ∧ ∃ a, a < z ∧ l = lN a := by
  unfold cfS at e
  by_cases k0 : kk = 0
  · rw [if_pos k0] at e; cases e
  rw [if_neg k0] at e
  by_cases w : decide (9 ≤ kk) = b
  · rw [if_neg (show ¬ (decide (9 ≤ kk) ≠ b) from fun z => z w)] at e
    by_cases l0 : l < 0
    · rw [if_pos l0] at e; cases e
    · rw [if_neg l0] at e
      by_cases l1 : l < (nI z).toInt64
      · exact ⟨k0, w, spot_in l0 l1 hz⟩
      · rw [if_neg l1] at e; cases e
  · rw [if_pos (show decide (9 ≤ kk) ≠ b from w)] at e; cases e
/-- what a place of a row is asked for: tray, place, on both sides -/
theorem wh_399 (K : KXs c) (hM : ME (kT c) M) (h4 : M ≤ 4000) (ih : ∀ N', N' ≤ N → EXm c M N') (e : CE (kT c) N 11 d k k' L) (G : Gs c D T p k hc hr) (b : Bool) {y : Int32} (A : AT (hR c) (4400 * kn c 5 + p) (L ++ [(nI (if b = true then 27 else 17), y)])) (hp : p + L.length + 1 ≤ 4300) (hd : d ≤ 20) (hk : k ≤ M) (hT : T + 8 * (21 - d) + 4 ≤ 1900) (hn : 24 + 9 * (20 - d) ≤ n) :
    ∃ w hc', E (n + 5) 399 [.ref 175, .int (nI d), .int (nI (if b = true then 1 else 0))] hc = some (some (.int w), hc') ∧ ((∃ a, w = nI a ∧ a < 2000 ∧ (b = true → ∃ u, itv (kn c 6) u ∧ gB hc' 182 a = u.toInt64) ∧ Fr KE XE hc hc' ∧ stp1 hc hc' ∧ Gv c D T (p + L.length + 1) k' (gB hc' 182 a) hc' hr) ∨ w = -1 ∧ Dd c D hc' hr) := by
  obtain ⟨N, rfl⟩ : ∃ N', N = N' + 1 := by
    cases N with
    | zero => exact e.elim
    | succ N => exact ⟨N, rfl⟩
  have sC := G.sC
  obtain ⟨k1, L1, k2, L2, p1, q1, p2, q2, ek, eL⟩ := ce_1 e
  have hk1 := ce_le hM p1 hk
  have kM1 := hM.lk (k := k1) (by omega)
  have hk2 := ce_le hM p2 (by omega)
  have kM2 := hM.lk (k := k2) (by omega)
  have hlen : L.length = L1.length + L2.length := by rw [eL, List.length_append]
  have Al := (AT_app.mp A).2
  have A0 := (AT_app.mp A).1
  rw [eL] at A0
  have A2 := (AT_app.mp A0).2
  rw [Nat.add_assoc] at A2 Al
  obtain ⟨x, hc1, a1, a2⟩ := (ih N (by omega) 10 d k k1 L1 p1 hc hr D T p (n + 3) G (AT_app.mp A0).1 (by omega) hd hk (by show T + 8 * (21 - d) + 0 ≤ _; omega) (by omega)).2.2.2.2.2.2.2 rfl
  rw [t_399 sC, a1, cK_v]
  rcases a2 with ⟨⟨t, ht, rfl⟩, f1, st1, hr1, l1, g1, hf1, v1, b1⟩ | dd
  · have s1 := g1.sC
    rw [t_399_5 s1, cm_go s1 (by omega) g1.2.1, cK_v, t_399_10 s1, if_neg (by decide), t_367 s1]
    have g1' : Gs c D (T + 1) (p + L1.length) (k1 + 1) (sI hc1 1545 175 ((gI hc1 1545 175) + (nI 1))) hr1 := by rw [g1.2.2.1, nI_add]; exact g1.atC
    have fs : Fr KE XE hc1 (sI hc1 1545 175 ((gI hc1 1545 175) + (nI 1))) := Fr.rfl.sI (by decide)
    have ss : stp1 hc1 (sI hc1 1545 175 ((gI hc1 1545 175) + (nI 1))) := by unfold stp1; rw [gI_k (by decide)]; exact Nat.le_refl _
    obtain ⟨l, hc2, c1, c2⟩ := (ih N (by omega) 3 d (k1 + 1) k2 L2 p2 _ hr1 D (T + 1) (p + L1.length) n g1' A2 (by omega) hd (by omega) (by show T + 1 + 8 * (21 - d) + 3 ≤ _; omega) hn).1 rfl
    rw [c1, cK_v]
    rcases c2 with ⟨f2, st2, hr2, l2, g2, hf2, v2, b2⟩ | dd
    · have s2 := g2.sC
      have s3 : Sh (sI hc2 1545 175 ((gI hc2 1545 175) + (nI 1))) := s2.sI
      have g3 : Gs c D (T + 1 + 1) (p + L1.length + L2.length) (k2 + 1) (sI hc2 1545 175 ((gI hc2 1545 175) + (nI 1))) hr2 := by rw [g2.2.2.1, nI_add]; exact g2.atC
      obtain ⟨hc3, hE⟩ : ∃ hc3, hc3 = sI hc2 1545 175 ((gI hc2 1545 175) + (nI 1)) := ⟨_, rfl⟩
      have f3 : Fr KE XE hc2 hc3 := by rw [hE]; exact Fr.rfl.sI (by decide)
      have st3 : stp1 hc2 hc3 := stp1.of (K := [1545]) (X := []) (by rw [hE]; exact Fr.rfl.sI (by decide)) (by decide)
      rw [t_367_15 s2, cK_v, ← hE]
      rw [← hE] at s3 g3
      rw [t_399_20 s3, cm_go s3 (by omega) g3.2.1, cK_v, t_399_26 s3, if_neg (by decide)]
      have hs2 := g3.sR K
      obtain ⟨kk, f, z, X⟩ := g3.1.tr ht
      have Xr : RRw (fet hr2 (p + L1.length + L2.length)) t kk (nI f) (nI z) := X.2.2.1
      have bq : gB (fet hr2 (p + L1.length + L2.length)) = gB hr2 := funext fun z => fet_fr.B (k := z) List.not_mem_nil
      have hz : cfS kk (nI z) l b = 0 → ∃ a, nI f + l.toInt32 = nI (f + a) ∧ a < z := fun q => by
        obtain ⟨-, -, a, a1, a2⟩ := cfS_0 (by have := X.2.2.2.2.1; omega) q
        exact ⟨a, by rw [a2, lN_32, nI_add], a1⟩
      have hz2 : cfS kk (nI z) l b = 0 → ∃ a, nI f + l.toInt32 = nI a ∧ a < 2000 := fun q => by
        obtain ⟨a, a1, a2⟩ := hz q
        exact ⟨f + a, a1, by have := X.2.2.2.2.1; omega⟩
      have vt : gB hr2 289 T = (nI t).toInt64 := by rw [b2 T (by omega)]; exact v1
      have oa := o_at (n := kn c 8 + 20) (T := T) (t := t) (fet_fr.sh hs2 : Sh (fet hr2 (p + L1.length + L2.length))) (by rw [fet_fr.I (by decide)]; exact g3.2.2.2.2.1) fet_c (by omega) (by omega) b y ht (by rw [bq]; exact vt) Xr (by rw [bq, v2]; exact hz2)
      rw [bq, v2] at oa
      have cm := cm_368 (n := n + 3) s3 X ht l b
      have Al' : AT (hR c) (4400 * kn c 5 + (p + L1.length + L2.length)) [(nI (if b = true then 27 else 17), y)] := by
        rw [show p + L1.length + L2.length = p + L.length by omega]; exact Al
      by_cases q0 : cfS kk (nI z) l b = 0
      · obtain ⟨a, y1, y2⟩ := hz q0
        have hfa : f + a < 2000 := by have := X.2.2.2.2.1; omega
        have ok := oa.1 q0
        rw [cm.1 q0, cK_v, t_399_37 s3]
        refine ⟨_, _, rfl, Or.inl ⟨f + a, y1, hfa, fun hb => ?_, f1.trans (fs.trans (f2.trans f3)), st1.tr (ss.tr (st2.tr st3)), ?_⟩⟩
        · obtain ⟨k0, w, -⟩ := cfS_0 (by have := X.2.2.2.2.1; omega) q0
          exact X.2.2.2.2.2 (by rw [hb] at w; exact of_decide_eq_true w) a y2
        · have ce : gB hr2 288 (f + a) = gB hc3 182 (f + a) := (g3.1.cell hfa).symm
          rw [y1, ix_nI (by omega), ce] at ok
          have G4 := Gv.op (k' := k2 + 1) K g3 (by omega) Al' ok (Fr.rfl : Fr [1545] [] hc3 hc3) g3.2.2.1 rfl
          rw [show p + L1.length + L2.length + 1 = p + L.length + 1 by omega] at G4
          rw [ek]
          exact G4.pre (l1.trans l2) (hf1.tr hf2) fun j hj => (b2 j (by omega)).trans (b1 j hj)
      · have c3 := cfS_3 (k := kk) (z := nI z) (l := l) (b := b)
        obtain ⟨hc4, z1, z2, z3⟩ := Dd.op K g3 (by omega) Al' (oa.2 q0) (by omega) (Fr.rfl : Fr [1545] [] hc3 hc3) (n := n + 3) (by omega)
        rw [cm.2 q0 hc4 z3.shC z1, cK_v, t_399_37 z3.shC]
        exact ⟨_, _, rfl, Or.inr ⟨rfl, z3.pre (l1.trans l2) (hf1.tr hf2)⟩⟩
    · have s2 := dd.shC
      have d3 : Dd c D (sI hc2 1545 175 ((gI hc2 1545 175) + (nI 1))) hr1 := dd.frC (Fr.rfl.sI (by decide))
      rw [t_367_15 s2, cK_v, t_399_20 d3.shC, cm_ngo d3.shC (by omega) d3.ne, cK_v, t_399_26 d3.shC, if_pos rfl]
      exact ⟨_, _, rfl, Or.inr ⟨rfl, d3.pre l1 hf1⟩⟩
  · have s := dd.shC
    rw [t_399_5 s, cm_ngo s (by omega) dd.ne, cK_v, t_399_10 s, if_pos rfl]
    exact ⟨_, _, rfl, Or.inr ⟨rfl, dd⟩⟩
end WHE
