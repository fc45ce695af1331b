/-! ===== RUN: a try; statements for every fuel ===== -/
section TRX
variable {c : CXm} {M N d k k' k1 k2 D T p y o n m a E0 : Nat} {hc hr h0 hc1 hr1 hc' hX : AH} {L L1 L2 L3 : Cds} {Y O Y1 O1 Y2 O2 Y3 O3 : C3} {fi : Int32}
/-- the first block and the ons of a try -/
theorem try_on (K : KXs c) (hM : ME (kT c) M) (h4 : M ≤ 4000) (ih : STm c M N) (hd : d ≤ 20) (hD : D ≤ d) (hn : 30 + 13 * (20 - d) ≤ n) (hT : T < 1640) (G : Gs c (D + 1) 0 (p + 2) k hc hr) (t1 : gA hr 290 D = nI T) (t2 : gA hr 291 D = nI 0) (hk : k ≤ M) {c1 : Nat}
    (p1 : CSx (kT c) (1 - kn c 5) N 2 d k k1 0 (p + 2) (y + 1) o L1 Y1 O1 0) (X1 : AT (hR c) (4400 * kn c 5 + (p + 2)) L1) (X2 : AT (hR c) (4400 * kn c 5 + (p + 2 + L1.length)) [(nI 42, nI T)]) (ec1 : c1 = p + 2 + L1.length + 1) (tb1 : TBl c (y + 1) o Y1 O1)
    (p2 : CSx (kT c) (1 - kn c 5) N 12 d k1 k2 T c1 (y + 1 + Y1.length) (o + O1.length) L2 Y2 O2 fi) (X3 : AT (hR c) (4400 * kn c 5 + c1) L2) (tb2 : TBl c (y + 1 + Y1.length) (o + O1.length) Y2 O2) (hp : c1 + L2.length ≤ 4300) (e6 : gA (hR c) 276 T = fi) :
    ∃ h9, cK (E (n + 8) 373 [.ref 175, .int (nI d)] hc) (Q (n + 8) 343 5 [some (.ref 175), some (.int (nI d)), none, none, none, none]) [] = cK (E (n + 8) 328 [.ref 175] h9) (Q (n + 8) 343 139 [some (.ref 175), some (.int (nI d)), none, none, none, none]) [] ∧ PhA c hc D T k2 h9 hr := by
  have hk1 := csx_le hM p1 hk
  obtain ⟨h5, b1, b2, b3⟩ := (ih 2 d k k1 0 (p + 2) (y + 1) o L1 Y1 O1 0 p1 hc hr (D + 1) (n + 8) X1 tb1 (by omega) (Nat.succ_le_succ hD) hd hk (by omega)).2.1 rfl G
  rw [b1, cK_n]
  have e5 : ∀ e, gI h5 1547 175 = nI e → e ≤ 12 → Sh h5 → Q (n + 8) 343 5 [some (.ref 175), some (.int (nI d)), none, none, none, none] [] h5 = Q (n + 8) 343 30 [some (.ref 175), some (.int (nI d)), some (.int (nI e)), some (.int (nI (if 1 ≤ e ∧ e ≤ 9 then 1 else 0))), some (.int (nI 0)), none] [] h5 := fun e x1 x2 s5 => by
    rw [t_343_5 s5, x1]
    by_cases z : e < 1
    · rw [if_pos (nI_lt z (by decide)), if_neg (by omega)]
    · rw [if_neg (nI_nlt (by omega) (by omega))]
      by_cases z2 : 9 < e
      · rw [if_pos (nI_lt z2 (by omega)), if_neg (by omega)]
      · rw [if_neg (nI_nlt (by omega) (by omega)), if_pos (by omega)]
  rcases b3 with ⟨st, hr5, l5, g5, f5⟩ | dd
  · obtain ⟨hc', d1, d2, d3⟩ := pass_12 (n := n + 8) K hM h4 (by omega) N d k1 k2 T _ _ _ _ _ _ _ p2 hk1 h5 0 (nI d) (nI 0) g5.1.ci b2 (Nat.zero_le _)
    obtain ⟨z1, z2, z3, z4⟩ := f5.2 D (Nat.lt_succ_self _)
    refine ⟨hc', by rw [e5 0 g5.2.1 (by decide) g5.sC, if_neg (by decide), d1], Or.inl ⟨hr5, p + 2 + L1.length, st.tr (stp1.of d2 (by decide)), l5, ⟨g5.1.frC (d2.wk (by decide) (fun _ q => q)), by rw [d2.I (by decide)]; exact g5.2.1, d3, g5.2.2.2⟩, f5.lo (Nat.le_succ _), z1.trans t1, by omega, X2⟩⟩
  · obtain ⟨x, x1, x2, x3, hr5, x4, x5⟩ := id dd
    rcases x5 with ⟨y1, w, lq, ow, dp, f5, tp, en⟩ | ⟨y1, y2⟩
    · obtain ⟨z1, z2, z3, z4⟩ := f5.2 D (Nat.lt_succ_self _)
      by_cases e12 : x = 12
      · obtain ⟨hc', d1, d2, d3⟩ := pass_12 (n := n + 8) K hM h4 (by omega) N d k1 k2 T _ _ _ _ _ _ _ p2 hk1 h5 0 (nI d) (nI x) dd.ci b2 (Nat.zero_le _)
        refine ⟨hc', by rw [e5 x x1 x3 dd.shC, if_neg (by omega), d1], Or.inr (Or.inl ⟨x, w, hr5, by rw [d2.I (by decide)]; exact x1, Or.inr e12, x4.frC (d2.wk (by decide) (fun _ q => q)), lq, fun z => by omega, dp, f5.lo (Nat.le_succ _), z1.trans t1, tp, en, Or.inl ⟨z2.trans t2, Or.inl e12⟩, d3⟩)⟩
      · have x9 : x ≤ 9 := by omega
        rw [if_neg e12] at lq
        obtain ⟨hc', d1, d2, d3⟩ := (ih 12 d k1 k2 T c1 _ _ L2 Y2 O2 fi p2 h5 hr5 D (n + 8) X3 tb2 hp hD hd hk1 (by omega)).2.2.2 rfl 0 x w x2 x9 (Nat.zero_le _) x4 x1 b2 ow dp en tp
        refine ⟨hc', by rw [e5 x x1 x3 dd.shC, if_pos ⟨x2, x9⟩, d1], ?_⟩
        rcases d3 with ⟨q1, q2⟩ | ⟨a, a1, a2, a3⟩
        · exact Or.inr (Or.inl ⟨x, w, hr5, by rw [q1.I (by decide)]; exact x1, Or.inl ⟨x2, x9⟩, x4.frC (q1.wk (by decide) (fun _ q => q)), by rw [if_neg e12]; exact lq, fun z => by rw [q1.L (by decide)]; exact ow z, dp, f5.lo (Nat.le_succ _), z1.trans t1, tp, en, Or.inl ⟨z2.trans t2, Or.inr (by rw [e6]; exact q2)⟩, d2⟩)
        · have sr := x4.shR K
          have fX : Fr [3724] [282, 291] hr5 (hXo hr5 D x w a) := by
            unfold hXo
            exact ((Fr.rfl.sA (by decide)).sB (by decide)).sI (by decide)
          have e2 : E 2 157 [.ref 189, .int (nI x), .long w] hr5 = some (none, hXo hr5 D x w a) := ow_1 sr dp (by omega) (z1.trans t1) hT (z2.trans t2) (by omega) a1 (by
            rw [x4.tA (x := 276) (by decide) (by decide), e6]
            exact a2 hr5 sr (x4.tA (by decide) (by decide)) (x4.tA (by decide) (by decide)))
          have lX : LPm c hr = LPm c (hXo hr5 D x w a) := lq _ (fX.sh sr) (by rw [fX.I (by decide)]) e2
          have hfX : HF D hr (hXo hr5 D x w a) := (f5.lo (Nat.le_succ _)).tr ⟨by rw [fX.I (by decide)]; exact Nat.le_refl _, fun j hj => ⟨by rw [fX.A (by decide)], by
            unfold hXo; show up1 (gA hr5 291) D (nI 1) j = gA hr5 291 j; exact up1_x (by omega), by rw [fX.A (by decide)], by rw [fX.B (by decide)]⟩⟩
          have tX : gA (hXo hr5 D x w a) 290 D = nI T := by rw [fX.A (by decide)]; exact z1.trans t1
          have sX : gA (hXo hr5 D x w a) 291 D = nI 1 := by unfold hXo; show up1 (gA hr5 291) D (nI 1) D = nI 1; exact up1_s
          rcases a3 with ⟨q1, hr2, p2', q2, q3, q4, q5, q6⟩ | d9
          · obtain ⟨w1, -, -, -⟩ := q4.2 D (Nat.lt_succ_self _)
            exact Or.inl ⟨hr2, p2', (show stp1 hc h5 by unfold stp1; rw [← G.1.sts, ← x4.sts]; exact f5.1).tr q1, lX.trans q2, q3, hfX.tr (q4.lo (Nat.le_succ _)), w1.trans tX, q6, q5⟩
          · exact d9.ph lX hfX tX sX d2
    · obtain ⟨hc', d1, d2, d3⟩ := pass_12 (n := n + 8) K hM h4 (by omega) N d k1 k2 T _ _ _ _ _ _ _ p2 hk1 h5 0 (nI d) (nI x) dd.ci b2 (Nat.zero_le _)
      exact ⟨hc', by rw [e5 x x1 x3 dd.shC, if_neg (by omega), d1], Or.inr (Or.inr ⟨x, hr5, by rw [d2.I (by decide)]; exact x1, y1, x4.frC (d2.wk (by decide) (fun _ q => q)), y2, d3⟩)⟩
end TRX
