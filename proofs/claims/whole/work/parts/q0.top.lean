/-! ===== RUN: the whole programme, on both sides ===== -/
section TOP
variable {c : CXm} {M N d k k' k1 k2 D T p y o n m a E0 : Nat} {hc hr h0 hc1 hr1 hc' hX : AH} {L L1 L2 L3 : Cds} {Y O Y1 O1 Y2 O2 Y3 O3 : C3} {fi : Int32}
/-- what has ended it, with no try open -/
theorem dd_fin (K : KXs c) (a : Dd c 0 hc hr) : ∃ e hr', gI hc 1547 175 = nI e ∧ 1 ≤ e ∧ e ≤ 12 ∧ CRm c hc hr' ∧ LPm c hr = some (some (.int (nI (if e = 12 then 0 else e))), hr') := by
  obtain ⟨x, x1, x2, x3, hr', x4, x5⟩ := a
  rcases x5 with ⟨y1, w, lq, ow, dp, f5, tp, en⟩ | ⟨y1, y2⟩
  · have sr := x4.shR K
    have fr : Fr [3732] [] hr' (sI hr' 3732 189 (nI (if x = 12 then 0 else x))) := Fr.rfl.sI (by decide)
    have e2 := ow_0 (w := w) (e := if x = 12 then 20 else x) sr dp (by split <;> omega)
    have ee : (if (if x = 12 then 20 else x) = 20 then 0 else (if x = 12 then 20 else x)) = (if x = 12 then 0 else x) := by
      (repeat' split) <;> omega
    rw [ee] at e2
    refine ⟨x, _, x1, x2, x3, x4.frR (fr.wk (by decide) (fun _ q => absurd q List.not_mem_nil)), ?_⟩
    rw [lq _ sr.sI (by rw [fr.I (by decide)]) e2, LP_end sr.sI (by split <;> omega) gI_s]
  · refine ⟨x, hr', x1, x2, x3, x4, ?_⟩
    rw [if_neg (by omega)]; exact y2
theorem top_13 (K : KXs c) (hM : ME (kT c) M) (h4 : M ≤ 4000) (hsz : ∀ hc, CIm c hc → gI hc 2306 (kn c 0) = nI M) (hn : 300 ≤ n) : ∀ (N k k' p y o : Nat) (L : Cds) (Y O : C3) (fi : Int32), CSx (kT c) (1 - kn c 5) N 13 0 k k' 0 p y o L Y O fi → ∀ (hc hr : AH) (j : Nat), AT (hR c) (4400 * kn c 5 + p) (L ++ [(nI 44, nI 0)]) → TBl c y o Y O → p + L.length ≤ 4200 → k ≤ M → j ≤ k → Gs c 0 0 p k hc hr → ∃ v hc' hr', Q (n + 10) 211 22 [some (.ref 175), none, none, none, some (.int (nI j))] [] hc = some (some (.int v), hc') ∧ LPm c hr = some (some (.int v), hr') ∧ CRm c hc' hr'
  | 0, _, _, _, _, _, _, _, _, _, e, _, _, _, _, _, _, _, _, _ => e.elim
  | N + 1, k, k', p, y, o, L, Y, O, fi, e, hc, hr, j, A, tb, hp, hk, hj, G => by
    have s := G.sC
    have sc := s.scr K.2.2.2.1
    have i := G.1.ci
    rw [t_211_22 s, if_neg (nI_nlt (by omega) (by omega)), G.2.1, if_pos rfl, (i.scr K).2.1, Option.bind_some, ck_ok sc.1, G.2.2.1, hsz hc i]
    rcases csx_1 e with ⟨q, ek, eL, -⟩ | ⟨q, k1, L1, Y1, O1, L2, Y2, O2, p1, p2, eL, eY, eO⟩
    · have kM : ¬ k < M := fun z => by
        have := hM.2 k z
        exact this (lk_0.mp q)
      rw [eL] at A
      have sr := G.sR K
      have sf : Sh (fet hr p) := fet_fr.sh sr
      obtain ⟨h1, hE⟩ : ∃ h1, h1 = sI (fet hr p) 3732 189 (nI 0) := ⟨_, rfl⟩
      have f1 : Fr [3724, 3732, 3733] [] hr h1 := by rw [hE]; exact (fet_fr.wk (by decide) (fun _ q => q)).sI (by decide)
      have s1 := f1.sh sr
      have eR : E (kn c 8 + 20) 152 [.ref 189, .int (nI 44), .int (nI 0)] (fet hr p) = some (none, h1) := by
        rw [o_152d sf (by decide), t_153 sf, if_neg (by decide), if_neg (by decide), if_neg (by decide), if_neg (by decide), if_neg (by decide), if_neg (by decide), ← hE, cK_n, t_152_12 s1, t_152_65 s1]
      refine ⟨nI 0, hc, h1, ?_, ?_, G.1.frR (f1.wk (by decide) (fun _ q => absurd q List.not_mem_nil))⟩
      · rw [if_neg (nI_nlt (by omega) (by omega)), if_neg (by decide)]
      · rw [LP_ok K G (by omega) A eR s1 (by rw [hE, gI_k (by decide)]; exact fet_c), LP_end (e := 0) s1 (by decide) (by rw [hE, gI_s])]
    · have kM := hM.lk q
      have hk1 := csx_le hM p1 hk
      have klt := csx_lt p1
      rw [eL, List.append_assoc] at A
      rw [eL, List.length_append] at hp
      rw [eY, eO] at tb
      have A2 := (AT_app.mp A).2.at (b := 4400 * kn c 5 + (p + L1.length)) (by omega)
      obtain ⟨hc1, c1, c2⟩ := (sth K hM h4 N 1 0 k k1 0 p y o L1 Y1 O1 0 p1 hc hr 0 n (AT_app.mp A).1 tb.l (by omega) (Nat.zero_le _) (by decide) hk (by omega)).1 rfl G
      rw [if_pos (nI_lt kM (by omega)), c1, cK_n]
      rcases c2 with ⟨st, hr1, l1, g1, f1⟩ | dd
      · obtain ⟨v, hc', hr', d1, d2, d3⟩ := top_13 K hM h4 hsz hn N k1 k' _ _ _ _ _ _ _ p2 hc1 hr1 (j + 1) A2 tb.r (by omega) hk1 (by omega) g1
        exact ⟨v, hc', hr', by rw [t_211_56 g1.sC, nI_add, d1], l1.trans d2, d3⟩
      · obtain ⟨x, hr', x1, x2, x3, x4, x5⟩ := dd_fin K dd
        have s1 := dd.shC
        have ne0 : ¬ nI x = nI 0 := fun z => by have := (nI_eq (by omega) (by decide)).mp z; omega
        refine ⟨_, hc1, hr', ?_, x5, x4⟩
        rw [t_211_56 s1, nI_add, t_211_22 s1, if_neg (nI_nlt (by omega) (by omega)), x1, if_neg ne0]
        by_cases z : x = 12
        · rw [if_pos (by rw [z]), if_pos z]
        · rw [if_neg (show ¬ nI x = nI 12 from fun w => z ((nI_eq (by omega) (by decide)).mp w)), if_neg z]
end TOP
