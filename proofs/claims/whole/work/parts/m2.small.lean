/-! ===== RUN: an answer stays at greater depth; the component's and the reference's small steps ===== -/
theorem evM_d {cd : Nat → Nat → CI} {ml : Nat → Nat} {N : Nat} : ∀ (d y : Nat) (as : Vs) (h : AH) (o : Ot), evM cd ml N d y as h = some o → evM cd ml N (d + 1) y as h = some o
  | 0, _, _, _, _, q => by cases q
  | d + 1, y, as, h, o, q => by
    have ih := evM_d (cd := cd) (ml := ml) (N := N) d
    rw [evM] at q
    rw [evM]
    dsimp only at q ⊢
    cases hb : Nat.ble (arL as).length (ml y) with
    | true =>
      rw [hb] at q
      have u := rnF_upN (cd := cd y) (c := fun i => if i = 0 then evM cd ml N d else evM cd ml N (d + 1)) (fun y as h => by
        intro a b o hab w
        by_cases ha : a = 0
        · simp only [if_pos ha] at w
          by_cases hb : b = 0
          · simp only [if_pos hb]; exact w
          · simp only [if_neg hb]; exact ih y as h o w
        · have hb : b ≠ 0 := by omega
          simp only [if_neg ha] at w
          simp only [if_neg hb]; exact w) N 0 (pdL (arL as) (ml y)) [] h 0 1 N o (Nat.le_refl _) (by decide)
      exact u q
    | false => rw [hb] at q; cases q
theorem E_up1 {d y : Nat} {as : Vs} {h : AH} {o : Ot} (q : E d y as h = some o) : E (d + 1) y as h = some o := by
  obtain ⟨N, hN⟩ := Ev_up d y as h o q
  exact (lm_iff (evM_up (d + 1) y as h)).mpr ⟨N, evM_d d y as h o (hN N (Nat.le_refl _))⟩
theorem E_le {d y : Nat} {as : Vs} {h : AH} {o : Ot} (q : E d y as h = some o) : ∀ (n : Nat), d ≤ n → E n y as h = some o
  | 0, hn => by
    have : d = 0 := by omega
    subst this; exact q
  | n + 1, hn => by
    by_cases e : d = n + 1
    · subst e; exact q
    · exact E_up1 (E_le q n (by omega))
theorem lk_end {t : Tp} {M : Nat} (m : ME t M) {k : Nat} (h : M ≤ k) : lk t k = 0 := by
  have := tK_e' m.1 (k - M)
  rw [show M + (k - M) = k by omega] at this
  exact lk_0.mpr this
def CIm (c : CXm) (hc : AH) : Prop := Sh hc ∧ GFm (hC c) hc
section LFC
variable {c : CXm} {hc hr h1 : AH} {n j D : Nat}
theorem CRm.ci (r : CRm c hc hr) : CIm c hc := ⟨r.shC, r.1⟩
theorem Dd.ci (a : Dd c D hc hr) : CIm c hc := by
  obtain ⟨x, x1, x2, x3, hr', x4, x5⟩ := a
  exact x4.ci
theorem CIm.scr (i : CIm c hc) (k : KXs c) : Scr hc (kn c 0) (kT c) ∧ gR hc 1544 175 = some (kn c 0) ∧ gI hc 1546 175 = nI (kn c 3) ∧ gI hc 1550 175 = nI (kn c 4) := by
  obtain ⟨k1, k2, k3, k4, k5, k6, k7, k8, -⟩ := k
  have hN := k1.2
  have g := i.2
  have hx : kn c 0 + 2 < gN (hC c) ∧ ¬ (168 ≤ kn c 0 + 1 ∧ kn c 0 + 1 ≤ 170 ∨ 176 ≤ kn c 0 + 1 ∧ kn c 0 + 1 ≤ 182) ∧ ¬ (168 ≤ kn c 0 + 2 ∧ kn c 0 + 2 ≤ 170 ∨ 176 ≤ kn c 0 + 2 ∧ kn c 0 + 2 ≤ 182) := by
    rcases k4 with q | q <;> rw [q] <;> omega
  refine ⟨?_, ?_, ?_, ?_⟩
  · obtain ⟨M, m1, m2, m3, m4⟩ := k5
    refine ⟨M, m1, m2, (g.2.2.1 2306 _ (by omega) (show ¬ (2306 ∈ KC ∨ 2306 ∈ KMc ∨ 2306 = 2059 ∨ 2306 = 2060) by decide)).trans m3, ?_⟩
    rw [(g.2.2.2.2.2.1 (kn c 0 + 1) (by omega) hx.2.1).1, (g.2.2.2.2.2.1 (kn c 0 + 2) (by omega) hx.2.2).1]; exact m4
  · exact (g.2.2.2.2.1 1544 175 (by omega) (by decide)).trans k6
  · exact (g.2.2.1 1546 175 (by omega) (by decide)).trans k7
  · exact (g.2.2.1 1550 175 (by omega) (by decide)).trans k8
/-- the kind of a token -/
theorem cm_360 (i : CIm c hc) (k : KXs c) (hn : 1 ≤ n) (hj : j < 2 ^ 31) : E n 360 [.ref (kn c 0), .int (nI j)] hc = some (some (.int (nI (lk (kT c) j))), hc) := by
  obtain ⟨m, rfl⟩ : ∃ m, n = m + 1 := ⟨n - 1, by omega⟩
  obtain ⟨⟨M, m1, m2, m3, m4⟩, -⟩ := i.scr k
  have sc := i.1.scr k.2.2.2.1
  have h4 := k.2.2.2.2.2.2.2.2.2.2.2.2.2.2.2.2.2.2
  rw [t_360 i.1, if_neg (nI_nlt (by omega) (by omega)), ck_ok sc.1, m3]
  by_cases q : j < M
  · rw [if_pos (nI_lt q (by omega)), ck_ok sc.1, sc.2.1, Option.bind_some, ck_ok sc.2.2.2.1, sc.2.2.2.2.1, gd_nI (by omega) (by decide), ix_nI hj, (m4 j q).1]
  · rw [if_neg (nI_nlt (by omega) (by omega)), lk_end m1 (by omega)]
theorem cm_peek (i : CIm c hc) (k : KXs c) (hn : 2 ≤ n) (hj : j < 2 ^ 31) (e : gI hc 1545 175 = nI j) : E n 328 [.ref 175] hc = some (some (.int (nI (lk (kT c) j))), hc) := by
  obtain ⟨m, rfl⟩ : ∃ m, n = m + 1 := ⟨n - 1, by omega⟩
  have sc := i.1.scr k.2.2.2.1
  rw [t_328 i.1, (i.scr k).2.1, Option.bind_some, ck_ok sc.1, e, cm_360 i k (by omega) hj, cK_v, t_328_11 i.1]
/-- wherever it looks there is something -/
theorem cm_peekD (i : CIm c hc) (k : KXs c) (hn : 2 ≤ n) : ∃ v, E n 328 [.ref 175] hc = some (some (.int v), hc) := by
  obtain ⟨m, rfl⟩ : ∃ m, n = m + 1 + 1 := ⟨n - 2, by omega⟩
  have sc := i.1.scr k.2.2.2.1
  obtain ⟨⟨M, m1, m2, m3, m4⟩, -⟩ := i.scr k
  have h4 := k.2.2.2.2.2.2.2.2.2.2.2.2.2.2.2.2.2.2
  rw [t_328 i.1, (i.scr k).2.1, Option.bind_some, ck_ok sc.1, t_360 i.1]
  by_cases q : gI hc 1545 175 < nI 0
  · rw [if_pos q, cK_v, t_328_11 i.1]; exact ⟨_, rfl⟩
  · rw [if_neg q, ck_ok sc.1, m3]
    by_cases q2 : gI hc 1545 175 < nI M
    · have hM : M < 2 ^ 31 := by omega
      obtain ⟨a, ha2, ha⟩ : ∃ a, a < M ∧ gI hc 1545 175 = nI a := by
        rcases hv_c (gI hc 1545 175) hM with ⟨-, w | w⟩ | ⟨j, j1, j2, -⟩
        · exact absurd w q
        · exact absurd q2 w.2
        · exact ⟨j, j1, j2⟩
      rw [if_pos q2, ck_ok sc.1, sc.2.1, Option.bind_some, ck_ok sc.2.2.2.1, sc.2.2.2.2.1, ha, gd_nI (by omega) (by decide), cK_v, t_328_11 i.1]; exact ⟨_, rfl⟩
    · rw [if_neg q2, cK_v, t_328_11 i.1]; exact ⟨_, rfl⟩
/-- the value of a token -/
theorem cm_vl (i : CIm c hc) (k : KXs c) (hn : 1 ≤ n) (hj : j < 2 ^ 31) : ∃ v, E n 330 [.ref (kn c 0), .int (nI j)] hc = some (some (.int v), hc) ∧ (v35 (lk (kT c) j) → v = nI (lkV (kT c) j)) ∧ (lk (kT c) j = 123 → ∃ e, MT (kT c) j e ∧ v = nI e) := by
  obtain ⟨m, rfl⟩ : ∃ m, n = m + 1 := ⟨n - 1, by omega⟩
  obtain ⟨⟨M, m1, m2, m3, m4⟩, -⟩ := i.scr k
  have sc := i.1.scr k.2.2.2.1
  have h4 := k.2.2.2.2.2.2.2.2.2.2.2.2.2.2.2.2.2.2
  rw [t_330 i.1, if_neg (nI_nlt (by omega) (by omega)), ck_ok sc.1, m3]
  by_cases q : j < M
  · rw [if_pos (nI_lt q (by omega)), ck_ok sc.1, sc.2.2.1, Option.bind_some, ck_ok sc.2.2.2.2.2.1, sc.2.2.2.2.2.2, gd_nI (by omega) (by decide), ix_nI hj]
    exact ⟨_, rfl, (m4 j q).2.1, (m4 j q).2.2⟩
  · rw [if_neg (nI_nlt (by omega) (by omega))]
    have z := lk_end m1 (k := j) (by omega)
    exact ⟨_, rfl, fun w => by rw [z] at w; exact absurd w.1 (by decide), fun w => by rw [z] at w; cases w⟩
theorem cm_go (hs : Sh hc) (hn : 1 ≤ n) (e : gI hc 1547 175 = nI 0) : E n 362 [.ref 175] hc = some (some (.int (nI 1)), hc) := by
  obtain ⟨m, rfl⟩ : ∃ m, n = m + 1 := ⟨n - 1, by omega⟩
  rw [t_362 hs, if_pos e]
theorem cm_ngo (hs : Sh hc) (hn : 1 ≤ n) (e : gI hc 1547 175 ≠ nI 0) : E n 362 [.ref 175] hc = some (some (.int (nI 0)), hc) := by
  obtain ⟨m, rfl⟩ : ∃ m, n = m + 1 := ⟨n - 1, by omega⟩
  rw [t_362 hs, if_neg e]
/-- not too deep -/
theorem cm_deep (hs : Sh hc) (hn : 1 ≤ n) (hj : j < 20) : E n 383 [.ref 175, .int (nI j)] hc = some (some (.int (nI 0)), hc) := by
  obtain ⟨m, rfl⟩ : ∃ m, n = m + 1 := ⟨n - 1, by omega⟩
  rw [t_383 hs, if_pos (nI_lt hj (by decide)), if_pos (nI_lt hj (by decide))]
end LFC
section LFR
variable {c : CXm} {hc hr h1 : AH} {n p D T : Nat}
theorem CRm.A (r : CRm c hc hr) {x : Nat} (hx : x ∉ XRn) : gA hr x = gA (hR c) x := r.2.1.A hx
/-- the loop takes the code at p -/
theorem LP_go (r : CRm c hc hr) (k : KXs c) (e : gI hr 3732 189 = -1) (hp : gI hr 3724 189 = nI p) (h4 : p < 4400) {x y : Int32} {L : Cds} (A : AT (hR c) (4400 * kn c 5 + p) ((x, y) :: L)) : LPm c hr = cK (E (kn c 8 + 20) 152 [.ref 189, .int x, .int y] (sI (sI hr 3733 189 (nI 0)) 3724 189 (nI (p + 1)))) (Q (kn c 8 + 20) 151 130 [some (.ref 189), none, none, some (.int (nI (4400 * kn c 5 + p)))]) [] := by
  obtain ⟨k1, k2, k3, k4, k5, k6, k7, k8, k9, k10, k11, k12, k13, k14, k15, k16, k17, -⟩ := k
  have hs := r.2.1.sh k2
  have a0 := A 0 (Nat.succ_pos _)
  have e96 : gI hr 3696 189 = nI (kn c 5) := by rw [r.2.1.I (by decide)]; exact k16
  unfold LPm
  rw [t_151_78 hs, if_pos (show gI hr 3732 189 < nI 0 by rw [e]; decide), e96, hp, pk_mul, nI_add, gd_nI (by omega) (by decide), gd_nI (by omega) (by decide), ix_nI (by omega), r.A (by decide), r.A (by decide), nI_add, show (4400 * kn c 5 + p) = 4400 * kn c 5 + p + 0 from rfl, a0.1, a0.2]
  rfl
/-- and goes on, if nothing came -/
theorem LP_nx (hs : Sh h1) (e : gI h1 3733 189 = nI 0) {u : Option Value} : cK (some (none, h1)) (Q (kn c 8 + 20) 151 130 [some (.ref 189), none, none, u]) [] = LPm c h1 := by
  rw [cK_n, t_151_130 hs, if_neg (by rw [e]; decide), t_151_148 hs]; rfl
/-- the end -/
theorem LP_end (hs : Sh h1) {e : Nat} (he : e < 2 ^ 31) (q : gI h1 3732 189 = nI e) : LPm c h1 = some (some (.int (nI e)), h1) := by
  unfold LPm
  rw [t_151_78 hs, if_neg (by rw [q]; exact nI_nlt (by omega) (by omega)), q]
end LFR
