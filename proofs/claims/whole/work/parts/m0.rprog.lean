/-! ===== PROGRAMMES: the reference's programme() ===== -/
abbrev KPg : List Nat := [3586, 3590, 3591, 3595, 3596, 3695, 3696, 3697, 3698, 3701, 3702, 3708]
abbrev XPg : List Nat := [194, 195, 196, 274, 275, 276, 277, 278, 279, 280, 281]
/-- the programme's codes stand on the side s -/
def RPg (h : AH) (t : Tp) (s : Nat) : Prop := ∃ L Y O, CSx t (1 - s) (6 * t.1 + 3) 13 0 0 (pxR t).2 0 0 0 0 L Y O 0 ∧ L.length ≤ 4000 ∧ AT h (4400 * s) (L ++ [(nI 44, nI 0)]) ∧ T3 h 276 (820 * s) Y ∧ T3 h 279 (700 * s) O ∧ Y.length ≤ 820 ∧ O.length ≤ 700
section RPG
variable {d sd : Nat} {h : AH} {t : Tp}
theorem r_prog (hs : Sh h) (K : KR h) (T : RT h t) (hsd : sd ≤ 1) (es : gI h 3696 189 = nI sd) : ∃ h', E (d + 230) 127 [.ref 189] h = some (some (.int (nI (pxR t).1)), h') ∧ gI h' 3586 189 = nI 0 ∧ RT h' (0, t.2) ∧ (pxR t).1 < 100000 ∧ Fr KPg XPg h h' ∧
    (∀ x, 274 ≤ x → x ≤ 281 → ∀ i, ¬ mTs sd 0 0 0 x i → gA h' x i = gA h x i) ∧
    ((pxR t).1 ≠ 0 → gI h' 3696 189 = nI sd ∧ gI h' 3695 189 = gI h 3695 189) ∧
    ((pxR t).1 = 0 → gI h' 3696 189 = nI (1 - sd) ∧ gI h' 3695 189 = nI 1 ∧ RPg h' t (1 - sd)) := by
  have F1 : Fr KPg [] h (sI h 3586 189 (nI 0)) := Fr.rfl.sI (by decide)
  have T1 : RT (sI h 3586 189 (nI 0)) t := T
  have F2 : Fr KPg [] h (sI (sI (sI h 3586 189 (nI 0)) 3591 189 (gI (sI h 3586 189 (nI 0)) 3590 189)) 3590 189 (nI 0)) := (F1.sI (by decide)).sI (by decide)
  have hs2 := F2.sh hs
  have T2 := RT.tk T1
  obtain ⟨h3, M, a1, a2, a3, a4, a5⟩ := r_cut (d := d + 226) hs2 T2
  have hs3 := a2.sh hs2
  have F3 : Fr KPg [194, 195, 196] h h3 := (F2.wk (fun _ q => q) (fun _ q => absurd q List.not_mem_nil)).trans (a2.wk (by decide) (fun _ q => q))
  have es3 : gI h3 3696 189 = nI sd := by
    rw [a2.I (by decide), gI_k (by decide), gI_k (by decide), gI_k (by decide)]; exact es
  have e95 : gI h3 3695 189 = gI h 3695 189 := by
    rw [a2.I (by decide), gI_k (by decide), gI_k (by decide), gI_k (by decide)]
  have g86 : gI h3 3586 189 = nI 0 := by
    rw [a2.I (by decide), gI_k (by decide), gI_k (by decide), gI_s]
  have g90 : gI h3 3590 189 = nI 0 := by rw [a2.I (by decide), gI_s]
  have M4 := a3.1
  have t4 := a3.2.1
  have eB : (nI 4400) * ((nI 1) - (nI sd)) = nI (4400 * (1 - sd)) := by rw [pk_sub hsd, pk_mul]
  obtain ⟨h4, hE⟩ : ∃ h4, h4 = sI (sI (sI (sI (sI h3 3697 189 (nI 0)) 3698 189 (nI (4400 * (1 - sd)))) 3701 189 (nI 0)) 3702 189 (nI 0)) 3708 189 (nI 0) := ⟨_, rfl⟩
  have f4 : Fr [3697, 3698, 3701, 3702, 3708] [] h3 h4 := by
    rw [hE]; exact ((((Fr.rfl.sI (by decide)).sI (by decide)).sI (by decide)).sI (by decide)).sI (by decide)
  have F4 : Fr KPg [194, 195, 196] h h4 := F3.trans (f4.wk (by decide) (fun _ q => absurd q List.not_mem_nil))
  have R4 : RQ h4 t M 0 0 := ⟨a3.fr f4 (by decide) (by decide) (by decide), by rw [f4.I (by decide)]; exact a5, by decide, 0, by rw [f4.I (by decide)]; exact a4, Nat.zero_le _, fun _ => rfl⟩
  have S4 : SRt h4 t M 0 0 0 0 0 0 sd := by
    refine ⟨⟨f4.sh hs3, K.fr F4 (by decide), R4, ?_, ?_, ?_, by omega⟩, ?_, ?_, ?_, hsd⟩
    · rw [hE, gI_k (by decide), gI_k (by decide), gI_k (by decide), gI_k (by decide), gI_s]
    · rw [hE, gI_k (by decide), gI_k (by decide), gI_k (by decide), gI_s]
    · rw [hE, gI_s]
    · rw [hE, gI_k (by decide), gI_k (by decide), gI_s]
    · rw [hE, gI_k (by decide), gI_s]
    · rw [f4.I (by decide)]; exact es3
  obtain ⟨h5, b1, b2⟩ := (psh (t := t) (M := M) (sd := sd) (Nat.le_trans M4 t4) (6 * t.1 + 3) 13 0 0 (pxR t) (d + 229) h4 0 0 0 (pxR_e t) S4 (by omega) (Nat.zero_le _) (by omega) (by show 24 + 10 * (20 - 0) ≤ _; omega)).2.2.2.2 rfl rfl (Nat.le_refl _) ⟨Nat.zero_le _, Nat.zero_le _⟩
  have e0 : E (d + 230) 127 [.ref 189] h = Q (d + 229) 127 47 [some (.ref 189), none] [] h5 := by
    rw [t_127 hs, t_36 (F1.sh hs), cK_n, t_127_9 hs2, a1, cK_n, t_127_13 hs3, es3, eB, ← hE, b1]
  rw [e0]
  obtain ⟨h', b3, g, z0, z1⟩ := b2
  cases b3
  have F5 : Fr KPg XPg h h5 := (F4.wk (fun _ q => q) (by decide)).trans (g.1.wk (by decide) (by decide))
  have hs5 := F5.sh hs
  have kA : ∀ x, 274 ≤ x → x ≤ 281 → ∀ i, ¬ mTs sd 0 0 0 x i → gA h5 x i = gA h x i := fun x h1 h2 i q => by
    rw [g.2 x h1 h2 i (fun z => z.elim q (fun z => z)), F4.A (by simp only [List.mem_cons, List.not_mem_nil, or_false]; omega)]
  have T5 : RT h5 (0, t.2) := by
    refine ⟨?_, Nat.zero_le _, fun i hi => absurd hi (Nat.not_lt_zero _)⟩
    rw [g.1.I (by decide), f4.I (by decide)]; exact g90
  have u86 : gI h5 3586 189 = nI 0 := by rw [g.1.I (by decide), f4.I (by decide)]; exact g86
  have u95 : gI h5 3695 189 = gI h 3695 189 := by rw [g.1.I (by decide), f4.I (by decide)]; exact e95
  have u96 : gI h5 3696 189 = nI sd := by rw [g.1.I (by decide), f4.I (by decide)]; exact es3
  by_cases z : (pxR t).1 = 0
  · obtain ⟨L, Y, O, p1, p2, p3, p4, p5, p6, p7⟩ := z0 z
    have hl : L.length ≤ 4000 := by omega
    have R5 := p7.1.2.2.1
    obtain ⟨r1, r2, r3, r4⟩ := R5.at rfl
    have le := px_end _ _ _ (pxR_e t) z
    have hk0 : gA h5 194 (pxR t).2 = nI 0 := by
      rw [r4.1, lk_0.mp le]; rfl
    have lo : (0 : Nat) + L.length = L.length := Nat.zero_add _
    rw [lo] at p7
    obtain ⟨h6, c1, c2, c3⟩ := r_emit (n := d + 229) p7.1 (by omega) (by omega) (nI 44) (nI 0)
    have i6 : gI h6 3596 189 = nI 0 := c3.2.2.1.2.1
    refine ⟨sI (sI h6 3696 189 (nI (1 - sd))) 3695 189 (nI 1), ?_, ?_, ?_, by rw [z]; decide, ?_, ?_, fun q => absurd z q, fun _ => ⟨?_, gI_s, ?_⟩⟩
    · rw [t_127_47 hs5, R5.2.1, if_pos rfl, r1, gd_nI (by omega) (by decide), ix_nI (by omega), hk0, if_pos rfl, if_neg (by decide), c1, cK_v, t_127_92 c3.1, c2.1.I (by decide), u96, pk_sub hsd, z]
    · rw [gI_k (by decide), gI_k (by decide), c2.1.I (by decide)]; exact u86
    · refine ⟨?_, Nat.zero_le _, fun i hi => absurd hi (Nat.not_lt_zero _)⟩
      rw [gI_k (by decide), gI_k (by decide), c2.1.I (by decide)]; exact T5.1
    · exact ((F5.trans (c2.1.wk (by decide) (by decide))).sI (by decide)).sI (by decide)
    · intro x h1 h2 i q
      have := (PW.fg p7 c2).2 x h1 h2 i (fun w => q (w.up (by omega) (by omega) (by omega)))
      exact this.trans (kA x h1 h2 i q)
    · rw [gI_k (by decide), gI_s]
    · have ess : 1 - (1 - sd) = sd := by omega
      obtain ⟨q1, q2⟩ : CSx t sd (6 * t.1 + 3) 13 0 0 (pxR t).2 0 0 0 0 L Y O 0 ∧ IBs t 0 (pxR t).2 0 (0 + Y.length) (0 + O.length) := p1
      have hb := q2.r t4 (by omega) (by omega)
      rw [Nat.zero_add, Nat.zero_add] at hb
      have gg : ∀ a b d, a ≤ L.length → b ≤ Y.length → d ≤ O.length → FRg (fun x i => mTs sd a b d x i ∨ exN x i) h5 h6 := fun a b d h1 h2 h3 => (PW.fg p7 c2).wk fun x i q => Or.inl (q.up h1 (by omega) (by omega))
      refine ⟨L, Y, O, ?_, hl, ?_, ?_, ?_, by omega, by omega⟩
      · rw [ess]; exact q1
      · have q4 : AT h6 (4400 * (1 - sd)) L := AT.kp (ex := exN) (c := 0) (y := Y.length) (o := O.length) (y' := Y.length) (o' := O.length) p4 exA.none (by rw [lo]; exact gg _ _ _ (by omega) (by omega) (by omega))
        exact AT_app.mpr ⟨q4, c2.2.2⟩
      · have q5 : T3 h6 276 (820 * (1 - sd)) Y := T3.kpy (ex := exN) (y := 0) (c := 0) (o := 0) (c' := L.length) (o' := O.length) p5 exA.none (by rw [Nat.zero_add]; exact gg _ _ _ (by omega) (by omega) (by omega))
        exact q5
      · have q6 : T3 h6 279 (700 * (1 - sd)) O := T3.kpo (ex := exN) (o := 0) (c := 0) (y := 0) (c' := L.length) (y' := Y.length) p6 exA.none (by rw [Nat.zero_add]; exact gg _ _ _ (by omega) (by omega) (by omega))
        exact q6
  · obtain ⟨c', y', o', p1, p2, p3, p4, p5⟩ := z1 z
    have R5 := p5.1.2.2.1
    have f1 : (pxR t).1 < 100000 := R5.2.2.1
    refine ⟨h5, ?_, u86, T5, f1, F5, kA, fun _ => ⟨u96, u95⟩, fun q => absurd q z⟩
    rw [t_127_47 hs5, R5.2.1, if_neg (fun w => z ((nI_eq (by omega) (by decide)).mp w)), if_pos (nI_lt (by omega) (by omega))]
end RPG
