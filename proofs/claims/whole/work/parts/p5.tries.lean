/-! ===== RUN: tries, on both sides: their codes; what stands behind their ons ===== -/
section TRY
variable {c : CXm} {M N d k k' k1 k2 D T p y o n m a E0 : Nat} {hc hr h0 hc1 hr1 hc' hX : AH} {L L1 L2 L3 : Cds} {Y O Y2 O2 Y3 O3 : C3} {fi : Int32}
/-- a try is opened -/
theorem b_try (K : KXs c) (g : Gs c D 0 p k hc hr) (hD : D < 24) (h4 : p < 4400) (A : AT (hR c) (4400 * kn c 5 + p) [(nI 41, nI T)]) : ∃ hr', LPm c hr = LPm c hr' ∧ Gs c (D + 1) 0 (p + 1) k hc hr' ∧ HF D hr hr' ∧ gA hr' 290 D = nI T ∧ gA hr' 291 D = nI 0 := by
  have sr := g.sR K
  obtain ⟨hf, hf0⟩ : ∃ hf, hf = fet hr p := ⟨_, rfl⟩
  have ff : Fr [3724, 3733] [] hr hf := by rw [hf0]; exact fet_fr
  have sf : Sh hf := ff.sh sr
  have dp : gI hf 3731 189 = nI D := by rw [ff.I (by decide)]; exact g.2.2.2.2.2.1
  have tp : gI hf 3723 189 = nI 0 := by rw [ff.I (by decide)]; exact g.2.2.2.2.1
  have cm : gI hf 3733 189 = nI 0 := by rw [hf0]; exact fet_c
  have pq : gI hf 3724 189 = nI (p + 1) := by rw [hf0]; exact fet_p
  obtain ⟨h2, hE2⟩ : ∃ h2, h2 = sA hf 290 D (nI T) := ⟨_, rfl⟩
  have e2 : Fr [] [290] hf h2 := by rw [hE2]; exact Fr.rfl.sA (by decide)
  obtain ⟨h3, hE3⟩ : ∃ h3, h3 = sA h2 291 D (nI 0) := ⟨_, rfl⟩
  have e3 : Fr [] [291] h2 h3 := by rw [hE3]; exact Fr.rfl.sA (by decide)
  obtain ⟨h1, hE⟩ : ∃ h1, h1 = sI h3 3731 189 (nI (D + 1)) := ⟨_, rfl⟩
  have e4 : Fr [3731] [] h3 h1 := by rw [hE]; exact Fr.rfl.sI (by decide)
  have f2 : Fr [3731] [290, 291] hf h1 := (e2.wk (fun _ q => absurd q List.not_mem_nil) (by decide)).trans ((e3.wk (fun _ q => absurd q List.not_mem_nil) (by decide)).trans (e4.wk (fun _ q => q) (fun _ q => absurd q List.not_mem_nil)))
  have f1 : Fr [3724, 3731, 3733] [290, 291] hr h1 := (ff.wk (by decide) (fun _ q => absurd q List.not_mem_nil)).trans (f2.wk (by decide) (fun _ q => q))
  have s1 := f1.sh sr
  have eR : E (kn c 8 + 20) 152 [.ref 189, .int (nI 41), .int (nI T)] (fet hr p) = some (none, h1) := by
    rw [← hf0, o_152d sf (by decide), t_153 sf, if_neg (by decide), if_neg (by decide), if_neg (by decide), if_pos rfl, dp, gd_nI hD (by decide), gd_nI hD (by decide), ix_nI (by omega), nI_add, ← hE2, ← hE3, ← hE, cK_n, t_152_12 s1, t_152_65 s1]
  have A0 : ∀ j, gA h1 290 j = if j = D then nI T else gA hr 290 j := fun j => by
    rw [e4.A List.not_mem_nil, e3.A (by decide), hE2, gA_s]
    show (if j = D then nI T else gA hf 290 j) = _
    rw [ff.A List.not_mem_nil]
  have A1 : ∀ j, gA h1 291 j = if j = D then nI 0 else gA hr 291 j := fun j => by
    rw [e4.A List.not_mem_nil, hE3, gA_s]
    show (if j = D then nI 0 else gA h2 291 j) = _
    rw [e2.A (by decide), ff.A List.not_mem_nil]
  refine ⟨h1, LP_ok K g h4 A eR s1 (by rw [f2.I (by decide)]; exact cm), ⟨g.1.frR (f1.wk (by decide) (by decide)), g.2.1, g.2.2.1, by rw [f2.I (by decide)]; exact pq, by rw [f2.I (by decide)]; exact tp, by rw [hE, gI_s], by rw [f1.I (by decide)]; exact g.2.2.2.2.2.2⟩, ⟨by rw [f1.I (by decide)]; exact Nat.le_refl _, fun j hj => ⟨by rw [A0, if_neg (by omega)], by rw [A1, if_neg (by omega)], by rw [f1.A (by decide)], by rw [f1.B (by decide)]⟩⟩, by rw [A0, if_pos rfl], by rw [A1, if_pos rfl]⟩
/-- tried -/
theorem b_tried (K : KXs c) (g : Gs c (D + 1) 0 p k hc hr) (hD : D < 24) (hT : T < 1640) (h4 : p < 4400) (A : AT (hR c) (4400 * kn c 5 + p) [(nI 42, nI T)]) :
    (gA (hR c) 277 T = -1 → gA (hR c) 278 T = nI E0 → ∃ hr', LPm c hr = LPm c hr' ∧ Gs c D 0 E0 k hc hr' ∧ HF D hr hr') ∧
    (∀ a, a < 2 ^ 31 → gA (hR c) 277 T = nI a → ∃ hr', LPm c hr = LPm c hr' ∧ Gs c (D + 1) 0 a k hc hr' ∧ HF D hr hr' ∧ gA hr' 290 D = gA hr 290 D ∧ gA hr' 291 D = nI 2 ∧ gA hr' 292 D = nI 0) := by
  have sr := g.sR K
  obtain ⟨hf, hf0⟩ : ∃ hf, hf = fet hr p := ⟨_, rfl⟩
  have ff : Fr [3724, 3733] [] hr hf := by rw [hf0]; exact fet_fr
  have sf : Sh hf := ff.sh sr
  have dp : gI hf 3731 189 = nI (D + 1) := by rw [ff.I (by decide)]; exact g.2.2.2.2.2.1
  have tp : gI hf 3723 189 = nI 0 := by rw [ff.I (by decide)]; exact g.2.2.2.2.1
  have cm : gI hf 3733 189 = nI 0 := by rw [hf0]; exact fet_c
  have t7 : gA hf 277 = gA (hR c) 277 := by rw [ff.A List.not_mem_nil]; exact g.1.tA (by decide) (by decide)
  have t8 : gA hf 278 = gA (hR c) 278 := by rw [ff.A List.not_mem_nil]; exact g.1.tA (by decide) (by decide)
  have eR : E (kn c 8 + 20) 152 [.ref 189, .int (nI 42), .int (nI T)] (fet hr p) = cK (cK (E (kn c 8 + 18) 156 [.ref 189, .int (nI T)] hf) (Q (kn c 8 + 18) 153 118 [some (.ref 189), some (.int (nI 42)), some (.int (nI T)), none]) []) (Q (kn c 8 + 19) 152 12 [some (.ref 189), some (.int (nI 42)), some (.int (nI T))]) [] := by
    rw [← hf0, o_152d sf (by decide), t_153 sf, if_neg (by decide), if_neg (by decide), if_neg (by decide), if_neg (by decide), if_pos rfl]
  rw [t_156 sf, gd_nI hT (by decide), ix_nI (by omega), t7, t8, dp, pk_sub (by omega), show D + 1 - 1 = D by omega] at eR
  refine ⟨fun e1 e2 => ?_, fun a ha e1 => ?_⟩
  · obtain ⟨h1, hE⟩ : ∃ h1, h1 = sI (sI hf 3731 189 (nI D)) 3724 189 (nI E0) := ⟨_, rfl⟩
    have f2 : Fr [3724, 3731] [] hf h1 := by rw [hE]; exact (Fr.rfl.sI (by decide)).sI (by decide)
    have f1 : Fr [3724, 3731, 3733] [] hr h1 := (ff.wk (by decide) (fun _ q => q)).trans (f2.wk (by decide) (fun _ q => q))
    have s1 := f1.sh sr
    rw [e1, e2, if_pos (by decide), gd_nI hT (by decide), ← hE, cK_n, t_153_118 s1, cK_n, t_152_12 s1, t_152_65 s1] at eR
    exact ⟨h1, LP_ok K g h4 A eR s1 (by rw [f2.I (by decide)]; exact cm), ⟨g.1.frR (f1.wk (by decide) (fun _ q => absurd q List.not_mem_nil)), g.2.1, g.2.2.1, by rw [hE, gI_s], by rw [f1.I (by decide)]; exact g.2.2.2.2.1, by rw [hE, gI_k (by decide), gI_s], by rw [f1.I (by decide)]; exact g.2.2.2.2.2.2⟩, HF.of f1 (by decide)⟩
  · obtain ⟨h2, hE2⟩ : ∃ h2, h2 = sA hf 291 D (nI 2) := ⟨_, rfl⟩
    have e2 : Fr [] [291] hf h2 := by rw [hE2]; exact Fr.rfl.sA (by decide)
    obtain ⟨h3, hE3⟩ : ∃ h3, h3 = sA h2 292 D (nI 0) := ⟨_, rfl⟩
    have e3 : Fr [] [292] h2 h3 := by rw [hE3]; exact Fr.rfl.sA (by decide)
    obtain ⟨h1, hE⟩ : ∃ h1, h1 = sI h3 3724 189 (nI a) := ⟨_, rfl⟩
    have e4 : Fr [3724] [] h3 h1 := by rw [hE]; exact Fr.rfl.sI (by decide)
    have f2 : Fr [3724] [291, 292] hf h1 := (e2.wk (fun _ q => absurd q List.not_mem_nil) (by decide)).trans ((e3.wk (fun _ q => absurd q List.not_mem_nil) (by decide)).trans (e4.wk (fun _ q => q) (fun _ q => absurd q List.not_mem_nil)))
    have f1 : Fr [3724, 3733] [291, 292] hr h1 := (ff.wk (fun _ q => q) (fun _ q => absurd q List.not_mem_nil)).trans (f2.wk (by decide) (fun _ q => q))
    have s1 := f1.sh sr
    have n0 : ¬ nI a < nI 0 := nI_nlt (by omega) ha
    rw [e1, if_neg n0, gd_nI hD (by decide), gd_nI hD (by decide), gd_nI hT (by decide), ix_nI (by omega), ← hE2, ← hE3, ← hE, cK_n, t_153_118 s1, cK_n, t_152_12 s1, t_152_65 s1] at eR
    have A0 : ∀ j, gA h1 291 j = if j = D then nI 2 else gA hr 291 j := fun j => by
      rw [e4.A List.not_mem_nil, e3.A (by decide), hE2, gA_s]
      show (if j = D then nI 2 else gA hf 291 j) = _
      rw [ff.A List.not_mem_nil]
    have A1 : ∀ j, gA h1 292 j = if j = D then nI 0 else gA hr 292 j := fun j => by
      rw [e4.A List.not_mem_nil, hE3, gA_s]
      show (if j = D then nI 0 else gA h2 292 j) = _
      rw [e2.A (by decide), ff.A List.not_mem_nil]
    exact ⟨h1, LP_ok K g h4 A eR s1 (by rw [f2.I (by decide)]; exact cm), ⟨g.1.frR (f1.wk (by decide) (by decide)), g.2.1, g.2.2.1, by rw [hE, gI_s], by rw [f1.I (by decide)]; exact g.2.2.2.2.1, by rw [f1.I (by decide)]; exact g.2.2.2.2.2.1, by rw [f1.I (by decide)]; exact g.2.2.2.2.2.2⟩, ⟨by rw [f1.I (by decide)]; exact Nat.le_refl _, fun j hj => ⟨by rw [f1.A (by decide)], by rw [A0, if_neg (by omega)], by rw [A1, if_neg (by omega)], by rw [f1.B (by decide)]⟩⟩, by rw [f1.A (by decide)], by rw [A0, if_pos rfl], by rw [A1, if_pos rfl]⟩
/-- done -/
theorem b_done (K : KXs c) (g : Gs c (D + 1) 0 p k hc hr) (hD : D < 24) (hT : T < 1640) (h4 : p < 4400) (A : AT (hR c) (4400 * kn c 5 + p) [(nI 43, nI T)]) {e : Nat} {w : Int64} (he : e ≤ 20) (e0 : gA hr 292 D = nI e) (ew : 0 < e → gB hr 293 D = w) (e8 : gA (hR c) 278 T = nI E0) :
    (e = 0 → ∃ hr', LPm c hr = LPm c hr' ∧ Gs c D 0 E0 k hc hr' ∧ HF D hr hr') ∧
    (0 < e → ∃ hr', LPq c hr e w hr' ∧ CRm c hc hr' ∧ gI hr' 3731 189 = nI D ∧ HF D hr hr' ∧ gI hr' 3723 189 = nI 0 ∧ gI hr' 3732 189 = -1) := by
  have sr := g.sR K
  have sf : Sh (fet hr p) := fet_fr.sh sr
  have dp : gI (fet hr p) 3731 189 = nI (D + 1) := by rw [fet_fr.I (by decide)]; exact g.2.2.2.2.2.1
  have t8 : gA (fet hr p) 278 = gA (hR c) 278 := by rw [gA_fet]; exact g.1.tA (by decide) (by decide)
  obtain ⟨h1, hE⟩ : ∃ h1, h1 = sI (sI (fet hr p) 3731 189 (nI D)) 3724 189 (nI E0) := ⟨_, rfl⟩
  have f1 : Fr [3724, 3731, 3733] [] hr h1 := by rw [hE]; exact ((fet_fr.wk (by decide) (fun _ q => q)).sI (by decide)).sI (by decide)
  have s1 := f1.sh sr
  have r1 : CRm c hc h1 := g.1.frR (f1.wk (by decide) (fun _ q => absurd q List.not_mem_nil))
  have c1 : gI h1 3733 189 = nI 0 := by rw [hE, gI_k (by decide), gI_k (by decide)]; exact fet_c
  have d1 : gI h1 3731 189 = nI D := by rw [hE, gI_k (by decide), gI_s]
  have eR : E (kn c 8 + 20) 152 [.ref 189, .int (nI 43), .int (nI T)] (fet hr p) = cK (if nI 0 < nI e then cK (E (kn c 8 + 18) 157 [.ref 189, .int (nI e), .long (gB hr 293 D)] h1) (Q (kn c 8 + 18) 153 175 [some (.ref 189), some (.int (nI 43)), some (.int (nI T)), none]) [] else some (none, h1)) (Q (kn c 8 + 19) 152 12 [some (.ref 189), some (.int (nI 43)), some (.int (nI T))]) [] := by
    rw [o_152d sf (by decide), t_153 sf, if_neg (by decide), if_neg (by decide), if_neg (by decide), if_neg (by decide), if_neg (by decide), if_pos rfl, gd_nI hT (by decide), dp, pk_sub (by omega), show D + 1 - 1 = D by omega, gd_nI hD (by decide), ix_nI (by omega), ix_nI (by omega), gA_fet, gB_fet, e0, g.1.tA (x := 278) (by decide) (by decide), e8, ← hE]
    by_cases z : nI 0 < nI e
    · rw [if_pos z, if_pos z, gd_nI hD (by decide), gd_nI hD (by decide)]
    · rw [if_neg z, if_neg z]
  refine ⟨fun z => ?_, fun z => ?_⟩
  · rw [z, if_neg (by decide), cK_n, t_152_12 s1, t_152_65 s1] at eR
    exact ⟨h1, LP_ok K g h4 A eR s1 c1, ⟨r1, g.2.1, g.2.2.1, by rw [hE, gI_s], by rw [f1.I (by decide)]; exact g.2.2.2.2.1, d1, by rw [f1.I (by decide)]; exact g.2.2.2.2.2.2⟩, HF.of f1 (by decide)⟩
  · rw [if_pos (nI_lt z (by omega)), ew z] at eR
    refine ⟨h1, fun h2 s2 w2 e2 => ?_, r1, d1, HF.of f1 (by decide), by rw [f1.I (by decide)]; exact g.2.2.2.2.1, by rw [f1.I (by decide)]; exact g.2.2.2.2.2.2⟩
    rw [LP_go g.1 K g.2.2.2.2.2.2 g.2.2.2.1 h4 A]
    show cK (E (kn c 8 + 20) 152 [.ref 189, .int (nI 43), .int (nI T)] (fet hr p)) _ [] = _
    rw [eR, E_le e2 _ (by omega), cK_n, t_153_175 s2, cK_n, t_152_12 s2, t_152_65 s2, LP_nx s2 (w2.trans c1)]
/-- behind a try's block and its ons -/
def PhA (c : CXm) (h0 : AH) (D T k2 : Nat) (hc hr : AH) : Prop :=
  (∃ hr' p2, stp1 h0 hc ∧ LPm c hr = LPm c hr' ∧ Gs c (D + 1) 0 p2 k2 hc hr' ∧ HF D hr hr' ∧ gA hr' 290 D = nI T ∧ p2 < 4300 ∧ AT (hR c) (4400 * kn c 5 + p2) [(nI 42, nI T)]) ∨
  (∃ e w hr', gI hc 1547 175 = nI e ∧ (1 ≤ e ∧ e ≤ 9 ∨ e = 12) ∧ CRm c hc hr' ∧ LPq c hr (if e = 12 then 20 else e) w hr' ∧ (e = 9 → w = gL hc 1548 175) ∧ gI hr' 3731 189 = nI (D + 1) ∧ HF D hr hr' ∧ gA hr' 290 D = nI T ∧ gI hr' 3723 189 = nI 0 ∧ gI hr' 3732 189 = -1 ∧ (gA hr' 291 D = nI 0 ∧ (e = 12 ∨ Fnd c (gA (hR c) 276 T) e (-1)) ∨ gA hr' 291 D = nI 1) ∧ gI hc 1545 175 = nI k2) ∨
  ∃ e hr', gI hc 1547 175 = nI e ∧ (e = 10 ∨ e = 11) ∧ CRm c hc hr' ∧ LPm c hr = some (some (.int (nI e)), hr') ∧ gI hc 1545 175 = nI k2
/-- what comes out of the block of an on -/
theorem Dd.ph (a : Dd c (D + 1) hc hX) (e : LPm c hr = LPm c hX) (f : HF D hr hX) (t : gA hX 290 D = nI T) (s : gA hX 291 D = nI 1) (at_ : gI hc 1545 175 = nI k2) : PhA c h0 D T k2 hc hr := by
  obtain ⟨x, x1, x2, x3, hr', x4, x5⟩ := a
  rcases x5 with ⟨y1, w, y2, y3, y4, y5, y6, y7⟩ | ⟨y1, y2⟩
  · obtain ⟨z1, z2, -, -⟩ := y5.2 D (Nat.lt_succ_self _)
    exact Or.inr (Or.inl ⟨x, w, hr', x1, by omega, x4, fun h2 q0 q1 q => e.trans (y2 h2 q0 q1 q), y3, y4, f.tr (y5.lo (Nat.le_succ _)), by rw [z1]; exact t, y6, y7, Or.inr (by rw [z2]; exact s), at_⟩)
  · exact Or.inr (Or.inr ⟨x, hr', x1, y1, x4, e.trans y2, at_⟩)
/-- out of an always-block, or where there is none -/
theorem Dd.pop (K : KXs c) (a : Dd c (D + 1) hc hX) (hD : D < 24) (hT : T < 1640) (t : gA hX 290 D = nI T) (s : gA hX 291 D = nI 2) : Dd c D hc hX := by
  obtain ⟨x, x1, x2, x3, hr', x4, x5⟩ := a
  refine ⟨x, x1, x2, x3, ?_⟩
  rcases x5 with ⟨y1, w, y2, y3, y4, y5, y6, y7⟩ | ⟨y1, y2⟩
  · obtain ⟨z1, z2, -, -⟩ := y5.2 D (Nat.lt_succ_self _)
    have sr := x4.shR K
    have fr : Fr [3731] [] hr' (sI hr' 3731 189 (nI D)) := Fr.rfl.sI (by decide)
    refine ⟨sI hr' 3731 189 (nI D), x4.frR (fr.wk (by decide) (fun _ q => absurd q List.not_mem_nil)), Or.inl ⟨y1, w, fun h2 q0 q1 q => y2 h2 q0 (by rw [q1, gI_k (by decide)]) ?_, y3, gI_s, (y5.lo (Nat.le_succ _)).tr (HF.of fr (by decide)), by rw [gI_k (by decide)]; exact y6, by rw [gI_k (by decide)]; exact y7⟩⟩
    have := (ow_n (e := if x = 12 then 20 else x) (w := w) sr y4 hD (z1.trans t) hT (by split <;> omega) (Or.inl (by rw [z2, s]; decide))).2 (fun z => absurd z.1 (by rw [z2, s]; decide))
    rw [this]; exact q
  · exact ⟨hr', x4, Or.inr ⟨y1, y2⟩⟩
end TRY
