/-! ===== RUN: statements on both sides: registers, hands, dropped and shared trays, refusals, stop ===== -/
/-- what a statement comes to -/
def StO (c : CXm) (q : Option Ot) (hc hr : AH) (D p k : Nat) : Prop := ∃ hc', q = some (none, hc') ∧ ((stp1 hc hc' ∧ ∃ hr', LPm c hr = LPm c hr' ∧ Gs c D 0 p k hc' hr' ∧ HF D hr hr') ∨ Dd c D hc' hr)
section STA
variable {c : CXm} {M N d k k' D T p n a : Nat} {hc hr h h1 hc' hr' : AH} {L : Cds} {x : Int64}
theorem CRm.upd (r : CRm c hc hr) (fc : Fr KMc XMc hc hc') (fr : Fr KMr XMr hr hr') (m : ∀ ty a1 a2 p1 p2 mk rf, MRl hc hr (kn c 6) ty a1 a2 p1 p2 mk rf → ∃ ty' p1' p2' mk', MRl hc' hr' (kn c 6) ty' a1 a2 p1' p2' mk' rf) : CRm c hc' hr' := by
  obtain ⟨r1, r2, ⟨s, G, Cp, r3⟩, ty, a1, a2, p1, p2, mk, rf, m0, mm⟩ := r
  obtain ⟨ty', p1', p2', mk', m'⟩ := m _ _ _ _ _ _ _ mm
  exact ⟨r1.trans (fc.gfm (by decide) (by decide)), r2.trans (fr.wk (by decide) (by decide)), ⟨s, G, Cp, (r3.frC fc).frR fr⟩, ty', a1, a2, p1', p2', mk', rf, m0, m'⟩
/-- both go on behind a step of the reference -/
theorem StO.go {q : Option Ot} (e : q = some (none, hc')) (s : stp1 hc hc') (l : LPm c hr = LPm c hr') (g : Gs c D 0 p k hc' hr') (f : HF D hr hr') : StO c q hc hr D p k := ⟨hc', e, Or.inl ⟨s, hr', l, g, f⟩⟩
theorem StO.dd {q : Option Ot} {s0 : Prop} (e : q = some (none, hc')) (_ : s0) (a : Dd c D hc' hr) : StO c q hc hr D p k := ⟨hc', e, Or.inr a⟩
theorem StO.dx {q : Option Ot} (e : q = some (none, hc')) (a : Dd c D hc' hr) : StO c q hc hr D p k := ⟨hc', e, Or.inr a⟩
theorem StO.pre {q : Option Ot} {hc0 hr0 : AH} (a : StO c q hc hr D p k) (b : stp1 hc0 hc) (e : LPm c hr0 = LPm c hr) (hf : HF D hr0 hr) : StO c q hc0 hr0 D p k := by
  obtain ⟨hc', a1, a3⟩ := a
  refine ⟨hc', a1, ?_⟩
  rcases a3 with ⟨a2, hr', b1, b2, b3⟩ | b1
  · exact Or.inl ⟨b.tr a2, hr', e.trans b1, b2, hf.tr b3⟩
  · exact Or.inr (b1.pre e hf)
/-- the place alone changes -/
theorem Gs.at2 (G : Gs c D T p k hc hr) : Fr [1545] [] hc (sI hc 1545 175 ((gI hc 1545 175) + (nI 1))) ∧ Gs c D T p (k + 1) (sI hc 1545 175 ((gI hc 1545 175) + (nI 1))) hr := ⟨Fr.rfl.sI (by decide), G.at1⟩
/-- a register is set -/
theorem b_set (K : KXs c) (g : Gs c D 1 p k hc hr) (v : gB hr 289 0 = x) (ha : a < 10) (h4 : p < 4400) (A : AT (hR c) (4400 * kn c 5 + p) [(nI 3, nI a)]) : ∃ hr', LPm c hr = LPm c hr' ∧ Gs c D 0 (p + 1) k (sB hc 176 a x) hr' ∧ HF D hr hr' := by
  have sr := g.sR K
  have sf : Sh (fet hr p) := fet_fr.sh sr
  have eT : gI (fet hr p) 3723 189 = nI (0 + 1) := g.fT
  obtain ⟨h0, hE0⟩ : ∃ h0, h0 = sI (fet hr p) 3723 189 (nI 0) := ⟨_, rfl⟩
  have f0 : Fr [3723, 3724, 3733] [] hr h0 := by rw [hE0]; exact (fet_fr.wk (by decide) (fun _ q => q)).sI (by decide)
  have s0 := f0.sh sr
  obtain ⟨h1, hE⟩ : ∃ h1, h1 = sB h0 282 a x := ⟨_, rfl⟩
  have f01 : Fr [] [282] h0 h1 := by rw [hE]; exact Fr.rfl.sB (by decide)
  have f1 : Fr [3723, 3724, 3733] [282] hr h1 := (f0.wk (fun _ q => q) (fun _ q => absurd q List.not_mem_nil)).trans (f01.wk (fun _ q => absurd q List.not_mem_nil) (fun _ q => q))
  have s1 := f1.sh sr
  have c1 : gI h1 3733 189 = nI 0 := by rw [f01.I List.not_mem_nil, hE0, gI_k (by decide)]; exact fet_c
  have q1 : gI h1 3724 189 = nI (p + 1) := by rw [f01.I List.not_mem_nil, hE0, gI_k (by decide)]; exact fet_p
  have t1 : gI h1 3723 189 = nI 0 := by rw [f01.I List.not_mem_nil, hE0, gI_s]
  have eR : E (kn c 8 + 20) 152 [.ref 189, .int (nI 3), .int (nI a)] (fet hr p) = some (none, h1) := by
    rw [o_152e sf (by decide), t_175 sf, if_neg (by decide), if_neg (by decide), if_pos rfl, rm_pop sf (by omega) eT (by decide), cK_v, ← hE0, t_175_67 s0, cw_ok (show gC h0 282 = 61 from ShC s0 (by decide)) (by decide), show gK h0 282 = 10 from ShK s0 (by decide), gd_nI ha (by decide), ix_nI (by omega), gB_fet, v, ← hE, t_175_108 s1, cK_n, t_152_65 s1]
  refine ⟨h1, LP_ok K g h4 A eR s1 c1, ⟨g.1.upd (Fr.rfl.sB (by decide)) (f1.wk (by decide) (by decide)) ?_, g.2.1, g.2.2.1, q1, t1, by rw [f1.I (by decide)]; exact g.2.2.2.2.2.1, by rw [f1.I (by decide)]; exact g.2.2.2.2.2.2⟩, HF.of f1 (by decide)⟩
  rintro ty a1 a2 p1 p2 mk rf ⟨m1, m2⟩
  have m2' := MRl.frR ⟨m1, m2⟩ f0 (by decide) (fun _ _ => List.not_mem_nil)
  refine ⟨ty, p1, p2, mk, fun i hi => ?_, ?_⟩
  · rw [hE, gB_s, gB_s]
    unfold up1
    by_cases q : i = a
    · rw [if_pos q, if_pos q]
    · rw [if_neg q, if_neg q]; exact m2'.1 i hi
  · rw [hE]; exact m2'.2
/-- a hand takes -/
theorem b_hand (K : KXs c) {x : Int32} (g : Gs c D 1 p k hc hr) (v : gB hr 289 0 = x.toInt64) (px : itv (kn c 6) x) (ha : a < 4) (h4 : p < 4400) (A : AT (hR c) (4400 * kn c 5 + p) [(nI 5, nI a)]) : ∃ hr', LPm c hr = LPm c hr' ∧ Gs c D 0 (p + 1) k (sA hc 177 a x) hr' ∧ HF D hr hr' := by
  have sr := g.sR K
  have sf : Sh (fet hr p) := fet_fr.sh sr
  have eT : gI (fet hr p) 3723 189 = nI (0 + 1) := g.fT
  obtain ⟨h0, hE0⟩ : ∃ h0, h0 = sI (fet hr p) 3723 189 (nI 0) := ⟨_, rfl⟩
  have f0 : Fr [3723, 3724, 3733] [] hr h0 := by rw [hE0]; exact (fet_fr.wk (by decide) (fun _ q => q)).sI (by decide)
  have s0 := f0.sh sr
  obtain ⟨h1, hE⟩ : ∃ h1, h1 = sA h0 283 a x := ⟨_, rfl⟩
  have f01 : Fr [] [283] h0 h1 := by rw [hE]; exact Fr.rfl.sA (by decide)
  have f1 : Fr [3723, 3724, 3733] [283] hr h1 := (f0.wk (fun _ q => q) (fun _ q => absurd q List.not_mem_nil)).trans (f01.wk (fun _ q => absurd q List.not_mem_nil) (fun _ q => q))
  have s1 := f1.sh sr
  have c1 : gI h1 3733 189 = nI 0 := by rw [f01.I List.not_mem_nil, hE0, gI_k (by decide)]; exact fet_c
  have q1 : gI h1 3724 189 = nI (p + 1) := by rw [f01.I List.not_mem_nil, hE0, gI_k (by decide)]; exact fet_p
  have t1 : gI h1 3723 189 = nI 0 := by rw [f01.I List.not_mem_nil, hE0, gI_s]
  have eR : E (kn c 8 + 20) 152 [.ref 189, .int (nI 5), .int (nI a)] (fet hr p) = some (none, h1) := by
    rw [o_152e sf (by decide), t_175 sf, if_neg (by decide), if_neg (by decide), if_neg (by decide), if_neg (by decide), if_pos rfl, rm_pop sf (by omega) eT (by decide), cK_v, ← hE0, t_175_94 s0, cw_ok (show gC h0 283 = 60 from ShC s0 (by decide)) (by decide), show gK h0 283 = 4 from ShK s0 (by decide), gd_nI ha (by decide), ix_nI (by omega), gB_fet, v, i3264, ← hE, t_175_108 s1, cK_n, t_152_65 s1]
  refine ⟨h1, LP_ok K g h4 A eR s1 c1, ⟨g.1.upd (Fr.rfl.sA (by decide)) (f1.wk (by decide) (by decide)) ?_, g.2.1, g.2.2.1, q1, t1, by rw [f1.I (by decide)]; exact g.2.2.2.2.2.1, by rw [f1.I (by decide)]; exact g.2.2.2.2.2.2⟩, HF.of f1 (by decide)⟩
  intro ty a1 a2 p1 p2 mk rf m
  obtain ⟨m1, m2, m3⟩ := MRl.frR m f0 (by decide) (fun _ _ => List.not_mem_nil)
  refine ⟨ty, p1, p2, mk, by rw [hE]; exact m1, fun i hi => ?_, ?_⟩
  · rw [hE, gA_s, gA_s]
    unfold up1
    by_cases q : i = a
    · rw [if_pos q, if_pos q]; exact ⟨rfl, px⟩
    · rw [if_neg q, if_neg q]; exact m2 i hi
  · rw [hE]; exact m3
/-- a tray is dropped -/
theorem b_drop (K : KXs c) {t : Nat} (ht : t < 12) (g : Gs c D 1 p k hc hr) (v : gB hr 289 0 = (nI t).toInt64) (h4 : p < 4400) {y : Int32} (A : AT (hR c) (4400 * kn c 5 + p) [(nI 30, y)]) : ∃ hr', LPm c hr = LPm c hr' ∧ Gs c D 0 (p + 1) k (sA hc 178 t (nI 0)) hr' ∧ HF D hr hr' := by
  have sr := g.sR K
  have sf : Sh (fet hr p) := fet_fr.sh sr
  have eT : gI (fet hr p) 3723 189 = nI (0 + 1) := g.fT
  obtain ⟨h0, hE0⟩ : ∃ h0, h0 = sI (fet hr p) 3723 189 (nI 0) := ⟨_, rfl⟩
  have f0 : Fr [3723, 3724, 3733] [] hr h0 := by rw [hE0]; exact (fet_fr.wk (by decide) (fun _ q => q)).sI (by decide)
  have s0 := f0.sh sr
  obtain ⟨h1, hE⟩ : ∃ h1, h1 = sA h0 284 t (-1) := ⟨_, rfl⟩
  have f01 : Fr [] [284] h0 h1 := by rw [hE]; exact Fr.rfl.sA (by decide)
  have f1 : Fr [3723, 3724, 3733] [284] hr h1 := (f0.wk (fun _ q => q) (fun _ q => absurd q List.not_mem_nil)).trans (f01.wk (fun _ q => absurd q List.not_mem_nil) (fun _ q => q))
  have s1 := f1.sh sr
  have c1 : gI h1 3733 189 = nI 0 := by rw [f01.I List.not_mem_nil, hE0, gI_k (by decide)]; exact fet_c
  have q1 : gI h1 3724 189 = nI (p + 1) := by rw [f01.I List.not_mem_nil, hE0, gI_k (by decide)]; exact fet_p
  have t1 : gI h1 3723 189 = nI 0 := by rw [f01.I List.not_mem_nil, hE0, gI_s]
  have eR : E (kn c 8 + 20) 152 [.ref 189, .int (nI 30), .int y] (fet hr p) = some (none, h1) := by
    rw [o_152c sf (by decide), t_159 sf, if_neg (by decide), if_pos rfl, rm_pop sf (by omega) eT (by decide), cK_v, ← hE0, t_159_64 s0, cw_ok (show gC h0 284 = 60 from ShC s0 (by decide)) (by decide), show gK h0 284 = 12 from ShK s0 (by decide), gB_fet, v, i3264, gd_nI ht (by decide), ix_nI (by omega), ← hE, t_159_202 s1, cK_n, t_152_27 s1, t_152_65 s1]
  refine ⟨h1, LP_ok K g h4 A eR s1 c1, ⟨g.1.upd (Fr.rfl.sA (by decide)) (f1.wk (by decide) (by decide)) ?_, g.2.1, g.2.2.1, q1, t1, by rw [f1.I (by decide)]; exact g.2.2.2.2.2.1, by rw [f1.I (by decide)]; exact g.2.2.2.2.2.2⟩, HF.of f1 (by decide)⟩
  intro ty a1 a2 p1 p2 mk rf m
  obtain ⟨m1, m2, m3, m4, m5, m6, m7⟩ := MRl.frR m f0 (by decide) (fun _ _ => List.not_mem_nil)
  have gc : ∀ i, gA (sA hc 178 t (nI 0)) 178 i = if i = t then nI 0 else gA hc 178 i := fun i => by rw [gA_s]; rfl
  have gr : ∀ i, gA h1 284 i = if i = t then -1 else gA h0 284 i := fun i => by rw [hE, gA_s]; rfl
  refine ⟨ty, p1, p2, mk, by rw [hE]; exact m1, by rw [hE]; exact m2, by rw [hE]; exact m3, m4, by rw [hE]; exact m5, fun i hi => ?_, fun i j hi hj a b => ?_⟩
  · unfold TRr
    rw [gc, gr]
    by_cases q : i = t
    · rw [if_pos q, if_pos q]; exact Or.inl ⟨rfl, rfl⟩
    · rw [if_neg q, if_neg q, hE]; exact m6 i hi
  · rw [gc] at a b
    by_cases q : i = t
    · rw [if_pos q] at a; exact absurd rfl a
    by_cases q2 : j = t
    · rw [if_pos q2] at b; exact absurd rfl b
    rw [if_neg q] at a
    rw [if_neg q2] at b
    rw [gr, gr, if_neg q, if_neg q2]
    exact m7 i j hi hj a b
/-- two trays have one row -/
theorem b_same (K : KXs c) {t u : Nat} (ht : t < 12) (hu : u < 12) (g : Gs c D 2 p k hc hr) (v : gB hr 289 0 = (nI t).toInt64) (v2 : gB hr 289 1 = (nI u).toInt64) (h4 : p < 4400) {y : Int32} (A : AT (hR c) (4400 * kn c 5 + p) [(nI 31, y)]) : ∃ hr', LPm c hr = LPm c hr' ∧ Gs c D 0 (p + 1) k (sA (sA (sA (sA hc 178 t (gA hc 178 u)) 179 t (gA hc 179 u)) 180 t (gA hc 180 u)) 181 t (gA hc 181 u)) hr' ∧ HF D hr hr' := by
  have sr := g.sR K
  have sf : Sh (fet hr p) := fet_fr.sh sr
  have eT : gI (fet hr p) 3723 189 = nI (1 + 1) := g.fT
  obtain ⟨h0, hE0⟩ : ∃ h0, h0 = sI (sI (fet hr p) 3723 189 (nI 1)) 3723 189 (nI 0) := ⟨_, rfl⟩
  have f0 : Fr [3723, 3724, 3733] [] hr h0 := by rw [hE0]; exact ((fet_fr.wk (by decide) (fun _ q => q)).sI (by decide)).sI (by decide)
  have s0 := f0.sh sr
  obtain ⟨h1, hE⟩ : ∃ h1, h1 = sA h0 284 t (gA hr 284 u) := ⟨_, rfl⟩
  have f01 : Fr [] [284] h0 h1 := by rw [hE]; exact Fr.rfl.sA (by decide)
  have f1 : Fr [3723, 3724, 3733] [284] hr h1 := (f0.wk (fun _ q => q) (fun _ q => absurd q List.not_mem_nil)).trans (f01.wk (fun _ q => absurd q List.not_mem_nil) (fun _ q => q))
  have s1 := f1.sh sr
  have c1 : gI h1 3733 189 = nI 0 := by rw [f01.I List.not_mem_nil, hE0, gI_k (by decide), gI_k (by decide)]; exact fet_c
  have q1 : gI h1 3724 189 = nI (p + 1) := by rw [f01.I List.not_mem_nil, hE0, gI_k (by decide), gI_k (by decide)]; exact fet_p
  have t1 : gI h1 3723 189 = nI 0 := by rw [f01.I List.not_mem_nil, hE0, gI_s]
  have eR : E (kn c 8 + 20) 152 [.ref 189, .int (nI 31), .int y] (fet hr p) = some (none, h1) := by
    rw [o_152c sf (by decide), t_159 sf, if_neg (by decide), if_neg (by decide), if_pos rfl, rm_pop sf (by omega) eT (by decide), cK_v, t_159_78 sf.sI, ck_ok (show gC (sI (fet hr p) 3723 189 (nI 1)) 284 = 60 from ShC sf.sI (by decide)), show gK (sI (fet hr p) 3723 189 (nI 1)) 284 = 12 from ShK sf.sI (by decide), gB_fet, v2, i3264, gd_nI hu (by decide), ix_nI (by omega), rm_pop sf.sI (by omega) (show gI (sI (fet hr p) 3723 189 (nI 1)) 3723 189 = nI (0 + 1) from gI_s) (by decide), cK_v, ← hE0, t_159_89 s0, cw_ok (show gC h0 284 = 60 from ShC s0 (by decide)) (by decide), show gK h0 284 = 12 from ShK s0 (by decide), show gB (sI (fet hr p) 3723 189 (nI 1)) 289 0 = gB (fet hr p) 289 0 from rfl, gB_fet, v, i3264, gd_nI ht (by decide), ix_nI (by omega), show gA (sI (fet hr p) 3723 189 (nI 1)) 284 u = gA (fet hr p) 284 u from rfl, gA_fet, ← hE, t_159_202 s1, cK_n, t_152_27 s1, t_152_65 s1]
  have fc : Fr KMc XMc hc (sA (sA (sA (sA hc 178 t (gA hc 178 u)) 179 t (gA hc 179 u)) 180 t (gA hc 180 u)) 181 t (gA hc 181 u)) := (((Fr.rfl.sA (by decide)).sA (by decide)).sA (by decide)).sA (by decide)
  refine ⟨h1, LP_ok K g h4 A eR s1 c1, ⟨g.1.upd fc (f1.wk (by decide) (by decide)) ?_, g.2.1, g.2.2.1, q1, t1, by rw [f1.I (by decide)]; exact g.2.2.2.2.2.1, by rw [f1.I (by decide)]; exact g.2.2.2.2.2.2⟩, HF.of f1 (by decide)⟩
  intro ty a1 a2 p1 p2 mk rf m
  have eu : gA hr 284 u = gA h0 284 u := (congrFun (f0.A List.not_mem_nil) u).symm
  obtain ⟨m1, m2, m3, m4, m5, m6, m7⟩ := MRl.frR m f0 (by decide) (fun _ _ => List.not_mem_nil)
  obtain ⟨hd, hdE⟩ : ∃ hd, hd = sA (sA (sA (sA hc 178 t (gA hc 178 u)) 179 t (gA hc 179 u)) 180 t (gA hc 180 u)) 181 t (gA hc 181 u) := ⟨_, rfl⟩
  have g8 : ∀ i, gA hd 178 i = gA hc 178 (if i = t then u else i) := fun i => by
    rw [hdE, gA_k (by decide), gA_k (by decide), gA_k (by decide), gA_s]; unfold up1; split <;> rfl
  have g9 : ∀ i, gA hd 179 i = gA hc 179 (if i = t then u else i) := fun i => by
    rw [hdE, gA_k (by decide), gA_k (by decide), gA_s]; unfold up1; split <;> rfl
  have g10 : ∀ i, gA hd 180 i = gA hc 180 (if i = t then u else i) := fun i => by
    rw [hdE, gA_k (by decide), gA_s]; unfold up1; split <;> rfl
  have g11 : ∀ i, gA hd 181 i = gA hc 181 (if i = t then u else i) := fun i => by
    rw [hdE, gA_s]; unfold up1; split <;> rfl
  have gr : ∀ i, gA h1 284 i = gA h0 284 (if i = t then u else i) := fun i => by
    rw [hE, gA_s, eu]; unfold up1; split <;> rfl
  have lt : ∀ i, i < 12 → (if i = t then u else i) < 12 := fun i hi => by split <;> omega
  rw [← hdE]
  refine ⟨ty, p1, p2, mk, by rw [hE, hdE]; exact m1, by rw [hE, hdE]; exact m2, by rw [hE, hdE]; exact m3, by rw [hdE]; exact m4, by rw [hE, hdE]; exact m5, fun i hi => ?_, fun i j hi hj a b => ?_⟩
  · unfold TRr
    rw [g8, g9, g10, g11, gr, hE]; exact m6 _ (lt i hi)
  · rw [g8] at a b
    rw [g11, g11, gr, gr]
    exact m7 _ _ (lt i hi) (lt j hj) a b
end STA
