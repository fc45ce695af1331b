/-! ===== RUN: statements on both sides: lay, refuse, stop ===== -/
section STC
variable {c : CXm} {M N d k k' D T p n a t f z kk : Nat} {hc hr h h0 h1 hc' hr' : AH} {L : Cds} {w l : Int64} {x : Int32} {st : St} {G Cp : Nat → Nat → Nat}
theorem fit_n {bk : Bk} : fitV bk st kk (-1) = true := by unfold fitV; rw [if_pos (by decide)]
theorem fit_i {bk : Bk} {i : Nat} (hi : i < 200) : fitV bk st kk (nI i) = (if kk = 9 then true else ofS bk st i (kk - 10)) := by
  unfold fitV; rw [if_neg (nI_nlt (by omega) (by omega)), ix_nI (by omega)]
theorem c_370 (q : PSt c hc hr st G Cp) (W : WB (kB c)) (h9 : 9 ≤ kk) (hk : kk ≤ 12) (px : itv (kn c 6) x) (hn : 4 ≤ n) : E n 370 [.ref 175, .int (nI kk), .long x.toInt64] hc = some (some (.int (nI (if fitV (kB c) st kk x = true then 1 else 0))), hc) := by
  obtain ⟨m, rfl⟩ : ∃ m, n = m + 1 := ⟨n - 1, by omega⟩
  have s := q.1.1
  have w2 : kn c 6 ≤ 200 := by have := q.2.1.1; have := q.2.2.2.2.2.2.2.2.1; omega
  rw [t_370 s]
  simp only [c_eq]
  rcases px.u w2 with ⟨x0, -⟩ | ⟨i, hi, xi, -, -⟩
  · rw [x0, if_pos (by decide), fit_n, if_pos rfl]
  · rw [xi, fit_i (by omega)]
    have ne : ¬ (nI i).toInt64 = -1 := fun z => by
      have : (nI i).toInt64.toInt32 = (-1 : Int64).toInt32 := by rw [z]
      rw [i3264] at this
      have h0 : ¬ nI i < nI 0 := nI_nlt (by omega) (by omega)
      rw [this] at h0; exact h0 (by decide)
    rw [if_neg ne]
    by_cases k9 : kk = 9
    · rw [if_pos (by rw [k9]), if_pos k9, if_pos rfl]
    · obtain ⟨e1, e2⟩ := cm_it (n := m) q hi (by omega)
      rw [if_neg (fun z => k9 ((nI_eq (by omega) (by decide)).mp z)), if_neg k9, i3264, e1, cK_v, t_370_26 s, ck_ok e2, ck_ok e2, pk_sub (by omega), pk_sub (by omega), show kk - 9 - 1 = kk - 10 by omega, cm_388 q W hi (by omega) (by omega), cK_v, t_370_38 s]
      cases ofS (kB c) st i (kk - 10) <;> simp <;> decide
theorem r_167 (q : PSt c hc hr st G Cp) (r : CRm c hc hr) (K : KXs c) (hs : Sh hr') (fr : Fr [3723, 3724, 3733] [] hr hr') (h9 : 9 ≤ kk) (hk : kk ≤ 12) (px : itv (kn c 6) x) (hn : 3 ≤ n) : E n 167 [.ref 189, .int (nI kk), .int x] hr' = some (some (.int (nI (if fitV (kB c) st kk x = true then 1 else 0))), hr') := by
  obtain ⟨m, rfl⟩ : ∃ m, n = m + 1 := ⟨n - 1, by omega⟩
  obtain ⟨b1, b2, b3, b4⟩ := q.rb r K
  have b1' := b1.fr fr (by decide)
  have b2' : gI hr' 3597 189 = nI (kn c 2) := by rw [fr.I (by decide)]; exact b2
  have R1 : RS1 hr' st := (q.2.2.2.2.1.fr fr (by decide) (fun _ q => absurd q List.not_mem_nil)).1
  have w2 : kn c 6 ≤ 200 := by have := q.2.1.1; have := q.2.2.2.2.2.2.2.2.1; omega
  rw [t_167 hs]
  rcases px.u w2 with ⟨x0, x1⟩ | ⟨i, hi, xi, x1, -⟩
  · rw [if_pos x1, x0, fit_n, if_pos rfl]
  · rw [if_neg x1, xi, fit_i (by omega)]
    by_cases k9 : kk = 9
    · rw [if_pos (by rw [k9]), if_pos k9, if_pos rfl]
    · have hz := q.2.2.2.2.2.2.2.2.1
      rw [if_neg (fun z => k9 ((nI_eq (by omega) (by decide)).mp z)), if_neg k9, pk_sub (by omega), r_168 hs K.2.2.1 b3 b2' b1' R1 q.2.1.i (by omega) (by omega) (by omega), cK_v, t_167_19 hs]
      cases ofS (kB c) st i (kk - 10) <;> simp <;> decide
theorem b_lay (K : KXs c) (ht : t < 12) (g : Gs c D 3 p k hc hr) (v0 : gB hr 289 0 = (nI t).toInt64) (v1 : gB hr 289 1 = l) (v2 : gB hr 289 2 = x.toInt64) (px : itv (kn c 6) x) (h4 : p < 4400) {y : Int32} (A : AT (hR c) (4400 * kn c 5 + p) [(nI 33, y)]) (hn : 6 ≤ n) {u1 u3 u4 u6 : Option Value} : StO c (cK (E n 368 [.ref 175, .int (nI t), .long l, .int (nI 1)] hc) (Q n 337 60 [some (.ref 175), u1, some (.int (nI t)), u3, u4, some (.int x), u6]) []) hc hr D (p + 1) k := by
  obtain ⟨m, rfl⟩ : ∃ m, n = m + 1 := ⟨n - 1, by omega⟩
  have s := g.sC
  have sr := g.sR K
  have sf : Sh (fet hr p) := fet_fr.sh sr
  obtain ⟨-, -, ⟨st, G, Cp, q⟩, -⟩ := id g.1
  have W := K.2.2.1
  obtain ⟨h0, hE0⟩ : ∃ h0, h0 = sI (sI (sI (fet hr p) 3723 189 (nI 2)) 3723 189 (nI 1)) 3723 189 (nI 0) := ⟨_, rfl⟩
  have f0 : Fr [3723, 3724, 3733] [] hr h0 := by rw [hE0]; exact (((fet_fr.wk (by decide) (fun _ q => q)).sI (by decide)).sI (by decide)).sI (by decide)
  have s0 := f0.sh sr
  have c0 : gI h0 3733 189 = nI 0 := by rw [hE0, gI_k (by decide), gI_k (by decide), gI_k (by decide)]; exact fet_c
  have q0 : gI h0 3724 189 = nI (p + 1) := by rw [hE0, gI_k (by decide), gI_k (by decide), gI_k (by decide)]; exact fet_p
  have t0 : gI h0 3723 189 = nI 0 := by rw [hE0, gI_s]
  have ff : Fr [3723, 3733] [289] (fet hr p) h0 := by rw [hE0]; exact ((Fr.rfl.sI (by decide)).sI (by decide)).sI (by decide)
  obtain ⟨kk, f, z, X⟩ := g.1.tr ht
  have X0 := X.fr f0 List.not_mem_nil List.not_mem_nil List.not_mem_nil List.not_mem_nil
  obtain ⟨h1, xw, b1, b2, b3, b4⟩ := r_163 (n := kn c 8 + 17) s0 c0 (by omega) X0.2.2.1 l true
  have s1 := b2.sh s0
  rw [if_pos rfl] at b1
  have eR : E (kn c 8 + 20) 152 [.ref 189, .int (nI 33), .int y] (fet hr p) = cK (cK (Q (kn c 8 + 17) 166 31 [some (.ref 189), some (.int x), some (.long l), none, some (.int (gA h0 284 t)), none] [.int xw] h1) (Q (kn c 8 + 18) 159 161 [some (.ref 189), some (.int (nI 33)), some (.int y), none, none, none, none, none, none]) []) (Q (kn c 8 + 19) 152 27 [some (.ref 189), some (.int (nI 33)), some (.int y)]) [] := by
    rw [o_152c sf (by decide), t_159 sf, if_neg (by decide), if_neg (by decide), if_neg (by decide), if_neg (by decide), if_pos rfl, t_166 sf, rm_pop sf (by omega) (show gI (fet hr p) 3723 189 = nI (2 + 1) from g.fT) (by decide), cK_v, t_166_4 sf.sI, rm_pop sf.sI (by omega) (show gI (sI (fet hr p) 3723 189 (nI 2)) 3723 189 = nI (1 + 1) from gI_s) (by decide), cK_v, t_166_10 sf.sI.sI, rm_pop sf.sI.sI (by omega) (show gI (sI (sI (fet hr p) 3723 189 (nI 2)) 3723 189 (nI 1)) 3723 189 = nI (0 + 1) from gI_s) (by decide), cK_v, ← hE0,
      show gB (sI (sI (fet hr p) 3723 189 (nI 2)) 3723 189 (nI 1)) 289 0 = gB (fet hr p) 289 0 from rfl, show gB (sI (fet hr p) 3723 189 (nI 2)) 289 1 = gB (fet hr p) 289 1 from rfl, gB_fet, v0, v1, v2, t_166_19 s0, ck_ok (k284 s0), j284 s0, i3264, i3264, gd_nI ht (by decide), ix_nI (by omega), b1, cK_v]
  have cm := cm_368 (n := m) s X ht l true
  rw [if_pos rfl] at cm
  by_cases q1 : cfS kk (nI z) l true = 0
  · obtain ⟨k0, k9, a, ha, la⟩ := cfS_0 (by have := X.2.2.2.2.1; omega) q1
    have k9 : 9 ≤ kk := of_decide_eq_true k9
    obtain ⟨y1, y2⟩ := b4 q1
    subst y2
    have zz := X.2.2.2.2.1
    rcases X0.2.2.1 with ⟨w0, -⟩ | ⟨qq, r1, r2, r3, r4, r5, r6, r7⟩
    · exact absurd w0 k0
    have xe : nI f + l.toInt32 = nI (f + a) := by rw [la, lN_32, nI_add]
    have e67 := r_167 (n := kn c 8 + 17) q g.1 K s1 f0 k9 r2 px (by omega)
    have eC := c_370 (n := m + 1) q W k9 r2 px (by omega)
    rw [cm.1 q1, cK_v, t_337_60 s, xe, if_neg (fun z => by have : ¬ nI (f + a) < nI 0 := nI_nlt (by omega) (by omega); rw [z] at this; exact this (by decide)), gd_nI ht (by decide), ix_nI (by omega), X.1, eC, cK_v, t_337_82 s]
    rw [y1, xe, t_166_31 s1, if_pos c0, r3, gd_nI r4 (by decide), ix_nI (by omega), r5, e67, cK_v, t_166_52 s1] at eR
    cases fv : fitV (kB c) st kk x with
    | true =>
      rw [fv, if_pos rfl, if_neg (by decide), t_166_60 s1, if_pos c0, gd_nI (by omega) (by decide), ix_nI (by omega)] at eR
      rw [if_pos rfl, if_neg (by decide), gd_nI (by omega) (by decide), ix_nI (by omega)]
      obtain ⟨h2, hE2⟩ : ∃ h2, h2 = sB h1 288 (f + a) x.toInt64 := ⟨_, rfl⟩
      have f2 : Fr [] [288] h1 h2 := by rw [hE2]; exact Fr.rfl.sB (by decide)
      have s2 := f2.sh s1
      rw [← hE2, cK_n, t_159_161 s2, t_159_202 s2, cK_n, t_152_27 s2, t_152_65 s2] at eR
      have lp := LP_ok K g h4 A eR s2 (by rw [f2.I List.not_mem_nil]; exact c0)
      have fd : Fr [] [182] hc (sB hc 182 (f + a) x.toInt64) := Fr.rfl.sB (by decide)
      have fc : Fr KMc XMc hc (sB hc 182 (f + a) x.toInt64) := Fr.rfl.sB (by decide)
      have frA : Fr [3723, 3724, 3733] [288] hr h2 := (f0.wk (fun _ q => q) (fun _ q => absurd q List.not_mem_nil)).trans (f2.wk (fun _ q => absurd q List.not_mem_nil) (fun _ q => q))
      refine StO.go rfl (stp1.of fd List.not_mem_nil) lp ⟨g.1.upd fc (frA.wk (by decide) (by decide)) ?_, by rw [fd.I List.not_mem_nil]; exact g.2.1, by rw [fd.I List.not_mem_nil]; exact g.2.2.1, by rw [f2.I List.not_mem_nil]; exact q0, by rw [f2.I List.not_mem_nil]; exact t0, by rw [frA.I (by decide)]; exact g.2.2.2.2.2.1, by rw [frA.I (by decide)]; exact g.2.2.2.2.2.2⟩ (HF.of frA (by decide))
      intro ty a1 a2 p1 p2 mk rf mm
      rw [hE2]
      exact ⟨ty, p1, p2, mk, (mm.frR f0 (by decide) (fun _ _ => List.not_mem_nil)).put ht k0 X0 ha (fun _ => ⟨x, px, rfl⟩)⟩
    | false =>
      rw [fv, if_pos (show nI (if false = true then 1 else 0) = nI 0 by decide), rm_refuse s1 (by omega) c0, cK_n, t_166_60 s1.sI, if_neg (by rw [gI_s]; decide), cK_n, t_159_161 s1.sI, t_159_202 s1.sI, cK_n, t_152_27 s1.sI, t_152_65 s1.sI] at eR
      have rf1 : Rf1 (fet hr p) 5 (E (kn c 8 + 20) 152 [.ref 189, .int (nI 33), .int y] (fet hr p)) := ⟨_, eR, ff.trans (Fr.rfl.sI (by decide)), gI_s⟩
      obtain ⟨hc4, z1, z2, z3⟩ := Dd.op K g h4 A rf1 (by decide) (Fr.rfl : Fr [1545] [] hc hc) (n := m + 1) (by omega)
      rw [if_pos (show nI (if false = true then 1 else 0) = nI 0 by decide), z1, cK_n, t_337_90 z3.shC]
      exact StO.dd rfl (stp1.of z2 (by decide)) z3
  · have c3 := cfS_3 (k := kk) (z := nI z) (l := l) (b := true)
    have rf1 : Rf1 (fet hr p) (cfS kk (nI z) l true) (E (kn c 8 + 20) 152 [.ref 189, .int (nI 33), .int y] (fet hr p)) := by
      rw [eR, t_166_31 s1, if_neg (by rw [b3]; exact fun w => q1 ((nI_eq (by omega) (by decide)).mp w)), t_166_60 s1, if_neg (by rw [b3]; exact fun w => q1 ((nI_eq (by omega) (by decide)).mp w)), cK_n, t_159_161 s1, t_159_202 s1, cK_n, t_152_27 s1, t_152_65 s1]
      exact ⟨h1, rfl, ff.trans (b2.wk (by decide) (fun _ q => absurd q List.not_mem_nil)), b3⟩
    obtain ⟨hc4, z1, z2, z3⟩ := Dd.op K g h4 A rf1 (by omega) (Fr.rfl : Fr [1545] [] hc hc) (n := m) (by omega)
    rw [cm.2 q1 hc4 z3.shC z1, cK_v, t_337_60 z3.shC, if_pos rfl]
    exact StO.dd rfl (stp1.of z2 (by decide)) z3
/-- refuse -/
theorem b_refuse (K : KXs c) (g : Gs c D 1 p k hc hr) (v0 : gB hr 289 0 = l) (h4 : p < 4400) {y : Int32} (A : AT (hR c) (4400 * kn c 5 + p) [(nI 36, y)]) (hn : 1 ≤ n) : ∃ hc', E n 365 [.ref 175, .int (nI 9)] (sL hc 1548 175 l) = some (none, hc') ∧ stp1 hc hc' ∧ Dd c D hc' hr := by
  have sr := g.sR K
  have sf : Sh (fet hr p) := fet_fr.sh sr
  obtain ⟨h0, hE0⟩ : ∃ h0, h0 = sI (fet hr p) 3723 189 (nI 0) := ⟨_, rfl⟩
  have f0 : Fr [3723, 3724, 3733] [] hr h0 := by rw [hE0]; exact (fet_fr.wk (by decide) (fun _ q => q)).sI (by decide)
  have s0 := f0.sh sr
  have c0 : gI h0 3733 189 = nI 0 := by rw [hE0, gI_k (by decide)]; exact fet_c
  obtain ⟨h2, hE2⟩ : ∃ h2, h2 = sL h0 3734 189 l := ⟨_, rfl⟩
  have f2 : Fr [3734] [] h0 h2 := by rw [hE2]; exact Fr.rfl.sL (by decide)
  have s2 := f2.sh s0
  obtain ⟨h1, hE⟩ : ∃ h1, h1 = sI h2 3733 189 (nI 9) := ⟨_, rfl⟩
  have f3 : Fr [3733] [] h2 h1 := by rw [hE]; exact Fr.rfl.sI (by decide)
  have f1 : Fr [3723, 3724, 3733, 3734] [] hr h1 := (f0.wk (by decide) (fun _ q => q)).trans ((f2.wk (by decide) (fun _ q => q)).trans (f3.wk (by decide) (fun _ q => q)))
  have s1 := f1.sh sr
  have l1 : gL h1 3734 189 = l := by rw [f3.L (by decide), hE2, gL_s]
  have eR : E (kn c 8 + 20) 152 [.ref 189, .int (nI 36), .int y] (fet hr p) = some (none, h1) := by
    rw [o_152c sf (by decide), t_159 sf, if_neg (by decide), if_neg (by decide), if_neg (by decide), if_neg (by decide), if_neg (by decide), if_neg (by decide), if_neg (by decide), if_pos rfl, rm_pop sf (by omega) (show gI (fet hr p) 3723 189 = nI (0 + 1) from g.fT) (by decide), cK_v, gB_fet, v0, ← hE0, t_159_183 s0, ck_ok (k189 s0), ← hE2, rm_refuse s2 (by omega) (by rw [f2.I (by decide)]; exact c0), cK_n, ← hE, t_159_192 s1, t_159_202 s1, cK_n, t_152_27 s1, t_152_65 s1]
  obtain ⟨hc', z1, z2, z3⟩ := Dd.rf (h1 := h1) (u := some (.int (nI (4400 * kn c 5 + p)))) (hc := sL hc 1548 175 l) (hr := hr) (D := D) (e := 9) (n := n) K ((g.1.frC (Fr.rfl.sL (by decide))).frR (f1.wk (by decide) (fun _ q => absurd q List.not_mem_nil))) (by decide) (by rw [hE, gI_s]) (by rw [f1.I (by decide)]; exact g.2.2.2.2.2.2) (by rw [f1.I (by decide)]; exact g.2.2.2.2.2.1) (HF.of f1 (by decide)) (fun _ => by rw [l1, gL_s]) (by
    rw [LP_go g.1 K g.2.2.2.2.2.2 g.2.2.2.1 h4 A]
    show cK (E (kn c 8 + 20) 152 [.ref 189, .int (nI 36), .int y] (fet hr p)) _ [] = _
    rw [eR]) hn
  exact ⟨hc', z1, (stp1.of (K := [1548]) (X := []) (Fr.rfl.sL (by decide)) (by decide)).tr (stp1.of z2 (by decide)), z3⟩
/-- stop -/
theorem b_stop (K : KXs c) (g : Gs c D 0 p k hc hr) (h4 : p < 4400) {y : Int32} (A : AT (hR c) (4400 * kn c 5 + p) [(nI 37, y)]) : Dd c D (sI hc 1547 175 (nI 12)) hr := by
  have sr := g.sR K
  have sf : Sh (fet hr p) := fet_fr.sh sr
  have ff := fet_fr (h := hr) (p := p)
  refine ⟨12, gI_s, by decide, by decide, fet hr p, (g.1.frC (Fr.rfl.sI (by decide))).frR (ff.wk (by decide) (fun _ q => absurd q List.not_mem_nil)), Or.inl ⟨Or.inr rfl, 0, ?_, fun z => absurd z (by decide), by rw [ff.I (by decide)]; exact g.2.2.2.2.2.1, HF.of ff (by decide), g.fT, by rw [ff.I (by decide)]; exact g.2.2.2.2.2.2⟩⟩
  rw [if_pos rfl]
  intro h2 s2 w2 e2
  rw [LP_go g.1 K g.2.2.2.2.2.2 g.2.2.2.1 h4 A]
  show cK (E (kn c 8 + 20) 152 [.ref 189, .int (nI 37), .int y] (fet hr p)) _ [] = _
  have cc : gI h2 3733 189 = nI 0 := w2.trans fet_c
  rw [o_152c sf (by decide), t_159 sf, if_neg (by decide), if_neg (by decide), if_neg (by decide), if_neg (by decide), if_neg (by decide), if_neg (by decide), if_neg (by decide), if_neg (by decide), E_le e2 _ (by omega), cK_n, t_159_202 s2, cK_n, t_152_27 s2, t_152_65 s2, LP_nx s2 cc]
end STC
