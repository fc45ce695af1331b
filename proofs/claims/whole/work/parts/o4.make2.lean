/-! ===== RUN: statements on both sides: make ===== -/
section MAL
variable {c : CXm} {M N d k k' D T p n a t f z kk : Nat} {hc hr h h0 h1 hc' hr' : AH} {L : Cds} {w l : Int64} {x : Int32} {st : St} {G Cp : Nat → Nat → Nat}
theorem MRl.make {ni a1 a2 p1 p2 mk rf q : Nat} {ty : Nat → Bool} (m : MRl hc hr ni ty a1 a2 p1 p2 mk rf) (ht : t < 12) (hk : 1 ≤ kk ∧ kk ≤ 12) (hz : p1 + z ≤ 2000) (hp2 : p2 + z ≤ 200000) (hq : q < 13) (nh : ¬ hldR hr (nI q)) (hmk : mk + 1 ≤ a1)
    (c1 : gB hc' 176 = gB hc 176) (c2 : gA hc' 177 = gA hc 177) (c3 : ∀ i, gA hc' 178 i = if i = t then nI kk else gA hc 178 i) (c4 : ∀ i, gA hc' 179 i = if i = t then nI p1 else gA hc 179 i) (c5 : ∀ i, gA hc' 180 i = if i = t then nI z else gA hc 180 i) (c6 : ∀ i, gA hc' 181 i = if i = t then nI mk else gA hc 181 i) (c7 : ∀ i, gB hc' 182 i = if p1 ≤ i ∧ i < p1 + z then filV kk else gB hc 182 i)
    (c8 : gI hc' 1549 175 = gI hc 1549 175 ∧ gI hc' 1553 175 = gI hc 1553 175 ∧ gI hc' 1555 175 = gI hc 1555 175 ∧ gI hc' 1551 175 = nI (p1 + z) ∧ gI hc' 1554 175 = nI (p2 + z) ∧ gI hc' 1552 175 = nI (mk + 1))
    (r1 : gB hr' 282 = gB hr 282) (r2 : gA hr' 283 = gA hr 283) (r3 : ∀ i, gA hr' 284 i = if i = t then nI q else gA hr 284 i) (r4 : ∀ i, gA hr' 285 i = if i = q then nI kk else gA hr 285 i) (r5 : ∀ i, gA hr' 286 i = if i = q then nI p1 else gA hr 286 i) (r6 : ∀ i, gA hr' 287 i = if i = q then nI z else gA hr 287 i) (r7 : ∀ i, gB hr' 288 i = if p1 ≤ i ∧ i < p1 + z then filV kk else gB hr 288 i)
    (r8 : gI hr' 3720 189 = gI hr 3720 189 ∧ gI hr' 3719 189 = gI hr 3719 189 ∧ gI hr' 3721 189 = gI hr 3721 189 ∧ gI hr' 3717 189 = nI (p1 + z) ∧ gI hr' 3718 189 = nI (p2 + z)) :
    MRl hc' hr' ni (fun i => if p1 ≤ i ∧ i < p1 + z then decide (9 ≤ kk) else ty i) a1 a2 (p1 + z) (p2 + z) (mk + 1) rf := by
  obtain ⟨m1, m2, m3, m4, ⟨n1, n2, n3, n4, n5, n6, n7, n8, n9, n10, n11, n12, n13, n14, n15, n16, n17⟩, m6, m7⟩ := m
  refine ⟨?_, ?_, fun i hi => ?_, fun i hi e => ?_, ⟨?_, ?_, n3, ?_, ?_, n6, c8.2.2.2.1, r8.2.2.2.1, hz, c8.2.2.2.2.1, r8.2.2.2.2, hp2, c8.2.2.2.2.2, hmk, ?_, ?_, n17⟩, fun i hi => ?_, fun i j hi hj a b => ?_⟩
  · rw [c1, r1]; exact m1
  · rw [c2, r2]; exact m2
  · rw [c7, r7, m3 i hi]
  · rw [c7]
    by_cases q : p1 ≤ i ∧ i < p1 + z
    · have e' : decide (9 ≤ kk) = true := by rw [← e]; exact (if_pos q).symm
      have k9 := of_decide_eq_true e'
      rw [if_pos q]
      refine ⟨-1, Or.inl rfl, ?_⟩
      unfold filV
      rw [if_neg (by omega)]; decide
    · have e' : ty i = true := by rw [← e]; exact (if_neg q).symm
      rw [if_neg q]
      exact m4 i (by omega) e'
  · rw [c8.1]; exact n1
  · rw [r8.1]; exact n2
  · rw [c8.2.1]; exact n4
  · rw [r8.2.1]; exact n5
  · rw [c8.2.2.1]; exact n15
  · rw [r8.2.2.1]; exact n16
  · unfold TRr
    rw [c3, c4, c5, c6, r3]
    by_cases y : i = t
    · rw [if_pos y, if_pos y, if_pos y, if_pos y, if_pos y]
      refine Or.inr ⟨kk, p1, z, mk, q, hk.1, hk.2, rfl, rfl, rfl, rfl, rfl, hq, by rw [r4, if_pos rfl], by rw [r5, if_pos rfl], by rw [r6, if_pos rfl], Nat.le_refl _, Nat.lt_succ_self _, fun j hj => ?_⟩
      exact if_pos ⟨by omega, by omega⟩
    · rw [if_neg y, if_neg y, if_neg y, if_neg y, if_neg y]
      rcases m6 i hi with w | ⟨k, f', z', m, q', x1, x2, x3, x4, x5, x6, x7, x8, x9, x10, x11, x12, x13, x14⟩
      · exact Or.inl w
      · have nq : q' ≠ q := fun e => nh ⟨i, hi, by rw [x7, e]⟩
        refine Or.inr ⟨k, f', z', m, q', x1, x2, x3, x4, x5, x6, x7, x8, by rw [r4, if_neg nq]; exact x9, by rw [r5, if_neg nq]; exact x10, by rw [r6, if_neg nq]; exact x11, by omega, by omega, fun j hj => ?_⟩
        rw [← x14 j hj]
        exact if_neg (by omega)
  · have old : ∀ i, i < 12 → i ≠ t → gA hc 178 i ≠ nI 0 → ∃ m q', gA hc 181 i = nI m ∧ m < mk ∧ gA hr 284 i = nI q' ∧ q' < 13 ∧ q' ≠ q := fun i hi y nz => by
      rcases m6 i hi with w | ⟨k, f', z', m, q', x1, x2, x3, x4, x5, x6, x7, x8, x9, x10, x11, x12, x13, x14⟩
      · exact absurd w.1 nz
      · exact ⟨m, q', x6, x13, x7, x8, fun e => nh ⟨i, hi, by rw [x7, e]⟩⟩
    rw [c3] at a b
    rw [c6, c6, r3, r3]
    by_cases y : i = t
    · by_cases y2 : j = t
      · rw [if_pos y, if_pos y2, if_pos y, if_pos y2]; exact ⟨fun _ => rfl, fun _ => rfl⟩
      · rw [if_neg y2] at b
        obtain ⟨m, q', z1, z2, z3, z4, z5⟩ := old j hj y2 b
        rw [if_pos y, if_neg y2, if_pos y, if_neg y2, z1, z3]
        exact ⟨fun e => absurd ((nI_eq (by omega) (by omega)).mp e) (by omega), fun e => absurd ((nI_eq (by omega) (by omega)).mp e) (fun w => z5 w.symm)⟩
    · by_cases y2 : j = t
      · rw [if_neg y] at a
        obtain ⟨m, q', z1, z2, z3, z4, z5⟩ := old i hi y a
        rw [if_neg y, if_pos y2, if_neg y, if_pos y2, z1, z3]
        exact ⟨fun e => absurd ((nI_eq (by omega) (by omega)).mp e) (by omega), fun e => absurd ((nI_eq (by omega) (by omega)).mp e) z5⟩
      · rw [if_neg y] at a
        rw [if_neg y2] at b
        rw [if_neg y, if_neg y2, if_neg y, if_neg y2]
        exact m7 i j hi hj a b
/-- the limits of places -/
theorem full_b {p1 e : Nat} (hp : p1 ≤ e) (he : e < 2 ^ 31) : ((nI e - nI p1).toInt64 = lN (e - p1)) ∧ lN e - (nI p1).toInt64 = lN (e - p1) := by
  rw [pk_sub hp, nI_l (by omega), nI_l (by omega), lN_sub hp]
  exact ⟨rfl, rfl⟩
theorem b_make (K : KXs c) (ht : t < 12) (hk : 1 ≤ kk ∧ kk ≤ 12) (g : Gs c D 2 p k hc hr) (v0 : gB hr 289 0 = (nI t).toInt64) (v1 : gB hr 289 1 = l) (hmk : ix (gI hc 1552 175) + 1 ≤ ix (gI hc 1549 175)) (h4 : p < 4400) (A : AT (hR c) (4400 * kn c 5 + p) [(nI 29, nI kk)]) (hn : 2 ≤ n) {u1 : Option Value} : StO c (Q n 333 56 [some (.ref 175), u1, some (.int (nI t)), some (.int (nI kk)), some (.long l), none] [.int (nI 1)] hc) hc hr D (p + 1) k := by
  obtain ⟨n, rfl⟩ : ∃ m, n = m + 1 := ⟨n - 1, by omega⟩
  have s := g.sC
  have sr := g.sR K
  have sf : Sh (fet hr p) := fet_fr.sh sr
  obtain ⟨h0, hE0⟩ : ∃ h0, h0 = sI (sI (fet hr p) 3723 189 (nI 1)) 3723 189 (nI 0) := ⟨_, rfl⟩
  have f0 : Fr [3723, 3724, 3733] [] hr h0 := by rw [hE0]; exact ((fet_fr.wk (by decide) (fun _ q => q)).sI (by decide)).sI (by decide)
  have s0 := f0.sh sr
  have c0 : gI h0 3733 189 = nI 0 := by rw [hE0, gI_k (by decide), gI_k (by decide)]; exact fet_c
  have q0 : gI h0 3724 189 = nI (p + 1) := by rw [hE0, gI_k (by decide), gI_k (by decide)]; exact fet_p
  have t0 : gI h0 3723 189 = nI 0 := by rw [hE0, gI_s]
  have ff : Fr [3723, 3733] [289] (fet hr p) h0 := by rw [hE0]; exact (Fr.rfl.sI (by decide)).sI (by decide)
  have r0 : CRm c hc h0 := g.1.frR (f0.wk (by decide) (fun _ q => absurd q List.not_mem_nil))
  have eR : E (kn c 8 + 20) 152 [.ref 189, .int (nI 29), .int (nI kk)] (fet hr p) = cK (cK (Q (kn c 8 + 17) 160 9 [some (.ref 189), some (.int (nI kk)), some (.long l), none, none, none, none] [.long (nI t).toInt64] h0) (Q (kn c 8 + 18) 159 53 [some (.ref 189), some (.int (nI 29)), some (.int (nI kk)), none, none, none, none, none, none]) []) (Q (kn c 8 + 19) 152 27 [some (.ref 189), some (.int (nI 29)), some (.int (nI kk))]) [] := by
    rw [o_152c sf (by decide), t_159 sf, if_pos rfl, t_160 sf, rm_pop sf (by omega) (show gI (fet hr p) 3723 189 = nI (1 + 1) from g.fT) (by decide), cK_v, t_160_4 sf.sI, rm_pop sf.sI (by omega) (show gI (sI (fet hr p) 3723 189 (nI 1)) 3723 189 = nI (0 + 1) from gI_s) (by decide), cK_v, ← hE0, show gB (sI (fet hr p) 3723 189 (nI 1)) 289 0 = gB (fet hr p) 289 0 from rfl, gB_fet, v0, v1]
  rw [t_160_9 s0, i3264] at eR
  obtain ⟨-, -, -, ty, a1, a2, p1, p2, mk, rf, m0, mm⟩ := id r0
  obtain ⟨n1, n2, n3, n4, n5, n6, n7, n8, n9, n10, n11, n12, n13, n14, n15, n16, n17⟩ := mm.2.2.2.2.1
  rw [n13, n1, ix_nI (by omega), ix_nI (by omega)] at hmk
  have fb1 := full_b (p1 := p1) (e := 2000) n9 (by decide)
  have fb2 := full_b (p1 := p2) (e := 200000) n12 (by decide)
  rw [n8, n11, show (2000 : Int64) = lN 2000 from rfl, show (200000 : Int64) = lN 200000 from rfl, fb1.2, fb2.2] at eR
  rw [t_333_56 s, if_neg (by decide), n7, n10, fb1.1, fb2.1]
  simp only [c_lt, c_gt] at eR ⊢
  by_cases l0 : l < 0
  · rw [if_pos l0]
    rw [if_pos l0, rm_refuse s0 (by omega) c0, cK_n, t_160_23 s0.sI, cK_n, t_159_53 s0.sI, t_159_202 s0.sI, cK_n, t_152_27 s0.sI, t_152_65 s0.sI] at eR
    obtain ⟨hc4, z1, z2, z3⟩ := Dd.op K g h4 A ⟨_, eR, ff.trans (Fr.rfl.sI (by decide)), gI_s⟩ (by decide) (Fr.rfl : Fr [1545] [] hc hc) (n := n + 1) (by omega)
    rw [z1, cK_n, t_333_72 z3.shC, t_333_122 z3.shC]
    exact StO.dd rfl (stp1.of z2 (by decide)) z3
  have full : E (kn c 8 + 20) 152 [.ref 189, .int (nI 29), .int (nI kk)] (fet hr p) = cK (cK (some (none, sI h0 3732 189 (nI 11))) (Q (kn c 8 + 18) 159 53 [some (.ref 189), some (.int (nI 29)), some (.int (nI kk)), none, none, none, none, none, none]) []) (Q (kn c 8 + 19) 152 27 [some (.ref 189), some (.int (nI 29)), some (.int (nI kk))]) [] → StO c (Q (n + 1) 333 122 [none, none, none, none, none, none] [] (sI hc 1547 175 (nI 11))) hc hr D (p + 1) k := fun eR => by
    have s2 : Sh (sI h0 3732 189 (nI 11)) := s0.sI
    rw [cK_n, t_159_53 s2, t_159_202 s2, cK_n, t_152_27 s2, t_152_65 s2] at eR
    have f2 : Fr [3732] [] h0 (sI h0 3732 189 (nI 11)) := Fr.rfl.sI (by decide)
    have fc : Fr [1547] [] hc (sI hc 1547 175 (nI 11)) := Fr.rfl.sI (by decide)
    rw [t_333_122 s.sI]
    refine StO.dd rfl (stp1.of fc (by decide)) ⟨11, gI_s, by decide, by decide, sI h0 3732 189 (nI 11), (r0.frC (fc.wk (by decide) (fun _ q => q))).frR (f2.wk (by decide) (fun _ q => absurd q List.not_mem_nil)), Or.inr ⟨Or.inr rfl, ?_⟩⟩
    rw [LP_go g.1 K g.2.2.2.2.2.2 g.2.2.2.1 h4 A]
    show cK (E (kn c 8 + 20) 152 [.ref 189, .int (nI 29), .int (nI kk)] (fet hr p)) _ [] = _
    rw [eR, LP_nx s2 (by rw [f2.I (by decide)]; exact c0), LP_end s2 (by decide) gI_s]
  rw [if_neg l0]
  rw [if_neg l0] at eR
  by_cases l1 : lN (2000 - p1) < l
  · rw [if_pos l1]
    rw [if_pos l1] at eR
    exact full eR
  rw [if_neg l1]
  rw [if_neg l1] at eR
  by_cases l2 : lN (200000 - p2) < l
  · rw [if_pos l2]
    rw [if_pos l2] at eR
    exact full eR
  rw [if_neg l2]
  rw [if_neg l2] at eR
  obtain ⟨z, z1, rfl⟩ := lN_nlt (by omega) l0 l1
  have z2 : z ≤ 200000 - p2 := Classical.byContradiction fun w => l2 ((lN_lt (by omega) (by omega)).mpr (by omega))
  obtain ⟨q, hq, nh, ef⟩ := r_free (n := kn c 8 + 16) (x1 := nI kk) (x2 := lN z) (x4 := nI t) s0 13 0 0 (by omega) (Nat.le_refl _) (fun r hr => absurd hr (Nat.not_lt_zero _)) (fun z => absurd z (Nat.lt_irrefl _))
  -- the reference
  obtain ⟨h4', hE4⟩ : ∃ h4', h4' = sA (sA (sA h0 285 q (nI kk)) 286 q (nI p1)) 287 q (nI z) := ⟨_, rfl⟩
  have f4 : Fr [] [285, 286, 287] h0 h4' := by rw [hE4]; exact ((Fr.rfl.sA (by decide)).sA (by decide)).sA (by decide)
  have s4 := f4.sh s0
  obtain ⟨h5, y1, y2, y3⟩ := r_fil (n := kn c 8 + 17) (p1 := p1) (p2 := p2) (z := z) (q := q) (t := t) (kk := kk) (by omega) hk.2 ht z 0 h4' (by omega) s4 (by rw [f4.I List.not_mem_nil]; exact n8) (by rw [f4.I List.not_mem_nil]; exact n11)
  have s5 := y2.sh s4
  obtain ⟨h6, hE6⟩ : ∃ h6, h6 = sA (sI (sI h5 3717 189 (nI (p1 + z))) 3718 189 (nI (p2 + z))) 284 t (nI q) := ⟨_, rfl⟩
  have f6 : Fr [3717, 3718] [284] h5 h6 := by rw [hE6]; exact ((Fr.rfl.sI (by decide)).sI (by decide)).sA (by decide)
  have s6 := f6.sh s5
  have eq65 : Q (kn c 8 + 17) 160 65 [some (.ref 189), some (.int (nI kk)), some (.long (lN z)), none, some (.int (nI t)), some (.int (nI 0)), some (.int (nI 0))] [] h0 = some (none, h6) := by
    rw [ef, t_160_65 s0, if_neg (by decide), gd_nI hq (by decide), gd_nI hq (by decide), gd_nI hq (by decide), ix_nI (by omega), n8, lN_32, ← hE4, y1, ← hE6]
  rw [eq65, cK_n, t_159_53 s6, t_159_202 s6, cK_n, t_152_27 s6, t_152_65 s6] at eR
  have fo : Fr [3723, 3724, 3733, 3717, 3718] [284, 285, 286, 287, 288] hr h6 := (f0.wk (by decide) (fun _ q => absurd q List.not_mem_nil)).trans ((f4.wk (fun _ q => absurd q List.not_mem_nil) (by decide)).trans ((y2.wk (fun _ q => absurd q List.not_mem_nil) (by decide)).trans (f6.wk (by decide) (by decide))))
  have lp := LP_ok K g h4 A eR s6 (by rw [f6.I (by decide), y2.I List.not_mem_nil, f4.I List.not_mem_nil]; exact c0)
  -- the component
  obtain ⟨g4, gE4⟩ : ∃ g4, g4 = sA (sA (sA (sA hc 178 t (nI kk)) 179 t (nI p1)) 180 t (nI z)) 181 t (nI mk) := ⟨_, rfl⟩
  have e4 : Fr [] [178, 179, 180, 181] hc g4 := by rw [gE4]; exact (((Fr.rfl.sA (by decide)).sA (by decide)).sA (by decide)).sA (by decide)
  have t4 := e4.sh s
  obtain ⟨g5, w1, w2, w3⟩ := c_fil (n := n) (p1 := p1) (z := z) (kk := kk) (by omega) hk.2 z 0 g4 (by omega) t4 (by rw [e4.I List.not_mem_nil]; exact n7)
  have t5 := w2.sh t4
  obtain ⟨g6, gE6⟩ : ∃ g6, g6 = sI (sI (sI g5 1551 175 (nI (p1 + z))) 1554 175 (nI (p2 + z))) 1552 175 (nI (mk + 1)) := ⟨_, rfl⟩
  have e6 : Fr [1551, 1552, 1554] [] g5 g6 := by rw [gE6]; exact ((Fr.rfl.sI (by decide)).sI (by decide)).sI (by decide)
  have t6 := e6.sh t5
  have i54 : gI g5 1554 175 = nI p2 := by rw [w2.I List.not_mem_nil, e4.I List.not_mem_nil]; exact n10
  have i52 : gI g5 1552 175 = nI mk := by rw [w2.I List.not_mem_nil, e4.I List.not_mem_nil]; exact n13
  have eo : Fr [1551, 1552, 1554] [178, 179, 180, 181, 182] hc g6 := (e4.wk (fun _ q => absurd q List.not_mem_nil) (by decide)).trans ((w2.wk (fun _ q => absurd q List.not_mem_nil) (by decide)).trans (e6.wk (fun _ q => q) (fun _ q => absurd q List.not_mem_nil)))
  have eC : E (n + 1) 366 [.ref 175, .int (nI t), .int (nI kk), .int (nI z)] hc = some (none, g6) := by
    rw [t_366 s, gd_nI ht (by decide), gd_nI ht (by decide), gd_nI ht (by decide), gd_nI ht (by decide), ix_nI (by omega), n7, n13, ← gE4, show nI 0 = nI 0 from rfl, w1, i54, i52, nI_add, nI_add, ← gE6]
  rw [lN_32, eC, cK_n, t_333_122 t6]
  refine StO.go rfl (stp1.of eo (by decide)) lp ⟨?_, by rw [eo.I (by decide)]; exact g.2.1, by rw [eo.I (by decide)]; exact g.2.2.1, by rw [f6.I (by decide), y2.I List.not_mem_nil, f4.I List.not_mem_nil]; exact q0, by rw [f6.I (by decide), y2.I List.not_mem_nil, f4.I List.not_mem_nil]; exact t0, by rw [fo.I (by decide)]; exact g.2.2.2.2.2.1, by rw [fo.I (by decide)]; exact g.2.2.2.2.2.2⟩ (HF.of fo (by decide))
  obtain ⟨rr1, rr2, ⟨st, G, Cp, rr3⟩, -⟩ := g.1
  refine ⟨rr1.trans ((eo.wk (by decide) (by decide) : Fr KMc XMc hc g6).gfm (by decide) (by decide)), rr2.trans (fo.wk (by decide) (by decide)), ⟨st, G, Cp, (rr3.frC (eo.wk (by decide) (by decide))).frR (fo.wk (by decide) (by decide))⟩, _, a1, a2, p1 + z, p2 + z, mk + 1, rf, m0, MRl.make (q := q) (t := t) (kk := kk) (z := z) mm ht hk (by omega) (by omega) hq nh hmk ?_ ?_ ?_ ?_ ?_ ?_ ?_ ?_ ?_ ?_ ?_ ?_ ?_ ?_ ?_ ?_⟩
  · exact eo.B (by decide)
  · exact eo.A (by decide)
  · intro i; rw [e6.A List.not_mem_nil, w2.A (by decide), gE4, gA_k (by decide), gA_k (by decide), gA_k (by decide), gA_s]; rfl
  · intro i; rw [e6.A List.not_mem_nil, w2.A (by decide), gE4, gA_k (by decide), gA_k (by decide), gA_s]; rfl
  · intro i; rw [e6.A List.not_mem_nil, w2.A (by decide), gE4, gA_k (by decide), gA_s]; rfl
  · intro i; rw [e6.A List.not_mem_nil, w2.A (by decide), gE4, gA_s]; rfl
  · intro i; rw [e6.B List.not_mem_nil, w3 i, e4.B (by decide)]; rfl
  · refine ⟨by rw [eo.I (by decide)], by rw [eo.I (by decide)], by rw [eo.I (by decide)], ?_, ?_, ?_⟩
    · rw [gE6, gI_k (by decide), gI_k (by decide), gI_s]
    · rw [gE6, gI_k (by decide), gI_s]
    · rw [gE6, gI_s]
  · rw [f6.B (by decide), y2.B (by decide), f4.B (by decide)]
  · rw [f6.A (by decide), y2.A (by decide), f4.A (by decide)]
  · intro i; rw [hE6, gA_s]; show (if i = t then nI q else gA h5 284 i) = _; rw [y2.A (by decide), f4.A (by decide)]
  · intro i; rw [f6.A (by decide), y2.A (by decide), hE4, gA_k (by decide), gA_k (by decide), gA_s]; rfl
  · intro i; rw [f6.A (by decide), y2.A (by decide), hE4, gA_k (by decide), gA_s]; rfl
  · intro i; rw [f6.A (by decide), y2.A (by decide), hE4, gA_s]; rfl
  · intro i; rw [f6.B (by decide), y3 i, f4.B (by decide)]; rfl
  · refine ⟨?_, ?_, ?_, ?_, ?_⟩
    · rw [f6.I (by decide), y2.I List.not_mem_nil, f4.I List.not_mem_nil]
    · rw [f6.I (by decide), y2.I List.not_mem_nil, f4.I List.not_mem_nil]
    · rw [f6.I (by decide), y2.I List.not_mem_nil, f4.I List.not_mem_nil]
    · rw [hE6]; show gI (sI (sI h5 3717 189 (nI (p1 + z))) 3718 189 (nI (p2 + z))) 3717 189 = _; rw [gI_k (by decide), gI_s]
    · rw [hE6]; show gI (sI (sI h5 3717 189 (nI (p1 + z))) 3718 189 (nI (p2 + z))) 3718 189 = _; rw [gI_s]
end MAL
