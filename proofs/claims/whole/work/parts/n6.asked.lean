/-! ===== RUN: what an item is asked, on both sides ===== -/
section ASK
variable {c : CXm} {M N d k k' D T p n i : Nat} {hc hr h1 hc' hr' : AH} {L : Cds}
/-- the ways are looked up, on both sides -/
theorem way_b (K : KXs c) (r : CRm c hc hr) (hn : 7 ≤ n) {m : Nat} (hm : 3 ≤ m) : ∃ hc' hr', E n 253 [.ref 156, .int (nI (kn c 3))] hc = some (none, hc') ∧ E m 107 [.ref 189, .int (nI (kn c 3))] hr = some (none, hr') ∧ Fr frW fxW hc hc' ∧ Fr [3679, 3680] [262, 263, 264] hr hr' ∧ CRm c hc' hr' ∧ ∀ o, o < kB c 0 0 → gA hc' 169 o = wC (wyS (kB c) (kn c 3) (kn c 7) o) ∧ gA hr' 262 o = wC (wyS (kB c) (kn c 3) (kn c 7) o) := by
  obtain ⟨n, rfl⟩ : ∃ m, n = m + 7 := ⟨n - 7, by omega⟩
  obtain ⟨m, rfl⟩ : ∃ m', m = m' + 3 := ⟨m - 3, by omega⟩
  have hsr := r.shR K
  obtain ⟨r1, r2, ⟨s, G, Cp, q⟩, ty, a1, a2, p1, p2, mk, rf, m0, mm⟩ := id r
  obtain ⟨b1, b2, b3, b4⟩ := q.rb r K
  obtain ⟨q1, q2, q3, q4, q5, q6, q7, q8, q9, q10⟩ := q
  have W := K.2.2.1
  have w0 := W.1.1
  have ho := K.2.2.2.2.2.2.2.2.1
  have hk : kn c 7 < 2 ^ 29 := K.2.2.2.2.2.2.2.2.2.2.2.2.2.2.2.2.2.1
  have clc : gI hc 2051 156 = nI (kn c 7) := by rw [← q10]; exact q1.2.2.2.2.1.1
  have clr : gI hr 3677 189 = nI (kn c 7) := by rw [← q10]; exact q5.1.2.1
  obtain ⟨hc', x1, x2, x3, x4⟩ := c_ways (d := n) W hk ho q1.1 q1.2.2.1 q1.2.2.2.1 clc q4
  obtain ⟨hr', y1, y2, y3, y4⟩ := r_ways (d := m) W hk b3 ho hsr b2 b1 clr q6
  refine ⟨hc', hr', x1, y1, x2, y2, ⟨r1.trans (x2.gfm (by decide) (by decide)), r2.trans (y2.wk (by decide) (by decide)), ⟨s, G, Cp, q1.fr x2 (by decide) (by decide) (fun _ => rfl) (q1.2.2.2.2.1.fr x2 (by decide)), q2, q3, x3, q5.fr y2 (by decide) (by decide), y3, q7.trans (RM.rfl x2.1), q8, q9, q10⟩, ty, a1, a2, p1, p2, mk, rf, m0, (mm.frC x2 (by decide) (by decide)).frR y2 (by decide) (by decide)⟩, fun o ho' => ⟨(x4 o (by omega)).2, (y4 o ho').2⟩⟩
theorem wy_self {bk : Bk} {f clk : Nat} : wC (wyS bk f clk f) = -1 := by
  have : wyS bk f clk f = none := by
    cases h : wyS bk f clk f with
    | none => rfl
    | some q => exact absurd rfl (wyS_c (t := q.1) (c := q.2) h).2.2
  rw [this]; rfl
theorem dead_398 (a : Dd c D hc hr) (x1 x2 : Int32) (hn : 2 ≤ n) {T' p' k' : Nat} : EvL c (E n 398 [.ref 175, .int x1, .int x2] hc) h1 hr D T' p' k' := by
  obtain ⟨m, rfl⟩ : ∃ m, n = m + 1 := ⟨n - 1, by omega⟩
  have s := a.shC
  rw [t_398 s, cm_ngo s (by omega) a.ne, cK_v, t_398_4 s, if_pos rfl]
  exact ⟨_, _, rfl, Or.inr a⟩
/-- the coach with which the way begins -/
theorem b_next (K : KXs c) (g : Gs c D (T + 1) p k hc hr) (hi : i < kn c 6) (v : gB hr 289 T = (nI i).toInt64) (h4 : p < 4400) (hT : T < 2000) {y : Int32} (A : AT (hR c) (4400 * kn c 5 + p) [(nI 21, y)]) (hn : 12 ≤ n) {G0 : Nat → Nat → Nat} {s0 : St} {Cp0 : Nat → Nat → Nat} (q : PSt c hc hr s0 G0 Cp0) {u2 : Option Value} {u3 : Int32} : EvL c (cK (E n 329 [.ref 175] hc) (Q n 398 125 [some (.ref 175), some (.int u3), u2, some (.ref (G0 4 i))]) []) hc hr D T (p + 1) k := by
  have s := g.sC
  have sr := g.sR K
  obtain ⟨h0, hE⟩ : ∃ h0, h0 = sI (fet hr p) 3723 189 (nI T) := ⟨_, rfl⟩
  have f0 : Fr [3723, 3724, 3733] [] hr h0 := by rw [hE]; exact (fet_fr.wk (by decide) (fun _ q => q)).sI (by decide)
  have s0' := f0.sh sr
  have r0 : CRm c hc h0 := g.1.frR (f0.wk (by decide) (fun _ q => absurd q List.not_mem_nil))
  have z3 : gI h0 3733 189 = nI 0 := by rw [hE, gI_k (by decide)]; exact fet_c
  have z4 : gI h0 3724 189 = nI (p + 1) := by rw [hE, gI_k (by decide)]; exact fet_p
  have z2 : gI h0 3732 189 = -1 := by rw [f0.I (by decide)]; exact g.2.2.2.2.2.2
  have sf : Sh (fet hr p) := fet_fr.sh sr
  have i200 : i < 200 := by have := q.2.1.1; have := q.2.2.2.2.2.2.2.2.1; omega
  have e0 : E (kn c 8 + 20) 152 [.ref 189, .int (nI 21), .int y] (fet hr p) = cK (cK (cK (E (kn c 8 + 17) 154 [.ref 189] h0) (Q (kn c 8 + 17) 173 86 [some (.ref 189), some (.int (nI 21)), some (.int y), some (.int (nI i))]) []) (Q (kn c 8 + 18) 171 347 [none, none, none, none, none, none, none]) []) (Q (kn c 8 + 19) 152 42 [some (.ref 189), some (.int (nI 21)), some (.int y)]) [] := by
    rw [o_173 (n := kn c 8 + 17) sf g.fT hT (by omega) (by decide), gB_fet, v, ← hE, t_173_4 s0', if_neg (by decide), i3264, if_neg (by decide), if_neg (nI_nlt (by omega) (by omega)), if_pos rfl]
  have go : LPm c hr = cK (E (kn c 8 + 20) 152 [.ref 189, .int (nI 21), .int y] (fet hr p)) (Q (kn c 8 + 20) 151 130 [some (.ref 189), none, none, some (.int (nI (4400 * kn c 5 + p)))]) [] := LP_go g.1 K g.2.2.2.2.2.2 g.2.2.2.1 h4 A
  rcases stp_b (n := n) (m := kn c 8 + 17) K r0 z2 (by omega) (by omega) with ⟨hc1, h1, y1, y2, y3, y4, y5, y6, y7⟩ | ⟨hc1, h1, y1, y2, y3, y4, y5, y6, y7⟩
  · have s1 := y3.shC
    have t1 := y3.shR K
    obtain ⟨hc2, h2, w1, w2, w3, w4, w5, w6⟩ := way_b (n := n) (m := kn c 8 + 17) K y3 (by omega) (by omega)
    have s2 := w5.shC
    have t2 := w5.shR K
    obtain ⟨-, -, ⟨s9, G9, Cp9, q9⟩, -⟩ := id w5
    obtain ⟨c1, c2, c3, c4⟩ := q9.rb w5 K
    have W := K.2.2.1
    have w0 := W.1.1
    have i9 : i < zN s9 2 := by have := q9.2.2.2.2.2.2.2.2.1; omega
    have eG : G9 4 = G0 4 := (q9.2.2.2.2.2.2.2.1 4 (by decide)).trans (q.2.2.2.2.2.2.2.1 4 (by decide)).symm
    have gl := c_goal (d := n - 4) s2 W q9.2.1.i q9.1.2.2.1 q9.1.2.2.2.1 q9.1.2.2.2.2.1 i9
    rw [eG, show n - 4 + 4 = n by omega] at gl
    have glt := goS_lt W q9.2.1.i i9
    have ho := K.2.2.2.2.2.2.2.2.1
    obtain ⟨v1, v2⟩ := w6 _ glt
    have e46 := (y3.ci.scr K).2.2.1
    have x6 : gI h2 3726 189 = nI (kn c 3) := c4
    have x1 : gI h1 3726 189 = nI (kn c 3) := by rw [y3.2.1.I (by decide)]; exact K.2.2.2.2.2.2.2.2.2.2.2.2.2.2.1
    have rg := r_goesTo (d := kn c 8 + 16) t2 W c3 c2 c1 q9.2.2.2.2.1.1 q9.2.1.i i9
    have x23 : gI h2 3723 189 = nI T := by rw [w4.I (by decide), y5.I (by decide), hE, gI_s]
    have pu : E (kn c 8 + 17) 172 [.ref 189, .long (wC (wyS (kB c) (kn c 3) (kn c 7) (goS (kB c) s9 i))).toInt64] h2 = some (none, sI (sB h2 289 T (wC (wyS (kB c) (kn c 3) (kn c 7) (goS (kB c) s9 i))).toInt64) 3723 189 (nI (T + 1))) := rm_push t2 (by omega) x23 hT
    obtain ⟨h3, hE3⟩ : ∃ h3, h3 = sI (sB h2 289 T (wC (wyS (kB c) (kn c 3) (kn c 7) (goS (kB c) s9 i))).toInt64) 3723 189 (nI (T + 1)) := ⟨_, rfl⟩
    rw [← hE3] at pu
    have f3 : Fr [3723] [289] h2 h3 := by rw [hE3]; exact (Fr.rfl.sB (by decide)).sI (by decide)
    have t3 := f3.sh t2
    have eR : E (kn c 8 + 20) 152 [.ref 189, .int (nI 21), .int y] (fet hr p) = some (none, h3) := by
      rw [e0, y2, cK_v, t_173_86 t1, if_neg (by decide), x1, w2, cK_n, t_173_97 t2, rg, cK_v, t_173_103 t2, x6]
      by_cases z : goS (kB c) s9 i = kn c 3
      · rw [if_pos (by rw [z]), ck_ok (k189 t2)]
        have em : ((-1 : Int64)) = (wC (wyS (kB c) (kn c 3) (kn c 7) (goS (kB c) s9 i))).toInt64 := by rw [z, wy_self]; decide
        rw [em, pu, cK_n, t_173_130 t3, t_173_188 t3, cK_n, t_171_347 t3, cK_n, t_152_42 t3, t_152_65 t3]
      · rw [if_neg (fun w => z ((nI_eq (by omega) (by omega)).mp w)), rg, cK_v, t_173_125 t2, ck_ok (show gC h2 262 = 60 from ShC t2 (by decide)), show gK h2 262 = 16 from ShK t2 (by decide), gd_nI (by omega) (by decide), ck_ok (k189 t2), ix_nI (by omega), v2, pu, cK_n, t_173_130 t3, t_173_188 t3, cK_n, t_171_347 t3, cK_n, t_152_42 t3, t_152_65 t3]
    rw [eR] at go
    have cm3 : gI h3 3733 189 = nI 0 := by rw [f3.I (by decide), w4.I (by decide), y5.I (by decide)]; exact z3
    rw [LP_nx t3 cm3] at go
    rw [y1, cK_v, t_398_125 s1, if_neg (by decide), e46, w1, cK_n, t_398_141 s2, gl, cK_v, t_398_156 s2, ck_ok (show gC hc2 169 = 60 from ShC s2 (by decide)), show gK hc2 169 = 16 from ShK s2 (by decide), gd_nI (by omega) (by decide), ix_nI (by omega), v1]
    have bb : gB h2 289 = gB hr 289 := by rw [w4.B (by decide), y5.B List.not_mem_nil, f0.B List.not_mem_nil]
    refine EvL.of ((y4.wk (by decide) (fun _ q => absurd q List.not_mem_nil)).trans (w3.wk (by decide) (by decide))) (by
      unfold stp1; rw [w3.I (by decide)]; omega) ⟨h3, go, ⟨w5.frR (f3.wk (by decide) (by decide)), ?_, ?_, ?_, by rw [hE3, gI_s], ?_, ?_⟩, ?_, ?_, fun j hj => ?_⟩
    · rw [w3.I (by decide), y4.I (by decide)]; exact g.2.1
    · rw [w3.I (by decide), y4.I (by decide)]; exact g.2.2.1
    · rw [f3.I (by decide), w4.I (by decide), y5.I (by decide)]; exact z4
    · rw [f3.I (by decide), w4.I (by decide), y5.I (by decide), f0.I (by decide)]; exact g.2.2.2.2.2.1
    · rw [f3.I (by decide), w4.I (by decide), y5.I (by decide)]; exact z2
    · exact (HF.of f0 (by decide)).tr ((HF.st y5 (by decide) (by rw [y3.sts, r0.sts]; omega)).tr ((HF.of w4 (by decide)).tr (HF.of f3 (by decide))))
    · rw [hE3]; show gB (sB h2 289 T _) 289 T = _
      rw [gB_s, up1_s]
    · rw [hE3]; show gB (sB h2 289 T _) 289 j = _
      rw [gB_s, up1_x (by omega), bb]
  · have s1 := y3.shC
    have t1 := y3.shR K
    have eR : E (kn c 8 + 20) 152 [.ref 189, .int (nI 21), .int y] (fet hr p) = some (none, h1) := by
      rw [e0, y2, cK_v, t_173_86 t1, if_pos rfl, t_173_188 t1, cK_n, t_171_347 t1, cK_n, t_152_42 t1, t_152_65 t1]
    rw [eR, LP_nx t1 (by rw [y5.I (by decide)]; exact z3), LP_end t1 (by decide) y7] at go
    rw [y1, cK_v, t_398_125 s1, if_pos rfl]
    exact EvL.dd ⟨10, y6, by decide, by decide, h1, y3, Or.inr ⟨Or.inl rfl, go⟩⟩
/-- what an item is asked -/
theorem b_398 (K : KXs c) {x : Int32} {kd : Nat} (hkd : 146 ≤ kd ∧ kd ≤ 150) (g : Gs c D (T + 1) p k hc hr) (v : gB hr 289 T = x.toInt64) (px : itv (kn c 6) x) (h4 : p < 4400) (hT : T < 2000) {y : Int32} (A : AT (hR c) (4400 * kn c 5 + p) [(nI (kd - 128), y)]) (hn : 14 ≤ n) : EvL c (E n 398 [.ref 175, .int (nI kd), .int x] hc) hc hr D T (p + 1) k := by
  obtain ⟨m, rfl⟩ : ∃ m, n = m + 1 := ⟨n - 1, by omega⟩
  have s := g.sC
  have sr := g.sR K
  have sf : Sh (fet hr p) := fet_fr.sh sr
  obtain ⟨-, -, ⟨st, G, Cp, q⟩, -⟩ := id g.1
  obtain ⟨b1, b2, b3, b4⟩ := q.ff (q := p) g.1 K
  have W := K.2.2.1
  have w0 := W.1.1
  have hz := q.2.2.2.2.2.2.2.2.1
  have wi := q.2.1.i
  have w200 := wi.1
  have vf : gB (fet hr p) 289 T = x.toInt64 := by rw [gB_fet]; exact v
  have en : ∀ z, z < 2 ^ 31 → (nI kd = nI z) = (kd = z) := fun z hz => propext (nI_eq (by omega) hz)
  rw [t_398 s, cm_go s (by omega) g.2.1, cK_v, t_398_4 s, if_neg (by decide)]
  simp only [en 150 (by decide)]
  by_cases k150 : kd = 150
  · have ok := o_22 (n := kn c 8 + 20) sf g.fT hT (by omega) y (x := x) vf
    rw [if_pos k150]
    rw [k150] at A
    have G3 := Gv.op (k' := k) K g h4 A ok (Fr.rfl : Fr [1545] [] hc hc) g.2.2.1 rfl
    rcases px.u (by omega) with ⟨x0, x1⟩ | ⟨i, hi, xi, x1, xn⟩
    · rw [if_pos x0]; rw [if_pos x1] at G3; exact EvL.of Fr.rfl stp1.rf G3
    · rw [if_neg xn]; rw [if_neg x1] at G3; exact EvL.of Fr.rfl stp1.rf G3
  rw [if_neg k150]
  rcases px.u (by omega) with ⟨x0, -⟩ | ⟨i, hi, xi, -, xn⟩
  · obtain ⟨hc4, z1, z2, z3⟩ := Dd.op K g h4 A (o_nix (n := kn c 8 + 20) sf g.fT fet_c hT (by omega) y (by omega) (by rw [vf, x0])) (by decide) (Fr.rfl : Fr [1545] [] hc hc) (n := m) (by omega)
    rw [if_pos x0, z1, cK_n, t_398_37 z3.shC]
    exact EvL.dd z3
  · obtain ⟨e1, e2⟩ := cm_it (n := m) q hi (by omega)
    obtain ⟨c1, c2, c3, c4, c5, c6⟩ := q.1.2.2.2.2.1.2.2.2 i (by omega)
    have r1 := q.2.2.2.2.1.1.2.2.2.2 i (by omega)
    rw [xi] at vf v
    rw [if_neg xn, xi, e1, cK_v, t_398_50 s, ck_ok e2]
    simp only [en 146 (by decide), en 147 (by decide), en 148 (by decide)]
    by_cases k146 : kd = 146
    · have glt := goS_lt W wi (i := i) (by omega)
      have ok := o_18 (n := kn c 8 + 20) sf W K.2.2.2.2.2.2.2.2.2.2.2.1 b2 b1 b3 wi (i := i) (by omega) g.fT hT (by omega) y vf glt
      rw [k146] at A
      obtain ⟨f1, f2, f3, f4, f5, f6⟩ := shf_b q W K.2.2.2.2.2.2.2.2.1
      have gl := c_goal (d := m - 4) s W wi q.1.2.2.1 q.1.2.2.2.1 q.1.2.2.2.2.1 (i := i) (by omega)
      rw [show m - 4 + 4 = m by omega] at gl
      obtain ⟨g1, g2⟩ := f5 (m - 3) _ glt
      rw [show m - 3 + 3 = m by omega] at g1
      have bo := (q.1.2.2.2.1.2.2.2.2.1 _ glt).2.2.1
      rw [if_pos k146, f1, Option.bind_some, ck_ok f2, f3, Option.bind_some, gl, cK_v, t_398_98 s, ck_ok f4, g1, cK_v, t_398_101 s, ck_ok g2, ck_ok g2, bo]
      exact EvL.of Fr.rfl stp1.rf (Gv.op K g h4 A ok Fr.rfl g.2.2.1 rfl)
    rw [if_neg k146]
    by_cases k147 : kd = 147
    · have ok := o_19 (n := kn c 8 + 20) sf g.fT hT (by omega) y (x := 19) (Or.inl rfl) (i := i) (by omega) vf
      rw [if_pos rfl, gA_fet, r1.2.1, ← c5] at ok
      rw [k147] at A
      rw [if_pos k147, ck_ok e2]
      exact EvL.of Fr.rfl stp1.rf (Gv.op K g h4 A ok Fr.rfl g.2.2.1 rfl)
    rw [if_neg k147]
    by_cases k148 : kd = 148
    · have ok := o_19 (n := kn c 8 + 20) sf g.fT hT (by omega) y (x := 20) (Or.inr rfl) (i := i) (by omega) vf
      rw [if_neg (by decide), gA_fet, r1.1, ← c4] at ok
      rw [k148] at A
      rw [if_pos k148, ck_ok e2]
      exact EvL.of Fr.rfl stp1.rf (Gv.op K g h4 A ok Fr.rfl g.2.2.1 rfl)
    rw [if_neg k148]
    rw [show kd - 128 = 21 by omega] at A
    exact b_next K g hi v h4 hT A (by omega) q
end ASK
