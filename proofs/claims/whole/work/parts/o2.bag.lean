/-! ===== RUN: statements on both sides: bag ===== -/
section STD
variable {c : CXm} {M N d k k' D T p n a t f z kk : Nat} {hc hr h h0 h1 hc' hr' : AH} {L : Cds} {w l : Int64} {x : Int32} {st : St} {G Cp : Nat → Nat → Nat}
theorem MRl.gfc {ni a1 a2 p1 p2 mk rf : Nat} {ty : Nat → Bool} (m : MRl hc hr ni ty a1 a2 p1 p2 mk rf) (hs : Sh hc) (g : GFc hc hc') : MRl hc' hr ni ty a1 a2 p1 p2 mk rf := by
  have hN := hs.2
  have iA : ∀ x, x < 296 → gA hc' x = gA hc x := fun x hx => (g.2.2.2.2.2.1 x (by omega) (fun q => q)).1
  have iB : ∀ x, x < 296 → gB hc' x = gB hc x := fun x hx => (g.2.2.2.2.2.1 x (by omega) (fun q => q)).2
  have iI : ∀ k, k ∉ KC → gI hc' k 175 = gI hc k 175 := fun k hk => g.2.2.1 k 175 (by omega) hk
  unfold MRl MRn TRr at m ⊢
  rw [iB 176 (by decide), iA 177 (by decide), iA 178 (by decide), iA 179 (by decide), iA 180 (by decide), iA 181 (by decide), iB 182 (by decide), iI 1549 (by decide), iI 1551 (by decide), iI 1552 (by decide), iI 1553 (by decide), iI 1554 (by decide), iI 1555 (by decide)]
  exact m
theorem ib_z {bk : Bk} {s : St} {i cc : Nat} : zN (ibS bk s i cc) 2 = zN s 2 ∧ zN (ibS bk s i cc) 0 = zN s 0 := by
  unfold ibS ntS
  split <;> exact ⟨rfl, rfl⟩
/-- into a bag, on both sides -/
theorem bag_b (r : CRm c hc hr) (K : KXs c) (q : PSt c hc hr st G Cp) {i cc : Nat} (hi : i < kn c 6) (hcc : cc < kB c 0 3) (x5 : iN st 5 i = 0) (x6 : iN st 6 i = kn c 3) (xf : kB c 25 cc = kn c 3) (hn : 8 ≤ n) {m : Nat} (hm : 4 ≤ m) : ∃ hc' hr', E n 255 [.ref 156, .ref (G 4 i), .int (nI cc)] hc = some (none, hc') ∧ E m 111 [.ref 189, .int (nI i), .int (nI cc)] hr = some (none, hr') ∧ CRm c hc' hr' ∧ GFc hc hc' ∧ Fr [3678] [248, 249, 250, 253, 254, 255, 256, 257] hr hr' := by
  obtain ⟨n, rfl⟩ : ∃ m, n = m + 8 := ⟨n - 8, by omega⟩
  obtain ⟨m, rfl⟩ : ∃ m', m = m' + 4 := ⟨m - 4, by omega⟩
  have W := K.2.2.1
  obtain ⟨b1, b2, b3, b4⟩ := q.rb r K
  have hsr := r.shR K
  obtain ⟨r1, r2, -, ty, a1, a2, p1, p2, mk, rf, m0, mm⟩ := id r
  obtain ⟨q1, q2, q3, q4, q5, q6, q7, q8, q9, q10⟩ := id q
  obtain ⟨hc', G', Cp', y1, y2, y3, y4, y5, y6⟩ := c_putInBag (d := n) W q1 q2 q3 hcc (i := i) (by omega) x5 (by rw [x6, xf])
  obtain ⟨hr', z1, z2, z3⟩ := r_intoBag (d := m) hsr W b3 b2 b1 q5 q2 (i := i) (c := cc) (by omega) hcc x5 (by rw [x6, xf])
  refine ⟨hc', hr', y1, z1, ⟨r1.trans (y6.wk (fun k x w => Or.inl w) (fun _ _ w => w) (fun _ w => w) (fun _ w => w.elim)), r2.trans (z2.wk (by decide) (by decide)), ⟨_, G', Cp', y2, q2.ib W hcc (by omega) x5 (by rw [x6, xf]), y4, q4.gfc q1.1 y6, z3, q6.fr z2 (by decide) (by decide) (by decide) (by decide), q7.trans y3, fun k hk => (y5 k hk).trans (q8 k hk), ?_, ?_⟩, ty, a1, a2, p1, p2, mk, rf, m0, (mm.gfc q1.1 y6).frR z2 (by decide) (by decide)⟩, y6, z2⟩
  · rw [ib_z.1]; exact q9
  · rw [ib_z.2]; exact q10
theorem b_bag (K : KXs c) (g : Gs c D 2 p k hc hr) (v0 : gB hr 289 0 = x.toInt64) (px : itv (kn c 6) x) (v1 : gB hr 289 1 = l) (h4 : p < 4400) {y : Int32} (A : AT (hR c) (4400 * kn c 5 + p) [(nI 35, y)]) (hn : 10 ≤ n) {u1 : Option Value} : StO c (Q n 339 44 [some (.ref 175), u1, some (.int x), some (.long l), none] [.int (nI 1)] hc) hc hr D (p + 1) k := by
  obtain ⟨m, rfl⟩ : ∃ m, n = m + 3 := ⟨n - 3, by omega⟩
  have s := g.sC
  have sr := g.sR K
  have sf : Sh (fet hr p) := fet_fr.sh sr
  obtain ⟨-, -, ⟨st, G, Cp, q⟩, -⟩ := id g.1
  have W := K.2.2.1
  have w0 := W.1
  obtain ⟨q1, q2, q3, q4, q5, q6, q7, q8, q9, q10⟩ := id q
  have w2 : kn c 6 ≤ 200 := by have := q2.1; omega
  obtain ⟨h0, hE0⟩ : ∃ h0, h0 = sI (sI (fet hr p) 3723 189 (nI 1)) 3723 189 (nI 0) := ⟨_, rfl⟩
  have f0 : Fr [3723, 3724, 3733] [] hr h0 := by rw [hE0]; exact ((fet_fr.wk (by decide) (fun _ q => q)).sI (by decide)).sI (by decide)
  have s0 := f0.sh sr
  have c0 : gI h0 3733 189 = nI 0 := by rw [hE0, gI_k (by decide), gI_k (by decide)]; exact fet_c
  have q0 : gI h0 3724 189 = nI (p + 1) := by rw [hE0, gI_k (by decide), gI_k (by decide)]; exact fet_p
  have t0 : gI h0 3723 189 = nI 0 := by rw [hE0, gI_s]
  have ff : Fr [3723, 3733] [289] (fet hr p) h0 := by rw [hE0]; exact (Fr.rfl.sI (by decide)).sI (by decide)
  have r0 : CRm c hc h0 := g.1.frR (f0.wk (by decide) (fun _ q => absurd q List.not_mem_nil))
  obtain ⟨B, b2, b3, b4⟩ := q.rb g.1 K
  have B0 : RB h0 (kn c 2) (kB c) := B.fr f0 (by decide)
  have N0 : gI h0 3597 189 = nI (kn c 2) := by rw [f0.I (by decide)]; exact b2
  have O0 : gI h0 3726 189 = nI (kn c 3) := by rw [f0.I (by decide)]; exact b4
  have R0 : RS1 h0 st := (q5.fr f0 (by decide) (fun _ q => absurd q List.not_mem_nil)).1
  have eR : E (kn c 8 + 20) 152 [.ref 189, .int (nI 35), .int y] (fet hr p) = cK (cK (Q (kn c 8 + 17) 170 9 [some (.ref 189), some (.long l), none, none] [.long x.toInt64] h0) (Q (kn c 8 + 18) 159 175 [some (.ref 189), some (.int (nI 35)), some (.int y), none, none, none, none, none, none]) []) (Q (kn c 8 + 19) 152 27 [some (.ref 189), some (.int (nI 35)), some (.int y)]) [] := by
    rw [o_152c sf (by decide), t_159 sf, if_neg (by decide), if_neg (by decide), if_neg (by decide), if_neg (by decide), if_neg (by decide), if_neg (by decide), if_pos rfl, t_170 sf, rm_pop sf (by omega) (show gI (fet hr p) 3723 189 = nI (1 + 1) from g.fT) (by decide), cK_v, t_170_4 sf.sI, rm_pop sf.sI (by omega) (show gI (sI (fet hr p) 3723 189 (nI 1)) 3723 189 = nI (0 + 1) from gI_s) (by decide), cK_v, ← hE0, show gB (sI (fet hr p) 3723 189 (nI 1)) 289 0 = gB (fet hr p) 289 0 from rfl, gB_fet, v0, v1]
  rw [t_170_9 s0, i3264] at eR
  have dead : ∀ {e : Nat} {u : Vs → AH → Option Ot}, 1 ≤ e ∧ e ≤ 8 → (∀ h', Sh h' → u [] h' = some (none, h')) → (E (kn c 8 + 20) 152 [.ref 189, .int (nI 35), .int y] (fet hr p) = cK (cK (cK (E (kn c 8 + 17) 161 [.ref 189, .int (nI e)] h0) u []) (Q (kn c 8 + 18) 159 175 [some (.ref 189), some (.int (nI 35)), some (.int y), none, none, none, none, none, none]) []) (Q (kn c 8 + 19) 152 27 [some (.ref 189), some (.int (nI 35)), some (.int y)]) []) → ∀ {v : Vs → AH → Option Ot}, (∀ h', Sh h' → v [] h' = some (none, h')) → StO c (cK (E (m + 3) 365 [.ref 175, .int (nI e)] hc) v []) hc hr D (p + 1) k := fun {e u} he hu eq {v} hv => by
    rw [rm_refuse s0 (by omega) c0, cK_n, hu _ s0.sI, cK_n, t_159_175 s0.sI, t_159_202 s0.sI, cK_n, t_152_27 s0.sI, t_152_65 s0.sI] at eq
    obtain ⟨hc4, z1, z2, z3⟩ := Dd.op K g h4 A ⟨_, eq, ff.trans (Fr.rfl.sI (by decide)), gI_s⟩ he (Fr.rfl : Fr [1545] [] hc hc) (n := m + 3) (by omega)
    rw [z1, cK_n, hv _ z3.shC]
    exact StO.dd rfl (stp1.of z2 (by decide)) z3
  rw [t_339_44 s, if_neg (by decide)]
  simp only [c_lt] at eR ⊢
  rcases px.u w2 with ⟨x0, x1⟩ | ⟨i, hi, xi, x1, xn⟩
  · rw [if_pos x0]
    rw [if_pos x1] at eR
    exact dead (by decide) (fun h' s' => by rw [t_170_20 s', t_170_121 s']) eR (fun h' s' => by rw [t_339_58 s', t_339_207 s'])
  rw [if_neg xn]
  rw [if_neg x1] at eR
  have u49 : ∀ h', Sh h' → Q (kn c 8 + 17) 170 49 [some (.ref 189), none, none, none] [] h' = some (none, h') := fun h' s' => by rw [t_170_49 s', t_170_121 s']
  have u91 : ∀ h', Sh h' → Q (m + 3) 339 91 [some (.ref 175), none, none, none, none] [] h' = some (none, h') := fun h' s' => by rw [t_339_91 s', t_339_207 s']
  by_cases l0 : l < 0
  · rw [if_pos l0]
    rw [if_pos l0] at eR
    exact dead (by decide) u49 eR u91
  obtain ⟨g3, A3⟩ := q1.2.2.2.1.2.2.1 3 (by decide)
  rw [if_neg l0, q1.2.2.1, Option.bind_some, ck_ok q1.2.2.2.1.1, g3, Option.bind_some, ck_ok A3.1, al_size (d := m + 2) s A3, cK_v, t_339_81 s]
  rw [if_neg l0, N0, gd_nI (by omega) (by decide), ix_nI (by omega), B0.1.2.2.2.1] at eR
  simp only [c_lt]
  by_cases l1 : l < (nI (kB c 0 3)).toInt64
  case neg =>
    rw [if_neg l1]
    rw [if_neg l1] at eR
    exact dead (by decide) u49 eR u91
  rw [if_pos l1]
  rw [if_pos l1] at eR
  obtain ⟨cc, hcc, lc⟩ := spot_in l0 l1 (by omega)
  obtain ⟨e1, e2⟩ := cm_it (n := m + 3) q hi (by omega)
  have wi := q2.2.2.2.1 i (by omega)
  obtain ⟨c1, c2, c3, c4, c5, c6, c7, c8, c9, c10, c11, -⟩ := q1.2.2.2.2.1.2.2.2 i (by omega)
  obtain ⟨d1, d2, d3, d4, d5, d6, d7, d8, -⟩ := R0.2.2.2.2 i (by omega)
  have w16 := w0.1
  rw [xi, e1, cK_v, t_339_105 s, ck_ok e2, ck_ok e2, c10]
  rw [xi, gd_nI (by omega) (by decide), ix_nI (by omega), d7] at eR
  have u80 : ∀ h', Sh h' → Q (kn c 8 + 17) 170 80 [some (.ref 189), none, none, none] [] h' = some (none, h') := fun h' s' => by rw [t_170_80 s', t_170_121 s']
  have u144 : ∀ h', Sh h' → Q (m + 3) 339 144 [some (.ref 175), none, none, none, none] [] h' = some (none, h') := fun h' s' => by rw [t_339_144 s', t_339_207 s']
  by_cases i5 : iN st 5 i = 0
  case neg =>
    have nz : ¬ nI (iN st 5 i) = nI 0 := fun z => i5 ((nI_eq (by omega) (by decide)).mp z)
    rw [if_neg nz]
    rw [if_neg nz] at eR
    exact dead (by decide) u80 eR u144
  rw [i5, if_pos rfl, e1, cK_v, t_339_125 s, ck_ok e2, ck_ok e2, c11, (g.1.ci.scr K).2.2.1]
  rw [i5, if_pos rfl, gd_nI (by omega) (by decide), d8, O0] at eR
  have ho := K.2.2.2.2.2.2.2.2.1
  by_cases i6 : iN st 6 i = kn c 3
  case neg =>
    have nz : ¬ nI (iN st 6 i) = nI (kn c 3) := fun z => i6 ((nI_eq (by omega) (by omega)).mp z)
    rw [if_neg nz]
    rw [if_neg nz] at eR
    exact dead (by decide) u80 eR u144
  have bc := q1.2.2.2.1.2.2.2.2.2.2.2 cc hcc
  have rc := B0.2.2.2.2.2 cc hcc
  have bf := (W.2.2.2.2.2 cc hcc).1
  rw [i6, if_pos rfl, q1.2.2.1, Option.bind_some, ck_ok q1.2.2.2.1.1, g3, Option.bind_some, ck_ok A3.1, lc, lN_32, al_get (d := m) s A3 hcc, cK_v, t_339_162 s, ck_ok bc.1, ck_ok bc.1, bc.2.1, (g.1.ci.scr K).2.2.1]
  rw [i6, if_pos rfl, lc, lN_32, pk_mul, nI_add, gd_nI (by omega) (by decide), ix_nI (by omega), rc.1] at eR
  by_cases cf : kB c 25 cc = kn c 3
  case neg =>
    have nz : ¬ nI (kB c 25 cc) = nI (kn c 3) := fun z => cf ((nI_eq (by omega) (by omega)).mp z)
    rw [if_neg nz]
    rw [if_neg nz] at eR
    exact dead (by decide) (fun h' s' => by rw [t_170_111 s', t_170_121 s']) eR (fun h' s' => by rw [t_339_181 s', t_339_207 s'])
  have q' : PSt c hc h0 st G Cp := q.frR (f0.wk (by decide) (fun _ q => absurd q List.not_mem_nil))
  obtain ⟨hc', h1, y1, y2, y3, y4, y5⟩ := bag_b (n := m + 3) (m := kn c 8 + 17) r0 K q' hi hcc i5 i6 cf (by omega) (by omega)
  have s1 := y3.shC
  have t1 := y3.shR K
  rw [cf, if_pos rfl, e1, cK_v, t_339_199 s, ck_ok e2, ck_ok (show gC hc 156 = 8 from ShC s (by decide)), lN_32, y1, cK_n, t_339_207 s1]
  rw [cf, if_pos rfl, y2, cK_n, t_170_121 t1, cK_n, t_159_175 t1, t_159_202 t1, cK_n, t_152_27 t1, t_152_65 t1] at eR
  have hN := s.2
  have iI : ∀ k, k ∉ KC → gI hc' k 175 = gI hc k 175 := fun k hk => y4.2.2.1 k 175 (by omega) hk
  have frA : Fr [3723, 3724, 3733, 3678] [248, 249, 250, 253, 254, 255, 256, 257] hr h1 := (f0.wk (by decide) (fun _ q => absurd q List.not_mem_nil)).trans (y5.wk (by decide) (fun _ q => q))
  refine StO.go rfl (by unfold stp1; rw [iI 1549 (by decide)]; exact Nat.le_refl _) (LP_ok K g h4 A eR t1 (by rw [y5.I (by decide)]; exact c0)) ⟨y3, by rw [iI 1547 (by decide)]; exact g.2.1, by rw [iI 1545 (by decide)]; exact g.2.2.1, by rw [y5.I (by decide)]; exact q0, by rw [y5.I (by decide)]; exact t0, by rw [frA.I (by decide)]; exact g.2.2.2.2.2.1, by rw [frA.I (by decide)]; exact g.2.2.2.2.2.2⟩ (HF.of frA (by decide))
end STD
