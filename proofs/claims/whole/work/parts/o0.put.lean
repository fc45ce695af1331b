/-! ===== RUN: statements on both sides: put, lay, refuse, stop ===== -/
theorem sh_3 (x : Int64) : x &&& 65535 = ((x.toInt32.toUInt32 % 65536).toInt32).toInt64 := by
  have e1 : (x.toInt32.toUInt32 % 65536).toInt32 = nI (x.toBitVec.toNat % 65536) := by
    apply Int32.toBitVec_inj.mp
    apply BitVec.eq_of_toNat_eq
    show ((x.toInt32.toUInt32 % 65536).toInt32).toBitVec.toNat = (BitVec.ofNat 32 (x.toBitVec.toNat % 65536)).toNat
    rw [BitVec.toNat_ofNat]
    have : ((x.toInt32.toUInt32 % 65536).toInt32).toBitVec = (x.toInt32.toBitVec % 65536#32) := rfl
    rw [this, BitVec.toNat_umod]
    have e2 : x.toInt32.toBitVec = x.toBitVec.setWidth 32 := by
      rw [Int64.toBitVec_toInt32]
      exact BitVec.signExtend_eq_setWidth_of_le _ (by decide)
    rw [e2, BitVec.toNat_setWidth]
    show x.toBitVec.toNat % 2 ^ 32 % 65536 = _
    omega
  rw [e1, nI_l (by omega)]
  apply Int64.toBitVec_inj.mp
  apply BitVec.eq_of_toNat_eq
  show (x.toBitVec &&& 65535#64).toNat = (BitVec.ofNat 64 (x.toBitVec.toNat % 65536)).toNat
  rw [BitVec.toNat_ofNat, BitVec.toNat_and]
  show x.toBitVec.toNat &&& 65535 = _
  rw [show (65535 : Nat) = 2 ^ 16 - 1 from rfl, Nat.and_two_pow_sub_one_eq_mod]
  omega
/-- what a row of numbers keeps -/
def shV (k : Nat) (x : Int64) : Int64 := if k = 1 then (if x = 0 then 0 else 1) else if k = 2 then x.toInt32.toInt8.toInt32.toInt64 else if k = 3 then x &&& 65535 else if k = 4 then x.toInt32.toInt16.toInt32.toInt64 else if k = 5 then x.toInt32.toInt64 else if k = 6 then x else if k = 7 then FP.f2l (FP.l2f x) else if k = 8 then FP.d2l (FP.l2d x) else x
/-- an item may lie in a row -/
def fitV (bk : Bk) (s : St) (k : Nat) (x : Int32) : Bool := if x < nI 0 then true else if k = 9 then true else ofS bk s (ix x) (k - 10)
section STB
variable {c : CXm} {M N d k k' D T p n a t f z kk : Nat} {hc hr h h0 h1 hc' hr' : AH} {L : Cds} {x w l : Int64}
theorem c_369 (hs : Sh h) (hn : 1 ≤ n) (hk : kk ≤ 12) : E n 369 [.int (nI kk), .long x] h = some (some (.long (shV kk x)), h) := by
  obtain ⟨m, rfl⟩ : ∃ m, n = m + 1 := ⟨n - 1, by omega⟩
  have en : ∀ z, z < 2 ^ 31 → (nI kk = nI z) = (kk = z) := fun z hz => propext (nI_eq (by omega) hz)
  rw [t_369 hs]
  unfold shV
  simp only [en 1 (by decide), en 2 (by decide), en 3 (by decide), en 4 (by decide), en 5 (by decide), en 6 (by decide), en 7 (by decide), en 8 (by decide), c_eq]
  (repeat' split) <;> rfl
theorem r_165 (hs : Sh h) (hn : 1 ≤ n) (hk : kk ≤ 12) : E n 165 [.int (nI kk), .long x] h = some (some (.long (shV kk x)), h) := by
  obtain ⟨m, rfl⟩ : ∃ m, n = m + 1 := ⟨n - 1, by omega⟩
  have en : ∀ z, z < 2 ^ 31 → (nI kk = nI z) = (kk = z) := fun z hz => propext (nI_eq (by omega) hz)
  rw [t_165 hs, ← sh_3]
  unfold shV
  simp only [en 1 (by decide), en 2 (by decide), en 3 (by decide), en 4 (by decide), en 5 (by decide), en 6 (by decide), en 7 (by decide), en 8 (by decide), c_eq]
  (repeat' split) <;> rfl
/-- a place of a row is written, on both sides -/
theorem MRl.put {ni a1 a2 p1 p2 mk rf : Nat} {ty : Nat → Bool} (m : MRl hc hr ni ty a1 a2 p1 p2 mk rf) (ht : t < 12) (k0 : kk ≠ 0) (X : TRx hc hr ni t kk f z) (ha : a < z) (hw : 9 ≤ kk → ∃ u, itv ni u ∧ w = u.toInt64) : MRl (sB hc 182 (f + a) w) (sB hr 288 (f + a) w) ni ty a1 a2 p1 p2 mk rf := by
  obtain ⟨m1, m2, m3, m4, m5, m6, m7⟩ := m
  have tyk : ty (f + a) = true → 9 ≤ kk := fun e => by
    rcases m6 t ht with ⟨x1, x2⟩ | ⟨k, f', z', m, q, x1, x2, x3, x4, x5, x6, x7, x8, x9, x10, x11, x12, x13, x14⟩
    · rw [X.1] at x1; exact absurd ((nI_eq (by have := X.2.1; omega) (by decide)).mp x1) k0
    · have y1 := (nI_eq (by have := X.2.1; omega) (by omega)).mp (X.1.symm.trans x3)
      have p2k := m5.2.2.2.2.2.2.2.2.1
      have zz := X.2.2.2.2.1
      have y2 := (nI_eq (by omega) (by omega)).mp ((X.2.2.2.1 k0).1.symm.trans x4)
      have y3 := (nI_eq (by omega) (by omega)).mp ((X.2.2.2.1 k0).2.symm.trans x5)
      subst y1; subst y2; subst y3
      rw [x14 a ha] at e
      exact of_decide_eq_true e
  refine ⟨fun i hi => ?_, m2, fun i hi => ?_, fun i hi e => ?_, m5, m6, m7⟩
  · rw [gB_k (by decide), gB_k (by decide)]; exact m1 i hi
  · rw [gB_s, gB_s]
    unfold up1
    by_cases q : i = f + a
    · rw [if_pos q, if_pos q]
    · rw [if_neg q, if_neg q]; exact m3 i hi
  · rw [gB_s]
    unfold up1
    by_cases q : i = f + a
    · rw [if_pos q]; rw [q] at e; exact hw (tyk e)
    · rw [if_neg q]; exact m4 i hi e
theorem TRx.fr {K X : List Nat} {ni : Nat} (q : TRx hc hr ni t kk f z) (fr : Fr K X hr hr') (h4 : 284 ∉ X) (h5 : 285 ∉ X) (h6 : 286 ∉ X) (h7 : 287 ∉ X) : TRx hc hr' ni t kk f z := by
  unfold TRx RRw at q ⊢
  rw [fr.A h4, fr.A h5, fr.A h6, fr.A h7]; exact q
/-- put: the place is looked for and written -/
theorem b_put (K : KXs c) (ht : t < 12) (g : Gs c D 3 p k hc hr) (v0 : gB hr 289 0 = (nI t).toInt64) (v1 : gB hr 289 1 = l) (v2 : gB hr 289 2 = x) (h4 : p < 4400) {y : Int32} (A : AT (hR c) (4400 * kn c 5 + p) [(nI 32, y)]) (hn : 2 ≤ n) {u1 u3 u4 u7 : Option Value} : StO c (cK (E n 368 [.ref 175, .int (nI t), .long l, .int (nI 0)] hc) (Q n 336 60 [some (.ref 175), u1, some (.int (nI t)), u3, u4, some (.long x), none, u7]) []) hc hr D (p + 1) k := by
  obtain ⟨m, rfl⟩ : ∃ m, n = m + 1 := ⟨n - 1, by omega⟩
  have s := g.sC
  have sr := g.sR K
  have sf : Sh (fet hr p) := fet_fr.sh sr
  obtain ⟨h0, hE0⟩ : ∃ h0, h0 = sI (sI (sI (fet hr p) 3723 189 (nI 2)) 3723 189 (nI 1)) 3723 189 (nI 0) := ⟨_, rfl⟩
  have f0 : Fr [3723, 3724, 3733] [] hr h0 := by rw [hE0]; exact (((fet_fr.wk (by decide) (fun _ q => q)).sI (by decide)).sI (by decide)).sI (by decide)
  have s0 := f0.sh sr
  have c0 : gI h0 3733 189 = nI 0 := by rw [hE0, gI_k (by decide), gI_k (by decide), gI_k (by decide)]; exact fet_c
  have q0 : gI h0 3724 189 = nI (p + 1) := by rw [hE0, gI_k (by decide), gI_k (by decide), gI_k (by decide)]; exact fet_p
  have t0 : gI h0 3723 189 = nI 0 := by rw [hE0, gI_s]
  obtain ⟨kk, f, z, X⟩ := g.1.tr ht
  have X0 := X.fr f0 List.not_mem_nil List.not_mem_nil List.not_mem_nil List.not_mem_nil
  obtain ⟨h1, xw, b1, b2, b3, b4⟩ := r_163 (n := kn c 8 + 18) s0 c0 (by omega) X0.2.2.1 l false
  have s1 := b2.sh s0
  rw [if_neg (by decide)] at b1
  have eR : E (kn c 8 + 20) 152 [.ref 189, .int (nI 32), .int y] (fet hr p) = cK (Q (kn c 8 + 18) 159 127 [some (.ref 189), some (.int (nI 32)), some (.int y), some (.long x), none, some (.long l), none, some (.int (gA h0 284 t)), none] [.int xw] h1) (Q (kn c 8 + 19) 152 27 [some (.ref 189), some (.int (nI 32)), some (.int y)]) [] := by
    rw [o_152c sf (by decide), t_159 sf, if_neg (by decide), if_neg (by decide), if_neg (by decide), if_pos rfl, rm_pop sf (by omega) (show gI (fet hr p) 3723 189 = nI (2 + 1) from g.fT) (by decide), cK_v, t_159_99 sf.sI, rm_pop sf.sI (by omega) (show gI (sI (fet hr p) 3723 189 (nI 2)) 3723 189 = nI (1 + 1) from gI_s) (by decide), cK_v, show klV (some (Value.int y)) = some (Value.int y) from rfl, t_159_104 sf.sI.sI, rm_pop sf.sI.sI (by omega) (show gI (sI (sI (fet hr p) 3723 189 (nI 2)) 3723 189 (nI 1)) 3723 189 = nI (0 + 1) from gI_s) (by decide), cK_v, ← hE0,
      show gB (sI (sI (fet hr p) 3723 189 (nI 2)) 3723 189 (nI 1)) 289 0 = gB (fet hr p) 289 0 from rfl, show gB (sI (fet hr p) 3723 189 (nI 2)) 289 1 = gB (fet hr p) 289 1 from rfl, gB_fet, v0, v1, v2, t_159_114 s0, ck_ok (k284 s0), j284 s0, i3264, gd_nI ht (by decide), ix_nI (by omega), b1, cK_v]
  have cm := cm_368 (n := m) s X ht l false
  rw [if_neg (by decide)] at cm
  have b19 : gB h0 = gB hr := funext fun z => f0.B (k := z) List.not_mem_nil
  by_cases q : cfS kk (nI z) l false = 0
  · obtain ⟨k0, k9, a, ha, la⟩ := cfS_0 (by have := X.2.2.2.2.1; omega) q
    have k8 : ¬ 9 ≤ kk := of_decide_eq_false k9
    obtain ⟨y1, y2⟩ := b4 q
    subst y2
    have zz := X.2.2.2.2.1
    rcases X0.2.2.1 with ⟨w0, -⟩ | ⟨qq, r1, r2, r3, r4, r5, r6, r7⟩
    · exact absurd w0 k0
    have xe : nI f + l.toInt32 = nI (f + a) := by rw [la, lN_32, nI_add]
    obtain ⟨h2, hE2⟩ : ∃ h2, h2 = sB h1 288 (f + a) (shV kk x) := ⟨_, rfl⟩
    have f2 : Fr [] [288] h1 h2 := by rw [hE2]; exact Fr.rfl.sB (by decide)
    have s2 := f2.sh s1
    have eR2 : E (kn c 8 + 20) 152 [.ref 189, .int (nI 32), .int y] (fet hr p) = some (none, h2) := by
      rw [eR, y1, xe, t_159_127 s1, if_pos c0, r3, gd_nI r4 (by decide), ix_nI (by omega), r5, r_165 s1 (by omega) (by omega), cK_v, t_159_153 s1, cw_ok (show gC h1 288 = 61 from ShC s1 (by decide)) (by decide), show gK h1 288 = 2000 from ShK s1 (by decide), gd_nI (by omega) (by decide), ix_nI (by omega), ← hE2, t_159_202 s2, cK_n, t_152_27 s2, t_152_65 s2]
    have lp := LP_ok K g h4 A eR2 s2 (by rw [f2.I List.not_mem_nil]; exact c0)
    rw [cm.1 q, cK_v, t_336_60 s, xe, if_neg (fun z => by have : ¬ nI (f + a) < nI 0 := nI_nlt (by omega) (by omega); rw [z] at this; exact this (by decide)), gd_nI ht (by decide), ix_nI (by omega), X.1, c_369 s (by omega) (by omega), cK_v, t_336_85 s, cw_ok (show gC hc 182 = 61 from ShC s (by decide)) (by decide), show gK hc 182 = 2000 from ShK s (by decide), gd_nI (by omega) (by decide), ix_nI (by omega)]
    have fd : Fr [] [182] hc (sB hc 182 (f + a) (shV kk x)) := Fr.rfl.sB (by decide)
    have fc : Fr KMc XMc hc (sB hc 182 (f + a) (shV kk x)) := Fr.rfl.sB (by decide)
    have frA : Fr [3723, 3724, 3733] [288] hr h2 := (f0.wk (fun _ q => q) (fun _ q => absurd q List.not_mem_nil)).trans (f2.wk (fun _ q => absurd q List.not_mem_nil) (fun _ q => q))
    refine StO.go rfl (stp1.of fd List.not_mem_nil) lp ⟨g.1.upd fc (frA.wk (by decide) (by decide)) ?_, by rw [fd.I List.not_mem_nil]; exact g.2.1, by rw [fd.I List.not_mem_nil]; exact g.2.2.1, by rw [f2.I List.not_mem_nil]; exact q0, by rw [f2.I List.not_mem_nil]; exact t0, by rw [frA.I (by decide)]; exact g.2.2.2.2.2.1, by rw [frA.I (by decide)]; exact g.2.2.2.2.2.2⟩ (HF.of frA (by decide))
    intro ty a1 a2 p1 p2 mk rf mm
    rw [hE2]
    exact ⟨ty, p1, p2, mk, (mm.frR f0 (by decide) (fun _ _ => List.not_mem_nil)).put ht k0 X0 ha (fun w => absurd w k8)⟩
  · have c3 := cfS_3 (k := kk) (z := nI z) (l := l) (b := false)
    have rf1 : Rf1 (fet hr p) (cfS kk (nI z) l false) (E (kn c 8 + 20) 152 [.ref 189, .int (nI 32), .int y] (fet hr p)) := by
      rw [eR, t_159_127 s1, if_neg (by rw [b3]; exact fun w => q ((nI_eq (by omega) (by decide)).mp w)), t_159_202 s1, cK_n, t_152_27 s1, t_152_65 s1]
      refine ⟨h1, rfl, ?_, b3⟩
      have : Fr [3723] [] (fet hr p) h0 := by rw [hE0]; exact ((Fr.rfl.sI (by decide)).sI (by decide)).sI (by decide)
      exact (this.wk (by decide) (fun _ q => absurd q List.not_mem_nil)).trans (b2.wk (by decide) (fun _ q => absurd q List.not_mem_nil))
    obtain ⟨hc4, z1, z2, z3⟩ := Dd.op K g h4 A rf1 (by omega) (Fr.rfl : Fr [1545] [] hc hc) (n := m) (by omega)
    rw [cm.2 q hc4 z3.shC z1, cK_v, t_336_60 z3.shC, if_pos rfl]
    exact StO.dd rfl (stp1.of z2 (by decide)) z3
end STB
