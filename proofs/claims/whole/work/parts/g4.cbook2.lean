/-! ===== book AS A CALL (component) ===== -/
/-- nothing has been taken in yet -/
def sE0 : St := (fun j => if j = 1 then 7 else 0, fun _ _ => 0, fun _ => none, fun _ => none, fun _ => 0, fun _ => [], fun _ => [], [], [])
theorem sE0_lX (r : Nat) : lX sE0 r = [] := by
  unfold lX
  split
  · rfl
  split
  · rfl
  split
  · rfl
  split
  · rfl
  · rfl
theorem WS.e0 (bk : Bk) : WS bk sE0 := by
  unfold WS
  refine ⟨by decide, by decide, by decide, fun i hi => absurd hi (Nat.not_lt_zero _), fun o => ⟨List.nodup_nil, fun i => ⟨fun q => absurd q List.not_mem_nil, fun q => absurd q.1 (Nat.not_lt_zero _)⟩⟩, fun o => ⟨List.nodup_nil, fun i => ⟨fun q => absurd q List.not_mem_nil, fun q => absurd q.1 (Nat.not_lt_zero _)⟩⟩, ⟨List.nodup_nil, fun i => ⟨fun q => absurd q List.not_mem_nil, fun q => absurd q.1 (Nat.not_lt_zero _)⟩⟩, fun t ht => absurd ht List.not_mem_nil, List.Pairwise.nil, fun i hi => absurd hi (Nat.not_lt_zero _), fun i hi => absurd hi (Nat.not_lt_zero _), by decide, List.Pairwise.nil, fun m hm => absurd hm List.not_mem_nil⟩
/-- the reference's state behind a book -/
theorem r_e0 {h : AH} (Z : RZ0 h) : RS1 h sE0 ∧ RS2 h sE0 ∧ RS3 h sE0 ∧ RS4 h sE0 := by
  obtain ⟨-, z2, z3, z4, z5, z6, z7, z8, z9, z10, -⟩ := Z
  refine ⟨⟨z4, z5, z6, z10, fun i hi => absurd hi (Nat.not_lt_zero _)⟩, ⟨fun o ho => ⟨z3 o ho, fun k hk => absurd hk (Nat.not_lt_zero _)⟩, fun c hc => ⟨z2 c hc, fun k hk => absurd hk (Nat.not_lt_zero _)⟩⟩, ⟨z8, fun t ht => absurd ht (Nat.not_lt_zero _)⟩, ⟨z7, fun k hk => absurd hk (Nat.not_lt_zero _)⟩⟩
theorem CB.cg9 {h : AH} {b : Nat} {bk : Bk} {G Cp G' Cp' : Nat → Nat → Nat} (B' : CB h b bk G Cp) (hG' : ∀ k, k ≠ 9 → G' k = G k) (hC' : ∀ k, k ≠ 9 → Cp' k = Cp k) : CB h b bk G' Cp' := by
  unfold CB at B' ⊢
  rw [hG' 0 (by decide), hG' 1 (by decide), hG' 2 (by decide), hG' 3 (by decide), hG' 5 (by decide), hG' 6 (by decide), hG' 7 (by decide), hG' 8 (by decide), hC' 8 (by decide), hG' 14 (by decide), hG' 15 (by decide), hG' 16 (by decide), hG' 10 (by decide), hG' 11 (by decide), hG' 12 (by decide), hG' 13 (by decide)]
  obtain ⟨b1, b2, b3, b4, b5, b6, b7, b8⟩ := B'
  refine ⟨b1, b2, fun j hj => ?_, b4, b5, b6, fun s hS => ?_, b8⟩
  · rw [hG' j (by omega)]; exact b3 j hj
  · obtain ⟨d1, d2, d3, d4, d5, d6, d7⟩ := b7 s hS
    refine ⟨d1, d2, d3, d4, d5, fun j hj => ?_, d7⟩
    rw [hG' (10 + j) (by omega)]; exact d6 j hj
/-- what is written as a book begins: besides the lists' cells these -/
abbrev BgI (k x : Nat) : Prop := (x = 164 ∨ x = 165) ∧ (k = 256 ∨ k = 258) ∨ x = 156 ∧ 2051 ≤ k ∧ k ≤ 2059
abbrev BgR (k x : Nat) : Prop := (x = 164 ∨ x = 165) ∧ k = 257 ∨ x = 156 ∧ k = 2048
section BEG
variable {d : Nat} {h : AH} {e0 c0 n0 e1 c1 n1 x : Nat} {f0 f1 g : Nat → Nat}
theorem c_begin (hs : Sh h) (w : HW h) (A0 : Ar h 164 e0 c0 n0 f0) (O0 : AO h 164 e0 c0) (A1 : Ar h 165 e1 c1 n1 f1) (O1 : AO h 165 e1 c1) (ne : e0 = e1 → e0 = 61) : ∃ h', E (d + 2) 196 [.ref 156, .ref x] h = some (none, h') ∧ Ar h' 164 e0 c0 0 g ∧ Ar h' 165 e1 c1 0 g ∧ GF BgI BgR (fun y => (y = e0 ∨ y = e1) ∧ 296 ≤ y) (fun _ => False) h h' ∧ Sh h' ∧ HW h' ∧ h'.1 = h.1 ∧ gR h' 2048 156 = some x ∧ gI h' 2051 156 = nI 0 ∧ gI h' 2052 156 = nI 7 ∧ gI h' 2055 156 = nI 0 ∧ gI h' 2059 156 = -1 := by
  have g296 := hs.2
  have hs1 : Sh (sR h 2048 156 (some x)) := hs.sR (Or.inr rfl)
  have G1 : GF BgI BgR (fun y => (y = e0 ∨ y = e1) ∧ 296 ≤ y) (fun _ => False) h (sR h 2048 156 (some x)) := GF.sR (Or.inr ⟨rfl, rfl⟩)
  have w1 : HW (sR h 2048 156 (some x)) := w
  have A0' : Ar (sR h 2048 156 (some x)) 164 e0 c0 n0 f0 := A0.gf w (GF.sR (mI := fun _ _ => False) (mR := fun k x => k = 2048) (mO := fun _ => False) (mA := fun _ => False) rfl) (fun q => q) (by decide) (fun q => q)
  have A1' : Ar (sR h 2048 156 (some x)) 165 e1 c1 n1 f1 := A1.gf w (GF.sR (mI := fun _ _ => False) (mR := fun k x => k = 2048) (mO := fun _ => False) (mA := fun _ => False) rfl) (fun q => q) (by decide) (fun q => q)
  obtain ⟨h2, a1, a2, a3, a4, a5, a6⟩ := al_clear (d := d) hs1 A0' O0 g
  have w2 : HW h2 := (E_mx a1).1 w1
  have A1'' : Ar h2 165 e1 c1 n1 f1 := A1'.gf w1 a3 (by omega) (by omega) (by omega)
  have O1' : AO h2 165 e1 c1 := by
    unfold AO at O1 ⊢
    rw [show gN h2 = gN h from a5]; exact O1
  obtain ⟨h3, b1, b2, b3, b4, b5, b6⟩ := al_clear (d := d) a4 A1'' O1' g
  have w3 : HW h3 := (E_mx b1).1 w2
  have A0'' : Ar h3 164 e0 c0 0 g := a2.gf w2 b3 (by omega) (by omega) (by omega)
  have z1 : h3.1 = h.1 := Prod.ext (b5.trans a5) (b6.trans a6)
  have lift : ∀ {l e : Nat} {u v : AH}, (l = 164 ∧ e = e0 ∨ l = 165 ∧ e = e1) → GF (lI l) (lR l) (fun y => y = e ∧ 296 ≤ e) (fun _ => False) u v → GF BgI BgR (fun y => (y = e0 ∨ y = e1) ∧ 296 ≤ y) (fun _ => False) u v := fun q gg => gg.wk (fun k x w => Or.inl ⟨by omega, w.2⟩) (fun k x w => Or.inl ⟨by omega, w.2⟩) (fun y w => ⟨by omega, by omega⟩) (fun _ w => w)
  have GG := (G1.trans (lift (Or.inl ⟨rfl, rfl⟩) a3)).trans (lift (Or.inr ⟨rfl, rfl⟩) b3)
  have r3 : gR h3 2048 156 = some x := by
    rw [b3.2.2.2.2.1 2048 156 (by rw [show gN h2 = gN h from a5]; omega) (by omega), a3.2.2.2.2.1 2048 156 (by show 156 < gN h; omega) (by omega)]
    exact gR_s
  refine ⟨sI (sI (sI (sI h3 2051 156 (nI 0)) 2052 156 (nI 7)) 2055 156 (nI 0)) 2059 156 (-1), ?_, ?_, ?_, (((GG.trans (GF.sI (Or.inr ⟨rfl, by decide, by decide⟩))).trans (GF.sI (Or.inr ⟨rfl, by decide, by decide⟩))).trans (GF.sI (Or.inr ⟨rfl, by decide, by decide⟩))).trans (GF.sI (Or.inr ⟨rfl, by decide, by decide⟩)), b4.sI.sI.sI.sI, w3, z1, r3, ?_, ?_, ?_, ?_⟩
  · rw [t_196 hs, a1, cK_n, t_196_12 a4, b1, cK_n, t_196_19 b4]
  · obtain ⟨q1, q2, q3, q4, q5, q6, q7, q8⟩ := A0''
    exact ⟨q1, q2, q3, q4, by rw [gI_k (by decide), gI_k (by decide), gI_k (by decide), gI_k (by decide)]; exact q5, q6, q7, q8⟩
  · obtain ⟨q1, q2, q3, q4, q5, q6, q7, q8⟩ := b2
    exact ⟨q1, q2, q3, q4, by rw [gI_k (by decide), gI_k (by decide), gI_k (by decide), gI_k (by decide)]; exact q5, q6, q7, q8⟩
  · rw [gI_k (by decide), gI_k (by decide), gI_k (by decide), gI_s]
  · rw [gI_k (by decide), gI_k (by decide), gI_s]
  · rw [gI_k (by decide), gI_s]
  · rw [gI_s]
end BEG
/-- Arrays.fill of a long array -/
theorem fillB_lp {d x n : Nat} {v : Int64} (hn : n < 2 ^ 31) (hx : 100 ≤ x) : ∀ (m i : Nat) (h : AH), i + m = n → Sh h → gC h x = 61 → gK h x = n → ∃ h', Q d 240 6 [some (.ref x), some (.long v), none, some (.int (nI i)), some (.int (nI n))] [] h = some (none, h') ∧ Fr [] [x] h h' ∧ (∀ j, i ≤ j → j < n → gB h' x j = v) ∧ ∀ j, j < i → gB h' x j = gB h x j
  | 0, i, h, e, hs, hc, hk => ⟨h, by rw [t_240_6 hs, if_neg (nI_nlt (by omega) (by omega))], Fr.rfl, fun j h1 h2 => by omega, fun _ _ => rfl⟩
  | m + 1, i, h, e, hs, hc, hk => by
    rw [t_240_6 hs, if_pos (nI_lt (by omega) (by omega)), cw_ok hc hx, hk, gd_nI (by omega) (by omega), nI_add, ix_nI (by omega)]
    obtain ⟨h', a1, a2, a3, a4⟩ := fillB_lp hn hx m (i + 1) (sB h x i v) (by omega) hs.sB hc hk
    refine ⟨h', a1, (Fr.rfl.sB (List.mem_singleton.mpr rfl)).trans a2, fun j h1 h2 => ?_, fun j hj => ?_⟩
    · by_cases q : j = i
      · rw [q, a4 i (by omega)]; exact up2_s
      · exact a3 j (by omega) h2
    · rw [a4 j (by omega)]; exact up2_x (by omega)
theorem fillB_ok {d x n : Nat} {v : Int64} {h : AH} (hs : Sh h) (hn : n < 2 ^ 31) (hx : 100 ≤ x) (hc : gC h x = 61) (hk : gK h x = n) : ∃ h', E (d + 1) 240 [.ref x, .long v] h = some (none, h') ∧ Fr [] [x] h h' ∧ ∀ j, j < n → gB h' x j = v := by
  obtain ⟨h', a1, a2, a3, -⟩ := fillB_lp (d := d) (v := v) hn hx n 0 h (by omega) hs hc hk
  exact ⟨h', by rw [t_240 hs, if_pos (by rw [hc]; decide), hk]; exact a1, a2, fun j hj => a3 j (by omega) hj⟩
theorem Sh.mch {h : AH} (hs : Sh h) : (gC h 176 = 61 ∧ gK h 176 = 10) ∧ (gC h 177 = 60 ∧ gK h 177 = 4) ∧ (gC h 178 = 60 ∧ gK h 178 = 12) := ⟨⟨by rw [ShC hs (by decide)]; rfl, by rw [ShK hs (by decide)]; rfl⟩, ⟨by rw [ShC hs (by decide)]; rfl, by rw [ShK hs (by decide)]; rfl⟩, ⟨by rw [ShC hs (by decide)]; rfl, by rw [ShK hs (by decide)]; rfl⟩⟩
abbrev KMb : List Nat := [1545, 1547, 1548, 1549, 1551, 1552]
/-- the component's machine as a run begins -/
def CZ (h : AH) : Prop := (∀ k, k < 10 → gB h 176 k = 0) ∧ (∀ k, k < 4 → gA h 177 k = -1) ∧ (∀ k, k < 12 → gA h 178 k = nI 0) ∧ gI h 1545 175 = nI 0 ∧ gI h 1547 175 = nI 0 ∧ gL h 1548 175 = 0 ∧ gI h 1549 175 = nI 0 ∧ gI h 1551 175 = nI 0 ∧ gI h 1552 175 = nI 0
theorem c_mbeg {d : Nat} {h : AH} (hs : Sh h) : ∃ h', E (d + 2) 197 [.ref 175] h = some (none, h') ∧ Fr KMb [176, 177, 178] h h' ∧ CZ h' := by
  obtain ⟨⟨m1, m2⟩, ⟨m3, m4⟩, ⟨m5, m6⟩⟩ := hs.mch
  obtain ⟨h1, a1, a2, a3⟩ := fillB_ok (d := d) (v := 0) hs (by decide) (by decide) m1 m2
  have s1 := a2.sh hs
  obtain ⟨h2, b1, b2, b3⟩ := fill_ok (d := d) (v := -1) s1 (by decide) (by decide) s1.mch.2.1.1 s1.mch.2.1.2
  have s2 := b2.sh s1
  obtain ⟨h3, c1, c2, c3⟩ := fill_ok (d := d) (v := nI 0) s2 (by decide) (by decide) s2.mch.2.2.1 s2.mch.2.2.2
  have s3 := c2.sh s2
  have F : Fr KMb [176, 177, 178] h h3 := ((a2.wk (by decide) (by decide)).trans (b2.wk (by decide) (by decide))).trans (c2.wk (by decide) (by decide))
  refine ⟨_, by rw [t_197 hs, a1, cK_n, t_197_8 s1, b1, cK_n, t_197_16 s2, c1, cK_n, t_197_24 s3], (((((F.sI (by decide)).sI (by decide)).sL (by decide)).sI (by decide)).sI (by decide)).sI (by decide), fun k hk => ?_, fun k hk => ?_, fun k hk => ?_, ?_, ?_, ?_, ?_, ?_, ?_⟩
  · show gB h3 176 k = 0
    rw [c2.B (by decide), b2.B (by decide)]; exact a3 k hk
  · show gA h3 177 k = -1
    rw [c2.A (by decide)]; exact b3 k hk
  · exact c3 k hk
  · rw [gI_k (by decide), gI_k (by decide), gI_k (by decide), gIL, gI_k (by decide), gI_s]
  · rw [gI_k (by decide), gI_k (by decide), gI_k (by decide), gIL, gI_s]
  · rw [gLI, gLI, gLI, gL_s]
  · rw [gI_k (by decide), gI_k (by decide), gI_s]
  · rw [gI_k (by decide), gI_s]
  · rw [gI_s]
/-- what a book changes: if it has a fault, if it has none -/
abbrev BkF (h h' : AH) : Prop := GF (fun k x => gN h ≤ x ∨ 3073 ≤ k ∧ k ≤ 3078 ∨ k = 519) (fun _ x => gN h ≤ x) (fun x => gN h ≤ x) (fun x => gN h ≤ x) h h'
abbrev BkO (h h' : AH) : Prop := GF (fun k x => gN h ≤ x ∨ 3073 ≤ k ∧ k ≤ 3078 ∨ k = 519 ∨ BgI k x ∨ 3334 ≤ k ∧ k ≤ 3337 ∨ 1545 ≤ k ∧ k ≤ 1552) (fun k x => gN h ≤ x ∨ BgR k x) (fun x => gN h ≤ x ∨ 296 ≤ x) (fun x => gN h ≤ x ∨ 176 ≤ x ∧ x ≤ 178) h h'
section CBO
variable {d : Nat} {h : AH} {t : Tp} {b : Nat} {bk : Bk} {s : St} {G Cp : Nat → Nat → Nat}
theorem c_book (C : CSt h b bk s G Cp) (K : KS h) (T : CT h t) (hc0 : Cp 9 0 ≤ 410 ∧ Cp 9 1 ≤ 410) (hbf : (bookS t).1 < 100000) : ∃ h', E (d + 14) 3 [.ref 100] h = some (some (.int (nI (bookS t).1)), h') ∧ CT h' (0, t.2) ∧ Sh h' ∧ HW h' ∧ gN h' ≤ gN h + 17 + 3 * t.1 ∧ gS h' ≤ gS h + 311 + 63 * t.1 ∧ ((bookS t).1 ≠ 0 → BkF h h') ∧
    ((bookS t).1 = 0 → BkO h h' ∧ WX (bookS t).2 ∧ CZ h' ∧ gI h' 3334 100 = nI 0 ∧ CF h' (-1) (-1) (-1) ∧ gI h' 2059 156 = -1 ∧ CS4 h' sE0 ∧ ∃ G' Cp', CSt h' (gN h) (bookS t).2 sE0 G' Cp' ∧ capB (bookS t).2 sE0 Cp' ∧ Cp' 9 0 = Cp 9 0 ∧ Cp' 9 1 = Cp 9 1) := by
  obtain ⟨hs, w, hb, B, C1, C2⟩ := C
  have g296 := hs.2
  obtain ⟨h1, h2, a1, a2, a3, a4, a5, a6, a7, ⟨kk, a8⟩, a9⟩ := c_newbk (d := d) hs w K T
  have s2 := a8.1
  have w2 := a8.2.1
  have sN : Sh (nwO h 2 9) := hs.nw
  have e0 : E (d + 14) 3 [.ref 100] h = Q (d + 13) 3 24 [some (.ref 100), some (.ref (gN h)), some (.int (nI (bookS t).1))] [] (sI h2 3073 101 (nI 0)) := by
    rw [t_3 hs, t_3_3 sN, a1, cK_n, t_3_11 a2, ck_ok a3, a4, cK_v, t_3_16 s2, t_195 s2, cK_n]
  have s3 : Sh (sI h2 3073 101 (nI 0)) := s2.sI
  have w3 : HW (sI h2 3073 101 (nI 0)) := w2
  have F3 : BkF h (sI h2 3073 101 (nI 0)) := (GF.wk a5 (fun k x q => by omega) (fun _ _ q => q) (fun _ q => q) (fun _ q => q) : BkF h h2).trans (GF.sI (by omega))
  have T3 : CT (sI h2 3073 101 (nI 0)) (0, t.2) := ⟨gI_s, Nat.zero_le _, fun i hi => absurd hi (Nat.not_lt_zero _)⟩
  have hb16 : (bookS t).1 < 2 ^ 31 := by
    by_cases q : (bookS t).1 = 0
    · rw [q]; decide
    · omega
  rw [e0, t_3_24 s3]
  simp only [show (nI (bookS t).1 = nI 0) = ((bookS t).1 = 0) from propext (nI_eq hb16 (by decide))]
  by_cases q : (bookS t).1 = 0
  · obtain ⟨X, k', G', Cp', R⟩ := a9 q
    obtain ⟨R1, R2, ⟨L1, L2, L3, L4⟩, -⟩ := R
    have l0 : lV bk 0 := Or.inl (by decide)
    have l1 : lV bk 1 := Or.inl (by decide)
    have eq0 : ∀ G : Nat → Nat → Nat, lo G 0 = 164 ∧ lo G 1 = 165 ∧ la G 0 = G 9 0 ∧ la G 1 = G 9 1 ∧ lc G 0 = G 9 0 ∧ lc G 1 = G 9 1 := fun G => ⟨rfl, rfl, rfl, rfl, rfl, rfl⟩
    have A0 := C2.2.2 0 l0 (Or.inl (by decide))
    have A1 := C2.2.2 1 l1 (Or.inl (by decide))
    obtain ⟨O0, -⟩ := C2.2.1 0 l0
    obtain ⟨O1, -⟩ := C2.2.1 1 l1
    rw [(eq0 G).1, (eq0 G).2.2.1, (eq0 Cp).2.2.2.2.1] at A0 O0
    rw [(eq0 G).2.1, (eq0 G).2.2.2.1, (eq0 Cp).2.2.2.2.2] at A1 O1
    have ne : G 9 0 = G 9 1 → G 9 0 = 61 := fun e => by
      have := (C2.1 0 1 l0 l1).2 e
      rcases this with v | v
      · omega
      · exact v
    have hlo : G 9 0 < gN h ∧ G 9 1 < gN h := ⟨A0.2.2.1 |> fun e => w.lt e (by decide), A1.2.2.1 |> fun e => w.lt e (by decide)⟩
    have A0' := A0.gf w F3 (by omega) (by omega) (by omega)
    have A1' := A1.gf w F3 (by omega) (by omega) (by omega)
    have up3 : gN h ≤ gN (sI h2 3073 101 (nI 0)) := F3.1.1
    obtain ⟨h4, b1, b2, b3, b4, b5, b6, b7, b8, b9, b10, b11, b12⟩ := c_begin (d := d + 11) (x := gN h) (g := fun _ => 0) s3 w3 A0' (O0.up up3) A1' (O1.up up3) ne
    obtain ⟨h5, c1, c2, c3⟩ := c_mbeg (d := d + 11) b5
    have s5 := c2.sh b5
    rw [if_pos q, b1, cK_n, t_3_36 b5, c1, cK_n, t_3_43 s5]
    obtain ⟨h6, h6E⟩ : ∃ h6, h6 = sI (sI (sI (sI h5 3334 100 (nI 0)) 3335 100 (-1)) 3336 100 (-1)) 3337 100 (-1) := ⟨_, rfl⟩
    rw [← h6E]
    have F56 : Fr [3334, 3335, 3336, 3337] [] h5 h6 := by rw [h6E]; exact (((Fr.rfl.sI (by decide)).sI (by decide)).sI (by decide)).sI (by decide)
    have F46 : Fr (KMb ++ [3334, 3335, 3336, 3337]) [176, 177, 178] h4 h6 := (c2.wk (by decide) (fun _ q => q)).trans (F56.wk (by decide) (by decide))
    have s6 := F46.sh b5
    have w6 := F46.hw b6
    have n4 : gN h4 = gN h2 := congrArg Prod.fst b7
    have z4 : gS h4 = gS h2 := congrArg Prod.snd b7
    obtain ⟨n6, z6⟩ := F46.ct
    have c100 : gN h ≥ 296 := g296
    have Fo : BkO h h6 := by
      have G1 : BkO h (sI h2 3073 101 (nI 0)) := GF.wk F3 (fun k x q => by omega) (fun k x q => Or.inl q) (fun x q => Or.inl q) (fun x q => Or.inl q)
      have G2 : BkO h h4 := G1.trans (GF.wk b4 (fun k x q => by omega) (fun k x q => Or.inr q) (fun x q => Or.inr q.2) (fun x q => q.elim))
      have G6 : GF (fun k _ => 3334 ≤ k ∧ k ≤ 3337 ∨ 1545 ≤ k ∧ k ≤ 1552) (fun _ _ => False) (fun _ => False) (fun x => 176 ≤ x ∧ x ≤ 178) h4 h6 := by
        have kk : ∀ k, k ∈ KMb ++ [3334, 3335, 3336, 3337] → 3334 ≤ k ∧ k ≤ 3337 ∨ 1545 ≤ k ∧ k ≤ 1552 := by decide
        have xx : ∀ x, x ∈ [176, 177, 178] → 176 ≤ x ∧ x ≤ 178 := by decide
        exact ⟨⟨by rw [n6]; exact Nat.le_refl _, by rw [z6]; exact Nat.le_refl _⟩, fun x _ => ⟨by rw [F46.2.1], by rw [F46.2.2.1]⟩, fun k x _ hk => by rw [F46.I fun m => hk (kk k m)], fun k x _ hk => by rw [F46.L fun m => hk (kk k m)], fun k x _ _ => by rw [F46.2.2.2.1], fun x _ hx => ⟨by rw [F46.A fun m => hx (xx x m)], by rw [F46.B fun m => hx (xx x m)]⟩, fun x _ _ => by rw [F46.2.2.2.2.1]⟩
      exact G2.trans (GF.wk G6 (fun k x q => by omega) (fun k x q => q.elim) (fun x q => q.elim) (fun x q => Or.inr q))
    obtain ⟨G2, hG2⟩ : ∃ G2 : Nat → Nat → Nat, G2 = fun k i => if k = 9 ∧ i < 2 then G 9 i else G' k i := ⟨_, rfl⟩
    obtain ⟨Cp2, hCp2⟩ : ∃ G2 : Nat → Nat → Nat, G2 = fun k i => if k = 9 ∧ i < 2 then Cp 9 i else if k = 9 ∧ ¬ (i < 6 ∨ 10 ≤ i ∧ i < 10 + (bookS t).2 0 0 ∨ 30 ≤ i ∧ i < 30 + (bookS t).2 0 3) then 0 else Cp' k i := ⟨_, rfl⟩
    have k2 : (∀ k, k ≠ 9 → G2 k = G' k) ∧ (∀ i, 2 ≤ i → G2 9 i = G' 9 i) ∧ G2 9 0 = G 9 0 ∧ G2 9 1 = G 9 1 := by
      rw [hG2]
      exact ⟨fun k q => funext fun i => if_neg fun z => q z.1, fun i q => if_neg fun z => by omega, rfl, rfl⟩
    have k3 : (∀ k, k ≠ 9 → Cp2 k = Cp' k) ∧ (∀ i, 2 ≤ i → lV (bookS t).2 i → Cp2 9 i = Cp' 9 i) ∧ Cp2 9 0 = Cp 9 0 ∧ Cp2 9 1 = Cp 9 1 := by
      rw [hCp2]
      exact ⟨fun k q => funext fun i => (if_neg fun z => q z.1).trans (if_neg fun z => q z.1), fun i q v => (if_neg fun z => by omega).trans (if_neg fun z => z.2 v), rfl, rfl⟩
    have k4 : ∀ i, 2 ≤ i → ¬ lV (bookS t).2 i → Cp2 9 i = 0 := fun i q v => by
      rw [hCp2]
      exact (if_neg fun z => by omega).trans (if_pos ⟨rfl, v⟩)
    have l2 : ∀ r, 2 ≤ r → lo G2 r = lo G' r ∧ la G2 r = la G' r ∧ (lV (bookS t).2 r → lc Cp2 r = lc Cp' r) := fun r hr => by
      unfold lo la lc
      rw [k2.1 7 (by decide), k2.1 5 (by decide), k2.1 6 (by decide), k2.1 8 (by decide), k2.2.1 r hr, k3.1 8 (by decide)]
      exact ⟨rfl, rfl, fun v => by rw [k3.2.1 r hr v]⟩
    have R24 : GF (fun k x => k = 3073 ∨ BgI k x) BgR (fun y => (y = G 9 0 ∨ y = G 9 1) ∧ 296 ≤ y) (fun _ => False) h2 h4 := (GF.sI (Or.inl rfl) : GF (fun k x => k = 3073 ∨ BgI k x) BgR (fun y => (y = G 9 0 ∨ y = G 9 1) ∧ 296 ≤ y) (fun _ => False) h2 (sI h2 3073 101 (nI 0))).trans (GF.wk b4 (fun k x q => Or.inr q) (fun _ _ q => q) (fun _ q => q) (fun _ q => q))
    have B2 : CB h2 (gN h) (bookS t).2 G' Cp' := R2
    have lok : ∀ r, 2 ≤ r → lV (bookS t).2 r → gN h ≤ lo G' r ∧ (la G' r = 61 ∨ gN h ≤ la G' r) := fun r hr hV => ⟨(L1 r hr hV).1, (L1 r hr hV).2.2⟩
    have lj : ∀ j, j < 4 → lo G' (2 + j) = G' 7 j ∧ la G' (2 + j) = G' 8 j ∧ lV (bookS t).2 (2 + j) := fun j hj => ⟨by
      unfold lo
      rw [if_neg (by omega), if_neg (by omega), if_pos (by omega), show 2 + j - 2 = j from by omega], by
      unfold la
      rw [if_pos (by omega), show 2 + j - 2 = j from by omega], Or.inl (by omega)⟩
    have B4 : CB h4 (gN h) (bookS t).2 G' Cp' := B2.gf w2 R24 (fun k hk x z => by
        have : ∀ k, k ∈ kI → k < 2051 ∨ 2059 < k ∧ k ≠ 3073 := by decide
        have u := this k hk
        have : ∀ k, k ∈ kI → k ≠ 256 ∧ k ≠ 258 := by decide
        have v := this k hk
        omega) (fun j hj => by
        obtain ⟨j1, j2, j3⟩ := lj j hj
        have u := lok (2 + j) (by omega) j3
        rw [j1, j2] at u
        exact ⟨fun z => by omega, fun z => by omega, fun z => by have z1 := z.1; have z2 := z.2; omega⟩) (fun k hk x z => by
        have : ∀ k, k ∈ kR → k ≠ 257 ∧ k ≠ 2048 := by decide
        have u := this k hk
        omega) (fun _ _ z => z)
    have B6 : CB h6 (gN h) (bookS t).2 G2 Cp2 := (B4.fr F46 (by decide) (by decide)).cg9 k2.1 k3.1
    have g246 : gN h ≤ gN h2 := by have := F3.1.1; exact this
    have T6 : CT h6 (0, t.2) := ⟨by
      rw [F46.I (by decide), b4.2.2.1 3073 101 (by rw [show gN (sI h2 3073 101 (nI 0)) = gN h2 from rfl]; omega) (by omega)]
      exact gI_s, Nat.zero_le _, fun i hi => absurd hi (Nat.not_lt_zero _)⟩
    have i6 : ∀ k, k ∈ [2051, 2052, 2055, 2059] → gI h6 k = gI h4 k := fun k hk => F46.I (by revert k; decide)
    have ar6 : ∀ {l e c n : Nat} {f : Nat → Nat}, Ar h4 l e c n f → Ar h6 l e c n f := fun A => by
      unfold Ar at A ⊢
      rw [F46.2.1, F46.2.2.2.1, F46.2.2.1, F46.2.2.2.2.1, F46.I (by decide)]
      exact A
    have up46 : gN h2 ≤ gN h6 := by omega
    have h01 : ∀ r, r < 2 → lo G2 r = 164 + r ∧ la G2 r = G 9 r ∧ lc Cp2 r = Cp 9 r ∧ G 9 r < gN h ∧ Cp 9 r ≤ 410 := fun r hr => by
      have : r = 0 ∨ r = 1 := by omega
      rcases this with z | z
      · subst z; exact ⟨rfl, k2.2.2.1, k3.2.2.1, hlo.1, hc0.1⟩
      · subst z; exact ⟨rfl, k2.2.2.2, k3.2.2.2, hlo.2, hc0.2⟩
    have dj : DJ (bookS t).2 G2 := fun r r' v v' => by
      by_cases u : r < 2
      · obtain ⟨p1, p2, -, p4, -⟩ := h01 r u
        by_cases u' : r' < 2
        · obtain ⟨p1', p2', -⟩ := h01 r' u'
          rw [p1, p1', p2, p2']
          refine ⟨fun z => by omega, fun z => ?_⟩
          have : r = r' ∨ r = 0 ∧ r' = 1 ∨ r = 1 ∧ r' = 0 := by omega
          rcases this with y | ⟨y, y'⟩ | ⟨y, y'⟩
          · exact Or.inl y
          · subst y y'; exact Or.inr (ne z)
          · subst y y'; exact Or.inr (z.trans (ne z.symm))
        · obtain ⟨m1, m2, -⟩ := l2 r' (by omega)
          obtain ⟨o1, o2⟩ := lok r' (by omega) v'
          rw [p1, p2, m1, m2]
          exact ⟨fun z => by omega, fun z => by omega⟩
      · obtain ⟨m1, m2, -⟩ := l2 r (by omega)
        obtain ⟨o1, o2⟩ := lok r (by omega) v
        by_cases u' : r' < 2
        · obtain ⟨p1, p2, -, p4, -⟩ := h01 r' u'
          rw [p1, p2, m1, m2]
          exact ⟨fun z => by omega, fun z => by omega⟩
        · obtain ⟨m1', m2', -⟩ := l2 r' (by omega)
          rw [m1, m2, m1', m2']
          exact L4 r r' (by omega) (by omega) v v'
    have g246 : gN h ≤ gN h2 := by have := F3.1.1; exact this
    refine ⟨h6, by rw [q], T6, s6, w6, by omega, by omega, fun z => absurd q z, fun _ => ⟨Fo, X, ?_, ?_, ⟨?_, ?_, ?_⟩, ?_, ⟨?_, fun i hi => absurd hi (Nat.not_lt_zero _)⟩, G2, Cp2, ⟨s6, w6, ?_, B6, ⟨?_, ?_, fun i j hi => absurd hi (Nat.not_lt_zero _), fun i hi => absurd hi (Nat.not_lt_zero _)⟩, dj, fun r hV => ?_, fun r hV h0 => ?_⟩, fun r hV h0 => ?_, k3.2.2.1, k3.2.2.2⟩⟩
    · obtain ⟨y1, y2, y3, y4, y5, y6, y7, y8, y9⟩ := c3
      exact ⟨fun k hk => by rw [F56.B (by decide)]; exact y1 k hk, fun k hk => by rw [F56.A (by decide)]; exact y2 k hk, fun k hk => by rw [F56.A (by decide)]; exact y3 k hk, by rw [F56.I (by decide)]; exact y4, by rw [F56.I (by decide)]; exact y5, by rw [F56.L (by decide)]; exact y6, by rw [F56.I (by decide)]; exact y7, by rw [F56.I (by decide)]; exact y8, by rw [F56.I (by decide)]; exact y9⟩
    · rw [h6E, gI_k (by decide), gI_k (by decide), gI_k (by decide), gI_s]
    · rw [h6E, gI_k (by decide), gI_k (by decide), gI_s]
    · rw [h6E, gI_k (by decide), gI_s]
    · rw [h6E, gI_s]
    · rw [i6 2059 (by decide)]; exact b12
    · rw [i6 2055 (by decide)]; exact b11
    · rw [F46.2.2.2.1]; exact b8
    · rw [i6 2051 (by decide)]; exact b9
    · rw [i6 2052 (by decide)]; exact b10
    · by_cases u : r < 2
      · obtain ⟨p1, p2, p3, -, p5⟩ := h01 r u
        rw [p1, p2, p3]
        refine ⟨?_, by omega⟩
        have : r = 0 ∨ r = 1 := by omega
        rcases this with z | z
        · subst z; exact O0.up (by omega)
        · subst z; exact O1.up (by omega)
      · obtain ⟨m1, m2, m3⟩ := l2 r (by omega)
        rw [m1, m2, m3 hV]
        refine ⟨(L1 r (by omega) hV).2.1.up up46, ?_⟩
        by_cases u2 : r < 10
        · have r6 : r < 6 := by unfold lV at hV; omega
          have := L2 (r - 2) (by omega)
          obtain ⟨⟨w1, w2', w3', w4', -⟩, -⟩ := X
          have e8 : lc Cp' r = Cp' 8 (r - 2) := by unfold lc; rw [if_pos (by omega)]
          have : (bookS t).2 0 (r - 2) ≤ 60 := by
            have : r = 2 ∨ r = 3 ∨ r = 4 ∨ r = 5 := by omega
            rcases this with z | z | z | z <;> subst z
            · show (bookS t).2 0 0 ≤ 60; omega
            · show (bookS t).2 0 1 ≤ 60; omega
            · show (bookS t).2 0 2 ≤ 60; omega
            · show (bookS t).2 0 3 ≤ 60; omega
          omega
        · have := (L3 r (by omega) hV).2.1
          have e9 : lc Cp' r = Cp' 9 r := by unfold lc; rw [if_neg (by omega)]
          omega
    · rw [sE0_lX r]
      by_cases u : r < 2
      · obtain ⟨p1, p2, p3, -, p5⟩ := h01 r u
        rw [p1, p2, p3]
        have : r = 0 ∨ r = 1 := by omega
        rcases this with z | z
        · subst z
          obtain ⟨q1, q2, q3, q4, q5, q6, q7, q8⟩ := ar6 b2
          exact ⟨q1, q2, q3, q4, q5, q6, q7, fun i hi => absurd hi (Nat.not_lt_zero _)⟩
        · subst z
          obtain ⟨q1, q2, q3, q4, q5, q6, q7, q8⟩ := ar6 b3
          exact ⟨q1, q2, q3, q4, q5, q6, q7, fun i hi => absurd hi (Nat.not_lt_zero _)⟩
      · obtain ⟨m1, m2, m3⟩ := l2 r (by omega)
        obtain ⟨y1, y2, y3⟩ := L3 r (by omega) hV
        have e9 : lc Cp' r = Cp' 9 r := by unfold lc; rw [if_neg (by omega)]
        have e9' : la G' r = G' 9 r := by unfold la; rw [if_neg (by omega)]
        rw [m1, m2, m3 hV, e9, e9', y1, y2]
        have o := (lok r (by omega) hV).1
        exact ar6 ((y3 _).gf w2 R24 (by omega) (by omega) (by omega))
    · by_cases u : r < 2
      · obtain ⟨p1, p2, p3, -, p5⟩ := h01 r u
        rw [p3]; unfold cbd; rw [if_pos u]; exact p5
      · obtain ⟨m1, m2, m3⟩ := l2 r (by omega)
        by_cases v : lV (bookS t).2 r
        · have := (L3 r (by omega) v).2.1
          have e9 : lc Cp' r = Cp' 9 r := by unfold lc; rw [if_neg (by omega)]
          rw [m3 v, e9, this]; exact Nat.zero_le _
        · have e9 : lc Cp2 r = Cp2 9 r := by unfold lc; rw [if_neg (by omega)]
          rw [e9, k4 r (by omega) v]; exact Nat.zero_le _
  · rw [if_neg q]
    exact ⟨_, rfl, T3, s3, w3, a6, a7, fun _ => F3, fun z => absurd z q⟩
end CBO
