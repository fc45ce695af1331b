/-! ===== AN ITEM IS TAKEN IN (component): takeIn ===== -/
abbrev AcF (N : Nat) (h h' : AH) : Prop := GF (fun k x => N ≤ x ∨ k ∈ KC) (fun k x => N ≤ x ∨ k = 257) (fun _ => True) (fun x => N ≤ x) h h'
section TKI
variable {d : Nat} {h : AH} {b : Nat} {bk : Bk} {G Cp : Nat → Nat → Nat} {s : St}
theorem CSt.g17 {v : Nat → Nat → Nat} (C : CSt h b bk s G Cp) (e : ∀ k, k ≠ 17 → v k = G k) : CSt h b bk s v Cp := by
  obtain ⟨c1, c2, c3, c4, c5, e1, e2, e3⟩ := C
  have hlo : lo v = lo G := by
    funext r; unfold lo; rw [e 7 (by decide), e 5 (by decide), e 6 (by decide)]
  have hla : la v = la G := by
    funext r; unfold la; rw [e 8 (by decide), e 9 (by decide)]
  refine ⟨c1, c2, c3, ?_, ?_, ?_, fun r hr => by rw [hlo, hla]; exact e2 r hr, fun r hr h0 => by rw [hlo, hla, e 4 (by decide)]; exact e3 r hr h0⟩
  · unfold CB at c4 ⊢
    rw [e 0 (by decide), e 1 (by decide), e 2 (by decide), e 3 (by decide), e 5 (by decide), e 6 (by decide), e 7 (by decide), e 8 (by decide), e 14 (by decide), e 15 (by decide), e 16 (by decide), e 10 (by decide), e 11 (by decide), e 12 (by decide), e 13 (by decide)]
    obtain ⟨b1, b2, b3, b4, b5, b6, b7, b8⟩ := c4
    refine ⟨b1, b2, fun j hj => ?_, b4, b5, b6, fun s hS => ?_, b8⟩
    · rw [e j (by omega)]; exact b3 j hj
    · obtain ⟨d1, d2, d3, d4, d5, d6, d7⟩ := b7 s hS
      refine ⟨d1, d2, d3, d4, d5, fun j hj => ?_, d7⟩
      rw [e (10 + j) (by omega)]; exact d6 j hj
  · unfold CS1 at c5 ⊢
    rw [e 4 (by decide)]; exact c5
  · unfold DJ at e1 ⊢
    rw [hlo, hla]; exact e1
theorem lX_ac {sv wt f p dr : Nat} {pr : Int32} {r : Nat} (hr : r ≠ 0) : lX (acS0 bk s sv wt f p dr pr) r = lX s r := by
  unfold lX
  rw [if_neg hr, if_neg hr]
  rfl
theorem WI.ac {sv wt f p dr : Nat} {pr : Int32} {l : List Nat} (w : WS bk s) (hS : sv < bk 0 2) (hf : f < bk 0 0) (hp : p < bk 0 1) (hz : zN s 2 < 200) : WI bk (stH (acS0 bk s sv wt f p dr pr) f l) := by
  refine ⟨show zN s 2 + 1 ≤ 200 by omega, w.2.1, w.2.2.1, fun i hi => ?_⟩
  have hi : i < zN s 2 + 1 := hi
  show acN bk s sv wt f p dr 0 i < _ ∧ acN bk s sv wt f p dr 2 i < _ ∧ ∀ q, up1 (iP s) (zN s 2) (some p) i = some q → q < bk 0 1
  unfold acN
  by_cases e : i = zN s 2
  · subst e
    rw [if_pos rfl, if_pos rfl, up1_s]
    exact ⟨hS, hf, fun q hq => by cases hq; exact hp⟩
  · rw [if_neg e, if_neg e, up1_x e]
    obtain ⟨a, -, -, b', -, -, -, -, -, -, -, c, -⟩ := w.2.2.2.1 i (by omega)
    exact ⟨a, b', c⟩
theorem c_takeIn (W : WB bk) (C : CSt h b bk s G Cp) (w : WS bk s) (hcb : capB bk s Cp) (K : KS h) (C5 : CS5 h s G) {sv wt f p dr : Nat} (hS : sv < bk 0 2) (hw1 : 1 ≤ wt) (hw2 : wt ≤ 4000) (hf : f < bk 0 0) (hp : p < bk 0 1) (hz : zN s 2 < 200) : ∃ h' G' Cp', E (d + 9) 222 [.ref 156, .int (nI sv), .int (nI wt), .int (nI f), .int (nI p), .int (nI dr)] h = some (some (.int (nI (zN s 2))), h') ∧ CSt h' b bk (acS bk s sv wt f p dr (prA bk sv (nI wt) f (bk 9 p))) G' Cp' ∧ capB bk (acS bk s sv wt f p dr (prA bk sv (nI wt) f (bk 9 p))) Cp' ∧ CS5 h' (acS bk s sv wt f p dr (prA bk sv (nI wt) f (bk 9 p))) G' ∧ AcF (gN h) h h' ∧ gS h' + 4 * csm Cp 70 ≤ gS h + 54 + 4 * csm Cp' 70 ∧ gN h' + csm Cp 70 ≤ gN h + 8 + csm Cp' 70 ∧ csm Cp 70 ≤ csm Cp' 70 ∧ kcL Cp' = kcL Cp := by
  obtain ⟨pr, prE⟩ : ∃ pr, pr = prA bk sv (nI wt) f (bk 9 p) := ⟨_, rfl⟩
  rw [← prE]
  have hs := C.1
  have w0 := C.2.1
  have g296 := hs.2
  have wb0 := W.1.1
  have wb1 := W.1.2.1
  have wb2 := W.1.2.2.1
  have wbp := W.2.2.2.1 p hp
  have wb9 : bk 9 p < bk 0 0 := wbp.2.2.1
  have wbo := W.2.1 _ wb9
  obtain ⟨x, xE⟩ : ∃ x, x = gN h := ⟨_, rfl⟩
  obtain ⟨z, zE⟩ : ∃ z, z = zN s 2 := ⟨_, rfl⟩
  -- the item
  have B := C.2.2.2.1
  have hb := C.2.2.1
  obtain ⟨pv2, qv2⟩ := B.2.2.1 2 (by decide)
  have bs := B.2.2.2.2.2.2.1 sv hS
  obtain ⟨h1, h1E⟩ : ∃ g, g = nwO h 5 15 := ⟨_, rfl⟩
  have N1 : NFr (gN h) h h1 := by rw [h1E]; exact NFr.rfl.nw
  have s1 : Sh h1 := by rw [h1E]; exact hs.nw
  have W1 : HW h1 := by rw [h1E]; exact HW.nw w0
  have C1 := C.nf N1 s1 W1
  have gx1 : gC h1 x = 5 := by rw [h1E, xE]; exact nw_C0
  have A1 := C1.2.2.2.2.2.2.2 0 (Or.inl (by decide)) (Or.inl (by decide))
  have A1 : Ar h1 164 (la G 0) (lc Cp 0) (lX s 0).length (fun k => G 4 ((lX s 0).getD k 0)) := A1
  have lX0 : (lX s 0).length = z := by rw [zE]; exact List.length_range
  rw [lX0] at A1
  obtain ⟨y, yE⟩ : ∃ y, y = gN h + 1 := ⟨_, rfl⟩
  obtain ⟨h2, h2E⟩ : ∃ g, g = nwA (sI (sI (sI (sI (sI h1 1280 x (nI z)) 1281 x (nI sv)) 1284 x (nI (bk 18 sv))) 1282 x (nI wt)) 1283 x (nI f)) 60 11 := ⟨_, rfl⟩
  have xN : gN h ≤ x := by omega
  have n1 : gN h1 = gN h + 1 := by rw [h1E]; rfl
  have N2 : NFr (gN h) h h2 := by rw [h2E]; exact (((((N1.sI xN).sI xN).sI xN).sI xN).sI xN).nw
  have s2 : Sh h2 := by rw [h2E]; exact s1.sI.sI.sI.sI.sI.nw
  have W2 : HW h2 := by rw [h2E]; exact HW.nw (h := sI (sI (sI (sI (sI h1 1280 x (nI z)) 1281 x (nI sv)) 1284 x (nI (bk 18 sv))) 1282 x (nI wt)) 1283 x (nI f)) W1
  have gx2 : gC h2 x = 5 := by rw [h2E]; exact (nw_C (by show x ≠ gN h1; omega)).trans gx1
  have gy2 : gC h2 y = 60 ∧ gK h2 y = 11 ∧ gA h2 y = fun _ => 0 := by
    rw [h2E, show y = gN (sI (sI (sI (sI (sI h1 1280 x (nI z)) 1281 x (nI sv)) 1284 x (nI (bk 18 sv))) 1282 x (nI wt)) 1283 x (nI f)) from (by show y = gN h1; omega)]
    exact ⟨nw_C0, nw_K0, nw_A0⟩
  have n2 : gN h2 = gN h + 2 := by rw [h2E]; show gN h1 + 1 = _; omega
  have i2 : ∀ k, gI h2 k x = gI (sI (sI (sI (sI (sI h1 1280 x (nI z)) 1281 x (nI sv)) 1284 x (nI (bk 18 sv))) 1282 x (nI wt)) 1283 x (nI f)) k x := fun k => by rw [h2E]; exact nw_I (by show x ≠ gN h1; omega)
  obtain ⟨h5, h5E⟩ : ∃ g, g = sI (sI (sI (sI (sR h2 1285 x (some y)) 1290 x (-1)) 1286 x (nI p)) 1287 x (nI dr)) 1291 x pr := ⟨_, rfl⟩
  obtain ⟨h4, h4E⟩ : ∃ g, g = sI (sI (sI (sR h2 1285 x (some y)) 1290 x (-1)) 1286 x (nI p)) 1287 x (nI dr) := ⟨_, rfl⟩
  have h54 : h5 = sI h4 1291 x pr := by rw [h5E, h4E]
  have N4 : NFr (gN h) h h4 := by rw [h4E]; exact (((N2.sR xN).sI xN).sI xN).sI xN
  have s4 : Sh h4 := by rw [h4E]; exact (s2.sR (Or.inl (inS_ge (by omega)))).sI.sI.sI
  have W4 : HW h4 := by rw [h4E]; exact W2
  have N5 : NFr (gN h) h h5 := by rw [h54]; exact N4.sI xN
  have s5 : Sh h5 := by rw [h54]; exact s4.sI
  have W5 : HW h5 := by rw [h54]; exact W4
  have C4 := C.nf N4 s4 W4
  have C5' := C.nf N5 s5 W5
  have gx4 : gC h4 x = 5 := by rw [h4E]; exact gx2
  have gx5 : gC h5 x = 5 := by rw [h54]; exact gx4
  have n5 : gN h5 = gN h + 2 := by rw [h54, h4E]; exact n2
  have z5 : gS h5 = gS h + 26 := by rw [h54, h4E, h2E, h1E]; rfl
  have r5 : gR h5 1285 x = some y := by rw [h54, h4E]; exact gR_s
  have y5 : gC h5 y = 60 ∧ gK h5 y = 11 ∧ gA h5 y = fun _ => 0 := by rw [h54, h4E]; exact gy2
  have I5 : gI h5 1280 x = nI z ∧ gI h5 1281 x = nI sv ∧ gI h5 1282 x = nI wt ∧ gI h5 1283 x = nI f ∧ gI h5 1284 x = nI (bk 18 sv) ∧ gI h5 1286 x = nI p ∧ gI h5 1287 x = nI dr ∧ gI h5 1291 x = pr ∧ gI h5 1292 x = nI 0 := by
    rw [h5E]
    refine ⟨?_, ?_, ?_, ?_, ?_, ?_, ?_, ?_, ?_⟩
    · rw [gI_k (by decide), gI_k (by decide), gI_k (by decide), gI_k (by decide), gIR, i2, gI_k (by decide), gI_k (by decide), gI_k (by decide), gI_k (by decide), gI_s]
    · rw [gI_k (by decide), gI_k (by decide), gI_k (by decide), gI_k (by decide), gIR, i2, gI_k (by decide), gI_k (by decide), gI_k (by decide), gI_s]
    · rw [gI_k (by decide), gI_k (by decide), gI_k (by decide), gI_k (by decide), gIR, i2, gI_k (by decide), gI_s]
    · rw [gI_k (by decide), gI_k (by decide), gI_k (by decide), gI_k (by decide), gIR, i2, gI_s]
    · rw [gI_k (by decide), gI_k (by decide), gI_k (by decide), gI_k (by decide), gIR, i2, gI_k (by decide), gI_k (by decide), gI_s]
    · rw [gI_k (by decide), gI_k (by decide), gI_s]
    · rw [gI_k (by decide), gI_s]
    · rw [gI_s]
    · rw [gI_k (by decide), gI_k (by decide), gI_k (by decide), gI_k (by decide), gIR, i2, gI_k (by decide), gI_k (by decide), gI_k (by decide), gI_k (by decide), gI_k (by decide), h1E, xE]; exact nw_I0
  have I4 : gI h4 1286 x = nI p := by rw [h4E, gI_k (by decide), gI_s]
  obtain ⟨p41, q41⟩ := C4.2.2.2.1.2.2.1 1 (by decide)
  have bp4 := C4.2.2.2.1.2.2.2.2.2.1 p hp
  have B4 := C4.2.2.2.1
  have hb4 := C4.2.2.1
  have goal4 : E (d + 8) 254 [.ref 156, .ref x] h4 = some (some (.int (nI (bk 9 p))), h4) := by
    rw [t_254 s4, hb4, Option.bind_some, ck_ok gx4, ck_ok B4.1, I4, (c_has s4 W B4 _).2.1, cK_v, t_254_11 s4, hb1_s (hv_N hp (by omega)), if_neg (by decide), hb4, Option.bind_some, ck_ok B4.1, p41, Option.bind_some, ck_ok gx4, I4, ck_ok q41.1, al_get s4 q41 hp, cK_v, t_254_28 s4, ck_ok bp4.1, ck_ok bp4.1, bp4.2.1]
  have price4 : E (d + 8) 219 [.ref b, .int (nI sv), .int (nI wt), .int (nI f), .int (nI (bk 9 p))] h4 = some (some (.int pr), h4) := by
    rw [prE]; exact c_priceOf (d := d + 3) s4 W B4 hS hf wb9 (nI wt)
  have B5 := C5'.2.2.2.1
  have hb5 := C5'.2.2.1
  obtain ⟨p50, q50⟩ := B5.2.2.1 0 (by decide)
  have bo5 := B5.2.2.2.2.1 _ wb9
  -- its signs
  obtain ⟨h6, T, b1, b2, b3, b4, b5, b6, b7, b8, b9, b10⟩ := c_setS (d := d + 4) (S := sgB (acS0 bk s sv wt f p dr pr) z) s5 W5 (K.nf N5 (by omega) (by omega)) gx5 r5 (by omega) y5.1 y5.2.1 (fun p _ => by rw [y5.2.2]) I5.2.1 I5.1 I5.2.2.1 (by omega) (by omega) hw2 (cd := bk 2 (bk 9 p)) wbo.2.2.2.1
    (by show acN bk s sv wt f p dr 0 z = sv; unfold acN; rw [if_pos zE]; rfl) (by show acN bk s sv wt f p dr 3 z / 64 = _; unfold acN; rw [if_pos zE]; rfl) (by show acN bk s sv wt f p dr 3 z % 64 = _; unfold acN; rw [if_pos zE]; rfl) rfl rfl (by show acN bk s sv wt f p dr 1 z / 64 = _; unfold acN; rw [if_pos zE]; rfl) (by show acN bk s sv wt f p dr 1 z % 64 = _; unfold acN; rw [if_pos zE]; rfl) (fun q hq => by
      match q, hq with
      | q + 7, _ => rfl)
  have N6 : NFr (gN h) h h6 := N5.trans (GF.wk b2 (fun k q e => by omega) (fun k q e => by omega) (fun q e => by omega) (fun q e => by omega))
  have xN5 : x < gN h5 := by omega
  have gx6 : gC h6 x = 5 := by rw [(b2.2.1 x xN5).1]; exact gx5
  have I6 : ∀ k, gI h6 k x = gI h5 k x := fun k => (b4 k x xN5).1
  have C6 := C.nf N6 b5 b6
  obtain ⟨h7, h7E⟩ : ∃ g, g = sI (sI (sI (sI h6 1288 x (nI 0)) 1289 x (nI f)) 1290 x (-1)) 1293 x (nI (zN s 0)) := ⟨_, rfl⟩
  have N7 : NFr (gN h) h h7 := by rw [h7E]; exact (((N6.sI xN).sI xN).sI xN).sI xN
  have s7 : Sh h7 := by rw [h7E]; exact b5.sI.sI.sI.sI
  have W7 : HW h7 := by rw [h7E]; exact b6
  have C7 := (C.nf N7 s7 W7).g4 (x := x) w
  have C57 := C5.nf C.2.2.2.2.1 w0 N7
  have I7 : gI h7 1280 x = nI z ∧ gI h7 1281 x = nI sv ∧ gI h7 1282 x = nI wt ∧ gI h7 1283 x = nI f ∧ gI h7 1284 x = nI (bk 18 sv) ∧ gI h7 1286 x = nI p ∧ gI h7 1287 x = nI dr ∧ gI h7 1288 x = nI 0 ∧ gI h7 1289 x = nI f ∧ gI h7 1290 x = -1 ∧ gI h7 1291 x = pr ∧ gI h7 1292 x = nI 0 ∧ gI h7 1293 x = nI (zN s 0) := by
    obtain ⟨u1, u2, u3, u4, u5, u6, u7, u8, u9⟩ := I5
    rw [h7E]
    refine ⟨?_, ?_, ?_, ?_, ?_, ?_, ?_, ?_, ?_, ?_, ?_, ?_, ?_⟩
    · rw [gI_k (by decide), gI_k (by decide), gI_k (by decide), gI_k (by decide), I6]; exact u1
    · rw [gI_k (by decide), gI_k (by decide), gI_k (by decide), gI_k (by decide), I6]; exact u2
    · rw [gI_k (by decide), gI_k (by decide), gI_k (by decide), gI_k (by decide), I6]; exact u3
    · rw [gI_k (by decide), gI_k (by decide), gI_k (by decide), gI_k (by decide), I6]; exact u4
    · rw [gI_k (by decide), gI_k (by decide), gI_k (by decide), gI_k (by decide), I6]; exact u5
    · rw [gI_k (by decide), gI_k (by decide), gI_k (by decide), gI_k (by decide), I6]; exact u6
    · rw [gI_k (by decide), gI_k (by decide), gI_k (by decide), gI_k (by decide), I6]; exact u7
    · rw [gI_k (by decide), gI_k (by decide), gI_k (by decide), gI_s]
    · rw [gI_k (by decide), gI_k (by decide), gI_s]
    · rw [gI_k (by decide), gI_s]
    · rw [gI_k (by decide), gI_k (by decide), gI_k (by decide), gI_k (by decide), I6]; exact u8
    · rw [gI_k (by decide), gI_k (by decide), gI_k (by decide), gI_k (by decide), I6]; exact u9
    · rw [gI_s]
  have n7 : gN h7 = gN h + 8 := by rw [h7E]; show gN h6 = _; omega
  have z7 : gS h7 = gS h + 54 := by rw [h7E]; show gS h6 = _; omega
  have gx7 : gC h7 x = 5 := by rw [h7E]; exact gx6
  -- into the list of all items
  obtain ⟨G1, G1E⟩ : ∃ g, g = up2 G 4 (zN s 2) x := ⟨_, rfl⟩
  rw [← G1E] at C7
  have g1k : ∀ k, k ≠ 4 → G1 k = G k := fun k q => by rw [G1E]; exact up2_k q
  have g1o : ∀ i, i ≠ z → G1 4 i = G 4 i := fun i q => by rw [G1E]; exact up2_x (by omega)
  have g1z : G1 4 z = x := by rw [G1E, zE]; exact up2_s
  have A7 := C7.2.2.2.2.2.2.2 0 (Or.inl (by decide)) (Or.inl (by decide))
  obtain ⟨O7, c7⟩ := C7.2.2.2.2.2.2.1 0 (Or.inl (by decide))
  rw [lX0] at A7
  have A7 : Ar h7 164 (la G1 0) (lc Cp 0) z (fun k => G1 4 ((lX s 0).getD k 0)) := A7
  have O7 : AO h7 164 (la G1 0) (lc Cp 0) := O7
  obtain ⟨h8, e8, cap8, a1, a2, a3, a4, a5, a6⟩ := al_add (d := d + 1) s7 A7 O7 c7 (x := x) (by rw [gx7]; decide) (by omega)
  have W8 : HW h8 := (E_mx a1).1 W7
  have cb0 := hcb 0 (by decide) (Or.inl (by decide))
  have cbd0 : cbd (zN s 2) 0 = 410 := rfl
  have wz := w.1
  have key : cap8 ≤ 410 ∧ lc Cp 0 ≤ cap8 ∧ gS h8 + 4 * lc Cp 0 ≤ gS h7 + 4 * cap8 ∧ gN h8 + lc Cp 0 ≤ gN h7 + cap8 ∧ (e8 = la G1 0 ∨ gN h7 ≤ e8) := by
    rcases a6 with ⟨q1, q2, q3, q4, q5⟩ | ⟨q1, q2, q3, q4, q5⟩
    · exact ⟨by omega, by omega, by omega, by omega, Or.inl q2⟩
    · have : ncap (lc Cp 0) = 10 ∧ lc Cp 0 = 0 ∨ ncap (lc Cp 0) = lc Cp 0 + lc Cp 0 / 2 ∧ lc Cp 0 ≠ 0 := by
        unfold ncap
        by_cases q : lc Cp 0 = 0
        · exact Or.inl ⟨if_pos q, q⟩
        · exact Or.inr ⟨if_neg q, q⟩
      have o2 := O7.2.1
      exact ⟨by omega, by omega, by omega, by omega, Or.inr (by omega)⟩
  obtain ⟨k1, k2, k3, k4, k5⟩ := key
  obtain ⟨u1, u2⟩ := up9_c (Cp := Cp) (c := cap8) (r0 := 0) (Or.inl (by decide))
  have lX0' : lX (acS0 bk s sv wt f p dr pr) 0 = List.range (z + 1) := by rw [zE]; rfl
  have A8 : Ar h8 164 e8 cap8 (lX (acS0 bk s sv wt f p dr pr) 0).length (fun k => G1 4 ((lX (acS0 bk s sv wt f p dr pr) 0).getD k 0)) := by
    rw [lX0', List.length_range]
    obtain ⟨q1, q2, q3, q4, q5, q6, q7, q8⟩ := a2
    refine ⟨q1, q2, q3, q4, q5, q6, q7, fun k hk => ?_⟩
    rw [q8 k hk]
    have gr : ∀ m, k < m → (List.range m).getD k 0 = k := fun m hm => by
      rw [List.getD_eq_getElem?_getD, List.getElem?_range hm]; rfl
    dsimp only
    rw [gr _ hk]
    by_cases q : k = z
    · rw [q, up1_s, g1z]
    · rw [up1_x q]
      have : (lX s 0).getD k 0 = k := by
        show (List.range (zN s 2)).getD k 0 = k
        exact gr _ (by omega)
      rw [this]
  have ol : ∀ k q, q < gN h7 → k ≠ 256 → k ≠ 258 → gI h8 k q = gI h7 k q := fun k q hq e1 e2 => a4.2.2.1 k q hq (fun e => by omega)
  have C8 : CSt h8 b bk (acS0 bk s sv wt f p dr pr) (up9 G1 0 e8) (up9 Cp 0 cap8) := by
    refine C7.one (r0 := 0) (Or.inl (by decide)) (Or.inl (by decide)) up9_o ⟨up9_s, up9_s⟩ a4 a5 W8 A8 a3 (by omega) k5 (fun r hr => lX_ac hr) fun D => ?_
    obtain ⟨d1, d2, d3, d4⟩ := D
    have g9 : up9 G1 0 e8 4 = G1 4 := funext fun j => (up9_o (G := G1) (Cp := G1) (e := e8) (c := e8) 4 j (by omega)).1
    unfold CS1
    rw [g9]
    refine ⟨d1, d2, fun i j hi hj e => ?_, fun i hi => ?_⟩
    · have hi : i < zN s 2 + 1 := hi
      have hj : j < zN s 2 + 1 := hj
      have ne : ∀ i, i < zN s 2 → G1 4 i ≠ x := fun i hi e => by
        have h1 := (C.2.2.2.2.1.2.2.2 i hi).2.1
        rw [g1o i (by omega)] at e
        omega
      by_cases q1 : i = z
      · by_cases q2 : j = z
        · omega
        · rw [q1, g1z] at e
          exact absurd e.symm (ne j (by omega))
      · by_cases q2 : j = z
        · rw [q2, g1z] at e
          exact absurd e (ne i (by omega))
        · exact d3 i j (by omega) (by omega) e
    · have hi : i < zN s 2 + 1 := hi
      show gC h8 (G1 4 i) = 5 ∧ G1 4 i < gN h8 ∧ gI h8 1280 (G1 4 i) = nI i ∧ gI h8 1281 (G1 4 i) = nI (acN bk s sv wt f p dr 0 i) ∧ gI h8 1282 (G1 4 i) = nI (acN bk s sv wt f p dr 1 i) ∧ gI h8 1283 (G1 4 i) = nI (acN bk s sv wt f p dr 2 i) ∧ gI h8 1284 (G1 4 i) = nI (bk 18 (acN bk s sv wt f p dr 0 i)) ∧ gI h8 1286 (G1 4 i) = oI (up1 (iP s) (zN s 2) (some p) i) ∧ gI h8 1287 (G1 4 i) = nI (acN bk s sv wt f p dr 4 i) ∧ gI h8 1288 (G1 4 i) = nI (acN bk s sv wt f p dr 5 i) ∧ gI h8 1289 (G1 4 i) = nI (acN bk s sv wt f p dr 6 i) ∧ gI h8 1290 (G1 4 i) = oI (up1 (iC s) (zN s 2) none i) ∧ gI h8 1291 (G1 4 i) = up1 (iM s) (zN s 2) pr i ∧ gI h8 1292 (G1 4 i) = nI (acN bk s sv wt f p dr 7 i) ∧ gI h8 1293 (G1 4 i) = nI (acN bk s sv wt f p dr 8 i) ∧ (acN bk s sv wt f p dr 5 i = 2 → gI h8 1294 (G1 4 i) = nI (acN bk s sv wt f p dr 9 i))
      by_cases q : i = z
      · subst q
        unfold acN
        rw [if_pos zE, if_pos zE, if_pos zE, if_pos zE, if_pos zE, if_pos zE, if_pos zE, if_pos zE, if_pos zE, ← zE, up1_s, up1_s, up1_s, g1z]
        have xl : x < gN h7 := by omega
        rw [ol _ _ xl (by decide) (by decide), ol _ _ xl (by decide) (by decide), ol _ _ xl (by decide) (by decide), ol _ _ xl (by decide) (by decide), ol _ _ xl (by decide) (by decide), ol _ _ xl (by decide) (by decide), ol _ _ xl (by decide) (by decide), ol _ _ xl (by decide) (by decide), ol _ _ xl (by decide) (by decide), ol _ _ xl (by decide) (by decide), ol _ _ xl (by decide) (by decide), ol _ _ xl (by decide) (by decide), ol _ _ xl (by decide) (by decide)]
        obtain ⟨v1, v2, v3, v4, v5, v6, v7, v8, v9, v10, v11, v12, v13⟩ := I7
        exact ⟨by rw [(a4.2.1 x xl).1]; exact gx7, Nat.lt_of_lt_of_le xl a4.1.1, v1, v2, v3, v4, v5, v6, v7, v8, v9, v10, v11, v12, v13, fun e => absurd (show (0 : Nat) = 2 from e) (by decide)⟩
      · have hi' : i < zN s 2 := by omega
        unfold acN
        rw [if_neg (by omega), if_neg (by omega), if_neg (by omega), if_neg (by omega), if_neg (by omega), if_neg (by omega), if_neg (by omega), if_neg (by omega), if_neg (by omega), up1_x (by omega), up1_x (by omega), up1_x (by omega)]
        have := d4 i hi'
        exact this
  obtain ⟨G2, G2E⟩ : ∃ g, g = up9 G1 0 e8 := ⟨_, rfl⟩
  obtain ⟨Cp2, Cp2E⟩ : ∃ g, g = up9 Cp 0 cap8 := ⟨_, rfl⟩
  rw [← G2E, ← Cp2E] at C8
  have cb8 : capB bk (acS0 bk s sv wt f p dr pr) Cp2 := fun r r1 r2 => by
    show lc Cp2 r ≤ cbd (zN s 2 + 1) r
    by_cases q : r = 0
    · rw [q, Cp2E, u2]; exact k1
    · rw [Cp2E, u1 r q]
      have := hcb r r1 r2
      unfold cbd at this ⊢
      split <;> rename_i hh
      · rw [if_pos hh] at this; exact this
      · rw [if_neg hh] at this; omega
  have cs8 := csm_up (Cp := Cp) (Cp' := Cp2) (r0 := 0) (by rw [Cp2E]; exact u1) (by rw [Cp2E, u2]; exact k2) 70
  have cs8' := cs8.2 (by decide)
  rw [show lc Cp2 0 = cap8 from by rw [Cp2E]; exact u2] at cs8'
  -- onto the shelf
  have hs8 := C8.1
  have B8 := C8.2.2.2.1
  have hb8 := C8.2.2.1
  obtain ⟨p80, q80⟩ := B8.2.2.1 0 (by decide)
  have bo8 := B8.2.2.2.2.1 f hf
  have g24 : G2 4 z = x := by
    rw [G2E, (up9_o (G := G1) (Cp := G1) (e := e8) (c := e8) 4 z (by omega)).1]; exact g1z
  have lsh : lX (acS0 bk s sv wt f p dr pr) (10 + f) = sH s f := (lX_ac (by omega)).trans (lX_sh (by omega))
  have lloc : (sH s f).length ≤ z := nd_len z _ (w.2.2.2.2.1 f).1 fun i hi => by
    have := (((w.2.2.2.2.1 f).2 i).mp hi).1; omega
  have hV : lV bk (10 + f) := Or.inr (Or.inl ⟨by omega, by omega⟩)
  obtain ⟨h9, G3, Cp3, x1, x2, x3, x4, x5, x6⟩ := c_add (d := d + 1) C8 cb8 (r0 := 10 + f) (i := z) (s' := stH (acS0 bk s sv wt f p dr pr) f (sH s f ++ [z])) hV (Or.inr (by omega)) (by show z < zN s 2 + 1; omega) rfl (by omega) (by rw [lsh]; show _ < zN s 2 + 1; omega) (by show zN s 2 + 1 ≤ 200; omega) (by
      rw [lsh, lX_sh (by omega)]; show up1 (sH s) f (sH s f ++ [z]) f = _; exact up1_s) (fun r hr => lX_H hr) (fun h' G' e c => c.nums e rfl)
  rw [show lo G2 (10 + f) = G2 5 f from lo_sh (by omega), g24] at x1
  have hs9 := x2.1
  have W9 := x2.2.1
  -- the log
  have w9 : WI bk (stH (acS0 bk s sv wt f p dr pr) f (sH s f ++ [z])) := WI.ac w hS hf hp hz
  obtain ⟨h10, y1, y2, y3⟩ := c_log (d := d + 7) hs9 W w9 x2.2.2.2.2.1 (i := z) (wh := 0) (o := f) (by show z < zN s 2 + 1; omega) (by decide) (by omega)
  have g34 : G3 4 z = x := by rw [x5 4 (by decide)]; exact g24
  rw [g34] at y1
  have C10 : CSt h10 b bk (acS bk s sv wt f p dr pr) G3 Cp3 := by
    unfold acS
    rw [← zE]
    exact x2.fr y2 (by decide) (fun _ q => absurd q List.not_mem_nil) (fun r => lX_nt z 0 f r) y3
  have F8 : AcF (gN h) h h8 := (GF.wk N7 (fun k q e => Or.inl e) (fun k q e => Or.inl e) (fun q e => trivial) (fun q e => e)).trans (GF.wk a4 (fun k q e => Or.inr (by rcases e.2 with e | e <;> rw [e] <;> decide)) (fun k q e => Or.inr e.2) (fun q e => trivial) (fun q e => e.elim))
  have F9 : AcF (gN h) h h9 := F8.trans (GF.wk x6 (fun k q e => Or.inr (by rcases e.2 with e | e <;> rw [e] <;> decide)) (fun k q e => Or.inr e.2) (fun q e => trivial) (fun q e => e.elim))
  have F10 : AcF (gN h) h h10 := F9.trans (GF.wk (y2.gfc (by decide)) (fun k q e => Or.inr e) (fun k q e => Or.inr e) (fun q e => e) (fun q e => e.elim))
  have zw : zN (acS bk s sv wt f p dr pr) 2 = z + 1 := by
    unfold acS ntS
    split
    · rw [zE]; rfl
    · rw [zE]; rfl
  have iw : iN (acS bk s sv wt f p dr pr) = acN bk s sv wt f p dr := by
    unfold acS ntS
    split <;> rfl
  refine ⟨h10, up2 G3 17 z y, Cp3, ?_, C10.g17 (fun k q => up2_k q), ?_, fun i hi => ?_, F10, ?_, ?_, ?_⟩
  · have fin : gI h10 1280 x = nI z := by
      have e1 : gI h10 1280 (G3 4 z) = nI z := (C10.2.2.2.2.1.2.2.2 z (by rw [zw]; omega)).2.2.1
      rw [g34] at e1; exact e1
    have gx10 : gC h10 x = 5 := by
      have e1 : gC h10 (G3 4 z) = 5 := (C10.2.2.2.2.1.2.2.2 z (by rw [zw]; omega)).1
      rw [g34] at e1; exact e1
    have ge : gI h7 2051 156 = nI (zN s 0) := (C.nf N7 s7 W7).2.2.2.2.1.1
    have ge6 : gI h6 2051 156 = nI (zN s 0) := C6.2.2.2.2.1.1
    rw [t_222 hs, hb, Option.bind_some, ck_ok B.1, pv2, Option.bind_some, ck_ok qv2.1, al_get hs qv2 hS, cK_v, t_222_11 hs, ck_ok bs.1, ck_ok bs.1, bs.2.2.1, ← h1E, ← xE, t_222_22 s1, al_size s1 A1, cK_v, t_222_30 s1, t_271 s1, ck_ok gx1, ck_ok gx1, ck_ok gx1, ck_ok gx1, ck_ok gx1, ← h2E, show gN h1 = y from by omega, t_271_36 s2, ck_ok gx2, ck_ok gx2, cK_n, t_222_38 ((s2.sR (Or.inl (inS_ge (by omega)))).sI), ck_ok (show gC (sI (sR h2 1285 x (some y)) 1290 x (-1)) x = 5 from gx2), ck_ok (show gC (sI (sR h2 1285 x (some y)) 1290 x (-1)) x = 5 from gx2), ← h4E, goal4, cK_v, t_222_60 s4, hb4, Option.bind_some, ck_ok B4.1, price4, cK_v, t_222_76 s4, ck_ok gx4, hb4, Option.bind_some, ck_ok B4.1, show gR h4 512 b = some (G 7 0) from (B4.2.2.1 0 (by decide)).1, Option.bind_some, ck_ok (show gC h4 (G 7 0) = 1 from (B4.2.2.1 0 (by decide)).2.1), ← h54, al_get s5 q50 wb9, cK_v, t_222_93 s5, ck_ok bo5.1, ck_ok bo5.1, ck_ok gx5, bo5.2.2.1, b1, cK_n, t_222_102 b5, ck_ok gx6, ge6, t_257 b5, ck_ok gx6, ck_ok gx6, ck_ok gx6, ck_ok gx6, ← h7E, cK_n, t_222_114 s7, a1, cK_v, t_222_123 hs8, hb8, Option.bind_some, ck_ok B8.1, p80, Option.bind_some, ck_ok q80.1, al_get hs8 q80 hf, cK_v, t_222_135 hs8, ck_ok bo8.1, ck_ok bo8.1, bo8.2.2.2.2.2.1, Option.bind_some, ck_ok (show gC h8 (G2 5 f) = 1 from by
      have := (C8.2.2.2.2.2.2.2 (10 + f) hV (Or.inr (by omega))).1
      rw [lo_sh (by omega)] at this; exact this), x1, cK_v, t_222_146 hs9, y1, cK_n, t_222_155 (y2.sh hs9), ck_ok gx10, fin, zE]
  · intro r r1 r2
    rw [zw]
    have := x4 r r1 r2
    have e : zN (stH (acS0 bk s sv wt f p dr pr) f (sH s f ++ [z])) 2 = z + 1 := by rw [zE]; rfl
    rw [e] at this; exact this
  · rw [zw] at hi
    have g173 : G3 17 = G 17 := by
      rw [x5 17 (by decide), G2E]
      funext j
      rw [(up9_o (G := G1) (Cp := G1) (e := e8) (c := e8) 17 j (by omega)).1, g1k 17 (by decide)]
    have g174 : G3 4 = G1 4 := by
      rw [x5 4 (by decide), G2E]
      funext j
      exact (up9_o (G := G1) (Cp := G1) (e := e8) (c := e8) 4 j (by omega)).1
    have e4 : up2 G3 17 z y 4 = G3 4 := up2_k (by decide)
    rw [e4, g174]
    have sg : ∀ T, SolS sp7 4 (sgB (acS0 bk s sv wt f p dr pr) i) T → SolS sp7 4 (sgB (acS bk s sv wt f p dr pr) i) T := fun T => by
      have : sgB (acS bk s sv wt f p dr pr) i = sgB (acS0 bk s sv wt f p dr pr) i := by
        funext q
        unfold sgB
        rw [iw]; rfl
      rw [this]; exact id
    have cup : ∀ q, gN h ≤ q → q < gN h7 → True := fun _ _ _ => trivial
    -- from h7 on: reference fields but 257 and rows of ints stay
    have F710 : GF (fun k _ => k ∈ KC) (fun k _ => k = 257) (fun _ => True) (fun _ => False) h7 h10 := ((GF.wk a4 (fun k q e => by rcases e.2 with e | e <;> rw [e] <;> decide) (fun k q e => e.2) (fun q e => trivial) (fun q e => e.elim)).trans (GF.wk x6 (fun k q e => by rcases e.2 with e | e <;> rw [e] <;> decide) (fun k q e => e.2) (fun q e => trivial) (fun q e => e.elim))).trans (y2.gfc (by decide))
    by_cases q : i = z
    · subst q
      rw [up2_s, g1z]
      have xl : x < gN h7 := by omega
      have yl : y < gN h7 := by omega
      refine ⟨?_, Nat.lt_of_lt_of_le yl F710.1.1, T, sg T b9, ?_⟩
      · rw [F710.2.2.2.2.1 1285 x xl (show ¬ (1285 = 257) by decide), h7E]
        show gR h6 1285 x = _
        rw [(b4 1285 x xN5).2.2]; exact r5
      · obtain ⟨t1, t2, t3, t4⟩ := b10
        have e7 : gC h7 = gC h6 ∧ gK h7 = gK h6 ∧ gA h7 = gA h6 := by rw [h7E]; exact ⟨rfl, rfl, rfl⟩
        exact ⟨by rw [(F710.2.1 y yl).1, e7.1]; exact t1, by rw [(F710.2.1 y yl).2, e7.2.1]; exact t2, t3, fun p hp => by rw [(F710.2.2.2.2.2.1 y yl (fun e => e)).1, e7.2.2]; exact t4 p hp⟩
    · have hi' : i < zN s 2 := by omega
      obtain ⟨v1, v2, T', v3, v4, v5, v6, v7⟩ := C57 i hi'
      rw [up2_x q, g173, g1o i q]
      have l4 := (C.2.2.2.2.1.2.2.2 i hi').2.1
      have l4' : G 4 i < gN h7 := by omega
      refine ⟨by rw [F710.2.2.2.2.1 1285 _ l4' (show ¬ (1285 = 257) by decide)]; exact v1, Nat.lt_of_lt_of_le v2 F710.1.1, T', sg T' ?_, ?_⟩
      · have : sgB (acS0 bk s sv wt f p dr pr) i = sgB s i := by
          funext q'
          unfold sgB
          have : ∀ k, iN (acS0 bk s sv wt f p dr pr) k i = iN s k i := fun k => by
            show acN bk s sv wt f p dr k i = _
            unfold acN
            rw [if_neg (by omega)]
          rw [this, this, this]
        rw [this]; exact v3
      · exact ⟨by rw [(F710.2.1 _ v2).1]; exact v4, by rw [(F710.2.1 _ v2).2]; exact v5, v6, fun p hp => by rw [(F710.2.2.2.2.2.1 _ v2 (fun e => e)).1]; exact v7 p hp⟩
  · have r3 := x3.1
    have s10 : gS h10 = gS h9 := y2.ct.2
    have r5 := x3.2.2.1
    omega
  · have r4 := x3.2.1
    have s10 : gN h10 = gN h9 := y2.ct.1
    omega
  · have r5 := x3.2.2.1
    refine ⟨by omega, (kc_e x3.2.2.2).trans (kc_e fun r q1 q2 => ?_)⟩
    rw [Cp2E]; exact u1 r (by omega)
end TKI
