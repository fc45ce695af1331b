/-! ===== CALLS: way and sort ===== -/
section CLS
variable {d : Nat} {h : AH} {b : Nat} {bk : Bk} {G Cp : Nat → Nat → Nat} {s : St} {v : Nat}
theorem CS1.fr {K X : List Nat} {h h' : AH} (C : CS1 h bk s G) (f : Fr K X h h') (hK : ∀ k, k ∈ K → (k < 1280 ∨ 1294 < k) ∧ k ≠ 2051 ∧ k ≠ 2052) : CS1 h' bk s G := by
  obtain ⟨a1, a2, a3, a4⟩ := C
  have eN : gN h' = gN h := congrArg (fun p : Nat × Nat => p.1) f.1
  have I : ∀ k, (1280 ≤ k ∧ k ≤ 1294 ∨ k = 2051 ∨ k = 2052) → gI h' k = gI h k := fun k q => f.I fun w => by have := hK k w; omega
  refine ⟨by rw [I 2051 (by omega)]; exact a1, by rw [I 2052 (by omega)]; exact a2, a3, fun i hi => ?_⟩
  have := a4 i hi
  rw [f.2.1, eN, I 1280 (by omega), I 1281 (by omega), I 1282 (by omega), I 1283 (by omega), I 1284 (by omega), I 1286 (by omega), I 1287 (by omega), I 1288 (by omega), I 1289 (by omega), I 1290 (by omega), I 1291 (by omega), I 1292 (by omega), I 1293 (by omega), I 1294 (by omega)]
  exact this
theorem CY.gfc {h h' : AH} (Y : CY h bk) (hs : Sh h) (g : GFc h h') : CY h' bk := by
  have hN := hs.2
  have i1 : gI h' 2059 156 = gI h 2059 156 := g.2.2.1 2059 156 (by omega) (by decide)
  have i2 : gI h' 2060 156 = gI h 2060 156 := g.2.2.1 2060 156 (by omega) (by decide)
  have a1 : gA h' 168 = gA h 168 := (g.2.2.2.2.2.1 168 (by omega) (fun q => q)).1
  have a2 : gA h' 169 = gA h 169 := (g.2.2.2.2.2.1 169 (by omega) (fun q => q)).1
  unfold CY at Y ⊢
  rw [i1, i2, a1, a2]; exact Y
/-- way: when it comes -/
noncomputable def waS (bk : Bk) (s : St) (f t : Nat) : Int32 := match wyS bk f (zN s 0) t with
  | some (c, _) => nI c
  | none => -1
theorem c_way (W : WB bk) (C : CSt h b bk s G Cp) (w : WS bk s) (Y : CY h bk) {f t : Nat} (hf : f < bk 0 0) (ht : t < bk 0 0) : ∃ h', E (d + 9) 21 [.ref 100, .int (nI f), .int (nI t)] h = some (some (.int (waS bk s f t)), h') ∧ Fr frW fxW h h' ∧ CSt h' b bk s G Cp ∧ CY h' bk := by
  have w0 := W.1.1
  obtain ⟨hs, hw, hb, B, C1, C2⟩ := id C
  obtain ⟨h1, a1, a2, a3, a4⟩ := c_ways (d := d) W w.2.1 hf hs hb B C1.1 Y
  have C' : CSt h1 b bk s G Cp := C.fr a2 (by decide) (by decide) (fun _ => rfl) (C1.fr a2 (by decide))
  have e1 : hv (nI f) (bk 0 0) = some f := by
    unfold hv
    rw [if_neg (nI_nlt (by omega) (by omega)), if_pos (nI_lt hf (by omega)), ix_nI (by omega)]
  have e2 : hv (nI t) (bk 0 0) = some t := by
    unfold hv
    rw [if_neg (nI_nlt (by omega) (by omega)), if_pos (nI_lt ht (by omega)), ix_nI (by omega)]
  refine ⟨h1, ?_, a2, C', a3⟩
  rw [t_21 hs, hb, Option.bind_some, ck_ok B.1, (c_has hs W B _).1, cK_v, t_21_11 hs, hb1_s e1, if_neg (by decide), hb, Option.bind_some, ck_ok B.1, (c_has hs W B _).1, cK_v, t_21_25 hs, hb1_s e2, if_neg (by decide), t_220 hs, a1, cK_n, t_220_5 C'.1, gd_nI (by omega) (by decide), gd_nI (by omega) (by decide), ix_nI (by omega)]
  obtain ⟨p1, p2⟩ := a4 t (by omega)
  rw [p2]
  unfold waS
  cases hy : wyS bk f (zN s 0) t with
  | none => rw [show wC none = -1 from rfl, if_pos rfl, cK_v, t_21_47 C'.1]
  | some p =>
    obtain ⟨tm, c⟩ := p
    obtain ⟨y1, y2, y3⟩ := wyS_c hy
    have w3 := W.1.2.2.2.1
    have p1 := p1 y3
    rw [hy] at p1
    rw [show wC (some (tm, c)) = nI c from rfl, if_neg (by
      have : ∀ j, j < 40 → ¬ nI j = -1 := by decide
      exact this c (by omega)), p1, cK_v, t_21_47 C'.1]
    rfl
theorem r_way (hs : Sh h) (W : WB bk) (w : WS bk s) (hv' : v ≤ 1) (hN : gI h 3597 189 = nI v) (B : RB h v bk) (R : RS h s) (Y : RY h bk) {f t : Nat} (hf : f < bk 0 0) (ht : t < bk 0 0) : ∃ h', E (d + 4) 106 [.ref 189, .int (nI f), .int (nI t)] h = some (some (.int (waS bk s f t)), h') ∧ gI h' 3586 189 = nI 0 ∧ Fr [3586, 3679, 3680] [262, 263, 264] h h' ∧ RS h' s ∧ RB h' v bk ∧ RY h' bk := by
  have w0 := W.1.1
  have e1 : hv (nI f) (bk 0 0) = some f := by
    unfold hv
    rw [if_neg (nI_nlt (by omega) (by omega)), if_pos (nI_lt hf (by omega)), ix_nI (by omega)]
  have e2 : hv (nI t) (bk 0 0) = some t := by
    unfold hv
    rw [if_neg (nI_nlt (by omega) (by omega)), if_pos (nI_lt ht (by omega)), ix_nI (by omega)]
  have f0 : Fr [3586] [] h (sI h 3586 189 (nI 0)) := Fr.rfl.sI (by decide)
  have hs0 : Sh (sI h 3586 189 (nI 0)) := hs.sI
  have Y0 : RY (sI h 3586 189 (nI 0)) bk := Y
  rw [t_106 hs, (r_has hs W hv' hN B _).1, cK_v, t_106_6 hs, hb1_s e1, if_neg (by decide), (r_has hs W hv' hN B _).1, cK_v, t_106_14 hs, hb1_s e2, if_neg (by decide), ck_ok (show gC h 189 = 14 from ShC hs (by decide)), show gI (sI h 3586 189 (nI 0)) 3586 189 = nI 0 from rfl, if_neg (by decide)]
  simp only [show (nI f = nI t) = (f = t) from propext (nI_eq (by omega) (by omega))]
  by_cases q : f = t
  · rw [if_pos q]
    refine ⟨_, ?_, rfl, f0.wk (by decide) (by decide), R.fr f0 (by decide) (by decide), B.fr f0 (by decide), Y0⟩
    unfold waS wyS
    rw [if_pos q.symm]
  · rw [if_neg q]
    obtain ⟨h1, a1, a2, a3, a4⟩ := r_ways (d := d) W w.2.1 hv' hf hs0 hN (B.fr f0 (by decide)) R.1.2.1 Y0
    have f1 : Fr [3586, 3679, 3680] [262, 263, 264] h h1 := (f0.wk (by decide) (by decide)).trans (a2.wk (by decide) (by decide))
    refine ⟨h1, ?_, by rw [a2.I (by decide)]; rfl, f1, R.fr f1 (by decide) (by decide), B.fr f1 (by decide), a3⟩
    obtain ⟨p1, p2⟩ := a4 t ht
    rw [a1, cK_n, t_106_46 (a2.sh hs0), gd_nI (by omega) (by decide), gd_nI (by omega) (by decide), ix_nI (by omega), p2]
    unfold waS
    cases hy : wyS bk f (zN s 0) t with
    | none => rw [show wC none = -1 from rfl, if_pos (by decide)]
    | some p =>
      obtain ⟨tm, c⟩ := p
      obtain ⟨y1, y2, y3⟩ := wyS_c hy
      have w3 := W.1.2.2.2.1
      rw [hy] at p1
      rw [show wC (some (tm, c)) = nI c from rfl, if_neg (nI_nlt (by omega) (by omega)), p1]
      rfl
/-- sort: how many went, the state behind it -/
noncomputable def soS (bk : Bk) (s : St) (x : Int32) : Int32 × St := match hv x (bk 0 0) with
  | none => (-1, s)
  | some f => (nI (srF bk f (zN s 0) (sH s f).length 0 0 s).2, (srF bk f (zN s 0) (sH s f).length 0 0 s).1)
theorem c_sort (W : WB bk) (C : CSt h b bk s G Cp) (w : WS bk s) (hcb : capB bk s Cp) (Y : CY h bk) (x : Int32) : ∃ h' G' Cp', E (d + 10) 10 [.ref 100, .int x] h = some (some (.int (soS bk s x).1), h') ∧ CSt h' b bk (soS bk s x).2 G' Cp' ∧ WS bk (soS bk s x).2 ∧ RM h Cp h' Cp' ∧ capB bk (soS bk s x).2 Cp' ∧ (∀ j, j ≠ 9 → G' j = G j) ∧ CY h' bk ∧ ∃ h1, Fr frW fxW h h1 ∧ GFc h1 h' := by
  have w0 := W.1.1
  obtain ⟨hs, hw, hb, B, C1, C2⟩ := id C
  unfold soS
  rw [t_10 hs, hb, Option.bind_some, ck_ok B.1, (c_has hs W B x).1, cK_v, t_10_11 hs]
  rcases hv_c x (show bk 0 0 < 2 ^ 31 by omega) with ⟨e, -⟩ | ⟨f, hf, rfl, e⟩
  · rw [hb1_n e, if_pos rfl, e]
    exact ⟨h, G, Cp, rfl, C, w, RM.rfl rfl, hcb, fun _ _ => rfl, Y, h, Fr.rfl, GF.rfl⟩
  · rw [hb1_s e, if_neg (by decide), e]
    obtain ⟨h1, a1, a2, a3, a4⟩ := c_ways (d := d + 1) W w.2.1 hf hs hb B C1.1 Y
    have C' : CSt h1 b bk s G Cp := C.fr a2 (by decide) (by decide) (fun _ => rfl) (C1.fr a2 (by decide))
    have hl := (w.len f).1
    obtain ⟨h2, G2, Cp2, x1, x2, x3, x4, x5, x6, x7⟩ := c_sort_lp (d := d) (clk := zN s 0) W hf (sH s f).length 0 0 h1 s G Cp (by omega) (by omega) C' w hcb (fun o ho => (a4 o ho).2)
    have A := C'.2.2.2.2.2.2.2 (10 + f) (Or.inr (Or.inl ⟨by omega, by omega⟩)) (Or.inr (by omega))
    rw [lX_sh (by omega), lo_sh (by omega)] at A
    obtain ⟨p0, q0⟩ := B.2.2.1 0 (by decide)
    have bo := B.2.2.2.2.1 f hf
    refine ⟨h2, G2, Cp2, ?_, x2, x3, (RM.rfl a2.1).trans x4, x5, x6, a3.gfc C'.1 x7, h1, a2, x7⟩
    rw [t_204 hs, hb, Option.bind_some, ck_ok B.1, p0, Option.bind_some, ck_ok q0.1, al_get hs q0 hf, cK_v, t_204_11 hs, ck_ok bo.1, ck_ok bo.1, bo.2.2.2.2.2.1, Option.bind_some, a1, cK_n, t_204_23 C'.1, ck_ok A.1, al_size C'.1 A, cK_v, t_204_32 C'.1, x1, cK_v, t_10_22 x2.1]
theorem r_sort (hs : Sh h) (W : WB bk) (w : WS bk s) (hv' : v ≤ 1) (hN : gI h 3597 189 = nI v) (B : RB h v bk) (R : RS h s) (Y : RY h bk) (x : Int32) : ∃ h', E (d + 5) 109 [.ref 189, .int x] h = some (some (.int (soS bk s x).1), h') ∧ Fr [3586, 3678, 3679, 3680] [248, 249, 250, 253, 254, 255, 256, 257, 262, 263, 264] h h' ∧ RS h' (soS bk s x).2 ∧ RB h' v bk ∧ RY h' bk := by
  have w0 := W.1.1
  have f0 : Fr [3586] [] h (sI h 3586 189 (nI 0)) := Fr.rfl.sI (by decide)
  have hs0 : Sh (sI h 3586 189 (nI 0)) := hs.sI
  have Y0 : RY (sI h 3586 189 (nI 0)) bk := Y
  have R0 : RS (sI h 3586 189 (nI 0)) s := R.fr f0 (by decide) (by decide)
  have B0 : RB (sI h 3586 189 (nI 0)) v bk := B.fr f0 (by decide)
  have hN0 : gI (sI h 3586 189 (nI 0)) 3597 189 = nI v := hN
  unfold soS
  rw [t_109 hs, (r_has hs0 W hv' hN0 B0 x).1, cK_v, t_109_10 hs0]
  rcases hv_c x (show bk 0 0 < 2 ^ 31 by omega) with ⟨e, -⟩ | ⟨f, hf, rfl, e⟩
  · rw [hb1_n e, if_pos rfl, e]
    exact ⟨_, rfl, f0.wk (by decide) (by decide), R0, B0, Y0⟩
  · rw [hb1_s e, if_neg (by decide), e]
    obtain ⟨h1, a1, a2, a3, a4⟩ := r_ways (d := d + 1) W w.2.1 hv' hf hs0 hN0 B0 R0.1.2.1 Y0
    have hs1 := a2.sh hs0
    have hl := (w.len f).1
    obtain ⟨h2, x1, x2, x3⟩ := r_sort_lp (d := d) (clk := zN s 0) W hv' hf (sH s f).length 0 0 h1 s (by omega) (by omega) hs1 (by rw [a2.I (by decide)]; exact hN0) (B0.fr a2 (by decide)) (R0.fr a2 (by decide) (by decide)) w a4
    have f2 : Fr [3586, 3678, 3679, 3680] [248, 249, 250, 253, 254, 255, 256, 257, 262, 263, 264] h h2 := ((f0.wk (by decide) (by decide)).trans (a2.wk (by decide) (by decide))).trans (x3.wk (by decide) (by decide))
    refine ⟨h2, ?_, f2, x2, B.fr f2 (by decide), ?_⟩
    · rw [a1, cK_n, t_109_20 hs1]; exact x1
    · unfold RY RV at a3 ⊢
      rw [x3.I (by decide), x3.I (by decide), x3.A (by decide), x3.A (by decide)]; exact a3
end CLS
