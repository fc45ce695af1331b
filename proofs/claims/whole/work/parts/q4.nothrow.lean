/-! ===== THE LAW: the reference's calls that do not throw say so ===== -/
section NTH
variable {d : Nat} {h : AH} {b v : Nat} {bk : Bk} {s : St} {t : Tp}
theorem r_feed0 {a b c : Int64} {h : AH} {t : Tp} (hs : Sh h) (T : RT h t) : ∃ h', E (d + 2) 33 [.ref 189, .long a, .long b, .long c] h = some (some (.int (nI (tpW c 8 (tpW b 8 (tpW a 8 t))).1)), h') ∧ Fr [3586, 3590] [193] h h' ∧ RT h' (tpW c 8 (tpW b 8 (tpW a 8 t))) ∧ gI h' 3586 189 = nI 0 := by
  have T0 : RT (sI h 3586 189 (nI 0)) t := T
  obtain ⟨h1, a1, a2, a3⟩ := r_lay (d := d) (w := a) (h := sI h 3586 189 (nI 0)) hs.sI T0
  have hs1 := a2.sh hs.sI
  obtain ⟨h2, b1, b2, b3⟩ := r_lay (d := d) (w := b) hs1 a3
  have hs2 := b2.sh hs1
  obtain ⟨h3, c1, c2, c3⟩ := r_lay (d := d) (w := c) hs2 b3
  refine ⟨h3, ?_, (((Fr.rfl.sI (by decide) : Fr [3586, 3590] [193] h (sI h 3586 189 (nI 0))).trans (a2.wk (by decide) (by decide))).trans (b2.wk (by decide) (by decide))).trans (c2.wk (by decide) (by decide)), c3, by rw [c2.I (by decide), b2.I (by decide), a2.I (by decide), gI_s]⟩
  rw [t_33 hs, a1, cK_n, t_33_10 hs1, b1, cK_n, t_33_15 hs2, c1, cK_n, t_33_21 (c2.sh hs2), c3.1]
theorem r_gone0 (hs : Sh h) (W : WB bk) (w : WS bk s) (hv' : v ≤ 1) (hN : gI h 3597 189 = nI v) (B : RB h v bk) (R4 : RS4 h s) (x y : Int32) : ∃ h', E (d + 3) 117 [.ref 189, .int x, .int y] h = some (some (.int (gnS bk s x y).1), h') ∧ Fr [3586, 3688] [265, 266, 267, 268] h h' ∧ RS4 h' (gnS bk s x y).2 ∧ gI h' 3586 189 = nI 0 := by
  have wp := W.1.2.1
  have f0 : Fr [3586, 3688] [265, 266, 267, 268] h (sI h 3586 189 (nI 0)) := Fr.rfl.sI (by decide)
  have hs0 : Sh (sI h 3586 189 (nI 0)) := hs.sI
  have B0 : RB (sI h 3586 189 (nI 0)) v bk := B.fr f0 (by decide)
  have hN0 : gI (sI h 3586 189 (nI 0)) 3597 189 = nI v := hN
  have R0 : RS4 (sI h 3586 189 (nI 0)) s := R4
  have z : ∀ {h' : AH}, Sh h' → Q (d + 2) 117 13 [some (.ref 189), some (.int x), some (.int y)] [.int (nI 0)] h' = some (some (.int (nI 0)), h') := fun hh => by rw [t_117_13 hh, if_pos (by decide)]
  unfold gnS
  rw [t_117 hs]
  rcases hv_c x (show bk 0 1 < 2 ^ 31 by omega) with ⟨e, q⟩ | ⟨p, hp, rfl, e⟩
  · rw [e]
    refine ⟨_, ?_, f0, R0, gI_s⟩
    rw [t_115 hs0]
    rcases q with q | ⟨q, r⟩
    · rw [if_pos q, cK_v, z hs0]
    · rw [if_neg q, hN0, gd_nI (by omega) (by decide), ix_nI (by omega), B0.1.2.1, if_neg r, cK_v, z hs0]
  · rw [e]
    dsimp only
    rcases hv_c y (show 27000 < 2 ^ 31 by decide) with ⟨e', q⟩ | ⟨dr, hd, rfl, e'⟩
    · rw [e']
      dsimp only
      refine ⟨_, ?_, f0, R0, gI_s⟩
      rw [t_115 hs0, if_neg (nI_nlt (by omega) (by omega)), hN0, gd_nI (by omega) (by decide), ix_nI (by omega), B0.1.2.1, if_pos (nI_lt hp (by omega))]
      by_cases q1 : y < nI 27
      · rw [if_pos q1, cK_v, z hs0]
      · rw [if_neg q1]
        rcases q with q | ⟨-, q⟩
        · exact absurd (Int32.lt_trans q (by decide)) q1
        · rw [if_pos (Int32.lt_of_lt_of_le (show nI 26999 < nI 27000 by decide) (Int32.not_lt.mp q)), cK_v, z hs0]
    · rw [e']
      dsimp only
      by_cases q : 27 ≤ dr
      · rw [if_pos q]
        obtain ⟨h', a1, a2, a3⟩ := r_move (d := d) hs0 W w hv' hN0 B0 R0 hp q hd none (nI 0) (fun q w => by cases w)
        refine ⟨h', ?_, f0.trans (a2.wk (by decide) (by decide)), a3, by rw [a2.I (by decide), gI_s]⟩
        have a1' : E (d + 2) 115 [.ref 189, .int (nI p), .int (nI dr), .int (-1), .int (nI 0)] (sI h 3586 189 (nI 0)) = some (some (.int (tmB s p dr none)), h') := a1
        rw [a1', cK_v, t_117_13 (a2.sh hs0)]
        rcases tmB_01 (s := s) p dr none with r | r <;> rw [r] <;> rw [if_pos (by decide)]
      · rw [if_neg q]
        refine ⟨_, ?_, f0, R0, gI_s⟩
        rw [t_115 hs0, if_neg (nI_nlt (by omega) (by omega)), hN0, gd_nI (by omega) (by decide), ix_nI (by omega), B0.1.2.1, if_pos (nI_lt hp (by omega)), if_pos (nI_lt (by omega) (by decide)), cK_v, z hs0]
theorem r_sort0 (hs : Sh h) (W : WB bk) (w : WS bk s) (hv' : v ≤ 1) (hN : gI h 3597 189 = nI v) (B : RB h v bk) (R : RS h s) (Y : RY h bk) (x : Int32) : ∃ h', E (d + 5) 109 [.ref 189, .int x] h = some (some (.int (soS bk s x).1), h') ∧ Fr [3586, 3678, 3679, 3680] [248, 249, 250, 253, 254, 255, 256, 257, 262, 263, 264] h h' ∧ RS h' (soS bk s x).2 ∧ RB h' v bk ∧ RY h' bk ∧ gI h' 3586 189 = nI 0 := by
  have w0 := W.1.1
  have f0 : Fr [3586] [] h (sI h 3586 189 (nI 0)) := Fr.rfl.sI (by decide)
  have hs0 : Sh (sI h 3586 189 (nI 0)) := hs.sI
  have Y0 : RY (sI h 3586 189 (nI 0)) bk := Y
  have R0 : RS (sI h 3586 189 (nI 0)) s := R.fr f0 (by decide) (by decide)
  have B0 : RB (sI h 3586 189 (nI 0)) v bk := B.fr f0 (by decide)
  have hN0 : gI (sI h 3586 189 (nI 0)) 3597 189 = nI v := hN
  unfold soS
  rw [t_109 hs, (r_has hs0 W hv' hN0 B0 x).1, cK_v, t_109_10 hs0]
  rcases hv_c x (show bk 0 0 < 2 ^ 31 by omega) with ⟨e, -⟩ | ⟨f, hf, rfl, e⟩
  · rw [hb1_n e, if_pos rfl, e]
    exact ⟨_, rfl, f0.wk (by decide) (by decide), R0, B0, Y0, gI_s⟩
  · rw [hb1_s e, if_neg (by decide), e]
    obtain ⟨h1, a1, a2, a3, a4⟩ := r_ways (d := d + 1) W w.2.1 hv' hf hs0 hN0 B0 R0.1.2.1 Y0
    have hs1 := a2.sh hs0
    have hl := (w.len f).1
    obtain ⟨h2, x1, x2, x3⟩ := r_sort_lp (d := d) (clk := zN s 0) W hv' hf (sH s f).length 0 0 h1 s (by omega) (by omega) hs1 (by rw [a2.I (by decide)]; exact hN0) (B0.fr a2 (by decide)) (R0.fr a2 (by decide) (by decide)) w a4
    have f2 : Fr [3586, 3678, 3679, 3680] [248, 249, 250, 253, 254, 255, 256, 257, 262, 263, 264] h h2 := ((f0.wk (by decide) (by decide)).trans (a2.wk (by decide) (by decide))).trans (x3.wk (by decide) (by decide))
    refine ⟨h2, ?_, f2, x2, B.fr f2 (by decide), ?_, by rw [x3.I (by decide), a2.I (by decide), gI_s]⟩
    · rw [a1, cK_n, t_109_20 hs1]; exact x1
    · unfold RY RV at a3 ⊢
      rw [x3.I (by decide), x3.I (by decide), x3.A (by decide), x3.A (by decide)]; exact a3
theorem r_tick_lp0 (W : WB bk) (hv' : v ≤ 1) {n : Nat} (hn : n ≤ 3000) : ∀ (m k : Nat) (h : AH) (s : St), k + m = n → zN s 0 + m < 2 ^ 29 → Sh h → gI h 3597 189 = nI v → RB h v bk → RS h s → WS bk s →
    ∃ h', Q (d + 3) 102 20 [some (.ref 189), some (.int (nI n)), some (.int (nI k)), none] [] h = some (some (.int (nI (zN (tmnS bk m s) 0))), h') ∧ RS h' (tmnS bk m s) ∧ Fr [3676, 3677, 3678] XT h h'
  | 0, k, h, s, e, hz, hs, hN, B, R, w => by
    refine ⟨h, ?_, R, Fr.rfl⟩
    rw [t_102_20 hs, if_neg (nI_nlt (by omega) (by omega)), show gI h 3677 189 = nI (zN s 0) from R.1.2.1]
    rfl
  | m + 1, k, h, s, e, hz, hs, hN, B, R, w => by
    have rz : gI h 3677 189 = nI (zN s 0) := R.1.2.1
    have f0 : Fr [3677] [] h (sI h 3677 189 (nI (zN s 0 + 1))) := Fr.rfl.sI (by decide)
    have R0 : RS (sI h 3677 189 (nI (zN s 0 + 1))) (stZ s 0 (zN s 0 + 1)) := by
      refine ⟨⟨R.1.1, (up2_s : up2 (gI h) 3677 189 _ 3677 189 = _), R.1.2.2.1, R.1.2.2.2.1, R.1.2.2.2.2⟩, R.2.1.fr f0 (by decide), R.2.2.1.fr f0 (by decide) (by decide), R.2.2.2.fr f0 (by decide) (by decide)⟩
    have hs0 := f0.sh hs
    obtain ⟨a1, a2, a3⟩ := w.z (show zN s 0 + 1 < 2 ^ 29 by omega) (by omega) (fun t ht => w.c.2.2 t ht)
    obtain ⟨b1, b2, b3, b4⟩ := WS.ar a1 a2
    rw [zZ] at b2
    obtain ⟨h1, x1, x2, x3⟩ := r_arrive (d := d) W hv' hs0 (by rw [f0.I (by decide)]; exact hN) (B.fr f0 (by decide)) R0 a1 a2
    have hs1 := x3.sh hs0
    have f1 : Fr [3676, 3677, 3678] XT h h1 := (f0.wk (by decide) (by decide)).trans (x3.wk (by decide) (by decide))
    obtain ⟨h2, y1, y2, y3⟩ := r_gos (d := d) W hv' (x1 := nI n) (x2 := nI k) (bk 0 3) 0 h1 (avS bk (stZ s 0 (zN s 0 + 1))) (by omega) (by rw [b2]; omega) hs1 (by rw [f1.I (by decide)]; exact hN) (B.fr f1 (by decide)) x2 b1 (fun t ht _ => by
      rw [b4] at ht
      rw [b2]
      exact a3 t (List.mem_filter.mp ht).1)
    have hs2 := y3.sh hs1
    have f2 : Fr [3676, 3677, 3678] XT h h2 := f1.trans (y3.wk (by decide) (by decide))
    obtain ⟨c1, c2, c3⟩ := w.mn W (show zN s 0 + 1 < 2 ^ 29 by omega)
    obtain ⟨h3, z1, z2, z3⟩ := r_tick_lp0 W hv' hn m (k + 1) h2 (mnS bk s) (by omega) (by omega) hs2 (by rw [f2.I (by decide)]; exact hN) (B.fr f2 (by decide)) y2 c1
    refine ⟨h3, ?_, z2, f2.trans z3⟩
    rw [t_102_20 hs, if_pos (nI_lt (by omega) (by omega)), rz, nI_add, x1, cK_n, t_102_39 hs1, y1, nI_add]
    exact z1
theorem r_tick0 (W : WB bk) (hv' : v ≤ 1) {h : AH} {s : St} (hz : zN s 0 + 3000 < 2 ^ 29) (hs : Sh h) (hN : gI h 3597 189 = nI v) (B : RB h v bk) (R : RS h s) (w : WS bk s) (x : Int32) : ∃ h', E (d + 4) 102 [.ref 189, .int x] h = some (some (.int (tkA bk s x).1), h') ∧ RS h' (tkA bk s x).2 ∧ Fr KT XT h h' ∧ gI h' 3586 189 = nI 0 := by
  have f0 : Fr [3586] [] h (sI h 3586 189 (nI 0)) := Fr.rfl.sI (by decide)
  have R0 := R.fr f0 (by decide) (by decide)
  unfold tkA
  rw [t_102 hs]
  rcases hv_c x (show 3001 < 2 ^ 31 by decide) with ⟨e, q | ⟨q, r⟩⟩ | ⟨j, hj, rfl, e⟩
  · rw [if_pos q, e]; exact ⟨_, rfl, R0, f0.wk (by decide) (by decide), gI_s⟩
  · have r2 : nI 3000 < x := by
      rcases Int32.lt_or_le (nI 3000) x with y | y
      · exact y
      · exact absurd (Int32.lt_of_le_of_lt y (show nI 3000 < nI 3001 by decide)) r
    rw [if_neg q, if_pos r2, e]; exact ⟨_, rfl, R0, f0.wk (by decide) (by decide), gI_s⟩
  · rw [if_neg (nI_nlt (by omega) (by omega)), if_neg (nI_nlt (by omega) (by omega)), e]
    obtain ⟨h1, a1, a2, a3⟩ := r_tick_lp0 (d := d) W hv' (n := j) (by omega) j 0 (sI h 3586 189 (nI 0)) s (by omega) (by omega) hs.sI (by rw [f0.I (by decide)]; exact hN) (B.fr f0 (by decide)) R0 w
    exact ⟨h1, a1, a2, (f0.wk (by decide) (by decide)).trans (a3.wk (by decide) (fun _ q => q)), by rw [a3.I (by decide), gI_s]⟩
theorem r_deliver0 (W : WB bk) (hv' : v ≤ 1) {h : AH} {s : St} (hs : Sh h) (hN : gI h 3597 189 = nI v) (B : RB h v bk) (R : RS h s) (w : WS bk s) (x y : Int32) : ∃ h', E (d + 5) 118 [.ref 189, .int x, .int y] h = some (some (.int (dlvA bk s x y).1), h') ∧ RS h' (dlvA bk s x y).2 ∧ Fr [3586, 3678, 3691] XDv h h' ∧ gI h' 3586 189 = nI 0 := by
  have w0 := W.1.1
  have f0 : Fr [3586] [] h (sI h 3586 189 (nI 0)) := Fr.rfl.sI (by decide)
  have hs0 := f0.sh hs
  have R0 := R.fr f0 (by decide) (by decide)
  have hN0 : gI (sI h 3586 189 (nI 0)) 3597 189 = nI v := by rw [f0.I (by decide)]; exact hN
  have B0 := B.fr f0 (show ∀ x, x ∈ ([] : List Nat) → x < 197 ∨ 232 < x by decide)
  unfold dlvA
  rw [t_118 hs, (r_has hs0 W hv' hN0 B0 x).1, cK_v, t_118_10 hs0]
  rcases hv_c x (show bk 0 0 < 2 ^ 31 by omega) with ⟨e, -⟩ | ⟨f, hf, rfl, e⟩
  · rw [hb1_n e, if_pos rfl, e]
    exact ⟨_, rfl, R0, f0.wk (by decide) (by decide), gI_s⟩
  · rw [hb1_s e, if_neg (by decide), e]
    dsimp only
    rcases hv_c y (show 11 < 2 ^ 31 by decide) with ⟨e2, q | ⟨q, r⟩⟩ | ⟨j, hj, rfl, e2⟩
    · rw [if_pos q, e2]
      exact ⟨_, rfl, R0, f0.wk (by decide) (by decide), gI_s⟩
    · have r2 : nI 10 < y := by
        rcases Int32.lt_or_le (nI 10) y with z | z
        · exact z
        · exact absurd (Int32.lt_of_le_of_lt z (show nI 10 < nI 11 by decide)) r
      rw [if_neg q, if_pos r2, e2]
      exact ⟨_, rfl, R0, f0.wk (by decide) (by decide), gI_s⟩
    · rw [if_neg (nI_nlt (by omega) (by omega)), if_neg (nI_nlt (by omega) (by omega)), e2]
      dsimp only
      simp only [show (nI j = nI 10) = (j = 10) from propext (nI_eq (by omega) (by decide))]
      have hlen := (w.len f).1
      by_cases q : j = 10
      · rw [if_pos q, if_pos q]
        obtain ⟨h1, a1, a2, a3⟩ := r_back_lp (d := d + 1) W hv' hf (sH s f).length 0 0 _ s (by omega) (by omega) hs0 hN0 B0 R0 w
        rw [t_119 hs0, a1, cK_v, t_118_37 (a3.sh hs0)]
        exact ⟨h1, rfl, a2, (f0.wk (by decide) (by decide)).trans (a3.wk (by decide) (by decide)), by rw [a3.I (by decide), gI_s]⟩
      · rw [if_neg q, if_neg q, gd_nI (by omega) (by decide), ix_nI (by omega), show gA (sI h 3586 189 (nI 0)) 255 f = nI (sH s f).length from (R.2.1.1 f (by omega)).1]
        have f1 : Fr [3691] [] (sI h 3586 189 (nI 0)) (sI (sI h 3586 189 (nI 0)) 3691 189 (nI 0)) := Fr.rfl.sI (by decide)
        have hs1 := f1.sh hs0
        have RT1 : RSt (sI (sI h 3586 189 (nI 0)) 3691 189 (nI 0)) [] := ⟨(up2_s : up2 (gI (sI h 3586 189 (nI 0))) 3691 189 (nI 0) 3691 189 = nI 0), fun k hk => absurd hk (Nat.not_lt_zero _)⟩
        obtain ⟨a1, a2, a3, a4, a5, a6, a7, a8⟩ := tsL_w W (f := f) (wk := j) (sH s f) s [] w ⟨Nat.zero_le _, fun q hq => absurd hq List.not_mem_nil⟩ (fun i hi => (((w.2.2.2.2.1 f).2 i).mp hi).1)
        obtain ⟨h2, b1, b2, b3, b4, b5⟩ := ts_lp (d := d) W hv' (wk := j) hf (by omega) (l := sH s f) (sH s f) [] [] _ s [] rfl rfl rfl hs1 (by rw [f1.I (by decide)]; exact hN0) (B0.fr f1 (by decide)) (R0.fr f1 (by decide) (by decide)) w ⟨Nat.zero_le _, fun q hq => absurd hq List.not_mem_nil⟩ RT1 (fun k hk => absurd hk (Nat.not_lt_zero _))
        rw [List.nil_append] at b4
        have b1 : Q (d + 3) 120 7 [some (.ref 189), some (.int (nI f)), some (.int (nI j)), some (.int (nI 0)), none, none, none] [] (sI (sI h 3586 189 (nI 0)) 3691 189 (nI 0)) = some (none, h2) := b1
        have hs2 := b5.sh hs1
        have F2 : Fr [3586, 3678, 3691] XDv h h2 := (f0.wk (by decide) (by decide)).trans ((f1.wk (by decide) (by decide)).trans (b5.wk (by decide) (by decide)))
        have h8 := a2.1
        rw [t_120 hs0, b1, cK_n, t_118_51 hs2, b3.1]
        simp only [show (nI (tsL bk f j (sH s f) s []).2.1.length = nI 0) = ((tsL bk f j (sH s f) s []).2.1.length = 0) from propext (nI_eq (by omega) (by decide))]
        unfold wkA
        by_cases q0 : (tsL bk f j (sH s f) s []).2.1 = []
        · rw [if_pos (by rw [q0]; rfl), if_pos q0]
          exact ⟨h2, rfl, b2, F2, by rw [b5.I (by decide), f1.I (by decide), gI_s]⟩
        · have hl0 : (tsL bk f j (sH s f) s []).2.1.length ≠ 0 := fun w => q0 (List.length_eq_zero_iff.mp w)
          rw [if_neg hl0, if_neg q0]
          obtain ⟨h3, c1, c2, c3, c4⟩ := r_reckon (d := d + 1) W hv' hf a2 hs2 (by rw [F2.I (by decide)]; exact hN) (B.fr F2 (by decide)) b3
          have hs3 := c2.sh hs2
          have F3 : Fr [3586, 3678, 3691] XDv h h3 := F2.trans (c2.wk (by decide) (by decide))
          have hpos : 0 < 2 ^ (tsL bk f j (sH s f) s []).2.1.length := Nat.two_pow_pos _
          obtain ⟨h4, e1, e2', e3, e4, e5⟩ := gw_lp (d := d + 1) W hv' hf a2 (l := sH s f) (os := (tsL bk f j (sH s f) s []).2.2) hlen (w.2.2.2.2.1 f).1 a6 (osD W w) (tsL bk f j (sH s f) s []).2.1.length 0 (2 ^ (tsL bk f j (sH s f) s []).2.1.length - 1) 8 h3 _ (by omega) (by omega) (bcN_a _ h8) (Or.inr rfl) hs3 (by rw [F3.I (by decide)]; exact hN) (B.fr F3 (by decide)) (b2.fr c2 (by decide) (by decide)) a1 (Rem.st0 W w) c3 c4 (fun k hk => by rw [c2.A (by decide), c2.A (by decide)]; exact b4 k hk)
          refine ⟨h4, ?_, e2', F3.trans (e5.wk (by decide) (by decide)), by rw [e5.I (by decide), c2.I (by decide), b5.I (by decide), f1.I (by decide), gI_s]⟩
          rw [Nat.sub_self] at e1
          rw [c1, cK_n, t_118_65 hs3]
          exact e1
end NTH
