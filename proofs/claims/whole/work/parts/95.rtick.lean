/-! ===== MINUTES: the reference's tick ===== -/
section RMN4
variable {d : Nat} {bk : Bk} {v : Nat}
theorem r_gos (W : WB bk) (hv' : v ≤ 1) {x1 x2 : Int32} : ∀ (m c : Nat) (h : AH) (s : St), c + m = bk 0 3 → 1 ≤ zN s 0 → Sh h → gI h 3597 189 = nI v → RB h v bk → RS h s → WS bk s → (∀ t, t ∈ sT s → c ≤ t.1 → t.2.1 < zN s 0 + bk 30 t.1) →
    ∃ h', Q (d + 3) 102 41 [some (.ref 189), some (.int x1), some (.int x2), some (.int (nI c))] [] h = Q (d + 3) 102 20 [some (.ref 189), some (.int x1), some (.int (x2 + nI 1)), none] [] h' ∧ RS h' (goF bk m c s) ∧ Fr [3676, 3678] XT h h'
  | 0, c, h, s, e, hz, hs, hN, B, R, w, hl => by
    have w3 := W.1.2.2.2.1
    refine ⟨h, ?_, R, Fr.rfl⟩
    rw [t_102_41 hs, hN, gd_nI (by omega) (by decide), ix_nI (by omega), B.1.2.2.2.1, if_neg (nI_nlt (by omega) (by omega))]
  | m + 1, c, h, s, e, hz, hs, hN, B, R, w, hl => by
    have w3 := W.1.2.2.2.1
    have wz := w.2.1
    have hc : c < bk 0 3 := by omega
    have hlen := (w.len c).2
    obtain ⟨r1, -⟩ := R.2.1.2 c (by omega)
    have rz : gI h 3677 189 = nI (zN s 0) := R.1.2.1
    obtain ⟨a1, a2, a3, a4⟩ := w.gc W hc hl
    have ih := r_gos W hv' (x1 := x1) (x2 := x2) m (c + 1)
    rw [t_102_41 hs, hN, gd_nI (by omega) (by decide), ix_nI (by omega), B.1.2.2.2.1, if_pos (nI_lt hc (by omega)), gd_nI (by omega) (by decide), ix_nI (by omega), r1]
    simp only [show (nI 0 < nI (sG s c).length) = (0 < (sG s c).length) from propext (nI_ltI (by decide) (by omega))]
    have skip : gcS bk c s = s → ∃ h', Q (d + 3) 102 86 [some (.ref 189), some (.int x1), some (.int x2), some (.int (nI c))] [] h = Q (d + 3) 102 20 [some (.ref 189), some (.int x1), some (.int (x2 + nI 1)), none] [] h' ∧ RS h' (goF bk (m + 1) c s) ∧ Fr [3676, 3678] XT h h' := fun q => by
      obtain ⟨h2, b1, b2, b3⟩ := ih h s (by omega) hz hs hN B R w (fun t ht q => hl t ht (by omega))
      refine ⟨h2, ?_, ?_, b3⟩
      · rw [t_102_86 hs, nI_add]; exact b1
      · show RS h2 (goF bk m (c + 1) (gcS bk c s))
        rw [q]; exact b2
    by_cases q : 0 < (sG s c).length
    · rw [if_pos q, rz, pk_sub hz, r_goes hs W hv' hN B hc (by omega), cK_v, t_102_74 hs, rz]
      have hgt := tbS_le (f := bk 27 c) (e := bk 28 c) (l := bk 29 c) (t := zN s 0 - 1) (W.2.2.2.2.2 c hc).2.2.2.2.1 (W.2.2.2.2.2 c hc).2.2.2.1 (W.2.2.2.2.2 c hc).2.2.1
      have hgt : tbC bk c (zN s 0 - 1) ≤ zN s 0 - 1 + 2880 := hgt
      simp only [show (nI (tbC bk c (zN s 0 - 1)) = nI (zN s 0)) = (tbC bk c (zN s 0 - 1) = zN s 0) from propext (nI_eq (by omega) (by omega))]
      by_cases q2 : tbC bk c (zN s 0 - 1) = zN s 0
      · have hg : sG s c ≠ [] := fun e => by rw [e] at q; exact absurd q (by decide)
        have eg : gcS bk c s = dpS bk c s := if_pos ⟨hg, q2⟩
        obtain ⟨h1, b1, b2, b3⟩ := r_depart (d := d) W hv' hs hN B R w hc hg
        have hs1 := b3.sh hs
        rw [eg] at a1 a2 a3 a4
        obtain ⟨h2, c1, c2, c3⟩ := ih h1 (dpS bk c s) (by omega) (by rw [a2]; exact hz) hs1 (by rw [b3.I (by decide)]; exact hN) (B.fr b3 (by decide)) b2 a1 (fun t ht e => by rw [a2]; exact a4 t ht e)
        refine ⟨h2, ?_, ?_, b3.trans c3⟩
        · rw [if_pos q2, b1, cK_n, t_102_86 hs1, nI_add]; exact c1
        · show RS h2 (goF bk m (c + 1) (gcS bk c s))
          rw [eg]; exact c2
      · rw [if_neg q2]
        exact skip (if_neg fun w => q2 w.2)
    · rw [if_neg q]
      exact skip (if_neg fun w => w.1 (List.length_eq_zero_iff.mp (by omega)))
abbrev KT : List Nat := [3586, 3676, 3677, 3678]
theorem r_tick_lp (W : WB bk) (hv' : v ≤ 1) {n : Nat} (hn : n ≤ 3000) : ∀ (m k : Nat) (h : AH) (s : St), k + m = n → zN s 0 + m < 2 ^ 29 → Sh h → gI h 3597 189 = nI v → RB h v bk → RS h s → WS bk s →
    ∃ h', Q (d + 3) 102 20 [some (.ref 189), some (.int (nI n)), some (.int (nI k)), none] [] h = some (some (.int (nI (zN (tmnS bk m s) 0))), h') ∧ RS h' (tmnS bk m s) ∧ Fr KT XT h h'
  | 0, k, h, s, e, hz, hs, hN, B, R, w => by
    refine ⟨h, ?_, R, Fr.rfl⟩
    rw [t_102_20 hs, if_neg (nI_nlt (by omega) (by omega)), show gI h 3677 189 = nI (zN s 0) from R.1.2.1]
    rfl
  | m + 1, k, h, s, e, hz, hs, hN, B, R, w => by
    have rz : gI h 3677 189 = nI (zN s 0) := R.1.2.1
    have f0 : Fr [3677] [] h (sI h 3677 189 (nI (zN s 0 + 1))) := Fr.rfl.sI (by decide)
    have R0 : RS (sI h 3677 189 (nI (zN s 0 + 1))) (stZ s 0 (zN s 0 + 1)) := by
      refine ⟨⟨R.1.1, (up2_s : up2 (gI h) 3677 189 _ 3677 189 = _), R.1.2.2.1, R.1.2.2.2.1, R.1.2.2.2.2⟩, R.2.1.fr f0 (by decide), R.2.2.1.fr f0 (by decide) (by decide), R.2.2.2.fr f0 (by decide) (by decide)⟩
    have hs0 := f0.sh hs
    obtain ⟨a1, a2, a3⟩ := w.z (show zN s 0 + 1 < 2 ^ 29 by omega) (by omega) (fun t ht => w.c.2.2 t ht)
    obtain ⟨b1, b2, b3, b4⟩ := WS.ar a1 a2
    rw [zZ] at b2
    obtain ⟨h1, x1, x2, x3⟩ := r_arrive (d := d) W hv' hs0 (by rw [f0.I (by decide)]; exact hN) (B.fr f0 (by decide)) R0 a1 a2
    have hs1 := x3.sh hs0
    have f1 : Fr KT XT h h1 := (f0.wk (by decide) (by decide)).trans (x3.wk (by decide) (by decide))
    obtain ⟨h2, y1, y2, y3⟩ := r_gos (d := d) W hv' (x1 := nI n) (x2 := nI k) (bk 0 3) 0 h1 (avS bk (stZ s 0 (zN s 0 + 1))) (by omega) (by rw [b2]; omega) hs1 (by rw [f1.I (by decide)]; exact hN) (B.fr f1 (by decide)) x2 b1 (fun t ht _ => by
      rw [b4] at ht
      rw [b2]
      exact a3 t (List.mem_filter.mp ht).1)
    have hs2 := y3.sh hs1
    have f2 : Fr KT XT h h2 := f1.trans (y3.wk (by decide) (by decide))
    obtain ⟨c1, c2, c3⟩ := w.mn W (show zN s 0 + 1 < 2 ^ 29 by omega)
    obtain ⟨h3, z1, z2, z3⟩ := r_tick_lp W hv' hn m (k + 1) h2 (mnS bk s) (by omega) (by omega) hs2 (by rw [f2.I (by decide)]; exact hN) (B.fr f2 (by decide)) y2 c1
    refine ⟨h3, ?_, z2, f2.trans z3⟩
    rw [t_102_20 hs, if_pos (nI_lt (by omega) (by omega)), rz, nI_add, x1, cK_n, t_102_39 hs1, y1, nI_add]
    exact z1
/-- what tick answers, and the state behind it -/
noncomputable def tkA (bk : Bk) (s : St) (x : Int32) : Int32 × St := match hv x 3001 with
  | some n => (nI (zN (tmnS bk n s) 0), tmnS bk n s)
  | none => (-1, s)
theorem r_tick (W : WB bk) (hv' : v ≤ 1) {h : AH} {s : St} (hz : zN s 0 + 3000 < 2 ^ 29) (hs : Sh h) (hN : gI h 3597 189 = nI v) (B : RB h v bk) (R : RS h s) (w : WS bk s) (x : Int32) : ∃ h', E (d + 4) 102 [.ref 189, .int x] h = some (some (.int (tkA bk s x).1), h') ∧ RS h' (tkA bk s x).2 ∧ Fr KT XT h h' := by
  have f0 : Fr [3586] [] h (sI h 3586 189 (nI 0)) := Fr.rfl.sI (by decide)
  have R0 := R.fr f0 (by decide) (by decide)
  unfold tkA
  rw [t_102 hs]
  rcases hv_c x (show 3001 < 2 ^ 31 by decide) with ⟨e, q | ⟨q, r⟩⟩ | ⟨j, hj, rfl, e⟩
  · rw [if_pos q, e]; exact ⟨_, rfl, R0, f0.wk (by decide) (by decide)⟩
  · have r2 : nI 3000 < x := by
      rcases Int32.lt_or_le (nI 3000) x with y | y
      · exact y
      · exact absurd (Int32.lt_of_le_of_lt y (show nI 3000 < nI 3001 by decide)) r
    rw [if_neg q, if_pos r2, e]; exact ⟨_, rfl, R0, f0.wk (by decide) (by decide)⟩
  · rw [if_neg (nI_nlt (by omega) (by omega)), if_neg (nI_nlt (by omega) (by omega)), e]
    obtain ⟨h1, a1, a2, a3⟩ := r_tick_lp (d := d) W hv' (n := j) (by omega) j 0 (sI h 3586 189 (nI 0)) s (by omega) (by omega) hs.sI (by rw [f0.I (by decide)]; exact hN) (B.fr f0 (by decide)) R0 w
    exact ⟨h1, a1, a2, (f0.wk (by decide) (by decide)).trans a3⟩
end RMN4
