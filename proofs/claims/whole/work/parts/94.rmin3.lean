/-! ===== MINUTES: the reference, coaches go ===== -/
section RMN3
variable {d : Nat} {bk : Bk} {v : Nat}
/-- the items of a coach get in -/
theorem dp_in (W : WB bk) (hv' : v ≤ 1) {c T : Nat} (hc : c < bk 0 3) {l : List Nat} (hl : l.length ≤ 20) : ∀ (ys pre : List Nat) (h : AH) (s : St), pre ++ ys = l → Sh h → gI h 3597 189 = nI v → RB h v bk → RS h s → WI bk s → (sT s).length = T → T < 200 → (∀ t, t ∈ sT s → t.2.2.length ≤ 20) → (∀ k (hk : k < l.length), k < (sG s c).length ∧ (sG s c).getD k 0 = l[k]) → (∀ i, i ∈ l → i < zN s 2) → (∀ k (hk : k < pre.length), gA h 258 (20 * T + k) = nI pre[k]) →
    ∃ h', Q (d + 2) 105 29 [some (.ref 189), some (.int (nI c)), some (.int (nI (40 * v + c))), some (.int (nI l.length)), some (.int (nI pre.length)), none] [] h = Q (d + 2) 105 29 [some (.ref 189), some (.int (nI c)), some (.int (nI (40 * v + c))), some (.int (nI l.length)), some (.int (nI l.length)), none] [] h' ∧ RS h' (dpL bk c ys s) ∧ (∀ k (hk : k < l.length), gA h' 258 (20 * T + k) = nI l[k]) ∧ Fr [3678] [248, 249, 250, 253, 258] h h'
  | [], pre, h, s, e, hs, hN, B, R, w, hT, hT2, hT3, hg, hi, h8 => by
    have e : pre = l := by rw [← e, List.append_nil]
    subst e
    exact ⟨h, rfl, R, h8, Fr.rfl⟩
  | i :: ys, pre, h, s, e, hs, hN, B, R, w, hT, hT2, hT3, hg, hi, h8 => by
    have w3 := W.1.2.2.2.1
    have w0 := W.1.1
    have wz := w.2.1
    have w1 := w.1
    have el : pre.length + (ys.length + 1) = l.length := by rw [← e, List.length_append, List.length_cons]
    have hpl : pre.length < l.length := by omega
    have ei : l[pre.length] = i := by
      simp only [← e]
      rw [List.getElem_append_right (Nat.le_refl _)]
      simp
    have il : i < zN s 2 := hi i (by rw [← ei]; exact List.getElem_mem hpl)
    obtain ⟨g1, g2⟩ := hg pre.length hpl
    have r6 := (R.2.1.2 c (by omega)).2 pre.length g1
    rw [← getD_ix g1, g2, ei] at r6
    have rT : gI h 3676 189 = nI T := by rw [← hT]; exact R.2.2.1.1
    obtain ⟨c1, c2, c3, c4, c5, c6, c7⟩ := B.2.2.2.2.2 c hc
    obtain ⟨u1, u2, -⟩ := W.2.2.2.2.2 c hc
    have f0 : Fr [] [258] h (sA h 258 (20 * T + pre.length) (nI i)) := Fr.rfl.sA (by decide)
    have R0 : RS (sA h 258 (20 * T + pre.length) (nI i)) s := by
      refine ⟨R.1.fr f0 (by decide) (by decide), R.2.1.fr f0 (by decide), ⟨R.2.2.1.1, fun t ht => ?_⟩, R.2.2.2.fr f0 (by decide) (by decide)⟩
      obtain ⟨a1, a2, a3, a4⟩ := R.2.2.1.2 t ht
      refine ⟨a1, a2, a3, fun k hk => ?_⟩
      have := hT3 _ (List.getElem_mem ht)
      show up2 (gA h) 258 (20 * T + pre.length) (nI i) 258 (20 * t + k) = _
      rw [up2_x (by omega)]; exact a4 k hk
    have hs0 : Sh (sA h 258 (20 * T + pre.length) (nI i)) := hs.sA
    obtain ⟨h1, x1, x2, x3⟩ := r_comes (d := d + 1) (bk := bk) (i := i) (wh := 2) (o := bk 26 c) (c := some c) hs0 R0 w il
    have hs1 := x2.sh hs0
    have x3' := x3.n9 i (zN s 0 + bk 30 c)
    have wi2 : WI bk (stI (cmS s i 2 (bk 26 c) (some c)) 9 i (zN s 0 + bk 30 c)) := w
    have f1 : Fr [] [248, 249, 250, 253, 258] h h1 := (f0.wk (by decide) (by decide)).trans (x2.wk (by decide) (by decide))
    obtain ⟨h2, y1, y2, y3⟩ := r_note (d := d) (i := i) (wh := 2) (o := bk 25 c) hs1 W hv' (by rw [f1.I (by decide)]; exact hN) (B.fr f1 (by decide)) x3' wi2 il (by decide) (by omega)
    have hs2 := y2.sh hs1
    have f2 : Fr [3678] [248, 249, 250, 253, 258] h h2 := (f1.wk (by decide) (by decide)).trans (y2.wk (by decide) (by decide))
    obtain ⟨j1, j2, j3, j4, j5, j6, j7, j8, j9, j10, j11, j12, j13, j14, j15⟩ := dpJ_f (bk := bk) (s := s) c i
    obtain ⟨h3, z1, z2, z3, z4⟩ := dp_in W hv' (T := T) hc hl ys (pre ++ [i]) h2 (dpJ bk c s i) (by rw [List.append_assoc]; exact e) hs2 (by rw [f2.I (by decide)]; exact hN) (B.fr f2 (by decide)) y3 (wi2.nt i 2 (bk 25 c)) (by rw [j10]; exact hT) hT2 (by rw [j10]; exact hT3) (by rw [j9]; exact hg) (by rw [j13]; exact hi) (fun k hk => by
      rw [y2.A (by decide), x2.A (by decide)]
      show up2 (gA h) 258 (20 * T + pre.length) (nI i) 258 (20 * T + k) = _
      rw [List.length_append] at hk
      have hk : k < pre.length + 1 := hk
      by_cases q : k = pre.length
      · subst q
        rw [up2_s, List.getElem_append_right (Nat.le_refl _)]
        simp
      · rw [up2_x (by omega), List.getElem_append_left (by omega)]
        exact h8 k (by omega))
    refine ⟨h3, ?_, z2, z3, f2.trans z4⟩
    have x1' : E (d + 2) 99 [.ref 189, .int (nI i), .int (nI 2), .int (nI (bk 26 c)), .int (nI c)] (sA h 258 (20 * T + pre.length) (nI i)) = some (none, h1) := x1
    have b6 : gA h1 226 (40 * v + c) = nI (bk 25 c) := by rw [f1.A (by decide)]; exact c1
    rw [t_105_29 hs, if_pos (nI_lt hpl (by omega)), pk_mul, nI_add, gd_nI (by omega) (by decide), ix_nI (by omega), rT, r6, pk_mul, nI_add, gd_nI (by omega) (by decide), ix_nI (by omega), gd_nI (by omega) (by decide), ix_nI (by omega), c2, x1', cK_n, t_105_81 hs1, gd_nI (by omega) (by decide), ix_nI (by omega), b6, y1, cK_n, t_105_94 hs2, nI_add]
    rw [List.length_append] at z1
    exact z1
/-- the bag's rest moves down -/
theorem dp_mv {c n M T : Nat} {i2 : Int32} {f : Nat → Int32} (hc : c < 40) (hM : M + n ≤ 200) : ∀ (m k : Nat) (h : AH), k + m = M → Sh h → gA h 257 c = nI M → (∀ j, gA h 256 j = if 200 * c ≤ j ∧ j < 200 * c + k then f (j + n) else f j) →
    ∃ h', Q d 105 113 [some (.ref 189), some (.int (nI c)), some (.int i2), some (.int (nI n)), some (.int (nI k)), none] [] h = Q d 105 113 [some (.ref 189), some (.int (nI c)), some (.int i2), some (.int (nI n)), some (.int (nI M)), none] [] h' ∧ Fr [] [256] h h' ∧ ∀ j, gA h' 256 j = if 200 * c ≤ j ∧ j < 200 * c + M then f (j + n) else f j
  | 0, k, h, e, hs, h1, h2 => by
    have : k = M := by omega
    subst this
    exact ⟨h, rfl, Fr.rfl, h2⟩
  | m + 1, k, h, e, hs, h1, h2 => by
    have rd : gA h 256 (200 * c + n + k) = f (200 * c + n + k) := by
      rw [h2]
      by_cases q : 200 * c ≤ 200 * c + n + k ∧ 200 * c + n + k < 200 * c + k
      · omega
      · rw [if_neg q]
    obtain ⟨h', a1, a2, a3⟩ := dp_mv (T := T) (i2 := i2) (f := f) hc hM m (k + 1) (sA h 256 (200 * c + k) (f (200 * c + n + k))) (by omega) hs.sA h1 (fun j => by
      show up2 (gA h) 256 (200 * c + k) _ 256 j = _
      by_cases q : j = 200 * c + k
      · rw [q, up2_s, if_pos (by omega), show 200 * c + k + n = 200 * c + n + k from by omega]
      · rw [up2_x q, h2 j]
        by_cases q2 : 200 * c ≤ j ∧ j < 200 * c + k
        · rw [if_pos q2, if_pos (by omega)]
        · rw [if_neg q2, if_neg (by omega)])
    refine ⟨h', ?_, (Fr.rfl.sA (by decide)).trans a2, a3⟩
    rw [t_105_113 hs, gd_nI (by omega) (by decide), ix_nI (by omega), h1, if_pos (nI_lt (by omega) (by omega)), pk_mul, nI_add, nI_add, nI_add, gd_nI (by omega) (by decide), gd_nI (by omega) (by decide), ix_nI (by omega), ix_nI (by omega), rd, nI_add]
    exact a1
theorem r_depart (W : WB bk) (hv' : v ≤ 1) {h : AH} {s : St} (hs : Sh h) (hN : gI h 3597 189 = nI v) (B : RB h v bk) (R : RS h s) (w : WS bk s) {c : Nat} (hc : c < bk 0 3) (hg : sG s c ≠ []) : ∃ h', E (d + 3) 105 [.ref 189, .int (nI c)] h = some (none, h') ∧ RS h' (dpS bk c s) ∧ Fr [3676, 3678] XT h h' := by
  have w3 := W.1.2.2.2.1
  obtain ⟨-, -, -, -, -, -, u7, u8, u9, u10⟩ := W.2.2.2.2.2 c hc
  obtain ⟨v1, v2, v3⟩ := w.c
  have wz := v1.2.1
  have hT := TrC.len v1 v2
  have hlen := (w.len c).2
  have hpos := List.length_pos_iff.mpr hg
  obtain ⟨i, hi⟩ := List.exists_mem_of_ne_nil _ hg
  have hT2 : (sT s).length < 200 := by
    have ni : i ∉ rid s := fun q => by
      have h1 := ((v1.2.2.2.2.2.2.1.2 i).mp q).2
      have h2 := (((v1.2.2.2.2.2.1 c).2 i).mp hi).2.1
      omega
    have i1 := (((v1.2.2.2.2.2.1 c).2 i).mp hi).1
    have h3 := nd_len (zN s 2) (i :: rid s) (List.nodup_cons.mpr ⟨ni, v1.2.2.2.2.2.2.1.1⟩) fun x hx => by
      rcases List.mem_cons.mp hx with rfl | hx
      · exact i1
      · exact ((v1.2.2.2.2.2.2.1.2 x).mp hx).1
    rw [List.length_cons] at h3
    have h4 : ∀ l : List (Nat × Nat × List Nat), (∀ t, t ∈ l → 1 ≤ t.2.2.length) → l.length ≤ (l.flatMap fun t => t.2.2).length := fun l => by
      induction l with
      | nil => intro _; exact Nat.le_refl _
      | cons a l ih =>
        intro h
        have h2 := ih fun t ht => h t (List.mem_cons_of_mem _ ht)
        have h3 := h a List.mem_cons_self
        rw [List.flatMap_cons, List.length_append, List.length_cons]
        omega
    have h5 := h4 (sT s) fun x hx => (v2.1 x hx).2.2.2.1
    have := v1.1
    unfold rid at h3
    omega
  have ll : ((sG s c).take (bk 31 c)).length = min (bk 31 c) (sG s c).length := List.length_take
  have ll2 : ((sG s c).take (bk 31 c)).length + ((sG s c).drop (bk 31 c)).length = (sG s c).length := by
    rw [← List.length_append, List.take_append_drop]
  obtain ⟨c1, c2, c3, c4, c5, c6, c7⟩ := B.2.2.2.2.2 c hc
  obtain ⟨r1, r2⟩ := R.2.1.2 c (by omega)
  obtain ⟨h1, a1, a2, a3, a4⟩ := dp_in (d := d) W hv' (T := (sT s).length) hc (l := (sG s c).take (bk 31 c)) (by omega) ((sG s c).take (bk 31 c)) [] h s rfl hs hN B R w.i rfl hT2 (fun t ht => (v2.1 t ht).2.2.2.2.1) (fun k hk => by
    have hk2 : k < (sG s c).length := by omega
    exact ⟨hk2, by rw [getD_ix hk2, List.getElem_take]⟩) (fun j hj => (((v1.2.2.2.2.2.1 c).2 j).mp (List.mem_of_mem_take hj)).1) (fun k hk => absurd hk (Nat.not_lt_zero _))
  have hs1 := a4.sh hs
  obtain ⟨f1, f0, f2, f3, f4, f5, f6, f7, f8, f9⟩ := dpL_f (bk := bk) (c := c) ((sG s c).take (bk 31 c)) s
  obtain ⟨g1, g2⟩ := a2.2.1.2 c (by omega)
  simp only [f3] at g1 g2
  have gT : gI h1 3676 189 = nI (sT s).length := by have := a2.2.2.1.1; rw [f4] at this; exact this
  have gz : gI h1 3677 189 = nI (zN s 0) := by have := a2.1.2.1; rw [f6] at this; exact this
  obtain ⟨h2, b1, b2, b3⟩ := dp_mv (d := d + 2) (T := 0) (i2 := nI (40 * v + c)) (c := c) (n := ((sG s c).take (bk 31 c)).length) (M := ((sG s c).drop (bk 31 c)).length) (f := gA h1 256) (by omega) (by omega) ((sG s c).drop (bk 31 c)).length 0 (sA h1 257 c (nI ((sG s c).drop (bk 31 c)).length)) (by omega) hs1.sA (show up2 (gA h1) 257 c _ 257 c = _ from up2_s) (fun j => by rw [if_neg (by omega)]; rfl)
  have hs2 := b2.sh hs1.sA
  have c31 : gA h2 231 (40 * v + c) = nI (bk 30 c) := by
    rw [b2.A (by decide)]
    show gA h1 231 _ = _
    rw [a4.A (by decide)]; exact c6
  have gT2 : gI h2 3676 189 = nI (sT s).length := by rw [b2.I (by decide)]; exact gT
  have gz2 : gI h2 3677 189 = nI (zN s 0) := by rw [b2.I (by decide)]; exact gz
  have g57 : gA h2 257 c = nI ((sG s c).drop (bk 31 c)).length := by
    rw [b2.A (by decide)]
    exact (up2_s : up2 (gA h1) 257 c _ 257 c = _)
  have f2' : Fr [3678] XT h h2 := (a4.wk (by decide) (by decide)).trans ((Fr.rfl.sA (by decide)).trans (b2.wk (by decide) (by decide)))
  have fin : Fr [3676, 3678] XT h (sI (sA (sA (sA h2 259 (sT s).length (nI ((sG s c).take (bk 31 c)).length)) 260 (sT s).length (nI c)) 261 (sT s).length (nI (zN s 0 + bk 30 c))) 3676 189 (nI ((sT s).length + 1))) := ((((f2'.wk (by decide) (by decide)).sA (by decide)).sA (by decide)).sA (by decide)).sI (by decide)
  refine ⟨_, ?_, ?_, fin⟩
  · rw [t_105 hs, gd_nI (by omega) (by decide), ix_nI (by omega), hN, r1, pk_mul, nI_add, gd_nI (by omega) (by decide), ix_nI (by omega), c7, r_least hs (by omega) (by omega), cK_v, t_105_25 hs, show min (sG s c).length (bk 31 c) = ((sG s c).take (bk 31 c)).length from by omega]
    have a1' : Q (d + 2) 105 29 [some (.ref 189), some (.int (nI c)), some (.int (nI (40 * v + c))), some (.int (nI ((sG s c).take (bk 31 c)).length)), some (.int (nI 0)), none] [] h = _ := a1
    rw [a1', t_105_29 hs1, if_neg (nI_nlt (Nat.le_refl _) (by omega)), gd_nI (by omega) (by decide), gd_nI (by omega) (by decide), ix_nI (by omega), g1, pk_sub (by omega), show (sG s c).length - ((sG s c).take (bk 31 c)).length = ((sG s c).drop (bk 31 c)).length from by omega, b1, t_105_113 hs2, gd_nI (by omega) (by decide), ix_nI (by omega), g57, if_neg (nI_nlt (Nat.le_refl _) (by omega)), gT2, gd_nI (by omega) (by decide), gd_nI (by omega) (by decide), gd_nI (by omega) (by decide), gd_nI (by omega) (by decide), ix_nI (by omega), ix_nI (by omega), c31, gz2, nI_add, nI_add]
  · have F : Fr [3676] [256, 257, 259, 260, 261] h1 (sI (sA (sA (sA h2 259 (sT s).length (nI ((sG s c).take (bk 31 c)).length)) 260 (sT s).length (nI c)) 261 (sT s).length (nI (zN s 0 + bk 30 c))) 3676 189 (nI ((sT s).length + 1))) := (((((Fr.rfl.sA (by decide)).trans (b2.wk (by decide) (by decide))).sA (by decide)).sA (by decide)).sA (by decide)).sI (by decide)
    refine ⟨a2.1.fr F (by decide) (by decide), ⟨fun o ho => ?_, fun c' hc' => ?_⟩, ⟨?_, fun t ht => ?_⟩, a2.2.2.2.fr F (by decide) (by decide)⟩
    · rw [F.A (by decide), F.A (by decide)]; exact a2.2.1.1 o ho
    · show gA h2 257 c' = nI (up1 (sG (dpL bk c ((sG s c).take (bk 31 c)) s)) c ((sG s c).drop (bk 31 c)) c').length ∧ ∀ k (hk : k < (up1 (sG (dpL bk c ((sG s c).take (bk 31 c)) s)) c ((sG s c).drop (bk 31 c)) c').length), gA h2 256 (200 * c' + k) = nI (up1 (sG (dpL bk c ((sG s c).take (bk 31 c)) s)) c ((sG s c).drop (bk 31 c)) c')[k]
      rw [f3]
      by_cases q : c' = c
      · subst q
        have e1 : up1 (sG s) c' ((sG s c').drop (bk 31 c')) c' = (sG s c').drop (bk 31 c') := up1_s
        simp only [e1]
        refine ⟨g57, fun k hk => ?_⟩
        rw [b3, if_pos (by omega), show 200 * c' + k + ((sG s c').take (bk 31 c')).length = 200 * c' + (((sG s c').take (bk 31 c')).length + k) from by omega, g2 _ (by omega), List.getElem_drop]
        congr 2
        have : 0 < ((sG s c').drop (bk 31 c')).length := by omega
        rw [List.length_drop] at this
        omega
      · have e1 : up1 (sG s) c ((sG s c).drop (bk 31 c)) c' = sG s c' := up1_x q
        obtain ⟨k1, k2⟩ := a2.2.1.2 c' hc'
        simp only [f3] at k1 k2
        have hl3 := (w.len c').2
        simp only [e1]
        refine ⟨?_, fun k hk => ?_⟩
        · rw [b2.A (by decide)]
          exact (up2_x q : up2 (gA h1) 257 c _ 257 c' = _).trans k1
        · rw [b3, if_neg (by omega)]
          exact k2 k hk
    · show up2 (gI h2) 3676 189 _ 3676 189 = nI (sT s ++ [(c, zN s 0 + bk 30 c, (sG s c).take (bk 31 c))]).length
      rw [up2_s, List.length_append]; rfl
    · have ht : t < (sT s ++ [(c, zN s 0 + bk 30 c, (sG s c).take (bk 31 c))]).length := ht
      have ht2 : t < (sT s).length + 1 := by rw [List.length_append] at ht; exact ht
      show up2 (up2 (up2 (gA h2) 259 (sT s).length (nI ((sG s c).take (bk 31 c)).length)) 260 (sT s).length (nI c)) 261 (sT s).length (nI (zN s 0 + bk 30 c)) 260 t = nI (sT s ++ [(c, zN s 0 + bk 30 c, (sG s c).take (bk 31 c))])[t].1 ∧ up2 (up2 (up2 (gA h2) 259 (sT s).length (nI ((sG s c).take (bk 31 c)).length)) 260 (sT s).length (nI c)) 261 (sT s).length (nI (zN s 0 + bk 30 c)) 261 t = nI (sT s ++ [(c, zN s 0 + bk 30 c, (sG s c).take (bk 31 c))])[t].2.1 ∧ up2 (up2 (up2 (gA h2) 259 (sT s).length (nI ((sG s c).take (bk 31 c)).length)) 260 (sT s).length (nI c)) 261 (sT s).length (nI (zN s 0 + bk 30 c)) 259 t = nI (sT s ++ [(c, zN s 0 + bk 30 c, (sG s c).take (bk 31 c))])[t].2.2.length ∧ ∀ k (hk : k < (sT s ++ [(c, zN s 0 + bk 30 c, (sG s c).take (bk 31 c))])[t].2.2.length), gA h2 258 (20 * t + k) = nI (sT s ++ [(c, zN s 0 + bk 30 c, (sG s c).take (bk 31 c))])[t].2.2[k]
      have e60 : up2 (up2 (up2 (gA h2) 259 (sT s).length (nI ((sG s c).take (bk 31 c)).length)) 260 (sT s).length (nI c)) 261 (sT s).length (nI (zN s 0 + bk 30 c)) 260 t = up1 (gA h1 260) (sT s).length (nI c) t := by
        rw [up2_k (by decide), up2_r, up2_k (by decide), b2.A (by decide)]; rfl
      have e61 : up2 (up2 (up2 (gA h2) 259 (sT s).length (nI ((sG s c).take (bk 31 c)).length)) 260 (sT s).length (nI c)) 261 (sT s).length (nI (zN s 0 + bk 30 c)) 261 t = up1 (gA h1 261) (sT s).length (nI (zN s 0 + bk 30 c)) t := by
        rw [up2_r, up2_k (by decide), up2_k (by decide), b2.A (by decide)]; rfl
      have e59 : up2 (up2 (up2 (gA h2) 259 (sT s).length (nI ((sG s c).take (bk 31 c)).length)) 260 (sT s).length (nI c)) 261 (sT s).length (nI (zN s 0 + bk 30 c)) 259 t = up1 (gA h1 259) (sT s).length (nI ((sG s c).take (bk 31 c)).length) t := by
        rw [up2_k (by decide), up2_k (by decide), up2_r, b2.A (by decide)]; rfl
      have e58 : gA h2 258 = gA h1 258 := by rw [b2.A (by decide)]; rfl
      rw [e60, e61, e59, e58]
      by_cases q : t = (sT s).length
      · subst q
        have e1 : (sT s ++ [(c, zN s 0 + bk 30 c, (sG s c).take (bk 31 c))])[(sT s).length] = (c, zN s 0 + bk 30 c, (sG s c).take (bk 31 c)) := by
          rw [List.getElem_append_right (Nat.le_refl _)]
          simp
        simp only [e1]
        rw [up1_s, up1_s, up1_s]
        exact ⟨rfl, rfl, rfl, fun k hk => a3 k hk⟩
      · have ht3 : t < (sT s).length := by omega
        have e1 : (sT s ++ [(c, zN s 0 + bk 30 c, (sG s c).take (bk 31 c))])[t] = (sT s)[t] := List.getElem_append_left ht3
        have rr := a2.2.2.1
        unfold RS3 at rr
        simp only [f4] at rr
        have r2 := rr.2 t ht3
        simp only [e1]
        rw [up1_x q, up1_x q, up1_x q]
        exact r2
end RMN3
