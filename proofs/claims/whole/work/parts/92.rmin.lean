/-! ===== MINUTES: the reference ===== -/
theorem RS.n9 {h : AH} {s : St} (R : RS h s) (i x : Nat) : RS h (stI s 9 i x) := by
  obtain ⟨⟨a1, a2, a3, a4, a5⟩, b, c, e⟩ := R
  exact ⟨⟨a1, a2, a3, a4, fun j hj => a5 j hj⟩, b, c, e⟩
section RMN
variable {d : Nat} {bk : Bk} {v : Nat}
theorem r_least {h : AH} (hs : Sh h) {a b : Nat} (ha : a < 2 ^ 31) (hb : b < 2 ^ 31) : E (d + 1) 78 [.int (nI a), .int (nI b)] h = some (some (.int (nI (min a b))), h) := by
  rw [t_78 hs]
  by_cases q : a < b
  · rw [if_pos (nI_lt q hb), Nat.min_eq_left (by omega)]
  · rw [if_neg (nI_nlt (by omega) ha), Nat.min_eq_right (by omega)]
/-- an item is put behind a shelf -/
theorem r_shelve {h : AH} {s : St} (hs : Sh h) (R : RS h s) (w : WI bk s) {i o : Nat} (hi : i < zN s 2) (ho : o < 16) (hl : ∀ o, (sH s o).length ≤ 200) (hlo : (sH s o).length < 200) : ∃ h', E (d + 2) 98 [.ref 189, .int (nI i), .int (nI o)] h = some (none, h') ∧ Fr [] [248, 249, 250, 253, 254, 255] h h' ∧ RS h' (cmS (stH s o (sH s o ++ [i])) i 0 o none) := by
  have w1 := w.1
  have g1 := (R.2.1.1 o ho).1
  have f2 : Fr [] [254, 255] h (sA (sA h 254 (200 * o + (sH s o).length) (nI i)) 255 o (nI ((sH s o).length + 1))) := (Fr.rfl.sA (by decide)).sA (by decide)
  have R2 : RS (sA (sA h 254 (200 * o + (sH s o).length) (nI i)) 255 o (nI ((sH s o).length + 1))) (stH s o (sH s o ++ [i])) := by
    refine ⟨R.1.fr f2 (by decide) (by decide), ⟨fun o' ho' => ?_, fun c hc => ?_⟩, R.2.2.1.fr f2 (by decide) (by decide), R.2.2.2.fr f2 (by decide) (by decide)⟩
    · obtain ⟨b1, b2⟩ := R.2.1.1 o' ho'
      have hl3 := hl o'
      show up2 (gA h) 255 o _ 255 o' = nI (up1 (sH s) o (sH s o ++ [i]) o').length ∧ ∀ k (hk : k < (up1 (sH s) o (sH s o ++ [i]) o').length), up2 (gA h) 254 (200 * o + (sH s o).length) (nI i) 254 (200 * o' + k) = nI (up1 (sH s) o (sH s o ++ [i]) o')[k]
      by_cases q : o' = o
      · subst q
        have e1 : up1 (sH s) o' (sH s o' ++ [i]) o' = sH s o' ++ [i] := up1_s
        simp only [e1]
        refine ⟨by rw [up2_s, List.length_append]; rfl, fun k hk => ?_⟩
        rw [List.length_append] at hk
        by_cases q2 : k = (sH s o').length
        · subst q2
          rw [up2_s, List.getElem_append_right (Nat.le_refl _)]
          simp
        · have hk2 : k < (sH s o').length := by
            have : k < (sH s o').length + 1 := hk
            omega
          rw [up2_x (by omega), List.getElem_append_left hk2]
          exact b2 k hk2
      · have e1 : up1 (sH s) o (sH s o ++ [i]) o' = sH s o' := up1_x q
        simp only [e1]
        refine ⟨by rw [up2_x q]; exact b1, fun k hk => ?_⟩
        rw [up2_x (by omega)]
        exact b2 k hk
    · rw [f2.A (by decide), f2.A (by decide)]; exact R.2.1.2 c hc
  obtain ⟨h3, x1, x2, x3⟩ := r_comes (d := d) (bk := bk) (i := i) (wh := 0) (o := o) (c := none) (hs.sA.sA (k := 255) (x := o) (v := nI ((sH s o).length + 1)) : Sh (sA (sA h 254 (200 * o + (sH s o).length) (nI i)) 255 o (nI ((sH s o).length + 1)))) R2 (show WI bk (stH s o (sH s o ++ [i])) from w) hi
  refine ⟨h3, ?_, (f2.wk (by decide) (by decide)).trans (x2.wk (by decide) (by decide)), x3⟩
  have x1' : E (d + 1) 99 [.ref 189, .int (nI i), .int (nI 0), .int (nI o), .int (-1)] (sA (sA h 254 (200 * o + (sH s o).length) (nI i)) 255 o (nI ((sH s o).length + 1))) = some (none, h3) := x1
  rw [t_98 hs, gd_nI (by omega) (by decide), ix_nI (by omega), g1, pk_mul, nI_add, gd_nI (by omega) (by decide), gd_nI (by omega) (by decide), gd_nI (by omega) (by decide), nI_add, ix_nI (by omega), x1', cK_n, t_98_36 (x2.sh hs.sA.sA)]
theorem WSc.len {s : St} {rl : List Nat} (w : WSc bk s rl) (o : Nat) : (sH s o).length ≤ 200 ∧ (sG s o).length ≤ 200 ∧ rl.length ≤ 200 := by
  have h1 := nd_len (zN s 2) (sH s o) (w.2.2.2.2.1 o).1 fun x hx => (((w.2.2.2.2.1 o).2 x).mp hx).1
  have h2 := nd_len (zN s 2) (sG s o) (w.2.2.2.2.2.1 o).1 fun x hx => (((w.2.2.2.2.2.1 o).2 x).mp hx).1
  have h3 := nd_len (zN s 2) rl w.2.2.2.2.2.2.1.1 fun x hx => ((w.2.2.2.2.2.2.1.2 x).mp hx).1
  have := w.1
  omega
theorem WSc.lt {s : St} {rl : List Nat} (w : WSc bk s rl) {i : Nat} (hi : i ∈ rl) (o : Nat) : (sH s o).length < zN s 2 := by
  obtain ⟨i1, i2⟩ := (w.2.2.2.2.2.2.1.2 i).mp hi
  have ni : i ∉ sH s o := fun q => by
    have := (((w.2.2.2.2.1 o).2 i).mp q).2.1
    omega
  have := nd_len (zN s 2) (i :: sH s o) (List.nodup_cons.mpr ⟨ni, (w.2.2.2.2.1 o).1⟩) fun x hx => by
    rcases List.mem_cons.mp hx with rfl | hx
    · exact i1
    · exact (((w.2.2.2.2.1 o).2 x).mp hx).1
  rw [List.length_cons] at this
  omega
/-- the items of a trip come -/
theorem ar_in (W : WB bk) (hv' : v ≤ 1) {TL : List (Nat × Nat × List Nat)} {t c due stay o : Nat} {xs : List Nat} (ht : t < TL.length) (hT : TL[t] = (c, due, xs)) (hTl : TL.length ≤ 200) (hx : xs.length ≤ 20) (ho : o < bk 0 0) : ∀ (ys pre : List Nat) (h : AH) (s : St) (rl : List Nat), pre ++ ys = xs → Sh h → gI h 3597 189 = nI v → RB h v bk → RS h (stT s TL) → WSc bk s rl → ys.Nodup → (∀ i, i ∈ ys → i ∈ rl ∧ iN s 9 i = zN s 0 ∧ iN s 6 i = o) →
    ∃ h', Q (d + 2) 103 48 [some (.ref 189), some (.int (nI stay)), some (.int (nI t)), some (.int (nI o)), some (.int (nI pre.length))] [] h = Q (d + 2) 103 4 [some (.ref 189), some (.int (nI stay)), some (.int (nI (t + 1))), none, none] [] h' ∧ RS h' (stT (avL bk ys s) TL) ∧ Fr [3678] [248, 249, 250, 253, 254, 255] h h'
  | [], pre, h, s, rl, e, hs, hN, B, R, w, nd, hi => by
    obtain ⟨r1, r2, r3, r4⟩ := R.2.2.1.2 t ht
    simp only [show (sT (stT s TL))[t] = (c, due, xs) from hT] at r3
    have el : pre.length = xs.length := by rw [← e, List.append_nil]
    refine ⟨h, ?_, R, Fr.rfl⟩
    rw [t_103_48 hs, gd_nI (by omega) (by decide), ix_nI (by omega), r3, if_neg (nI_nlt (by omega) (by omega)), nI_add]
  | i :: ys, pre, h, s, rl, e, hs, hN, B, R, w, nd, hi => by
    have w0 := W.1.1
    obtain ⟨n1, n2⟩ := List.nodup_cons.mp nd
    obtain ⟨r1, r2, r3, r4⟩ := R.2.2.1.2 t ht
    simp only [show (sT (stT s TL))[t] = (c, due, xs) from hT] at r3 r4
    have el : pre.length + (ys.length + 1) = xs.length := by rw [← e, List.length_append, List.length_cons]
    have hpl : pre.length < xs.length := by omega
    have r4k := r4 pre.length hpl
    have ei : xs[pre.length] = i := by
      simp only [← e]
      rw [List.getElem_append_right (Nat.le_refl _)]
      simp
    rw [ei] at r4k
    obtain ⟨hi1, hi2, hi3⟩ := hi i List.mem_cons_self
    have il := ((w.2.2.2.2.2.2.1.2 i).mp hi1).1
    have hl2 := w.lt hi1 o
    have w1 := w.1
    obtain ⟨h1, a1, a2, a3⟩ := r_shelve (d := d) hs R (show WI bk (stT s TL) from w.i) (i := i) (o := o) il (by omega) (fun o => (w.len o).1) (show (sH s o).length < 200 by omega)
    have hs1 := a2.sh hs
    have wi2 : WI bk (cmS (stH (stT s TL) o (sH (stT s TL) o ++ [i])) i 0 o none) := w.i
    obtain ⟨h2, b1, b2, b3⟩ := r_note (d := d) (i := i) (wh := 3) (o := o) hs1 W hv' (by rw [a2.I (by decide)]; exact hN) (B.fr a2 (by decide)) a3 wi2 il (by decide) (by omega)
    have hs2 := b2.sh hs1
    have f2 : Fr [3678] [248, 249, 250, 253, 254, 255] h h2 := (a2.wk (by decide) (by decide)).trans (b2.wk (by decide) (by decide))
    have b3' : RS h2 (stT (shS bk s i o) TL) := by
      have : ntS bk (stT (cmS (stH s o (sH s o ++ [i])) i 0 o none) TL) i 3 o = stT (shS bk s i o) TL := ntS_T i 3 o TL
      rw [← this]; exact b3
    obtain ⟨g1, g2, -, -, -, -, -, -, -, -, g11, -⟩ := sh_f (bk := bk) (s := s) i o
    obtain ⟨h3, c1, c2, c3⟩ := ar_in W hv' ht hT hTl hx ho ys (pre ++ [i]) h2 (shS bk s i o) (rl.erase i) (by rw [List.append_assoc]; exact e) hs2 (by rw [f2.I (by decide)]; exact hN) (B.fr f2 (by decide)) b3' (w.sh hi1 ho) n2 (fun j hj => by
      obtain ⟨j1, j2, j3⟩ := hi j (List.mem_cons_of_mem _ hj)
      have ne : j ≠ i := fun q => n1 (q ▸ hj)
      refine ⟨w.2.2.2.2.2.2.1.1.mem_erase_iff.mpr ⟨ne, j1⟩, ?_, ?_⟩
      · rw [(g1 9 j ne).1, g11]; exact j2
      · rw [(g1 6 j ne).1]; exact j3)
    refine ⟨h3, ?_, ?_, f2.trans c3⟩
    · rw [t_103_48 hs, gd_nI (by omega) (by decide), ix_nI (by omega), r3, if_pos (nI_lt hpl (by omega)), pk_mul, nI_add, gd_nI (by omega) (by decide), ix_nI (by omega), r4k, a1, cK_n, t_103_76 hs1, pk_mul, nI_add, gd_nI (by omega) (by decide), ix_nI (by omega), a2.A (by decide), r4k, b1, cK_n, t_103_94 hs2, nI_add]
      rw [List.length_append] at c1
      exact c1
    · have : avL bk (i :: ys) s = avL bk ys (shS bk s i o) := by
        show avL bk ys (if iN s 9 i = zN s 0 then shS bk s i (iN s 6 i) else s) = _
        rw [if_pos hi2, hi3]
      rw [this]; exact c2
/-- a trip's row is copied down -/
theorem ar_cp {t stay n : Nat} {f : Nat → Int32} {y1 y2 y3 : Int32} (ht : t < 200) (hst : stay ≤ t) (hn : n ≤ 20) : ∀ (m k : Nat) (h : AH), k + m = n → Sh h → gA h 259 t = nI n → (∀ j, gA h 258 j = if 20 * stay ≤ j ∧ j < 20 * stay + k then f (j - 20 * stay + 20 * t) else f j) →
    ∃ h', Q d 103 105 [some (.ref 189), some (.int (nI stay)), some (.int (nI t)), some (.int (nI k)), none] [] h = Q d 103 4 [some (.ref 189), some (.int (nI (stay + 1))), some (.int (nI (t + 1))), none, none] [] h' ∧ Fr [] [258, 259, 260, 261] h h' ∧ (∀ j, gA h' 258 j = if 20 * stay ≤ j ∧ j < 20 * stay + n then f (j - 20 * stay + 20 * t) else f j) ∧ gA h' 259 = up1 (gA h 259) stay (gA h 259 t) ∧ gA h' 260 = up1 (gA h 260) stay (gA h 260 t) ∧ gA h' 261 = up1 (gA h 261) stay (gA h 261 t)
  | 0, k, h, e, hs, h1, h2 => by
    refine ⟨sA (sA (sA h 259 stay (gA h 259 t)) 260 stay (gA h 260 t)) 261 stay (gA h 261 t), ?_, ((Fr.rfl.sA (by decide)).sA (by decide)).sA (by decide), fun j => ?_, ?_, ?_, ?_⟩
    · rw [t_103_105 hs, gd_nI (by omega) (by decide), ix_nI (by omega), h1, if_neg (nI_nlt (by omega) (by omega)), gd_nI (by omega) (by decide), gd_nI (by omega) (by decide), gd_nI (by omega) (by decide), gd_nI (by omega) (by decide), gd_nI (by omega) (by decide), gd_nI (by omega) (by decide), ix_nI (by omega), nI_add, nI_add]
    · have : k = n := by omega
      rw [← this]; exact h2 j
    · show up2 (up2 (up2 (gA h) 259 stay (gA h 259 t)) 260 stay (gA h 260 t)) 261 stay (gA h 261 t) 259 = _
      rw [up2_k (by decide), up2_k (by decide), up2_r]
    · show up2 (up2 (up2 (gA h) 259 stay (gA h 259 t)) 260 stay (gA h 260 t)) 261 stay (gA h 261 t) 260 = _
      rw [up2_k (by decide), up2_r, up2_k (by decide)]
    · show up2 (up2 (up2 (gA h) 259 stay (gA h 259 t)) 260 stay (gA h 260 t)) 261 stay (gA h 261 t) 261 = _
      rw [up2_r, up2_k (by decide), up2_k (by decide)]
  | m + 1, k, h, e, hs, h1, h2 => by
    have rd : gA h 258 (20 * t + k) = f (20 * t + k) := by
      rw [h2]
      by_cases q : 20 * stay ≤ 20 * t + k ∧ 20 * t + k < 20 * stay + k
      · omega
      · rw [if_neg q]
    obtain ⟨h', a1, a2, a3, a4, a5, a6⟩ := ar_cp (f := f) (y1 := y1) (y2 := y2) (y3 := y3) ht hst hn m (k + 1) (sA h 258 (20 * stay + k) (f (20 * t + k))) (by omega) hs.sA h1 (fun j => by
      show up2 (gA h) 258 (20 * stay + k) _ 258 j = _
      by_cases q : j = 20 * stay + k
      · rw [q, up2_s, if_pos (by omega), show 20 * stay + k - 20 * stay + 20 * t = 20 * t + k from by omega]
      · rw [up2_x q, h2 j]
        by_cases q2 : 20 * stay ≤ j ∧ j < 20 * stay + k
        · rw [if_pos q2, if_pos (by omega)]
        · rw [if_neg q2, if_neg (by omega)])
    refine ⟨h', ?_, (Fr.rfl.sA (by decide)).trans a2, a3, a4, a5, a6⟩
    rw [t_103_105 hs, gd_nI (by omega) (by decide), ix_nI (by omega), h1, if_pos (nI_lt (by omega) (by omega)), pk_mul, nI_add, pk_mul, nI_add, gd_nI (by omega) (by decide), gd_nI (by omega) (by decide), ix_nI (by omega), ix_nI (by omega), rd, nI_add]
    exact a1
end RMN
