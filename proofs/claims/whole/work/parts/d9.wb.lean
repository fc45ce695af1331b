/-! ===== WHAT IS TOLD KEEPS A BOOK IN ORDER ===== -/
theorem nc_pk : ∀ (f : Nat) (l : List Nat), l.length ≤ f → (∀ x, x ∈ l → x ≠ 0 ∧ x < 37) → ncod f (pkN 0 l) = l ∧ (l ≠ [] → 0 < pkN 0 l)
  | 0, l, hl, _ => by
    obtain rfl : l = [] := List.eq_nil_of_length_eq_zero (by omega)
    exact ⟨rfl, fun z => absurd rfl z⟩
  | f + 1, l, hl, hx => by
    by_cases e : l = []
    · subst e; exact ⟨nc_0, fun z => absurd rfl z⟩
    · obtain ⟨l', x, rfl⟩ : ∃ l' x, l = l' ++ [x] := ⟨l.dropLast, l.getLast e, (List.dropLast_concat_getLast e).symm⟩
      rw [List.length_append, List.length_singleton] at hl
      obtain ⟨a, b⟩ := nc_pk f l' (by omega) fun y hy => hx y (List.mem_append_left _ hy)
      have hx' := hx x (List.mem_append_right _ List.mem_cons_self)
      have e2 : pkN 0 (l' ++ [x]) = 37 * pkN 0 l' + x := by unfold pkN; rw [List.foldl_append]; rfl
      have p : 0 < 37 * pkN 0 l' + x := by omega
      refine ⟨?_, fun _ => by rw [e2]; exact p⟩
      rw [e2, nc_s (by omega), show (37 * pkN 0 l' + x) / 37 = pkN 0 l' from by omega, show (37 * pkN 0 l' + x) % 37 = x from by omega, a]
/-- a name's codes -/
theorem tN_c {t : Tp} {k : Nat} (h : tK t k = 2) : tV t k = pkN 0 (sl (tcS t) (tS t k) (tE t k - tS t k)) ∧ 0 < tE t k - tS t k ∧ tE t k - tS t k ≤ 12 ∧ ∀ x, x ∈ sl (tcS t) (tS t k) (tE t k - tS t k) → x ≠ 0 ∧ x < 37 := by
  have ha := tkP_b (t := t) k
  have tb := tok_b ha
  unfold tK tV tS tE at *
  have n0 : (tok t (tkP t k)).1 ≠ 0 := by rw [h]; decide
  have lt := tb.2.2.2.2 n0
  unfold tok at h lt ⊢
  generalize skB t (t.1 - tkP t k) (tkP t k) = b at *
  unfold tokB at h lt ⊢
  by_cases q : t.1 ≤ b
  · rw [if_pos q] at h; exact absurd h (by dsimp only; decide)
  · rw [if_neg q] at h lt ⊢
    by_cases q1 : tcS t b = 0
    · rw [if_pos q1] at h
      have ne : ∀ c, c ∈ sgL → c ≠ 2 := by decide
      by_cases q3 : t.2 b ∈ sgL
      · rw [if_pos q3] at h; exact absurd h (ne _ q3)
      · rw [if_neg q3] at h; exact absurd h (by dsimp only; decide)
    · rw [if_neg q1] at h lt ⊢
      by_cases q2 : 27 ≤ tcS t b
      · rw [if_pos q2] at h
        unfold tokR at h
        rw [if_pos rfl] at h
        by_cases q3 : 9 < rnB t 27 (t.1 - b) b - b
        · rw [if_pos q3] at h; exact absurd h (by dsimp only; decide)
        · rw [if_neg q3] at h; exact absurd h (by dsimp only; decide)
      · rw [if_neg q2] at h lt ⊢
        unfold tokR at h lt ⊢
        rw [if_neg (show ¬ (1 : Nat) = 27 by decide)] at h lt ⊢
        by_cases q3 : 12 < rnB t 1 (t.1 - b) b - b
        · rw [if_pos q3] at h; exact absurd h (by dsimp only; decide)
        · dsimp only at lt ⊢
          refine ⟨rfl, by omega, by omega, ?_⟩
          exact sl_m (P := fun x => x ≠ 0 ∧ x < 37) _ _ fun i h1 h2 => ⟨by
            have := rn_in (t := t) (m := 1) (t.1 - b) b i h1 (by omega)
            unfold tcS; omega, tcd_b⟩
theorem tN_n {t : Tp} {k : Nat} (h : tK t k = 2) : ncod 12 (tV t k) = sl (tcS t) (tS t k) (tE t k - tS t k) ∧ 0 < tV t k ∧ nzN (tV t k) := by
  obtain ⟨a, b, c, e⟩ := tN_c h
  obtain ⟨x, y⟩ := nc_pk 12 (sl (tcS t) (tS t k) (tE t k - tS t k)) (by rw [sl_l]; exact c) e
  rw [a]
  refine ⟨x, y (fun z => ?_), ?_⟩
  · have := congrArg List.length z
    rw [sl_l, List.length_nil] at this; omega
  · unfold nzN; rw [x]; exact fun z hz => (e z hz).1
/-- all that a book keeps to while it is read -/
def WX (bk : Bk) : Prop := WB bk ∧ WN bk ∧ (∀ s, s < bk 0 2 → bk 17 s < 37 ^ 12) ∧ ∀ i j, i < bk 0 0 → j < bk 0 0 → bk 1 i = bk 1 j → i = j
theorem ff_z : ∀ {l : List Nat}, ff l = 0 → ∀ c, c ∈ l → c = 0
  | [], _, c, hc => absurd hc List.not_mem_nil
  | a :: l, h, c, hc => by
    have e : ff (a :: l) = if a = 0 then ff l else a := rfl
    rw [e] at h
    by_cases q : a = 0
    · rw [if_pos q] at h
      rcases List.mem_cons.mp hc with w | w
      · rw [w]; exact q
      · exact ff_z h c w
    · rw [if_neg q] at h; exact absurd h q
def stF (t : Tp) (k : Nat) (bk : Bk) : Nat := if isW t k (kw 1) then st (ff (oFs t k bk)) (fS t (k + 5) 59) else if isW t k (kw 2) then st (ff (sFs t k bk)) (fS t (k + 3) 59) else if isW t k (kw 3) then st (ff (pFs t k bk)) (fS t (pQ t k + 10) 59) else if isW t k (kw 15) then st (ff (vFs t k bk)) (fS t (ruP t (k + 5) (rlF t (k + 5) 9 0).2) 59) else if isW t k (kw 28) then st (ff (cFs t k bk)) (fS t (k + 13) 59) else fX t 1 k
def stN (t : Tp) (k : Nat) : Nat := if isW t k (kw 1) then k + 6 else if isW t k (kw 2) then k + 4 else if isW t k (kw 3) then pQ t k + 11 else if isW t k (kw 15) then ruP t (k + 5) (rlF t (k + 5) 9 0).2 + 1 else k + 14
def stB (t : Tp) (k : Nat) (bk : Bk) : Bk := if isW t k (kw 1) then oBk t k bk else if isW t k (kw 2) then sBk t k bk else if isW t k (kw 3) then pBk t k bk else if isW t k (kw 15) then vBk t k bk else cBk t k bk
theorem pQ_b {t : Tp} {k : Nat} : k < pQ t k := by
  unfold pQ qsN pA; split <;> omega
theorem ruP_b {t : Tp} {k : Nat} : ∀ i, k ≤ ruP t k i
  | 0 => Nat.le_refl _
  | i + 1 => by have := ruP_b (t := t) (k := k) i; rw [ruP]; omega
theorem stN_b {t : Tp} {k : Nat} : k < stN t k := by
  have a := pQ_b (t := t) (k := k)
  have b := ruP_b (t := t) (k := k + 5) (rlF t (k + 5) 9 0).2
  unfold stN; (repeat' split) <;> omega
section WXS
variable {t : Tp} {k : Nat} {bk : Bk}
theorem WX.o (h : WX bk) (z : ff (oFs t k bk) = 0) : WX (oBk t k bk) := by
  obtain ⟨W, N, V, D⟩ := h
  obtain ⟨⟨c0, c1, c2, c3, c4⟩, w1, w2, w3, w4, w5⟩ := W
  have f0 := ff_z z _ (List.mem_cons_self)
  have f1 := fM_0 (ff_z z (fM t (k + 1) (bk 1) (bk 0 0)) (by unfold oFs; simp))
  have f2 := fN_0 (ff_z z (fN t (k + 2) 1 999) (by unfold oFs; simp))
  have f3 := fN_0 (ff_z z (fN t (k + 3) 0 999) (by unfold oFs; simp))
  have f4 := fN_0 (ff_z z (fN t (k + 4) 0 999) (by unfold oFs; simp))
  have n16 : bk 0 0 ≠ 16 := fun e => by rw [if_pos e] at f0; exact absurd f0 (fX_n (by decide))
  have k0 : oBk t k bk 0 0 = bk 0 0 + 1 := up2_s
  have kx : ∀ j, j ≠ 0 → oBk t k bk 0 j = bk 0 j := fun j hj => by
    unfold oBk; rw [up2_x hj, up2_k (by decide), up2_k (by decide), up2_k (by decide), up2_k (by decide)]
  have kk : ∀ j, 5 ≤ j → oBk t k bk j = bk j := fun j hj => by
    unfold oBk; rw [up2_k (by omega), up2_k (by omega), up2_k (by omega), up2_k (by omega), up2_k (by omega)]
  have kn1 : ∀ i, oBk t k bk 1 i = if i = bk 0 0 then tV t (k + 1) else bk 1 i := fun i => by unfold oBk; simp [up2, up1]
  have kn2 : ∀ i, oBk t k bk 2 i = if i = bk 0 0 then tV t (k + 2) else bk 2 i := fun i => by unfold oBk; simp [up2, up1]
  have kn3 : ∀ i, oBk t k bk 3 i = if i = bk 0 0 then tV t (k + 3) else bk 3 i := fun i => by unfold oBk; simp [up2, up1]
  have kn4 : ∀ i, oBk t k bk 4 i = if i = bk 0 0 then tV t (k + 4) else bk 4 i := fun i => by unfold oBk; simp [up2, up1]
  have vb := (tV_b (t := t) (k := k + 1)).1 f1.1
  have nn := tN_n f1.1
  unfold WX WB WN
  simp only [k0, kx 1 (by decide), kx 2 (by decide), kx 3 (by decide), kx 4 (by decide), kk 5 (by decide), kk 6 (by decide), kk 7 (by decide), kk 8 (by decide), kk 9 (by decide), kk 10 (by decide), kk 11 (by decide), kk 12 (by decide), kk 13 (by decide), kk 14 (by decide), kk 15 (by decide), kk 16 (by decide), kk 17 (by decide), kk 18 (by decide), kk 19 (by decide), kk 20 (by decide), kk 21 (by decide), kk 22 (by decide), kk 23 (by decide), kk 24 (by decide), kk 25 (by decide), kk 26 (by decide), kk 27 (by decide), kk 28 (by decide), kk 29 (by decide), kk 30 (by decide), kk 31 (by decide)]
  refine ⟨⟨⟨by omega, c1, c2, c3, c4⟩, fun i hi => ?_, w2, fun p hp => ?_, w4, fun c hc => ?_⟩, ⟨fun i hi => ?_, N.2.1, N.2.2⟩, V, fun i j hi hj e => ?_⟩
  · rw [kn1, kn2, kn3, kn4]
    by_cases q : i = bk 0 0
    · simp only [if_pos q]; exact ⟨nn.2.1, vb, f2.2.1, f2.2.2, f3.2.2, f4.2.2⟩
    · simp only [if_neg q]; exact w1 i (by omega)
  · obtain ⟨p1, p2, p3, p4⟩ := w3 p hp
    exact ⟨p1, p2, by omega, p4⟩
  · obtain ⟨p1, p2, p3⟩ := w5 c hc
    exact ⟨by omega, by omega, p3⟩
  · rw [kn1]
    by_cases q : i = bk 0 0
    · rw [if_pos q]; exact nn.2.2
    · rw [if_neg q]; exact N.1 i (by omega)
  · rw [kn1, kn1] at e
    by_cases q : i = bk 0 0
    · by_cases q2 : j = bk 0 0
      · omega
      · rw [if_pos q, if_neg q2] at e; exact absurd e.symm (f1.2 j (by omega))
    · by_cases q2 : j = bk 0 0
      · rw [if_neg q, if_pos q2] at e; exact absurd e (f1.2 i (by omega))
      · rw [if_neg q, if_neg q2] at e; exact D i j (by omega) (by omega) e
theorem WX.s (h : WX bk) (z : ff (sFs t k bk) = 0) : WX (sBk t k bk) := by
  obtain ⟨W, N, V, D⟩ := h
  obtain ⟨⟨c0, c1, c2, c3, c4⟩, w1, w2, w3, w4, w5⟩ := W
  have f0 := ff_z z _ (List.mem_cons_self)
  have f1 := fM_0 (ff_z z (fM t (k + 1) (bk 5) (bk 0 4)) (by unfold sFs; simp))
  have f2 := fM_0 (ff_z z (fM t (k + 2) (bk 5) 0) (by unfold sFs; simp))
  have n16 : bk 0 4 ≠ 20 := fun e => by rw [if_pos e] at f0; exact absurd f0 (fX_n (by decide))
  have k0 : sBk t k bk 0 4 = bk 0 4 + 1 := up2_s
  have kx : ∀ j, j ≠ 4 → sBk t k bk 0 j = bk 0 j := fun j hj => by
    unfold sBk; rw [up2_x hj, up2_k (by decide), up2_k (by decide)]
  have kk : ∀ j, j ≠ 0 → j ≠ 5 → j ≠ 6 → sBk t k bk j = bk j := fun j m0 m1 m2 => by
    unfold sBk; rw [up2_k m0, up2_k m2, up2_k m1]
  have kn5 : ∀ i, sBk t k bk 5 i = if i = bk 0 4 then tV t (k + 1) else bk 5 i := fun i => by unfold sBk; simp [up2, up1]
  have kn6 : ∀ i, sBk t k bk 6 i = if i = bk 0 4 then tV t (k + 2) else bk 6 i := fun i => by unfold sBk; simp [up2, up1]
  have vb := (tV_b (t := t) (k := k + 1)).1 f1.1
  have vb2 := (tV_b (t := t) (k := k + 2)).1 f2.1
  have nn := tN_n f2.1
  have kq : ∀ j, j ∈ [1, 2, 3, 4, 7, 8, 9, 10, 11, 12, 13, 14, 15, 16, 17, 18, 19, 20, 21, 22, 23, 24, 25, 26, 27, 28, 29, 30, 31] → sBk t k bk j = bk j := fun j hj => by
    have : ∀ j, j ∈ [1, 2, 3, 4, 7, 8, 9, 10, 11, 12, 13, 14, 15, 16, 17, 18, 19, 20, 21, 22, 23, 24, 25, 26, 27, 28, 29, 30, 31] → j ≠ 0 ∧ j ≠ 5 ∧ j ≠ 6 := by decide
    exact kk j (this j hj).1 (this j hj).2.1 (this j hj).2.2
  unfold WX WB WN
  simp only [k0, kx 0 (by decide), kx 1 (by decide), kx 2 (by decide), kx 3 (by decide), kq 1 (by decide), kq 2 (by decide), kq 3 (by decide), kq 4 (by decide), kq 7 (by decide), kq 8 (by decide), kq 9 (by decide), kq 10 (by decide), kq 11 (by decide), kq 12 (by decide), kq 13 (by decide), kq 14 (by decide), kq 15 (by decide), kq 16 (by decide), kq 17 (by decide), kq 18 (by decide), kq 19 (by decide), kq 20 (by decide), kq 21 (by decide), kq 22 (by decide), kq 23 (by decide), kq 24 (by decide), kq 25 (by decide), kq 26 (by decide), kq 27 (by decide), kq 28 (by decide), kq 29 (by decide), kq 30 (by decide), kq 31 (by decide)]
  refine ⟨⟨⟨c0, c1, c2, c3, by omega⟩, w1, fun i hi => ?_, w3, w4, w5⟩, ⟨N.1, fun i hi => ?_, N.2.2⟩, V, D⟩
  · rw [kn5, kn6]
    by_cases q : i = bk 0 4
    · simp only [if_pos q]; exact ⟨vb, nn.2.1, vb2⟩
    · simp only [if_neg q]; exact w2 i (by omega)
  · rw [kn6]
    by_cases q : i = bk 0 4
    · rw [if_pos q]; exact nn.2.2
    · rw [if_neg q]; exact N.2.1 i (by omega)
theorem WX.c (h : WX bk) (z : ff (cFs t k bk) = 0) : WX (cBk t k bk) := by
  obtain ⟨W, N, V, D⟩ := h
  obtain ⟨⟨c0, c1, c2, c3, c4⟩, w1, w2, w3, w4, w5⟩ := W
  have f0 := ff_z z _ (List.mem_cons_self)
  have f1 := fO_v (ff_z z (fO t (k + 1) (bk 1) (bk 0 0)) (by unfold cFs; simp))
  have f2 := fO_v (ff_z z (fO t (k + 2) (bk 1) (bk 0 0)) (by unfold cFs; simp))
  have f3 := fN_0 (ff_z z (fN t (k + 4) 0 1439) (by unfold cFs; simp))
  have f4 := fN_0 (ff_z z (fN t (k + 6) 1 1440) (by unfold cFs; simp))
  have f5 := fN_0 (ff_z z (fN t (k + 8) (tV t (k + 4)) 1439) (by unfold cFs; simp))
  have f6 := fN_0 (ff_z z (fN t (k + 10) 1 3000) (by unfold cFs; simp))
  have f7 := fN_0 (ff_z z (fN t (k + 12) 1 20) (by unfold cFs; simp))
  have n16 : bk 0 3 ≠ 40 := fun e => by rw [if_pos e] at f0; exact absurd f0 (fX_n (by decide))
  have k0 : cBk t k bk 0 3 = bk 0 3 + 1 := up2_s
  have kx : ∀ j, j ≠ 3 → cBk t k bk 0 j = bk 0 j := fun j hj => by
    unfold cBk; rw [up2_x hj, up2_k (by decide), up2_k (by decide), up2_k (by decide), up2_k (by decide), up2_k (by decide), up2_k (by decide), up2_k (by decide)]
  have kk : ∀ j, j ≠ 0 → j < 25 → cBk t k bk j = bk j := fun j m0 m1 => by
    unfold cBk; rw [up2_k m0, up2_k (by omega), up2_k (by omega), up2_k (by omega), up2_k (by omega), up2_k (by omega), up2_k (by omega), up2_k (by omega)]
  have kn : ∀ j v i, (j = 25 ∧ v = ofI bk (tV t (k + 1)) ∨ j = 26 ∧ v = ofI bk (tV t (k + 2)) ∨ j = 27 ∧ v = tV t (k + 4) ∨ j = 28 ∧ v = tV t (k + 6) ∨ j = 29 ∧ v = tV t (k + 8) ∨ j = 30 ∧ v = tV t (k + 10) ∨ j = 31 ∧ v = tV t (k + 12)) → cBk t k bk j i = if i = bk 0 3 then v else bk j i := fun j v i hj => by
    unfold cBk
    rcases hj with ⟨rfl, rfl⟩ | ⟨rfl, rfl⟩ | ⟨rfl, rfl⟩ | ⟨rfl, rfl⟩ | ⟨rfl, rfl⟩ | ⟨rfl, rfl⟩ | ⟨rfl, rfl⟩ <;> simp [up2, up1]
  unfold WX WB WN
  simp only [k0, kx 0 (by decide), kx 1 (by decide), kx 2 (by decide), kx 4 (by decide), kk 1 (by decide) (by decide), kk 2 (by decide) (by decide), kk 3 (by decide) (by decide), kk 4 (by decide) (by decide), kk 5 (by decide) (by decide), kk 6 (by decide) (by decide), kk 7 (by decide) (by decide), kk 8 (by decide) (by decide), kk 9 (by decide) (by decide), kk 10 (by decide) (by decide), kk 11 (by decide) (by decide), kk 12 (by decide) (by decide), kk 13 (by decide) (by decide), kk 14 (by decide) (by decide), kk 15 (by decide) (by decide), kk 16 (by decide) (by decide), kk 17 (by decide) (by decide), kk 18 (by decide) (by decide), kk 19 (by decide) (by decide), kk 20 (by decide) (by decide), kk 21 (by decide) (by decide), kk 22 (by decide) (by decide), kk 23 (by decide) (by decide), kk 24 (by decide) (by decide)]
  refine ⟨⟨⟨c0, c1, c2, by omega, c4⟩, w1, w2, w3, w4, fun i hi => ?_⟩, N, V, D⟩
  rw [kn 25 _ i (Or.inl ⟨rfl, rfl⟩), kn 26 _ i (Or.inr (Or.inl ⟨rfl, rfl⟩)), kn 27 _ i (Or.inr (Or.inr (Or.inl ⟨rfl, rfl⟩))), kn 28 _ i (Or.inr (Or.inr (Or.inr (Or.inl ⟨rfl, rfl⟩)))), kn 29 _ i (Or.inr (Or.inr (Or.inr (Or.inr (Or.inl ⟨rfl, rfl⟩))))), kn 30 _ i (Or.inr (Or.inr (Or.inr (Or.inr (Or.inr (Or.inl ⟨rfl, rfl⟩)))))), kn 31 _ i (Or.inr (Or.inr (Or.inr (Or.inr (Or.inr (Or.inr ⟨rfl, rfl⟩))))))]
  by_cases q : i = bk 0 3
  · simp only [if_pos q]; exact ⟨f1.2.1, f2.2.1, f5.2.1, f5.2.2, f4.2.1, f4.2.2, f6.2.1, f6.2.2, f7.2.1, f7.2.2⟩
  · simp only [if_neg q]; exact w5 i (by omega)
theorem WX.p (h : WX bk) (z : ff (pFs t k bk) = 0) : WX (pBk t k bk) := by
  obtain ⟨W, N, V, D⟩ := h
  obtain ⟨⟨c0, c1, c2, c3, c4⟩, w1, w2, w3, w4, w5⟩ := W
  have mm : ∀ c, c ∈ pFs t k bk → c = 0 := ff_z z
  have f0 := mm _ (List.mem_cons_self)
  have fn := mm (if nmC t (k + 1) = 0 then fX t 1 (k + 1) else 0) (by unfold pFs pFs'; simp)
  have f1 := fO_v (mm (fO t (pA t k + 1) (bk 1) (bk 0 0)) (by unfold pFs pFs'; simp))
  have f2 := fN_0 (mm (fN t (pQ t k + 1) 1 999) (by unfold pFs pFs'; simp))
  have f3 := fN_0 (mm (fN t (pQ t k + 3) (tV t (pQ t k + 1)) 999) (by unfold pFs pFs'; simp))
  have f4 := fN_0 (mm (fN t (pQ t k + 5) 0 999) (by unfold pFs pFs'; simp))
  have f5 := fN_0 (mm (fN t (pQ t k + 6) 0 999) (by unfold pFs pFs'; simp))
  have f6 := f1_v (mm (Jvm.Pilot.CPostRoomLaw_law_r9321_2ac549.f1 t (pQ t k + 7) 10 4) (by unfold pFs pFs'; simp))
  have f7 := fN_0 (mm (fN t (pQ t k + 9) 0 9) (by unfold pFs pFs'; simp))
  have n16 : bk 0 1 ≠ 60 := fun e => by rw [if_pos e] at f0; exact absurd f0 (fX_n (by decide))
  have n0 : nmC t (k + 1) ≠ 0 := fun e => by rw [if_pos e] at fn; exact absurd fn (fX_n (by decide))
  obtain ⟨-, nb, nn⟩ := nmR_b (t := t) (k := k + 1) 3 0
  have nb : nmC t (k + 1) ≤ 3 := nb
  have nn : ∀ j, 0 ≤ j → j < nmC t (k + 1) → isNm t (k + 1 + j) := nn
  have k0 : pBk t k bk 0 1 = bk 0 1 + 1 := up2_s
  have kx : ∀ j, j ≠ 1 → pBk t k bk 0 j = bk 0 j := fun j hj => by
    unfold pBk; rw [up2_x hj, up2_k (by decide), up2_k (by decide), up2_k (by decide), up2_k (by decide), up2_k (by decide), up2_k (by decide), up2_k (by decide), up2_k (by decide), up2_k (by decide), p7_k (by decide)]
  have kk : ∀ j, j ≠ 0 → j < 7 ∨ 16 < j → pBk t k bk j = bk j := fun j m0 m1 => by
    unfold pBk; rw [up2_k m0, up2_k (by omega), up2_k (by omega), up2_k (by omega), up2_k (by omega), up2_k (by omega), up2_k (by omega), up2_k (by omega), up2_k (by omega), up2_k (by omega), p7_k (by omega)]
  have k7 : ∀ i, pBk t k bk 7 i = if 3 * bk 0 1 ≤ i ∧ i < 3 * bk 0 1 + 3 then tV t (k + 1 + (i - 3 * bk 0 1)) else bk 7 i := fun i => by
    unfold pBk
    rw [up2_k (by decide), up2_k (by decide), up2_k (by decide), up2_k (by decide), up2_k (by decide), up2_k (by decide), up2_k (by decide), up2_k (by decide), up2_k (by decide), up2_k (by decide)]
    unfold p7
    by_cases z : 3 * bk 0 1 ≤ i ∧ i < 3 * bk 0 1 + 3
    · rw [if_pos ⟨rfl, z⟩, if_pos z]
    · rw [if_neg fun y => z y.2, if_neg z]
  have kn8 : ∀ i, pBk t k bk 8 i = if i = bk 0 1 then nmC t (k + 1) else bk 8 i := fun i => by unfold pBk; simp [up2, up1, p7_k]
  have kn9 : ∀ i, pBk t k bk 9 i = if i = bk 0 1 then ofI bk (tV t (pA t k + 1)) else bk 9 i := fun i => by unfold pBk; simp [up2, up1, p7_k]
  have kn10 : ∀ i, pBk t k bk 10 i = if i = bk 0 1 then sdN t (pA t k + 2) else bk 10 i := fun i => by unfold pBk; simp [up2, up1, p7_k]
  have kn11 : ∀ i, pBk t k bk 11 i = if i = bk 0 1 then tV t (pQ t k + 1) else bk 11 i := fun i => by unfold pBk; simp [up2, up1, p7_k]
  have kn12 : ∀ i, pBk t k bk 12 i = if i = bk 0 1 then tV t (pQ t k + 3) else bk 12 i := fun i => by unfold pBk; simp [up2, up1, p7_k]
  have kn13 : ∀ i, pBk t k bk 13 i = if i = bk 0 1 then tV t (pQ t k + 5) else bk 13 i := fun i => by unfold pBk; simp [up2, up1, p7_k]
  have kn14 : ∀ i, pBk t k bk 14 i = if i = bk 0 1 then tV t (pQ t k + 6) else bk 14 i := fun i => by unfold pBk; simp [up2, up1, p7_k]
  have kn15 : ∀ i, pBk t k bk 15 i = if i = bk 0 1 then owI t (pQ t k + 7) 10 4 else bk 15 i := fun i => by unfold pBk; simp [up2, up1, p7_k]
  have kn16 : ∀ i, pBk t k bk 16 i = if i = bk 0 1 then tV t (pQ t k + 9) else bk 16 i := fun i => by unfold pBk; simp [up2, up1, p7_k]
  have sd2 : sdN t (pA t k + 2) ≤ 2 := by unfold sdN; (repeat' split) <;> omega
  unfold WX WB WN
  simp only [k0, kx 0 (by decide), kx 2 (by decide), kx 3 (by decide), kx 4 (by decide), kk 1 (by decide) (by decide), kk 2 (by decide) (by decide), kk 3 (by decide) (by decide), kk 4 (by decide) (by decide), kk 5 (by decide) (by decide), kk 6 (by decide) (by decide), kk 17 (by decide) (by decide), kk 18 (by decide) (by decide), kk 19 (by decide) (by decide), kk 20 (by decide) (by decide), kk 21 (by decide) (by decide), kk 22 (by decide) (by decide), kk 23 (by decide) (by decide), kk 24 (by decide) (by decide), kk 25 (by decide) (by decide), kk 26 (by decide) (by decide), kk 27 (by decide) (by decide), kk 28 (by decide) (by decide), kk 29 (by decide) (by decide), kk 30 (by decide) (by decide), kk 31 (by decide) (by decide)]
  have nm1 : ∀ i j, i < bk 0 1 + 1 → j < pBk t k bk 8 i → 0 < pBk t k bk 7 (3 * i + j) ∧ pBk t k bk 7 (3 * i + j) < 37 ^ 12 ∧ nzN (pBk t k bk 7 (3 * i + j)) := fun i j hi hj => by
    rw [kn8] at hj
    rw [k7]
    by_cases q : i = bk 0 1
    · rw [if_pos q] at hj
      rw [if_pos (by omega), q, Nat.add_sub_cancel_left]
      have w := nn j (Nat.zero_le _) hj
      have tn := tN_n w.1
      exact ⟨tn.2.1, (tV_b (t := t) (k := k + 1 + j)).1 w.1, tn.2.2⟩
    · rw [if_neg q] at hj
      have w := w3 i (by omega)
      rw [if_neg (by omega)]
      exact ⟨(w.2.1 j hj).1, (w.2.1 j hj).2, N.2.2 i (by omega) j hj⟩
  refine ⟨⟨⟨c0, by omega, c2, c3, c4⟩, w1, w2, fun i hi => ?_, w4, w5⟩, ⟨N.1, N.2.1, fun i hi j hj => (nm1 i j hi hj).2.2⟩, V, D⟩
  refine ⟨?_, fun j hj => ⟨(nm1 i j hi hj).1, (nm1 i j hi hj).2.1⟩, ?_⟩
  · rw [kn8]
    by_cases q : i = bk 0 1
    · rw [if_pos q]; omega
    · rw [if_neg q]; exact (w3 i (by omega)).1
  · rw [kn9, kn10, kn11, kn12, kn13, kn14, kn15, kn16]
    by_cases q : i = bk 0 1
    · simp only [if_pos q]; exact ⟨f1.2.1, sd2, f2.2.1, f3.2.1, f3.2.2, f4.2.2, f5.2.2, by omega, f7.2.2⟩
    · simp only [if_neg q]; exact (w3 i (by omega)).2.2
theorem ruK_b {p : Nat} : ruK t p ≤ 6 := by
  unfold ruK
  cases e : rKd t p with
  | none => exact Nat.zero_le _
  | some κ => have := rKL_s 7 0 e; show κ ≤ 6; omega
theorem r1F_v {p i : Nat} (h : r1F t p i = 0) : ruA t p ≤ 9999 ∧ ruB t p ≤ 4000 ∧ ruC t p ≤ 4000 ∧ (ruK t p = 1 → 1 ≤ ruB t p) := by
  unfold r1F at h
  unfold ruA ruB ruC ruK
  cases e : rKd t p with
  | none => rw [e] at h; exact absurd h (fX_n (by decide))
  | some κ =>
    rw [e] at h
    have h : (if i = 8 then fX t 5 p else ff (ruF t p κ)) = 0 := h
    by_cases q8 : i = 8
    · rw [if_pos q8] at h; exact absurd h (fX_n (by decide))
    · rw [if_neg q8] at h
      show (if κ = 1 ∨ κ = 2 then tV t (p + 2) else tV t (p + 1)) ≤ 9999 ∧ (if κ = 1 ∨ κ = 2 then tV t (p + 1) else 0) ≤ 4000 ∧ (if κ = 1 then tV t (p + 4) else 0) ≤ 4000 ∧ (κ = 1 → 1 ≤ if κ = 1 ∨ κ = 2 then tV t (p + 1) else 0)
      unfold ruF at h
      by_cases q1 : κ = 1
      · rw [if_pos q1] at h
        have a1 := fN_0 (ff_z h (fN t (p + 1) 1 4000) (by simp))
        have a2 := fN_0 (ff_z h (fN t (p + 2) 0 9999) (by simp))
        have a4 := fN_0 (ff_z h (fN t (p + 4) 0 4000) (by simp))
        rw [if_pos (Or.inl q1), if_pos (Or.inl q1), if_pos q1]
        exact ⟨a2.2.2, a1.2.2, a4.2.2, fun _ => a1.2.1⟩
      · rw [if_neg q1] at h
        by_cases q2 : κ = 2
        · rw [if_pos q2] at h
          have a1 := fN_0 (ff_z h (fN t (p + 1) 0 9) (by simp))
          have a2 := fN_0 (ff_z h (fN t (p + 2) 0 9999) (by simp))
          rw [if_pos (Or.inr q2), if_pos (Or.inr q2), if_neg q1]
          exact ⟨a2.2.2, by omega, by decide, fun z => absurd z q1⟩
        · rw [if_neg q2] at h
          rw [if_neg (by omega), if_neg (by omega), if_neg q1]
          refine ⟨?_, by decide, by decide, fun z => absurd z q1⟩
          by_cases q6 : κ = 6
          · rw [if_pos q6] at h
            have a1 := fN_0 (ff_z h (fN t (p + 1) 1 99) (by simp))
            omega
          · rw [if_neg q6] at h
            have a1 := fN_0 (ff_z h (fN t (p + 1) 0 9999) (by simp))
            exact a1.2.2
theorem rlF_v {q : Nat} : ∀ (r i : Nat), r + i = 9 → (∀ j, j < i → r1F t (ruP t q j) j = 0) → (rlF t q r i).1 = 0 → (rlF t q r i).2 ≤ 8 ∧ tK t (ruP t q (rlF t q r i).2) = 59 ∧ ∀ j, j < (rlF t q r i).2 → r1F t (ruP t q j) j = 0
  | 0, i, e, _, z => absurd z (by rw [rlF]; exact fX_n (by decide))
  | r + 1, i, e, hj, z => by
    rw [rlF] at z ⊢
    by_cases q1 : tK t (ruP t q i) = 59
    · rw [if_pos q1]; exact ⟨by show i ≤ 8; omega, q1, hj⟩
    · rw [if_neg q1] at z ⊢
      by_cases q2 : r1F t (ruP t q i) i = 0
      · rw [if_pos q2] at z ⊢
        exact rlF_v r (i + 1) (by omega) (fun j h2 => by
          by_cases w : j = i
          · rw [w]; exact q2
          · exact hj j (by omega)) z
      · rw [if_neg q2] at z; exact absurd z q2
theorem WX.v (h : WX bk) (z : ff (vFs t k bk) = 0) : WX (vBk t k bk) := by
  obtain ⟨W, N, V, D⟩ := h
  obtain ⟨⟨c0, c1, c2, c3, c4⟩, w1, w2, w3, w4, w5⟩ := W
  have mm : ∀ c, c ∈ vFs t k bk → c = 0 := ff_z z
  have f0 := mm _ (List.mem_cons_self)
  have f1 := fM_0 (mm (fM t (k + 1) (bk 17) (bk 0 2)) (by unfold vFs; simp))
  have f2 := f1_v (mm (Jvm.Pilot.CPostRoomLaw_law_r9321_2ac549.f1 t (k + 2) 16 3) (by unfold vFs; simp))
  have f3 := fN_0 (mm (fN t (k + 4) 1 4000) (by unfold vFs; simp))
  have f4 := rlF_v (t := t) (q := k + 5) 9 0 rfl (fun j hj => absurd hj (by omega)) (mm _ (by unfold vFs; simp))
  have n16 : bk 0 2 ≠ 8 := fun e => by rw [if_pos e] at f0; exact absurd f0 (fX_n (by decide))
  have k0 : vBk t k bk 0 2 = bk 0 2 + 1 := up2_s
  have kx : ∀ j, j ≠ 2 → vBk t k bk 0 j = bk 0 j := fun j hj => by
    unfold vBk; rw [up2_x hj, up2_k (by decide), up2_k (by decide), up2_k (by decide), up2_k (by decide), v21_k (by decide)]
  have kk : ∀ j, j ≠ 0 → j < 17 ∨ 24 < j → vBk t k bk j = bk j := fun j m0 m1 => by
    unfold vBk; rw [up2_k m0, up2_k (by omega), up2_k (by omega), up2_k (by omega), up2_k (by omega), v21_k (by omega)]
  have kn17 : ∀ i, vBk t k bk 17 i = if i = bk 0 2 then tV t (k + 1) else bk 17 i := fun i => by unfold vBk; simp [up2, up1, v21_k]
  have kn18 : ∀ i, vBk t k bk 18 i = if i = bk 0 2 then owI t (k + 2) 16 3 else bk 18 i := fun i => by unfold vBk; simp [up2, up1, v21_k]
  have kn19 : ∀ i, vBk t k bk 19 i = if i = bk 0 2 then tV t (k + 4) else bk 19 i := fun i => by unfold vBk; simp [up2, up1, v21_k]
  have kn20 : ∀ i, vBk t k bk 20 i = if i = bk 0 2 then (rlF t (k + 5) 9 0).2 else bk 20 i := fun i => by unfold vBk; simp [up2, up1, v21_k]
  have kn21 : ∀ j i, 21 ≤ j → j ≤ 24 → vBk t k bk j i = if 8 * bk 0 2 ≤ i ∧ i < 8 * bk 0 2 + 8 then ruV j t (ruP t (k + 5) (i - 8 * bk 0 2)) else bk j i := fun j i j1 j2 => by
    unfold vBk
    rw [up2_k (by omega), up2_k (by omega), up2_k (by omega), up2_k (by omega), up2_k (by omega)]
    unfold v21
    by_cases y : 8 * bk 0 2 ≤ i ∧ i < 8 * bk 0 2 + 8
    · rw [if_pos ⟨⟨j1, j2⟩, y⟩, if_pos y]
    · rw [if_neg fun x => y x.2, if_neg y]
  unfold WX WB WN
  simp only [k0, kx 0 (by decide), kx 1 (by decide), kx 3 (by decide), kx 4 (by decide), kk 1 (by decide) (by decide), kk 2 (by decide) (by decide), kk 3 (by decide) (by decide), kk 4 (by decide) (by decide), kk 5 (by decide) (by decide), kk 6 (by decide) (by decide), kk 7 (by decide) (by decide), kk 8 (by decide) (by decide), kk 9 (by decide) (by decide), kk 10 (by decide) (by decide), kk 11 (by decide) (by decide), kk 12 (by decide) (by decide), kk 13 (by decide) (by decide), kk 14 (by decide) (by decide), kk 15 (by decide) (by decide), kk 16 (by decide) (by decide), kk 25 (by decide) (by decide), kk 26 (by decide) (by decide), kk 27 (by decide) (by decide), kk 28 (by decide) (by decide), kk 29 (by decide) (by decide), kk 30 (by decide) (by decide), kk 31 (by decide) (by decide)]
  refine ⟨⟨⟨c0, c1, by omega, c3, c4⟩, w1, w2, w3, fun i hi => ?_, w5⟩, N, fun i hi => ?_, D⟩
  · rw [kn18, kn19, kn20]
    by_cases q : i = bk 0 2
    · simp only [if_pos q]
      refine ⟨by omega, f3.2.1, f3.2.2, f4.1, fun j hj => ?_⟩
      have kv : ∀ x, 21 ≤ x → x ≤ 24 → vBk t k bk x (8 * i + j) = ruV x t (ruP t (k + 5) j) := fun x x1 x2 => by rw [kn21 x _ x1 x2, q, if_pos (by omega), Nat.add_sub_cancel_left]
      rw [kv 21 (by decide) (by decide), kv 22 (by decide) (by decide), kv 23 (by decide) (by decide), kv 24 (by decide) (by decide)]
      have v := r1F_v (f4.2.2 j hj)
      exact ⟨ruK_b, v.1, v.2.1, v.2.2.1, v.2.2.2⟩
    · simp only [if_neg q]
      have wi := w4 i (by omega)
      refine ⟨wi.1, wi.2.1, wi.2.2.1, wi.2.2.2.1, fun j hj => ?_⟩
      have kv : ∀ x, 21 ≤ x → x ≤ 24 → vBk t k bk x (8 * i + j) = bk x (8 * i + j) := fun x x1 x2 => by rw [kn21 x _ x1 x2, if_neg (by omega)]
      rw [kv 21 (by decide) (by decide), kv 22 (by decide) (by decide), kv 23 (by decide) (by decide), kv 24 (by decide) (by decide)]
      exact wi.2.2.2.2 j hj
  · rw [kn17]
    by_cases q : i = bk 0 2
    · rw [if_pos q]; exact (tV_b (t := t) (k := k + 1)).1 f1.1
    · rw [if_neg q]; exact V i (by omega)
theorem WX.st (h : WX bk) (z : stF t k bk = 0) : WX (stB t k bk) := by
  unfold stF at z
  unfold stB
  by_cases q1 : isW t k (kw 1)
  · rw [if_pos q1] at z ⊢; exact h.o (st_0.mp z).1
  · rw [if_neg q1] at z ⊢
    by_cases q2 : isW t k (kw 2)
    · rw [if_pos q2] at z ⊢; exact h.s (st_0.mp z).1
    · rw [if_neg q2] at z ⊢
      by_cases q3 : isW t k (kw 3)
      · rw [if_pos q3] at z ⊢; exact h.p (st_0.mp z).1
      · rw [if_neg q3] at z ⊢
        by_cases q4 : isW t k (kw 15)
        · rw [if_pos q4] at z ⊢; exact h.v (st_0.mp z).1
        · rw [if_neg q4] at z ⊢
          by_cases q5 : isW t k (kw 28)
          · rw [if_pos q5] at z; exact h.c (st_0.mp z).1
          · rw [if_neg q5] at z; exact absurd z (fX_n (by decide))
end WXS
