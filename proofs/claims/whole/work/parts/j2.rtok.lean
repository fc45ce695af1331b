/-! ===== PROGRAMMES: the reference's tests of tokens are tests of the same kinds ===== -/
theorem pk_lo : ∀ (l : List Nat) (a : Nat), a * 37 ^ l.length ≤ pkN a l
  | [], a => by show a * 1 ≤ a; omega
  | x :: l, a => by
    have := pk_lo l (37 * a + x)
    show a * 37 ^ (l.length + 1) ≤ pkN (37 * a + x) l
    refine Nat.le_trans ?_ this
    rw [Nat.pow_succ, ← Nat.mul_assoc, Nat.mul_right_comm]
    exact Nat.mul_le_mul_right _ (by omega)
section TKR
variable {t : Tp} {k : Nat}
/-- a name token -/
theorem tok_n (h : tK t k = 2) : tV t k = pkN 0 (sl (tcS t) (tS t k) (tE t k - tS t k)) ∧ 1 ≤ tcS t (tS t k) ∧ tcS t (tS t k) < 27 ∧ 1 ≤ tE t k - tS t k := by
  have sg : ∀ c, c ∈ sgL → c ≠ 2 := by decide
  unfold tK tok tokB at h
  unfold tV tS tE tok tokB
  generalize skB t (t.1 - tkP t k) (tkP t k) = b at h ⊢
  by_cases q1 : t.1 ≤ b
  · rw [if_pos q1] at h; exact absurd h (by dsimp only; decide)
  rw [if_neg q1] at h ⊢
  by_cases q2 : tcS t b = 0
  · rw [if_pos q2] at h
    exfalso
    dsimp only at h
    by_cases q3 : t.2 b ∈ sgL
    · rw [if_pos q3] at h; exact sg _ q3 h
    · rw [if_neg q3] at h; exact absurd h (by decide)
  rw [if_neg q2] at h ⊢
  by_cases q3 : 27 ≤ tcS t b
  · rw [if_pos q3] at h
    exfalso
    unfold tokR at h
    rw [if_pos rfl] at h
    dsimp only at h
    revert h
    split <;> intro h <;> exact absurd h (by decide)
  · rw [if_neg q3]
    have r1 := rn_b (t := t) (m := 1) (t.1 - b) b
    have r2 : b < rnB t 1 (t.1 - b) b := by
      obtain ⟨n, hn⟩ : ∃ n, t.1 - b = n + 1 := ⟨t.1 - b - 1, by omega⟩
      rw [hn, rnB, if_pos (show 1 ≤ tcd (t.2 b) by have : tcS t b = tcd (t.2 b) := rfl; omega)]
      have := rn_b (t := t) (m := 1) n (b + 1)
      omega
    unfold tokR
    rw [if_neg (by decide)]
    exact ⟨rfl, (show 1 ≤ tcS t b by omega), (show tcS t b < 27 by omega), by show 1 ≤ rnB t 1 (t.1 - b) b - b; omega⟩
theorem wLk_nd : wLk.Nodup := by decide +kernel
theorem lk_wd {j : Nat} (hj : j < 44) : lk t k = 128 + j ↔ isW t k (kw (wLn.getD j 0)) := by
  have gk : wLk.getD j 0 = kw (wLn.getD j 0) := by
    have : ∀ j, j < 44 → wLk.getD j 0 = kw (wLn.getD j 0) := by decide +kernel
    exact this j hj
  constructor
  · intro h
    unfold lk at h
    by_cases q : tK t k = 2
    · rw [if_pos q] at h
      cases ew : wI t k wLk with
      | some i =>
        rw [ew] at h
        have h : 128 + i = 128 + j := h
        obtain ⟨-, e⟩ := wI_b ew
        rw [show i = j by omega, gk] at e
        exact ⟨q, e⟩
      | none =>
        rw [ew] at h
        dsimp only at h
        exfalso
        revert h
        split
        · split
          · omega
          · split <;> omega
        · omega
    · rw [if_neg q] at h
      have := tK_b (t := t) (k := k)
      omega
  · rintro ⟨q, e⟩
    unfold lk
    rw [if_pos q]
    have : ∃ i, wI t k wLk = some i := by
      unfold wI
      rw [if_pos q]
      cases ew : wLk.findIdx? (fun w => decide (w = tV t k)) with
      | some i => exact ⟨i, rfl⟩
      | none =>
        exfalso
        have := List.findIdx?_eq_none_iff.mp ew (wLk.getD j 0) (by
          rw [List.getD_eq_getElem?_getD, List.getElem?_eq_getElem (by rw [wLk_l]; exact hj)]
          exact List.getElem_mem _)
        rw [gk, ← e] at this
        exact absurd this (by rw [decide_eq_true rfl]; decide)
    obtain ⟨i, ei⟩ := this
    obtain ⟨hi, e2⟩ := wI_b ei
    rw [ei]
    show 128 + i = 128 + j
    rw [e, ← gk] at e2
    rw [List.getD_eq_getElem?_getD, List.getD_eq_getElem?_getD, List.getElem?_eq_getElem (by rw [wLk_l]; exact hj), List.getElem?_eq_getElem (by rw [wLk_l]; exact hi)] at e2
    have pw := List.pairwise_iff_getElem.mp wLk_nd
    have e3 : wLk[j]'(by rw [wLk_l]; exact hj) = wLk[i]'(by rw [wLk_l]; exact hi) := e2
    by_cases z : i = j
    · rw [z]
    · exfalso
      by_cases z2 : i < j
      · exact pw i j (by rw [wLk_l]; exact hi) (by rw [wLk_l]; exact hj) z2 e3.symm
      · exact pw j i (by rw [wLk_l]; exact hj) (by rw [wLk_l]; exact hi) (by omega) e3
theorem lk_sg {c : Nat} (hc : 6 ≤ c) (h2 : c < 128) : lk t k = c ↔ tK t k = c := by
  unfold lk
  by_cases q : tK t k = 2
  · rw [if_pos q]
    constructor
    · intro h
      exfalso
      revert h
      split
      · omega
      · split
        · split
          · omega
          · split <;> omega
        · omega
    · intro h; omega
  · rw [if_neg q]
theorem lk_n3 : lk t k = 3 ↔ tK t k = 3 := by
  constructor
  · exact lk_3
  · intro h; unfold lk; rw [if_neg (by omega)]; exact h
/-- a register: letter c (its place a), a digit not above m -/
theorem lk_rg {a m v : Nat} (hv : v = 4 ∧ a = 18 ∧ m = 9 ∨ v = 5 ∧ a = 24 ∧ m = 3) : (lk t k = v ↔ tK t k = 2 ∧ tV t k / 37 = a ∧ 27 ≤ tV t k % 37 ∧ tV t k % 37 - 27 ≤ m) ∧ (lk t k = v → lkV t k = tV t k % 37 - 27) := by
  have nw : ∀ w, w ∈ wLk → ¬ ((w / 37 = 18 ∨ w / 37 = 24) ∧ 27 ≤ w % 37) := by decide +kernel
  by_cases q : tK t k = 2
  · obtain ⟨y1, y2, y3, y4⟩ := tok_n q
    have lv : lkV t k = t.2 (tS t k + 1) - 48 := by unfold lkV; rw [if_neg (by omega)]
    have el : lk t k = (match wI t k wLk with
      | some j => 128 + j
      | none => if tE t k - tS t k = 2 then (if t.2 (tS t k) = 114 ∧ 48 ≤ t.2 (tS t k + 1) ∧ t.2 (tS t k + 1) ≤ 57 then 4 else if t.2 (tS t k) = 120 ∧ 48 ≤ t.2 (tS t k + 1) ∧ t.2 (tS t k + 1) ≤ 51 then 5 else 2) else 2) := if_pos q
    cases ew : wI t k wLk with
    | some j =>
      rw [ew] at el
      have el : lk t k = 128 + j := el
      obtain ⟨j1, j2⟩ := wI_b ew
      have mem : tV t k ∈ wLk := by
        rw [j2, List.getD_eq_getElem?_getD, List.getElem?_eq_getElem (by rw [wLk_l]; exact j1)]
        exact List.getElem_mem _
      have := nw _ mem
      exact ⟨⟨fun z => by omega, fun z => absurd ⟨by omega, z.2.2.1⟩ this⟩, fun z => by omega⟩
    | none =>
      rw [ew] at el
      dsimp only at el
      obtain ⟨n, hn⟩ : ∃ n, tE t k - tS t k = n + 1 := ⟨tE t k - tS t k - 1, by omega⟩
      have hb : ∀ i, tcS t i < 37 := fun i => tcd_b
      by_cases q2 : tE t k - tS t k = 2
      · rw [if_pos q2] at el
        have ev : tV t k = 37 * tcS t (tS t k) + tcS t (tS t k + 1) := by
          rw [y1, q2]
          show 37 * (37 * 0 + tcS t (tS t k)) + tcS t (tS t k + 1) = _
          omega
        have b1 := hb (tS t k + 1)
        have d1 : tV t k / 37 = tcS t (tS t k) := by omega
        have d2 : tV t k % 37 = tcS t (tS t k + 1) := by omega
        have A : tcS t (tS t k) = (if 97 ≤ t.2 (tS t k) ∧ t.2 (tS t k) ≤ 122 then t.2 (tS t k) - 96 else if 48 ≤ t.2 (tS t k) ∧ t.2 (tS t k) ≤ 57 then t.2 (tS t k) - 21 else 0) := rfl
        have B : tcS t (tS t k + 1) = (if 97 ≤ t.2 (tS t k + 1) ∧ t.2 (tS t k + 1) ≤ 122 then t.2 (tS t k + 1) - 96 else if 48 ≤ t.2 (tS t k + 1) ∧ t.2 (tS t k + 1) ≤ 57 then t.2 (tS t k + 1) - 21 else 0) := rfl
        rw [d1, d2, lv]
        clear y1 y4 ev d1 d2 hb nw lv
        generalize t.2 (tS t k) = x at *
        generalize t.2 (tS t k + 1) = y at *
        generalize tcS t (tS t k) = X at *
        generalize tcS t (tS t k + 1) = Y at *
        have hA : (x = 114 ↔ X = 18) ∧ (x = 120 ↔ X = 24) := by
          by_cases w1 : 97 ≤ x ∧ x ≤ 122
          · rw [if_pos w1] at A; omega
          · rw [if_neg w1] at A
            by_cases w2 : 48 ≤ x ∧ x ≤ 57
            · rw [if_pos w2] at A; omega
            · rw [if_neg w2] at A; omega
        have hB : (48 ≤ y ∧ y ≤ 57 ↔ 27 ≤ Y) ∧ (27 ≤ Y → y - 48 = Y - 27) := by
          by_cases w1 : 97 ≤ y ∧ y ≤ 122
          · rw [if_pos w1] at B; omega
          · rw [if_neg w1] at B
            by_cases w2 : 48 ≤ y ∧ y ≤ 57
            · rw [if_pos w2] at B; omega
            · rw [if_neg w2] at B; omega
        rw [el]
        by_cases w1 : x = 114 ∧ 48 ≤ y ∧ y ≤ 57
        · rw [if_pos w1]; constructor <;> omega
        · rw [if_neg w1]
          by_cases w2 : x = 120 ∧ 48 ≤ y ∧ y ≤ 51
          · rw [if_pos w2]; constructor <;> omega
          · rw [if_neg w2]; constructor <;> omega
      · rw [if_neg q2] at el
        have : tV t k / 37 ≠ 18 ∧ tV t k / 37 ≠ 24 := by
          rw [y1, hn]
          show pkN (37 * 0 + tcS t (tS t k)) (sl (tcS t) (tS t k + 1) n) / 37 ≠ 18 ∧ pkN (37 * 0 + tcS t (tS t k)) (sl (tcS t) (tS t k + 1) n) / 37 ≠ 24
          rw [show 37 * 0 + tcS t (tS t k) = tcS t (tS t k) by omega]
          by_cases n0 : n = 0
          · subst n0
            show tcS t (tS t k) / 37 ≠ 18 ∧ tcS t (tS t k) / 37 ≠ 24
            omega
          · have lo := pk_lo (sl (tcS t) (tS t k + 1) n) (tcS t (tS t k))
            rw [sl_l] at lo
            have p2 : 37 ^ 2 ≤ 37 ^ n := Nat.pow_le_pow_right (by decide) (by omega)
            have : 1 * 37 ^ n ≤ tcS t (tS t k) * 37 ^ n := Nat.mul_le_mul_right _ y2
            omega
        exact ⟨⟨fun z => by omega, fun z => by omega⟩, fun z => by omega⟩
  · have el : lk t k = tK t k := if_neg q
    have ts := tK_s (t := t) (k := k)
    exact ⟨⟨fun z => by omega, fun z => absurd z.1 q⟩, fun z => by omega⟩
end TKR
section ROL
variable {d : Nat} {h : AH} {t : Tp} {M k f : Nat}
theorem r_isL (hs : Sh h) (K : KR h) (R : RQ h t M k f) {j w : Nat} (hj : j < 44) (hw : wLn.getD j 0 = w) : E (d + 1) 45 [.ref 189, .int (nI w)] h = some (some (.int (nI (if f = 0 ∧ lk t k = 128 + j then 1 else 0))), h) := by
  have wb : ∀ j, j < 44 → wLn.getD j 0 < 74 := by decide
  rw [r_isW hs K R (w := w) (by rw [← hw]; exact wb j hj)]
  simp only [lk_wd (t := t) (k := k) hj, hw]
theorem r_isG (hs : Sh h) (R : RQ h t M k f) {c : Nat} (hc : 6 ≤ c) (h2 : c < 128) : E (d + 1) 58 [.ref 189, .int (nI c)] h = some (some (.int (nI (if f = 0 ∧ lk t k = c then 1 else 0))), h) := by
  rw [r_isA hs R (by omega) h2]
  simp only [lk_sg (t := t) (k := k) hc h2]
theorem r_reg (hs : Sh h) (R : RQ h t M k f) {a m v : Nat} (hv : v = 4 ∧ a = 18 ∧ m = 9 ∨ v = 5 ∧ a = 24 ∧ m = 3) : E (d + 1) 136 [.ref 189, .int (nI a), .int (nI m)] h = some (some (.int (if f = 0 ∧ lk t k = v then nI (lkV t k) else -1)), h) := by
  obtain ⟨g1, g2⟩ := lk_rg (t := t) (k := k) hv
  rw [t_136 hs, R.2.1]
  by_cases q : f = 0
  · obtain ⟨e1, e2, e3, e4⟩ := R.at q
    rw [if_neg (by rw [q]; decide), e1, gd_nI (by omega) (by decide), ix_nI (by omega), e4.1]
    by_cases q1 : tK t k = 2
    · have vb := lt37 ((tV_b (t := t) (k := k)).1 q1) (by decide)
      rw [if_pos (by rw [rk_1.1.mpr q1]), gd_nI (by omega) (by decide), dZ_ok (by decide), e4.2.2 (by omega), l_dv vb, nI_l (by omega)]
      simp only [l_eq (show tV t k / 37 < 2 ^ 63 by omega) (show a < 2 ^ 63 by omega)]
      have nn : ∀ {P : Prop} [Decidable P], ¬ P → (if P then nI (lkV t k) else -1) = -1 := fun h => if_neg h
      by_cases q2 : tV t k / 37 = a
      · rw [if_pos q2, gd_nI (by omega) (by decide), dZ_ok (by decide), ← l_dv vb, l_rm vb]
        have m37 : tV t k % 37 < 37 := Nat.mod_lt _ (by decide)
        by_cases q3 : tV t k % 37 < 27
        · rw [if_pos (show nI (tV t k % 37) - nI 27 < nI 0 from pk_sneg (by omega) q3), nn (fun z => by have := g1.mp z.2; omega)]
        · rw [pk_sub (by omega), if_neg (nI_nlt (by omega) (by omega))]
          by_cases q4 : m < tV t k % 37 - 27
          · rw [if_pos (nI_lt q4 (by omega)), nn (fun z => by have := g1.mp z.2; omega)]
          · have y := g1.mpr ⟨q1, q2, by omega, by omega⟩
            rw [if_neg (nI_nlt (by omega) (by omega)), if_pos ⟨q, y⟩, g2 y]
      · rw [if_neg q2, nn (fun z => q2 (g1.mp z.2).2.1)]
    · rw [if_neg fun z => q1 (rk_1.1.mp ((nI_eq (by have := (rk_1 (x := tK t k)).2.2.2.2; omega) (by decide)).mp z)), if_neg fun z => q1 (g1.mp z.2).1]
  · rw [if_pos (nI_lt (by omega) (by have := R.2.2.1; omega)), if_neg fun z => q z.1]
end ROL
