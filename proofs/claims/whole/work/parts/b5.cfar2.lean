/-! ===== FARNESS: the component ===== -/
section CFA
variable {d : Nat} {A B : Nat → Nat} {p n m x : Nat}
theorem m_mx3 {h : AH} (hs : Sh h) {i : Nat} (hi : i < 1000) : E (d + 1) 391 [.int (nI 1), .int (nI i - nI 3)] h = some (some (.int (nI (max 1 (i - 3)))), h) := by
  rw [t_391 hs]
  by_cases q : i < 3
  · have : ¬ nI 1 < nI i - nI 3 := by
      have := pk_sneg (a := i) (b := 3) (by decide) q
      have e : (nI i - nI 3).toInt < (nI 0).toInt := Int32.lt_iff_toInt_lt.mp this
      intro w
      have w' := Int32.lt_iff_toInt_lt.mp w
      have z0 : (nI 0).toInt = 0 := by decide
      have z1 : (nI 1).toInt = 1 := by decide
      omega
    rw [if_neg this, show max 1 (i - 3) = 1 from by omega]
  · rw [pk_sub (by omega)]
    by_cases q : 1 < i - 3
    · rw [if_pos (nI_lt q (by omega)), show max 1 (i - 3) = i - 3 from by omega]
    · rw [if_neg (nI_nlt (by omega) (by omega)), show max 1 (i - 3) = 1 from by omega]
theorem CTb.end {h : AH} {i j : Nat} (T : CTb h A B m i j) (q : m < j ∨ i + 4 < j) : CTb h A B m (i + 1) 0 := fun i' j' a b c hc => T i' j' a b c (by omega)
theorem c_ln {h : AH} (hs : Sh h) (CA : CX h x n A) (CB' : CW h p m B) (hn : n ≤ 47) (hm : m ≤ 47) {i r : Nat} (hi : i < n) (hr : r = min m (i + 4)) : ∀ (k j : Nat), k + j = r → i ≤ j + 3 → CTb h A B m (i + 1) (j + 1) → ∃ h', Q (d + 1) 379 46 [some (.ref 103), some (.ref x), some (.int (nI (i + 1))), some (.int (nI p)), some (.int (nI m)), none, some (.int (nI r)), some (.int (nI (j + 1))), none, none] [] h = some (none, h') ∧ CTb h' A B m (i + 2) 0 ∧ Fr [] XTb h h' := by
  intro k
  induction k generalizing h with
  | zero =>
    intro j e h1 T
    obtain rfl : j = r := by omega
    rw [t_379_46 hs, if_pos (nI_lt (by omega) (by omega))]
    by_cases q : j < m
    · obtain ⟨o2, c2, k2⟩ := hs.tb (i := i + 1) (by omega)
      have bd := ed_b (a := A) (b := B) (i + 1 + (j + 1)) (i + 1) (j + 1) (Nat.le_refl _)
      rw [if_pos (nI_lt q (by omega)), gd_nI (by omega) (by decide), ix_nI (by omega), o2, Option.bind_some, cw_ok c2 (by omega), nI_add, k2, gd_nI (by omega) (by decide), ix_nI (by omega)]
      have T' := T.set (y := 99) (by omega) (nr_or.mpr (Or.inr (by omega)))
      exact ⟨_, rfl, T'.end (Or.inr (by omega)), Fr.rfl.sA (xtb.mpr (by omega))⟩
    · rw [if_neg (nI_nlt (by omega) (by omega))]
      exact ⟨_, rfl, T.end (Or.inl (by omega)), Fr.rfl⟩
  | succ k ih =>
    intro j e h1 T
    obtain ⟨y, l, ny, ey⟩ := c_cell (d := d) hs CA CB' hn hm hi (j := j) (r := r) (by omega) (by omega) (by omega) h1 (by omega) T
    have hf : Fr [] XTb h (sA h (108 + (i + 1)) (j + 1) (nI y)) := Fr.rfl.sA (xtb.mpr (by omega))
    obtain ⟨h', e', T', f'⟩ := ih hs.sA (CA.fr hf fun y hy => (xtb.mp hy).2) (CB'.fr hf fun q => absurd (xtb.mp q) (by decide)) (j + 1) (by omega) (by omega) (T.set (by omega) ny)
    exact ⟨h', ey.trans e', T', hf.trans f'⟩
theorem c_line {h : AH} (hs : Sh h) (CA : CX h x n A) (CB' : CW h p m B) (hn : n ≤ 47) (hm : m ≤ 47) {i : Nat} (hi : i < n) (hmi : i + 1 ≤ m + 3) (T : CTb h A B m (i + 1) 0) : ∃ h', E (d + 2) 379 [.ref 103, .ref x, .int (nI (i + 1)), .int (nI p), .int (nI m)] h = some (none, h') ∧ CTb h' A B m (i + 2) 0 ∧ Fr [] XTb h h' := by
  obtain ⟨o2, c2, k2⟩ := hs.tb (i := i + 1) (by omega)
  have bd := ed_b (a := A) (b := B) (i + 1 + (i + 1 - 4)) (i + 1) (i + 1 - 4) (Nat.le_refl _)
  obtain ⟨L, eL⟩ : ∃ L, max 1 (i + 1 - 3) = L + 1 := ⟨max 1 (i + 1 - 3) - 1, by omega⟩
  have T0 : CTb h A B m (i + 1) L := fun i' j' a b c hc => T i' j' a b c (by omega)
  rw [t_379 hs, m_mx3 hs (by omega), cK_v, t_379_7 hs, nI_add, m_min hs (by omega) (by omega), cK_v, t_379_17 hs, gd_nI (by omega) (by decide), ix_nI (by omega), o2, Option.bind_some, eL, show nI (L + 1) - nI 1 = nI L from by rw [pk_sub (by omega)]; congr 1]
  simp only [show (nI (L + 1) = nI 1) = (L = 0) from propext ⟨fun w => by have := (nI_eq (by omega) (by decide)).mp w; omega, fun w => by rw [w]⟩]
  rw [cw_ok c2 (by omega), cw_ok c2 (by omega), k2, gd_nI (by omega) (by decide), gd_nI (by omega) (by decide), ix_nI (by omega)]
  have go : ∀ y, y ≤ 100 + (i + 1) + L → nr y (edF A B (i + 1) L) → ∃ h', Q (d + 1) 379 46 [some (.ref 103), some (.ref x), some (.int (nI (i + 1))), some (.int (nI p)), some (.int (nI m)), none, some (.int (nI (min m (i + 1 + 3)))), some (.int (nI (L + 1))), none, none] [] (sA h (108 + (i + 1)) L (nI y)) = some (none, h') ∧ CTb h' A B m (i + 2) 0 ∧ Fr [] XTb h h' := fun y l ny => by
    have hf : Fr [] XTb h (sA h (108 + (i + 1)) L (nI y)) := Fr.rfl.sA (xtb.mpr (by omega))
    obtain ⟨h', e', T', f'⟩ := c_ln (d := d) (i := i) (r := min m (i + 1 + 3)) hs.sA (CA.fr hf fun y hy => (xtb.mp hy).2) (CB'.fr hf fun q => absurd (xtb.mp q) (by decide)) hn hm hi rfl (min m (i + 1 + 3) - L) L (by omega) (by omega) (T0.set l ny)
    exact ⟨h', e', T', hf.trans f'⟩
  by_cases q : L = 0
  · subst q
    rw [if_pos rfl]
    exact go (i + 1) (by omega) (by rw [ed_s0]; rfl)
  · rw [if_neg q]
    have : L = i + 1 - 4 := by omega
    exact go 99 (by omega) (nr_or.mpr (Or.inr (by rw [this]; omega)))
theorem c_row0 {h : AH} (hs : Sh h) (hm : m ≤ 47) : ∀ (k j : Nat), k + j = m + 1 → (∀ j', j' < j → gA h 108 j' = nI j') → ∃ h', Q (d + 1) 353 57 [some (.ref 103), some (.ref x), none, none, some (.int (nI p)), some (.int (nI m)), some (.int (nI n)), some (.int (nI j))] [] h = Q (d + 1) 353 84 [some (.ref 103), some (.ref x), none, none, some (.int (nI p)), some (.int (nI m)), some (.int (nI n)), some (.int (nI 1))] [] h' ∧ CTb h' A B m 1 0 ∧ Fr [] XTb h h' := by
  intro k
  induction k generalizing h with
  | zero =>
    intro j e T
    obtain rfl : j = m + 1 := by omega
    rw [t_353_57 hs, if_pos (nI_lt (by omega) (by omega))]
    refine ⟨h, rfl, fun i' j' a b c hc => ?_, Fr.rfl⟩
    obtain rfl : i' = 0 := by omega
    exact ⟨j', T j' (by omega), by omega, by rw [ed_0]; rfl⟩
  | succ k ih =>
    intro j e T
    obtain ⟨o2, c2, k2⟩ := hs.tb (i := 0) (by omega)
    have hf : Fr [] XTb h (sA h 108 j (nI j)) := Fr.rfl.sA (xtb.mpr (by omega))
    obtain ⟨h', e', T', f'⟩ := ih (hs.sA (k := 108) (x := j) (v := nI j)) (j + 1) (by omega) fun j' hj' => by
      show up2 (gA h) 108 j (nI j) 108 j' = nI j'
      by_cases q : j' = j
      · rw [q, up2_s]
      · rw [up2_x q]; exact T j' (by omega)
    refine ⟨h', ?_, T', hf.trans f'⟩
    rw [t_353_57 hs, if_neg (nI_nlt (by omega) (by omega)), o2, Option.bind_some, cw_ok c2 (by omega), k2, gd_nI (by omega) (by decide), ix_nI (by omega), nI_add]
    exact e'
theorem c_lines {h : AH} (hs : Sh h) (CA : CX h x n A) (CB' : CW h p m B) (hn : n ≤ 47) (hm : m ≤ 47) (hd1 : n ≤ m + 3) (hd2 : m ≤ n + 3) : ∀ (k i : Nat), k + i = n → CTb h A B m (i + 1) 0 → ∃ y h', Q (d + 2) 353 84 [some (.ref 103), some (.ref x), none, none, some (.int (nI p)), some (.int (nI m)), some (.int (nI n)), some (.int (nI (i + 1)))] [] h = some (some (.int (nI y)), h') ∧ y ≤ 200 ∧ nr y (edF A B n m) ∧ Fr [] XTb h h' := by
  intro k
  induction k generalizing h with
  | zero =>
    intro i e T
    obtain rfl : i = n := by omega
    obtain ⟨o2, c2, k2⟩ := hs.tb (i := i) (by omega)
    obtain ⟨y, ey, l, ny⟩ := T i m (by omega) (by omega) (by omega) (Or.inl (by omega))
    refine ⟨y, h, ?_, by omega, ny, Fr.rfl⟩
    rw [t_353_84 hs, if_pos (nI_lt (by omega) (by omega)), gd_nI (by omega) (by decide), ix_nI (by omega), o2, Option.bind_some, ck_ok c2, k2, gd_nI (by omega) (by decide), ix_nI (by omega), ey]
  | succ k ih =>
    intro i e T
    obtain ⟨h1, e1, T1, f1⟩ := c_line (d := d) hs CA CB' hn hm (i := i) (by omega) (by omega) T
    obtain ⟨y, h', e', l, ny, f'⟩ := ih (f1.sh hs) (CA.fr f1 fun y hy => (xtb.mp hy).2) (CB'.fr f1 fun q => absurd (xtb.mp q) (by decide)) (i + 1) (by omega) T1
    refine ⟨y, h', ?_, l, ny, f1.trans f'⟩
    rw [t_353_84 hs, if_neg (nI_nlt (by omega) (by omega)), e1, cK_n, t_353_102 (f1.sh hs), nI_add]
    exact e'
/-- the component's farness -/
theorem c_far {h : AH} (hs : Sh h) (CA : CX h x n A) (CB' : CW h p m B) (hn : n ≤ 40) {a b : Nat} (ha : a < 41) (hb : 1 ≤ b) (hb2 : b ≤ 41) (es : gA h 105 a = nI p) (ee : gA h 106 (b - 1) = nI (p + m)) : ∃ y h', E (d + 3) 353 [.ref 103, .ref x, .int (nI a), .int (nI b)] h = some (some (.int (nI y)), h') ∧ y ≤ 200 ∧ nr y (edF A B n m) ∧ Fr [] XTb h h' := by
  have bd := ed_b (a := A) (b := B) (n + m) n m (Nat.le_refl _)
  have pm := CB'.1
  rw [t_353 hs, gd_nI ha (by decide), pk_sub (by omega), gd_nI (by omega) (by decide), if_pos (by rw [CA.1]; decide), CA.2.1, ix_nI (by omega), ix_nI (by omega), es, ee, pk_sub (by omega), Nat.add_sub_cancel_left, m_abs hs (by omega) (by omega), cK_v, t_353_33 hs]
  by_cases w : 3 < dfN m n
  · have : 3 < edF A B n m := by unfold dfN at w; split at w <;> omega
    exact ⟨99, h, by rw [if_pos (nI_lt w (show dfN m n < 2 ^ 31 by unfold dfN; split <;> omega))], by omega, nr_or.mpr (Or.inr (by omega)), Fr.rfl⟩
  · have w1 : m ≤ n + 3 ∧ n ≤ m + 3 := by unfold dfN at w; split at w <;> omega
    rw [if_neg (nI_nlt (by omega) (by decide))]
    rw [if_pos (nI_lt (by omega) (by decide)), if_pos (nI_lt (by omega) (by decide))]
    obtain ⟨h1, e1, T1, f1⟩ := c_row0 (d := d + 1) (A := A) (B := B) (p := p) (n := n) (m := m) (x := x) hs (by omega) (m + 1) 0 rfl (fun _ q => absurd q (Nat.not_lt_zero _))
    obtain ⟨y, h', e', l, ny, f'⟩ := c_lines (d := d) (f1.sh hs) (CA.fr f1 fun y hy => (xtb.mp hy).2) (CB'.fr f1 fun q => absurd (xtb.mp q) (by decide)) (by omega) (by omega) w1.2 w1.1 n 0 rfl T1
    exact ⟨y, h', e1.trans e', l, ny, f1.trans f'⟩
end CFA
