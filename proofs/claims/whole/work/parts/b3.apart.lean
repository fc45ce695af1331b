/-! ===== FARNESS: the reference's apart ===== -/
section APT
variable {d : Nat} {A B : Nat → Nat} {p q n m : Nat}
theorem r_row {h : AH} (hs : Sh h) (RA : RG h p n A) (RB' : RG h q m B) (hn : n ≤ 40) (hm : m ≤ 43) {i : Nat} (hi : i ≤ n) : ∀ (k j : Nat), k + j = m + 1 → TB h A B m i j → ∃ h', Q (d + 1) 76 30 [some (.ref 189), some (.int (nI p)), some (.int (nI n)), some (.int (nI q)), some (.int (nI m)), some (.int (nI (m + 1))), some (.int (nI i)), some (.int (nI j)), none, none, none] [] h = Q (d + 1) 76 21 [some (.ref 189), some (.int (nI p)), some (.int (nI n)), some (.int (nI q)), some (.int (nI m)), some (.int (nI (m + 1))), some (.int (nI (i + 1))), none, none, none, none] [] h' ∧ TB h' A B m (i + 1) 0 ∧ Fr [] [236] h h' := by
  intro k
  induction k generalizing h with
  | zero =>
    intro j e T
    obtain rfl : j = m + 1 := by omega
    refine ⟨h, ?_, fun i' j' hj' hc => T i' j' hj' (by omega), Fr.rfl⟩
    rw [t_76_30 hs, if_pos (nI_lt (by omega) (by omega)), nI_add]
  | succ k ih =>
    intro j e T
    have hf : Fr [] [236] h (sA h 236 ((m + 1) * i + j) (nI (edF A B i j))) := Fr.rfl.sA (List.mem_singleton.mpr rfl)
    obtain ⟨h', e', T', f⟩ := ih hs.sA (RA.fr hf (by decide)) (RB'.fr hf (by decide)) (j + 1) (by omega) (T.set (by omega))
    exact ⟨h', (r_cell hs RA RB' hn hm hi (by omega) T).trans e', T', hf.trans f⟩
theorem r_rows {h : AH} (hs : Sh h) (RA : RG h p n A) (RB' : RG h q m B) (hn : n ≤ 40) (hm : m ≤ 43) : ∀ (k i : Nat), k + i = n + 1 → TB h A B m i 0 → ∃ h', Q (d + 1) 76 21 [some (.ref 189), some (.int (nI p)), some (.int (nI n)), some (.int (nI q)), some (.int (nI m)), some (.int (nI (m + 1))), some (.int (nI i)), none, none, none, none] [] h = some (some (.int (nI (min (edF A B n m) 4))), h') ∧ Fr [] [236] h h' := by
  intro k
  induction k generalizing h with
  | zero =>
    intro i e T
    obtain rfl : i = n + 1 := by omega
    have bd := (ed_b (a := A) (b := B) (n + m) n m (Nat.le_refl _)).1
    refine ⟨h, ?_, Fr.rfl⟩
    rw [t_76_21 hs, if_pos (nI_lt (by omega) (by omega)), pk_mul, nI_add, gd_nI (ix2_b (Nat.le_refl n) hn (by omega) (by omega)) (by decide), ix_nI (by have := ix2_b (w := m + 1) (j := m) (Nat.le_refl n) hn (by omega) (by omega); omega), T n m (Nat.le_refl _) (Or.inl (by omega))]
    by_cases q : 3 < edF A B n m
    · rw [if_pos (nI_lt q (by omega)), Nat.min_eq_right (by omega)]
    · rw [if_neg (nI_nlt (by omega) (by omega)), Nat.min_eq_left (by omega)]
  | succ k ih =>
    intro i e T
    obtain ⟨h1, e1, T1, f1⟩ := r_row (d := d) hs RA RB' hn hm (i := i) (by omega) (m + 1) 0 rfl T
    obtain ⟨h', e', f⟩ := ih (f1.sh hs) (RA.fr f1 (by decide)) (RB'.fr f1 (by decide)) (i + 1) (by omega) T1
    refine ⟨h', ?_, f1.trans f⟩
    rw [t_76_21 hs, if_neg (nI_nlt (by omega) (by omega))]
    exact e1.trans e'
/-- the reference's farness -/
theorem r_apart {h : AH} (hs : Sh h) (RA : RG h p n A) (RB' : RG h q m B) (hn : n ≤ 40) (hm : m ≤ 2000) : ∃ h', E (d + 2) 76 [.ref 189, .int (nI p), .int (nI n), .int (nI q), .int (nI m)] h = some (some (.int (nI (min (edF A B n m) 4))), h') ∧ Fr [] [236] h h' := by
  have bd := ed_b (a := A) (b := B) (n + m) n m (Nat.le_refl _)
  rw [t_76 hs, r_away hs (by omega) (by omega), cK_v, t_76_6 hs]
  by_cases w : 3 < dfN n m
  · have : 3 < edF A B n m := by unfold dfN at w; split at w <;> omega
    exact ⟨h, by rw [if_pos (nI_lt w (show dfN n m < 2 ^ 31 by unfold dfN; split <;> omega)), Nat.min_eq_right (by omega)], Fr.rfl⟩
  · have : m ≤ 43 := by unfold dfN at w; split at w <;> omega
    rw [if_neg (nI_nlt (by omega) (by decide)), nI_add]
    exact r_rows hs RA RB' hn this (n + 1) 0 rfl fun i' j' _ hc => absurd hc (by omega)
end APT
