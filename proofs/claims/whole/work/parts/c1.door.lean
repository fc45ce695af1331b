/-! ===== WORDS: their signs; the door ===== -/
theorem off_c {v : List Nat} {ws : List (List Nat)} {k : Nat} : off (v :: ws) (k + 1) = v.length + 1 + off ws k := by
  unfold off; rw [List.take_succ_cons, FL, List.length_append, List.length_cons]; omega
theorem off_0 {ws : List (List Nat)} : off ws 0 = 0 := rfl
theorem FL_at : ∀ (ws : List (List Nat)) (k : Nat) {w : List Nat} {i : Nat}, ws[k]? = some w → i ≤ w.length → (FL ws).getD (off ws k + i) 0 = (if i < w.length then w.getD i 0 else 0) ∧ off ws k + i < (FL ws).length
  | [], k, w, i, e, _ => by cases e
  | v :: ws, 0, w, i, e, hi => by
    cases e
    rw [off_0, Nat.zero_add, FL, List.length_append, List.length_cons, List.getD_eq_getElem?_getD]
    refine ⟨?_, by omega⟩
    by_cases q : i < v.length
    · rw [if_pos q, List.getElem?_append_left q, List.getD_eq_getElem?_getD]
    · obtain rfl : i = v.length := by omega
      rw [if_neg q, List.getElem?_append_right (Nat.le_refl _), Nat.sub_self]; rfl
  | v :: ws, k + 1, w, i, e, hi => by
    have ih := FL_at ws k (w := w) (i := i) (by rw [List.getElem?_cons_succ] at e; exact e) hi
    rw [off_c, FL, List.length_append, List.length_cons, List.getD_eq_getElem?_getD, List.getElem?_append_right (by omega), show v.length + 1 + off ws k + i - v.length = (off ws k + i) + 1 from by omega, List.getElem?_cons_succ, ← List.getD_eq_getElem?_getD]
    exact ⟨ih.1, by omega⟩
theorem CWs.at {h : AH} {ws : List (List Nat)} (C : CWs h ws) {k i : Nat} {w : List Nat} (e : ws[k]? = some w) (hi : i < w.length) : gA h 104 (off ws k + i) = nI (w.getD i 0) := by
  have := FL_at ws k e (Nat.le_of_lt hi)
  have h2 := FL_at ws k e (Nat.succ_le_of_lt hi)
  rw [if_pos hi] at this
  rw [C.2.2 _ (by omega), this.1]
theorem RWs.at {h : AH} {ws : List (List Nat)} (C : RWs h ws) {k i : Nat} {w : List Nat} (e : ws[k]? = some w) (hi : i < w.length) : gA h 233 (off ws k + i) = nI (asc (w.getD i 0)) := by
  have := FL_at ws k e (Nat.le_of_lt hi)
  rw [if_pos hi] at this
  rw [C.2.2.2 _ this.2, this.1]
theorem WWb.cd {fr : Nat} {ws : List (List Nat)} (V : WWb fr ws) {k i : Nat} {w : List Nat} (e : ws[k]? = some w) (hi : i < w.length) : w.getD i 0 ≠ 0 ∧ w.getD i 0 < 37 := by
  have m := List.mem_of_getElem? e
  rw [List.getD_eq_getElem?_getD, List.getElem?_eq_getElem hi]
  exact V.2.2 w m _ (List.getElem_mem hi)
theorem WWb.lb {fr : Nat} {ws : List (List Nat)} (V : WWb fr ws) {k : Nat} {w : List Nat} (e : ws[k]? = some w) : off ws k + w.length < (FL ws).length ∧ (FL ws).length ≤ 13 * ws.length + fr ∧ k < ws.length := by
  have := FL_at ws k e (Nat.le_refl _)
  exact ⟨this.2, V.2.1, (List.getElem?_eq_some_iff.mp e).1⟩
/-- digits first, three at most: how many, which number -/
def drL (w : List Nat) : Nat → Nat → Nat → Nat × Nat
  | 0, n, v => (n, v)
  | k + 1, n, v => if n < w.length ∧ 27 ≤ w.getD n 0 then drL w k (n + 1) (10 * v + (w.getD n 0 - 27)) else (n, v)
/-- a door: number, letter -/
def doS (w : List Nat) : Option (Nat × Nat) :=
  if (drL w 3 0 0).1 = 0 ∨ w.getD 0 0 = 27 then none else
  if (drL w 3 0 0).1 < w.length ∧ w.getD (drL w 3 0 0).1 0 < 27 then (if (drL w 3 0 0).1 + 1 = w.length then some ((drL w 3 0 0).2, w.getD (drL w 3 0 0).1 0) else none) else
  if (drL w 3 0 0).1 = w.length then some ((drL w 3 0 0).2, 0) else none
theorem dr_b {w : List Nat} (hw : ∀ i, i < w.length → w.getD i 0 < 37) : ∀ (k n v : Nat), n ≤ w.length → (drL w k n v).1 ≤ w.length ∧ (drL w k n v).1 ≤ n + k ∧ (drL w k n v).2 + 1 ≤ 10 ^ k * (v + 1)
  | 0, n, v, h => ⟨h, Nat.le_refl _, by show v + 1 ≤ 10 ^ 0 * (v + 1); omega⟩
  | k + 1, n, v, h => by
    rw [drL]
    by_cases q : n < w.length ∧ 27 ≤ w.getD n 0
    · rw [if_pos q]
      have ih := dr_b hw k (n + 1) (10 * v + (w.getD n 0 - 27)) q.1
      have := hw n q.1
      refine ⟨ih.1, by omega, Nat.le_trans ih.2.2 ?_⟩
      rw [Nat.pow_succ, Nat.mul_assoc]
      exact Nat.mul_le_mul_left _ (by omega)
    · rw [if_neg q]
      exact ⟨h, by show n ≤ _; omega, Nat.le_trans (by show v + 1 ≤ 1 * (v + 1); omega) (Nat.mul_le_mul_right _ (Nat.pow_pos (by decide)))⟩
theorem do_b {w : List Nat} (hw : ∀ i, i < w.length → w.getD i 0 < 37) {v l : Nat} (e : doS w = some (v, l)) : v ≤ 999 ∧ l < 27 := by
  have b := dr_b hw 3 0 0 (Nat.zero_le _)
  unfold doS at e
  have b3 : (drL w 3 0 0).2 ≤ 999 := by have := b.2.2; omega
  split at e
  · cases e
  · split at e
    · rename_i q
      split at e
      · cases e; exact ⟨b3, q.2⟩
      · cases e
    · split at e
      · cases e; exact ⟨b3, by decide⟩
      · cases e
section DOR
variable {d : Nat} {ws : List (List Nat)} {w : List Nat} {fr : Nat}
theorem c_drl {h : AH} (hs : Sh h) (C : CWs h ws) (V : WWb fr ws) (e : ws[0]? = some w) (hfr : fr ≤ 81) : ∀ (k n v : Nat), k + n = 3 → n ≤ w.length → Q d 243 9 [some (.ref 103), some (.int (nI v)), some (.int (nI n)), none] [] h = Q d 243 63 [some (.ref 103), some (.int (nI (drL w k n v).2)), some (.int (nI (drL w k n v).1)), none] [] h := by
  intro k
  have lb := V.lb e
  have v1 := V.1
  obtain ⟨s1, s2⟩ := C.2.1 0 w e
  rw [off_0] at s1 s2 lb
  rw [Nat.zero_add] at s2 lb
  induction k with
  | zero =>
    intro n v hk hn
    rw [t_243_9 hs, s1, s2, nI_add, drL]
    obtain rfl : n = 3 := by omega
    by_cases q : 3 < w.length
    · rw [if_pos (nI_lt q (by omega)), if_neg (by decide)]
    · rw [if_neg (nI_nlt (by omega) (by omega))]
  | succ k ih =>
    intro n v hk hn
    rw [t_243_9 hs, s1, s2, nI_add, drL]
    by_cases q : n < w.length
    · have a := C.at e q
      rw [off_0, Nat.zero_add] at a
      have b := (V.cd e q).2
      rw [if_pos (nI_lt q (by omega)), if_pos (nI_lt (by omega) (by decide)), gd_nI (by omega) (by decide), ix_nI (by omega), a]
      by_cases z : 27 ≤ w.getD n 0
      · rw [if_neg (nI_nlt z (by omega)), if_pos ⟨q, z⟩, gd_nI (by omega) (by decide), pk_mul, nI_add, pk_sub (by omega), nI_add, show v * 10 + w.getD n 0 - 27 = 10 * v + (w.getD n 0 - 27) from by omega]
        exact ih (n + 1) _ (by omega) (by omega)
      · rw [if_pos (nI_lt (by omega) (by decide)), if_neg fun y => z y.2]
    · rw [if_neg (nI_nlt (by omega) (by omega)), if_neg fun y => q y.1]
theorem c_rdDoor {h : AH} (hs : Sh h) (C : CWs h ws) (V : WWb fr ws) (e : ws[0]? = some w) (hfr : fr ≤ 81) : ∃ h', E (d + 1) 243 [.ref 103] h = some (some (.int (nI (if (doS w).isSome then 1 else 0))), h') ∧ Fr [1030] [] h h' ∧ ∀ v l, doS w = some (v, l) → gI h' 1030 103 = nI (27 * v + l) := by
  have lb := V.lb e
  have v1 := V.1
  obtain ⟨s1, s2⟩ := C.2.1 0 w e
  have hw : ∀ i, i < w.length → w.getD i 0 < 37 := fun i hi => (V.cd e hi).2
  have dl := c_drl (d := d) hs C V e hfr 3 0 0 rfl (Nat.zero_le _)
  have db := dr_b hw 3 0 0 (Nat.zero_le _)
  rw [off_0] at s1 s2 lb
  rw [Nat.zero_add] at s2 lb
  rw [t_243 hs, s1, dl, t_243_63 hs, s1, s2]
  unfold doS
  generalize drL w 3 0 0 = dd at *
  obtain ⟨n, v⟩ := dd
  simp only at db ⊢
  simp only [show (nI n = nI 0) = (n = 0) from propext (nI_eq (by omega) (by decide))]
  by_cases q0 : n = 0
  · rw [if_pos q0, t_243_89 hs, if_pos (Or.inl q0)]
    exact ⟨h, rfl, Fr.rfl, fun _ _ z => by cases z⟩
  · have a0 := C.at e (i := 0) (by omega)
    rw [off_0] at a0
    have b0 := (V.cd e (i := 0) (by omega)).2
    rw [if_neg q0, gd_nI (by decide) (by decide), ix_nI (by decide), a0]
    simp only [show (nI (w.getD 0 0) = nI 27) = (w.getD 0 0 = 27) from propext (nI_eq (by omega) (by decide))]
    by_cases q1 : w.getD 0 0 = 27
    · rw [if_pos q1, t_243_89 hs, if_pos (Or.inr q1)]
      exact ⟨h, rfl, Fr.rfl, fun _ _ z => by cases z⟩
    · rw [if_neg q1, if_neg (c := n = 0 ∨ w.getD 0 0 = 27) (fun z => z.elim q0 q1)]
      have fin : ∀ n' l : Nat, n' < 2 ^ 31 → Q d 243 124 [some (.ref 103), some (.int (nI v)), some (.int (nI n')), some (.int (nI l))] [] h = some (some (.int (nI (if n' = w.length then 1 else 0))), sI h 1030 103 (nI (27 * v + l))) := fun n' l hn' => by
        rw [t_243_124 hs, s2]
        simp only [show (nI n' = nI w.length) = (n' = w.length) from propext (nI_eq hn' (by omega))]
        rw [pk_mul, nI_add]
        by_cases q : n' = w.length
        · rw [if_pos q, if_pos q]
        · rw [if_neg q, if_neg q]
      by_cases q2 : n < w.length
      · have a := C.at e q2
        rw [off_0, Nat.zero_add] at a
        have b := (V.cd e q2).2
        rw [if_pos (nI_lt q2 (by omega)), gd_nI (by omega) (by decide), ix_nI (by omega), a]
        by_cases q3 : w.getD n 0 < 27
        · rw [if_pos (nI_lt q3 (by decide)), gd_nI (by omega) (by decide), nI_add, fin _ _ (by omega), if_pos (c := n < w.length ∧ w.getD n 0 < 27) ⟨q2, q3⟩]
          refine ⟨sI h 1030 103 (nI (27 * v + w.getD n 0)), ?_, Fr.rfl.sI (List.mem_singleton.mpr rfl), fun v' l' z => ?_⟩
          · by_cases q : n + 1 = w.length
            · rw [if_pos q, if_pos q]; rfl
            · rw [if_neg q, if_neg q]; rfl
          · by_cases q : n + 1 = w.length
            · rw [if_pos q] at z; cases z; exact gI_s
            · rw [if_neg q] at z; cases z
        · rw [if_neg (nI_nlt (by omega) (by omega)), fin _ _ (by omega), if_neg (c := n < w.length ∧ w.getD n 0 < 27) (fun z => q3 z.2)]
          refine ⟨sI h 1030 103 (nI (27 * v + 0)), ?_, Fr.rfl.sI (List.mem_singleton.mpr rfl), fun v' l' z => ?_⟩
          · have z : ¬ n = w.length := by omega
            rw [if_neg z, if_neg z]; rfl
          · rw [if_neg (by omega)] at z; cases z
      · rw [if_neg (nI_nlt (by omega) (by omega)), fin _ _ (by omega), if_neg (c := n < w.length ∧ w.getD n 0 < 27) (fun z => q2 z.1)]
        refine ⟨sI h 1030 103 (nI (27 * v + 0)), ?_, Fr.rfl.sI (List.mem_singleton.mpr rfl), fun v' l' z => ?_⟩
        · have z : n = w.length := by omega
          rw [if_pos z, if_pos z]; rfl
        · rw [if_pos (by omega)] at z; cases z; exact gI_s
end DOR
