/-! ===== RUN: items, on both sides ===== -/
theorem lk_reg {t : Tp} {k : Nat} : (lk t k = 4 → lkV t k ≤ 9) ∧ (lk t k = 5 → lkV t k ≤ 3) := by
  have b3 : tK t k = 2 → lkV t k = t.2 (tS t k + 1) - 48 := fun e => by unfold lkV; rw [if_neg (by omega)]
  have n5 : tK t k ≠ 4 ∧ tK t k ≠ 5 := by have := tK_s (t := t) (k := k); omega
  constructor
  · intro h
    unfold lk at h
    split at h
    · rename_i e2
      split at h
      · omega
      · split at h
        · split at h
          · rename_i q; rw [b3 e2]; omega
          · split at h <;> omega
        · omega
    · omega
  · intro h
    unfold lk at h
    split at h
    · rename_i e2
      split at h
      · omega
      · split at h
        · split at h
          · omega
          · split at h
            · rename_i q; rw [b3 e2]; omega
            · omega
        · omega
    · omega
section ITM
variable {c : CXm} {D T p k n i : Nat} {hc hr : AH} {s : St} {G Cp : Nat → Nat → Nat}
theorem PSt.rb (q : PSt c hc hr s G Cp) (r : CRm c hc hr) (K : KXs c) : RB hr (kn c 2) (kB c) ∧ gI hr 3597 189 = nI (kn c 2) ∧ kn c 2 ≤ 1 ∧ gI hr 3726 189 = nI (kn c 3) := by
  obtain ⟨k1, k2, k3, k4, k5, k6, k7, k8, k9, k10, k11, k12, k13, k14, k15, -⟩ := K
  exact ⟨k13.fr r.2.1 (by decide), by rw [r.2.1.I (by decide)]; exact k11, k12, by rw [r.2.1.I (by decide)]; exact k15⟩
/-- an item of the list -/
theorem cm_it (q : PSt c hc hr s G Cp) (hi : i < kn c 6) (hn : 3 ≤ n) : E n 212 [.ref 164, .int (nI i)] hc = some (some (.ref (G 4 i)), hc) ∧ gC hc (G 4 i) = 5 := by
  obtain ⟨m, rfl⟩ : ∃ m, n = m + 3 := ⟨n - 3, by omega⟩
  obtain ⟨p1, p2, p3, p4, p5, p6, p7, p8, p9, p10⟩ := q
  have A := p1.2.2.2.2.2.2.2 0 (Or.inl (by decide)) (Or.inl (by decide))
  rw [show lo G 0 = 164 from rfl, show lX s 0 = List.range (zN s 2) from rfl, List.length_range, p9] at A
  have := al_get (d := m) p1.1 A hi
  rw [List.getD_eq_getElem?_getD, List.getElem?_range (by omega)] at this
  exact ⟨this, (p1.2.2.2.2.1.2.2.2 i (by omega)).1⟩
theorem itv.u {nI' : Nat} {x : Int32} (a : itv nI' x) (h : nI' ≤ 200) : x = -1 ∧ x < nI 0 ∨ ∃ i, i < nI' ∧ x = nI i ∧ ¬ x < nI 0 ∧ x ≠ -1 := by
  rcases a with a | ⟨i, a, b⟩
  · exact Or.inl ⟨a, by rw [a]; decide⟩
  · refine Or.inr ⟨i, a, b, by rw [b]; exact nI_nlt (by omega) (by omega), fun z => ?_⟩
    have : ¬ (nI i : Int32) < nI 0 := nI_nlt (by omega) (by omega)
    rw [← b, z] at this; exact this (by decide)
/-- of a sort -/
theorem cm_388 (q : PSt c hc hr s G Cp) (W : WB (kB c)) (hi : i < kn c 6) {x : Nat} (hx : x ≤ 2) (hn : 1 ≤ n) : E n 388 [.ref (G 4 i), .int (nI x)] hc = some (some (.int (nI (if ofS (kB c) s i x = true then 1 else 0))), hc) := by
  obtain ⟨m, rfl⟩ : ∃ m, n = m + 1 := ⟨n - 1, by omega⟩
  obtain ⟨p1, p2, p3, p4, p5, p6, p7, p8, p9, p10⟩ := q
  obtain ⟨a1, a2, a3, a4, a5, a6, a7, -⟩ := p1.2.2.2.2.1.2.2.2 i (by omega)
  have hb := (W.2.2.2.2.1 _ (p2.i.2.2.2 i (by omega)).1).1
  rw [t_388 p1.1, ck_ok a1, a7, ck_ok a1]
  unfold ofS
  simp only [show (nI (kB c 18 (iN s 0 i)) = nI x) = (kB c 18 (iN s 0 i) = x) from propext (nI_eq (by omega) (by omega)), show (nI x = nI 0) = (x = 0) from propext (nI_eq (by omega) (by omega)), show (nI (kB c 18 (iN s 0 i)) = nI 2) = (kB c 18 (iN s 0 i) = 2) from propext (nI_eq (by omega) (by omega))]
  by_cases q1 : kB c 18 (iN s 0 i) = x
  · rw [if_pos q1]; simp [q1]
  · rw [if_neg q1]
    by_cases q2 : x = 0
    · rw [if_pos q2]
      by_cases q3 : kB c 18 (iN s 0 i) = 2
      · rw [if_pos q3]; simp [q2, q3]
      · rw [if_neg q3]; simp [q2, q3]; rw [if_neg (show ¬ kB c 18 (iN s 0 i) = 0 from fun z => q1 (z.trans q2.symm))]
    · rw [if_neg q2]; simp [q1, q2]
/-- what a shelf has, both sides -/
theorem shf_b (q : PSt c hc hr s G Cp) (W : WB (kB c)) (ho : kn c 3 < kB c 0 0) : gR hc 2048 156 = some (kn c 1) ∧ gC hc (kn c 1) = 2 ∧ gR hc 512 (kn c 1) = some (G 7 0) ∧ gC hc (G 7 0) = 1 ∧ (∀ m o, o < kB c 0 0 → E (m + 3) 212 [.ref (G 7 0), .int (nI o)] hc = some (some (.ref (G 0 o)), hc) ∧ gC hc (G 0 o) = 7) ∧ gR hc 1797 (G 0 (kn c 3)) = some (G 5 (kn c 3)) ∧ gC hc (G 5 (kn c 3)) = 1 ∧
    (∀ m, E (m + 1) 213 [.ref (G 5 (kn c 3))] hc = some (some (.int (nI (sH s (kn c 3)).length)), hc)) ∧ (∀ m a (ha : a < (sH s (kn c 3)).length), E (m + 3) 212 [.ref (G 5 (kn c 3)), .int (nI a)] hc = some (some (.ref (G 4 ((sH s (kn c 3))[a]))), hc) ∧ gC hc (G 4 ((sH s (kn c 3))[a])) = 5 ∧ gI hc 1280 (G 4 ((sH s (kn c 3))[a])) = nI (sH s (kn c 3))[a] ∧ (sH s (kn c 3))[a] < kn c 6 ∧ gA hr 254 (200 * kn c 3 + a) = nI (sH s (kn c 3))[a]) ∧ (sH s (kn c 3)).length ≤ 200 ∧ gA hr 255 (kn c 3) = nI (sH s (kn c 3)).length := by
  have w0 := W.1.1
  obtain ⟨p1, p2, p3, p4, p5, p6, p7, p8, p9, p10⟩ := q
  obtain ⟨c1, c2, c3, B, C1, C2⟩ := p1
  obtain ⟨g0, A0⟩ := B.2.2.1 0 (by decide)
  have bo := B.2.2.2.2.1 (kn c 3) ho
  have A := C2.2.2 (10 + kn c 3) (Or.inr (Or.inl ⟨by omega, by omega⟩)) (Or.inr (by omega))
  rw [lo_sh (by omega), lX_sh (by omega)] at A
  have r2 := p5.2.1.1 (kn c 3) (by omega)
  refine ⟨c3, B.1, g0, A0.1, fun m o ho => ⟨al_get c1 A0 ho, (B.2.2.2.2.1 o ho).1⟩, bo.2.2.2.2.2.1, A.1, fun m => al_size c1 A, fun m a ha => ?_, (p2.len _).1, r2.1⟩
  have hm : (sH s (kn c 3))[a] ∈ sH s (kn c 3) := List.getElem_mem ha
  have hi := ((p2.2.2.2.2.1 (kn c 3)).2 _).mp hm
  have ci := C1.2.2.2 _ hi.1
  have ge := al_get (d := m) c1 A ha
  rw [List.getD_eq_getElem?_getD, List.getElem?_eq_getElem ha] at ge
  exact ⟨ge, ci.1, ci.2.2.1, by omega, r2.2 a ha⟩
end ITM
