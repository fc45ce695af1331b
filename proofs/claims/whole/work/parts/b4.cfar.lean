/-! ===== FARNESS: the component's lines beside the diagonal ===== -/
def XTb : List Nat := List.range' 108 48
theorem xtb {x : Nat} : x ∈ XTb ↔ 108 ≤ x ∧ x < 156 := by unfold XTb; rw [List.mem_range'_1]
theorem tb_c : ∀ i, i < 48 → cS (108 + i) = 60 ∧ kS (108 + i) = 48 := by decide +kernel
theorem beq_ne {a b : Nat} (e : a ≠ b) : Nat.beq a b = false := by
  cases q : Nat.beq a b with
  | false => rfl
  | true => exact absurd (Nat.eq_of_beq_eq_true q) e
/-- alike, or both of them too far -/
def nr (x y : Nat) : Prop := min x 4 = min y 4
theorem nr_or {x y : Nat} : nr x y ↔ x = y ∨ 4 ≤ x ∧ 4 ≤ y := by unfold nr; omega
theorem nr_ad {x y c : Nat} (a : nr x y) : nr (x + c) (y + c) := nr_or.mpr (by have := nr_or.mp a; omega)
theorem nr_sm {x y x' y' : Nat} (a : nr x y) (b : nr x' y') : nr (x + x') (y + y') := nr_or.mpr (by have := nr_or.mp a; have := nr_or.mp b; omega)
theorem nr_mn {x y x' y' : Nat} (a : nr x y) (b : nr x' y') : nr (min x x') (min y y') := nr_or.mpr (by have := nr_or.mp a; have := nr_or.mp b; omega)
theorem Sh.tb {h : AH} (hs : Sh h) {i : Nat} (hi : i < 48) : gO h 107 i = some (108 + i) ∧ gC h (108 + i) = 60 ∧ gK h (108 + i) = 48 := by
  have hin : inS (108 + i) = true := inS_lt.mpr (by omega)
  refine ⟨?_, ?_, ?_⟩
  · rw [← congrFun (congrFun hs.o 107) i]
    unfold oX
    rw [show Nat.blt i 48 = true from by rw [Nat.blt_eq]; exact hi]; rfl
  · rw [← congrFun hs.c (108 + i)]
    unfold cX
    rw [hin]; exact (tb_c i hi).1
  · rw [← congrFun hs.k (108 + i)]
    unfold kX
    rw [hin, show Nat.beq (108 + i) 63 = false from beq_ne (by omega), show Nat.beq (108 + i) 64 = false from beq_ne (by omega)]; exact (tb_c i hi).2
section CFA
variable {d : Nat} {A B : Nat → Nat} {p n m x : Nat}
/-- a text of codes in a row of its own -/
def CX (h : AH) (x n : Nat) (A : Nat → Nat) : Prop := gC h x = 60 ∧ gK h x = n ∧ 156 ≤ x ∧ ∀ i, i < n → gA h x i = nI (A i) ∧ A i < 37
/-- words of codes in the finder's row -/
def CW (h : AH) (p m : Nat) (B : Nat → Nat) : Prop := p + m ≤ 613 ∧ ∀ i, i < m → gA h 104 (p + i) = nI (B i) ∧ B i < 37
/-- the table is filled beside the diagonal up to the row i, the place j -/
def CTb (h : AH) (A B : Nat → Nat) (m i j : Nat) : Prop := ∀ i' j', j' ≤ m → i' ≤ j' + 4 → j' ≤ i' + 4 → (i' < i ∨ i' = i ∧ j' < j) → ∃ y, gA h (108 + i') j' = nI y ∧ y ≤ 100 + i' + j' ∧ nr y (edF A B i' j')
theorem CX.fr {K X : List Nat} {h h' : AH} {x n : Nat} (C : CX h x n A) (f : Fr K X h h') (hX : ∀ y, y ∈ X → y < 156) : CX h' x n A := by
  unfold CX at C ⊢
  rw [f.A (fun q => absurd (hX x q) (by omega)), f.2.1, f.2.2.1]; exact C
theorem CW.fr {K X : List Nat} {h h' : AH} {p m : Nat} (C : CW h p m B) (f : Fr K X h h') (hX : 104 ∉ X) : CW h' p m B := by
  unfold CW at C ⊢
  rw [f.A hX]; exact C
theorem CTb.set {h : AH} {i j y : Nat} (T : CTb h A B m i j) (hy : y ≤ 100 + i + j) (e : nr y (edF A B i j)) : CTb (sA h (108 + i) j (nI y)) A B m i (j + 1) := fun i' j' a b c hc => by
  show ∃ z, up2 (gA h) (108 + i) j (nI y) (108 + i') j' = nI z ∧ _
  by_cases q : i' = i
  · subst q
    by_cases q : j' = j
    · subst q; rw [up2_s]; exact ⟨y, rfl, hy, e⟩
    · rw [up2_x q]; exact T i' j' a b c (by omega)
  · rw [up2_k (by omega)]; exact T i' j' a b c (by omega)
theorem c_cell {h : AH} (hs : Sh h) (CA : CX h x n A) (CB' : CW h p m B) (hn : n ≤ 47) (hm : m ≤ 47) {i j r : Nat} (hi : i < n) (hj : j < m) (hr : j < r) (hr2 : r ≤ m) (h1 : i ≤ j + 3) (h2 : j ≤ i + 3) (T : CTb h A B m (i + 1) (j + 1)) : ∃ y, y ≤ 100 + (i + 1) + (j + 1) ∧ nr y (edF A B (i + 1) (j + 1)) ∧ Q (d + 1) 379 46 [some (.ref 103), some (.ref x), some (.int (nI (i + 1))), some (.int (nI p)), some (.int (nI m)), none, some (.int (nI r)), some (.int (nI (j + 1))), none, none] [] h = Q (d + 1) 379 46 [some (.ref 103), some (.ref x), some (.int (nI (i + 1))), some (.int (nI p)), some (.int (nI m)), none, some (.int (nI r)), some (.int (nI (j + 1 + 1))), none, none] [] (sA h (108 + (i + 1)) (j + 1) (nI y)) := by
  obtain ⟨ca, cb, cc, cd'⟩ := CA
  obtain ⟨pb, rb⟩ := CB'
  obtain ⟨a1, a2⟩ := cd' i hi
  obtain ⟨b1, b2⟩ := rb j hj
  obtain ⟨y1, e1, l1, m1⟩ := T i j (by omega) (by omega) (by omega) (Or.inl (by omega))
  obtain ⟨y2, e2, l2, m2⟩ := T i (j + 1) (by omega) (by omega) (by omega) (Or.inl (by omega))
  obtain ⟨y3, e3, l3, m3⟩ := T (i + 1) j (by omega) (by omega) (by omega) (Or.inr ⟨rfl, by omega⟩)
  obtain ⟨o1, c1, k1⟩ := hs.tb (i := i) (by omega)
  obtain ⟨o2, c2, k2⟩ := hs.tb (i := i + 1) (by omega)
  have g1 : nI (i + 1) - nI 1 = nI i := by rw [pk_sub (by omega)]; congr 1
  have g2 : nI (j + 1) - nI 1 = nI j := by rw [pk_sub (by omega)]; congr 1
  have g3 : nI p + nI (j + 1) - nI 1 = nI (p + j) := by rw [nI_add, pk_sub (by omega)]; congr 1
  have eqc : ∀ {c e : Nat}, c < 37 → e < 37 → (nI c = nI e) = (c = e) := fun hc he => propext (nI_eq (by omega) (by omega))
  have w1 : ¬ nI r < nI (j + 1) := nI_nlt (by omega) (by omega)
  have mid : ∀ c : Nat, c ≤ 1 → (c = if A i = B j then 0 else 1) → ∀ u9, ∃ y, y ≤ 100 + (i + 1) + (j + 1) ∧ nr y (edF A B (i + 1) (j + 1)) ∧ Q (d + 1) 379 132 [some (.ref 103), some (.ref x), some (.int (nI (i + 1))), some (.int (nI p)), some (.int (nI m)), none, some (.int (nI r)), some (.int (nI (j + 1))), none, u9] [.int (nI (min y2 y3)), .int (nI (y1 + c))] h = Q (d + 1) 379 46 [some (.ref 103), some (.ref x), some (.int (nI (i + 1))), some (.int (nI p)), some (.int (nI m)), none, some (.int (nI r)), some (.int (nI (j + 1 + 1))), none, none] [] (sA h (108 + (i + 1)) (j + 1) (nI y)) := fun c hc ec u9 => by
    rw [ed_s, ← ec]
    have no : ¬ (1 ≤ i ∧ 1 ≤ j ∧ A i = B (j - 1) ∧ A (i - 1) = B j) → ∀ z, z = (min (y1 + c) (min y2 y3 + 1)) → z ≤ 100 + (i + 1) + (j + 1) ∧ nr z (if 1 ≤ i ∧ 1 ≤ j ∧ A i = B (j - 1) ∧ A (i - 1) = B j then min (min (edF A B i j + c) (1 + min (edF A B i (j + 1)) (edF A B (i + 1) j))) (edF A B (i - 1) (j - 1) + 1) else min (edF A B i j + c) (1 + min (edF A B i (j + 1)) (edF A B (i + 1) j))) := fun q z ez => by
      rw [if_neg q, ez, Nat.add_comm 1]
      exact ⟨by omega, nr_mn (nr_ad m1) (nr_ad (nr_mn m2 m3))⟩
    rw [t_379_132 hs, nI_add, m_min hs (by omega) (by omega), cK_v, t_379_137 hs]
    by_cases q1 : 1 ≤ i
    · rw [if_pos (nI_lt (by omega) (by omega))]
      by_cases q2 : 1 ≤ j
      · obtain ⟨c1', c2'⟩ := cd' (i - 1) (by omega)
        obtain ⟨f1, f2⟩ := rb (j - 1) (by omega)
        have g4 : nI p + nI (j + 1) - nI 2 = nI (p + (j - 1)) := by rw [nI_add, pk_sub (by omega)]; congr 1; omega
        have g5 : nI (i + 1) - nI 2 = nI (i - 1) := by rw [pk_sub (by omega)]; congr 1
        have g6 : nI (j + 1) - nI 2 = nI (j - 1) := by rw [pk_sub (by omega)]; congr 1
        obtain ⟨y4, e4, l4, m4⟩ := T (i - 1) (j - 1) (by omega) (by omega) (by omega) (Or.inl (by omega))
        obtain ⟨o4, c4, k4⟩ := hs.tb (i := i - 1) (by omega)
        rw [if_pos (nI_lt (by omega) (by omega)), ck_ok ca, g1, cb, gd_nI (by omega) (by omega), g4, gd_nI (by omega) (by decide), ix_nI (by omega), ix_nI (by omega), a1, f1, ck_ok ca, g5, gd_nI (by omega) (by omega), g3, gd_nI (by omega) (by decide), ix_nI (by omega), ix_nI (by omega), c1', b1]
        simp only [eqc a2 f2, eqc c2' b2]
        by_cases q3 : A i = B (j - 1)
        · rw [if_pos q3]
          by_cases q4 : A (i - 1) = B j
          · rw [if_pos q4, if_pos ⟨q1, q2, q3, q4⟩, gd_nI (by omega) (by decide), o4, Option.bind_some, ck_ok c4, g6, k4, gd_nI (by omega) (by decide), ix_nI (by omega), e4, nI_add, m_min hs (by omega) (by omega), cK_v, t_379_208 hs, gd_nI (by omega) (by decide), ix_nI (by omega), o2, Option.bind_some, cw_ok c2 (by omega), k2, gd_nI (by omega) (by decide), ix_nI (by omega), nI_add]
            rw [Nat.add_comm 1]
            exact ⟨_, by omega, nr_mn (nr_mn (nr_ad m1) (nr_ad (nr_mn m2 m3))) (nr_ad m4), rfl⟩
          · rw [if_neg q4, gd_nI (by omega) (by decide), ix_nI (by omega), o2, Option.bind_some, cw_ok c2 (by omega), k2, gd_nI (by omega) (by decide), ix_nI (by omega), nI_add]
            have := no (fun y => q4 y.2.2.2) _ rfl
            exact ⟨_, this.1, this.2, rfl⟩
        · rw [if_neg q3, gd_nI (by omega) (by decide), ix_nI (by omega), o2, Option.bind_some, cw_ok c2 (by omega), k2, gd_nI (by omega) (by decide), ix_nI (by omega), nI_add]
          have := no (fun y => q3 y.2.2.1) _ rfl
          exact ⟨_, this.1, this.2, rfl⟩
      · rw [if_neg (nI_nlt (by omega) (by omega)), gd_nI (by omega) (by decide), ix_nI (by omega), o2, Option.bind_some, cw_ok c2 (by omega), k2, gd_nI (by omega) (by decide), ix_nI (by omega), nI_add]
        have := no (fun y => q2 y.2.1) _ rfl
        exact ⟨_, this.1, this.2, rfl⟩
    · rw [if_neg (nI_nlt (by omega) (by omega)), gd_nI (by omega) (by decide), ix_nI (by omega), o2, Option.bind_some, cw_ok c2 (by omega), k2, gd_nI (by omega) (by decide), ix_nI (by omega), nI_add]
      have := no (fun y => q1 y.1) _ rfl
      exact ⟨_, this.1, this.2, rfl⟩
  rw [t_379_46 hs, if_neg w1, ck_ok ca, g1, cb, gd_nI hi (by omega), g3, gd_nI (by omega) (by decide), ix_nI (by omega), ix_nI (by omega), a1, b1]
  simp only [eqc a2 b2]
  by_cases q : A i = B j
  · rw [if_pos q, gd_nI (by omega) (by decide), o1, Option.bind_some, ck_ok c1, g2, k1, gd_nI (by omega) (by decide), if_neg (by decide), gd_nI (by omega) (by decide), Option.bind_some, ck_ok c1, k1, gd_nI (by omega) (by decide), gd_nI (by omega) (by decide), ix_nI (by omega), o2, Option.bind_some, ck_ok c2, k2, gd_nI (by omega) (by decide), ix_nI (by omega), ix_nI (by omega), e1, e2, e3, m_min hs (by omega) (by omega), cK_v, nI_add]
    exact mid 0 (by decide) (by rw [if_pos q]) _
  · rw [if_neg q, gd_nI (by omega) (by decide), o1, Option.bind_some, ck_ok c1, g2, k1, gd_nI (by omega) (by decide), if_pos trivial, gd_nI (by omega) (by decide), Option.bind_some, ck_ok c1, k1, gd_nI (by omega) (by decide), gd_nI (by omega) (by decide), ix_nI (by omega), o2, Option.bind_some, ck_ok c2, k2, gd_nI (by omega) (by decide), ix_nI (by omega), ix_nI (by omega), e1, e2, e3, m_min hs (by omega) (by omega), cK_v, nI_add]
    exact mid 1 (by decide) (by rw [if_neg q]) _
end CFA
