/-! ===== FARNESS: what it is; the reference's table ===== -/
/-- the farness of the first i signs of one row and the first j of another -/
def edF (a b : Nat → Nat) : Nat → Nat → Nat
  | 0, j => j
  | i + 1, 0 => i + 1
  | i + 1, j + 1 =>
    if 1 ≤ i ∧ 1 ≤ j ∧ a i = b (j - 1) ∧ a (i - 1) = b j then min (min (edF a b i j + if a i = b j then 0 else 1) (1 + min (edF a b i (j + 1)) (edF a b (i + 1) j))) (edF a b (i - 1) (j - 1) + 1)
    else min (edF a b i j + if a i = b j then 0 else 1) (1 + min (edF a b i (j + 1)) (edF a b (i + 1) j))
termination_by i j => i + j
section EDF
variable {a b : Nat → Nat}
theorem ed_0 (j : Nat) : edF a b 0 j = j := by rw [edF]
theorem ed_s0 (i : Nat) : edF a b i 0 = i := by
  cases i with
  | zero => rw [edF]
  | succ i => rw [edF]
theorem ed_s (i j : Nat) : edF a b (i + 1) (j + 1) = if 1 ≤ i ∧ 1 ≤ j ∧ a i = b (j - 1) ∧ a (i - 1) = b j then min (min (edF a b i j + if a i = b j then 0 else 1) (1 + min (edF a b i (j + 1)) (edF a b (i + 1) j))) (edF a b (i - 1) (j - 1) + 1)
    else min (edF a b i j + if a i = b j then 0 else 1) (1 + min (edF a b i (j + 1)) (edF a b (i + 1) j)) := by rw [edF]
theorem ed_b : ∀ (n i j : Nat), i + j ≤ n → edF a b i j ≤ i + j ∧ i ≤ edF a b i j + j ∧ j ≤ edF a b i j + i
  | n, 0, j, _ => by rw [ed_0]; omega
  | n, i + 1, 0, _ => by rw [ed_s0]; omega
  | 0, i + 1, j + 1, h => by omega
  | n + 1, i + 1, j + 1, h => by
    have h1 := ed_b n i j (by omega)
    have h2 := ed_b n i (j + 1) (by omega)
    have h3 := ed_b n (i + 1) j (by omega)
    have h4 := ed_b n (i - 1) (j - 1) (by omega)
    rw [ed_s]
    split
    · split <;> omega
    · split <;> omega
end EDF
/-- the sign of a code -/
def asc (c : Nat) : Nat := if c = 0 then 32 else if c < 27 then c + 96 else c + 21
theorem asc_b {c : Nat} (h : c < 37) : asc c < 128 ∧ 32 ≤ asc c := by unfold asc; constructor <;> (repeat' split) <;> omega
theorem asc_i : ∀ c, c < 37 → ∀ e, e < 37 → asc c = asc e → c = e := by decide +kernel
theorem ix2_ne {w i j i' j' : Nat} (hj : j < w) (hj' : j' < w) (h : ¬ (i' = i ∧ j' = j)) : w * i' + j' ≠ w * i + j := fun e => by
  have h1 : (w * i' + j') / w = (w * i + j) / w := by rw [e]
  have h2 : (w * i' + j') % w = (w * i + j) % w := by rw [e]
  rw [Nat.mul_add_div (by omega), Nat.mul_add_div (by omega), Nat.div_eq_of_lt hj, Nat.div_eq_of_lt hj'] at h1
  rw [Nat.mul_add_mod, Nat.mul_add_mod, Nat.mod_eq_of_lt hj, Nat.mod_eq_of_lt hj'] at h2
  exact h ⟨by omega, h2⟩
theorem ix2_b {w i j n : Nat} (hi : i ≤ n) (hn : n ≤ 40) (hw : w ≤ 44) (hj : j < w) : w * i + j < 2200 := by
  have h1 : w * i ≤ 44 * 40 := Nat.mul_le_mul hw (by omega)
  omega
section APT
variable {d : Nat} {A B : Nat → Nat} {p q n m : Nat}
/-- two rows of signs in the reference's row -/
def RG (h : AH) (p n : Nat) (A : Nat → Nat) : Prop := p + n ≤ 1100 ∧ ∀ i, i < n → gA h 233 (p + i) = nI (asc (A i)) ∧ A i < 37
/-- the table is filled up to the row i, the place j -/
def TB (h : AH) (A B : Nat → Nat) (m i j : Nat) : Prop := ∀ i' j', j' ≤ m → (i' < i ∨ i' = i ∧ j' < j) → gA h 236 ((m + 1) * i' + j') = nI (edF A B i' j')
theorem RG.fr {K X : List Nat} {h h' : AH} {p n : Nat} {A : Nat → Nat} (R : RG h p n A) (f : Fr K X h h') (hX : 233 ∉ X) : RG h' p n A := by
  unfold RG at R ⊢
  rw [f.A hX]; exact R
theorem TB.set {h : AH} {A B : Nat → Nat} {m i j : Nat} (T : TB h A B m i j) (hj : j ≤ m) : TB (sA h 236 ((m + 1) * i + j) (nI (edF A B i j))) A B m i (j + 1) := fun i' j' hj' hc => by
  show up2 (gA h) 236 ((m + 1) * i + j) _ 236 ((m + 1) * i' + j') = _
  by_cases e : i' = i ∧ j' = j
  · rw [e.1, e.2, up2_s]
  · rw [up2_x (ix2_ne (by omega) (by omega) e)]
    exact T i' j' hj' (by omega)
theorem r_cell {h : AH} (hs : Sh h) (RA : RG h p n A) (RB' : RG h q m B) (hn : n ≤ 40) (hm : m ≤ 43) {i j : Nat} (hi : i ≤ n) (hj : j ≤ m) (T : TB h A B m i j) : Q (d + 1) 76 30 [some (.ref 189), some (.int (nI p)), some (.int (nI n)), some (.int (nI q)), some (.int (nI m)), some (.int (nI (m + 1))), some (.int (nI i)), some (.int (nI j)), none, none, none] [] h = Q (d + 1) 76 30 [some (.ref 189), some (.int (nI p)), some (.int (nI n)), some (.int (nI q)), some (.int (nI m)), some (.int (nI (m + 1))), some (.int (nI i)), some (.int (nI (j + 1))), none, none, none] [] (sA h 236 ((m + 1) * i + j) (nI (edF A B i j))) := by
  obtain ⟨pa, ra⟩ := RA
  obtain ⟨pb, rb⟩ := RB'
  have hix := ix2_b (w := m + 1) (j := j) hi hn (by omega) (by omega)
  rw [t_76_30 hs, if_neg (nI_nlt hj (by omega))]
  simp only [show (nI i = nI 0) = (i = 0) from propext (nI_eq (by omega) (by decide)), show (nI j = nI 0) = (j = 0) from propext (nI_eq (by omega) (by decide))]
  by_cases i0 : i = 0
  · subst i0
    rw [if_pos rfl, t_76_59 hs, if_neg (by decide), pk_mul, nI_add, gd_nI hix (by decide), ix_nI (by omega), nI_add, ed_0]
  · rw [if_neg i0]
    by_cases j0 : j = 0
    · subst j0
      rw [if_pos rfl, t_76_59 hs, if_pos (nI_lt (by omega) (by omega)), if_neg (by decide), pk_mul, nI_add, gd_nI hix (by decide), ix_nI (by omega), nI_add, ed_s0]
    · rw [if_neg j0]
      obtain ⟨i, rfl⟩ : ∃ k, i = k + 1 := ⟨i - 1, by omega⟩
      obtain ⟨j, rfl⟩ : ∃ k, j = k + 1 := ⟨j - 1, by omega⟩
      obtain ⟨a1, a2⟩ := ra i (by omega)
      obtain ⟨b1, b2⟩ := rb j (by omega)
      have e1 : nI p + nI (i + 1) - nI 1 = nI (p + i) := by rw [nI_add, pk_sub (by omega)]; congr 1
      have e2 : nI q + nI (j + 1) - nI 1 = nI (q + j) := by rw [nI_add, pk_sub (by omega)]; congr 1
      have x1 := ix2_b (w := m + 1) (i := i) (j := j) (n := n) (by omega) hn (by omega) (by omega)
      have x2 := ix2_b (w := m + 1) (i := i) (j := j + 1) (n := n) (by omega) hn (by omega) (by omega)
      have x3 := ix2_b (w := m + 1) (i := i + 1) (j := j) (n := n) (by omega) hn (by omega) (by omega)
      have t1 := T i j (by omega) (Or.inl (by omega))
      have t2 := T i (j + 1) (by omega) (Or.inl (by omega))
      have t3 := T (i + 1) j (by omega) (Or.inr ⟨rfl, by omega⟩)
      have bd1 := (ed_b (a := A) (b := B) (i + j) i j (Nat.le_refl _)).1
      have bd2 := (ed_b (a := A) (b := B) (i + (j + 1)) i (j + 1) (Nat.le_refl _)).1
      have bd3 := (ed_b (a := A) (b := B) (i + 1 + j) (i + 1) j (Nat.le_refl _)).1
      have eqc : ∀ {c e : Nat}, c < 37 → e < 37 → (nI (asc c) = nI (asc e)) = (c = e) := fun hc he => propext ⟨fun w => asc_i _ hc _ he ((nI_eq (by have := asc_b hc; omega) (by have := asc_b he; omega)).mp w), fun w => by rw [w]⟩
      rw [t_76_59 hs, if_pos (nI_lt (by omega) (by omega)), if_pos (nI_lt (by omega) (by omega)), e1, e2, gd_nI (by omega) (by decide), gd_nI (by omega) (by decide), ix_nI (by omega), ix_nI (by omega), a1, b1]
      simp only [eqc a2 b2]
      -- the two ways meet again
      have mid : ∀ c : Nat, c ≤ 1 → (c = if A i = B j then 0 else 1) → Q (d + 1) 76 101 [some (.ref 189), some (.int (nI p)), some (.int (nI n)), some (.int (nI q)), some (.int (nI m)), some (.int (nI (m + 1))), some (.int (nI (i + 1))), some (.int (nI (j + 1))), none, none, none] [.int (nI c)] h = Q (d + 1) 76 30 [some (.ref 189), some (.int (nI p)), some (.int (nI n)), some (.int (nI q)), some (.int (nI m)), some (.int (nI (m + 1))), some (.int (nI (i + 1))), some (.int (nI (j + 1 + 1))), none, none, none] [] (sA h 236 ((m + 1) * (i + 1) + (j + 1)) (nI (edF A B (i + 1) (j + 1)))) := fun c hc ec => by
        have e3 : nI (m + 1) * (nI (i + 1) - nI 1) + nI (j + 1) - nI 1 = nI ((m + 1) * i + j) := by
          rw [pk_sub (by omega), Nat.add_sub_cancel, pk_mul, nI_add, pk_sub (by omega)]; congr 1
        have e4 : nI (m + 1) * (nI (i + 1) - nI 1) + nI (j + 1) = nI ((m + 1) * i + (j + 1)) := by
          rw [pk_sub (by omega), Nat.add_sub_cancel, pk_mul, nI_add]
        have e5 : nI (m + 1) * nI (i + 1) + nI (j + 1) - nI 1 = nI ((m + 1) * (i + 1) + j) := by
          rw [pk_mul, nI_add, pk_sub (by omega)]; congr 1
        have e6 : nI (m + 1) * nI (i + 1) + nI (j + 1) = nI ((m + 1) * (i + 1) + (j + 1)) := by rw [pk_mul, nI_add]
        rw [t_76_101 hs, e3, e4, e5, gd_nI x1 (by decide), gd_nI x2 (by decide), gd_nI x3 (by decide), ix_nI (by omega), ix_nI (by omega), ix_nI (by omega), t1, t2, t3, r_least hs (by omega) (by omega), cK_v, t_76_161 hs, nI_add, nI_add, r_least hs (by omega) (by omega), cK_v, t_76_165 hs]
        rw [ed_s, ← ec]
        have fin : ∀ y : Nat, Q (d + 1) 76 270 [some (.ref 189), some (.int (nI p)), some (.int (nI n)), some (.int (nI q)), some (.int (nI m)), some (.int (nI (m + 1))), some (.int (nI (i + 1))), some (.int (nI (j + 1))), none, none, none] [.int (nI y)] h = Q (d + 1) 76 30 [some (.ref 189), some (.int (nI p)), some (.int (nI n)), some (.int (nI q)), some (.int (nI m)), some (.int (nI (m + 1))), some (.int (nI (i + 1))), some (.int (nI (j + 1 + 1))), none, none, none] [] (sA h 236 ((m + 1) * (i + 1) + (j + 1)) (nI y)) := fun y => by
          rw [t_76_270 hs, e6, gd_nI hix (by decide), ix_nI (by omega), nI_add]
        have no : ¬ (1 ≤ i ∧ 1 ≤ j ∧ A i = B (j - 1) ∧ A (i - 1) = B j) → Q (d + 1) 76 234 [some (.ref 189), some (.int (nI p)), some (.int (nI n)), some (.int (nI q)), some (.int (nI m)), some (.int (nI (m + 1))), some (.int (nI (i + 1))), some (.int (nI (j + 1))), some (.int (nI (min (edF A B i j + c) (1 + min (edF A B i (j + 1)) (edF A B (i + 1) j))))), none, none] [.int (nI 0)] h = Q (d + 1) 76 30 [some (.ref 189), some (.int (nI p)), some (.int (nI n)), some (.int (nI q)), some (.int (nI m)), some (.int (nI (m + 1))), some (.int (nI (i + 1))), some (.int (nI (j + 1 + 1))), none, none, none] [] (sA h 236 ((m + 1) * (i + 1) + (j + 1)) (nI (if 1 ≤ i ∧ 1 ≤ j ∧ A i = B (j - 1) ∧ A (i - 1) = B j then min (min (edF A B i j + c) (1 + min (edF A B i (j + 1)) (edF A B (i + 1) j))) (edF A B (i - 1) (j - 1) + 1) else min (edF A B i j + c) (1 + min (edF A B i (j + 1)) (edF A B (i + 1) j))))) := fun q => by
          rw [if_neg q, t_76_234 hs, if_pos rfl]; exact fin _
        by_cases q1 : 1 ≤ i
        · by_cases q2 : 1 ≤ j
          · obtain ⟨c1, c2⟩ := ra (i - 1) (by omega)
            obtain ⟨f1, f2⟩ := rb (j - 1) (by omega)
            have g1 : nI q + nI (j + 1) - nI 2 = nI (q + (j - 1)) := by rw [nI_add, pk_sub (by omega)]; congr 1; omega
            have g2 : nI p + nI (i + 1) - nI 2 = nI (p + (i - 1)) := by rw [nI_add, pk_sub (by omega)]; congr 1; omega
            have g3 : nI (m + 1) * (nI (i + 1) - nI 2) + nI (j + 1) - nI 2 = nI ((m + 1) * (i - 1) + (j - 1)) := by
              rw [pk_sub (by omega), show i + 1 - 2 = i - 1 from by omega, pk_mul, nI_add, pk_sub (by omega)]; congr 1; omega
            have x4 := ix2_b (w := m + 1) (i := i - 1) (j := j - 1) (n := n) (by omega) hn (by omega) (by omega)
            have t4 := T (i - 1) (j - 1) (by omega) (Or.inl (by omega))
            have bd4 := (ed_b (a := A) (b := B) (i - 1 + (j - 1)) (i - 1) (j - 1) (Nat.le_refl _)).1
            rw [if_pos (nI_lt (by omega) (by omega)), if_pos (nI_lt (by omega) (by omega)), e1, e2, g1, g2, gd_nI (by omega) (by decide), gd_nI (by omega) (by decide), gd_nI (by omega) (by decide), gd_nI (by omega) (by decide), ix_nI (by omega), ix_nI (by omega), ix_nI (by omega), ix_nI (by omega), a1, b1, c1, f1]
            simp only [eqc a2 f2, eqc c2 b2]
            by_cases q3 : A i = B (j - 1)
            · by_cases q4 : A (i - 1) = B j
              · rw [if_pos q3, if_pos q4, if_pos ⟨q1, q2, q3, q4⟩, t_76_234 hs, if_neg (by decide), g3, gd_nI x4 (by decide), ix_nI (by omega), t4, nI_add, r_least hs (by omega) (by omega), cK_v, t_76_265 hs]
                exact fin _
              · rw [if_pos q3, if_neg q4]; exact no fun y => q4 y.2.2.2
            · rw [if_neg q3]; exact no fun y => q3 y.2.2.1
          · rw [if_pos (nI_lt (by omega) (by omega)), if_neg (nI_nlt (by omega) (by omega))]; exact no fun y => q2 y.2.1
        · rw [if_neg (nI_nlt (by omega) (by omega))]; exact no fun y => q1 y.1
      by_cases q0 : A i = B j
      · rw [if_pos q0]; exact mid 0 (by decide) (by rw [if_pos q0])
      · rw [if_neg q0]; exact mid 1 (by decide) (by rw [if_neg q0])
end APT
