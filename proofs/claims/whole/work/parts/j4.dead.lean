/-! ===== PROGRAMMES: the reference after a fault; what begins a unit ===== -/
/-- from h to h' the codes L are written; now token k, fault f, depth d -/
def RSp (h h' : AH) (t : Tp) (M c d B : Nat) (L : Cds) (k f : Nat) : Prop := PW h h' B c L ∧ SRs h' t M k f (c + L.length) d B
section RSS
variable {h h1 h' : AH} {t : Tp} {M k f c d B n : Nat}
theorem RSp.tr {L1 L2 : Cds} {d1 d2 k1 k2 f1 f2 : Nat} (a : RSp h h1 t M c d1 B L1 k1 f1) (b : RSp h1 h' t M (c + L1.length) d2 B L2 k2 f2) (hb : c + L1.length ≤ 4400) : RSp h h' t M c d2 B (L1 ++ L2) k2 f2 := ⟨a.1.tr b.1 hb, by rw [List.length_append, ← Nat.add_assoc]; exact b.2⟩
theorem RSp.nl {L2 : Cds} {d1 d2 k1 k2 f1 f2 : Nat} (a : RSp h h1 t M c d1 B [] k1 f1) (b : RSp h1 h' t M c d2 B L2 k2 f2) (hb : c ≤ 4400) : RSp h h' t M c d2 B L2 k2 f2 := RSp.tr (L1 := []) a b hb
theorem RSp.nr {L1 : Cds} {d1 d2 k1 k2 f1 f2 : Nat} (a : RSp h h1 t M c d1 B L1 k1 f1) (b : RSp h1 h' t M (c + L1.length) d2 B [] k2 f2) (hb : c + L1.length ≤ 4400) : RSp h h' t M c d2 B L1 k2 f2 := by
  have := RSp.tr a b hb
  rw [List.append_nil] at this; exact this
theorem RSp.mk {K : List Nat} (fr : Fr K [] h h') (hK : ∀ k, k ∈ K → k ∈ KPr) (S : SRs h' t M k f c d B) : RSp h h' t M c d B [] k f := ⟨PW.of fr hK, S⟩
theorem RSp.rf (S : SRs h t M k f c d B) : RSp h h t M c d B [] k f := RSp.mk (K := []) Fr.rfl (fun _ q => absurd q List.not_mem_nil) S
theorem RSp.any {L : Cds} (a : RSp h h' t M c d B L k f) (hf : f ≠ 0) (j : Nat) : RSp h h' t M c d B L j f := ⟨a.1, a.2.any hf j⟩
theorem q_dn (S : SRs h t M k f c (d + 1) B) : ∃ h', h' = sI h 3708 189 ((gI h 3708 189) - (nI 1)) ∧ RSp h h' t M c d B [] k f := by
  obtain ⟨a, b⟩ := S.dp d
  rw [S.2.2.2.2.2.1, pk_sub (by omega), show d + 1 - 1 = d by omega]
  exact ⟨_, rfl, b, a⟩
/-- is there a unit -/
theorem r_135l (S : SRs h t M k f c d B) (hn : 1 ≤ n) : ∀ m x2, x2 + m = 59 → 49 ≤ x2 → Q n 135 67 [some (.ref 189), some (.int (nI 0)), some (.int (nI x2))] [] h = some (some (.int (nI (if f = 0 ∧ (x2 + 94 ≤ lk t k ∧ lk t k ≤ 144 ∨ x2 + 95 ≤ lk t k ∧ 146 ≤ lk t k ∧ lk t k ≤ 153) then 1 else 0))), h)
  | 0, x2, e, h4 => by
    rw [t_135_67 S.1, if_pos (nI_lt (by omega) (by omega)), if_pos (show nI 0 = 0 ∨ nI 0 = 1 from Or.inl rfl), if_neg (by omega)]
  | m + 1, x2, e, h4 => by
    have wj : ∀ w, w < 59 → 49 ≤ w → ∃ j, j < 44 ∧ wLn.getD j 0 = w ∧ 128 + j = (if w ≤ 50 then w + 94 else w + 95) := by decide
    obtain ⟨j, j1, j2, j3⟩ := wj x2 (by omega) h4
    rw [t_135_67 S.1, if_neg (nI_nlt (by omega) (by omega)), if_pos rfl, r_W S j1 j2 hn, cK_v, t_135_82 S.1, nI_add]
    by_cases q : f = 0 ∧ lk t k = 128 + j
    · rw [if_pos q]
      have : ∀ x : Int32, Q n 135 67 [some (.ref 189), some (.int (nI 1)), some (.int x)] [] h = some (some (.int (nI 1)), h) := fun x => by
        rw [t_135_67 S.1]
        by_cases w : nI 58 < x
        · rw [if_pos w, if_pos (show nI 1 = 0 ∨ nI 1 = 1 from Or.inr rfl)]
        · rw [if_neg w, if_neg (by decide), if_pos (show nI 1 = 0 ∨ nI 1 = 1 from Or.inr rfl)]
      rw [this, if_pos ⟨q.1, by
        have := q.2
        rw [j3] at this
        by_cases w : x2 ≤ 50
        · rw [if_pos w] at this; omega
        · rw [if_neg w] at this; omega⟩]
    · rw [if_neg q, r_135l S hn m (x2 + 1) (by omega) (by omega)]
      by_cases q0 : f = 0
      · have nq : lk t k ≠ 128 + j := fun z => q ⟨q0, z⟩
        rw [j3] at nq
        have : (x2 + 1 + 94 ≤ lk t k ∧ lk t k ≤ 144 ∨ x2 + 1 + 95 ≤ lk t k ∧ 146 ≤ lk t k ∧ lk t k ≤ 153) ↔ (x2 + 94 ≤ lk t k ∧ lk t k ≤ 144 ∨ x2 + 95 ≤ lk t k ∧ 146 ≤ lk t k ∧ lk t k ≤ 153) := by
          by_cases w : x2 ≤ 50
          · rw [if_pos w] at nq; omega
          · rw [if_neg w] at nq; omega
        simp only [this]
      · rw [if_neg (fun z => q0 z.1), if_neg (fun z => q0 z.1)]
theorem r_135 (S : SRs h t M k f c d B) (hn : 2 ≤ n) : E n 135 [.ref 189] h = some (some (.int (nI (if f = 0 ∧ (lk t k = 3 ∨ lk t k = 4 ∨ lk t k = 40 ∨ lk t k = 45 ∨ 143 ≤ lk t k ∧ lk t k ≤ 153) then 1 else 0))), h) := by
  obtain ⟨m, rfl⟩ : ∃ m, n = m + 1 := ⟨n - 1, by omega⟩
  have one : ∀ x : Int32, Q m 135 67 [some (.ref 189), some (.int (nI 1)), some (.int x)] [] h = some (some (.int (nI 1)), h) := fun x => by
    rw [t_135_67 S.1]
    by_cases w : nI 58 < x
    · rw [if_pos w, if_pos (show nI 1 = 0 ∨ nI 1 = 1 from Or.inr rfl)]
    · rw [if_neg w, if_neg (by decide), if_pos (show nI 1 = 0 ∨ nI 1 = 1 from Or.inr rfl)]
  have R := S.2.2.1
  rw [t_135 S.1, R.2.1]
  by_cases q : f = 0
  · obtain ⟨e1, e2, e3, e4⟩ := R.at q
    rw [if_pos (by rw [q]), e1, gd_nI (by omega) (by decide), ix_nI (by omega), e4.1]
    by_cases q3 : lk t k = 3
    · rw [if_pos (by rw [rk_1.2.1.mpr (lk_n3.mp q3)]), one, if_pos ⟨q, Or.inl q3⟩]
    rw [if_neg (fun z => q3 (lk_n3.mpr (rk_1.2.1.mp ((nI_eq (by have := (rk_1 (x := tK t k)).2.2.2.2; omega) (by decide)).mp z)))), r_G S (by decide) (by decide) (by omega), cK_v, t_135_26 S.1]
    by_cases q4 : lk t k = 40
    · rw [b1 (show f = 0 ∧ lk t k = 40 from ⟨q, q4⟩), if_neg (by decide), one, if_pos ⟨q, by omega⟩]
    rw [b0 (show ¬ (f = 0 ∧ lk t k = 40) from fun z => q4 z.2), if_pos rfl, r_G S (by decide) (by decide) (by omega), cK_v, t_135_35 S.1]
    by_cases q5 : lk t k = 45
    · rw [b1 (show f = 0 ∧ lk t k = 45 from ⟨q, q5⟩), if_neg (by decide), one, if_pos ⟨q, by omega⟩]
    rw [b0 (show ¬ (f = 0 ∧ lk t k = 45) from fun z => q5 z.2), if_pos rfl, r_R S (Or.inl ⟨rfl, rfl, rfl⟩) (by omega), cK_v, t_135_46 S.1]
    by_cases q6 : lk t k = 4
    · have lb : lkV t k < 100 := by
        obtain ⟨g1, g2⟩ := lk_rg (t := t) (k := k) (v := 4) (a := 18) (m := 9) (Or.inl ⟨rfl, rfl, rfl⟩)
        have := g1.mp q6
        rw [g2 q6]; omega
      rw [if_pos (show f = 0 ∧ lk t k = 4 from ⟨q, q6⟩), if_neg (nI_nlt (Nat.zero_le _) (by omega)), one, if_pos ⟨q, by omega⟩]
    rw [if_neg (show ¬ (f = 0 ∧ lk t k = 4) from fun z => q6 z.2), if_pos (by decide), r_W S (j := 17) (by decide) (by decide) (by omega), cK_v, t_135_55 S.1]
    by_cases q7 : lk t k = 145
    · rw [b1 (show f = 0 ∧ lk t k = 128 + 17 from ⟨q, q7⟩), if_neg (by decide), one, if_pos ⟨q, by omega⟩]
    rw [b0 (show ¬ (f = 0 ∧ lk t k = 128 + 17) from fun z => q7 z.2), if_pos rfl, r_135l S (by omega) 10 49 rfl (by decide)]
    have : (49 + 94 ≤ lk t k ∧ lk t k ≤ 144 ∨ 49 + 95 ≤ lk t k ∧ 146 ≤ lk t k ∧ lk t k ≤ 153) ↔ (lk t k = 3 ∨ lk t k = 4 ∨ lk t k = 40 ∨ lk t k = 45 ∨ 143 ≤ lk t k ∧ lk t k ≤ 153) := by omega
    simp only [this]
  · rw [if_neg fun w => q ((nI_eq (by have := R.2.2.1; omega) (by decide)).mp w), r_135l S (by omega) 10 49 rfl (by decide), if_neg (fun z => q z.1), if_neg (fun z => q z.1)]
/-- one level down -/
theorem r_137 (S : SRs h t M k f c d B) (hd : d ≤ 20) (hn : 2 ≤ n) {b : Nat} (hb : b ≤ 1) : ∃ h', E n 137 [.ref 189, .int (nI b)] h = some (none, h') ∧ RSp h h' t M c (d + 1) B [] k (if f = 0 then (if b = 0 then fX t 1 k else if d = 20 then fX t 5 k else 0) else f) := by
  obtain ⟨m, rfl⟩ : ∃ m, n = m + 1 := ⟨n - 1, by omega⟩
  have go : ∀ {h1 : AH} {f' : Nat}, RSp h h1 t M c d B [] k f' → ∃ h', Q m 137 26 [some (.ref 189), none] [] h1 = some (none, h') ∧ RSp h h' t M c (d + 1) B [] k f' := fun {h1 f'} a => by
    have S1 : SRs h1 t M k f' c d B := a.2
    obtain ⟨x, y⟩ := S1.dp (d + 1)
    refine ⟨_, by rw [t_137_26 S1.1, S1.2.2.2.2.2.1, nI_add], ⟨?_, x⟩⟩
    have := PW.tr (L1 := []) a.1 (show PW h1 _ B (c + 0) [] from y)
    by_cases q : c ≤ 4400
    · exact this q
    · exact ⟨a.1.1.trans y.1, fun i hi => ⟨((y.2.1 i hi).1).trans (a.1.2.1 i hi).1, ((y.2.1 i hi).2).trans (a.1.2.1 i hi).2⟩, AT.nil⟩
  rw [t_137 S.1]
  by_cases q : b = 0
  · subst q
    obtain ⟨h1, a1, a2, a3⟩ := r_wr S (x := 1) (n := m) (by decide) (by decide) (by omega)
    rw [if_pos rfl, a1, cK_n, t_137_9 a3.1]
    have e : (if f = 0 then (if 0 = 0 then fX t 1 k else if d = 20 then fX t 5 k else 0) else f) = (if f = 0 then fX t 1 k else f) := by rw [if_pos (rfl : 0 = 0)]
    rw [e]
    exact go (RSp.mk a2 (by decide) a3)
  · rw [if_neg (fun z => q ((nI_eq (by omega) (by decide)).mp z)), S.2.2.2.2.2.1, if_neg q]
    simp only [show (nI d = nI 20) = (d = 20) from propext (nI_eq (by omega) (by decide))]
    by_cases q2 : d = 20
    · obtain ⟨h1, a1, a2, a3⟩ := r_wr S (x := 5) (n := m) (by decide) (by decide) (by omega)
      rw [if_pos q2, if_pos q2, a1, cK_n]
      exact go (RSp.mk a2 (by decide) a3)
    · rw [if_neg q2, if_neg q2]
      have : (if f = 0 then 0 else f) = f := by split <;> omega
      rw [this]
      exact go (RSp.rf S)
/-! after a fault: what is written then is little -/
theorem f_n0 (S : SRs h t M k f c d B) (hf : f ≠ 0) : ¬ gI h 3596 189 = nI 0 := fun z => hf ((nI_eq (by have := S.2.2.1.2.2.1; omega) (by decide)).mp (S.2.2.1.2.1.symm.trans z))
theorem d_134 (S : SRs h t M k f c d B) (hf : f ≠ 0) (hc : c ≤ 4400) (hd : d ≤ 20) (hn : 4 ≤ n) : ∃ h', E n 134 [.ref 189] h = some (none, h') ∧ RSp h h' t M c d B [] k f := by
  obtain ⟨m, rfl⟩ : ∃ m, n = m + 1 := ⟨n - 1, by omega⟩
  rw [t_134 S.1, r_135 S (by omega), cK_v, t_134_5 S.1, ck_ok S.1.c189, if_neg (fun z => hf z.1)]
  obtain ⟨h1, a1, a2⟩ := r_137 S hd (n := m) (by omega) (b := 0) (by decide)
  rw [if_neg hf] at a2
  have S1 : SRs h1 t M k f c (d + 1) B := a2.2
  obtain ⟨h2, e2, b2⟩ := q_dn S1
  rw [a1, cK_n, t_134_8 S1.1, if_neg (f_n0 S1 hf), t_134_19 S1.1, ← e2]
  exact ⟨h2, rfl, a2.nl b2 hc⟩
theorem d_133 (S : SRs h t M k f c d B) (hf : f ≠ 0) (hc : c ≤ 4400) (hd : d ≤ 20) (hn : 5 ≤ n) : ∃ h', E n 133 [.ref 189] h = some (none, h') ∧ RSp h h' t M c d B [] k f := by
  obtain ⟨m, rfl⟩ : ∃ m, n = m + 1 := ⟨n - 1, by omega⟩
  obtain ⟨h1, a1, a2⟩ := d_134 S hf hc hd (n := m) (by omega)
  have S1 : SRs h1 t M k f c d B := a2.2
  have g : ∀ x, 6 ≤ x → x < 128 → E m 58 [.ref 189, .int (nI x)] h1 = some (some (.int (nI 0)), h1) := fun x h6 h2 => by rw [r_G S1 h6 h2 (by omega), if_neg (fun z => hf z.1)]
  rw [t_133 S.1, a1, cK_n, t_133_4 S1.1, g 42 (by decide) (by decide), cK_v, t_133_10 S1.1, if_pos rfl, g 47 (by decide) (by decide), cK_v, t_133_19 S1.1, if_pos rfl, g 37 (by decide) (by decide), cK_v, t_133_28 S1.1, if_pos rfl]
  exact ⟨h1, rfl, a2⟩
theorem d_132 (S : SRs h t M k f c d B) (hf : f ≠ 0) (hc : c ≤ 4400) (hd : d ≤ 20) (hn : 6 ≤ n) : ∃ h', E n 132 [.ref 189] h = some (none, h') ∧ RSp h h' t M c d B [] k f := by
  obtain ⟨m, rfl⟩ : ∃ m, n = m + 1 := ⟨n - 1, by omega⟩
  obtain ⟨h1, a1, a2⟩ := d_133 S hf hc hd (n := m) (by omega)
  have S1 : SRs h1 t M k f c d B := a2.2
  have g : ∀ x, 6 ≤ x → x < 128 → E m 58 [.ref 189, .int (nI x)] h1 = some (some (.int (nI 0)), h1) := fun x h6 h2 => by rw [r_G S1 h6 h2 (by omega), if_neg (fun z => hf z.1)]
  rw [t_132 S.1, a1, cK_n, t_132_4 S1.1, g 43 (by decide) (by decide), cK_v, t_132_10 S1.1, if_pos rfl, g 45 (by decide) (by decide), cK_v, t_132_19 S1.1, if_pos rfl]
  exact ⟨h1, rfl, a2⟩
theorem d_131 (S : SRs h t M k f c d B) (hf : f ≠ 0) (hc : c ≤ 4400) (hd : d ≤ 20) (hn : 7 ≤ n) : ∃ h', E n 131 [.ref 189] h = some (none, h') ∧ RSp h h' t M c d B [] k f := by
  obtain ⟨m, rfl⟩ : ∃ m, n = m + 1 := ⟨n - 1, by omega⟩
  obtain ⟨h1, a1, a2⟩ := d_132 S hf hc hd (n := m) (by omega)
  have S1 : SRs h1 t M k f c d B := a2.2
  have g : ∀ x, 6 ≤ x → x < 128 → E m 58 [.ref 189, .int (nI x)] h1 = some (some (.int (nI 0)), h1) := fun x h6 h2 => by rw [r_G S1 h6 h2 (by omega), if_neg (fun z => hf z.1)]
  rw [t_131 S.1, a1, cK_n, t_131_4 S1.1, g 60 (by decide) (by decide), cK_v, t_131_10 S1.1, if_pos rfl, g 61 (by decide) (by decide), cK_v, t_131_21 S1.1, if_pos rfl]
  exact ⟨h1, rfl, a2⟩
theorem d_61 (S : SRs h t M k f c d B) (hf : f ≠ 0) {x : Nat} (h6 : 6 ≤ x) (h2 : x < 128) (hn : 2 ≤ n) : ∃ h', E n 61 [.ref 189, .int (nI x)] h = some (none, h') ∧ RSp h h' t M c d B [] k f := by
  obtain ⟨h1, a1, a2, a3⟩ := r_sig S h6 h2 hn
  rw [if_neg hf] at a3
  exact ⟨h1, a1, RSp.mk a2 (by decide) (a3.any hf k)⟩
theorem d_139 (S : SRs h t M k f c d B) (hf : f ≠ 0) (hc : c < 4400) (hd : d ≤ 20) (hn : 6 ≤ n) : ∃ h', E n 139 [.ref 189] h = some (none, h') ∧ RSp h h' t M c d B [(nI 14, nI 0)] k f := by
  obtain ⟨m, rfl⟩ : ∃ m, n = m + 1 := ⟨n - 1, by omega⟩
  obtain ⟨h1, a1, a2⟩ := d_61 S hf (x := 64) (by decide) (by decide) (n := m) (by omega)
  have S1 : SRs h1 t M k f c d B := a2.2
  obtain ⟨h2, b1, b2⟩ := d_134 S1 hf (by omega) hd (n := m) (by omega)
  have S2 : SRs h2 t M k f c d B := b2.2
  obtain ⟨h3, c1, c2, c3⟩ := r_emit S2 hc (n := m) (by omega) (nI 14) (nI 0)
  rw [t_139 S.1, a1, cK_n, t_139_6 S1.1, b1, cK_n, t_139_10 S2.1, c1, cK_v, t_139_17 c3.1]
  exact ⟨h3, rfl, a2.nl (b2.nl ⟨c2, c3⟩ (by omega)) (by omega)⟩
theorem d_140 (S : SRs h t M k f c d B) (hf : f ≠ 0) (hc : c ≤ 4400) (hd : d ≤ 20) (hn : 8 ≤ n) : ∃ h', E n 140 [.ref 189] h = some (none, h') ∧ RSp h h' t M c d B [] k f := by
  obtain ⟨m, rfl⟩ : ∃ m, n = m + 1 := ⟨n - 1, by omega⟩
  obtain ⟨h1, a1, a2⟩ := d_61 S hf (x := 91) (by decide) (by decide) (n := m) (by omega)
  have S1 : SRs h1 t M k f c d B := a2.2
  obtain ⟨h2, b1, b2⟩ := d_131 S1 hf hc hd (n := m) (by omega)
  have S2 : SRs h2 t M k f c d B := b2.2
  obtain ⟨h3, c1, c2⟩ := d_61 S2 hf (x := 93) (by decide) (by decide) (n := m) (by omega)
  rw [t_140 S.1, a1, cK_n, t_140_6 S1.1, b1, cK_n, t_140_10 S2.1, c1, cK_n, t_140_16 c2.2.1]
  exact ⟨h3, rfl, a2.nl (b2.nl c2 hc) hc⟩
theorem d_142 (S : SRs h t M k f c d B) (hf : f ≠ 0) (hc : c ≤ 4400) (hd : d ≤ 20) (hn : 4 ≤ n) : ∃ h', E n 142 [.ref 189] h = some (none, h') ∧ RSp h h' t M c d B [] k f := by
  obtain ⟨m, rfl⟩ : ∃ m, n = m + 1 := ⟨n - 1, by omega⟩
  have g : ∀ j w, j < 44 → wLn.getD j 0 = w → E m 45 [.ref 189, .int (nI w)] h = some (some (.int (nI 0)), h) := fun j w hj hw => by rw [r_W S hj hw (by omega), if_neg (fun z => hf z.1)]
  obtain ⟨h1, a1, a2⟩ := r_137 S hd (n := m) (by omega) (b := 0) (by decide)
  rw [if_neg hf] at a2
  have S1 : SRs h1 t M k f c (d + 1) B := a2.2
  obtain ⟨h2, e2, b2⟩ := q_dn S1
  rw [t_142 S.1, r_R S (Or.inr ⟨rfl, rfl, rfl⟩) (by omega), cK_v, t_142_7 S.1, if_neg (show ¬ (f = 0 ∧ lk t k = 5) from fun z => hf z.1), if_pos (by decide), g 26 59 (by decide) (by decide), cK_v, t_142_18 S.1, if_pos rfl, g 27 60 (by decide) (by decide), cK_v, t_142_27 S.1, if_pos rfl, g 28 61 (by decide) (by decide), cK_v, t_142_36 S.1, if_pos rfl, g 29 16 (by decide) (by decide), cK_v, t_142_45 S.1, if_pos rfl, g 30 17 (by decide) (by decide), cK_v, t_142_54 S.1, if_pos rfl, g 31 18 (by decide) (by decide), cK_v, t_142_63 S.1, if_pos rfl, a1, cK_n, t_142_77 S1.1, if_neg (f_n0 S1 hf), t_142_89 S1.1, ← e2]
  exact ⟨h2, rfl, a2.nl b2 hc⟩
theorem d_144 (S : SRs h t M k f c d B) (hf : f ≠ 0) (hc : c ≤ 4400) (hd : d ≤ 20) (hn : 4 ≤ n) : ∃ h', E n 144 [.ref 189] h = some (none, h') ∧ RSp h h' t M c d B [] k f := by
  obtain ⟨m, rfl⟩ : ∃ m, n = m + 1 := ⟨n - 1, by omega⟩
  obtain ⟨h1, a1, a2⟩ := r_137 S hd (n := m) (by omega) (b := 0) (by decide)
  rw [if_neg hf] at a2
  have S1 : SRs h1 t M k f c (d + 1) B := a2.2
  obtain ⟨h2, b1, b2⟩ := d_61 S1 hf (x := 123) (by decide) (by decide) (n := m) (by omega)
  have S2 : SRs h2 t M k f c (d + 1) B := b2.2
  obtain ⟨h3, c1, c2⟩ := d_61 S2 hf (x := 125) (by decide) (by decide) (n := m) (by omega)
  have S3 : SRs h3 t M k f c (d + 1) B := c2.2
  obtain ⟨h4, e4, f2⟩ := q_dn S3
  rw [t_144 S.1, r_G S (by decide) (by decide) (by omega), cK_v, t_144_7 S.1, ck_ok S.1.c189, if_neg (fun z => hf z.1), a1, cK_n, t_144_10 S1.1, b1, cK_n, t_144_16 S2.1, if_neg (f_n0 S2 hf), c1, cK_n, t_144_45 S3.1, ← e4]
  exact ⟨h4, rfl, a2.nl (b2.nl (c2.nl f2 hc) hc) hc⟩
end RSS
