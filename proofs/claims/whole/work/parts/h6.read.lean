/-! ===== READING BARS: what is asked ===== -/
def SolE (E : Nat → Bool) (S T : Nat → Nat) : Prop := (∀ p, p < 11 → T p < 64) ∧ (∀ p, p < 11 → E p = false → T p = S p) ∧ ∀ j, j < 4 → vsS T j = 0
def lsE (E : Nat → Bool) (n : Nat) : List Nat := (List.range n).filter E
theorem SolE.up {E F : Nat → Bool} {S T : Nat → Nat} (a : SolE E S T) (h : ∀ p, p < 11 → E p = true → F p = true) : SolE F S T := ⟨a.1, fun p hp hF => a.2.1 p hp (by
  cases hE : E p with
  | false => rfl
  | true => rw [h p hp hE] at hF; exact absurd hF (by decide)), a.2.2⟩
theorem lsE_m {E : Nat → Bool} {n p : Nat} : p ∈ lsE E n ↔ p < n ∧ E p = true := by
  unfold lsE; rw [List.mem_filter, List.mem_range]
theorem lsE_nd {E : Nat → Bool} {n : Nat} : (lsE E n).Nodup := List.Pairwise.filter _ List.nodup_range
theorem lsE_s {E : Nat → Bool} {n : Nat} : lsE E (n + 1) = if E n = true then lsE E n ++ [n] else lsE E n := by
  unfold lsE
  rw [List.range_succ, List.filter_append]
  cases h : E n with
  | true => rw [if_pos rfl, List.filter_cons_of_pos h]; rfl
  | false => rw [if_neg (by decide), List.filter_cons_of_neg (by rw [h]; decide), List.filter_nil, List.append_nil]
theorem fl_or {E F : Nat → Bool} : ∀ l : List Nat, (l.filter fun p => E p || F p).length ≤ (l.filter E).length + (l.filter F).length
  | [] => Nat.le_refl _
  | a :: l => by
    have := fl_or (E := E) (F := F) l
    simp only [List.filter_cons]
    cases E a <;> cases F a <;> simp <;> omega
def sqE (E : Nat → Bool) (k : Nat) : Nat := (lsE E 11).getD k 0
theorem sqE_i {E : Nat → Bool} {k : Nat} (hk : k < (lsE E 11).length) : sqE E k = (lsE E 11)[k] := by
  unfold sqE
  rw [List.getD_eq_getElem?_getD, List.getElem?_eq_getElem hk]; rfl
theorem sqE_d {E : Nat → Bool} (h : (lsE E 11).length ≤ 4) : SD (sqE E) (lsE E 11).length := ⟨h, fun k hk => by
  rw [sqE_i hk]
  exact (lsE_m.mp (List.getElem_mem hk)).1, fun k k' hk hk' e => by
  rw [sqE_i hk, sqE_i hk'] at e
  exact nd_inj lsE_nd hk hk' e⟩
theorem sqE_m {E : Nat → Bool} {p : Nat} (hp : p < 11) : (∀ k, k < (lsE E 11).length → p ≠ sqE E k) ↔ E p = false := by
  constructor
  · intro h
    cases hE : E p with
    | false => rfl
    | true =>
      obtain ⟨k, hk, e⟩ := List.getElem_of_mem (lsE_m.mpr ⟨hp, hE⟩)
      exact absurd (by rw [sqE_i hk, e]) (h k hk)
  · intro h k hk e
    have := (lsE_m.mp (List.getElem_mem hk)).2
    rw [← sqE_i hk, ← e, h] at this
    exact absurd this (by decide)
theorem SolE.s {E : Nat → Bool} {S T : Nat → Nat} : SolE E S T ↔ SolS (sqE E) (lsE E 11).length S T := by
  unfold SolE SolS
  constructor
  · rintro ⟨a, b, c⟩; exact ⟨a, fun p hp hk => b p hp ((sqE_m hp).mp hk), c⟩
  · rintro ⟨a, b, c⟩; exact ⟨a, fun p hp hE => b p hp ((sqE_m hp).mpr hE), c⟩
/-- of spots that name a set -/
theorem SolS.e {sp : Nat → Nat} {n : Nat} {E : Nat → Bool} {S T : Nat → Nat} (h : ∀ p, p < 11 → ((∀ k, k < n → p ≠ sp k) ↔ E p = false)) : SolS sp n S T ↔ SolE E S T := by
  unfold SolE SolS
  constructor
  · rintro ⟨a, b, c⟩; exact ⟨a, fun p hp hE => b p hp ((h p hp).mpr hE), c⟩
  · rintro ⟨a, b, c⟩; exact ⟨a, fun p hp hk => b p hp ((h p hp).mp hk), c⟩
theorem SolE.one {E F : Nat → Bool} {S T T' : Nat → Nat} (hS : ∀ p, p < 11 → S p < 64) (h : (lsE E 11).length + (lsE F 11).length ≤ 4 ∨ (lsE (fun p => E p || F p) 11).length ≤ 4) (a : SolE E S T) (b : SolE F S T') : ∀ p, p < 11 → T p = T' p := by
  have h4 : (lsE (fun p => E p || F p) 11).length ≤ 4 := by
    rcases h with h | h
    · exact Nat.le_trans (fl_or _) h
    · exact h
  have a' : SolE (fun p => E p || F p) S T := a.up fun p _ q => by rw [q]; rfl
  have b' : SolE (fun p => E p || F p) S T' := b.up fun p _ q => by rw [q]; exact Bool.or_true _
  exact SolS.one (sqE_d h4) hS (SolE.s.mp a') (SolE.s.mp b')
/-- unknown: a sign, its bars -/
def uB (t : Tp) (p : Nat) : Bool := decide (t.2 (3 * p) = 63) || (decide (t.2 (3 * p + 1) = 63) || decide (t.2 (3 * p + 2) = 63))
def sgT (t : Tp) (p : Nat) : Nat := if uB t p then 0 else 16 * (t.2 (3 * p) - 48) + 4 * (t.2 (3 * p + 1) - 48) + (t.2 (3 * p + 2) - 48)
theorem uB_f {t : Tp} {p : Nat} : uB t p = false ↔ t.2 (3 * p) ≠ 63 ∧ t.2 (3 * p + 1) ≠ 63 ∧ t.2 (3 * p + 2) ≠ 63 := by
  unfold uB
  rw [Bool.or_eq_false_iff, Bool.or_eq_false_iff, decide_eq_false_iff_not, decide_eq_false_iff_not, decide_eq_false_iff_not]
def isB (t : Tp) : Prop := t.1 = 33 ∧ ∀ i, i < 33 → t.2 i = 63 ∨ 48 ≤ t.2 i ∧ t.2 i ≤ 51
theorem sgT_lt {t : Tp} (h : isB t) : ∀ p, p < 11 → sgT t p < 64 := fun p hp => by
  have h1 := h.2 (3 * p) (by omega)
  have h2 := h.2 (3 * p + 1) (by omega)
  have h3 := h.2 (3 * p + 2) (by omega)
  unfold sgT
  cases hu : uB t p with
  | true => rw [if_pos rfl]; decide
  | false =>
    obtain ⟨n1, n2, n3⟩ := uB_f.mp hu
    rw [if_neg (by decide)]
    omega
def uN (t : Tp) : Nat := (lsE (uB t) 11).length
def E1 (t : Tp) (i p : Nat) : Bool := uB t p || (p == i)
def E2 (i j p : Nat) : Bool := (p == i) || (p == j)
/-- it is read, so many are mended -/
def RdY (t : Tp) (m : Nat) (T : Nat → Nat) : Prop := uN t ≤ 4 ∧ (m = uN t ∧ SolE (uB t) (sgT t) T ∨ m = uN t + 1 ∧ uN t ≤ 2 ∧ (∀ T', ¬ SolE (uB t) (sgT t) T') ∧ (∃ i, i < 11 ∧ uB t i = false ∧ SolE (E1 t i) (sgT t) T) ∨
  m = 2 ∧ uN t = 0 ∧ (∀ i, i < 11 → ∀ T', ¬ SolE (E1 t i) (sgT t) T') ∧ ∃ i j, i < 11 ∧ j < 11 ∧ i ≠ j ∧ SolE (E2 i j) (sgT t) T)
/-- nothing is read -/
def RdN (t : Tp) : Prop := 4 < uN t ∨ (∀ T', ¬ SolE (uB t) (sgT t) T') ∧ (uN t ≤ 2 → ∀ i, i < 11 → uB t i = false → ∀ T', ¬ SolE (E1 t i) (sgT t) T') ∧ (uN t = 0 → ∀ i j, i < 11 → j < 11 → i ≠ j → ∀ T', ¬ SolE (E2 i j) (sgT t) T')
theorem len1 : ∀ i, i < 11 → (lsE (fun p => p == i) 11).length ≤ 1 := by decide +kernel
theorem len_E1 {t : Tp} {i : Nat} (hi : i < 11) : (lsE (E1 t i) 11).length ≤ uN t + 1 := Nat.le_trans (fl_or (E := uB t) (F := fun p => p == i) _) (Nat.add_le_add_left (len1 i hi) _)
theorem len_E2 {i j : Nat} (hi : i < 11) (hj : j < 11) : (lsE (E2 i j) 11).length ≤ 2 := Nat.le_trans (fl_or (E := fun p => p == i) (F := fun p => p == j) _) (Nat.add_le_add (len1 i hi) (len1 j hj))
theorem Rd_ny {t : Tp} {m : Nat} {T : Nat → Nat} (a : RdN t) (b : RdY t m T) : False := by
  obtain ⟨b0, b⟩ := b
  rcases a with a | ⟨a1, a2, a3⟩
  · omega
  · rcases b with ⟨-, b⟩ | ⟨-, b1, -, i, b2, b3, b4⟩ | ⟨-, b1, -, i, j, b2, b3, b4, b5⟩
    · exact a1 T b
    · exact a2 b1 i b2 b3 T b4
    · exact a3 b1 i j b2 b3 b4 T b5
theorem Rd_yy {t : Tp} (h : isB t) {m m' : Nat} {T T' : Nat → Nat} (a : RdY t m T) (b : RdY t m' T') : m = m' ∧ ∀ p, p < 11 → T p = T' p := by
  have hS := sgT_lt h
  obtain ⟨a0, a⟩ := a
  obtain ⟨b0, b⟩ := b
  have e1 : ∀ {V : Nat → Nat} {i : Nat}, SolE (uB t) (sgT t) V → SolE (E1 t i) (sgT t) V := fun q => q.up fun p _ q => by unfold E1; rw [q]; rfl
  rcases a with ⟨a1, a2⟩ | ⟨a1, a2, a3, i, a4, a5, a6⟩ | ⟨a1, a2, a3, i, j, a4, a5, a6, a7⟩
  · rcases b with ⟨b1, b2⟩ | ⟨b1, b2, b3, -⟩ | ⟨b1, b2, b3, -⟩
    · refine ⟨by omega, SolE.one hS (Or.inr ?_) a2 b2⟩
      have : (fun p => uB t p || uB t p) = uB t := funext fun p => Bool.or_self _
      rw [this]; exact a0
    · exact absurd a2 (b3 T)
    · exact absurd (e1 a2) (b3 0 (by decide) T)
  · rcases b with ⟨b1, b2⟩ | ⟨b1, b2, b3, i', b4, b5, b6⟩ | ⟨b1, b2, b3, -⟩
    · exact absurd b2 (a3 T')
    · refine ⟨by omega, SolE.one hS (Or.inr ?_) a6 b6⟩
      have : (fun p => E1 t i p || E1 t i' p) = fun p => uB t p || ((p == i) || (p == i')) := funext fun p => by
        unfold E1; cases uB t p <;> cases (p == i) <;> cases (p == i') <;> rfl
      rw [this]
      have := fl_or (E := uB t) (F := fun p => (p == i) || (p == i')) (List.range 11)
      have l2 := len_E2 a4 b4
      unfold lsE E2 at l2
      unfold uN lsE at a2
      unfold lsE
      omega
    · exact absurd a6 (b3 i a4 T)
  · rcases b with ⟨b1, b2⟩ | ⟨b1, b2, b3, i', b4, b5, b6⟩ | ⟨b1, b2, b3, i', j', b4, b5, b6, b7⟩
    · exact absurd (e1 b2) (a3 0 (by decide) T')
    · exact absurd b6 (a3 i' b4 T')
    · refine ⟨by omega, SolE.one hS (Or.inl ?_) a7 b7⟩
      have l1 := len_E2 a4 a5
      have l2 := len_E2 b4 b5
      omega
/-- the item that has these signs -/
def itA2 (s : St) (T : Nat → Nat) : Int32 := if 64 * T 3 + T 4 < zN s 2 ∧ ∀ p, p < 7 → sgB s (64 * T 3 + T 4) p = T p then nI (64 * T 3 + T 4) else -2
/-- what is read -/
def RdR (s : St) (t : Tp) (md : Int32) (r : Int32 × Int32) : Prop := ¬ isB t ∧ r = (-3, md) ∨ isB t ∧ (RdN t ∧ r = (-1, md) ∨ ∃ m T, RdY t m T ∧ r = (itA2 s T, nI m))
theorem RdR.one {s : St} {t : Tp} {md : Int32} {r r' : Int32 × Int32} (a : RdR s t md r) (b : RdR s t md r') : r = r' := by
  rcases a with ⟨a1, a2⟩ | ⟨a1, a2⟩
  · rcases b with ⟨b1, b2⟩ | ⟨b1, b2⟩
    · rw [a2, b2]
    · exact absurd b1 a1
  · rcases b with ⟨b1, b2⟩ | ⟨b1, b2⟩
    · exact absurd a1 b1
    · rcases a2 with ⟨a2, a3⟩ | ⟨m, T, a2, a3⟩
      · rcases b2 with ⟨b2, b3⟩ | ⟨m', T', b2, b3⟩
        · rw [a3, b3]
        · exact (Rd_ny a2 b2).elim
      · rcases b2 with ⟨b2, b3⟩ | ⟨m', T', b2, b3⟩
        · exact (Rd_ny b2 a2).elim
        · obtain ⟨e1, e2⟩ := Rd_yy a1 a2 b2
          have : itA2 s T = itA2 s T' := by
            unfold itA2
            rw [e2 3 (by decide), e2 4 (by decide)]
            have : (∀ p, p < 7 → sgB s (64 * T' 3 + T' 4) p = T p) = ∀ p, p < 7 → sgB s (64 * T' 3 + T' 4) p = T' p := propext ⟨fun h p hp => by rw [← e2 p (by omega)]; exact h p hp, fun h p hp => by rw [e2 p (by omega)]; exact h p hp⟩
            simp only [this]
          rw [a3, b3, e1, this]
