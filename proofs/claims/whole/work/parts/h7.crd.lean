/-! ===== READING BARS (component) ===== -/
def rvJ (t : Tp) (p : Nat) : Nat → Nat
  | 0 => 0
  | j + 1 => if t.2 (3 * p + j) = 63 then rvJ t p j else 4 * rvJ t p j + (t.2 (3 * p + j) - 48)
def uvJ (t : Tp) (p : Nat) : Nat → Bool
  | 0 => false
  | j + 1 => uvJ t p j || decide (t.2 (3 * p + j) = 63)
theorem uv_3 {t : Tp} {p : Nat} : uvJ t p 3 = uB t p := by
  show (((false || decide (t.2 (3 * p + 0) = 63)) || decide (t.2 (3 * p + 1) = 63)) || decide (t.2 (3 * p + 2) = 63)) = _
  unfold uB
  rw [Bool.false_or, Bool.or_assoc]; rfl
theorem rv_3 {t : Tp} {p : Nat} (h : uB t p = false) : rvJ t p 3 = sgT t p := by
  obtain ⟨n1, n2, n3⟩ := uB_f.mp h
  unfold sgT
  rw [h, if_neg (by decide)]
  show (if t.2 (3 * p + 2) = 63 then _ else 4 * (if t.2 (3 * p + 1) = 63 then _ else 4 * (if t.2 (3 * p + 0) = 63 then _ else 4 * 0 + (t.2 (3 * p + 0) - 48)) + (t.2 (3 * p + 1) - 48)) + (t.2 (3 * p + 2) - 48)) = _
  rw [if_neg n3, if_neg n2, if_neg (show ¬ t.2 (3 * p + 0) = 63 from n1)]
  show 4 * (4 * (4 * 0 + (t.2 (3 * p) - 48)) + (t.2 (3 * p + 1) - 48)) + (t.2 (3 * p + 2) - 48) = _
  omega
theorem rv_b {t : Tp} {p : Nat} (h : ∀ j, j < 3 → t.2 (3 * p + j) = 63 ∨ 48 ≤ t.2 (3 * p + j) ∧ t.2 (3 * p + j) ≤ 51) : ∀ j, j ≤ 3 → rvJ t p j < 4 ^ j
  | 0, _ => show 0 < 1 by decide
  | j + 1, hj => by
    have a := rv_b h j (by omega)
    have b := h j (by omega)
    unfold rvJ
    rw [Nat.pow_succ]
    split <;> omega
theorem lsE_mo {E : Nat → Bool} {n : Nat} : ∀ k, (lsE E n).length ≤ (lsE E (n + k)).length
  | 0 => Nat.le_refl _
  | k + 1 => by
    have := lsE_mo (E := E) (n := n) k
    rw [← Nat.add_assoc, lsE_s]
    split
    · rw [List.length_append]; omega
    · exact this
section CRD2
variable {d : Nat} {t : Tp} {x0 x1 x2 z : Nat}
def RBs (h : AH) (x0 x1 : Nat) (t : Tp) (i : Nat) : Prop := ∀ p, p < 11 → gA h x0 p = nI (rvJ t p (min 3 (i - 3 * p))) ∧ gA h x1 p = nI (if uvJ t p (min 3 (i - 3 * p)) then 1 else 0)
theorem c_rblp (hx0 : 296 ≤ x0) (hx1 : 296 ≤ x1) (hne : x0 ≠ x1) (h33 : t.1 = 33) : ∀ (r i : Nat) {h : AH}, r + i = 33 → Sh h → CT h t → gC h x0 = 60 → gK h x0 = 11 → gC h x1 = 63 → gK h x1 = 11 → (∀ i', i' < i → t.2 i' = 63 ∨ 48 ≤ t.2 i' ∧ t.2 i' ≤ 51) → RBs h x0 x1 t i → ∃ h' v, Q d 199 13 [some (.ref 101), some (.ref x0), some (.ref x1), some (.int (nI i)), none] [] h = some (some (.int (nI v)), h') ∧ Fr [] [x0, x1] h h' ∧ (v = 1 ∧ (∀ i', i' < 33 → t.2 i' = 63 ∨ 48 ≤ t.2 i' ∧ t.2 i' ≤ 51) ∧ RBs h' x0 x1 t 33 ∨ v = 0 ∧ ¬ ∀ i', i' < 33 → t.2 i' = 63 ∨ 48 ≤ t.2 i' ∧ t.2 i' ≤ 51)
  | 0, i, h, e, hs, T, c0, k0, c1, k1, I, R => by
    have : i = 33 := by omega
    subst this
    exact ⟨h, 1, by rw [t_199_13 hs, if_neg (by decide)], Fr.rfl, Or.inl ⟨rfl, I, R⟩⟩
  | r + 1, i, h, e, hs, T, c0, k0, c1, k1, I, R => by
    have hi : i < 33 := by omega
    have ti := (T.2.2 i (by omega)).1
    have tb := (T.2.2 i (by omega)).2
    have hq : i / 3 < 11 := by omega
    obtain ⟨R0, R1⟩ := R (i / 3) hq
    have mi : min 3 (i - 3 * (i / 3)) = i % 3 := by omega
    rw [mi] at R0 R1
    have hsum : 3 * (i / 3) + i % 3 = i := by omega
    have vb : ∀ j, j < i % 3 → t.2 (3 * (i / 3) + j) = 63 ∨ 48 ≤ t.2 (3 * (i / 3) + j) ∧ t.2 (3 * (i / 3) + j) ≤ 51 := fun j hj => I _ (by omega)
    have m1 : ∀ p, p ≠ i / 3 → min 3 (i + 1 - 3 * p) = min 3 (i - 3 * p) := fun p hp => by omega
    have m2 : min 3 (i + 1 - 3 * (i / 3)) = i % 3 + 1 := by omega
    have bad : (¬ (t.2 i = 63 ∨ 48 ≤ t.2 i ∧ t.2 i ≤ 51)) → ∃ h' v, some (some (Value.int (nI 0)), h) = some (some (Value.int (nI v)), h') ∧ Fr [] [x0, x1] h h' ∧ (v = 1 ∧ (∀ i', i' < 33 → t.2 i' = 63 ∨ 48 ≤ t.2 i' ∧ t.2 i' ≤ 51) ∧ RBs h' x0 x1 t 33 ∨ v = 0 ∧ ¬ ∀ i', i' < 33 → t.2 i' = 63 ∨ 48 ≤ t.2 i' ∧ t.2 i' ≤ 51) := fun q => ⟨h, 0, rfl, Fr.rfl, Or.inr ⟨rfl, fun w => q (w i hi)⟩⟩
    have dz3 : ¬ nI 3 = 0 := by decide
    rw [t_199_13 hs, if_pos (nI_lt hi (by decide)), gd_nI (by omega) (by decide), ix_nI (by omega), ti]
    simp only [show (nI (t.2 i) = nI 63) = (t.2 i = 63) from propext (nI_eq (by omega) (by decide)), show (nI (t.2 i) < nI 48) = (t.2 i < 48) from propext (nI_ltI (by omega) (by decide)), show (nI 51 < nI (t.2 i)) = (51 < t.2 i) from propext (nI_ltI (by decide) (by omega))]
    by_cases q : t.2 i = 63
    · rw [if_pos q, dz_ok dz3, cw_ok c1 (by omega), k1, pk_div (by omega) (by decide) (by decide), gd_nI hq (by decide), ix_nI (by omega), nI_add, show nrA 63 (nI 1) = nI 1 from rfl]
      have f1 : Fr [] [x0, x1] h (sA h x1 (i / 3) (nI 1)) := Fr.rfl.sA (by simp)
      obtain ⟨h', v, a1, a2, a3⟩ := c_rblp hx0 hx1 hne h33 r (i + 1) (by omega) (f1.sh hs) (T.fr f1 (by decide) (by simp; omega)) c0 k0 c1 k1 (fun i' hi' => by
        by_cases w : i' = i
        · rw [w]; exact Or.inl q
        · exact I i' (by omega)) (fun p hp => by
        obtain ⟨p0, p1⟩ := R p hp
        rw [gA_k (by omega), gA_s]
        by_cases w : p = i / 3
        · subst w
          rw [m2, up1_s, R0]
          refine ⟨?_, ?_⟩
          · show _ = nI (if t.2 (3 * (i / 3) + i % 3) = 63 then rvJ t (i / 3) (i % 3) else _)
            rw [hsum, if_pos q]
          · show _ = nI (if (uvJ t (i / 3) (i % 3) || decide (t.2 (3 * (i / 3) + i % 3) = 63)) = true then 1 else 0)
            rw [hsum, decide_eq_true q, Bool.or_true, if_pos rfl]
        · rw [m1 p w, up1_x w]; exact ⟨p0, p1⟩)
      exact ⟨h', v, a1, f1.trans a2, a3⟩
    · rw [if_neg q]
      by_cases q1 : t.2 i < 48
      · rw [if_pos q1]; exact bad (by omega)
      · rw [if_neg q1]
        by_cases q2 : 51 < t.2 i
        · rw [if_pos q2]; exact bad (by omega)
        · rw [if_neg q2, dz_ok dz3, dz_ok dz3, ck_ok c0, k0, pk_div (by omega) (by decide) (by decide), gd_nI hq (by decide), cw_ok c0 (by omega), gd_nI hq (by decide), ix_nI (by omega), R0]
          have rb : rvJ t (i / 3) (i % 3) < 64 := by
            have e3 : i % 3 = 0 ∨ i % 3 = 1 ∨ i % 3 = 2 := by omega
            have gen : ∀ j, j ≤ i % 3 → rvJ t (i / 3) j < 4 ^ j := by
              intro j
              induction j with
              | zero => intro _; show 0 < 1; decide
              | succ j ih =>
                intro hj
                have a := ih (by omega)
                have b := vb j (by omega)
                unfold rvJ
                rw [Nat.pow_succ]
                split <;> omega
            have := gen (i % 3) (Nat.le_refl _)
            rcases e3 with e3 | e3 | e3 <;> rw [e3] at this ⊢ <;> omega
          rw [pk_mul, nI_add, nI_add, pk_sub (by omega)]
          have f1 : Fr [] [x0, x1] h (sA h x0 (i / 3) (nI (rvJ t (i / 3) (i % 3) * 4 + t.2 i - 48))) := Fr.rfl.sA (by simp)
          obtain ⟨h', v, a1, a2, a3⟩ := c_rblp hx0 hx1 hne h33 r (i + 1) (by omega) (f1.sh hs) (T.fr f1 (by decide) (by simp; omega)) c0 k0 c1 k1 (fun i' hi' => by
            by_cases w : i' = i
            · rw [w]; exact Or.inr ⟨by omega, by omega⟩
            · exact I i' (by omega)) (fun p hp => by
            obtain ⟨p0, p1⟩ := R p hp
            rw [gA_s, gA_k (by omega)]
            by_cases w : p = i / 3
            · subst w
              rw [m2, up1_s, R1]
              refine ⟨?_, ?_⟩
              · show _ = nI (if t.2 (3 * (i / 3) + i % 3) = 63 then _ else 4 * rvJ t (i / 3) (i % 3) + (t.2 (3 * (i / 3) + i % 3) - 48))
                rw [hsum, if_neg q]
                congr 1
                omega
              · show _ = nI (if (uvJ t (i / 3) (i % 3) || decide (t.2 (3 * (i / 3) + i % 3) = 63)) = true then 1 else 0)
                rw [hsum, decide_eq_false q, Bool.or_false]
            · rw [m1 p w, up1_x w]; exact ⟨p0, p1⟩)
          exact ⟨h', v, a1, f1.trans a2, a3⟩
theorem c_rdB {h : AH} (hx0 : 296 ≤ x0) (hx1 : 296 ≤ x1) (hne : x0 ≠ x1) (hs : Sh h) (T : CT h t) (c0 : gC h x0 = 60) (k0 : gK h x0 = 11) (c1 : gC h x1 = 63) (k1 : gK h x1 = 11) (z0 : gA h x0 = fun _ => 0) (z1 : gA h x1 = fun _ => 0) : ∃ h' v, E (d + 1) 199 [.ref 101, .ref x0, .ref x1] h = some (some (.int (nI v)), h') ∧ Fr [] [x0, x1] h h' ∧ (v = 1 ∧ isB t ∧ (∀ p, p < 11 → gA h' x0 p = nI (rvJ t p 3) ∧ gA h' x1 p = nI (if uB t p then 1 else 0)) ∨ v = 0 ∧ ¬ isB t) := by
  have t1 := T.1
  have t4 := T.2.1
  rw [t_199 hs, t1]
  simp only [show (nI t.1 = nI 33) = (t.1 = 33) from propext (nI_eq (by omega) (by decide))]
  by_cases q : t.1 = 33
  · rw [if_pos q]
    obtain ⟨h', v, a1, a2, a3⟩ := c_rblp (d := d) (t := t) hx0 hx1 hne q 33 0 rfl hs T c0 k0 c1 k1 (fun i' hi' => absurd hi' (Nat.not_lt_zero _)) (fun p hp => by
      rw [show min 3 (0 - 3 * p) = 0 by omega, z0, z1]; exact ⟨rfl, rfl⟩)
    refine ⟨h', v, a1, a2, ?_⟩
    rcases a3 with ⟨b1, b2, b3⟩ | ⟨b1, b2⟩
    · refine Or.inl ⟨b1, ⟨q, b2⟩, fun p hp => ?_⟩
      have := b3 p hp
      rw [show min 3 (33 - 3 * p) = 3 by omega, uv_3] at this
      exact this
    · exact Or.inr ⟨b1, fun w => b2 w.2⟩
  · rw [if_neg q]
    exact ⟨h, 0, rfl, Fr.rfl, Or.inr ⟨rfl, fun w => q w.1⟩⟩
/-- spots of a set and one more -/
def sq1 (t : Tp) (i k : Nat) : Nat := if k < uN t then sqE (uB t) k else i
theorem sq1_d {i : Nat} (h2 : uN t ≤ 2) (hi : i < 11) (hu : uB t i = false) : SD (sq1 t i) (uN t + 1) := by
  have D := sqE_d (E := uB t) (show (lsE (uB t) 11).length ≤ 4 from by unfold uN at h2; omega)
  have ne : ∀ k, k < uN t → sqE (uB t) k ≠ i := fun k hk e => ((sqE_m (E := uB t) hi).mpr hu k hk) e.symm
  refine ⟨by omega, fun k hk => ?_, fun k k' hk hk' e => ?_⟩
  · unfold sq1
    split
    · rename_i q; exact D.2.1 k q
    · exact hi
  · unfold sq1 at e
    by_cases q : k < uN t
    · by_cases q' : k' < uN t
      · rw [if_pos q, if_pos q'] at e; exact D.2.2 k k' q q' e
      · rw [if_pos q, if_neg q'] at e; exact absurd e (ne k q)
    · by_cases q' : k' < uN t
      · rw [if_neg q, if_pos q'] at e; exact absurd e.symm (ne k' q')
      · omega
theorem sq1_e {i : Nat} {S T : Nat → Nat} : SolS (sq1 t i) (uN t + 1) S T ↔ SolE (E1 t i) S T := SolS.e fun p hp => by
  unfold E1
  rw [Bool.or_eq_false_iff, beq_eq_false_iff_ne]
  constructor
  · intro h
    refine ⟨(sqE_m hp).mp fun k hk => ?_, ?_⟩
    · have := h k (by unfold uN; omega)
      unfold sq1 at this
      rw [if_pos (show k < uN t from hk)] at this; exact this
    · have := h (uN t) (by omega)
      unfold sq1 at this
      rw [if_neg (Nat.lt_irrefl _)] at this; exact this
  · rintro ⟨h1, h2⟩ k hk
    unfold sq1
    split
    · rename_i q; exact (sqE_m hp).mpr h1 k q
    · exact h2
def sq2 (i j k : Nat) : Nat := if k = 0 then i else j
theorem sq2_d {i j : Nat} (hi : i < 11) (hj : j < 11) (h : i ≠ j) : SD (sq2 i j) 2 := by
  refine ⟨by decide, fun k hk => ?_, fun k k' hk hk' e => ?_⟩
  · unfold sq2; split <;> omega
  · unfold sq2 at e
    by_cases q : k = 0
    · by_cases q' : k' = 0
      · omega
      · rw [if_pos q, if_neg q'] at e; exact absurd e h
    · by_cases q' : k' = 0
      · rw [if_neg q, if_pos q'] at e; exact absurd e.symm h
      · omega
theorem sq2_e {i j : Nat} {S T : Nat → Nat} : SolS (sq2 i j) 2 S T ↔ SolE (E2 i j) S T := SolS.e fun p hp => by
  unfold E2
  rw [Bool.or_eq_false_iff, beq_eq_false_iff_ne, beq_eq_false_iff_ne]
  constructor
  · intro h; exact ⟨h 0 (by decide), h 1 (by decide)⟩
  · rintro ⟨h1, h2⟩ k hk
    unfold sq2
    split
    · exact h1
    · exact h2
/-- the rows at hand -/
def MdR (h : AH) (x0 x1 x2 z : Nat) (t : Tp) : Prop := Sh h ∧ KS h ∧ LnC h z ∧ SA h x0 (sgT t) ∧ (gC h x1 = 63 ∧ gK h x1 = 11 ∧ ∀ p, p < 11 → gA h x1 p = nI (if uB t p then 1 else 0)) ∧ gC h x2 = 60 ∧ gK h x2 = 5
theorem MdR.go {X : List Nat} {h h' : AH} (M : MdR h x0 x1 x2 z t) (f : Fr [] X h h') (hX : ∀ x, x ∈ X → 61 ≤ x ∧ x ≠ x1) (A : SA h' x0 (sgT t)) : MdR h' x0 x1 x2 z t := by
  obtain ⟨m1, m2, m3, m4, m5, m6, m7⟩ := M
  refine ⟨f.sh m1, m2.fr f (by decide) (fun x q => (hX x q).1), m3.fr f, A, ?_, by rw [f.2.1]; exact m6, by rw [f.2.2.1]; exact m7⟩
  rw [f.2.1, f.2.2.1, f.A fun q => (hX _ q).2 rfl]; exact m5
abbrev XMd (x0 x2 z : Nat) : List Nat := x0 :: x2 :: Xz z
theorem xmd_b {x : Nat} (h : x ∈ XMd x0 x2 z) : x = x0 ∨ x = x2 ∨ z < x ∧ x ≤ z + 4 := by
  simp only [XMd, Xz, List.mem_cons, List.not_mem_nil, or_false] at h; omega
theorem c_mend1 (hB : isB t) (h2 : uN t ≤ 2) (hx01 : x0 < z) (hx12 : x1 < x2) (hx0 : x0 < x1) (hx2 : x2 < z) (h296 : 296 ≤ x0) : ∀ (r i : Nat) {h : AH}, r + i = 11 → MdR h x0 x1 x2 z t → (∀ k, k < uN t → gA h x2 k = nI (sqE (uB t) k)) → (∀ i', i' < i → uB t i' = false → ∀ T', ¬ SolE (E1 t i') (sgT t) T') → ∃ h' v, Q (d + 3) 247 3 [some (.ref x0), some (.ref x1), some (.ref x2), some (.int (nI (uN t))), some (.ref z), some (.int (nI i))] [] h = some (some (.int (nI v)), h') ∧ Fr [] (XMd x0 x2 z) h h' ∧ (v = 1 ∧ (∃ i T, i < 11 ∧ uB t i = false ∧ SolE (E1 t i) (sgT t) T ∧ SA h' x0 T) ∨ v = 0 ∧ (∀ i', i' < 11 → uB t i' = false → ∀ T', ¬ SolE (E1 t i') (sgT t) T') ∧ MdR h' x0 x1 x2 z t)
  | 0, i, h, e, M, P, I => by
    have : i = 11 := by omega
    subst this
    exact ⟨h, 0, by rw [t_247_3 M.1, if_neg (by decide)], Fr.rfl, Or.inr ⟨rfl, I, M⟩⟩
  | r + 1, i, h, e, M, P, I => by
    have hi : i < 11 := by omega
    have M' := M
    obtain ⟨hs, K, L, A, ⟨c1, k1, u1⟩, c2, k2⟩ := M
    obtain ⟨h1, h1E⟩ : ∃ g, g = sA h x2 (uN t) (nI i) := ⟨_, rfl⟩
    have f1 : Fr [] (XMd x0 x2 z) h h1 := by rw [h1E]; exact Fr.rfl.sA (by simp)
    have f1' : Fr [] [x2] h h1 := by rw [h1E]; exact Fr.rfl.sA (by simp)
    have s1 := f1.sh hs
    have A1 : SA h1 x0 (sgT t) := A.fr f1' (by rw [List.mem_singleton]; omega)
    have M1 : MdR h1 x0 x1 x2 z t := M'.go f1' (fun x q => by rw [List.mem_singleton] at q; omega) A1
    have P1 : ∀ k, k < uN t → gA h1 x2 k = nI (sqE (uB t) k) := fun k hk => by
      rw [h1E, gA_s, up1_x (by omega)]; exact P k hk
    have u1' : gA h1 x1 i = nI (if uB t i then 1 else 0) := by rw [f1'.A (by rw [List.mem_singleton]; omega)]; exact u1 i hi
    have st : Q (d + 3) 247 3 [some (.ref x0), some (.ref x1), some (.ref x2), some (.int (nI (uN t))), some (.ref z), some (.int (nI i))] [] h = if uB t i then Q (d + 3) 247 3 [some (.ref x0), some (.ref x1), some (.ref x2), some (.int (nI (uN t))), some (.ref z), some (.int (nI (i + 1)))] [] h1 else cK (E (d + 3) 246 [.ref x0, .ref x2, .int (nI (uN t + 1)), .ref z] h1) (Q (d + 3) 247 32 [some (.ref x0), some (.ref x1), some (.ref x2), some (.int (nI (uN t))), some (.ref z), some (.int (nI i))]) [] := by
      rw [t_247_3 hs, if_pos (nI_lt hi (by decide)), cw_ok c2 (by omega), k2, gd_nI (by omega) (by decide), ck_ok c1, k1, gd_nI hi (by decide), ix_nI (show uN t < 2 ^ 31 by omega), ix_nI (show i < 2 ^ 31 by omega), ← h1E, u1', nI_add, nI_add]
      cases uB t i with
      | true => rw [if_neg (by decide), if_pos rfl]
      | false => rw [if_pos (by decide), if_neg (by decide)]
    rw [st]
    cases hu : uB t i with
    | true =>
      rw [if_pos rfl]
      obtain ⟨h', v, a1, a2, a3⟩ := c_mend1 hB h2 hx01 hx12 hx0 hx2 h296 r (i + 1) (by omega) M1 P1 (fun i' hi' hu' => by
        by_cases w : i' = i
        · rw [w, hu] at hu'; exact absurd hu' (by decide)
        · exact I i' (by omega) hu')
      exact ⟨h', v, a1, f1.trans a2, a3⟩
    | false =>
      rw [if_neg (by decide)]
      obtain ⟨g, w, b1, b2, b3⟩ := c_solve (d := d) (x0 := x0) (x1 := x2) (z := z) (n := uN t + 1) (K := 5) (S := sgT t) (sq1_d h2 hi hu) (sgT_lt hB) hx01 hx2 (by omega) s1 M1.2.1 M1.2.2.1 A1 ⟨M1.2.2.2.2.2.1, M1.2.2.2.2.2.2, by omega, by decide, by omega, fun k hk => by
        unfold sq1
        by_cases q : k < uN t
        · rw [if_pos q]; exact P1 k q
        · rw [if_neg q, show k = uN t by omega, h1E, gA_s, up1_s]⟩
      have fb : Fr [] (XMd x0 x2 z) h1 g := b2.wk (fun _ q => q) (fun x q => by
        rcases List.mem_cons.mp q with q | q
        · rw [q]; exact List.mem_cons_self
        · exact List.mem_cons_of_mem _ (List.mem_cons_of_mem _ q))
      rw [b1, cK_v, t_247_32 (b2.sh s1)]
      rcases b3 with ⟨rfl, T, c3, c4⟩ | ⟨rfl, c3, c4⟩
      · rw [if_neg (by decide)]
        exact ⟨g, 1, rfl, f1.trans fb, Or.inl ⟨rfl, i, T, hi, hu, sq1_e.mp c3, c4⟩⟩
      · rw [if_pos rfl, nI_add]
        have nx : ∀ x, x ∈ x0 :: Xz z → 61 ≤ x ∧ x ≠ x1 := fun x q => by
          simp only [Xz, List.mem_cons, List.not_mem_nil, or_false] at q; omega
        have n2 : x2 ∉ x0 :: Xz z := fun q => by
          simp only [Xz, List.mem_cons, List.not_mem_nil, or_false] at q; omega
        obtain ⟨h', v, a1, a2, a3⟩ := c_mend1 hB h2 hx01 hx12 hx0 hx2 h296 r (i + 1) (by omega) (M1.go b2 nx c4) (fun k hk => by rw [b2.A n2]; exact P1 k hk) (fun i' hi' hu' T' q => by
          by_cases w : i' = i
          · subst w; exact c3 T' (sq1_e.mpr q)
          · exact I i' (by omega) hu' T' q)
        exact ⟨h', v, a1, (f1.trans fb).trans a2, a3⟩
theorem c_mend2 (hB : isB t) (hx01 : x0 < z) (hx12 : x1 < x2) (hx0 : x0 < x1) (hx2 : x2 < z) (h296 : 296 ≤ x0) {i : Nat} (hi : i < 11) : ∀ (r j : Nat) {h : AH}, r + j = 11 → i < j → MdR h x0 x1 x2 z t → (∀ j', i < j' → j' < j → ∀ T', ¬ SolE (E2 i j') (sgT t) T') → ∃ h', Fr [] (XMd x0 x2 z) h h' ∧ (Q (d + 3) 248 16 [some (.ref x0), none, some (.ref x2), some (.ref z), some (.int (nI i)), some (.int (nI j))] [] h = some (some (.int (nI 1)), h') ∧ (∃ j T, i < j ∧ j < 11 ∧ SolE (E2 i j) (sgT t) T ∧ SA h' x0 T) ∨ Q (d + 3) 248 16 [some (.ref x0), none, some (.ref x2), some (.ref z), some (.int (nI i)), some (.int (nI j))] [] h = Q (d + 3) 248 3 [some (.ref x0), none, some (.ref x2), some (.ref z), some (.int (nI (i + 1))), none] [] h' ∧ (∀ j', i < j' → j' < 11 → ∀ T', ¬ SolE (E2 i j') (sgT t) T') ∧ MdR h' x0 x1 x2 z t)
  | 0, j, h, e, hij, M, I => by
    have : j = 11 := by omega
    subst this
    exact ⟨h, Fr.rfl, Or.inr ⟨by rw [t_248_16 M.1, if_neg (by decide), nI_add], I, M⟩⟩
  | r + 1, j, h, e, hij, M, I => by
    have hj : j < 11 := by omega
    have M' := M
    obtain ⟨hs, K, L, A, ⟨c1, k1, u1⟩, c2, k2⟩ := M
    obtain ⟨h1, h1E⟩ : ∃ g, g = sA (sA h x2 0 (nI i)) x2 1 (nI j) := ⟨_, rfl⟩
    have f1 : Fr [] (XMd x0 x2 z) h h1 := by rw [h1E]; exact (Fr.rfl.sA (by simp)).sA (by simp)
    have f1' : Fr [] [x2] h h1 := by rw [h1E]; exact (Fr.rfl.sA (by simp)).sA (by simp)
    have s1 := f1.sh hs
    have A1 : SA h1 x0 (sgT t) := A.fr f1' (by rw [List.mem_singleton]; omega)
    have M1 : MdR h1 x0 x1 x2 z t := M'.go f1' (fun x q => by rw [List.mem_singleton] at q; omega) A1
    obtain ⟨g, w, b1, b2, b3⟩ := c_solve (d := d) (x0 := x0) (x1 := x2) (z := z) (n := 2) (K := 5) (S := sgT t) (sq2_d hi hj (by omega)) (sgT_lt hB) hx01 hx2 (by omega) s1 M1.2.1 M1.2.2.1 A1 ⟨M1.2.2.2.2.2.1, M1.2.2.2.2.2.2, by decide, by decide, by omega, fun k hk => by
      unfold sq2
      by_cases q : k = 0
      · rw [if_pos q, q, h1E, gA_s, gA_s, up1_x (by decide), up1_s]
      · rw [if_neg q, show k = 1 by omega, h1E, gA_s, up1_s]⟩
    have fb : Fr [] (XMd x0 x2 z) h1 g := b2.wk (fun _ q => q) (fun x q => by
      rcases List.mem_cons.mp q with q | q
      · rw [q]; exact List.mem_cons_self
      · exact List.mem_cons_of_mem _ (List.mem_cons_of_mem _ q))
    have st : Q (d + 3) 248 16 [some (.ref x0), none, some (.ref x2), some (.ref z), some (.int (nI i)), some (.int (nI j))] [] h = if nI w = nI 0 then Q (d + 3) 248 16 [some (.ref x0), none, some (.ref x2), some (.ref z), some (.int (nI i)), some (.int (nI (j + 1)))] [] g else some (some (.int (nI 1)), g) := by
      rw [t_248_16 hs, if_pos (nI_lt hj (by decide)), cw_ok c2 (by omega), k2, gd_nI (by decide) (by decide), cw_ok c2 (by omega), gd_nI (by decide) (by decide), ← h1E, b1, cK_v, t_248_40 (b2.sh s1), nI_add]
    rcases b3 with ⟨rfl, T, c3, c4⟩ | ⟨rfl, c3, c4⟩
    · exact ⟨g, f1.trans fb, Or.inl ⟨by rw [st, if_neg (by decide)], j, T, hij, hj, sq2_e.mp c3, c4⟩⟩
    · have nx : ∀ x, x ∈ x0 :: Xz z → 61 ≤ x ∧ x ≠ x1 := fun x q => by
        simp only [Xz, List.mem_cons, List.not_mem_nil, or_false] at q; omega
      obtain ⟨h', a1, a2⟩ := c_mend2 hB hx01 hx12 hx0 hx2 h296 hi r (j + 1) (by omega) (by omega) (M1.go b2 nx c4) (fun j' h1 h2 T' q => by
        by_cases w : j' = j
        · subst w; exact c3 T' (sq2_e.mpr q)
        · exact I j' h1 (by omega) T' q)
      rw [st, if_pos rfl]
      exact ⟨h', (f1.trans fb).trans a1, a2⟩
theorem E2_sw {i j : Nat} : E2 i j = E2 j i := funext fun p => Bool.or_comm _ _
theorem c_mend3 (hB : isB t) (hx01 : x0 < z) (hx12 : x1 < x2) (hx0 : x0 < x1) (hx2 : x2 < z) (h296 : 296 ≤ x0) : ∀ (r i : Nat) {h : AH}, r + i = 11 → MdR h x0 x1 x2 z t → (∀ i' j', i' < i → i' < j' → j' < 11 → ∀ T', ¬ SolE (E2 i' j') (sgT t) T') → ∃ h' v, Q (d + 3) 248 3 [some (.ref x0), none, some (.ref x2), some (.ref z), some (.int (nI i)), none] [] h = some (some (.int (nI v)), h') ∧ Fr [] (XMd x0 x2 z) h h' ∧ (v = 1 ∧ (∃ i j T, i < 11 ∧ j < 11 ∧ i ≠ j ∧ SolE (E2 i j) (sgT t) T ∧ SA h' x0 T) ∨ v = 0 ∧ ∀ i j, i < 11 → j < 11 → i ≠ j → ∀ T', ¬ SolE (E2 i j) (sgT t) T')
  | 0, i, h, e, M, I => by
    have : i = 11 := by omega
    subst this
    refine ⟨h, 0, by rw [t_248_3 M.1, if_neg (by decide)], Fr.rfl, Or.inr ⟨rfl, fun i j hi hj ne T' q => ?_⟩⟩
    by_cases w : i < j
    · exact I i j hi w hj T' q
    · rw [E2_sw] at q
      exact I j i hj (by omega) hi T' q
  | r + 1, i, h, e, M, I => by
    have hi : i < 11 := by omega
    obtain ⟨h1, b1, b2⟩ := c_mend2 (d := d) hB hx01 hx12 hx0 hx2 h296 hi (11 - (i + 1)) (i + 1) (by omega) (by omega) M (fun j' h1 h2 => by omega)
    rw [t_248_3 M.1, if_pos (nI_lt hi (by decide)), nI_add]
    rcases b2 with ⟨b2, j, T, b3, b4, b5, b6⟩ | ⟨b2, b3, b4⟩
    · exact ⟨h1, 1, b2, b1, Or.inl ⟨rfl, i, j, T, hi, b4, by omega, b5, b6⟩⟩
    · obtain ⟨h', v, a1, a2, a3⟩ := c_mend3 hB hx01 hx12 hx0 hx2 h296 r (i + 1) (by omega) b4 (fun i' j' h1 h2 h3 => by
        by_cases w : i' = i
        · subst w; exact b3 j' h2 h3
        · exact I i' j' (by omega) h2 h3)
      exact ⟨h', v, b2.trans a1, b1.trans a2, a3⟩
end CRD2
