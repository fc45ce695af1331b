/-! ===== read AS A CALL (reference): all tries ===== -/
theorem fl_dj {E F : Nat → Bool} : ∀ l : List Nat, (∀ x, x ∈ l → ¬ (E x = true ∧ F x = true)) → (l.filter fun p => E p || F p).length = (l.filter E).length + (l.filter F).length
  | [], _ => rfl
  | a :: l, h => by
    have := fl_dj (E := E) (F := F) l fun x hx => h x (List.mem_cons_of_mem _ hx)
    have h0 := h a List.mem_cons_self
    simp only [List.filter_cons]
    cases e1 : E a <;> cases e2 : F a
    · simpa using this
    · simp; omega
    · simp; omega
    · exact absurd ⟨e1, e2⟩ h0
theorem len1e : ∀ i, i < 11 → (lsE (fun p => p == i) 11).length = 1 := by decide +kernel
theorem len_E1e {t : Tp} {i : Nat} (hi : i < 11) (hu : uB t i = false) : (lsE (E1 t i) 11).length = uN t + 1 := by
  have := fl_dj (E := uB t) (F := fun p => p == i) (List.range 11) fun x _ q => by
    have := beq_iff_eq.mp q.2
    rw [this, hu] at q
    exact absurd q.1 (by decide)
  have l1 := len1e i hi
  unfold lsE at l1
  unfold lsE E1 uN
  unfold lsE
  omega
theorem len_E2e {i j : Nat} (hi : i < 11) (hj : j < 11) (h : i ≠ j) : (lsE (E2 i j) 11).length = 2 := by
  have := fl_dj (E := fun p => p == i) (F := fun p => p == j) (List.range 11) fun x _ q => by
    have a := beq_iff_eq.mp q.1
    have b := beq_iff_eq.mp q.2
    omega
  have l1 := len1e i hi
  have l2 := len1e j hj
  unfold lsE at l1 l2
  unfold lsE E2
  omega
section RRE
variable {d : Nat} {t : Tp}
/-- what all tries keep -/
def RTr (h : AH) (t : Tp) : Prop := Sh h ∧ KP h ∧ RTo h t ∧ ∃ M, MRt h M
theorem RTr.go {h h' : AH} {M' : Nat → Nat → Nat} (a : RTr h t) (f : Fr [3649] [237, 238, 239] h h') (m : MRt h' M') : RTr h' t := ⟨f.sh a.1, a.2.1.fr f (by decide) (by decide), a.2.2.1.fr f (by decide) (by decide), M', m⟩
/-- it is read, and stands in the row -/
def RGd (h : AH) (t : Tp) : Prop := ∃ m T, RdY t m T ∧ gI h 3649 189 = nI m ∧ m ≤ 4 ∧ ∀ p, p < 11 → gA h 237 p = nI (T p)
theorem r_ct {h : AH} (hs : Sh h) (T : RTo h t) : ∀ (r p : Nat), r + p = 11 → Q d 94 4 [some (.ref 189), some (.int (nI (lsE (uB t) p).length)), some (.int (nI p)), none, none] [] h = Q d 94 4 [some (.ref 189), some (.int (nI (uN t))), some (.int (nI 11)), none, none] [] h
  | 0, p, e => by
    have : p = 11 := by omega
    subst this; rfl
  | r + 1, p, e => by
    have hp : p < 11 := by omega
    rw [← r_ct hs T r (p + 1) (by omega), t_94_4 hs, if_pos (nI_lt hp (by decide)), gd_nI hp (by decide), ix_nI (by omega), T.1 p hp, nI_add, nI_add, nI_add, lsE_s]
    cases uB t p with
    | true => rw [if_pos (by decide), if_pos rfl, List.length_append]; rfl
    | false => rw [if_neg (by decide), if_neg (by decide)]; rfl
theorem r_ir1 (hB : isB t) (h2 : uN t ≤ 2) (n0 : ∀ T', ¬ SolE (uB t) (sgT t) T') : ∀ (r a : Nat) {h : AH}, r + a = 11 → RTr h t → (∀ a', a' < a → uB t a' = false → ∀ T', ¬ SolE (E1 t a') (sgT t) T') → ∃ h' v, Q (d + 4) 94 51 [some (.ref 189), some (.int (nI (uN t))), some (.int (nI 0)), some (.int (nI a)), none] [] h = Q (d + 4) 94 99 [some (.ref 189), some (.int (nI (uN t))), some (.int (nI v)), some (.int (nI 0)), none] [] h' ∧ Fr [3649] [237, 238, 239] h h' ∧ RTr h' t ∧ (v = 1 ∧ RGd h' t ∨ v = 0 ∧ ∀ a', a' < 11 → uB t a' = false → ∀ T', ¬ SolE (E1 t a') (sgT t) T')
  | 0, a, h, e, R, I => by
    have : a = 11 := by omega
    subst this
    exact ⟨h, 0, by rw [t_94_51 R.1, if_neg (by decide)], Fr.rfl, R, Or.inr ⟨rfl, I⟩⟩
  | r + 1, a, h, e, R, I => by
    have ha : a < 11 := by omega
    have R' := R
    obtain ⟨hs, K, T, M, MM⟩ := R
    have st : Q (d + 4) 94 51 [some (.ref 189), some (.int (nI (uN t))), some (.int (nI 0)), some (.int (nI a)), none] [] h = if uB t a then Q (d + 4) 94 51 [some (.ref 189), some (.int (nI (uN t))), some (.int (nI 0)), some (.int (nI (a + 1))), none] [] h else cK (E (d + 4) 95 [.ref 189, .int (nI a), .int (nI 11)] h) (Q (d + 4) 94 82 [some (.ref 189), some (.int (nI (uN t))), some (.int (nI 0)), some (.int (nI a)), none]) [] := by
      rw [t_94_51 hs, if_pos (nI_lt ha (by decide)), if_pos rfl, if_pos (nI_lt (by omega) (by decide)), gd_nI ha (by decide), ix_nI (by omega), T.1 a ha, nI_add]
      cases uB t a with
      | true => rw [if_pos (by decide), if_pos rfl]
      | false => rw [if_neg (by decide), if_neg (by decide)]
    rw [st]
    cases hu : uB t a with
    | true =>
      rw [if_pos rfl]
      exact r_ir1 hB h2 n0 r (a + 1) (by omega) R' (fun a' ha' hu' => by
        by_cases w : a' = a
        · rw [w, hu] at hu'; exact absurd hu' (by decide)
        · exact I a' (by omega) hu')
    | false =>
      rw [if_neg (by decide)]
      have le := len_E1e (t := t) ha hu
      obtain ⟨g, v, M', b1, b2, b3, b4, b5⟩ := r_tries (d := d) (E := E1 t a) (a := nI a) (b := nI 11) hB (fun p hp => by
        unfold E1
        rw [Bool.or_eq_true, beq_iff_eq]
        constructor
        · rintro (q | q)
          · exact Or.inl q
          · exact Or.inr (Or.inl (by rw [q]))
        · rintro (q | q | q)
          · exact Or.inl q
          · exact Or.inr ((nI_eq (by omega) (by omega)).mp q)
          · have := (nI_eq (by omega) (by decide)).mp q; omega) (by omega) hs K T MM
      have Rg := R'.go b2 b3
      rw [b1, cK_v, t_94_82 Rg.1]
      rcases b5 with ⟨rfl, W, c1, c2⟩ | ⟨rfl, c1⟩
      · rw [if_neg (by decide), nI_add]
        refine ⟨g, 1, ?_, b2, Rg, Or.inl ⟨rfl, uN t + 1, W, ⟨by omega, Or.inr (Or.inl ⟨rfl, h2, n0, a, ha, hu, c1⟩)⟩, by rw [b4, le], by omega, c2⟩⟩
        rw [t_94_51 Rg.1]
        by_cases q : a + 1 < 11
        · rw [if_pos (nI_lt q (by decide)), if_neg (by decide)]
        · rw [if_neg (nI_nlt (by omega) (by omega))]
      · rw [if_pos rfl, nI_add]
        obtain ⟨h', v, a1, a2, a3⟩ := r_ir1 hB h2 n0 r (a + 1) (by omega) Rg (fun a' ha' hu' T' q => by
          by_cases w : a' = a
          · subst w; exact c1 T' q
          · exact I a' (by omega) hu' T' q)
        exact ⟨h', v, a1, b2.trans a2, a3⟩
theorem all0 (h0 : uN t = 0) : ∀ p, p < 11 → uB t p = false := fun p hp => by
  cases hu : uB t p with
  | false => rfl
  | true =>
    have hm := lsE_m.mpr ⟨hp, hu⟩
    have : (lsE (uB t) 11) = [] := List.eq_nil_of_length_eq_zero h0
    rw [this] at hm
    exact absurd hm List.not_mem_nil
theorem r_ir3 (hB : isB t) (h0 : uN t = 0) (n1 : ∀ i, i < 11 → ∀ T', ¬ SolE (E1 t i) (sgT t) T') {a : Nat} (ha : a < 11) : ∀ (r b : Nat) {h : AH}, r + b = a → RTr h t → (∀ b', b' < b → ∀ T', ¬ SolE (E2 a b') (sgT t) T') → ∃ h' v, Q (d + 4) 94 116 [some (.ref 189), some (.int (nI 0)), some (.int (nI 0)), some (.int (nI a)), some (.int (nI b))] [] h = Q (d + 4) 94 99 [some (.ref 189), some (.int (nI 0)), some (.int (nI v)), some (.int (nI (a + 1))), none] [] h' ∧ Fr [3649] [237, 238, 239] h h' ∧ RTr h' t ∧ (v = 1 ∧ RGd h' t ∨ v = 0 ∧ ∀ b', b' < a → ∀ T', ¬ SolE (E2 a b') (sgT t) T')
  | 0, b, h, e, R, I => by
    have : b = a := by omega
    subst this
    exact ⟨h, 0, by rw [t_94_116 R.1, if_neg (nI_nlt (Nat.le_refl _) (by omega)), nI_add], Fr.rfl, R, Or.inr ⟨rfl, I⟩⟩
  | r + 1, b, h, e, R, I => by
    have hb : b < a := by omega
    have R' := R
    obtain ⟨hs, K, T, M, MM⟩ := R
    have le := len_E2e (i := a) (j := b) ha (by omega) (by omega)
    have al := all0 h0
    obtain ⟨g, v, M', b1, b2, b3, b4, b5⟩ := r_tries (d := d) (E := E2 a b) (a := nI a) (b := nI b) hB (fun p hp => by
      unfold E2
      rw [Bool.or_eq_true, beq_iff_eq, beq_iff_eq]
      constructor
      · rintro (q | q)
        · exact Or.inr (Or.inl (by rw [q]))
        · exact Or.inr (Or.inr (by rw [q]))
      · rintro (q | q | q)
        · rw [al p hp] at q; exact absurd q (by decide)
        · exact Or.inl ((nI_eq (by omega) (by omega)).mp q)
        · exact Or.inr ((nI_eq (by omega) (by omega)).mp q)) (by omega) hs K T MM
    have Rg := R'.go b2 b3
    rw [t_94_116 hs, if_pos (nI_lt hb (by omega)), if_pos rfl, b1, cK_v, t_94_133 Rg.1, nI_add]
    rcases b5 with ⟨rfl, W, c1, c2⟩ | ⟨rfl, c1⟩
    · refine ⟨g, 1, ?_, b2, Rg, Or.inl ⟨rfl, 2, W, ⟨by omega, Or.inr (Or.inr ⟨rfl, h0, n1, a, b, ha, by omega, by omega, c1⟩)⟩, by rw [b4, le], by decide, c2⟩⟩
      rw [t_94_116 Rg.1]
      by_cases q : b + 1 < a
      · rw [if_pos (nI_lt q (by omega)), if_neg (by decide), nI_add]
      · rw [if_neg (nI_nlt (by omega) (by omega)), nI_add]
    · obtain ⟨h', v, a1, a2, a3⟩ := r_ir3 hB h0 n1 ha r (b + 1) (by omega) Rg (fun b' hb' T' q => by
        by_cases w : b' = b
        · subst w; exact c1 T' q
        · exact I b' (by omega) T' q)
      exact ⟨h', v, a1, b2.trans a2, a3⟩
theorem r_ir4 (hB : isB t) (h0 : uN t = 0) (n0 : ∀ T', ¬ SolE (uB t) (sgT t) T') (n1 : ∀ i, i < 11 → ∀ T', ¬ SolE (E1 t i) (sgT t) T') : ∀ (r a : Nat) {h : AH}, r + a = 11 → RTr h t → (∀ a' b', a' < a → b' < a' → ∀ T', ¬ SolE (E2 a' b') (sgT t) T') → ∃ h' v, Q (d + 4) 94 99 [some (.ref 189), some (.int (nI 0)), some (.int (nI 0)), some (.int (nI a)), none] [] h = some (some (.int (nI v)), h') ∧ Fr [3649] [237, 238, 239] h h' ∧ RTr h' t ∧ (v = 1 ∧ RGd h' t ∨ v = 0 ∧ RdN t)
  | 0, a, h, e, R, I => by
    have : a = 11 := by omega
    subst this
    refine ⟨h, 0, by rw [t_94_99 R.1, if_neg (by decide), if_pos (by decide)], Fr.rfl, R, Or.inr ⟨rfl, Or.inr ⟨n0, fun _ i hi _ => n1 i hi, fun _ i j hi hj ne T' q => ?_⟩⟩⟩
    by_cases w : j < i
    · exact I i j hi w T' q
    · rw [E2_sw] at q
      exact I j i hj (by omega) T' q
  | r + 1, a, h, e, R, I => by
    have ha : a < 11 := by omega
    obtain ⟨h1, v, b1, b2, b3, b4⟩ := r_ir3 (d := d) hB h0 n1 ha a 0 (by omega) R (fun b' hb' => absurd hb' (Nat.not_lt_zero _))
    rw [t_94_99 R.1, if_pos (nI_lt ha (by decide)), if_pos rfl, if_pos rfl, b1]
    rcases b4 with ⟨rfl, b4⟩ | ⟨rfl, b4⟩
    · refine ⟨h1, 1, ?_, b2, b3, Or.inl ⟨rfl, b4⟩⟩
      rw [t_94_99 b3.1]
      by_cases q : a + 1 < 11
      · rw [if_pos (nI_lt q (by decide)), if_neg (by decide), if_pos (by decide)]
      · rw [if_neg (nI_nlt (by omega) (by omega)), if_pos (by decide)]
    · obtain ⟨h', v, a1, a2, a3⟩ := r_ir4 hB h0 n0 n1 r (a + 1) (by omega) b3 (fun a' b' ha' hb' => by
        by_cases w : a' = a
        · subst w; exact b4 b' hb'
        · exact I a' b' (by omega) hb')
      exact ⟨h', v, a1, b2.trans a2, a3⟩
theorem r_isRead (hB : isB t) {h : AH} (R : RTr h t) : ∃ h' v, E (d + 5) 94 [.ref 189] h = some (some (.int (nI v)), h') ∧ Fr [3649] [237, 238, 239] h h' ∧ RTr h' t ∧ (v = 1 ∧ RGd h' t ∨ v = 0 ∧ RdN t) := by
  have R' := R
  obtain ⟨hs, K, T, M, MM⟩ := R
  have ul : uN t ≤ 11 := by
    have := List.length_filter_le (uB t) (List.range 11)
    rw [List.length_range] at this
    exact this
  have e0 : E (d + 5) 94 [.ref 189] h = Q (d + 4) 94 4 [some (.ref 189), some (.int (nI (uN t))), some (.int (nI 11)), none, none] [] h := by
    rw [t_94 hs]; exact r_ct hs T 11 0 rfl
  rw [e0, t_94_4 hs, if_neg (by decide)]
  by_cases q4 : 4 < uN t
  · rw [if_pos (nI_lt q4 (by omega))]
    exact ⟨h, 0, rfl, Fr.rfl, R', Or.inr ⟨rfl, Or.inl q4⟩⟩
  rw [if_neg (nI_nlt (by omega) (by decide))]
  obtain ⟨g, v, M', b1, b2, b3, b4, b5⟩ := r_tries (d := d) (E := uB t) (a := nI 11) (b := nI 11) hB (fun p hp => by
    constructor
    · exact Or.inl
    · rintro (q | q | q)
      · exact q
      · have := (nI_eq (by omega) (by decide)).mp q; omega
      · have := (nI_eq (by omega) (by decide)).mp q; omega) (show (lsE (uB t) 11).length ≤ 4 from by unfold uN at q4; omega) hs K T MM
  have Rg := R'.go b2 b3
  rw [b1, cK_v, t_94_48 Rg.1]
  have one : ∀ {g : AH} {x3 : Nat}, RTr g t → x3 ≤ 11 → Q (d + 4) 94 99 [some (.ref 189), some (.int (nI (uN t))), some (.int (nI 1)), some (.int (nI x3)), none] [] g = some (some (.int (nI 1)), g) := fun {g x3} Rg hx => by
    rw [t_94_99 Rg.1]
    by_cases q : x3 < 11
    · rw [if_pos (nI_lt q (by decide)), if_neg (by decide), if_pos (by decide)]
    · rw [if_neg (nI_nlt (by omega) (by omega)), if_pos (by decide)]
  rcases b5 with ⟨rfl, W, c1, c2⟩ | ⟨rfl, c1⟩
  · refine ⟨g, 1, ?_, b2, Rg, Or.inl ⟨rfl, uN t, W, ⟨by omega, Or.inl ⟨rfl, c1⟩⟩, b4, by omega, c2⟩⟩
    rw [t_94_51 Rg.1, if_pos (by decide), if_neg (by decide), one Rg (Nat.zero_le _)]
  · by_cases q2 : uN t ≤ 2
    · obtain ⟨g2, v, d1, d2, d3, d4⟩ := r_ir1 (d := d) hB q2 c1 11 0 rfl Rg (fun a' ha' => absurd ha' (Nat.not_lt_zero _))
      rw [d1]
      rcases d4 with ⟨rfl, d4⟩ | ⟨rfl, d4⟩
      · exact ⟨g2, 1, one d3 (Nat.zero_le _), b2.trans d2, d3, Or.inl ⟨rfl, d4⟩⟩
      · by_cases q0 : uN t = 0
        · have al := all0 q0
          rw [q0]
          obtain ⟨g3, v, f1, f2, f3, f4⟩ := r_ir4 (d := d) hB q0 c1 (fun i hi => d4 i hi (al i hi)) 11 0 rfl d3 (fun a' b' ha' => absurd ha' (Nat.not_lt_zero _))
          exact ⟨g3, v, f1, (b2.trans d2).trans f2, f3, f4⟩
        · refine ⟨g2, 0, ?_, b2.trans d2, d3, Or.inr ⟨rfl, Or.inr ⟨c1, fun _ => d4, fun z => absurd z q0⟩⟩⟩
          rw [t_94_99 d3.1, if_pos (by decide), if_pos rfl, if_neg (by rw [nI_eq (by omega) (by decide)]; exact q0), if_pos (by decide)]
    · refine ⟨g, 0, ?_, b2, Rg, Or.inr ⟨rfl, Or.inr ⟨c1, fun z => absurd z q2, fun z => by omega⟩⟩⟩
      rw [t_94_51 Rg.1, if_pos (by decide), if_pos rfl, if_neg (nI_nlt (by omega) (by omega)), t_94_99 Rg.1, if_pos (by decide), if_pos rfl, if_neg (by rw [nI_eq (by omega) (by decide)]; omega), if_pos (by decide)]
theorem r_cpy {T : Nat → Nat} : ∀ (r p : Nat) {h : AH}, r + p = 11 → Sh h → (∀ q, q < 11 → gA h 237 q = nI (T q)) → (∀ q, q < p → gA h 240 q = nI (T q)) → ∃ h', Q d 92 38 [some (.ref 189), some (.int (nI p)), none, none] [] h = Q d 92 38 [some (.ref 189), some (.int (nI 11)), none, none] [] h' ∧ Fr [] [240] h h' ∧ ∀ q, q < 11 → gA h' 240 q = nI (T q)
  | 0, p, h, e, hs, R, I => by
    have : p = 11 := by omega
    subst this
    exact ⟨h, rfl, Fr.rfl, I⟩
  | r + 1, p, h, e, hs, R, I => by
    have hp : p < 11 := by omega
    have f1 : Fr [] [240] h (sA h 240 p (nI (T p))) := Fr.rfl.sA (by decide)
    obtain ⟨h', a1, a2, a3⟩ := r_cpy (T := T) r (p + 1) (by omega) (f1.sh hs) (fun q hq => by rw [f1.A (by decide)]; exact R q hq) (fun q hq => by
      rw [gA_s]
      by_cases w : q = p
      · rw [w, up1_s]
      · rw [up1_x w]; exact I q (by omega))
    refine ⟨h', ?_, f1.trans a2, a3⟩
    rw [t_92_38 hs, if_pos (nI_lt hp (by decide)), gd_nI hp (by decide), gd_nI hp (by decide), ix_nI (by omega), R p hp, nI_add]
    exact a1
theorem r_cmp {T S : Nat → Nat} {x1 : Int32} {h : AH} (hs : Sh h) (hS : ∀ q, q < 7 → gA h 237 q = nI (S q) ∧ S q < 64) (hT : ∀ q, q < 11 → gA h 240 q = nI (T q) ∧ T q < 64) : ∀ (r p : Nat), r + p = 7 → ((∀ q, p ≤ q → q < 7 → S q = T q) → Q d 92 99 [some (.ref 189), some (.int x1), some (.int (nI 1)), some (.int (nI p))] [] h = some (some (.int x1), h)) ∧ ((¬ ∀ q, p ≤ q → q < 7 → S q = T q) → Q d 92 99 [some (.ref 189), some (.int x1), some (.int (nI 1)), some (.int (nI p))] [] h = some (some (.int (-2)), h))
  | 0, p, e => ⟨fun _ => by rw [t_92_99 hs, if_neg (nI_nlt (by omega) (by omega)), if_neg (by decide)], fun q => absurd (fun i h1 h2 => by omega) q⟩
  | r + 1, p, e => by
    have hp : p < 7 := by omega
    obtain ⟨i1, i2⟩ := r_cmp (x1 := x1) hs hS hT r (p + 1) (by omega)
    obtain ⟨s1, s2⟩ := hS p hp
    obtain ⟨t1, t2⟩ := hT p (by omega)
    have z : ∀ (r p : Nat), r + p = 7 → Q d 92 99 [some (.ref 189), some (.int x1), some (.int (nI 0)), some (.int (nI p))] [] h = some (some (.int (-2)), h) := by
      intro r
      induction r with
      | zero => intro p e; rw [t_92_99 hs, if_neg (nI_nlt (by omega) (by omega)), if_pos rfl]
      | succ r ih =>
        intro p e
        rw [t_92_99 hs, if_pos (nI_lt (by omega) (by decide)), if_pos rfl, nI_add]
        exact ih (p + 1) (by omega)
    have st : Q d 92 99 [some (.ref 189), some (.int x1), some (.int (nI 1)), some (.int (nI p))] [] h = if S p = T p then Q d 92 99 [some (.ref 189), some (.int x1), some (.int (nI 1)), some (.int (nI (p + 1)))] [] h else some (some (.int (-2)), h) := by
      rw [t_92_99 hs, if_pos (nI_lt hp (by decide)), if_neg (by decide), gd_nI (by omega) (by decide), gd_nI (by omega) (by decide), ix_nI (by omega), s1, t1, nI_add]
      simp only [show (nI (S p) = nI (T p)) = (S p = T p) from propext (nI_eq (by omega) (by omega))]
      rw [z r (p + 1) (by omega)]
    rw [st]
    by_cases q : S p = T p
    · rw [if_pos q]
      refine ⟨fun z => i1 fun i h1 h2 => z i (by omega) h2, fun z => i2 fun z' => z fun i h1 h2 => ?_⟩
      by_cases w : i = p
      · rw [w]; exact q
      · exact z' i (by omega) h2
    · rw [if_neg q]
      exact ⟨fun z => absurd (z p (Nat.le_refl _) hp) q, fun _ => rfl⟩
end RRE
section RRF
variable {d : Nat} {h : AH} {bk : Bk} {s : St} {t : Tp} {v : Nat}
abbrev KRd : List Nat := [3586, 3590, 3591, 3649, 3653]
abbrev XRd : List Nat := [237, 238, 239, 240, 241]
theorem r_read (hs : Sh h) (W : WB bk) (w : WS bk s) (R : RS1 h s) (T : RT h t) (K : KP h) {M : Nat → Nat → Nat} (MM : MRt h M) {fd ff md : Int32} (F : RF h fd ff md) : ∃ h' r M', E (d + 6) 92 [.ref 189] h = some (some (.int r.1), h') ∧ RdR s t md r ∧ gI h' 3586 189 = nI 0 ∧ Fr KRd XRd h h' ∧ RT h' (0, t.2) ∧ RF h' fd ff r.2 ∧ MRt h' M' := by
  have wz := w.1
  obtain ⟨g0, g0E⟩ : ∃ g, g = sI h 3586 189 (nI 0) := ⟨_, rfl⟩
  have f0 : Fr KRd [] h g0 := by rw [g0E]; exact Fr.rfl.sI (by decide)
  have s0 := f0.sh hs
  have T0 : RT g0 t := ⟨by rw [g0E, gI_k (by decide)]; exact T.1, T.2.1, fun i hi => by rw [f0.A List.not_mem_nil]; exact T.2.2 i hi⟩
  obtain ⟨g1, g1E⟩ : ∃ g, g = sI (sI g0 3591 189 (gI g0 3590 189)) 3590 189 (nI 0) := ⟨_, rfl⟩
  have f1 : Fr KRd [] h g1 := by rw [g1E]; exact (f0.sI (by decide)).sI (by decide)
  have s1 := f1.sh hs
  have T1 : RTk g1 t := by rw [g1E]; exact RT.tk T0
  obtain ⟨g2, v2, a1, a2, a3⟩ := r_takeB (d := d + 4) s1 T1
  have f2 : Fr KRd XRd h g2 := (f1.wk (fun _ q => q) (by decide)).trans (a2.wk (by decide) (by decide))
  have s2 := f2.sh hs
  have kk : ∀ k, k ∉ [3586, 3590, 3591] → gI g2 k 189 = gI h k 189 := fun k hk => by
    simp only [List.mem_cons, List.not_mem_nil, or_false, not_or] at hk
    rw [a2.I List.not_mem_nil, g1E, gI_k hk.2.1, gI_k hk.2.2, g0E, gI_k hk.1]
  have t2 : gI g2 3586 189 = nI 0 := by rw [a2.I List.not_mem_nil, g1E, gI_k (by decide), gI_k (by decide), g0E, gI_s]
  have z2 : gI g2 3590 189 = nI 0 := by rw [a2.I List.not_mem_nil, g1E, gI_s]
  have F2 : RF g2 fd ff md := by
    unfold RF at F ⊢
    rw [kk _ (by decide), kk _ (by decide), kk _ (by decide)]; exact F
  have MM2 : MRt g2 M := fun j k hj hk => by rw [a2.A (by decide), f1.A List.not_mem_nil]; exact MM j k hj hk
  have e0 : E (d + 6) 92 [.ref 189] h = Q (d + 5) 92 13 [some (.ref 189), none, none, none] [.int (nI v2)] g2 := by
    rw [t_92 hs, ← g0E, t_36 s0, cK_n, ← g1E, t_92_9 s1, a1, cK_v]
  rw [e0, t_92_13 s2]
  rcases a3 with ⟨rfl, hB, TT⟩ | ⟨rfl, nB⟩
  · rw [if_neg (by decide)]
    have K2 : KP g2 := (K.fr f1 List.not_mem_nil List.not_mem_nil).fr a2 (by decide) (by decide)
    obtain ⟨g3, v3, b1, b2, b3, b4⟩ := r_isRead (d := d) hB (⟨s2, K2, TT, M, MM2⟩ : RTr g2 t)
    have f3 : Fr KRd XRd h g3 := f2.trans (b2.wk (by decide) (by decide))
    have s3 := b3.1
    rw [b1, cK_v, t_92_23 s3]
    rcases b4 with ⟨rfl, m, Y, c1, c2, c3, c4⟩ | ⟨rfl, c1⟩
    · rw [if_neg (by decide), c2]
      have hY : ∀ p, p < 11 → Y p < 64 := by
        rcases c1.2 with ⟨-, q⟩ | ⟨-, -, -, i, -, -, q⟩ | ⟨-, -, -, i, j, -, -, -, q⟩
        · exact q.1
        · exact q.1
        · exact q.1
      obtain ⟨g4, g4E⟩ : ∃ g, g = sI g3 3653 189 (nI m) := ⟨_, rfl⟩
      have f34 : Fr [3653] [] g3 g4 := by rw [g4E]; exact Fr.rfl.sI (by decide)
      have s4 := f34.sh s3
      obtain ⟨g5, d1, d2, d3⟩ := r_cpy (d := d + 5) (T := Y) 11 0 rfl s4 (fun q hq => by rw [f34.A List.not_mem_nil]; exact c4 q hq) (fun q hq => absurd hq (Nat.not_lt_zero _))
      have s5 := d2.sh s4
      have f5 : Fr KRd XRd h g5 := (f3.trans (f34.wk (by decide) (by decide))).trans (d2.wk (by decide) (by decide))
      have r54 : gI g5 3654 189 = nI (zN s 2) := by rw [f5.I (by decide)]; exact R.1
      obtain ⟨M3, MM3⟩ := b3.2.2.2
      have MM5 : MRt g5 M3 := fun j k hj hk => by rw [d2.A (by decide), f34.A List.not_mem_nil]; exact MM3 j k hj hk
      have i5 : ∀ k, k ≠ 3649 → k ≠ 3653 → gI g5 k 189 = gI g2 k 189 := fun k h1 h2 => by
        rw [d2.I List.not_mem_nil, f34.I (by rw [List.mem_singleton]; exact h2), b2.I (by rw [List.mem_singleton]; exact h1)]
      have F5 : RF g5 fd ff (nI m) := by
        obtain ⟨y1, y2, y3⟩ := F2
        exact ⟨by rw [i5 _ (by decide) (by decide)]; exact y1, by rw [i5 _ (by decide) (by decide)]; exact y2, by rw [d2.I List.not_mem_nil, g4E, gI_s]⟩
      have lt3 := hY 3 (by decide)
      have lt4 := hY 4 (by decide)
      have e5 : Q (d + 5) 92 38 [some (.ref 189), some (.int (nI 0)), none, none] [] g4 = if nI (64 * Y 3 + Y 4) < nI (zN s 2) then cK (E (d + 5) 87 [.ref 189, .int (nI (64 * Y 3 + Y 4))] g5) (Q (d + 5) 92 95 [some (.ref 189), some (.int (nI (64 * Y 3 + Y 4))), none, none]) [] else some (some (.int (-2)), g5) := by
        rw [d1, t_92_38 s5, if_neg (by decide), d3 3 (by decide), d3 4 (by decide), r54, pk_mul, nI_add]
      rw [← g4E, e5]
      by_cases q : 64 * Y 3 + Y 4 < zN s 2
      · rw [if_pos (nI_lt q (by omega))]
        have R5 : RS1 g5 s := by
          unfold RS1 at R ⊢
          rw [f5.I (by decide), f5.I (by decide), f5.I (by decide), f5.I (by decide), f5.A (by decide), f5.A (by decide), f5.A (by decide), f5.A (by decide), f5.A (by decide), f5.A (by decide), f5.A (by decide), f5.A (by decide), f5.A (by decide), f5.A (by decide), f5.A (by decide), f5.A (by decide)]
          exact R
        obtain ⟨g6, x1, x2, x3⟩ := r_tell (d := d + 4) s5 w W R5 q
        have s6 := x2.sh s5
        have w8 := W.1.2.2.1
        obtain ⟨u0, u1, u2, u3, u4, -⟩ := w.2.2.2.1 _ q
        obtain ⟨o1, o2⟩ := r_cmp (d := d + 5) (T := Y) (S := sgB s (64 * Y 3 + Y 4)) (x1 := nI (64 * Y 3 + Y 4)) s6 (fun q hq => ⟨x3 q hq, sgB_lt (by omega) u4 (by omega) u2 q⟩) (fun q hq => ⟨by rw [x2.A (by decide)]; exact d3 q hq, hY q hq⟩) 7 0 rfl
        refine ⟨g6, (itA2 s Y, nI m), M3, ?_, Or.inr ⟨hB, Or.inr ⟨m, Y, c1, rfl⟩⟩, ?_, f5.trans (x2.wk (by decide) (by decide)), RT.z ?_, ?_, fun j k hj hk => by rw [x2.A (by decide)]; exact MM5 j k hj hk⟩
        · rw [x1, cK_n, t_92_95 s6]
          unfold itA2
          by_cases q7 : ∀ p, p < 7 → sgB s (64 * Y 3 + Y 4) p = Y p
          · rw [o1 (fun p _ hp => q7 p hp), if_pos ⟨q, q7⟩]
          · rw [o2 (fun z => q7 fun p hp => z p (Nat.zero_le _) hp), if_neg (fun z => q7 z.2)]
        · rw [x2.I List.not_mem_nil, i5 _ (by decide) (by decide)]; exact t2
        · rw [x2.I List.not_mem_nil, i5 _ (by decide) (by decide)]; exact z2
        · unfold RF at F5 ⊢
          rw [x2.I List.not_mem_nil, x2.I List.not_mem_nil, x2.I List.not_mem_nil]; exact F5
      · rw [if_neg (nI_nlt (by omega) (by omega))]
        refine ⟨g5, (itA2 s Y, nI m), M3, ?_, Or.inr ⟨hB, Or.inr ⟨m, Y, c1, rfl⟩⟩, ?_, f5, RT.z ?_, F5, MM5⟩
        · unfold itA2; rw [if_neg (fun z => q z.1)]
        · rw [i5 _ (by decide) (by decide)]; exact t2
        · rw [i5 _ (by decide) (by decide)]; exact z2
    · rw [if_pos rfl]
      obtain ⟨M3, MM3⟩ := b3.2.2.2
      have i3 : ∀ k, k ≠ 3649 → gI g3 k 189 = gI g2 k 189 := fun k h1 => by rw [b2.I (by rw [List.mem_singleton]; exact h1)]
      refine ⟨g3, (-1, md), M3, rfl, Or.inr ⟨hB, Or.inl ⟨c1, rfl⟩⟩, ?_, f3, RT.z ?_, ?_, MM3⟩
      · rw [i3 _ (by decide)]; exact t2
      · rw [i3 _ (by decide)]; exact z2
      · unfold RF at F2 ⊢
        rw [i3 _ (by decide), i3 _ (by decide), i3 _ (by decide)]; exact F2
  · rw [if_pos rfl]
    exact ⟨g2, (-3, md), M, rfl, Or.inl ⟨nB, rfl⟩, t2, f2, RT.z z2, F2, MM2⟩
end RRF
