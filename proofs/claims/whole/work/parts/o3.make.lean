/-! ===== RUN: statements on both sides: make ===== -/
theorem lN_nlt {l : Int64} {a : Nat} (ha : a < 2 ^ 31 - 1) (h0 : ¬ l < 0) (h1 : ¬ lN a < l) : ∃ z, z ≤ a ∧ l = lN z := by
  obtain ⟨z, z1, z2⟩ := spot_in (z := a + 1) h0 (by
    rw [nI_l (by omega)]
    rw [Int64.lt_iff_toInt_lt, lN_toInt (by omega)] at h1 ⊢
    omega) (by omega)
  exact ⟨z, by omega, z2⟩
section MAK
variable {c : CXm} {M N d k k' D T p n a t f z kk : Nat} {hc hr h h0 h1 hc' hr' : AH} {L : Cds} {w l : Int64} {x : Int32} {st : St} {G Cp : Nat → Nat → Nat}
def hldR (h : AH) (x : Int32) : Prop := ∃ t, t < 12 ∧ gA h 284 t = x
theorem r_162 (hs : Sh h) (x : Int32) : ∀ m j b, j + m = 12 → ∃ b' : Bool, Q n 162 4 [some (.ref 189), some (.int x), some (.int (nI (if b = true then 1 else 0))), some (.int (nI j))] [] h = some (some (.int (nI (if b' = true then 1 else 0))), h) ∧ (b' = true ↔ b = true ∨ ∃ t, j ≤ t ∧ t < 12 ∧ gA h 284 t = x)
  | 0, j, b, e => by
    refine ⟨b, ?_, fun z => Or.inl z, fun z => z.elim (fun z => z) fun ⟨t, h1, h2, _⟩ => by omega⟩
    rw [t_162_4 hs, if_neg (nI_nlt (by omega) (by omega))]
    cases b
    · rw [if_pos (show nI (if false = true then 1 else 0) = 0 ∨ nI (if false = true then 1 else 0) = 1 from Or.inl rfl)]
    · rw [if_pos (show nI (if true = true then 1 else 0) = 0 ∨ nI (if true = true then 1 else 0) = 1 from Or.inr rfl)]
  | m + 1, j, b, e => by
    rw [t_162_4 hs, if_pos (nI_lt (by omega) (by decide))]
    cases b with
    | true =>
      obtain ⟨b', e1, e2⟩ := r_162 hs x m (j + 1) true (by omega)
      rw [if_pos rfl] at e1 ⊢
      rw [if_neg (by decide), nI_add, e1]
      exact ⟨b', rfl, fun z => Or.inl rfl, fun _ => e2.mpr (Or.inl rfl)⟩
    | false =>
      rw [if_neg (show ¬ false = true by decide), if_pos rfl, gd_nI (by omega) (by decide), ix_nI (by omega), nI_add]
      by_cases q : gA h 284 j = x
      · obtain ⟨b', e1, e2⟩ := r_162 hs x m (j + 1) true (by omega)
        rw [if_pos rfl] at e1
        rw [if_pos q, e1]
        exact ⟨b', rfl, fun _ => Or.inr ⟨j, Nat.le_refl _, by omega, q⟩, fun _ => e2.mpr (Or.inl rfl)⟩
      · obtain ⟨b', e1, e2⟩ := r_162 hs x m (j + 1) false (by omega)
        rw [if_neg (show ¬ false = true by decide)] at e1
        rw [if_neg q, e1]
        refine ⟨b', rfl, fun z => ?_, fun z => ?_⟩
        · rcases e2.mp z with w | ⟨t, h1, h2, h3⟩
          · cases w
          · exact Or.inr ⟨t, by omega, h2, h3⟩
        · rcases z with w | ⟨t, h1, h2, h3⟩
          · cases w
          · refine e2.mpr (Or.inr ⟨t, ?_, h2, h3⟩)
            by_cases y : t = j
            · subst y; exact absurd h3 q
            · omega
theorem no13 (q : ∀ r, r < 13 → hldR h (nI r)) : False := by
  have q' : ∀ r : Nat, ∃ t, r < 13 → t < 12 ∧ gA h 284 t = nI r := fun r => by
    by_cases hr : r < 13
    · obtain ⟨t, h1, h2⟩ := q r hr
      exact ⟨t, fun _ => ⟨h1, h2⟩⟩
    · exact ⟨0, fun z => absurd z hr⟩
  obtain ⟨F, hF⟩ : ∃ F : Nat → Nat, ∀ r, r < 13 → F r < 12 ∧ gA h 284 (F r) = nI r := ⟨fun r => Classical.choose (q' r), fun r hr => Classical.choose_spec (q' r) hr⟩
  have nd : ((List.range 13).map F).Nodup := by
    refine List.pairwise_map.mpr (List.Pairwise.imp_of_mem (R := fun a b => a ≠ b) ?_ List.nodup_range)
    intro a b ha hb ne e
    have h1 := hF a (List.mem_range.mp ha)
    have h2 := hF b (List.mem_range.mp hb)
    rw [e, h2.2] at h1
    exact ne ((nI_eq (by have := List.mem_range.mp hb; omega) (by have := List.mem_range.mp ha; omega)).mp h1.2).symm
  have := nd_len 12 _ nd fun x hx => by
    obtain ⟨r, r1, r2⟩ := List.mem_map.mp hx
    rw [← r2]; exact (hF r (List.mem_range.mp r1)).1
  rw [List.length_map, List.length_range] at this
  exact absurd this (by decide)
/-- the first row that no tray holds -/
theorem r_free (hs : Sh h) {x1 x4 : Int32} {x2 : Int64} : ∀ m j f, j + m = 13 → f ≤ j → (∀ r, r < f → hldR h (nI r)) → (f < j → ¬ hldR h (nI f)) → ∃ f', f' < 13 ∧ ¬ hldR h (nI f') ∧ Q (n + 1) 160 65 [some (.ref 189), some (.int x1), some (.long x2), none, some (.int x4), some (.int (nI f)), some (.int (nI j))] [] h = Q (n + 1) 160 65 [some (.ref 189), some (.int x1), some (.long x2), none, some (.int x4), some (.int (nI f')), some (.int (nI 13))] [] h
  | 0, j, f, e, hf, q1, q2 => by
    obtain rfl : j = 13 := by omega
    have : f ≠ 13 := fun z => no13 fun r hr => q1 r (by omega)
    exact ⟨f, by omega, q2 (by omega), rfl⟩
  | m + 1, j, f, e, hf, q1, q2 => by
    obtain ⟨b, e1, e2⟩ := r_162 (n := n) hs (nI f) 12 0 false (by omega)
    rw [if_neg (show ¬ false = true by decide)] at e1
    have e3 : (b = true ↔ hldR h (nI f)) := by
      rw [e2]
      constructor
      · rintro (w | ⟨t, -, h2, h3⟩)
        · cases w
        · exact ⟨t, h2, h3⟩
      · rintro ⟨t, h2, h3⟩; exact Or.inr ⟨t, Nat.zero_le _, h2, h3⟩
    rw [t_160_65 hs, if_pos (nI_lt (by omega) (by decide)), t_162 hs, e1, cK_v, t_160_78 hs, nI_add, nI_add]
    cases b with
    | true =>
      rw [if_pos rfl, if_neg (by decide)]
      have hh := e3.mp rfl
      have fj : f = j := Classical.byContradiction fun z => q2 (by omega) hh
      exact r_free hs m (j + 1) (f + 1) (by omega) (by omega) (fun r hr => by
        by_cases y : r = f
        · subst y; exact hh
        · exact q1 r (by omega)) (fun z => by omega)
    | false =>
      rw [if_neg (show ¬ false = true by decide), if_pos rfl]
      have hh : ¬ hldR h (nI f) := fun z => by have := e3.mpr z; cases this
      exact r_free hs m (j + 1) f (by omega) (by omega) q1 (fun _ => hh)
def filV (k : Nat) : Int64 := if k < 9 then 0 else -1
/-- the new places are filled: the component -/
theorem c_fil {p1 z : Nat} (hp : p1 + z ≤ 2000) (hk : kk ≤ 12) : ∀ m j (h : AH), j + m = z → Sh h → gI h 1551 175 = nI p1 → ∃ h', Q n 366 37 [some (.ref 175), none, some (.int (nI kk)), some (.int (nI z)), some (.int (nI j))] [] h = some (none, sI (sI (sI h' 1551 175 (nI (p1 + z))) 1554 175 ((gI h' 1554 175) + (nI z))) 1552 175 ((gI h' 1552 175) + (nI 1))) ∧ Fr [] [182] h h' ∧ ∀ i, gB h' 182 i = if p1 + j ≤ i ∧ i < p1 + z then filV kk else gB h 182 i
  | 0, j, h, e, hs, e1 => by
    refine ⟨h, ?_, Fr.rfl, fun i => by rw [if_neg (by omega)]⟩
    rw [t_366_37 hs, if_neg (nI_nlt (by omega) (by omega)), e1, nI_add]
  | m + 1, j, h, e, hs, e1 => by
    have fb : Fr [] [182] h (sB h 182 (p1 + j) (filV kk)) := Fr.rfl.sB (by decide)
    obtain ⟨h', a1, a2, a3⟩ := c_fil hp hk m (j + 1) (sB h 182 (p1 + j) (filV kk)) (by omega) hs.sB (by rw [fb.I List.not_mem_nil]; exact e1)
    refine ⟨h', ?_, fb.trans a2, fun i => ?_⟩
    · rw [t_366_37 hs, if_pos (nI_lt (by omega) (by omega)), e1, nI_add, gd_nI (by omega) (by decide), ix_nI (by omega), nI_add, ← a1]
      unfold filV
      by_cases q : kk < 9
      · rw [if_pos (nI_lt q (by decide)), if_pos q]
      · rw [if_neg (nI_nlt (by omega) (by omega)), gd_nI (by omega) (by decide), if_neg q]
    · rw [a3, gB_s]
      unfold up1
      by_cases q : i = p1 + j
      · rw [if_neg (by omega), if_pos q, if_pos (by omega)]
      · rw [if_neg q]
        by_cases q2 : p1 + (j + 1) ≤ i ∧ i < p1 + z
        · rw [if_pos q2, if_pos (by omega)]
        · rw [if_neg q2, if_neg (by omega)]
/-- the new places are filled: the reference -/
theorem r_fil {p1 p2 z q : Nat} (hp : p1 + z ≤ 2000) (hk : kk ≤ 12) (ht : t < 12) : ∀ m j (h : AH), j + m = z → Sh h → gI h 3717 189 = nI p1 → gI h 3718 189 = nI p2 → ∃ h', Q n 160 129 [some (.ref 189), some (.int (nI kk)), some (.long (lN z)), none, some (.int (nI t)), some (.int (nI q)), some (.int (nI j))] [] h = some (none, sA (sI (sI h' 3717 189 (nI (p1 + z))) 3718 189 (nI (p2 + z))) 284 t (nI q)) ∧ Fr [] [288] h h' ∧ ∀ i, gB h' 288 i = if p1 + j ≤ i ∧ i < p1 + z then filV kk else gB h 288 i
  | 0, j, h, e, hs, e1, e2 => by
    refine ⟨h, ?_, Fr.rfl, fun i => by rw [if_neg (by omega)]⟩
    have nz : ¬ lg_cmp (nI j).toInt64 (lN z) < nI 0 := fun w => by
      rw [c_lt, nI_l (by omega), Int64.lt_iff_toInt_lt, lN_toInt (by omega), lN_toInt (by omega)] at w; omega
    rw [t_160_129 hs, if_neg nz, gd_nI ht (by decide), ix_nI (by omega), lN_32, e1, e2, nI_add, nI_add]
  | m + 1, j, h, e, hs, e1, e2 => by
    have fb : Fr [] [288] h (sB h 288 (p1 + j) (filV kk)) := Fr.rfl.sB (by decide)
    obtain ⟨h', a1, a2, a3⟩ := r_fil (q := q) hp hk ht m (j + 1) (sB h 288 (p1 + j) (filV kk)) (by omega) hs.sB (by rw [fb.I List.not_mem_nil]; exact e1) (by rw [fb.I List.not_mem_nil]; exact e2)
    have yz : lg_cmp (nI j).toInt64 (lN z) < nI 0 := by
      rw [c_lt, nI_l (by omega), Int64.lt_iff_toInt_lt, lN_toInt (by omega), lN_toInt (by omega)]; omega
    refine ⟨h', ?_, fb.trans a2, fun i => ?_⟩
    · rw [t_160_129 hs, if_pos yz, e1, nI_add, gd_nI (by omega) (by decide), ix_nI (by omega), nI_add, ← a1]
      unfold filV
      by_cases q : kk < 9
      · rw [if_neg (nI_nlt (by omega) (by omega)), gd_nI (by omega) (by decide), if_pos q]
      · rw [if_pos (nI_lt (by omega) (by omega)), if_neg q]
    · rw [a3, gB_s]
      unfold up1
      by_cases q : i = p1 + j
      · rw [if_neg (by omega), if_pos q, if_pos (by omega)]
      · rw [if_neg q]
        by_cases q2 : p1 + (j + 1) ≤ i ∧ i < p1 + z
        · rw [if_pos q2, if_pos (by omega)]
        · rw [if_neg q2, if_neg (by omega)]
end MAK
