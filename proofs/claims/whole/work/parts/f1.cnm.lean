/-! ===== THE BOOK: who is told already (component) ===== -/
section CNM
variable {d : Nat} {h h' : AH} {b : Nat} {bk : Bk} {G Cp : Nat → Nat → Nat} {t : Tp} {k : Nat}
theorem ofL_u {nm : Nat → Nat} {v n i : Nat} (D : ∀ i j, i < n → j < n → nm i = nm j → i = j) (hi : i < n) (e : nm i = v) : ofL nm v n = some i := by
  cases q : ofL nm v n with
  | none => exact absurd e (ofL_n n q i hi)
  | some j => obtain ⟨a, c⟩ := ofL_b n q; rw [D i j hi a (e.trans c.symm)]
theorem ofL_z {nm : Nat → Nat} {v n : Nat} (D : ∀ i, i < n → nm i ≠ v) : ofL nm v n = none := by
  cases q : ofL nm v n with
  | none => rfl
  | some j => obtain ⟨a, c⟩ := ofL_b n q; exact absurd c (D j a)
theorem c_ofl (hs : Sh h) (X : WX bk) (B : CB h b bk G Cp) {v : Nat} (hv : v < 37 ^ 12) : ∀ (m i : Nat), m + i = bk 0 0 → (∀ j, j < i → bk 1 j ≠ v) → Q (d + 3) 278 2 [some (.ref b), some (.long (lN v)), none, some (.int (nI i))] [] h = some (some (.int (oI (ofL (bk 1) v (bk 0 0)))), h) := by
  intro m
  have c0 := X.1.1.1
  obtain ⟨b1', b2', b3', -, b5', -⟩ := id B
  obtain ⟨e1, A⟩ := b3' 0 (by decide)
  induction m with
  | zero =>
    intro i e hj
    rw [t_278_2 hs, ck_ok b1', e1, Option.bind_some, ck_ok A.1, al_size hs A, cK_v, t_278_10 hs, if_neg (nI_nlt (by omega) (by omega)), ofL_z fun j q => hj j (by omega)]; rfl
  | succ m ih =>
    intro i e hj
    obtain ⟨o1, o2, -⟩ := b5' i (by omega)
    have ob := (X.1.2.1 i (by omega)).2.1
    rw [t_278_2 hs, ck_ok b1', e1, Option.bind_some, ck_ok A.1, al_size hs A, cK_v, t_278_10 hs, if_pos (nI_lt (by omega) (by omega)), ck_ok b1', e1, Option.bind_some, ck_ok A.1, al_get hs A (by omega), cK_v, t_278_21 hs, ck_ok o1, ck_ok o1, o2]
    simp only [l_eq (lt37 ob (by decide)) (lt37 hv (by decide))]
    by_cases q : bk 1 i = v
    · rw [if_pos q, ofL_u X.2.2.2 (by omega) q]; rfl
    · rw [if_neg q, nI_add]
      exact ih (i + 1) (by omega) (fun j hj2 => by
        by_cases w : j = i
        · rw [w]; exact q
        · exact hj j (by omega))
theorem c_of (hs : Sh h) (X : WX bk) (B : CB h b bk G Cp) {v : Nat} (hv : v < 37 ^ 12) : E (d + 4) 278 [.ref b, .long (lN v)] h = some (some (.int (oI (ofL (bk 1) v (bk 0 0)))), h) := by
  rw [t_278 hs]; exact c_ofl hs X B hv _ 0 rfl (fun j hj => absurd hj (by omega))
theorem c_cdl (hs : Sh h) (X : WX bk) (B : CB h b bk G Cp) {v : Nat} (hv : v < 2 ^ 31) : ∀ (m i : Nat), m + i = bk 0 0 → ∃ r : Nat, Q (d + 3) 281 2 [some (.ref b), some (.int (nI v)), some (.int (nI i))] [] h = some (some (.int (nI r)), h) ∧ (r = 0 ∧ (¬ ∃ j, i ≤ j ∧ j < bk 0 0 ∧ bk 2 j = v) ∨ r = 1 ∧ ∃ j, i ≤ j ∧ j < bk 0 0 ∧ bk 2 j = v) := by
  intro m
  have c0 := X.1.1.1
  obtain ⟨b1', b2', b3', -, b5', -⟩ := id B
  obtain ⟨e1, A⟩ := b3' 0 (by decide)
  induction m with
  | zero =>
    intro i e
    refine ⟨0, ?_, Or.inl ⟨rfl, by rintro ⟨j, a, c, -⟩; omega⟩⟩
    rw [t_281_2 hs, ck_ok b1', e1, Option.bind_some, ck_ok A.1, al_size hs A, cK_v, t_281_10 hs, if_neg (nI_nlt (by omega) (by omega))]
  | succ m ih =>
    intro i e
    obtain ⟨o1, o2, o3, -⟩ := b5' i (by omega)
    have ob := (X.1.2.1 i (by omega)).2.2.2.1
    rw [t_281_2 hs, ck_ok b1', e1, Option.bind_some, ck_ok A.1, al_size hs A, cK_v, t_281_10 hs, if_pos (nI_lt (by omega) (by omega)), ck_ok b1', e1, Option.bind_some, ck_ok A.1, al_get hs A (by omega), cK_v, t_281_21 hs, ck_ok o1, ck_ok o1, o3, ife (by omega) hv]
    by_cases q : bk 2 i = v
    · rw [if_pos q]; exact ⟨1, rfl, Or.inr ⟨rfl, i, Nat.le_refl _, by omega, q⟩⟩
    · rw [if_neg q, nI_add]
      obtain ⟨r, r1, r2⟩ := ih (i + 1) (by omega)
      refine ⟨r, r1, ?_⟩
      rcases r2 with ⟨a, c⟩ | ⟨a, j, c1, c2, c3⟩
      · refine Or.inl ⟨a, ?_⟩
        rintro ⟨j, c1, c2, c3⟩
        by_cases w : j = i
        · rw [w] at c3; exact q c3
        · exact c ⟨j, by omega, c2, c3⟩
      · exact Or.inr ⟨a, j, by omega, c2, c3⟩
theorem c_cd (hs : Sh h) (X : WX bk) (B : CB h b bk G Cp) (hk : tK t k = 3) : E (d + 4) 281 [.ref b, .int (nI (tV t k))] h = some (some (.int (nI (if dpF t k (bk 2) (bk 0 0) 0 = 0 then 0 else 1))), h) := by
  have vb := (tV_b (t := t) (k := k)).2.1 hk
  obtain ⟨r, r1, r2⟩ := c_cdl (d := d) hs X B (v := tV t k) (by omega) _ 0 rfl
  rw [t_281 hs, r1]
  rcases r2 with ⟨a, c⟩ | ⟨a, c⟩
  · rw [dp_f c, if_pos rfl, a]
  · rw [dp_t c, if_neg (fX_n (by decide)), a]
theorem c_svl (hs : Sh h) (X : WX bk) (B : CB h b bk G Cp) {v : Nat} (hv : v < 37 ^ 12) : ∀ (m i : Nat), m + i = bk 0 2 → ∃ r : Nat, Q (d + 3) 290 2 [some (.ref b), some (.long (lN v)), none, some (.int (nI i))] [] h = some (some (.int (nI r)), h) ∧ (r = 0 ∧ (¬ ∃ j, i ≤ j ∧ j < bk 0 2 ∧ bk 17 j = v) ∨ r = 1 ∧ ∃ j, i ≤ j ∧ j < bk 0 2 ∧ bk 17 j = v) := by
  intro m
  have c0 := X.1.1.2.2.1
  obtain ⟨b1', b2', b3', -, -, -, b5', -⟩ := id B
  obtain ⟨e1, A⟩ := b3' 2 (by decide)
  induction m with
  | zero =>
    intro i e
    refine ⟨0, ?_, Or.inl ⟨rfl, by rintro ⟨j, a, c, -⟩; omega⟩⟩
    rw [t_290_2 hs, ck_ok b1', e1, Option.bind_some, ck_ok A.1, al_size hs A, cK_v, t_290_10 hs, if_neg (nI_nlt (by omega) (by omega))]
  | succ m ih =>
    intro i e
    obtain ⟨o1, o2, -⟩ := b5' i (by omega)
    have ob := X.2.2.1 i (by omega)
    rw [t_290_2 hs, ck_ok b1', e1, Option.bind_some, ck_ok A.1, al_size hs A, cK_v, t_290_10 hs, if_pos (nI_lt (by omega) (by omega)), ck_ok b1', e1, Option.bind_some, ck_ok A.1, al_get hs A (by omega), cK_v, t_290_21 hs, ck_ok o1, ck_ok o1, o2]
    simp only [l_eq (lt37 ob (by decide)) (lt37 hv (by decide))]
    by_cases q : bk 17 i = v
    · rw [if_pos q]; exact ⟨1, rfl, Or.inr ⟨rfl, i, Nat.le_refl _, by omega, q⟩⟩
    · rw [if_neg q, nI_add]
      obtain ⟨r, r1, r2⟩ := ih (i + 1) (by omega)
      refine ⟨r, r1, ?_⟩
      rcases r2 with ⟨a, c⟩ | ⟨a, j, c1, c2, c3⟩
      · refine Or.inl ⟨a, ?_⟩
        rintro ⟨j, c1, c2, c3⟩
        by_cases w : j = i
        · rw [w] at c3; exact q c3
        · exact c ⟨j, by omega, c2, c3⟩
      · exact Or.inr ⟨a, j, by omega, c2, c3⟩
theorem c_sv (hs : Sh h) (X : WX bk) (B : CB h b bk G Cp) (hk : tK t k = 2) : E (d + 4) 290 [.ref b, .long (lN (tV t k))] h = some (some (.int (nI (if dpF t k (bk 17) (bk 0 2) 0 = 0 then 0 else 1))), h) := by
  have vb := (tV_b (t := t) (k := k)).1 hk
  obtain ⟨r, r1, r2⟩ := c_svl (d := d) hs X B (v := tV t k) vb _ 0 rfl
  rw [t_290 hs, r1]
  rcases r2 with ⟨a, c⟩ | ⟨a, c⟩
  · rw [dp_f c, if_pos rfl, a]
  · rw [dp_t c, if_neg (fX_n (by decide)), a]
theorem fM_d {nm : Nat → Nat} {m : Nat} : fM t k nm m = st (fm t k) (dpF t k nm m 0) := by
  unfold fM fm
  by_cases q : tK t k = 2
  · rw [if_neg (by rw [q]; decide), if_pos q]
    show _ = dpF t k nm m 0
    by_cases w : ∃ j, 0 ≤ j ∧ j < m ∧ nm j = tV t k
    · rw [dp_t w, if_pos (any_b.mpr (by obtain ⟨j, _, b, c⟩ := w; exact ⟨j, b, c⟩))]
    · rw [dp_f w, if_neg fun y => w (by obtain ⟨j, b, c⟩ := any_b.mp y; exact ⟨j, Nat.zero_le _, b, c⟩)]
  · rw [if_pos q, if_neg q]; unfold st; rw [if_neg (fX_n (by decide))]
theorem fm_0 (h : fm t k = 0) : tK t k = 2 := by
  unfold fm at h
  by_cases q : tK t k = 2
  · exact q
  · rw [if_neg q] at h; exact absurd h (fX_n (by decide))
/-- an office's name is looked for (takesOffice) -/
theorem c_tOf (X : WX bk) (C : CPs h b t k) (B : CB h b bk G Cp) : ∃ h', E (d + 9) 286 [.ref b] h = some (some (.int (bz (fO t (k + 1) (bk 1) (bk 0 0)))), h') ∧ OpR h h' b t (k + 1) (fO t (k + 1) (bk 1) (bk 0 0)) := by
  obtain ⟨h1, a1, a2, a3, a4⟩ := c_tNm (d := d) C
  have c6 := C.2.2.2.2.2.1
  have d6 := a2.2.2.2.2.2.1
  have d7 := a2.2.2.2.2.2.2
  rw [t_286 C.1, ck_ok c6, a1, cK_v, t_286_4 a2.1]
  unfold fO
  by_cases q : tK t (k + 1) = 2
  · have e0 : fm t (k + 1) = 0 := if_pos q
    have hv : gL h1 3078 101 = lN (tV t (k + 1)) := a2.2.2.2.2.1.2.2.1 q
    have B1 : CB h1 b bk G Cp := B.bf C.2.1 (Fr.bf a3) (Nat.le_refl _)
    rw [e0] at a4
    rw [if_pos rfl] at a4
    rw [e0, bz_0, if_neg (by decide), if_neg (by rw [q]; decide), ck_ok d6, d7, Option.bind_some, ck_ok a2.1.t101.1, ck_ok d6, hv, c_of a2.1 X B1 ((tV_b (t := t) (k := k + 1)).1 q), cK_v, t_286_18 a2.1]
    cases e : ofL (bk 1) (tV t (k + 1)) (bk 0 0) with
    | none =>
      obtain ⟨h2, b1', b2, b3, b4⟩ := c_fail (d := d + 7) a2 (c := 2) (by decide)
      rw [if_pos (show oI none = -1 from rfl), ck_ok d6, b1', cK_v, t_286_27 b2.1, if_pos rfl, if_pos rfl, bz_n (fX_n (by decide))]
      exact ⟨h2, rfl, b2, a3.trans b3, by rw [if_neg (fX_n (by decide))]; exact b4⟩
    | some i =>
      have ib := (ofL_b _ e).1
      have c0 := X.1.1.1
      have ne : ¬ oI (some i) = -1 := fun z => by
        have : nI i < nI 0 := by show oI (some i) < nI 0; rw [z]; decide
        exact nI_nlt (by omega) (by omega) this
      rw [if_neg ne, if_neg (by simp)]
      exact ⟨h1, rfl, a2, a3, by rw [if_pos rfl]; exact a4⟩
  · have e0 : fm t (k + 1) = fX t 1 (k + 1) := if_neg q
    rw [e0, bz_n (fX_n (by decide)), if_pos rfl, if_pos q, bz_n (fX_n (by decide))]
    rw [e0] at a4
    exact ⟨h1, rfl, a2, a3, a4⟩
end CNM
