/-! ===== PROGRAMMES: the component reads the grammar, level by level ===== -/
section PLV
variable {b x0 : Nat} {t : Tp} {M N d k n : Nat} {r : Nat × Nat} {h : AH}
theorem lkE {c : Nat} {k' : Nat} (hc : c < 1000) : (nI (lk t k') = nI c) = (lk t k' = c) := propext (nI_eq (by have := lk_b (t := t) (k := k'); omega) (by omega))
theorem po_10 (ih : PIH b x0 t M N) (hM : ME t M) (h4 : M ≤ 4000) (hx : scX x0) (e : px t (N + 1) 10 d k = some r) (C : SPs h b x0 t k) (hd : d ≤ 20) (hn : ndP 10 d ≤ n) : PO (E n 321 [.ref x0, .int (nI d)] h) h b x0 t k r := by
  have hn : 13 + 5 * (20 - d) ≤ n := hn
  obtain ⟨m, rfl⟩ : ∃ m, n = m + 1 := ⟨n - 1, by omega⟩
  have hs := C.1.1
  have sc := hs.scr hx
  have e : (sq (tk1 t 64 k) fun k => px t N 8 d k) = some r := e
  rw [t_321 hs, ck_ok sc.1]
  obtain ⟨r1, e1, c1⟩ := sq_s e
  refine PO.st C.1.1 (po_take hM h4 C hx (by decide) (by decide) (by decide) (by omega) e1) c1 (fun h' hs' => by rw [t_321_6 hs', if_pos rfl]) fun _ f1 u1 C1 => ?_
  rw [t_321_6 C1.1.1, if_neg (by decide), ck_ok (C1.1.1.scr hx).1]
  refine PO.fin ((ih 8 (d) r1.2 r m u1 f1 C1 (by omega) (by show 12 + 5 * (20 - (d)) ≤ m; omega)).2.2.2.2.2.2.2.1 rfl) C1.1.1 fun v h' hv hs' => ?_
  rw [t_321_14 hs']; exact id_a hv
theorem po_11 (ih : PIH b x0 t M N) (hM : ME t M) (h4 : M ≤ 4000) (hx : scX x0) (e : px t (N + 1) 11 d k = some r) (C : SPs h b x0 t k) (hd : d ≤ 20) (hn : ndP 11 d ≤ n) : PO (E n 323 [.ref x0, .int (nI d)] h) h b x0 t k r := by
  have hn : 16 + 5 * (20 - d) ≤ n := hn
  obtain ⟨m, rfl⟩ : ∃ m, n = m + 1 := ⟨n - 1, by omega⟩
  have hs := C.1.1
  have sc := hs.scr hx
  have e : (sq (px t N 10 d k) fun k => sq (tk1 t 91 k) fun k => sq (px t N 3 d k) fun k => tk1 t 93 k) = some r := e
  rw [t_323 hs, ck_ok sc.1]
  obtain ⟨r3, e3, c3⟩ := sq_s e
  refine PO.st C.1.1 ((ih 10 (d) k r3 m h e3 C (by omega) (by show 13 + 5 * (20 - (d)) ≤ m; omega)).2.2.2.2.2.2.2.2.2.1 rfl) c3 (fun h' hs' => by rw [t_323_5 hs', if_pos rfl]) fun _ f3 u3 C3 => ?_
  rw [t_323_5 C3.1.1, if_neg (by decide), ck_ok (C3.1.1.scr hx).1]
  obtain ⟨r4, e4, c4⟩ := sq_s f3
  refine PO.st C3.1.1 (po_take hM h4 C3 hx (by decide) (by decide) (by decide) (by omega) e4) c4 (fun h' hs' => by rw [t_323_14 hs', if_pos rfl]) fun _ f4 u4 C4 => ?_
  rw [t_323_14 C4.1.1, if_neg (by decide), ck_ok (C4.1.1.scr hx).1]
  obtain ⟨r5, e5, c5⟩ := sq_s f4
  refine PO.st C4.1.1 ((ih 3 (d) r4.2 r5 m u4 e5 C4 (by omega) (by show 15 + 5 * (20 - (d)) ≤ m; omega)).2.2.1 rfl) c5 (fun h' hs' => by rw [t_323_22 hs', if_pos rfl]) fun _ f5 u5 C5 => ?_
  rw [t_323_22 C5.1.1, if_neg (by decide), ck_ok (C5.1.1.scr hx).1]
  refine PO.fin (po_take hM h4 C5 hx (by decide) (by decide) (by decide) (by omega) f5) C5.1.1 fun v h' hv hs' => ?_
  rw [t_323_31 hs']; exact id_a hv
theorem po_3 (ih : PIH b x0 t M N) (hM : ME t M) (h4 : M ≤ 4000) (hx : scX x0) (e : px t (N + 1) 3 d k = some r) (C : SPs h b x0 t k) (hd : d ≤ 20) (hn : ndP 3 d ≤ n) : PO (E n 319 [.ref x0, .int (nI d)] h) h b x0 t k r := by
  have hn : 15 + 5 * (20 - d) ≤ n := hn
  obtain ⟨m, rfl⟩ : ∃ m, n = m + 1 := ⟨n - 1, by omega⟩
  have hs := C.1.1
  have sc := hs.scr hx
  have e : (sq (px t N 4 d k) fun k => if lk t k = 60 ∨ lk t k = 61 then px t N 4 d (k + 1) else some (0, k)) = some r := e
  rw [t_319 hs, ck_ok sc.1]
  obtain ⟨r7, e7, c7⟩ := sq_s e
  refine PO.st C.1.1 ((ih 4 (d) k r7 m h e7 C (by omega) (by show 14 + 5 * (20 - (d)) ≤ m; omega)).2.2.2.1 rfl) c7 (fun h' hs' => by rw [t_319_5 hs', if_pos rfl]) fun _ f7 u7 C7 => ?_
  -- open: 5 u7 C7 f7
  have sc2 := C7.1.1.scr hx
  have rest : lk t r7.2 = 60 ∨ lk t r7.2 = 61 → PO (cK (E m 317 [.ref x0] u7) (Q m 319 32 [some (.ref x0), some (.int (nI d))]) []) u7 b x0 t r7.2 r := fun q => by
    rw [if_pos q] at f7
    have lm := hM.lk (k := r7.2) (by omega)
    refine PO.st (P := True) C7.1.1 (po_push C7 hx (by omega) (by omega) (by omega)) (Or.inl ⟨rfl, trivial⟩) (fun h' hs' => by rw [t_319_32 hs', if_pos rfl]) fun _ _ u8 C8 => ?_
    rw [t_319_32 C8.1.1, if_neg (by decide), ck_ok (C8.1.1.scr hx).1]
    refine PO.fin ((ih 4 (d) _ r m u8 f7 C8 (by omega) (by show 14 + 5 * (20 - (d)) ≤ m; omega)).2.2.2.1 rfl) C8.1.1 fun v h' hv hs' => ?_
    rw [t_319_40 hs']; exact id_a hv
  rw [t_319_5 C7.1.1, if_neg (by decide), ck_ok sc2.1, C7.2.2.2.1.1]
  simp only [lkE (t := t) (k' := r7.2) (show 60 < 1000 by decide), lkE (t := t) (k' := r7.2) (show 61 < 1000 by decide)]
  by_cases q : lk t r7.2 = 60
  · rw [if_pos q, ck_ok sc2.1]; exact rest (Or.inl q)
  · rw [if_neg q, ck_ok sc2.1]
    by_cases q1 : lk t r7.2 = 61
    · rw [if_pos q1, ck_ok sc2.1]; exact rest (Or.inr q1)
    · rw [if_neg q1]
      rw [if_neg (fun z => z.elim q q1)] at f7
      cases f7
      exact ⟨_, rfl, PRs.rf C7⟩
theorem po_4 (ih : PIH b x0 t M N) (hM : ME t M) (h4 : M ≤ 4000) (hx : scX x0) (e : px t (N + 1) 4 d k = some r) (C : SPs h b x0 t k) (hd : d ≤ 20) (hn : ndP 4 d ≤ n) : PO (E n 357 [.ref x0, .int (nI d)] h) h b x0 t k r := by
  have hn : 14 + 5 * (20 - d) ≤ n := hn
  obtain ⟨m, rfl⟩ : ∃ m, n = m + 1 := ⟨n - 1, by omega⟩
  have hs := C.1.1
  have sc := hs.scr hx
  have e : (sq (px t N 6 d k) fun k => px t N 5 d k) = some r := e
  rw [t_357 hs, ck_ok sc.1]
  obtain ⟨r10, e10, c10⟩ := sq_s e
  refine PO.st C.1.1 ((ih 6 (d) k r10 m h e10 C (by omega) (by show 13 + 5 * (20 - (d)) ≤ m; omega)).2.2.2.2.2.1 rfl) c10 (fun h' hs' => by rw [t_357_5 hs', if_pos rfl]) fun _ f10 u10 C10 => ?_
  -- open: 5 u10 C10 f10
  rw [t_357_5 C10.1.1, if_neg (by decide)]
  exact ((ih 5 (d) r10.2 r m u10 f10 C10 (by omega) (by show 13 + 5 * (20 - (d)) ≤ m; omega)).2.2.2.2.1 rfl 0 (Nat.zero_le _))
theorem po_6 (ih : PIH b x0 t M N) (hM : ME t M) (h4 : M ≤ 4000) (hx : scX x0) (e : px t (N + 1) 6 d k = some r) (C : SPs h b x0 t k) (hd : d ≤ 20) (hn : ndP 6 d ≤ n) : PO (E n 380 [.ref x0, .int (nI d)] h) h b x0 t k r := by
  have hn : 13 + 5 * (20 - d) ≤ n := hn
  obtain ⟨m, rfl⟩ : ∃ m, n = m + 1 := ⟨n - 1, by omega⟩
  have hs := C.1.1
  have sc := hs.scr hx
  have e : (sq (px t N 8 d k) fun k => px t N 7 d k) = some r := e
  rw [t_380 hs, ck_ok sc.1]
  obtain ⟨r11, e11, c11⟩ := sq_s e
  refine PO.st C.1.1 ((ih 8 (d) k r11 m h e11 C (by omega) (by show 12 + 5 * (20 - (d)) ≤ m; omega)).2.2.2.2.2.2.2.1 rfl) c11 (fun h' hs' => by rw [t_380_5 hs', if_pos rfl]) fun _ f11 u11 C11 => ?_
  -- open: 5 u11 C11 f11
  rw [t_380_5 C11.1.1, if_neg (by decide)]
  exact ((ih 7 (d) r11.2 r m u11 f11 C11 (by omega) (by show 12 + 5 * (20 - (d)) ≤ m; omega)).2.2.2.2.2.2.1 rfl 0 (Nat.zero_le _))
theorem po_5 (ih : PIH b x0 t M N) (hM : ME t M) (h4 : M ≤ 4000) (hx : scX x0) (e : px t (N + 1) 5 d k = some r) (C : SPs h b x0 t k) (hd : d ≤ 20) (hn : ndP 5 d ≤ n) {i : Nat} (hi : i ≤ k) : PO (Q n 357 12 [some (.ref x0), some (.int (nI d)), some (.int (nI i))] [] h) h b x0 t k r := by
  have hn : 13 + 5 * (20 - d) ≤ n := hn
  have hs := C.1.1
  have sc := hs.scr hx
  have e : (if lk t k = 43 ∨ lk t k = 45 then sq (px t N 6 d (k + 1)) fun k => px t N 5 d k else some (0, k)) = some r := e
  have rest : lk t k = 43 ∨ lk t k = 45 → PO (cK (E n 317 [.ref x0] h) (Q n 357 41 [some (.ref x0), some (.int (nI d)), some (.int (nI i))]) []) h b x0 t k r := fun q => by
    rw [if_pos q] at e
    have lm := hM.lk (k := k) (by omega)
    refine PO.st (P := True) C.1.1 (po_push C hx (by omega) (by omega) (by omega)) (Or.inl ⟨rfl, trivial⟩) (fun h' hs' => by rw [t_357_41 hs', if_pos rfl]) fun _ _ u12 C12 => ?_
    rw [t_357_41 C12.1.1, if_neg (by decide), ck_ok (C12.1.1.scr hx).1]
    obtain ⟨r13, e13, c13⟩ := sq_s e
    obtain ⟨g, ge, gR⟩ := ((ih 6 (d) (k + 1) r13 n u12 e13 C12 (by omega) (by show 13 + 5 * (20 - (d)) ≤ n; omega)).2.2.2.2.2.1 rfl)
    by_cases z : r13.1 = 0
    · rcases c13 with ⟨-, f⟩ | ⟨f, -⟩
      · obtain ⟨kg, Cg, -⟩ := gR.2.2.2 z
        obtain ⟨g2, ge2, gR2⟩ := (ih 5 (d) r13.2 r n g f Cg (by omega) (by show 13 + 5 * (20 - (d)) ≤ n; omega)).2.2.2.2.1 rfl (i + 1) (by have kg : k + 1 ≤ r13.2 := kg; omega)
        refine ⟨g2, ?_, PRs.tr (k1 := r13.2) (by have : r13 = (0, r13.2) := Prod.ext z rfl; rw [← this]; exact gR) gR2⟩
        rw [ge, cK_v, show bz r13.1 = nI 1 from by rw [z]; rfl, t_357_49 Cg.1.1, if_neg (by decide), nI_add]; exact ge2
      · exact absurd z f
    · rcases c13 with ⟨f, -⟩ | ⟨-, f⟩
      · exact absurd f z
      · subst f
        exact ⟨g, by rw [ge, cK_v, bz_n z, t_357_49 (gR.1.sh C12.1.1), if_pos rfl], gR⟩
  have stop : ¬ (lk t k = 43 ∨ lk t k = 45) → PO (some (some (.int (nI 1)), h)) h b x0 t k r := fun q => by
    rw [if_neg q] at e
    cases e
    exact ⟨_, rfl, PRs.rf C⟩
  by_cases i4 : i < 4000
  · rw [t_357_12 hs, if_pos (nI_lt i4 (by decide)), ck_ok sc.1, C.2.2.2.1.1]
    simp only [lkE (t := t) (k' := k) (show 43 < 1000 by decide), lkE (t := t) (k' := k) (show 45 < 1000 by decide)]
    by_cases q0 : lk t k = 43
    · rw [if_pos q0, ck_ok sc.1]; exact rest (by omega)
    rw [if_neg q0, ck_ok sc.1]
    by_cases q1 : lk t k = 45
    · rw [if_pos q1, ck_ok sc.1]; exact rest (by omega)
    rw [if_neg q1]
    exact stop (by omega)
  · have l0 : lk t k = 0 := by
      by_cases z : lk t k = 0
      · exact z
      · have := hM.lk z; omega
    by_cases i5 : nI i < nI 4000
    · rw [t_357_12 hs, if_pos i5, ck_ok sc.1, C.2.2.2.1.1]
      simp only [lkE (t := t) (k' := k) (show 43 < 1000 by decide), lkE (t := t) (k' := k) (show 45 < 1000 by decide)]
      rw [if_neg (show ¬ lk t k = 43 by omega), ck_ok sc.1, if_neg (show ¬ lk t k = 45 by omega)]; exact stop (by omega)
    · rw [t_357_12 hs, if_neg i5]; exact stop (by omega)
theorem po_7 (ih : PIH b x0 t M N) (hM : ME t M) (h4 : M ≤ 4000) (hx : scX x0) (e : px t (N + 1) 7 d k = some r) (C : SPs h b x0 t k) (hd : d ≤ 20) (hn : ndP 7 d ≤ n) {i : Nat} (hi : i ≤ k) : PO (Q n 380 12 [some (.ref x0), some (.int (nI d)), some (.int (nI i))] [] h) h b x0 t k r := by
  have hn : 12 + 5 * (20 - d) ≤ n := hn
  have hs := C.1.1
  have sc := hs.scr hx
  have e : (if lk t k = 42 ∨ lk t k = 47 ∨ lk t k = 37 then sq (px t N 8 d (k + 1)) fun k => px t N 7 d k else some (0, k)) = some r := e
  have rest : lk t k = 42 ∨ lk t k = 47 ∨ lk t k = 37 → PO (cK (E n 317 [.ref x0] h) (Q n 380 50 [some (.ref x0), some (.int (nI d)), some (.int (nI i))]) []) h b x0 t k r := fun q => by
    rw [if_pos q] at e
    have lm := hM.lk (k := k) (by omega)
    refine PO.st (P := True) C.1.1 (po_push C hx (by omega) (by omega) (by omega)) (Or.inl ⟨rfl, trivial⟩) (fun h' hs' => by rw [t_380_50 hs', if_pos rfl]) fun _ _ u14 C14 => ?_
    rw [t_380_50 C14.1.1, if_neg (by decide), ck_ok (C14.1.1.scr hx).1]
    obtain ⟨r15, e15, c15⟩ := sq_s e
    obtain ⟨g, ge, gR⟩ := ((ih 8 (d) (k + 1) r15 n u14 e15 C14 (by omega) (by show 12 + 5 * (20 - (d)) ≤ n; omega)).2.2.2.2.2.2.2.1 rfl)
    by_cases z : r15.1 = 0
    · rcases c15 with ⟨-, f⟩ | ⟨f, -⟩
      · obtain ⟨kg, Cg, -⟩ := gR.2.2.2 z
        obtain ⟨g2, ge2, gR2⟩ := (ih 7 (d) r15.2 r n g f Cg (by omega) (by show 12 + 5 * (20 - (d)) ≤ n; omega)).2.2.2.2.2.2.1 rfl (i + 1) (by have kg : k + 1 ≤ r15.2 := kg; omega)
        refine ⟨g2, ?_, PRs.tr (k1 := r15.2) (by have : r15 = (0, r15.2) := Prod.ext z rfl; rw [← this]; exact gR) gR2⟩
        rw [ge, cK_v, show bz r15.1 = nI 1 from by rw [z]; rfl, t_380_58 Cg.1.1, if_neg (by decide), nI_add]; exact ge2
      · exact absurd z f
    · rcases c15 with ⟨f, -⟩ | ⟨-, f⟩
      · exact absurd f z
      · subst f
        exact ⟨g, by rw [ge, cK_v, bz_n z, t_380_58 (gR.1.sh C14.1.1), if_pos rfl], gR⟩
  have stop : ¬ (lk t k = 42 ∨ lk t k = 47 ∨ lk t k = 37) → PO (some (some (.int (nI 1)), h)) h b x0 t k r := fun q => by
    rw [if_neg q] at e
    cases e
    exact ⟨_, rfl, PRs.rf C⟩
  by_cases i4 : i < 4000
  · rw [t_380_12 hs, if_pos (nI_lt i4 (by decide)), ck_ok sc.1, C.2.2.2.1.1]
    simp only [lkE (t := t) (k' := k) (show 42 < 1000 by decide), lkE (t := t) (k' := k) (show 47 < 1000 by decide), lkE (t := t) (k' := k) (show 37 < 1000 by decide)]
    by_cases q0 : lk t k = 42
    · rw [if_pos q0, ck_ok sc.1]; exact rest (by omega)
    rw [if_neg q0, ck_ok sc.1]
    by_cases q1 : lk t k = 47
    · rw [if_pos q1, ck_ok sc.1]; exact rest (by omega)
    rw [if_neg q1, ck_ok sc.1]
    by_cases q2 : lk t k = 37
    · rw [if_pos q2, ck_ok sc.1]; exact rest (by omega)
    rw [if_neg q2]
    exact stop (by omega)
  · have l0 : lk t k = 0 := by
      by_cases z : lk t k = 0
      · exact z
      · have := hM.lk z; omega
    by_cases i5 : nI i < nI 4000
    · rw [t_380_12 hs, if_pos i5, ck_ok sc.1, C.2.2.2.1.1]
      simp only [lkE (t := t) (k' := k) (show 42 < 1000 by decide), lkE (t := t) (k' := k) (show 47 < 1000 by decide), lkE (t := t) (k' := k) (show 37 < 1000 by decide)]
      rw [if_neg (show ¬ lk t k = 42 by omega), ck_ok sc.1, if_neg (show ¬ lk t k = 47 by omega), ck_ok sc.1, if_neg (show ¬ lk t k = 37 by omega)]; exact stop (by omega)
    · rw [t_380_12 hs, if_neg i5]; exact stop (by omega)
end PLV
