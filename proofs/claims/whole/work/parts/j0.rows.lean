/-! ===== PROGRAMMES: the component reads rows, statements ===== -/
section PLX
variable {b x0 : Nat} {t : Tp} {M N d k n : Nat} {r : Nat × Nat} {h : AH}
theorem px_lt (e : px t N 1 d k = some r) (z : r.1 = 0) : k < r.2 := by
  cases N with
  | zero => cases e
  | succ N =>
    have ih : ∀ tag d, PB t (fun k => px t N tag d k) := fun tag d => (px_b N tag d).1
    have t59 : PB t (fun k => tk1 t 59 k) := PB.tk (by decide) (by decide)
    have st0 : ∀ {f : Nat → Option (Nat × Nat)} {k : Nat} {r : Nat × Nat}, PB t f → lk t k ≠ 123 → lk t k ≠ 125 → f (k + 1) = some r → r.1 = 0 → BLN t k r.2 := fun {f k r} hf h1 h2 e z => (BLN.o h1 h2).t (hf _ _ e z)
    have st : ∀ {f : Nat → Option (Nat × Nat)} {k : Nat} {r : Nat × Nat}, PB t f → lk t k ≠ 123 → lk t k ≠ 125 → f (k + 1) = some r → r.1 = 0 → k < r.2 := fun {f k r} hf h1 h2 e z => (hf _ _ e z).1
    have bad : ∀ {c k : Nat} {r : Nat × Nat}, c ≠ 0 → (some (fX t c k, 0) : Option (Nat × Nat)) = some r → r.1 = 0 → k < r.2 := fun {c k r} hc e z => by cases e; exact absurd z (fX_0 hc)
    have e : pxS t (px t N) d k = some r := e
    unfold pxS at e
    have row : PB t (fun k => if 160 ≤ lk t k ∧ lk t k ≤ 171 then some (0, k + 1) else some (fX t 1 k, 0)) := PB.c (fun k r q e z => by cases e; exact BLN.o (by omega) (by omega)) (PB.x (by decide))
    have opt : ∀ c, c ≠ 123 → c ≠ 125 → PB t (fun k' => if lk t k' = c then px t N 2 d (k' + 1) else some (0, k')) := fun c h1 h2 => PB.c (fun k r q e z => st0 (ih 2 d) (by omega) (by omega) e z) PB.r
    by_cases q : lk t k = 4
    · rw [if_pos q] at e
      exact st (PB.sq (PB.tk (by decide) (by decide)) (PB.sq (ih 3 d) t59)) (by omega) (by omega) e z
    rw [if_neg q] at e
    by_cases q : lk t k = 5
    · rw [if_pos q] at e
      exact st (PB.sq (PB.tk (by decide) (by decide)) (PB.sq (ih 9 d) t59)) (by omega) (by omega) e z
    rw [if_neg q] at e
    by_cases q : lk t k = 128
    · rw [if_pos q] at e
      exact st (PB.sq (ih 10 d) (PB.sq row (PB.sq (ih 3 d) t59))) (by omega) (by omega) e z
    rw [if_neg q] at e
    by_cases q : lk t k = 129
    · rw [if_pos q] at e
      exact st (PB.sq (ih 10 d) t59) (by omega) (by omega) e z
    rw [if_neg q] at e
    by_cases q : lk t k = 130
    · rw [if_pos q] at e
      exact st (PB.sq (ih 10 d) (PB.sq (ih 10 d) t59)) (by omega) (by omega) e z
    rw [if_neg q] at e
    by_cases q : lk t k = 131
    · rw [if_pos q] at e
      exact st (PB.sq (ih 11 d) (PB.sq (ih 3 d) t59)) (by omega) (by omega) e z
    rw [if_neg q] at e
    by_cases q : lk t k = 132
    · rw [if_pos q] at e
      exact st (PB.sq (ih 11 d) (PB.sq (ih 9 d) t59)) (by omega) (by omega) e z
    rw [if_neg q] at e
    by_cases q : lk t k = 133
    · rw [if_pos q] at e
      exact st (PB.sq (ih 10 d) (PB.sq (ih 3 d) (PB.sq (PB.tk (by decide) (by decide)) (PB.sq (ih 10 d) (PB.sq (ih 3 d) (PB.sq (PB.tk (by decide) (by decide)) (PB.sq (ih 3 d) t59))))))) (by omega) (by omega) e z
    rw [if_neg q] at e
    by_cases q : lk t k = 134
    · rw [if_pos q] at e
      exact st (PB.sq (ih 9 d) (PB.sq (PB.tk (by decide) (by decide)) (PB.sq (ih 3 d) t59))) (by omega) (by omega) e z
    rw [if_neg q] at e
    by_cases q : lk t k = 135
    · rw [if_pos q] at e
      exact st (PB.sq (ih 3 d) t59) (by omega) (by omega) e z
    rw [if_neg q] at e
    by_cases q : lk t k = 136
    · rw [if_pos q] at e
      exact st t59 (by omega) (by omega) e z
    rw [if_neg q] at e
    by_cases q : lk t k = 137
    · rw [if_pos q] at e
      exact st (PB.sq (ih 3 d) (PB.sq (ih 2 d) (opt 138 (by decide) (by decide)))) (by omega) (by omega) e z
    rw [if_neg q] at e
    by_cases q : lk t k = 139
    · rw [if_pos q] at e
      exact st (PB.sq (ih 3 d) (ih 2 d)) (by omega) (by omega) e z
    rw [if_neg q] at e
    by_cases q : lk t k = 140
    · rw [if_pos q] at e
      exact st (PB.sq (ih 2 d) (PB.sq (ih 12 d) (opt 142 (by decide) (by decide)))) (by omega) (by omega) e z
    rw [if_neg q] at e
    exact bad (by decide) e z
theorem lk_3 {k' : Nat} (q : lk t k' = 3) : tK t k' = 3 := by
  unfold lk at q
  split at q
  · exfalso
    split at q
    · omega
    · split at q
      · split at q
        · omega
        · split at q <;> omega
      · omega
  · exact q
theorem po_rf (hM : ME t M) (h4 : M ≤ 4000) (hx : scX x0) (e : (if lk t k = 3 ∧ 9 < tV t k then some (fX t 4 k, 0) else tk1 t 3 k) = some r) (C : SPs h b x0 t k) (hn : 10 ≤ n) : PO (E n 359 [.ref x0] h) h b x0 t k r := by
  obtain ⟨m, rfl⟩ : ∃ m, n = m + 1 := ⟨n - 1, by omega⟩
  have hs := C.1.1
  have sc := hs.scr hx
  have tail : tk1 t 3 k = some r → PO (cK (E m 318 [.ref x0, .int (nI 3)] h) (Q m 359 31 [some (.ref x0)]) []) h b x0 t k r := fun e => by
    refine PO.fin (po_take hM h4 C hx (by decide) (by decide) (by decide) (by omega) e) hs fun v h' hv hs' => ?_
    rw [t_359_31 hs']; exact id_b hv
  rw [t_359 hs, ck_ok sc.1, C.2.2.2.1.1]
  simp only [lkE (t := t) (k' := k) (show 3 < 1000 by decide)]
  by_cases q : lk t k = 3
  · have v := C.2.2.2.1.2 (show 3 ≤ lk t k ∧ lk t k ≤ 5 by omega)
    have q3 := lk_3 q
    have lv : lkV t k = tV t k := by unfold lkV; rw [if_pos q3]
    have vb := tV_b.2.1 q3
    rw [if_pos q, ck_ok sc.1, C.2.1, Option.bind_some, ck_ok hs.t101.1, v, lv]
    by_cases q9 : 9 < tV t k
    · rw [if_pos ⟨q, q9⟩] at e
      cases e
      rw [if_pos (nI_lt q9 (by omega)), ck_ok sc.1]
      refine PO.fin (po_failn C hx (by decide) (by omega)) hs fun v h' hv hs' => ?_
      rw [t_359_25 hs']; exact id_b hv
    · rw [if_neg (fun y => q9 y.2)] at e
      rw [if_neg (nI_nlt (by omega) (by omega)), ck_ok sc.1]
      exact tail e
  · rw [if_neg (fun y => q y.1)] at e
    rw [if_neg q, ck_ok sc.1]
    exact tail e
theorem po_row (hM : ME t M) (h4 : M ≤ 4000) (hx : scX x0) (e : (if 160 ≤ lk t k ∧ lk t k ≤ 171 then some (0, k + 1) else some (fX t 1 k, 0)) = some r) (C : SPs h b x0 t k) (hn : 9 ≤ n) : PO (E n 322 [.ref x0] h) h b x0 t k r := by
  obtain ⟨m, rfl⟩ : ∃ m, n = m + 1 := ⟨n - 1, by omega⟩
  have hs := C.1.1
  have sc := hs.scr hx
  have badl : ¬ (160 ≤ lk t k ∧ lk t k ≤ 171) → PO (cK (E m 327 [.ref x0, .int (nI 1)] h) (Q m 322 32 [none]) []) h b x0 t k r := fun q => by
    rw [if_neg q] at e
    cases e
    refine PO.fin (po_failn C hx (by decide) (by omega)) hs fun v h' hv hs' => ?_
    rw [t_322_32 hs']; exact id_b hv
  rw [t_322 hs, ck_ok sc.1, C.2.2.2.1.1]
  simp only [lkL (t := t) (k' := k) (show 160 < 1000 by decide), lkR (t := t) (k' := k) (show 171 < 1000 by decide)]
  by_cases q6 : lk t k < 160
  · rw [if_pos q6, ck_ok sc.1]; exact badl (by omega)
  rw [if_neg q6, ck_ok sc.1]
  by_cases q7 : 171 < lk t k
  · rw [if_pos q7, ck_ok sc.1]; exact badl (by omega)
  rw [if_neg q7, ck_ok sc.1]
  rw [if_pos (by omega)] at e
  cases e
  have lm := hM.lk (k := k) (by omega)
  refine PO.fin (po_push C hx (by omega) (by omega) (by omega)) hs fun v h' hv hs' => ?_
  rw [t_322_24 hs', t_322_32 hs']; exact id_b hv
theorem po_0 (ih : PIH b x0 t M N) (hM : ME t M) (h4 : M ≤ 4000) (hx : scX x0) (e : px t (N + 1) 0 d k = some r) (C : SPs h b x0 t k) (hd : d ≤ 20) (hn : ndP 0 d ≤ n) {o i : Nat} (hi : i < k) (hk : k ≤ M) (hd1 : 1 ≤ d) (ho : o < 4001) : PG (fun j h' => cK (E n 318 [.ref x0, .int (nI 125)] (sA h' (x0 + 2) o (nI j))) (Q n 325 89 [some (.ref x0), none, some (.int (nI o)), none]) []) (Q n 325 39 [some (.ref x0), some (.int (nI (d - 1))), some (.int (nI o)), some (.int (nI i))] [] h) h b x0 t k r := by
  have hn : 20 + 8 * (20 - d) ≤ n := hn
  have hs := C.1.1
  have sc := hs.scr hx
  have xge : 183 ≤ x0 := by rcases hx with q | q <;> omega
  have e : (if lk t k = 125 then some (0, k) else sq (px t N 1 d k) fun k => px t N 0 d k) = some r := e
  rw [t_325_39 hs, if_pos (nI_lt (show i < 4000 by omega) (by decide)), ck_ok sc.1, C.2.2.2.1.1]
  simp only [lkE (t := t) (k' := k) (show 125 < 1000 by decide)]
  by_cases q : lk t k = 125
  · rw [if_pos q] at e
    cases e
    rw [if_pos q, ck_ok sc.1, sc.2.2.1, Option.bind_some, ck_ok sc.1, cw_ok sc.2.2.2.2.2.1 (by omega), sc.2.2.2.2.2.2, gd_nI ho (by decide), ck_ok sc.1, ix_nI (by omega), C.2.2.1]
    exact ⟨h, by rw [if_pos rfl], PRs.rf C⟩
  rw [if_neg q] at e ⊢
  rw [ck_ok sc.1, nI_add, show d - 1 + 1 = d by omega]
  obtain ⟨r1, e1, c1⟩ := sq_s e
  refine PG.st hs ((ih 1 d k r1 n h e1 C hd (by show 20 + 8 * (20 - d) ≤ n; omega)).1 rfl) c1 (fun h' hs' => by rw [t_325_62 hs', if_pos rfl]) fun z f _ u C1 => ?_
  have l1 := px_lt e1 z
  have l2 := px_le hM N 1 d _ _ e1 z hk
  rw [t_325_62 C1.1.1, if_neg (by decide), nI_add]
  exact (ih 0 d r1.2 r n u f C1 hd (by show 20 + 8 * (20 - d) ≤ n; omega)).2.2.2.2.2.2.2.2.2.2.2.1 rfl o (i + 1) (by omega) l2 hd1 ho
theorem po_12 (ih : PIH b x0 t M N) (hM : ME t M) (h4 : M ≤ 4000) (hx : scX x0) (e : px t (N + 1) 12 d k = some r) (C : SPs h b x0 t k) (hd : d ≤ 20) (hn : ndP 12 d ≤ n) {i : Nat} (hi : i ≤ k) : PG (fun j h' => if lk t j = 142 then cK (E n 317 [.ref x0] h') (Q n 326 73 [some (.ref x0), some (.int (nI d)), none]) [] else some (some (.int (nI 1)), h')) (Q n 326 12 [some (.ref x0), some (.int (nI d)), some (.int (nI i))] [] h) h b x0 t k r := by
  have hn : 13 + 8 * (20 - d) ≤ n := hn
  have hs := C.1.1
  have sc := hs.scr hx
  have e : (if lk t k = 141 then (if lk t (k + 1) = 3 ∧ 9 < tV t (k + 1) then some (fX t 4 (k + 1), 0) else sq (tk1 t 3 (k + 1)) fun k => sq (px t N 2 d k) fun k => px t N 12 d k) else some (0, k)) = some r := e
  have stop : ¬ lk t k = 141 → PG (fun j h' => if lk t j = 142 then cK (E n 317 [.ref x0] h') (Q n 326 73 [some (.ref x0), some (.int (nI d)), none]) [] else some (some (.int (nI 1)), h')) (ck (gC h x0) 9 <| if lk t k = 142 then ck (gC h x0) 9 <| cK (E n 317 [.ref x0] h) (Q n 326 73 [some (.ref x0), some (.int (nI d)), none]) [] else some (some (.int (nI 1)), h)) h b x0 t k r := fun q => by
    rw [if_neg q] at e
    cases e
    rw [ck_ok sc.1, ck_ok sc.1]
    exact ⟨h, by rw [if_pos rfl], PRs.rf C⟩
  have i5 : ¬ nI i < nI 4000 → lk t k = 0 := fun y => by
    by_cases z : lk t k = 0
    · exact z
    · have := hM.lk z; exact absurd (nI_lt (show i < 4000 by omega) (by decide)) y
  rw [t_326_12 hs, C.2.2.2.1.1]
  simp only [lkE (t := t) (k' := k) (show 141 < 1000 by decide), lkE (t := t) (k' := k) (show 142 < 1000 by decide)]
  by_cases q : lk t k = 141
  · have lm := hM.lk (k := k) (by omega)
    rw [if_pos (by by_cases y : nI i < nI 4000; exact y; exact absurd (i5 y) (by omega)), ck_ok sc.1, if_pos q, ck_ok sc.1]
    rw [if_pos q] at e
    have e : (sq (if lk t (k + 1) = 3 ∧ 9 < tV t (k + 1) then some (fX t 4 (k + 1), 0) else tk1 t 3 (k + 1)) fun k => sq (px t N 2 d k) fun k => px t N 12 d k) = some r := by
      by_cases y : lk t (k + 1) = 3 ∧ 9 < tV t (k + 1)
      · rw [if_pos y] at e ⊢
        rw [← e]
        unfold sq
        dsimp only
        rw [if_neg (fX_0 (by decide))]
      · rw [if_neg y] at e ⊢; exact e
    refine PG.st (P := True) hs (po_push C hx (by omega) (by omega) (by omega)) (Or.inl ⟨rfl, trivial⟩) (fun h' hs' => by rw [t_326_33 hs', if_pos rfl]) fun _ _ _ u C1 => ?_
    rw [t_326_33 C1.1.1, if_neg (by decide), ck_ok (C1.1.1.scr hx).1]
    obtain ⟨r1, e1, c1⟩ := sq_s e
    refine PG.st C1.1.1 (po_rf hM h4 hx e1 C1 (by omega)) c1 (fun h' hs' => by rw [t_326_40 hs', if_pos rfl]) fun z f y1 u2 C2 => ?_
    have y1 : k + 1 ≤ r1.2 := y1
    rw [t_326_40 C2.1.1, if_neg (by decide), ck_ok (C2.1.1.scr hx).1]
    obtain ⟨r2, e2, c2⟩ := sq_s f
    refine PG.st C2.1.1 ((ih 2 d r1.2 r2 n u2 e2 C2 hd (by show 13 + 8 * (20 - d) ≤ n; omega)).2.1 rfl) c2 (fun h' hs' => by rw [t_326_48 hs', if_pos rfl]) fun z f y2 u3 C3 => ?_
    rw [t_326_48 C3.1.1, if_neg (by decide), nI_add]
    exact (ih 12 d r2.2 r n u3 f C3 hd (by show 13 + 8 * (20 - d) ≤ n; omega)).2.2.2.2.2.2.2.2.2.2.2.2.1 rfl (i + 1) (by omega)
  · have s := stop q
    by_cases y : nI i < nI 4000
    · rw [if_pos y, ck_ok sc.1, if_neg q]; exact s
    · rw [if_neg y]; exact s
theorem po_13 (ih : PIH b x0 t M N) (hM : ME t M) (h4 : M ≤ 4000) (hx : scX x0) (e : px t (N + 1) 13 0 k = some r) (C : SPs h b x0 t k) (hn : ndP 13 0 ≤ n) {i : Nat} (hi : i ≤ k) (hk : k ≤ M) : ∃ h', Q n 210 28 [some (.ref x0), none, some (.int (nI i))] [] h = some (some (.int (nI r.1)), h') ∧ PRs h h' b x0 t k r := by
  have hn : 20 + 8 * (20 - 0) ≤ n := hn
  have hs := C.1.1
  have sc := hs.scr hx
  have e : (if lk t k = 0 then some (0, k) else sq (px t N 1 0 k) fun k => px t N 13 0 k) = some r := e
  rw [t_210_28 hs, C.2.2.2.1.1]
  simp only [lkE (t := t) (k' := k) (show 0 < 1000 by decide)]
  by_cases q : lk t k = 0
  · rw [if_pos q] at e
    cases e
    refine ⟨h, ?_, PRs.rf C⟩
    by_cases y : nI i < nI 4000
    · rw [if_pos y, ck_ok sc.1, if_pos q]
    · rw [if_neg y]
  · have lm := hM.lk q
    rw [if_neg q] at e
    rw [if_pos (nI_lt (show i < 4000 by omega) (by decide)), ck_ok sc.1, if_neg q, ck_ok sc.1]
    obtain ⟨r1, e1, c1⟩ := sq_s e
    obtain ⟨g, ge, R⟩ := (ih 1 0 k r1 n h e1 C (by decide) (by show 20 + 8 * (20 - 0) ≤ n; omega)).1 rfl
    rw [ge, cK_v]
    rcases c1 with ⟨z, f⟩ | ⟨z, f⟩
    · obtain ⟨-, C1, -⟩ := R.2.2.2 z
      have l1 := px_lt e1 z
      have l2 := px_le hM N 1 0 _ _ e1 z hk
      rw [show bz r1.1 = nI 1 by rw [z]; rfl, t_210_47 C1.1.1, if_neg (by decide), nI_add]
      obtain ⟨g2, ge2, R2⟩ := (ih 13 0 r1.2 r n g f C1 (by decide) (by show 20 + 8 * (20 - 0) ≤ n; omega)).2.2.2.2.2.2.2.2.2.2.2.2.2 rfl rfl (i + 1) (by omega) l2
      have q1 : r1 = (0, r1.2) := Prod.ext z rfl
      exact ⟨g2, ge2, PRs.tr (k1 := r1.2) (q1 ▸ R) R2⟩
    · subst f
      have hs' := R.1.sh hs
      refine ⟨g, ?_, R⟩
      rw [bz_n z, t_210_47 hs', if_pos rfl, ck_ok (hs'.scr hx).1, R.2.2.1 z]
theorem po_sl (ih : PIH b x0 t M N) (hM : ME t M) (h4 : M ≤ 4000) (hx : scX x0) (e : (sq (px t N 10 d k) fun k => sq (px t N 3 d k) fun k => sq (tk1 t 44 k) fun k => sq (px t N 10 d k) fun k => sq (px t N 3 d k) fun k => sq (tk1 t 44 k) fun k => sq (px t N 3 d k) fun k => tk1 t 59 k) = some r) (C : SPs h b x0 t k) (hd : d ≤ 20) (hn : 16 + 5 * (20 - d) ≤ n) : PO (E n 324 [.ref x0, .int (nI d)] h) h b x0 t k r := by
  obtain ⟨m, rfl⟩ : ∃ m, n = m + 1 := ⟨n - 1, by omega⟩
  have hs := C.1.1
  have sc := hs.scr hx
  rw [t_324 hs, ck_ok sc.1]
  obtain ⟨r1, e1, c1⟩ := sq_s e
  refine PO.st C.1.1 ((ih 10 (d) k r1 m h e1 C (by omega) (by show 13 + 5 * (20 - (d)) ≤ m; omega)).2.2.2.2.2.2.2.2.2.1 rfl) c1 (fun h' hs' => by rw [t_324_5 hs', if_pos rfl]) fun _ f1 u1 C1 => ?_
  rw [t_324_5 C1.1.1, if_neg (by decide), ck_ok (C1.1.1.scr hx).1]
  obtain ⟨r2, e2, c2⟩ := sq_s f1
  refine PO.st C1.1.1 ((ih 3 (d) r1.2 r2 m u1 e2 C1 (by omega) (by show 15 + 5 * (20 - (d)) ≤ m; omega)).2.2.1 rfl) c2 (fun h' hs' => by rw [t_324_13 hs', if_pos rfl]) fun _ f2 u2 C2 => ?_
  rw [t_324_13 C2.1.1, if_neg (by decide), ck_ok (C2.1.1.scr hx).1]
  obtain ⟨r3, e3, c3⟩ := sq_s f2
  refine PO.st C2.1.1 (po_take hM h4 C2 hx (by decide) (by decide) (by decide) (by omega) e3) c3 (fun h' hs' => by rw [t_324_22 hs', if_pos rfl]) fun _ f3 u3 C3 => ?_
  rw [t_324_22 C3.1.1, if_neg (by decide), ck_ok (C3.1.1.scr hx).1]
  obtain ⟨r4, e4, c4⟩ := sq_s f3
  refine PO.st C3.1.1 ((ih 10 (d) r3.2 r4 m u3 e4 C3 (by omega) (by show 13 + 5 * (20 - (d)) ≤ m; omega)).2.2.2.2.2.2.2.2.2.1 rfl) c4 (fun h' hs' => by rw [t_324_30 hs', if_pos rfl]) fun _ f4 u4 C4 => ?_
  rw [t_324_30 C4.1.1, if_neg (by decide), ck_ok (C4.1.1.scr hx).1]
  obtain ⟨r5, e5, c5⟩ := sq_s f4
  refine PO.st C4.1.1 ((ih 3 (d) r4.2 r5 m u4 e5 C4 (by omega) (by show 15 + 5 * (20 - (d)) ≤ m; omega)).2.2.1 rfl) c5 (fun h' hs' => by rw [t_324_38 hs', if_pos rfl]) fun _ f5 u5 C5 => ?_
  rw [t_324_38 C5.1.1, if_neg (by decide), ck_ok (C5.1.1.scr hx).1]
  obtain ⟨r6, e6, c6⟩ := sq_s f5
  refine PO.st C5.1.1 (po_take hM h4 C5 hx (by decide) (by decide) (by decide) (by omega) e6) c6 (fun h' hs' => by rw [t_324_47 hs', if_pos rfl]) fun _ f6 u6 C6 => ?_
  rw [t_324_47 C6.1.1, if_neg (by decide), ck_ok (C6.1.1.scr hx).1]
  obtain ⟨r7, e7, c7⟩ := sq_s f6
  refine PO.st C6.1.1 ((ih 3 (d) r6.2 r7 m u6 e7 C6 (by omega) (by show 15 + 5 * (20 - (d)) ≤ m; omega)).2.2.1 rfl) c7 (fun h' hs' => by rw [t_324_55 hs', if_pos rfl]) fun _ f7 u7 C7 => ?_
  rw [t_324_55 C7.1.1, if_neg (by decide), ck_ok (C7.1.1.scr hx).1]
  refine PO.fin (po_take hM h4 C7 hx (by decide) (by decide) (by decide) (by omega) f7) C7.1.1 fun v h' hv hs' => ?_
  rw [t_324_64 hs']; exact id_a hv
theorem po_try (ih : PIH b x0 t M N) (hM : ME t M) (h4 : M ≤ 4000) (hx : scX x0) (e : (sq (px t N 2 d k) fun k => sq (px t N 12 d k) fun k => if lk t k = 142 then px t N 2 d (k + 1) else some (0, k)) = some r) (C : SPs h b x0 t k) (hd : d ≤ 20) (hn : 14 + 8 * (20 - d) ≤ n) : PO (E n 326 [.ref x0, .int (nI d)] h) h b x0 t k r := by
  obtain ⟨m, rfl⟩ : ∃ m, n = m + 1 := ⟨n - 1, by omega⟩
  have hs := C.1.1
  have sc := hs.scr hx
  rw [t_326 hs, ck_ok sc.1]
  obtain ⟨r9, e9, c9⟩ := sq_s e
  refine PO.st C.1.1 ((ih 2 (d) k r9 m h e9 C (by omega) (by show 13 + 8 * (20 - (d)) ≤ m; omega)).2.1 rfl) c9 (fun h' hs' => by rw [t_326_5 hs', if_pos rfl]) fun _ f9 u9 C9 => ?_
  rw [t_326_5 C9.1.1, if_neg (by decide)]
  obtain ⟨r10, e10, c10⟩ := sq_s f9
  refine PG.po ((ih 12 (d) r9.2 r10 m u9 e10 C9 (by omega) (by show 13 + 8 * (20 - (d)) ≤ m; omega)).2.2.2.2.2.2.2.2.2.2.2.2.1 rfl 0 (Nat.zero_le _)) c10 fun z f u C9 => ?_
  by_cases q : lk t r10.2 = 142
  · rw [if_pos q] at f ⊢
    have lm := hM.lk (k := r10.2) (by omega)
    refine PO.st (P := True) C9.1.1 (po_push C9 hx (by omega) (by omega) (by omega)) (Or.inl ⟨rfl, trivial⟩) (fun h' hs' => by rw [t_326_73 hs', if_pos rfl]) fun _ _ u8 C8 => ?_
    rw [t_326_73 C8.1.1, if_neg (by decide), ck_ok (C8.1.1.scr hx).1]
    refine PO.fin ((ih 2 (d) _ r m u8 f C8 (by omega) (by show 13 + 8 * (20 - (d)) ≤ m; omega)).2.1 rfl) C8.1.1 fun v h' hv hs' => ?_
    rw [t_326_81 hs']; exact id_a hv
  · rw [if_neg q] at f ⊢
    cases f
    exact ⟨_, rfl, PRs.rf C9⟩
theorem po_else (ih : PIH b x0 t M N) (hM : ME t M) (h4 : M ≤ 4000) (hx : scX x0) (e : (if lk t k = 138 then px t N 2 d (k + 1) else some (0, k)) = some r) (C : SPs h b x0 t k) (hd : d ≤ 20) (hn : 13 + 8 * (20 - d) ≤ n) (u2 : Option Value) : PO (Q n 265 535 [some (.ref x0), some (.int (nI d)), u2] [.int (nI 1)] h) h b x0 t k r := by
  have hs := C.1.1
  have sc := hs.scr hx
  rw [t_265_535 hs, if_neg (by decide), ck_ok sc.1, C.2.2.2.1.1]
  simp only [lkE (t := t) (k' := k) (show 138 < 1000 by decide)]
  by_cases q : lk t k = 138
  · rw [if_pos q] at e ⊢
    have lm := hM.lk (k := k) (by omega)
    rw [ck_ok sc.1]
    refine PO.st (P := True) hs (po_push C hx (by omega) (by omega) (by omega)) (Or.inl ⟨rfl, trivial⟩) (fun h' hs' => by rw [t_265_552 hs', if_pos rfl]) fun _ _ u8 C8 => ?_
    rw [t_265_552 C8.1.1, if_neg (by decide), ck_ok (C8.1.1.scr hx).1]
    refine PO.fin ((ih 2 (d) _ r n u8 e C8 (by omega) (by show 13 + 8 * (20 - (d)) ≤ n; omega)).2.1 rfl) C8.1.1 fun v h' hv hs' => ?_
    rw [t_265_560 hs']; exact id_a hv
  · rw [if_neg q] at e ⊢
    cases e
    exact ⟨_, rfl, PRs.rf C⟩
theorem po_1 (ih : PIH b x0 t M N) (hM : ME t M) (h4 : M ≤ 4000) (hx : scX x0) (e : px t (N + 1) 1 d k = some r) (C : SPs h b x0 t k) (hd : d ≤ 20) (hn : ndP 1 d ≤ n) : PO (E n 265 [.ref x0, .int (nI d)] h) h b x0 t k r := by
  have hn : 20 + 8 * (20 - d) ≤ n := hn
  obtain ⟨m, rfl⟩ : ∃ m, n = m + 1 := ⟨n - 1, by omega⟩
  have hs := C.1.1
  have sc := hs.scr hx
  have e : pxS t (px t N) d k = some r := e
  unfold pxS at e
  rw [t_265 hs, ck_ok sc.1, C.2.2.2.1.1]
  simp only [ck_ok sc.1, lkE (t := t) (k' := k) (show 4 < 1000 by decide), lkE (t := t) (k' := k) (show 5 < 1000 by decide), lkE (t := t) (k' := k) (show 128 < 1000 by decide), lkE (t := t) (k' := k) (show 129 < 1000 by decide), lkE (t := t) (k' := k) (show 130 < 1000 by decide), lkE (t := t) (k' := k) (show 131 < 1000 by decide), lkE (t := t) (k' := k) (show 132 < 1000 by decide), lkE (t := t) (k' := k) (show 133 < 1000 by decide), lkE (t := t) (k' := k) (show 134 < 1000 by decide), lkE (t := t) (k' := k) (show 135 < 1000 by decide), lkE (t := t) (k' := k) (show 136 < 1000 by decide), lkE (t := t) (k' := k) (show 137 < 1000 by decide), lkE (t := t) (k' := k) (show 139 < 1000 by decide), lkE (t := t) (k' := k) (show 140 < 1000 by decide)]
  by_cases q : lk t k = 4
  · rw [if_pos q] at e ⊢
    have lm := hM.lk (k := k) (by omega)
    refine PO.st (P := True) hs (po_push C hx (by omega) (by omega) (by omega)) (Or.inl ⟨rfl, trivial⟩) (fun h' hs' => by rw [t_265_132 hs', if_pos rfl]) fun _ _ u8 C8 => ?_
    rw [t_265_132 C8.1.1, if_neg (by decide), ck_ok (C8.1.1.scr hx).1]
    obtain ⟨r13, e13, c13⟩ := sq_s e
    refine PO.st C8.1.1 (po_take hM h4 C8 hx (by decide) (by decide) (by decide) (by omega) e13) c13 (fun h' hs' => by rw [t_265_141 hs', if_pos rfl]) fun _ f13 u13 C13 => ?_
    rw [t_265_141 C13.1.1, if_neg (by decide), ck_ok (C13.1.1.scr hx).1]
    obtain ⟨r14, e14, c14⟩ := sq_s f13
    refine PO.st C13.1.1 ((ih 3 (d) r13.2 r14 m u13 e14 C13 (by omega) (by show 15 + 5 * (20 - (d)) ≤ m; omega)).2.2.1 rfl) c14 (fun h' hs' => by rw [t_265_149 hs', if_pos rfl]) fun _ f14 u14 C14 => ?_
    rw [t_265_149 C14.1.1, if_neg (by decide), ck_ok (C14.1.1.scr hx).1]
    refine PO.fin (po_take hM h4 C14 hx (by decide) (by decide) (by decide) (by omega) f14) C14.1.1 fun v h' hv hs' => ?_
    rw [t_265_158 hs']; exact id_a hv
  rw [if_neg q] at e ⊢
  clear q
  by_cases q : lk t k = 5
  · rw [if_pos q] at e ⊢
    have lm := hM.lk (k := k) (by omega)
    refine PO.st (P := True) hs (po_push C hx (by omega) (by omega) (by omega)) (Or.inl ⟨rfl, trivial⟩) (fun h' hs' => by rw [t_265_171 hs', if_pos rfl]) fun _ _ u8 C8 => ?_
    rw [t_265_171 C8.1.1, if_neg (by decide), ck_ok (C8.1.1.scr hx).1]
    obtain ⟨r16, e16, c16⟩ := sq_s e
    refine PO.st C8.1.1 (po_take hM h4 C8 hx (by decide) (by decide) (by decide) (by omega) e16) c16 (fun h' hs' => by rw [t_265_180 hs', if_pos rfl]) fun _ f16 u16 C16 => ?_
    rw [t_265_180 C16.1.1, if_neg (by decide), ck_ok (C16.1.1.scr hx).1]
    obtain ⟨r17, e17, c17⟩ := sq_s f16
    refine PO.st C16.1.1 ((ih 9 (d) r16.2 r17 m u16 e17 C16 (by omega) (by show 12 + 5 * (20 - (d)) ≤ m; omega)).2.2.2.2.2.2.2.2.1 rfl) c17 (fun h' hs' => by rw [t_265_188 hs', if_pos rfl]) fun _ f17 u17 C17 => ?_
    rw [t_265_188 C17.1.1, if_neg (by decide), ck_ok (C17.1.1.scr hx).1]
    refine PO.fin (po_take hM h4 C17 hx (by decide) (by decide) (by decide) (by omega) f17) C17.1.1 fun v h' hv hs' => ?_
    rw [t_265_197 hs']; exact id_a hv
  rw [if_neg q] at e ⊢
  clear q
  by_cases q : lk t k = 128
  · rw [if_pos q] at e ⊢
    have lm := hM.lk (k := k) (by omega)
    refine PO.st (P := True) hs (po_push C hx (by omega) (by omega) (by omega)) (Or.inl ⟨rfl, trivial⟩) (fun h' hs' => by rw [t_265_210 hs', if_pos rfl]) fun _ _ u8 C8 => ?_
    rw [t_265_210 C8.1.1, if_neg (by decide), ck_ok (C8.1.1.scr hx).1]
    obtain ⟨r19, e19, c19⟩ := sq_s e
    refine PO.st C8.1.1 ((ih 10 (d) (k + 1) r19 m u8 e19 C8 (by omega) (by show 13 + 5 * (20 - (d)) ≤ m; omega)).2.2.2.2.2.2.2.2.2.1 rfl) c19 (fun h' hs' => by rw [t_265_218 hs', if_pos rfl]) fun _ f19 u19 C19 => ?_
    rw [t_265_218 C19.1.1, if_neg (by decide), ck_ok (C19.1.1.scr hx).1]
    obtain ⟨r20, e20, c20⟩ := sq_s f19
    refine PO.st C19.1.1 (po_row hM h4 hx e20 C19 (by omega)) c20 (fun h' hs' => by rw [t_265_225 hs', if_pos rfl]) fun _ f20 u20 C20 => ?_
    rw [t_265_225 C20.1.1, if_neg (by decide), ck_ok (C20.1.1.scr hx).1]
    obtain ⟨r21, e21, c21⟩ := sq_s f20
    refine PO.st C20.1.1 ((ih 3 (d) r20.2 r21 m u20 e21 C20 (by omega) (by show 15 + 5 * (20 - (d)) ≤ m; omega)).2.2.1 rfl) c21 (fun h' hs' => by rw [t_265_233 hs', if_pos rfl]) fun _ f21 u21 C21 => ?_
    rw [t_265_233 C21.1.1, if_neg (by decide), ck_ok (C21.1.1.scr hx).1]
    refine PO.fin (po_take hM h4 C21 hx (by decide) (by decide) (by decide) (by omega) f21) C21.1.1 fun v h' hv hs' => ?_
    rw [t_265_242 hs']; exact id_a hv
  rw [if_neg q] at e ⊢
  clear q
  by_cases q : lk t k = 129
  · rw [if_pos q] at e ⊢
    have lm := hM.lk (k := k) (by omega)
    refine PO.st (P := True) hs (po_push C hx (by omega) (by omega) (by omega)) (Or.inl ⟨rfl, trivial⟩) (fun h' hs' => by rw [t_265_255 hs', if_pos rfl]) fun _ _ u8 C8 => ?_
    rw [t_265_255 C8.1.1, if_neg (by decide), ck_ok (C8.1.1.scr hx).1]
    obtain ⟨r23, e23, c23⟩ := sq_s e
    refine PO.st C8.1.1 ((ih 10 (d) (k + 1) r23 m u8 e23 C8 (by omega) (by show 13 + 5 * (20 - (d)) ≤ m; omega)).2.2.2.2.2.2.2.2.2.1 rfl) c23 (fun h' hs' => by rw [t_265_263 hs', if_pos rfl]) fun _ f23 u23 C23 => ?_
    rw [t_265_263 C23.1.1, if_neg (by decide), ck_ok (C23.1.1.scr hx).1]
    refine PO.fin (po_take hM h4 C23 hx (by decide) (by decide) (by decide) (by omega) f23) C23.1.1 fun v h' hv hs' => ?_
    rw [t_265_272 hs']; exact id_a hv
  rw [if_neg q] at e ⊢
  clear q
  by_cases q : lk t k = 130
  · rw [if_pos q] at e ⊢
    have lm := hM.lk (k := k) (by omega)
    refine PO.st (P := True) hs (po_push C hx (by omega) (by omega) (by omega)) (Or.inl ⟨rfl, trivial⟩) (fun h' hs' => by rw [t_265_285 hs', if_pos rfl]) fun _ _ u8 C8 => ?_
    rw [t_265_285 C8.1.1, if_neg (by decide), ck_ok (C8.1.1.scr hx).1]
    obtain ⟨r25, e25, c25⟩ := sq_s e
    refine PO.st C8.1.1 ((ih 10 (d) (k + 1) r25 m u8 e25 C8 (by omega) (by show 13 + 5 * (20 - (d)) ≤ m; omega)).2.2.2.2.2.2.2.2.2.1 rfl) c25 (fun h' hs' => by rw [t_265_293 hs', if_pos rfl]) fun _ f25 u25 C25 => ?_
    rw [t_265_293 C25.1.1, if_neg (by decide), ck_ok (C25.1.1.scr hx).1]
    obtain ⟨r26, e26, c26⟩ := sq_s f25
    refine PO.st C25.1.1 ((ih 10 (d) r25.2 r26 m u25 e26 C25 (by omega) (by show 13 + 5 * (20 - (d)) ≤ m; omega)).2.2.2.2.2.2.2.2.2.1 rfl) c26 (fun h' hs' => by rw [t_265_301 hs', if_pos rfl]) fun _ f26 u26 C26 => ?_
    rw [t_265_301 C26.1.1, if_neg (by decide), ck_ok (C26.1.1.scr hx).1]
    refine PO.fin (po_take hM h4 C26 hx (by decide) (by decide) (by decide) (by omega) f26) C26.1.1 fun v h' hv hs' => ?_
    rw [t_265_310 hs']; exact id_a hv
  rw [if_neg q] at e ⊢
  clear q
  by_cases q : lk t k = 131
  · rw [if_pos q] at e ⊢
    have lm := hM.lk (k := k) (by omega)
    refine PO.st (P := True) hs (po_push C hx (by omega) (by omega) (by omega)) (Or.inl ⟨rfl, trivial⟩) (fun h' hs' => by rw [t_265_323 hs', if_pos rfl]) fun _ _ u8 C8 => ?_
    rw [t_265_323 C8.1.1, if_neg (by decide), ck_ok (C8.1.1.scr hx).1]
    obtain ⟨r28, e28, c28⟩ := sq_s e
    refine PO.st C8.1.1 ((ih 11 (d) (k + 1) r28 m u8 e28 C8 (by omega) (by show 16 + 5 * (20 - (d)) ≤ m; omega)).2.2.2.2.2.2.2.2.2.2.1 rfl) c28 (fun h' hs' => by rw [t_265_331 hs', if_pos rfl]) fun _ f28 u28 C28 => ?_
    rw [t_265_331 C28.1.1, if_neg (by decide), ck_ok (C28.1.1.scr hx).1]
    obtain ⟨r29, e29, c29⟩ := sq_s f28
    refine PO.st C28.1.1 ((ih 3 (d) r28.2 r29 m u28 e29 C28 (by omega) (by show 15 + 5 * (20 - (d)) ≤ m; omega)).2.2.1 rfl) c29 (fun h' hs' => by rw [t_265_339 hs', if_pos rfl]) fun _ f29 u29 C29 => ?_
    rw [t_265_339 C29.1.1, if_neg (by decide), ck_ok (C29.1.1.scr hx).1]
    refine PO.fin (po_take hM h4 C29 hx (by decide) (by decide) (by decide) (by omega) f29) C29.1.1 fun v h' hv hs' => ?_
    rw [t_265_348 hs']; exact id_a hv
  rw [if_neg q] at e ⊢
  clear q
  by_cases q : lk t k = 132
  · rw [if_pos q] at e ⊢
    have lm := hM.lk (k := k) (by omega)
    refine PO.st (P := True) hs (po_push C hx (by omega) (by omega) (by omega)) (Or.inl ⟨rfl, trivial⟩) (fun h' hs' => by rw [t_265_361 hs', if_pos rfl]) fun _ _ u8 C8 => ?_
    rw [t_265_361 C8.1.1, if_neg (by decide), ck_ok (C8.1.1.scr hx).1]
    obtain ⟨r31, e31, c31⟩ := sq_s e
    refine PO.st C8.1.1 ((ih 11 (d) (k + 1) r31 m u8 e31 C8 (by omega) (by show 16 + 5 * (20 - (d)) ≤ m; omega)).2.2.2.2.2.2.2.2.2.2.1 rfl) c31 (fun h' hs' => by rw [t_265_369 hs', if_pos rfl]) fun _ f31 u31 C31 => ?_
    rw [t_265_369 C31.1.1, if_neg (by decide), ck_ok (C31.1.1.scr hx).1]
    obtain ⟨r32, e32, c32⟩ := sq_s f31
    refine PO.st C31.1.1 ((ih 9 (d) r31.2 r32 m u31 e32 C31 (by omega) (by show 12 + 5 * (20 - (d)) ≤ m; omega)).2.2.2.2.2.2.2.2.1 rfl) c32 (fun h' hs' => by rw [t_265_377 hs', if_pos rfl]) fun _ f32 u32 C32 => ?_
    rw [t_265_377 C32.1.1, if_neg (by decide), ck_ok (C32.1.1.scr hx).1]
    refine PO.fin (po_take hM h4 C32 hx (by decide) (by decide) (by decide) (by omega) f32) C32.1.1 fun v h' hv hs' => ?_
    rw [t_265_386 hs']; exact id_a hv
  rw [if_neg q] at e ⊢
  clear q
  by_cases q : lk t k = 133
  · rw [if_pos q] at e ⊢
    have lm := hM.lk (k := k) (by omega)
    refine PO.st (P := True) hs (po_push C hx (by omega) (by omega) (by omega)) (Or.inl ⟨rfl, trivial⟩) (fun h' hs' => by rw [t_265_399 hs', if_pos rfl]) fun _ _ u8 C8 => ?_
    rw [t_265_399 C8.1.1, if_neg (by decide), ck_ok (C8.1.1.scr hx).1]
    refine PO.fin (po_sl ih hM h4 hx e C8 hd (by omega)) C8.1.1 fun v h' hv hs' => ?_
    rw [t_265_407 hs']; exact id_a hv
  rw [if_neg q] at e ⊢
  clear q
  by_cases q : lk t k = 134
  · rw [if_pos q] at e ⊢
    have lm := hM.lk (k := k) (by omega)
    refine PO.st (P := True) hs (po_push C hx (by omega) (by omega) (by omega)) (Or.inl ⟨rfl, trivial⟩) (fun h' hs' => by rw [t_265_420 hs', if_pos rfl]) fun _ _ u8 C8 => ?_
    rw [t_265_420 C8.1.1, if_neg (by decide), ck_ok (C8.1.1.scr hx).1]
    obtain ⟨r35, e35, c35⟩ := sq_s e
    refine PO.st C8.1.1 ((ih 9 (d) (k + 1) r35 m u8 e35 C8 (by omega) (by show 12 + 5 * (20 - (d)) ≤ m; omega)).2.2.2.2.2.2.2.2.1 rfl) c35 (fun h' hs' => by rw [t_265_428 hs', if_pos rfl]) fun _ f35 u35 C35 => ?_
    rw [t_265_428 C35.1.1, if_neg (by decide), ck_ok (C35.1.1.scr hx).1]
    obtain ⟨r36, e36, c36⟩ := sq_s f35
    refine PO.st C35.1.1 (po_take hM h4 C35 hx (by decide) (by decide) (by decide) (by omega) e36) c36 (fun h' hs' => by rw [t_265_437 hs', if_pos rfl]) fun _ f36 u36 C36 => ?_
    rw [t_265_437 C36.1.1, if_neg (by decide), ck_ok (C36.1.1.scr hx).1]
    obtain ⟨r37, e37, c37⟩ := sq_s f36
    refine PO.st C36.1.1 ((ih 3 (d) r36.2 r37 m u36 e37 C36 (by omega) (by show 15 + 5 * (20 - (d)) ≤ m; omega)).2.2.1 rfl) c37 (fun h' hs' => by rw [t_265_445 hs', if_pos rfl]) fun _ f37 u37 C37 => ?_
    rw [t_265_445 C37.1.1, if_neg (by decide), ck_ok (C37.1.1.scr hx).1]
    refine PO.fin (po_take hM h4 C37 hx (by decide) (by decide) (by decide) (by omega) f37) C37.1.1 fun v h' hv hs' => ?_
    rw [t_265_454 hs']; exact id_a hv
  rw [if_neg q] at e ⊢
  clear q
  by_cases q : lk t k = 135
  · rw [if_pos q] at e ⊢
    have lm := hM.lk (k := k) (by omega)
    refine PO.st (P := True) hs (po_push C hx (by omega) (by omega) (by omega)) (Or.inl ⟨rfl, trivial⟩) (fun h' hs' => by rw [t_265_467 hs', if_pos rfl]) fun _ _ u8 C8 => ?_
    rw [t_265_467 C8.1.1, if_neg (by decide), ck_ok (C8.1.1.scr hx).1]
    obtain ⟨r39, e39, c39⟩ := sq_s e
    refine PO.st C8.1.1 ((ih 3 (d) (k + 1) r39 m u8 e39 C8 (by omega) (by show 15 + 5 * (20 - (d)) ≤ m; omega)).2.2.1 rfl) c39 (fun h' hs' => by rw [t_265_475 hs', if_pos rfl]) fun _ f39 u39 C39 => ?_
    rw [t_265_475 C39.1.1, if_neg (by decide), ck_ok (C39.1.1.scr hx).1]
    refine PO.fin (po_take hM h4 C39 hx (by decide) (by decide) (by decide) (by omega) f39) C39.1.1 fun v h' hv hs' => ?_
    rw [t_265_484 hs']; exact id_a hv
  rw [if_neg q] at e ⊢
  clear q
  by_cases q : lk t k = 136
  · rw [if_pos q] at e ⊢
    have lm := hM.lk (k := k) (by omega)
    refine PO.st (P := True) hs (po_push C hx (by omega) (by omega) (by omega)) (Or.inl ⟨rfl, trivial⟩) (fun h' hs' => by rw [t_265_497 hs', if_pos rfl]) fun _ _ u8 C8 => ?_
    rw [t_265_497 C8.1.1, if_neg (by decide), ck_ok (C8.1.1.scr hx).1]
    refine PO.fin (po_take hM h4 C8 hx (by decide) (by decide) (by decide) (by omega) e) C8.1.1 fun v h' hv hs' => ?_
    rw [t_265_506 hs']; exact id_a hv
  rw [if_neg q] at e ⊢
  clear q
  by_cases q : lk t k = 137
  · rw [if_pos q] at e ⊢
    have lm := hM.lk (k := k) (by omega)
    refine PO.st (P := True) hs (po_push C hx (by omega) (by omega) (by omega)) (Or.inl ⟨rfl, trivial⟩) (fun h' hs' => by rw [t_265_519 hs', if_pos rfl]) fun _ _ u8 C8 => ?_
    rw [t_265_519 C8.1.1, if_neg (by decide), ck_ok (C8.1.1.scr hx).1]
    obtain ⟨r42, e42, c42⟩ := sq_s e
    refine PO.st C8.1.1 ((ih 3 (d) (k + 1) r42 m u8 e42 C8 (by omega) (by show 15 + 5 * (20 - (d)) ≤ m; omega)).2.2.1 rfl) c42 (fun h' hs' => by rw [t_265_527 hs', if_pos rfl]) fun _ f42 u42 C42 => ?_
    rw [t_265_527 C42.1.1, if_neg (by decide), ck_ok (C42.1.1.scr hx).1]
    obtain ⟨r43, e43, c43⟩ := sq_s f42
    refine PO.st C42.1.1 ((ih 2 (d) r42.2 r43 m u42 e43 C42 (by omega) (by show 13 + 8 * (20 - (d)) ≤ m; omega)).2.1 rfl) c43 (fun h' hs' => by rw [t_265_535 hs', if_pos rfl]) fun _ f43 u43 C43 => ?_
    exact po_else ih hM h4 hx f43 C43 hd (by omega) _
  rw [if_neg q] at e ⊢
  clear q
  by_cases q : lk t k = 139
  · rw [if_pos q] at e ⊢
    have lm := hM.lk (k := k) (by omega)
    refine PO.st (P := True) hs (po_push C hx (by omega) (by omega) (by omega)) (Or.inl ⟨rfl, trivial⟩) (fun h' hs' => by rw [t_265_573 hs', if_pos rfl]) fun _ _ u8 C8 => ?_
    rw [t_265_573 C8.1.1, if_neg (by decide), ck_ok (C8.1.1.scr hx).1]
    obtain ⟨r44, e44, c44⟩ := sq_s e
    refine PO.st C8.1.1 ((ih 3 (d) (k + 1) r44 m u8 e44 C8 (by omega) (by show 15 + 5 * (20 - (d)) ≤ m; omega)).2.2.1 rfl) c44 (fun h' hs' => by rw [t_265_581 hs', if_pos rfl]) fun _ f44 u44 C44 => ?_
    rw [t_265_581 C44.1.1, if_neg (by decide), ck_ok (C44.1.1.scr hx).1]
    refine PO.fin ((ih 2 (d) r44.2 r m u44 f44 C44 (by omega) (by show 13 + 8 * (20 - (d)) ≤ m; omega)).2.1 rfl) C44.1.1 fun v h' hv hs' => ?_
    rw [t_265_589 hs']; exact id_a hv
  rw [if_neg q] at e ⊢
  clear q
  by_cases q : lk t k = 140
  · rw [if_pos q] at e ⊢
    have lm := hM.lk (k := k) (by omega)
    refine PO.st (P := True) hs (po_push C hx (by omega) (by omega) (by omega)) (Or.inl ⟨rfl, trivial⟩) (fun h' hs' => by rw [t_265_602 hs', if_pos rfl]) fun _ _ u8 C8 => ?_
    rw [t_265_602 C8.1.1, if_neg (by decide), ck_ok (C8.1.1.scr hx).1]
    refine PO.fin (po_try ih hM h4 hx e C8 hd (by omega)) C8.1.1 fun v h' hv hs' => ?_
    rw [t_265_610 hs']; exact id_a hv
  rw [if_neg q] at e ⊢
  clear q
  cases e
  refine PO.fin (po_failn C hx (by decide) (by omega)) hs fun v h' hv hs' => ?_
  rw [t_265_624 hs']; exact id_b hv
theorem pih (hM : ME t M) (h4 : M ≤ 4000) (hx : scX x0) : ∀ N, PIH b x0 t M N
  | 0 => fun tag d k r n h e => by cases e
  | N + 1 => fun tag d k r n h e C hd hn => by
    have ih := pih hM h4 hx N
    exact ⟨(fun z => by subst z; exact po_1 ih hM h4 hx e C hd hn), (fun z => by subst z; exact po_2 ih hM h4 hx e C hd hn), (fun z => by subst z; exact po_3 ih hM h4 hx e C hd hn), (fun z => by subst z; exact po_4 ih hM h4 hx e C hd hn), (fun z i hi => by subst z; exact po_5 ih hM h4 hx e C hd hn hi), (fun z => by subst z; exact po_6 ih hM h4 hx e C hd hn), (fun z i hi => by subst z; exact po_7 ih hM h4 hx e C hd hn hi), (fun z => by subst z; exact po_8 ih hM h4 hx e C hd hn), (fun z => by subst z; exact po_9 ih hM h4 hx e C hd hn), (fun z => by subst z; exact po_10 ih hM h4 hx e C hd hn), (fun z => by subst z; exact po_11 ih hM h4 hx e C hd hn), (fun z o i hi hk h1 ho => by subst z; exact po_0 ih hM h4 hx e C hd hn hi hk h1 ho), (fun z i hi => by subst z; exact po_12 ih hM h4 hx e C hd hn hi), (fun z z2 i hi hk => by subst z; subst z2; exact po_13 ih hM h4 hx e C hn hi hk)⟩
end PLX
