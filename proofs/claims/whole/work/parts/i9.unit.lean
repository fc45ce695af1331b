/-! ===== PROGRAMMES: the component reads units, items, blocks ===== -/
section PLW
variable {b x0 : Nat} {t : Tp} {M N d k n : Nat} {r : Nat × Nat} {h : AH}
theorem lkL {c : Nat} {k' : Nat} (hc : c < 1000) : (nI (lk t k') < nI c) = (lk t k' < c) := propext (nI_ltI (by have := lk_b (t := t) (k := k'); omega) (by omega))
theorem lkR {c : Nat} {k' : Nat} (hc : c < 1000) : (nI c < nI (lk t k')) = (c < lk t k') := propext (nI_ltI (by omega) (by have := lk_b (t := t) (k := k'); omega))
theorem c_bgU (C : SPs h b x0 t k) (hx : scX x0) (hn : 1 ≤ n) : E n 381 [.ref x0] h = some (some (.int (if lk t k = 3 ∨ lk t k = 4 ∨ lk t k = 40 ∨ lk t k = 45 ∨ 143 ≤ lk t k ∧ lk t k ≤ 153 then nI 1 else nI 0)), h) := by
  obtain ⟨m, rfl⟩ : ∃ m, n = m + 1 := ⟨n - 1, by omega⟩
  have hs := C.1.1
  have sc := hs.scr hx
  rw [t_381 hs, ck_ok sc.1, C.2.2.2.1.1]
  simp only [lkE (t := t) (k' := k) (show 3 < 1000 by decide), lkE (t := t) (k' := k) (show 4 < 1000 by decide), lkE (t := t) (k' := k) (show 40 < 1000 by decide), lkE (t := t) (k' := k) (show 45 < 1000 by decide), lkL (t := t) (k' := k) (show 143 < 1000 by decide), lkR (t := t) (k' := k) (show 153 < 1000 by decide), ck_ok sc.1]
  by_cases q : lk t k = 3
  · rw [if_pos q, if_pos (Or.inl q)]
  rw [if_neg q]
  by_cases q1 : lk t k = 4
  · rw [if_pos q1, if_pos (Or.inr (Or.inl q1))]
  rw [if_neg q1]
  by_cases q2 : lk t k = 40
  · rw [if_pos q2, if_pos (Or.inr (Or.inr (Or.inl q2)))]
  rw [if_neg q2]
  by_cases q3 : lk t k = 45
  · rw [if_pos q3, if_pos (Or.inr (Or.inr (Or.inr (Or.inl q3))))]
  rw [if_neg q3]
  by_cases q4 : lk t k < 143
  · rw [if_pos q4, if_neg (by omega)]
  rw [if_neg q4]
  by_cases q5 : 153 < lk t k
  · rw [if_pos q5, if_neg (by omega)]
  · rw [if_neg q5, if_pos (by omega)]
theorem po_8 (ih : PIH b x0 t M N) (hM : ME t M) (h4 : M ≤ 4000) (hx : scX x0) (e : px t (N + 1) 8 d k = some r) (C : SPs h b x0 t k) (hd : d ≤ 20) (hn : ndP 8 d ≤ n) : PO (E n 358 [.ref x0, .int (nI d)] h) h b x0 t k r := by
  have hn : 12 + 5 * (20 - d) ≤ n := hn
  obtain ⟨m, rfl⟩ : ∃ m, n = m + 1 := ⟨n - 1, by omega⟩
  have hs := C.1.1
  have sc := hs.scr hx
  have e : pxU t (px t N) d k = some r := e
  unfold pxU at e
  rw [t_358 hs, ck_ok sc.1, c_bgU C hx (by omega), cK_v]
  by_cases q : lk t k = 3 ∨ lk t k = 4 ∨ lk t k = 40 ∨ lk t k = 45 ∨ 143 ≤ lk t k ∧ lk t k ≤ 153
  · have qq := q
    have lm := hM.lk (k := k) (by omega)
    rw [if_neg (fun z => z qq)] at e
    rw [if_pos q, t_358_4 hs, if_neg (by decide)]
    by_cases q20 : 20 ≤ d
    · rw [if_pos q20] at e
      cases e
      rw [if_neg (nI_nlt q20 (by omega)), ck_ok sc.1]
      refine PO.fin (po_failn C hx (by decide) (by omega)) hs fun v h' hv hs' => ?_
      rw [t_358_24 hs']; exact id_b hv
    rw [if_neg q20] at e
    rw [if_pos (nI_lt (by omega) (by decide)), ck_ok sc.1, ck_ok sc.1, C.2.2.2.1.1]
    obtain ⟨u1, ge1, R1⟩ := po_push (n := m) C hx (by omega) (by omega) (by omega)
    have C1 := (R1.2.2.2 rfl).2.1
    rw [ge1, cK_v]
    refine PO.pre (k1 := k + 1) R1 ?_
    have sg := C1.1.1.scr hx
    rw [t_358_34 C1.1.1]
    simp only [nI_add, ck_ok sg.1, lkE (t := t) (k' := k) (show 40 < 1000 by decide), lkE (t := t) (k' := k) (show 45 < 1000 by decide), lkE (t := t) (k' := k) (show 143 < 1000 by decide), lkE (t := t) (k' := k) (show 144 < 1000 by decide), lkE (t := t) (k' := k) (show 145 < 1000 by decide), lkE (t := t) (k' := k) (show 146 < 1000 by decide), lkE (t := t) (k' := k) (show 147 < 1000 by decide), lkE (t := t) (k' := k) (show 148 < 1000 by decide), lkE (t := t) (k' := k) (show 149 < 1000 by decide), lkE (t := t) (k' := k) (show 150 < 1000 by decide)]
    by_cases a0 : lk t k = 40
    · rw [if_pos a0] at e ⊢
      obtain ⟨r2, e2, c2⟩ := sq_s e
      refine PO.st C1.1.1 ((ih 3 (d + 1) (k + 1) r2 m u1 e2 C1 (by omega) (by show 15 + 5 * (20 - (d + 1)) ≤ m; omega)).2.2.1 rfl) c2 (fun h' hs' => by rw [t_358_135 hs', if_pos rfl]) fun _ f2 u2 C2 => ?_
      rw [t_358_135 C2.1.1, if_neg (by decide), ck_ok (C2.1.1.scr hx).1]
      refine PO.fin (po_take hM h4 C2 hx (by decide) (by decide) (by decide) (by omega) f2) C2.1.1 fun v h' hv hs' => ?_
      rw [t_358_144 hs']; exact id_a hv
    rw [if_neg a0] at e ⊢
    by_cases a1 : lk t k = 45
    · rw [if_pos a1] at e ⊢
      refine PO.fin ((ih 8 (d + 1) (k + 1) r m u1 e C1 (by omega) (by show 12 + 5 * (20 - (d + 1)) ≤ m; omega)).2.2.2.2.2.2.2.1 rfl) C1.1.1 fun v h' hv hs' => ?_
      rw [t_358_160 hs']; exact id_b hv
    rw [if_neg a1] at e ⊢
    by_cases a2 : lk t k = 143 ∨ lk t k = 144
    · rw [if_pos a2] at e
      have E0 : PO (cK (E m 321 [.ref x0, .int (nI (d + 1))] u1) (Q m 358 168 [some (.ref x0), some (.int (nI d)), some (.int (nI (lk t k)))]) []) u1 b x0 t (k + 1) r := by
        refine PO.fin ((ih 10 (d + 1) (k + 1) r m u1 e C1 (by omega) (by show 13 + 5 * (20 - (d + 1)) ≤ m; omega)).2.2.2.2.2.2.2.2.2.1 rfl) C1.1.1 fun v h' hv hs' => ?_
        rw [t_358_168 hs']; exact id_b hv
      by_cases a3 : lk t k = 143
      · rw [if_pos a3]; exact E0
      · rw [if_neg a3, if_pos (by omega)]; exact E0
    rw [if_neg a2] at e
    rw [if_neg (by omega), if_neg (by omega)]
    by_cases a4 : lk t k = 145
    · rw [if_pos a4] at e ⊢
      refine PO.fin ((ih 11 (d + 1) (k + 1) r m u1 e C1 (by omega) (by show 16 + 5 * (20 - (d + 1)) ≤ m; omega)).2.2.2.2.2.2.2.2.2.2.1 rfl) C1.1.1 fun v h' hv hs' => ?_
      rw [t_358_176 hs']; exact id_b hv
    rw [if_neg a4] at e ⊢
    by_cases a5 : 146 ≤ lk t k ∧ lk t k ≤ 150
    · rw [if_pos a5] at e
      have E0 : PO (cK (E m 320 [.ref x0, .int (nI (d + 1))] u1) (Q m 358 184 [some (.ref x0), some (.int (nI d)), some (.int (nI (lk t k)))]) []) u1 b x0 t (k + 1) r := by
        refine PO.fin ((ih 9 (d + 1) (k + 1) r m u1 e C1 (by omega) (by show 12 + 5 * (20 - (d + 1)) ≤ m; omega)).2.2.2.2.2.2.2.2.1 rfl) C1.1.1 fun v h' hv hs' => ?_
        rw [t_358_184 hs']; exact id_b hv
      by_cases w0 : lk t k = 146
      · rw [if_pos w0]; exact E0
      rw [if_neg w0]
      by_cases w1 : lk t k = 147
      · rw [if_pos w1]; exact E0
      rw [if_neg w1]
      by_cases w2 : lk t k = 148
      · rw [if_pos w2]; exact E0
      rw [if_neg w2]
      by_cases w3 : lk t k = 149
      · rw [if_pos w3]; exact E0
      rw [if_neg w3]
      rw [if_pos (by omega)]; exact E0
    rw [if_neg a5] at e
    rw [if_neg (by omega), if_neg (by omega), if_neg (by omega), if_neg (by omega), if_neg (by omega)]
    cases e
    exact ⟨_, rfl, PRs.rf C1⟩
  · have qq : ¬ (lk t k = 3 ∨ lk t k = 4 ∨ lk t k = 40 ∨ lk t k = 45 ∨ 143 ≤ lk t k ∧ lk t k ≤ 153) := q
    rw [if_pos qq] at e
    cases e
    rw [if_neg q, t_358_4 hs, if_pos rfl, ck_ok sc.1]
    refine PO.fin (po_failn C hx (by decide) (by omega)) hs fun v h' hv hs' => ?_
    rw [t_358_12 hs']; exact id_b hv
theorem po_9 (ih : PIH b x0 t M N) (hM : ME t M) (h4 : M ≤ 4000) (hx : scX x0) (e : px t (N + 1) 9 d k = some r) (C : SPs h b x0 t k) (hd : d ≤ 20) (hn : ndP 9 d ≤ n) : PO (E n 320 [.ref x0, .int (nI d)] h) h b x0 t k r := by
  have hn : 12 + 5 * (20 - d) ≤ n := hn
  obtain ⟨m, rfl⟩ : ∃ m, n = m + 1 := ⟨n - 1, by omega⟩
  have hs := C.1.1
  have sc := hs.scr hx
  have e : pxI t (px t N) d k = some r := e
  unfold pxI at e
  have body : lk t k = 5 ∨ 154 ≤ lk t k ∧ lk t k ≤ 159 → PO (if nI d < nI 20 then ck (gC h x0) 9 <| ck (gC h x0) 9 <| cK (E m 317 [.ref x0] h) (Q m 320 55 [some (.ref x0), some (.int (nI d)), some (.int (nI (lk t k)))]) [] else ck (gC h x0) 9 <| cK (E m 327 [.ref x0, .int (nI 5)] h) (Q m 320 45 [some (.ref x0), some (.int (nI d)), none]) []) h b x0 t k r := fun q => by
    have lm := hM.lk (k := k) (by omega)
    rw [if_neg (fun z => z q)] at e
    by_cases q20 : 20 ≤ d
    · rw [if_pos q20] at e
      cases e
      rw [if_neg (nI_nlt q20 (by omega)), ck_ok sc.1]
      refine PO.fin (po_failn C hx (by decide) (by omega)) hs fun v h' hv hs' => ?_
      rw [t_320_45 hs']; exact id_b hv
    rw [if_neg q20] at e
    rw [if_pos (nI_lt (by omega) (by decide)), ck_ok sc.1, ck_ok sc.1]
    obtain ⟨u8, ge8, R8⟩ := po_push (n := m) C hx (by omega) (by omega) (by omega)
    have C8 := (R8.2.2.2 rfl).2.1
    rw [ge8, cK_v]
    refine PO.pre (k1 := k + 1) R8 ?_
    have sg := C8.1.1.scr hx
    rw [t_320_55 C8.1.1]
    simp only [nI_add, ck_ok sg.1, lkE (t := t) (k' := k) (show 5 < 1000 by decide), lkE (t := t) (k' := k) (show 154 < 1000 by decide), lkE (t := t) (k' := k) (show 155 < 1000 by decide), lkE (t := t) (k' := k) (show 156 < 1000 by decide)]
    by_cases a0 : lk t k = 5 ∨ lk t k = 154
    · rw [if_pos a0] at e
      cases e
      have E0 : PO (some (some (.int (nI 1)), u8)) u8 b x0 t (k + 1) (0, k + 1) := ⟨_, rfl, PRs.rf C8⟩
      by_cases a1 : lk t k = 5
      · rw [if_pos a1]; exact E0
      · rw [if_neg a1, if_pos (by omega)]; exact E0
    rw [if_neg a0] at e
    rw [if_neg (by omega), if_neg (by omega)]
    by_cases a1 : lk t k = 155
    · rw [if_pos a1] at e ⊢
      refine PO.fin ((ih 8 (d + 1) (k + 1) r m u8 e C8 (by omega) (by show 12 + 5 * (20 - (d + 1)) ≤ m; omega)).2.2.2.2.2.2.2.1 rfl) C8.1.1 fun v h' hv hs' => ?_
      rw [t_320_109 hs']; exact id_b hv
    rw [if_neg a1] at e ⊢
    by_cases a2 : lk t k = 156
    · rw [if_pos a2] at e ⊢
      refine PO.fin ((ih 11 (d + 1) (k + 1) r m u8 e C8 (by omega) (by show 16 + 5 * (20 - (d + 1)) ≤ m; omega)).2.2.2.2.2.2.2.2.2.2.1 rfl) C8.1.1 fun v h' hv hs' => ?_
      rw [t_320_117 hs']; exact id_b hv
    rw [if_neg a2] at e ⊢
    refine PO.fin ((ih 9 (d + 1) (k + 1) r m u8 e C8 (by omega) (by show 12 + 5 * (20 - (d + 1)) ≤ m; omega)).2.2.2.2.2.2.2.2.1 rfl) C8.1.1 fun v h' hv hs' => ?_
    rw [t_320_125 hs']; exact id_b hv
  have badl : ¬ (lk t k = 5 ∨ 154 ≤ lk t k ∧ lk t k ≤ 159) → PO (cK (E m 327 [.ref x0, .int (nI 1)] h) (Q m 320 33 [some (.ref x0), none, none]) []) h b x0 t k r := fun q => by
    rw [if_pos q] at e
    cases e
    refine PO.fin (po_failn C hx (by decide) (by omega)) hs fun v h' hv hs' => ?_
    rw [t_320_33 hs']; exact id_b hv
  rw [t_320 hs, ck_ok sc.1, C.2.2.2.1.1]
  simp only [lkE (t := t) (k' := k) (show 5 < 1000 by decide), lkL (t := t) (k' := k) (show 154 < 1000 by decide), lkR (t := t) (k' := k) (show 159 < 1000 by decide)]
  by_cases q5 : lk t k = 5
  · rw [if_pos q5]; exact body (Or.inl q5)
  rw [if_neg q5, ck_ok sc.1]
  by_cases q6 : lk t k < 154
  · rw [if_pos q6, ck_ok sc.1]; exact badl (by omega)
  rw [if_neg q6, ck_ok sc.1]
  by_cases q7 : 159 < lk t k
  · rw [if_pos q7, ck_ok sc.1]; exact badl (by omega)
  rw [if_neg q7]; exact body (by omega)
theorem po_2 (ih : PIH b x0 t M N) (hM : ME t M) (h4 : M ≤ 4000) (hx : scX x0) (e : px t (N + 1) 2 d k = some r) (C : SPs h b x0 t k) (hd : d ≤ 20) (hn : ndP 2 d ≤ n) : PO (E n 325 [.ref x0, .int (nI d)] h) h b x0 t k r := by
  have hn : 13 + 8 * (20 - d) ≤ n := hn
  obtain ⟨m, rfl⟩ : ∃ m, n = m + 1 := ⟨n - 1, by omega⟩
  have hs := C.1.1
  have sc := hs.scr hx
  have e0 := e
  have e : (if ¬ lk t k = 123 then some (fX t 1 k, 0) else if 20 ≤ d then some (fX t 5 k, 0) else sq (px t N 0 (d + 1) (k + 1)) fun k => some (0, k + 1)) = some r := e
  rw [t_325 hs, ck_ok sc.1, C.2.2.2.1.1]
  simp only [lkE (t := t) (k' := k) (show 123 < 1000 by decide)]
  by_cases q : lk t k = 123
  · have lm := hM.lk (k := k) (by omega)
    rw [if_neg (fun z => z q)] at e
    rw [if_pos q]
    by_cases q20 : 20 ≤ d
    · rw [if_pos q20] at e
      cases e
      rw [if_neg (nI_nlt q20 (by omega)), ck_ok sc.1]
      refine PO.fin (po_failn C hx (by decide) (by omega)) hs fun v h' hv hs' => ?_
      rw [t_325_26 hs']; exact id_b hv
    rw [if_neg q20] at e
    rw [if_pos (nI_lt (by omega) (by decide)), ck_ok sc.1, ck_ok sc.1, C.2.2.1]
    obtain ⟨g, ge, G1, G2, G3⟩ : ∃ h', E m 317 [.ref x0] h = some (some (.int (nI 1)), h') ∧ FrP x0 h h' ∧ (∀ i, i < k → gA h' (x0 + 2) i = gA h (x0 + 2) i) ∧ SPs h' b x0 t (k + 1) := by
      obtain ⟨mm, rfl⟩ : ∃ d, m = d + 8 := ⟨m - 8, by omega⟩
      exact c_push C hx (by omega)
    rw [ge, cK_v, t_325_36 G3.1.1]
    obtain ⟨r1, e1, c1⟩ := sq_s e
    obtain ⟨u, ue, U⟩ := (ih 0 (d + 1) (k + 1) r1 m g e1 G3 (by omega) (by show 20 + 8 * (20 - (d + 1)) ≤ m; omega)).2.2.2.2.2.2.2.2.2.2.2.1 rfl k 0 (by omega) (by omega) (by omega) (by omega)
    rw [show d + 1 - 1 = d by omega] at ue
    rw [ue]
    rcases c1 with ⟨z, c2⟩ | ⟨z, c2⟩
    · rw [if_pos z]
      obtain ⟨u1, u2, u3, u4⟩ := U
      obtain ⟨v1, v2, v3⟩ := u4 z
      have sv := v2.1.1.scr hx
      cases c2
      have b0 := (px_b N 0 (d + 1)).2 rfl _ _ e1 z
      have b1 := (px_b N 0 (d + 1)).1 _ _ e1 z
      have le := px_le hM N 0 (d + 1) _ _ e1 z (by omega)
      obtain ⟨mt, -⟩ := BLN.b q b1 b0
      -- the place of the end
      obtain ⟨j, hj⟩ : ∃ j, j = r1.2 := ⟨_, rfl⟩
      rw [← hj] at v1 v2 v3 b0 le mt ⊢
      have f1 : Fr [] (XSc x0) u (sA u (x0 + 2) k (nI j)) := Fr.rfl.sA (by simp)
      have C1 : SPs (sA u (x0 + 2) k (nI j)) b x0 t j := by
        obtain ⟨w1, w2, w3, w4, w5⟩ := v2
        refine ⟨w1.fx f1 (by decide) (fun x hx' => ?_), w2, w3, w4, fun i hi => ?_⟩
        · simp only [List.mem_cons, List.not_mem_nil, or_false] at hx'
          rcases hx with y | y <;> omega
        · obtain ⟨y1, y2⟩ := w5 i hi
          refine ⟨by rw [gA_k (by omega)]; exact y1, fun y => ?_⟩
          rw [gA_s]
          by_cases ik : i = k
          · exfalso; subst ik; rw [q] at y; revert y; decide
          · rw [up1_x ik]; exact y2 y
      have lj := hM.lk (k := j) (by omega)
      obtain ⟨a, ae, A1, A2, A3, A4⟩ := po_take (r := (0, j + 1)) (n := m) hM h4 C1 hx (c := 125) (by decide) (by decide) (by decide) (by omega) (by unfold tk1; rw [if_pos b0])
      obtain ⟨A5, A6, A7⟩ := A4 rfl
      have k2 : ∀ i, i < k → gA a (x0 + 2) i = gA h (x0 + 2) i := fun i hi => by
        rw [A2 i (by omega), gA_s, up1_x (by omega), u2 i (by omega)]; exact G2 i hi
      refine ⟨a, ?_, ((G1.trans u1).trans (FrP.of f1 (by decide) (by decide))).trans A1, k2, fun z => absurd rfl z, fun _ => ⟨by show k ≤ j + 1; omega, A6, fun i i1 i2 i3 => ?_⟩⟩
      · dsimp only
        rw [ae, cK_v, t_325_89 A6.1.1]; exact id_b (Or.inr rfl)
      · have i2 : i < j + 1 := i2
        by_cases ik : i = k
        · subst ik
          exact ⟨j, mt, by rw [A2 i (by omega), gA_s, up1_s]⟩
        · by_cases ij : i = j
          · subst ij; rw [b0] at i3; exact absurd i3 (by decide)
          · obtain ⟨jj, y1, y2⟩ := v3 i (by omega) (by omega) i3
            exact ⟨jj, y1, by rw [A2 i (by omega), gA_s, up1_x ik]; exact y2⟩
    · subst c2
      rw [if_neg z]
      exact ⟨u, by rw [bz_n z], G1.trans U.1, fun i hi => (U.2.1 i (by omega)).trans (G2 i hi), U.2.2.1, fun y => absurd y z⟩
  · rw [if_pos q] at e
    cases e
    rw [if_neg q, ck_ok sc.1]
    refine PO.fin (po_failn C hx (by decide) (by omega)) hs fun v h' hv hs' => ?_
    rw [t_325_14 hs']; exact id_b hv
end PLW
