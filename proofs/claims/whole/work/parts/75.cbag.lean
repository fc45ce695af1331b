/-! ===== ITEMS MOVE: the component, from shelf to bag ===== -/
theorem CS2.fr {K X : List Nat} {h h' : AH} {bk : Bk} {s s' : St} {G Cp : Nat → Nat → Nat} (C : CS2 h bk s G Cp) (f : Fr K X h h') (hK : 258 ∉ K) (hX : ∀ r, lX s' r = lX s r) : CS2 h' bk s' G Cp := by
  obtain ⟨D, O0, A0⟩ := C
  have eN : gN h' = gN h := congrArg (fun p : Nat × Nat => p.1) f.1
  refine ⟨D, fun r q => ?_, fun r q q2 => ?_⟩
  · obtain ⟨⟨o1, o2, o3⟩, o4⟩ := O0 r q
    exact ⟨⟨by rw [eN]; exact o1, by rw [eN]; exact o2, o3⟩, o4⟩
  · have := A0 r q q2
    rw [hX r]
    unfold Ar at this ⊢
    rw [f.2.1, f.2.2.1, f.2.2.2.1, f.2.2.2.2.1, f.I hK]; exact this
theorem Fr.hw {K X : List Nat} {h h' : AH} (f : Fr K X h h') (w : HW h) : HW h' := fun x hx => by
  have eN : gN h' = gN h := congrArg (fun p : Nat × Nat => p.1) f.1
  rw [f.2.1]; exact w x (by omega)
section COPS
variable {d : Nat} {h : AH} {b : Nat} {bk : Bk} {G Cp : Nat → Nat → Nat} {s : St}
theorem oI_hv (W : WB bk) {p : Option Nat} (hp : ∀ q, p = some q → q < bk 0 1) : hv (oI p) (bk 0 1) = p := by
  have w1 := W.1.2.1
  cases p with
  | none => unfold hv; rw [if_pos (by decide)]
  | some q =>
    have := hp q rfl
    unfold hv
    rw [show oI (some q) = nI q from rfl, if_neg (nI_nlt (by omega) (by omega)), if_pos (nI_lt this (by omega)), ix_nI (by omega)]
theorem c_goal (hs : Sh h) (W : WB bk) (w : WI bk s) (hb : gR h 2048 156 = some b) (B : CB h b bk G Cp) (C1 : CS1 h bk s G) {i : Nat} (hi : i < zN s 2) : E (d + 4) 254 [.ref 156, .ref (G 4 i)] h = some (some (.int (nI (goS bk s i))), h) := by
  obtain ⟨a1, -, -, -, -, a6, -, a8, -⟩ := C1.2.2.2 i hi
  obtain ⟨p1, q1⟩ := B.2.2.1 1 (by decide)
  have wp := (w.2.2.2 i hi).2.2
  have hh := oI_hv W wp
  unfold goS
  rw [t_254 hs, hb, Option.bind_some, ck_ok a1, ck_ok B.1, (c_has hs W B _).2.1, cK_v, t_254_11 hs, a8]
  cases hp : iP s i with
  | none =>
    rw [hp] at hh
    rw [hb1_n hh, if_pos rfl, ck_ok a1, a6]
  | some p =>
    rw [hp] at hh
    have hpb := wp p hp
    have bp := B.2.2.2.2.2.1 p hpb
    rw [hb1_s hh, if_neg (by decide), hb, Option.bind_some, ck_ok B.1, p1, Option.bind_some, ck_ok a1, ck_ok q1.1, show oI (some p) = nI p from rfl, al_get hs q1 hpb, cK_v, t_254_28 hs, ck_ok bp.1, ck_ok bp.1, bp.2.1]
theorem c_log (hs : Sh h) (W : WB bk) (w : WI bk s) (C1 : CS1 h bk s G) {i wh o : Nat} (hi : i < zN s 2) (hw : wh ≤ 7) (ho : o < 16) : ∃ h', E (d + 1) 258 [.ref 156, .ref (G 4 i), .int (nI wh), .int (nI o)] h = some (none, h') ∧ Fr [2052] [] h h' ∧ CS1 h' bk (ntS bk s i wh o) G := by
  obtain ⟨w1, w2, w3, w4⟩ := w
  obtain ⟨a1, a2, a3, a4, a5, a6, a7, -⟩ := C1.2.2.2 i hi
  have wb := W.2.2.2.2.1 _ (w4 i hi).1
  unfold ntS
  rw [t_258 hs, ck_ok a1, a7]
  simp only [show (nI (bk 18 (iN s 0 i)) = nI 2) = (bk 18 (iN s 0 i) = 2) from propext (nI_eq (by omega) (by decide))]
  by_cases e : bk 18 (iN s 0 i) = 2
  · rw [if_pos e, if_pos e, ck_ok a1, dz_ok (by decide), C1.2.1, C1.1, a3, pk_mul, nI_add, pk_mul, nI_add, pk_mul, nI_add, nI_add, pk_remN (by omega) (by decide) (by decide)]
    have f : Fr [2052] [] h (sI h 2052 156 (nI ((33 * zN s 1 + i + 8 * wh + 64 * o + zN s 0) % 65521))) := Fr.rfl.sI (by decide)
    exact ⟨_, rfl, f, C1.1, rfl, C1.2.2.1, C1.2.2.2⟩
  · rw [if_neg e, if_neg e]
    exact ⟨h, rfl, Fr.rfl, C1⟩
theorem c_comes (hs : Sh h) (C1 : CS1 h bk s G) {i wh o : Nat} {c : Option Nat} (hi : i < zN s 2) (hw : wh ≠ 2) : ∃ h', E (d + 1) 257 [.ref (G 4 i), .int (nI wh), .int (nI o), .int (oI c), .int (nI (zN s 0))] h = some (none, h') ∧ Fr [1288, 1289, 1290, 1293] [] h h' ∧ CS1 h' bk (cmS s i wh o c) G := by
  have a1 := (C1.2.2.2 i hi).1
  rw [t_257 hs, ck_ok a1, ck_ok a1, ck_ok a1, ck_ok a1]
  have f : Fr [1288, 1289, 1290, 1293] [] h (sI (sI (sI (sI h 1288 (G 4 i) (nI wh)) 1289 (G 4 i) (nI o)) 1290 (G 4 i) (oI c)) 1293 (G 4 i) (nI (zN s 0))) := (((Fr.rfl.sI (by decide)).sI (by decide)).sI (by decide)).sI (by decide)
  refine ⟨_, rfl, f, C1.1, C1.2.1, C1.2.2.1, fun j hj => ?_⟩
  obtain ⟨b1, b2, b3, b4, b5, b6, b7, b8, b9, b10, b11, b12, b13, b14, b15, b16⟩ := C1.2.2.2 j hj
  have inj : j ≠ i → G 4 j ≠ G 4 i := fun q w => q (C1.2.2.1 j i hj hi w)
  refine ⟨b1, b2, b3, b4, b5, b6, b7, b8, b9, ?_, ?_, ?_, b13, b14, ?_, fun q => ?_⟩
  · show up2 (gI h) 1288 (G 4 i) (nI wh) 1288 (G 4 j) = nI (up2 (iN s) 5 i wh 5 j)
    by_cases q : j = i
    · rw [q, up2_s, up2_s]
    · rw [up2_x q, up2_x (inj q)]; exact b10
  · show up2 (gI h) 1289 (G 4 i) (nI o) 1289 (G 4 j) = nI (up2 (up2 (iN s) 5 i wh) 6 i o 6 j)
    by_cases q : j = i
    · rw [q, up2_s, up2_s]
    · rw [up2_x q, up2_x (inj q), up2_k (by decide)]; exact b11
  · show up2 (gI h) 1290 (G 4 i) (oI c) 1290 (G 4 j) = oI (up1 (iC s) i c j)
    by_cases q : j = i
    · rw [q, up2_s, up1_s]
    · rw [up1_x q, up2_x (inj q)]; exact b12
  · show up2 (gI h) 1293 (G 4 i) (nI (zN s 0)) 1293 (G 4 j) = nI (up2 (up2 (up2 (iN s) 5 i wh) 6 i o) 8 i (zN s 0) 8 j)
    by_cases q : j = i
    · rw [q, up2_s, up2_s]
    · rw [up2_x q, up2_x (inj q), up2_k (by decide), up2_k (by decide)]; exact b15
  · have q : up2 (iN s) 5 i wh 5 j = 2 := q
    by_cases q1 : j = i
    · rw [q1, up2_s] at q; exact absurd q hw
    · rw [up2_x q1] at q; exact b16 q
/-- the place of an item in a list is found, and taken out -/
theorem take_lp (hs : Sh h) {l e cap : Nat} {xs : List Nat} (A : Ar h l e cap xs.length (fun k => G 4 (xs.getD k 0))) (O : AO h l e cap) (I : ∀ j, j ∈ xs → j < zN s 2) (C1 : CS1 h bk s G) (hw : HW h) (nd : xs.Nodup) {p i : Nat} (hi : i < zN s 2) (hp : p < xs.length) (he : xs[p] = i) : ∀ (m k : Nat), k + m = p → ∃ h', Q (d + 4) 308 23 [none, some (.ref (G 4 i)), some (.ref l), some (.int (nI k))] [] h = some (none, h') ∧ Ar h' l e cap (xs.eraseIdx p).length (fun k => G 4 ((xs.eraseIdx p).getD k 0)) ∧ GF (lI l) (lR l) (fun y => y = e ∧ 296 ≤ e) (fun _ => False) h h' ∧ Sh h' ∧ gN h' = gN h ∧ gS h' = gS h
  | 0, k, q => by
    have hk : k = p := by omega
    subst hk
    have hl : xs.length < 2 ^ 31 := by
      obtain ⟨-, -, -, -, -, a6, a7, -⟩ := A
      omega
    obtain ⟨h', b1, b2, b3, b4, b5, b6⟩ := al_remove (d := d) hs A O hp
    refine ⟨h', ?_, ?_, b3, b4, b5, b6⟩
    · rw [t_308_23 hs, ck_ok A.1, al_size hs A, cK_v, t_308_28 hs, if_pos (nI_lt hp hl), ck_ok A.1, al_get hs A hp, cK_v, t_308_36 hs, if_pos (by rw [getD_ix hp, he]), ck_ok A.1, b1, cK_v, t_308_45 b4]
    · rw [List.length_eraseIdx_of_lt hp]
      obtain ⟨c1, c2, c3, c4, c5, c6, c7, c8⟩ := b2
      refine ⟨c1, c2, c3, c4, c5, c6, c7, fun j hj => ?_⟩
      rw [c8 j hj]
      have hj2 : j < (xs.eraseIdx k).length := by rw [List.length_eraseIdx_of_lt hp]; exact hj
      dsimp only
      rw [getD_ix hj2, List.getElem_eraseIdx]
      by_cases q3 : j < k
      · rw [if_pos q3, dif_pos q3, getD_ix (by omega)]
      · rw [if_neg q3, dif_neg q3, getD_ix (by omega)]
  | m + 1, k, q => by
    have hk : k < xs.length := by omega
    have hl : xs.length < 2 ^ 31 := by
      obtain ⟨-, -, -, -, -, a6, a7, -⟩ := A
      omega
    have hj := I xs[k] (List.getElem_mem hk)
    have c1 := (C1.2.2.2 _ hj).1
    have c2 := (C1.2.2.2 i hi).1
    have ne : ¬ G 4 (xs.getD k 0) = G 4 i := by
      rw [getD_ix hk]
      intro w
      have := C1.2.2.1 _ _ hj hi w
      have := nd_inj nd hk hp (this.trans he.symm)
      omega
    have big : 100 ≤ G 4 i := by
      by_cases q5 : 100 ≤ G 4 i
      · exact q5
      · have := ShC hs (inS_lt.mpr (show G 4 i < 296 by omega))
        rw [c2] at this
        have all : ∀ x, x < 100 → ¬ 5 = cS x := by decide +kernel
        exact absurd this (all _ (by omega))
    rw [t_308_23 hs, ck_ok A.1, al_size hs A, cK_v, t_308_28 hs, if_pos (nI_lt hk hl), ck_ok A.1, al_get hs A hk, cK_v, t_308_36 hs, if_neg ne, if_pos (by rw [getD_ix hk, c1, c2]; exact ⟨by decide, by decide, Or.inr big⟩), nI_add]
    exact take_lp hs A O I C1 hw nd hi hp he m (k + 1) (by omega)
/-- the component's state -/
def CSt (h : AH) (b : Nat) (bk : Bk) (s : St) (G Cp : Nat → Nat → Nat) : Prop := Sh h ∧ HW h ∧ gR h 2048 156 = some b ∧ CB h b bk G Cp ∧ CS1 h bk s G ∧ CS2 h bk s G Cp
theorem CS1.gf {mI mR : Nat → Nat → Prop} {mO mA : Nat → Prop} {h h' : AH} {bk : Bk} {s : St} {G : Nat → Nat → Nat} (C : CS1 h bk s G) (hN : 156 < gN h) (g : GF mI mR mO mA h h') (c1 : ∀ k, 1280 ≤ k → k ≤ 1294 → ∀ x, ¬ mI k x) (c2 : ¬ mI 2051 156 ∧ ¬ mI 2052 156) : CS1 h' bk s G := by
  obtain ⟨a1, a2, a3, a4⟩ := C
  have g0 := g.1.1
  obtain ⟨-, g1, g2, -⟩ := g
  refine ⟨(g2 2051 156 hN c2.1).trans a1, (g2 2052 156 hN c2.2).trans a2, a3, fun i hi => ?_⟩
  obtain ⟨b1, b2, b3, b4, b5, b6, b7, b8, b9, b10, b11, b12, b13, b14, b15, b16⟩ := a4 i hi
  have I : ∀ k, 1280 ≤ k → k ≤ 1294 → gI h' k (G 4 i) = gI h k (G 4 i) := fun k h1 h2 => g2 k _ b2 (c1 k h1 h2 _)
  exact ⟨(g1 _ b2).1.trans b1, by omega, (I 1280 (by decide) (by decide)).trans b3, (I 1281 (by decide) (by decide)).trans b4, (I 1282 (by decide) (by decide)).trans b5, (I 1283 (by decide) (by decide)).trans b6, (I 1284 (by decide) (by decide)).trans b7, (I 1286 (by decide) (by decide)).trans b8, (I 1287 (by decide) (by decide)).trans b9, (I 1288 (by decide) (by decide)).trans b10, (I 1289 (by decide) (by decide)).trans b11, (I 1290 (by decide) (by decide)).trans b12, (I 1291 (by decide) (by decide)).trans b13, (I 1292 (by decide) (by decide)).trans b14, (I 1293 (by decide) (by decide)).trans b15, fun q => (I 1294 (by decide) (by decide)).trans (b16 q)⟩
/-- one list is changed, of shelves, bags, items or riding: the whole state -/
theorem CSt.one {h' : AH} {s' : St} {G' Cp' : Nat → Nat → Nat} {r0 e' cap' : Nat} (C : CSt h b bk s G Cp) (hr : lV bk r0) (h0 : r0 < 2 ∨ 10 ≤ r0) (hG : ∀ k i, ¬ (k = 9 ∧ i = r0) → G' k i = G k i ∧ Cp' k i = Cp k i) (hG9 : G' 9 r0 = e' ∧ Cp' 9 r0 = cap')
    (g : GF (lI (lo G r0)) (lR (lo G r0)) (fun y => y = la G r0 ∧ 296 ≤ la G r0) (fun _ => False) h h') (hs' : Sh h') (hw' : HW h') (A : Ar h' (lo G r0) e' cap' (lX s' r0).length (fun k => G 4 ((lX s' r0).getD k 0))) (O : AO h' (lo G r0) e' cap') (hc : cap' < 50000) (hE : e' = la G r0 ∨ gN h ≤ e') (hX : ∀ r, r ≠ r0 → lX s' r = lX s r) (hS : CS1 h' bk s G → CS1 h' bk s' G') : CSt h' b bk s' G' Cp' := by
  obtain ⟨hs, hw, hb, B, C1, C2⟩ := C
  have hN : 156 < gN h := by have := hs.2; omega
  have cl0 : gC h (lo G r0) = 1 := (C2.2.2 r0 hr h0).1
  have n156 : 156 ≠ lo G r0 := fun q => by
    rw [← q, ShC hs (by decide)] at cl0
    exact absurd cl0 (by decide)
  have hG' : ∀ k, k ≠ 9 → G' k = G k := fun k q => funext fun i => (hG k i (by omega)).1
  have hC' : ∀ k, k ≠ 9 → Cp' k = Cp k := fun k q => funext fun i => (hG k i (by omega)).2
  have B' : CB h' b bk G Cp := B.gf hw g (fun k hk x q => by
      rcases q.2 with q | q <;> (subst q; revert hk; decide)) (fun j hj => by
      have l1 : lo G (2 + j) = G 7 j := by
        unfold lo
        rw [if_neg (by omega), if_neg (by omega), if_pos (by omega), show 2 + j - 2 = j from by omega]
      have l2 : la G (2 + j) = G 8 j := by
        unfold la
        rw [if_pos (by omega), show 2 + j - 2 = j from by omega]
      have D := C2.1 (2 + j) r0 (Or.inl (by omega)) hr
      rw [l1, l2] at D
      refine ⟨fun q => ?_, fun q => ?_, fun q => ?_⟩
      · have := D.1 q.1; omega
      · have := D.1 q.1; omega
      · rcases D.2 q.1 with q4 | q4
        · omega
        · have := q.1; have := q.2; omega) (fun k hk x q => by
      have := q.2
      subst this
      revert hk; decide) (fun _ _ q => q)
  have B'' : CB h' b bk G' Cp' := by
    unfold CB at B' ⊢
    rw [hG' 0 (by decide), hG' 1 (by decide), hG' 2 (by decide), hG' 3 (by decide), hG' 5 (by decide), hG' 6 (by decide), hG' 7 (by decide), hG' 8 (by decide), hC' 8 (by decide), hG' 14 (by decide), hG' 15 (by decide), hG' 16 (by decide), hG' 10 (by decide), hG' 11 (by decide), hG' 12 (by decide), hG' 13 (by decide)]
    obtain ⟨b1, b2, b3, b4, b5, b6, b7, b8⟩ := B'
    refine ⟨b1, b2, fun j hj => ?_, b4, b5, b6, fun s hS => ?_, b8⟩
    · rw [hG' j (by omega)]; exact b3 j hj
    · obtain ⟨d1, d2, d3, d4, d5, d6, d7⟩ := b7 s hS
      refine ⟨d1, d2, d3, d4, d5, fun j hj => ?_, d7⟩
      rw [hG' (10 + j) (by omega)]; exact d6 j hj
  refine ⟨hs', hw', ?_, B'', hS (C1.gf hN g (fun k h1 h2 x q => by
    have := q.2
    omega) ⟨fun q => n156 q.1, fun q => n156 q.1⟩), C2.one hw hr h0 hG hG9 g A O hc hE hX⟩
  rw [g.2.2.2.2.1 2048 156 hN (fun q => n156 q.1)]; exact hb
end COPS
