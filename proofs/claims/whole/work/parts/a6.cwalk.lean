/-! ===== WALKS: the component takes the stops ===== -/
def CSp (h : AH) (S : List (Nat × Nat)) : Prop := gI h 2064 156 = nI S.length ∧ ∀ k (hk : k < S.length), gA h 172 k = sC S[k].1 ∧ gA h 173 k = sC S[k].2
theorem CSp.fr {K X : List Nat} {h h' : AH} {S : List (Nat × Nat)} (R : CSp h S) (f : Fr K X h h') (h1 : 2064 ∉ K) (h2 : 172 ∉ X) (h3 : 173 ∉ X) : CSp h' S := by
  unfold CSp at R ⊢
  rw [f.I h1, f.A h2, f.A h3]; exact R
theorem CS4.fr {K X : List Nat} {h h' : AH} {s s' : St} (C : CS4 h s) (f : Fr K X h h') (h1 : 2055 ∉ K) (h2 : 166 ∉ X) (h3 : 167 ∉ X) (e : sM s' = sM s) : CS4 h' s' := by
  unfold CS4 at C ⊢
  rw [f.I h1, f.A h2, f.A h3, e]; exact C
abbrev KSt : List Nat := [1286, 1287, 1292, 2052, 2064]
def owB (bk : Bk) (s : St) (i f wk : Nat) : Bool := match iP s i with
  | none => false
  | some p => decide (bk 9 p = f ∧ bk 16 p = wk)
section WC1
variable {d : Nat} {b : Nat} {bk : Bk} {G Cp : Nat → Nat → Nat}
theorem c_ofWalk (W : WB bk) {h : AH} {s : St} (hs : Sh h) (w : WI bk s) (hb : gR h 2048 156 = some b) (B : CB h b bk G Cp) (C1 : CS1 h bk s G) {i f wk : Nat} (hi : i < zN s 2) (hf : f < bk 0 0) (hw : wk ≤ 9) : E (d + 4) 259 [.ref 156, .ref (G 4 i), .int (nI f), .int (nI wk)] h = some (some (.int (if owB bk s i f wk = true then nI 1 else nI 0)), h) := by
  have w0 := W.1.1
  obtain ⟨a1, -, -, -, -, a6, -, a8, -⟩ := C1.2.2.2 i hi
  obtain ⟨p1, q1⟩ := B.2.2.1 1 (by decide)
  have wp := (w.2.2.2 i hi).2.2
  have hh := oI_hv W wp
  unfold owB
  rw [t_259 hs, hb, Option.bind_some, ck_ok a1, ck_ok B.1, (c_has hs W B _).2.1, cK_v, t_259_11 hs, a8]
  cases hp : iP s i with
  | none =>
    rw [hp] at hh
    rw [hb1_n hh, if_pos rfl]; rfl
  | some p =>
    rw [hp] at hh
    have hpb := wp p hp
    have bp := B.2.2.2.2.2.1 p hpb
    have wpp := W.2.2.2.1 p hpb
    rw [hb1_s hh, if_neg (by decide), hb, Option.bind_some, ck_ok B.1, p1, Option.bind_some, ck_ok a1, ck_ok q1.1, show oI (some p) = nI p from rfl, al_get hs q1 hpb, cK_v, t_259_30 hs, ck_ok bp.1, ck_ok bp.1, bp.2.1, ck_ok bp.1, bp.2.2.2.2.2.2.2.2.1]
    simp only [show (nI (bk 9 p) = nI f) = (bk 9 p = f) from propext (nI_eq (by omega) (by omega)), show (nI (bk 16 p) = nI wk) = (bk 16 p = wk) from propext (nI_eq (by omega) (by omega))]
    by_cases q : bk 9 p = f
    · rw [if_pos q]
      by_cases q2 : bk 16 p = wk
      · rw [if_pos q2, if_pos (decide_eq_true ⟨q, q2⟩)]
      · rw [if_neg q2, if_neg (by rw [decide_eq_true_iff]; exact fun y => q2 y.2)]
    · rw [if_neg q, if_neg (by rw [decide_eq_true_iff]; exact fun y => q y.1)]
theorem c_door {h : AH} (hs : Sh h) (W : WB bk) (B : CB h b bk G Cp) {p n : Nat} (hp : p < bk 0 1) (n1 : 1 ≤ n) (n2 : n ≤ 999) : E (d + 1) 311 [.ref (G 1 p), .int (nI n)] h = some (some (.int (sC (pX bk p n))), h) ∧ E (d + 1) 312 [.ref (G 1 p), .int (nI n)] h = some (some (.int (sC (pY bk p n))), h) := by
  obtain ⟨-, -, -, -, a1, a2, a3, a4, a5, a6, -⟩ := W.2.2.2.1 p hp
  obtain ⟨b1, -, -, b4, -, b6, b7, b8, -⟩ := B.2.2.2.2.2.1 p hp
  constructor
  · rw [t_311 hs]
    simp only [ck_ok b1, b8, b6, b4]
    simp only [show (nI (bk 15 p) = nI 0) = (bk 15 p = 0) from propext (nI_eq (by omega) (by decide)), show (nI (bk 15 p) = nI 2) = (bk 15 p = 2) from propext (nI_eq (by omega) (by decide))]
    unfold pX sC
    by_cases q : bk 15 p = 0
    · rw [if_pos q, if_pos q]
      have e := nIe (show (bk 13 p + 1000 + n - bk 11 p) + bk 11 p = bk 13 p + 1000 + n by omega)
      rw [← nI_add, ← nI_add, ← nI_add] at e
      have : nI (bk 13 p) + (nI n - nI (bk 11 p)) = nI (bk 13 p + 1000 + n - bk 11 p) - nI 1000 := by grind
      rw [this]
    · rw [if_neg q, if_neg q]
      by_cases q2 : bk 15 p = 2
      · rw [if_pos q2, if_pos q2]
        have e := nIe (show (bk 13 p + 1000 + bk 11 p - n) + n = bk 13 p + 1000 + bk 11 p by omega)
        rw [← nI_add, ← nI_add, ← nI_add] at e
        have : nI (bk 13 p) - (nI n - nI (bk 11 p)) = nI (bk 13 p + 1000 + bk 11 p - n) - nI 1000 := by grind
        rw [this]
      · rw [if_neg q2, if_neg q2, pk_sub (by omega), Nat.add_sub_cancel]
  · rw [t_312 hs]
    simp only [ck_ok b1, b8, b7, b4]
    simp only [show (nI (bk 15 p) = nI 1) = (bk 15 p = 1) from propext (nI_eq (by omega) (by decide)), show (nI (bk 15 p) = nI 3) = (bk 15 p = 3) from propext (nI_eq (by omega) (by decide))]
    unfold pY sC
    by_cases q : bk 15 p = 1
    · rw [if_pos q, if_pos q]
      have e := nIe (show (bk 14 p + 1000 + n - bk 11 p) + bk 11 p = bk 14 p + 1000 + n by omega)
      rw [← nI_add, ← nI_add, ← nI_add] at e
      have : nI (bk 14 p) + (nI n - nI (bk 11 p)) = nI (bk 14 p + 1000 + n - bk 11 p) - nI 1000 := by grind
      rw [this]
    · rw [if_neg q, if_neg q]
      by_cases q2 : bk 15 p = 3
      · rw [if_pos q2, if_pos q2]
        have e := nIe (show (bk 14 p + 1000 + bk 11 p - n) + n = bk 14 p + 1000 + bk 11 p by omega)
        rw [← nI_add, ← nI_add, ← nI_add] at e
        have : nI (bk 14 p) - (nI n - nI (bk 11 p)) = nI (bk 14 p + 1000 + bk 11 p - n) - nI 1000 := by grind
        rw [this]
      · rw [if_neg q2, if_neg q2, pk_sub (by omega), Nat.add_sub_cancel]
theorem c_stop {x y : Nat} (hx : x ≤ 3000) (hy : y ≤ 3000) {S : List (Nat × Nat)} (hS : SB S) : ∀ (r pre : List (Nat × Nat)) (h : AH), pre ++ r = S → Sh h → CSp h S →
    ∃ h', Q d 260 81 [some (.ref 156), none, none, none, some (.int (sC x)), some (.int (sC y)), some (.int (nI pre.length))] [] h = some (some (.int (oI (match fdF (x, y) r pre.length with
      | some k => some k
      | none => if S.length < 8 then some S.length else none))), h') ∧ CSp h' (match fdF (x, y) r pre.length with
      | some k => S
      | none => if S.length < 8 then S ++ [(x, y)] else S) ∧ Fr [2064] [172, 173] h h'
  | [], pre, h, e, hs, R => by
    have e : pre = S := by rw [← e, List.append_nil]
    subst e
    have h8 := hS.1
    rw [t_260_81 hs, R.1, if_neg (nI_nlt (Nat.le_refl _) (by omega))]
    simp only [show (nI pre.length < nI 8) = (pre.length < 8) from propext (nI_ltI (by omega) (by decide)), fdF]
    by_cases q : pre.length < 8
    · rw [if_pos q, if_pos q, if_pos q, gd_nI (by omega) (by decide), gd_nI (by omega) (by decide), ix_nI (by omega), nI_add, pk_sub (by omega), Nat.add_sub_cancel]
      have f : Fr [2064] [172, 173] h (sI (sA (sA h 172 pre.length (sC x)) 173 pre.length (sC y)) 2064 156 (nI (pre.length + 1))) := ((Fr.rfl.sA (by decide)).sA (by decide)).sI (by decide)
      refine ⟨_, rfl, ⟨?_, fun k hk => ?_⟩, f⟩
      · show up2 (gI h) 2064 156 _ 2064 156 = _
        rw [up2_s, List.length_append]; rfl
      · rw [List.length_append] at hk
        have hk : k < pre.length + 1 := hk
        show up2 (up2 (gA h) 172 pre.length (sC x)) 173 pre.length (sC y) 172 k = _ ∧ up2 (up2 (gA h) 172 pre.length (sC x)) 173 pre.length (sC y) 173 k = _
        rw [up2_k (by decide), up2_r, up2_r, up2_k (by decide)]
        by_cases q2 : k = pre.length
        · subst q2
          rw [up1_s, up1_s, List.getElem_append_right (Nat.le_refl _)]
          simp
        · rw [up1_x q2, up1_x q2, List.getElem_append_left (by omega)]
          exact R.2 k (by omega)
    · rw [if_neg q, if_neg q, if_neg q]
      exact ⟨h, rfl, R, Fr.rfl⟩
  | a :: r, pre, h, e, hs, R => by
    have h8 := hS.1
    have el : pre.length + (r.length + 1) = S.length := by rw [← e, List.length_append, List.length_cons]
    have hk : pre.length < S.length := by omega
    have ea : S[pre.length] = a := by
      simp only [← e]
      rw [List.getElem_append_right (Nat.le_refl _)]
      simp
    obtain ⟨r1, r2⟩ := R.2 pre.length hk
    rw [ea] at r1 r2
    have ab := hS.2 a (by rw [← ea]; exact List.getElem_mem hk)
    obtain ⟨h', b1, b2, b3⟩ := c_stop hx hy hS r (pre ++ [a]) h (by rw [List.append_assoc]; exact e) hs R
    rw [List.length_append] at b1 b2
    have b1 : Q d 260 81 [some (.ref 156), none, none, none, some (.int (sC x)), some (.int (sC y)), some (.int (nI (pre.length + 1)))] [] h = _ := b1
    rw [t_260_81 hs, R.1, if_pos (nI_lt hk (by omega)), gd_nI (by omega) (by decide), gd_nI (by omega) (by decide), ix_nI (by omega), r1, r2, nI_add]
    simp only [show (sC a.1 = sC x) = (a.1 = x) from propext (sC_eq (by omega) (by omega)), show (sC a.2 = sC y) = (a.2 = y) from propext (sC_eq (by omega) (by omega))]
    unfold fdF
    by_cases q : a = (x, y)
    · rw [if_pos (by rw [q]), if_pos (by rw [q]), if_pos q]
      exact ⟨h, rfl, R, Fr.rfl⟩
    · rw [if_neg q]
      by_cases q1 : a.1 = x
      · rw [if_pos q1, if_neg fun q2 => q (Prod.ext q1 q2)]
        exact ⟨h', b1, b2, b3⟩
      · rw [if_neg q1]
        exact ⟨h', b1, b2, b3⟩
/-- CS1 under changes of pieces, doors, sent after -/
theorem CS1.pc {h h' : AH} {s : St} {i : Nat} {P : Option Nat} {Dn An : Nat} (C : CS1 h bk s G) (hi : i < zN s 2) (f : Fr [1286, 1287, 1292] [] h h') (h1 : gI h' 1286 = up1 (gI h 1286) (G 4 i) (oI P)) (h2 : gI h' 1287 = up1 (gI h 1287) (G 4 i) (nI Dn)) (h3 : gI h' 1292 = up1 (gI h 1292) (G 4 i) (nI An)) : CS1 h' bk (stI (stI (stP s i P) 4 i Dn) 7 i An) G := by
  obtain ⟨r1, r2, r3, r4⟩ := C
  have eN : gN h' = gN h := congrArg (fun p : Nat × Nat => p.1) f.1
  refine ⟨(congrFun (f.I (by decide)) _).trans r1, (congrFun (f.I (by decide)) _).trans r2, r3, fun j hj => ?_⟩
  obtain ⟨b1, b2, b3, b4, b5, b6, b7, b8, b9, b10, b11, b12, b13, b14, b15, b16⟩ := r4 j hj
  have inj : j ≠ i → G 4 j ≠ G 4 i := fun q w => q (r3 j i hj hi w)
  have F : ∀ k, k ∉ [1286, 1287, 1292] → ∀ {y : Int32}, gI h k (G 4 j) = y → gI h' k (G 4 j) = y := fun k hx y q => (congrFun (f.I hx) _).trans q
  refine ⟨by rw [f.2.1]; exact b1, by omega, F _ (by decide) b3, F _ (by decide) b4, F _ (by decide) b5, F _ (by decide) b6, F _ (by decide) b7, ?_, ?_, F _ (by decide) b10, F _ (by decide) b11, F _ (by decide) b12, F _ (by decide) b13, ?_, F _ (by decide) b15, fun q => F _ (by decide) (b16 q)⟩
  · rw [h1]
    show _ = oI (up1 (iP s) i P j)
    by_cases q : j = i
    · rw [q, up1_s, up1_s]
    · rw [up1_x q, up1_x (inj q)]; exact b8
  · rw [h2]
    show _ = nI (up2 (up2 (iN s) 4 i Dn) 7 i An 4 j)
    rw [up2_k (by decide), up2_r]
    by_cases q : j = i
    · rw [q, up1_s, up1_s]
    · rw [up1_x q, up1_x (inj q)]; exact b9
  · rw [h3]
    show _ = nI (up2 (up2 (iN s) 4 i Dn) 7 i An 7 j)
    rw [up2_r]
    by_cases q : j = i
    · rw [q, up1_s, up1_s]
    · rw [up1_x q, up1_x (inj q), up2_k (by decide)]; exact b14
theorem CS1.pn {h : AH} {s : St} {i : Nat} (C : CS1 h bk s G) (hi : i < zN s 2) : CS1 (sI h 1286 (G 4 i) (-1)) bk (stP s i none) G := by
  obtain ⟨r1, r2, r3, r4⟩ := C
  refine ⟨r1, r2, r3, fun j hj => ?_⟩
  obtain ⟨b1, b2, b3, b4, b5, b6, b7, b8, b9, b10, b11, b12, b13, b14, b15, b16⟩ := r4 j hj
  have inj : j ≠ i → G 4 j ≠ G 4 i := fun q w => q (r3 j i hj hi w)
  refine ⟨b1, b2, b3, b4, b5, b6, b7, ?_, b9, b10, b11, b12, b13, b14, b15, b16⟩
  show up2 (gI h) 1286 (G 4 i) (-1) 1286 (G 4 j) = oI (up1 (iP s) i none j)
  by_cases q : j = i
  · rw [q, up2_s, up1_s]; rfl
  · rw [up2_x (inj q), up1_x q]; exact b8
theorem c_sendOn (W : WB bk) {h : AH} {s : St} (hs : Sh h) (w : WS bk s) (C1 : CS1 h bk s G) {i k : Nat} (hi : i < zN s 2) (hk : k < (sM s).length) : ∃ h', E (d + 2) 310 [.ref 156, .ref (G 4 i), .int (oI ((sM s)[k].2.2.map fun q => 27000 * q.1 + q.2))] h = some (none, h') ∧ Fr [1286, 1287, 1292, 2052] [] h h' ∧ CS1 h' bk (saS bk s i (sM s)[k].2.2 (iN s 6 i)) G := by
  have w0 := W.1.1
  have w1 := w.1
  have w3 := W.1.2.1
  have wm := w.2.2.2.2.2.2.2.2.2.2.2.2.2 (sM s)[k] (List.getElem_mem hk)
  obtain ⟨b1, b2, b3, b4, b5, b6, b7, b8, b9, b10, b11, b12, b13, b14, b15, b16⟩ := C1.2.2.2 i hi
  have wi := w.2.2.2.1 i hi
  have fb : Fr [1286, 1287, 1292] [] h (sI h 1286 (G 4 i) (-1)) := Fr.rfl.sI (by decide)
  have wib : WI bk (stP s i none) := ⟨w1, w.2.1, w.2.2.1, fun j hj => ⟨(w.2.2.2.1 j hj).1, (w.2.2.2.1 j hj).2.2.2.1, fun p q => by
    have q : up1 (iP s) i none j = some p := q
    by_cases e : j = i
    · rw [e, up1_s] at q; cases q
    · rw [up1_x e] at q; exact (w.2.2.2.1 j hj).2.2.2.2.2.2.2.2.2.2.2.1 p q⟩⟩
  obtain ⟨hB, x1, x2, x3⟩ := c_log (d := d) (i := i) (wh := 7) (o := iN s 6 i) (fb.sh hs) W wib (C1.pn hi) hi (by decide) (by omega)
  have fB : Fr [1286, 1287, 1292, 2052] [] h hB := (fb.wk (by decide) (by decide)).trans (x2.wk (by decide) (by decide))
  have endB : Q (d + 1) 310 29 [some (.ref 156), some (.ref (G 4 i)), none] [] hB = some (none, hB) := t_310_29 (fB.sh hs) _ _ _
  rw [t_310 hs]
  cases hto : (sM s)[k].2.2 with
  | none =>
    rw [if_pos (show oI ((none : Option (Nat × Nat)).map fun q => 27000 * q.1 + q.2) = -1 from rfl), ck_ok b1, ck_ok b1, b11, x1, cK_n, endB]
    exact ⟨hB, rfl, fB, x3⟩
  | some q =>
    obtain ⟨q1, q2, q3⟩ := wm.2.2.2 q hto
    have ne : ¬ nI (27000 * q.1 + q.2) = -1 := fun e => by
      have := nI_nlt (a := 27000 * q.1 + q.2) (b := 0) (by omega) (by omega)
      rw [e] at this
      exact this (by decide)
    rw [show oI ((some q).map fun q => 27000 * q.1 + q.2) = nI (27000 * q.1 + q.2) from rfl, if_neg ne, ck_ok b1, b14]
    simp only [show (nI (iN s 7 i) < nI 2) = (iN s 7 i < 2) from propext (nI_ltI (by omega) (by decide))]
    unfold saS
    dsimp only
    by_cases e : iN s 7 i < 2
    · rw [if_pos e, if_pos e, dz_ok (by decide), ck_ok b1, dz_ok (by decide), ck_ok b1, ck_ok b1, ck_ok b1, ck_ok b1, pk_remN (by omega) (by decide) (by decide), pk_div (by omega) (by decide) (by decide), nI_add, b11]
      rw [show (27000 * q.1 + q.2) / 27000 = q.1 from by omega, show (27000 * q.1 + q.2) % 27000 = q.2 from by omega]
      have f0 : Fr [1286, 1287, 1292] [] h (sI (sI (sI h 1286 (G 4 i) (nI q.1)) 1287 (G 4 i) (nI q.2)) 1292 (G 4 i) (nI (iN s 7 i + 1))) := ((Fr.rfl.sI (by decide)).sI (by decide)).sI (by decide)
      have C0 : CS1 (sI (sI (sI h 1286 (G 4 i) (nI q.1)) 1287 (G 4 i) (nI q.2)) 1292 (G 4 i) (nI (iN s 7 i + 1))) bk (stI (stI (stP s i (some q.1)) 4 i q.2) 7 i (iN s 7 i + 1)) G := by
        refine C1.pc hi f0 ?_ ?_ ?_
        · show up2 (up2 (up2 (gI h) 1286 (G 4 i) (nI q.1)) 1287 (G 4 i) (nI q.2)) 1292 (G 4 i) (nI (iN s 7 i + 1)) 1286 = _
          rw [up2_k (by decide), up2_k (by decide), up2_r]; rfl
        · show up2 (up2 (up2 (gI h) 1286 (G 4 i) (nI q.1)) 1287 (G 4 i) (nI q.2)) 1292 (G 4 i) (nI (iN s 7 i + 1)) 1287 = _
          rw [up2_k (by decide), up2_r, up2_k (by decide)]
        · show up2 (up2 (up2 (gI h) 1286 (G 4 i) (nI q.1)) 1287 (G 4 i) (nI q.2)) 1292 (G 4 i) (nI (iN s 7 i + 1)) 1292 = _
          rw [up2_r, up2_k (by decide), up2_k (by decide)]
      have wi0 : WI bk (stI (stI (stP s i (some q.1)) 4 i q.2) 7 i (iN s 7 i + 1)) := ⟨w1, w.2.1, w.2.2.1, fun j hj => ⟨(w.2.2.2.1 j hj).1, (w.2.2.2.1 j hj).2.2.2.1, fun p y => by
        have y : up1 (iP s) i (some q.1) j = some p := y
        by_cases e : j = i
        · rw [e, up1_s] at y; cases y; exact q1
        · rw [up1_x e] at y; exact (w.2.2.2.1 j hj).2.2.2.2.2.2.2.2.2.2.2.1 p y⟩⟩
      obtain ⟨h1, y1, y2, y3⟩ := c_log (d := d) (i := i) (wh := 6) (o := iN s 6 i) (f0.sh hs) W wi0 C0 hi (by decide) (by omega)
      have fA : Fr [1286, 1287, 1292, 2052] [] h h1 := (f0.wk (by decide) (by decide)).trans (y2.wk (by decide) (by decide))
      rw [y1, cK_n, t_310_69 (fA.sh hs)]
      exact ⟨h1, rfl, fA, y3⟩
    · rw [if_neg e, if_neg e, ck_ok b1, ck_ok b1, b11, x1, cK_n, endB]
      exact ⟨hB, rfl, fB, x3⟩
end WC1
