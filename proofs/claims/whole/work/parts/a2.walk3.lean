/-! ===== WALKS: the reference takes the stops ===== -/
abbrev XD : List Nat := [246, 247, 252, 269, 270, 271, 272]
section WK3
variable {d : Nat} {bk : Bk} {v : Nat}
/-- RS1 under changes of pieces, doors, sent after -/
theorem RS1.pc {h h' : AH} {s : St} {i : Nat} {P : Option Nat} {Dn An : Nat} (R : RS1 h s) (f : Fr [] [246, 247, 252] h h') (h1 : gA h' 246 = up1 (gA h 246) i (oI P)) (h2 : gA h' 247 = up1 (gA h 247) i (nI Dn)) (h3 : gA h' 252 = up1 (gA h 252) i (nI An)) : RS1 h' (stI (stI (stP s i P) 4 i Dn) 7 i An) := by
  obtain ⟨r1, r2, r3, r4, r5⟩ := R
  refine ⟨(congrFun (f.I (by decide)) _).trans r1, (congrFun (f.I (by decide)) _).trans r2, (congrFun (f.I (by decide)) _).trans r3, (congrFun (f.I (by decide)) _).trans r4, fun j hj => ?_⟩
  obtain ⟨a1, a2, a3, a4, a5, a6, a7, a8, a9, a10, a11, a12⟩ := r5 j hj
  have F : ∀ x, x ∉ [246, 247, 252] → ∀ {y : Int32}, gA h x j = y → gA h' x j = y := fun x hx y q => (congrFun (f.A hx) j).trans q
  refine ⟨F 242 (by decide) a1, F 243 (by decide) a2, F 244 (by decide) a3, F 245 (by decide) a4, ?_, ?_, F 248 (by decide) a7, F 249 (by decide) a8, F 250 (by decide) a9, F 251 (by decide) a10, ?_, F 253 (by decide) a12⟩
  · rw [h1]
    show _ = oI (up1 (iP s) i P j)
    by_cases q : j = i
    · rw [q, up1_s, up1_s]
    · rw [up1_x q, up1_x q]; exact a5
  · rw [h2]
    show _ = nI (up2 (up2 (iN s) 4 i Dn) 7 i An 4 j)
    rw [up2_k (by decide), up2_r]
    by_cases q : j = i
    · rw [q, up1_s, up1_s]
    · rw [up1_x q, up1_x q]; exact a6
  · rw [h3]
    show _ = nI (up2 (up2 (iN s) 4 i Dn) 7 i An 7 j)
    rw [up2_r]
    by_cases q : j = i
    · rw [q, up1_s, up1_s]
    · rw [up1_x q, up1_x q, up2_k (by decide)]; exact a11
theorem RS1.pn {h : AH} {s : St} {i : Nat} (R : RS1 h s) : RS1 (sA h 246 i (-1)) (stP s i none) := by
  obtain ⟨r1, r2, r3, r4, r5⟩ := R
  refine ⟨r1, r2, r3, r4, fun j hj => ?_⟩
  obtain ⟨a1, a2, a3, a4, a5, a6, a7, a8, a9, a10, a11, a12⟩ := r5 j hj
  refine ⟨a1, a2, a3, a4, ?_, a6, a7, a8, a9, a10, a11, a12⟩
  show up2 (gA h) 246 i (-1) 246 j = oI (up1 (iP s) i none j)
  by_cases q : j = i
  · rw [q, up2_s, up1_s]; rfl
  · rw [up2_x q, up1_x q]; exact a5
theorem r_sendAfter {h : AH} {s : St} (hs : Sh h) (W : WB bk) (hv' : v ≤ 1) (hN : gI h 3597 189 = nI v) (B : RB h v bk) (R : RS h s) (w : WS bk s) {i k o : Nat} (hi : i < zN s 2) (hk : k < (sM s).length) (ho : o < 16) : ∃ h', E (d + 3) 121 [.ref 189, .int (nI i), .int (nI k), .int (nI o)] h = some (none, h') ∧ Fr [3678] [246, 247, 252] h h' ∧ RS h' (saS bk s i (sM s)[k].2.2 o) := by
  have w1 := w.1
  have wM := w.2.2.2.2.2.2.2.2.2.2.2.1
  have w3 := W.1.2.1
  have wm := w.2.2.2.2.2.2.2.2.2.2.2.2.2 (sM s)[k] (List.getElem_mem hk)
  obtain ⟨m1, m2, m3, m4⟩ := R.2.2.2.2 k hk
  obtain ⟨a1, a2, a3, a4, a5, a6, a7, a8, a9, a10, a11, a12⟩ := R.1.2.2.2.2 i hi
  have wi := w.2.2.2.1 i hi
  -- sent back
  have fb : Fr [] [246, 247, 252] h (sA h 246 i (-1)) := Fr.rfl.sA (by decide)
  have Rb : RS (sA h 246 i (-1)) (stP s i none) := ⟨R.1.pn, R.2.1.fr fb (by decide), R.2.2.1.fr fb (by decide) (by decide), R.2.2.2.fr fb (by decide) (by decide)⟩
  have wib : WI bk (stP s i none) := ⟨w1, w.2.1, w.2.2.1, fun j hj => ⟨(w.2.2.2.1 j hj).1, (w.2.2.2.1 j hj).2.2.2.1, fun p q => by
    have q : up1 (iP s) i none j = some p := q
    by_cases e : j = i
    · rw [e, up1_s] at q; cases q
    · rw [up1_x e] at q; exact (w.2.2.2.1 j hj).2.2.2.2.2.2.2.2.2.2.2.1 p q⟩⟩
  obtain ⟨hb, x1, x2, x3⟩ := r_note (d := d) (i := i) (wh := 7) (o := o) (fb.sh hs) W hv' (by rw [fb.I (by decide)]; exact hN) (B.fr fb (by decide)) Rb wib hi (by decide) (by omega)
  have fB : Fr [3678] [246, 247, 252] h hb := (fb.wk (by decide) (by decide)).trans (x2.wk (by decide) (by decide))
  have endB : Q (d + 2) 121 79 [none, none, none, none] [] hb = some (none, hb) := t_121_79 (fB.sh hs)
  rw [t_121 hs, gd_nI (by omega) (by decide), ix_nI (by omega), m3]
  cases hto : (sM s)[k].2.2 with
  | none =>
    rw [if_pos (show oI ((none : Option (Nat × Nat)).map fun q => q.1) < nI 0 by decide), gd_nI (by omega) (by decide), ix_nI (by omega), x1, cK_n, endB]
    exact ⟨hb, rfl, fB, x3⟩
  | some q =>
    obtain ⟨q1, q2, q3⟩ := wm.2.2.2 q hto
    have m4q := m4 q hto
    rw [show oI ((some q).map fun q => q.1) = nI q.1 from rfl, if_neg (nI_nlt (by omega) (by omega)), gd_nI (by omega) (by decide), ix_nI (by omega), a11]
    simp only [show (nI (iN s 7 i) < nI 2) = (iN s 7 i < 2) from propext (nI_ltI (by omega) (by decide))]
    unfold saS
    dsimp only
    by_cases e : iN s 7 i < 2
    · rw [if_pos e, if_pos e, gd_nI (by omega) (by decide), gd_nI (by omega) (by decide), gd_nI (by omega) (by decide), gd_nI (by omega) (by decide), gd_nI (by omega) (by decide), gd_nI (by omega) (by decide), m4q, nI_add]
      have f0 : Fr [] [246, 247, 252] h (sA (sA (sA h 246 i (nI q.1)) 247 i (nI q.2)) 252 i (nI (iN s 7 i + 1))) := ((Fr.rfl.sA (by decide)).sA (by decide)).sA (by decide)
      have R0 : RS (sA (sA (sA h 246 i (nI q.1)) 247 i (nI q.2)) 252 i (nI (iN s 7 i + 1))) (stI (stI (stP s i (some q.1)) 4 i q.2) 7 i (iN s 7 i + 1)) := by
        refine ⟨R.1.pc f0 ?_ ?_ ?_, R.2.1.fr f0 (by decide), R.2.2.1.fr f0 (by decide) (by decide), R.2.2.2.fr f0 (by decide) (by decide)⟩
        · show up2 (up2 (up2 (gA h) 246 i (nI q.1)) 247 i (nI q.2)) 252 i (nI (iN s 7 i + 1)) 246 = _
          rw [up2_k (by decide), up2_k (by decide), up2_r]; rfl
        · show up2 (up2 (up2 (gA h) 246 i (nI q.1)) 247 i (nI q.2)) 252 i (nI (iN s 7 i + 1)) 247 = _
          rw [up2_k (by decide), up2_r, up2_k (by decide)]
        · show up2 (up2 (up2 (gA h) 246 i (nI q.1)) 247 i (nI q.2)) 252 i (nI (iN s 7 i + 1)) 252 = _
          rw [up2_r, up2_k (by decide), up2_k (by decide)]
      have wi0 : WI bk (stI (stI (stP s i (some q.1)) 4 i q.2) 7 i (iN s 7 i + 1)) := ⟨w1, w.2.1, w.2.2.1, fun j hj => ⟨(w.2.2.2.1 j hj).1, (w.2.2.2.1 j hj).2.2.2.1, fun p y => by
        have y : up1 (iP s) i (some q.1) j = some p := y
        by_cases e : j = i
        · rw [e, up1_s] at y; cases y; exact q1
        · rw [up1_x e] at y; exact (w.2.2.2.1 j hj).2.2.2.2.2.2.2.2.2.2.2.1 p y⟩⟩
      obtain ⟨h1, y1, y2, y3⟩ := r_note (d := d) (i := i) (wh := 6) (o := o) (f0.sh hs) W hv' (by rw [f0.I (by decide)]; exact hN) (B.fr f0 (by decide)) R0 wi0 hi (by decide) (by omega)
      have fA : Fr [3678] [246, 247, 252] h h1 := (f0.wk (by decide) (by decide)).trans (y2.wk (by decide) (by decide))
      rw [y1, cK_n, t_121_61 (fA.sh hs), t_121_79 (fA.sh hs)]
      exact ⟨h1, rfl, fA, y3⟩
    · rw [if_neg e, if_neg e, gd_nI (by omega) (by decide), x1, cK_n, endB]
      exact ⟨hb, rfl, fB, x3⟩
theorem RSt.fr {K X : List Nat} {h h' : AH} {S : List (Nat × Nat)} (R : RSt h S) (f : Fr K X h h') (h1 : 3691 ∉ K) (h2 : 269 ∉ X) (h3 : 270 ∉ X) : RSt h' S := by
  unfold RSt at R ⊢
  rw [f.I h1, f.A h2, f.A h3]; exact R
theorem ts_lp (W : WB bk) (hv' : v ≤ 1) {f wk : Nat} (hf : f < bk 0 0) (hwk : wk ≤ 9) {l : List Nat} : ∀ (ys pre : List Nat) (os : List (Option Nat)) (h : AH) (s : St) (S : List (Nat × Nat)), pre ++ ys = l → sH s f = l → os.length = pre.length → Sh h → gI h 3597 189 = nI v → RB h v bk → RS h s → WS bk s → SB S → RSt h S → (∀ k (hk : k < pre.length), gA h 272 k = nI pre[k] ∧ gA h 271 k = oI (os.getD k none)) →
    ∃ h', Q (d + 3) 120 7 [some (.ref 189), some (.int (nI f)), some (.int (nI wk)), some (.int (nI pre.length)), none, none, none] [] h = some (none, h') ∧ RS h' (tsL bk f wk ys s S).1 ∧ RSt h' (tsL bk f wk ys s S).2.1 ∧ (∀ k (hk : k < l.length), gA h' 272 k = nI l[k] ∧ gA h' 271 k = oI ((os ++ (tsL bk f wk ys s S).2.2).getD k none)) ∧ Fr [3678, 3691] XD h h'
  | [], pre, os, h, s, S, e, hl, ho, hs, hN, B, R, w, hS, RT', K => by
    have w0 := W.1.1
    have e : pre = l := by rw [← e, List.append_nil]
    subst e
    have hlen := (w.len f).1
    rw [hl] at hlen
    have r1 := (R.2.1.1 f (by omega)).1
    rw [hl] at r1
    refine ⟨h, ?_, R, RT', fun k hk => ?_, Fr.rfl⟩
    · rw [t_120_7 hs, gd_nI (by omega) (by decide), ix_nI (by omega), r1, if_neg (nI_nlt (Nat.le_refl _) (by omega))]
    · rw [show (tsL bk f wk [] s S).2.2 = [] from rfl, List.append_nil]; exact K k hk
  | i :: ys, pre, os, h, s, S, e, hl, ho, hs, hN, B, R, w, hS, RT', K => by
    have w0 := W.1.1
    have wp := W.1.2.1
    have w1 := w.1
    have hlen := (w.len f).1
    obtain ⟨r1, r2⟩ := R.2.1.1 f (by omega)
    simp only [hl] at hlen r1 r2
    have el : pre.length + (ys.length + 1) = l.length := by rw [← e, List.length_append, List.length_cons]
    have hpl : pre.length < l.length := by omega
    have ei : l[pre.length] = i := by
      simp only [← e]
      rw [List.getElem_append_right (Nat.le_refl _)]
      simp
    have r2k := r2 pre.length hpl
    rw [ei] at r2k
    have im : i ∈ sH s f := by rw [hl, ← ei]; exact List.getElem_mem hpl
    obtain ⟨il, i5, i6⟩ := ((w.2.2.2.2.1 f).2 i).mp im
    obtain ⟨a1, a2, a3, a4, a5, a6, a7, a8, a9, a10, a11, a12⟩ := R.1.2.2.2.2 i il
    have wi := w.2.2.2.1 i il
    obtain ⟨b1, b2, b3, b4, b5, b6, b7⟩ := tsI_w W w hS (f := f) (wk := wk) il
    -- the heap with the item's number, and no stop
    have f0 : Fr [] [271, 272] h (sA (sA h 272 pre.length (nI i)) 271 pre.length (-1)) := (Fr.rfl.sA (by decide)).sA (by decide)
    have hs0 := f0.sh hs
    have R0 : RS (sA (sA h 272 pre.length (nI i)) 271 pre.length (-1)) s := R.fr f0 (by decide) (by decide)
    have RT0 : RSt (sA (sA h 272 pre.length (nI i)) 271 pre.length (-1)) S := RT'.fr f0 (by decide) (by decide) (by decide)
    have ih := ts_lp W hv' (wk := wk) hf hwk (l := l) ys (pre ++ [i])
    -- what the rest does, behind a heap where this item has its stop
    have go : ∀ (h1 : AH) (s1 : St) (S1 : List (Nat × Nat)) (o1 : Option Nat), tsI bk f wk s S i = (s1, S1, o1) → RS h1 s1 → RSt h1 S1 → Fr [3678, 3691] XD h h1 → (∀ k (hk : k < pre.length + 1), gA h1 272 k = nI ((pre ++ [i]).getD k 0) ∧ gA h1 271 k = oI ((os ++ [o1]).getD k none)) →
        ∃ h', Q (d + 3) 120 7 [some (.ref 189), some (.int (nI f)), some (.int (nI wk)), some (.int (nI (pre.length + 1))), none, none, none] [] h1 = some (none, h') ∧ RS h' (tsL bk f wk (i :: ys) s S).1 ∧ RSt h' (tsL bk f wk (i :: ys) s S).2.1 ∧ (∀ k (hk : k < l.length), gA h' 272 k = nI l[k] ∧ gA h' 271 k = oI ((os ++ (tsL bk f wk (i :: ys) s S).2.2).getD k none)) ∧ Fr [3678, 3691] XD h h' := fun h1 s1 S1 o1 et R1 RT1 f1 K1 => by
      rw [et] at b1 b2 b3 b4 b5
      dsimp only at b1 b2 b3 b4 b5
      obtain ⟨h', c1, c2, c3, c4, c5⟩ := ih (os ++ [o1]) h1 s1 S1 (by rw [List.append_assoc]; exact e) (by rw [b3]; exact hl) (by rw [List.length_append, List.length_append, ho]; rfl) (f1.sh hs) (by rw [f1.I (by decide)]; exact hN) (B.fr f1 (by decide)) R1 b1 b2 RT1 (fun k hk => by
        have hk2 : k < pre.length + 1 := by rw [List.length_append] at hk; exact hk
        have := K1 k hk2
        rw [getD_ix hk] at this; exact this)
      rw [List.length_append] at c1
      have ets : tsL bk f wk (i :: ys) s S = ((tsL bk f wk ys s1 S1).1, (tsL bk f wk ys s1 S1).2.1, o1 :: (tsL bk f wk ys s1 S1).2.2) := by
        show ((tsL bk f wk ys (tsI bk f wk s S i).1 (tsI bk f wk s S i).2.1).1, _, _) = _
        rw [et]
      rw [ets]
      refine ⟨h', c1, c2, c3, fun k hk => ?_, f1.trans c5⟩
      have := c4 k hk
      rw [List.append_assoc] at this
      exact this
    have K0 : ∀ h1 : AH, gA h1 272 = up1 (gA h 272) pre.length (nI i) → ∀ (x : Int32) (o1 : Option Nat), gA h1 271 = up1 (gA h 271) pre.length x → x = oI o1 → ∀ k (hk : k < pre.length + 1), gA h1 272 k = nI ((pre ++ [i]).getD k 0) ∧ gA h1 271 k = oI ((os ++ [o1]).getD k none) := fun h1 e1 x o1 e2 e3 k hk => by
      rw [e1, e2, List.getD_eq_getElem?_getD, List.getD_eq_getElem?_getD]
      by_cases q : k = pre.length
      · subst q
        rw [up1_s, up1_s, List.getElem?_append_right (Nat.le_refl _), List.getElem?_append_right (by omega), ho, Nat.sub_self, e3]
        exact ⟨rfl, rfl⟩
      · obtain ⟨k1, k2⟩ := K k (by omega)
        rw [up1_x q, up1_x q, List.getElem?_append_left (by omega), List.getElem?_append_left (by omega), List.getElem?_eq_getElem (by omega)]
        rw [List.getD_eq_getElem?_getD] at k2
        exact ⟨k1, k2⟩
    have z2 : gA (sA (sA h 272 pre.length (nI i)) 271 pre.length (-1)) 272 = up1 (gA h 272) pre.length (nI i) := by
      show up2 (up2 (gA h) 272 pre.length (nI i)) 271 pre.length (-1) 272 = _
      rw [up2_k (by decide), up2_r]
    have z1 : gA (sA (sA h 272 pre.length (nI i)) 271 pre.length (-1)) 271 = up1 (gA h 271) pre.length (-1) := by
      show up2 (up2 (gA h) 272 pre.length (nI i)) 271 pre.length (-1) 271 = _
      rw [up2_r, up2_k (by decide)]
    have plain : tsI bk f wk s S i = (s, S, none) → ∃ h', Q (d + 3) 120 7 [some (.ref 189), some (.int (nI f)), some (.int (nI wk)), some (.int (nI (pre.length + 1))), none, none, none] [] (sA (sA h 272 pre.length (nI i)) 271 pre.length (-1)) = some (none, h') ∧ RS h' (tsL bk f wk (i :: ys) s S).1 ∧ RSt h' (tsL bk f wk (i :: ys) s S).2.1 ∧ (∀ k (hk : k < l.length), gA h' 272 k = nI l[k] ∧ gA h' 271 k = oI ((os ++ (tsL bk f wk (i :: ys) s S).2.2).getD k none)) ∧ Fr [3678, 3691] XD h h' := fun et =>
      go _ s S none et R0 RT0 (f0.wk (by decide) (by decide)) (K0 _ z2 (-1) none z1 rfl)
    rw [t_120_7 hs, gd_nI (by omega) (by decide), ix_nI (by omega), r1, if_pos (nI_lt hpl (by omega)), pk_mul, nI_add, gd_nI (by omega) (by decide), ix_nI (by omega), r2k, gd_nI (by omega) (by decide), gd_nI (by omega) (by decide), gd_nI (by omega) (by decide), ix_nI (by omega), ix_nI (by omega), a5, nI_add]
    cases hp : iP s i with
    | none =>
      rw [if_pos (show oI none < nI 0 by decide)]
      exact plain (by unfold tsI; rw [hp])
    | some p =>
      have hpb := wi.2.2.2.2.2.2.2.2.2.2.2.1 p hp
      obtain ⟨-, -, c3, -, -, -, -, -, -, c10⟩ := B.2.2.2.1 p hpb
      have wpp := W.2.2.2.1 p hpb
      rw [show oI (some p) = nI p from rfl, if_neg (nI_nlt (by omega) (by omega)), hN, pk_mul, nI_add, gd_nI (by omega) (by decide), gd_nI (by omega) (by decide), ix_nI (by omega), c3, c10]
      simp only [show (nI (bk 9 p) = nI f) = (bk 9 p = f) from propext (nI_eq (by omega) (by omega)), show (nI (bk 16 p) = nI wk) = (bk 16 p = wk) from propext (nI_eq (by omega) (by omega))]
      by_cases q1 : bk 9 p = f
      · by_cases q2 : bk 16 p = wk
        · rw [if_pos q1, if_pos q2, gd_nI (by omega) (by decide), a6, r_mvI hs0 W w R0.2.2.2 hpb wi.2.2.2.2.2.2.1, cK_v, t_120_114 hs0]
          cases hm : mvI s p (iN s 4 i) with
          | some k =>
            obtain ⟨hk, -⟩ := mvI_s hm
            have wM := w.2.2.2.2.2.2.2.2.2.2.2.1
            have em : (sM s).getD k (0, 0, none) = (sM s)[k] := by
              rw [List.getD_eq_getElem?_getD, List.getElem?_eq_getElem hk]; rfl
            obtain ⟨h1, y1, y2, y3⟩ := r_sendAfter (d := d) (k := k) (o := f) hs0 W hv' (by rw [f0.I (by decide)]; exact hN) (B.fr f0 (by decide)) R0 w il hk (by omega)
            rw [show oI (some k) = nI k from rfl, if_neg (nI_nlt (by omega) (by omega)), y1, cK_n, t_120_130 (y2.sh hs0), nI_add]
            refine go h1 _ S none (by unfold tsI; rw [hp]; dsimp only; rw [if_pos ⟨q1, q2⟩, hm]; dsimp only; rw [em]) y3 (RT0.fr y2 (by decide) (by decide) (by decide)) ((f0.wk (by decide) (by decide)).trans (y2.wk (by decide) (by decide))) (K0 h1 ?_ (-1) none ?_ rfl)
            · rw [y2.A (by decide)]; exact z2
            · rw [y2.A (by decide)]; exact z1
          | none =>
            have n1 : 1 ≤ iN s 4 i / 27 := by omega
            have n2 : iN s 4 i / 27 ≤ 999 := by omega
            obtain ⟨pb1, pb2⟩ := pXY_b W hpb n1 n2
            have hN0 : gI (sA (sA h 272 pre.length (nI i)) 271 pre.length (-1)) 3597 189 = nI v := by rw [f0.I (by decide)]; exact hN
            have B0 := B.fr f0 (show ∀ x, x ∈ [271, 272] → x < 197 ∨ 232 < x by decide)
            obtain ⟨dx, dy⟩ := r_door (d := d + 2) hs0 W hv' hN0 B0 hpb wi.2.2.2.2.2.1 wi.2.2.2.2.2.2.1
            obtain ⟨h1, y1, y2, y3⟩ := r_stop (d := d + 2) pb1 pb2 hS S [] _ rfl hs0 RT0
            have y1 : Q (d + 2) 124 2 [some (.ref 189), some (.int (sC (pX bk p (iN s 4 i / 27)))), some (.int (sC (pY bk p (iN s 4 i / 27)))), some (.int (nI 0))] [] (sA (sA h 272 pre.length (nI i)) 271 pre.length (-1)) = _ := y1
            have a60 : gA (sA (sA h 272 pre.length (nI i)) 271 pre.length (-1)) 247 i = nI (iN s 4 i) := by rw [f0.A (by decide)]; exact a6
            have hs1 := y3.sh hs0
            rw [show oI none = -1 from rfl, if_pos (show (-1 : Int32) < nI 0 by decide), gd_nI (by omega) (by decide), ix_nI (by omega), a60, dx, cK_v, t_120_152 hs0, gd_nI (by omega) (by decide), ix_nI (by omega), a60, dy, cK_v, t_120_165 hs0, ck_ok (show gC _ 189 = 14 from ShC hs0 (by decide)), t_124 hs0, y1, cK_v, t_120_168 hs1, cw_ok (show gC _ 271 = 60 from ShC hs1 (by decide)) (by decide), show gK h1 271 = 200 from ShK hs1 (by decide), gd_nI (by omega) (by decide), ix_nI (by omega), nI_add]
            have f1 : Fr [3678, 3691] XD h h1 := (f0.wk (by decide) (by decide)).trans (y3.wk (by decide) (by decide))
            have R1 : RS h1 s := R0.fr y3 (by decide) (by decide)
            have key : ∀ (S1 : List (Nat × Nat)) (o1 : Option Nat), tsI bk f wk s S i = (s, S1, o1) → RSt h1 S1 → ∃ h', Q (d + 3) 120 7 [some (.ref 189), some (.int (nI f)), some (.int (nI wk)), some (.int (nI (pre.length + 1))), none, none, none] [] (sA h1 271 pre.length (oI o1)) = some (none, h') ∧ RS h' (tsL bk f wk (i :: ys) s S).1 ∧ RSt h' (tsL bk f wk (i :: ys) s S).2.1 ∧ (∀ k (hk : k < l.length), gA h' 272 k = nI l[k] ∧ gA h' 271 k = oI ((os ++ (tsL bk f wk (i :: ys) s S).2.2).getD k none)) ∧ Fr [3678, 3691] XD h h' := fun S1 o1 et RT1 => by
              have f2 : Fr [] [271] h1 (sA h1 271 pre.length (oI o1)) := Fr.rfl.sA (by decide)
              refine go _ s S1 o1 et (R1.fr f2 (by decide) (by decide)) (RT1.fr f2 (by decide) (by decide) (by decide)) (f1.trans (f2.wk (by decide) (by decide))) (K0 _ ?_ (oI o1) o1 ?_ rfl)
              · rw [f2.A (by decide), y3.A (by decide)]; exact z2
              · show up2 (gA h1) 271 pre.length (oI o1) 271 = _
                rw [up2_r, y3.A (by decide), z1]
                funext x
                by_cases q : x = pre.length
                · rw [q, up1_s, up1_s]
                · rw [up1_x q, up1_x q, up1_x q]
            have base : tsI bk f wk s S i = (match fdF (pX bk p (iN s 4 i / 27), pY bk p (iN s 4 i / 27)) S 0 with
                | some k => (s, S, some k)
                | none => if S.length < 8 then (s, S ++ [(pX bk p (iN s 4 i / 27), pY bk p (iN s 4 i / 27))], some S.length) else (s, S, none)) := by
              unfold tsI
              rw [hp]
              dsimp only
              rw [if_pos ⟨q1, q2⟩, hm]
              rfl
            have y2 : RSt h1 (match fdF (pX bk p (iN s 4 i / 27), pY bk p (iN s 4 i / 27)) S 0 with
                | some k => S
                | none => if S.length < 8 then S ++ [(pX bk p (iN s 4 i / 27), pY bk p (iN s 4 i / 27))] else S) := y2
            show ∃ h', Q (d + 3) 120 7 [some (.ref 189), some (.int (nI f)), some (.int (nI wk)), some (.int (nI (pre.length + 1))), none, none, none] [] (sA h1 271 pre.length (oI (match fdF (pX bk p (iN s 4 i / 27), pY bk p (iN s 4 i / 27)) S 0 with
                | some k => some k
                | none => if S.length < 8 then some S.length else none))) = some (none, h') ∧ _
            cases hf2 : fdF (pX bk p (iN s 4 i / 27), pY bk p (iN s 4 i / 27)) S 0 with
            | some k =>
              rw [hf2] at base y2
              exact key S (some k) base y2
            | none =>
              rw [hf2] at base y2
              dsimp only at base y2 ⊢
              by_cases h8 : S.length < 8
              · rw [if_pos h8] at base y2 ⊢
                exact key _ _ base y2
              · rw [if_neg h8] at base y2 ⊢
                exact key _ _ base y2
        · rw [if_pos q1, if_neg q2]
          exact plain (by unfold tsI; rw [hp]; dsimp only; rw [if_neg fun y => q2 y.2])
      · rw [if_neg q1]
        exact plain (by unfold tsI; rw [hp]; dsimp only; rw [if_neg fun y => q1 y.1])
end WK3
