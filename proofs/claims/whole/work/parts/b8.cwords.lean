/-! ===== WORDS: the component reads them ===== -/
section CWD
variable {d : Nat} {bk : Bk} {G Cp : Nat → Nat → Nat} {b : Nat} {t : Tp}
theorem l_eq {a c : Nat} (ha : a < 2 ^ 63) (hc : c < 2 ^ 63) : (lg_cmp (lN a) (lN c) = nI 0) = (a = c) := by
  rw [c_eq]; exact propext (pk_lEQ ha hc)
theorem c_shL {h : AH} (hs : Sh h) (W : WB bk) (B : CB h b bk G Cp) {p : Nat} (hp : p < 2 ^ 63) : ∀ (k j : Nat), k + j = bk 0 4 → Q d 283 2 [some (.ref b), some (.long (lN p)), none, some (.int (nI j))] [] h = some (some (.int (match shL bk p k j with
    | none => -1
    | some i => nI i)), h)
  | 0, j, e => by
    have v4 := W.1.2.2.2.2
    obtain ⟨b1, -, -, ⟨-, -, -, -, -, -, -, -, b9, -⟩, -⟩ := B
    rw [t_283_2 hs, ck_ok b1, b9, if_neg (nI_nlt (by omega) (by omega))]; rfl
  | k + 1, j, e => by
    have v4 := W.1.2.2.2.2
    have wj := (W.2.2.1 j (by omega)).1
    have ih := c_shL hs W B hp k (j + 1) (by omega)
    obtain ⟨b1, -, -, ⟨b2, b3, b4, -, -, -, -, -, b9, b10⟩, -⟩ := B
    rw [t_283_2 hs, ck_ok b1, b9, if_pos (nI_lt (by omega) (by omega)), ck_ok b1, b2, Option.bind_some, ck_ok b3, b4, gd_nI (by omega) (by decide), ix_nI (by omega), (b10 j (by omega)).1, shL]
    simp only [l_eq (show bk 5 j < 2 ^ 63 from lt37 wj (by decide)) hp]
    by_cases q : bk 5 j = p
    · rw [if_pos q, if_pos q]
    · rw [if_neg q, if_neg q, nI_add]; exact ih
theorem c_short {h : AH} (hs : Sh h) (W : WB bk) (B : CB h b bk G Cp) {p : Nat} (hp : p < 2 ^ 63) : E (d + 1) 283 [.ref b, .long (lN p)] h = some (some (.int (match shL bk p (bk 0 4) 0 with
    | none => -1
    | some i => nI i)), h) := by
  rw [t_283 hs]; exact c_shL hs W B hp _ 0 rfl
theorem Sh.t101 {h : AH} (hs : Sh h) : gC h 101 = 12 ∧ gR h 3072 101 = some 102 ∧ gC h 102 = 62 ∧ gK h 102 = 4000 := ⟨by rw [← congrFun hs.c 101]; rfl, by rw [← congrFun (congrFun hs.r 3072) 101]; rfl, by rw [← congrFun hs.c 102]; rfl, by rw [← congrFun hs.k 102]; rfl⟩
theorem Sh.c104 {h : AH} (hs : Sh h) : gC h 104 = 60 ∧ gK h 104 = 613 := ⟨by rw [← congrFun hs.c 104]; rfl, by rw [← congrFun hs.k 104]; rfl⟩
theorem Sh.c106 {h : AH} (hs : Sh h) : gC h 106 = 60 ∧ gK h 106 = 41 := ⟨by rw [← congrFun hs.c 106]; rfl, by rw [← congrFun hs.k 106]; rfl⟩
theorem CT.fr {K X : List Nat} {h h' : AH} (T : CT h t) (f : Fr K X h h') (hK : 3073 ∉ K) (hX : 102 ∉ X) : CT h' t := by
  unfold CT at T ⊢; rw [f.I hK, f.A hX]; exact T
theorem CT.sg {h : AH} (T : CT h t) {i : Nat} (hi : i < t.1) : gA h 102 i = nI (t.2 i) ∧ t.2 i < 128 := by
  obtain ⟨a, b⟩ := T.2.2 i hi; exact ⟨a, by omega⟩
theorem c_wlp {fr : Nat} {st : Int32} : ∀ (k a s acc : Nat) {h : AH}, Sh h → CT h t → a + k ≤ t.1 → s + k ≤ 613 → ∃ h', Q (d + 2) 297 51 [some (.ref 103), some (.ref 101), some (.int (nI fr)), some (.int (nI (a + k))), some (.ref b), some (.int st), some (.int (nI s)), some (.long (lN acc)), none, some (.int (nI a))] [] h = Q (d + 2) 297 51 [some (.ref 103), some (.ref 101), some (.int (nI fr)), some (.int (nI (a + k))), some (.ref b), some (.int st), some (.int (nI (s + k))), some (.long (lN (pkN acc (sl (fun i => pcd (t.2 i)) a k)))), none, some (.int (nI (a + k)))] [] h' ∧ gA h' 104 = wrL (gA h 104) s (sl (fun i => pcd (t.2 i)) a k) ∧ Fr [] [104] h h'
  | 0, a, s, acc, h, hs, T, _, _ => ⟨h, rfl, by rw [sl, wr_nil], Fr.rfl⟩
  | k + 1, a, s, acc, h, hs, T, h1, h2 => by
    obtain ⟨s1, s2, s3, s4⟩ := hs.t101
    obtain ⟨g1, g2⟩ := T.sg (i := a) (by omega)
    have tl := T.2.1
    have hf : Fr [] [104] h (sA h 104 s (nI (pcd (t.2 a)))) := Fr.rfl.sA (List.mem_singleton.mpr rfl)
    obtain ⟨h', e', w, f⟩ := c_wlp k (a + 1) (s + 1) (37 * acc + pcd (t.2 a)) (hf.sh hs) (T.fr hf (by decide) (by decide)) (by omega) (by omega)
    refine ⟨h', ?_, ?_, hf.trans f⟩
    · rw [t_297_51 hs, if_pos (nI_lt (by omega) (by omega)), ck_ok s1, s2, Option.bind_some, ck_ok s3, s4, gd_nI (by omega) (by decide), ix_nI (by omega), g1, c_plain hs g2, cK_v, t_297_73 hs, cw_ok hs.c104.1 (by decide), hs.c104.2, gd_nI (by omega) (by decide), gd_nI (by omega) (by decide), ix_nI (by omega), nI_add, nI_add, gA_s, up1, if_pos rfl, nI_l (Nat.lt_trans pcd_b (by decide)), show (37 : Int64) = lN 37 from rfl, lN_mul, lN_add, show acc * 37 + pcd (t.2 a) = 37 * acc + pcd (t.2 a) from by omega]
      rw [show a + (k + 1) = a + 1 + k from by omega, show s + (k + 1) = s + 1 + k from by omega]
      exact e'
    · rw [w, gA_s, sl, wr_cons]
theorem CB.fw {h h' : AH} (B : CB h b bk G Cp) (f : Fr [1028] [104, 105, 106] h h') : CB h' b bk G Cp := B.fr f (by decide) fun x hx => Or.inl ((by decide : ∀ x, x ∈ [104, 105, 106] → x < 157) x hx)
/-- one word more -/
theorem c_addWord {h : AH} (hs : Sh h) (W : WB bk) (B : CB h b bk G Cp) (T : CT h t) {ws : List (List Nat)} (C : CWs h ws) {fr a : Nat} (V : WWb fr ws) (h1 : fr < a) (h2 : a ≤ t.1) (h3 : t.1 ≤ 80) : ∃ h', E (d + 3) 297 [.ref 103, .ref 101, .int (nI fr), .int (nI a), .ref b] h = some (none, h') ∧ CWs h' (ws ++ [exW bk (sl (fun i => pcd (t.2 i)) fr (a - fr))]) ∧ Fr [1028] [104, 105, 106] h h' := by
  obtain ⟨v1, v2, v3⟩ := V
  obtain ⟨c1, c2, c3⟩ := C
  -- the start
  have st : ∃ h1, E (d + 3) 297 [.ref 103, .ref 101, .int (nI fr), .int (nI a), .ref b] h = Q (d + 2) 297 51 [some (.ref 103), some (.ref 101), some (.int (nI fr)), some (.int (nI a)), some (.ref b), some (.int (nI (FL ws).length)), some (.int (nI (FL ws).length)), some (.long 0), none, some (.int (nI fr))] [] h1 ∧ (∀ i, i < (FL ws).length → gA h1 104 i = nI ((FL ws).getD i 0)) ∧ Fr [] [104] h h1 := by
    rw [t_297 hs, c1]
    simp only [show (nI ws.length = nI 0) = (ws.length = 0) from propext (nI_eq (by omega) (by decide))]
    by_cases q : ws.length = 0
    · have : ws = [] := List.length_eq_zero_iff.mp q
      subst this
      refine ⟨h, ?_, fun i hi => absurd hi (Nat.not_lt_zero _), Fr.rfl⟩
      rw [if_pos q, t_297_24 hs, if_neg (by decide)]; rfl
    · obtain ⟨m, em⟩ : ∃ m, ws.length = m + 1 := ⟨ws.length - 1, by omega⟩
      have hm : m < ws.length := by omega
      have e1 := List.getElem?_eq_getElem hm
      have e2 := off_s e1
      rw [← em, off_n] at e2
      have e3 := (c2 m _ e1).2
      refine ⟨sA h 104 ((FL ws).length - 1) (nI 0), ?_, fun i hi => ?_, Fr.rfl.sA (List.mem_singleton.mpr rfl)⟩
      · rw [if_neg q, pk_sub (by omega), gd_nI (by omega) (by decide), ix_nI (by omega), show ws.length - 1 = m from by omega, e3, nI_add, ← e2, t_297_24 hs, if_pos (nI_lt (by omega) (by omega)), pk_sub (by omega), gd_nI (by omega) (by decide), ix_nI (by omega)]
      · rw [gA_s, up1]
        by_cases z : i = (FL ws).length - 1
        · rw [if_pos z, z]
          have : FL ws = FL (ws.take m) ++ (ws[m] ++ [0]) := by rw [← FL_app, List.take_append_getElem hm, ← em, List.take_length]
          rw [this, ← List.append_assoc, List.length_append, List.length_singleton, Nat.add_sub_cancel, List.getD_eq_getElem?_getD, List.getElem?_append_right (Nat.le_refl _), Nat.sub_self]; rfl
        · rw [if_neg z]; exact c3 i (by omega)
  obtain ⟨g1, eg, rg, fg⟩ := st
  have hs1 := fg.sh hs
  have T1 := T.fr fg (by decide) (by decide)
  obtain ⟨g2, e2, w2, f2⟩ := c_wlp (d := d) (b := b) (fr := fr) (st := nI (FL ws).length) (a - fr) fr (FL ws).length 0 hs1 T1 (by omega) (by omega)
  rw [show fr + (a - fr) = a from by omega] at e2
  have hs2 := f2.sh hs1
  have f02 : Fr [1028] [104, 105, 106] h g2 := (fg.trans f2).wk (List.nil_subset _) (by decide)
  have B2 := B.fw f02
  have cI : gI g2 1028 103 = nI ws.length := by rw [(fg.trans f2).I (by decide)]; exact c1
  have raw : (sl (fun i => pcd (t.2 i)) fr (a - fr)).length = a - fr := sl_l _ _
  have rb : ∀ x, x ∈ sl (fun i => pcd (t.2 i)) fr (a - fr) → x < 37 := sl_m _ _ fun _ _ _ => pcd_b
  generalize sl (fun i => pcd (t.2 i)) fr (a - fr) = rw_ at *
  have old : ∀ i, i < (FL ws).length → gA g2 104 i = nI ((FL ws).getD i 0) := fun i hi => by rw [w2, wr_out (Or.inl hi)]; exact rg i hi
  have a105 : gA g2 105 = gA h 105 := (fg.trans f2).A (by decide)
  have a106 : gA g2 106 = gA h 106 := (fg.trans f2).A (by decide)
  -- as it stands
  have asis : exW bk rw_ = rw_ → CWs (sI (sA (sA g2 105 ws.length (nI (FL ws).length)) 106 ws.length (nI ((FL ws).length + (a - fr)))) 1028 103 (nI (ws.length + 1))) (ws ++ [exW bk rw_]) ∧ Fr [1028] [104, 105, 106] h (sI (sA (sA g2 105 ws.length (nI (FL ws).length)) 106 ws.length (nI ((FL ws).length + (a - fr)))) 1028 103 (nI (ws.length + 1))) := fun ex => by
    rw [ex]
    refine ⟨CWs.add (h := h) ⟨c1, c2, c3⟩ gI_s ?_ ?_ old ?_, ((f02.sA (by decide)).sA (by decide)).sI (by decide)⟩
    · show up2 (up2 (gA g2) 105 ws.length (nI (FL ws).length)) 106 ws.length (nI ((FL ws).length + (a - fr))) 105 = _
      rw [up2_k (by decide), up2_r, a105]
    · show up2 (up2 (gA g2) 105 ws.length (nI (FL ws).length)) 106 ws.length (nI ((FL ws).length + (a - fr))) 106 = _
      rw [up2_r, up2_k (by decide), a106, raw]
    · intro i hi
      show gA g2 104 _ = _
      rw [w2, wr_in hi]
  rw [eg, show (0 : Int64) = lN 0 from rfl, e2, t_297_51 hs2, if_neg (nI_nlt (Nat.le_refl _) (by omega)), pk_sub (by omega), cI]
  by_cases q : 12 < a - fr
  · have ex : exW bk rw_ = rw_ := by unfold exW; rw [if_pos (by omega)]
    obtain ⟨r1, r2⟩ := asis ex
    exact ⟨_, by rw [if_pos (nI_lt q (by omega)), gd_nI (by omega) (by decide), if_pos rfl, gd_nI (by omega) (by decide), ix_nI (by omega), nI_add], r1, r2⟩
  · have pb : pkN 0 rw_ < 2 ^ 63 := lt37 (f := 0 + rw_.length) (pk_b rw_ 0 0 (by decide) rb) (by omega)
    rw [if_neg (nI_nlt (by omega) (by omega)), ck_ok B2.1, c_short hs2 W B2 pb, cK_v, t_297_115 hs2, cI, gd_nI (by omega) (by decide)]
    cases e : shL bk (pkN 0 rw_) (bk 0 4) 0 with
    | none =>
      have ex : exW bk rw_ = rw_ := by unfold exW; rw [if_neg (by omega), e]
      obtain ⟨r1, r2⟩ := asis ex
      exact ⟨_, by rw [if_pos rfl, gd_nI (by omega) (by decide), ix_nI (by omega), nI_add], r1, r2⟩
    | some i =>
      have hi : i < bk 0 4 := by have := sh_b _ _ e; omega
      have v4 := W.1.2.2.2.2
      have wi := W.2.2.1 i hi
      have ex : exW bk rw_ = ncod 12 (bk 6 i) := by unfold exW; rw [if_neg (by omega), e]
      obtain ⟨b1, -, -, ⟨-, -, -, -, -, b7, b8, b9, -, b11⟩, -⟩ := B2
      have hs3 : Sh (sA g2 105 ws.length (nI (FL ws).length)) := hs2.sA
      obtain ⟨g4, e4, w4, f4⟩ := c_unpack (d := d + 1) (s := (FL ws).length) hs3 wi.2.2 (by omega)
      have hs4 := f4.sh hs3
      have nn : ¬ nI i = -1 := fun z => by
        have : (nI i).toInt = (-1 : Int32).toInt := by rw [z]
        rw [nI_toInt (by omega)] at this
        have : (-1 : Int32).toInt = -1 := by decide
        omega
      refine ⟨sI (sA g4 106 ws.length (nI ((FL ws).length + (ncod 12 (bk 6 i)).length))) 1028 103 (nI (ws.length + 1)), ?_, ?_, ?_⟩
      · show (if nI i = -1 then _ else _) = _
        rw [if_neg nn, ck_ok b1, b7, Option.bind_some, ck_ok b8, b9, gd_nI (by omega) (by decide), ix_nI (by omega), ix_nI (by omega), (b11 i hi).2, e4, cK_v, t_297_167 hs4, cw_ok hs4.c106.1 (by decide), hs4.c106.2, gd_nI (by omega) (by decide), ix_nI (by omega), nI_add, show gI g4 1028 103 = nI ws.length from by rw [f4.I (by decide)]; exact cI, nI_add]
      · rw [ex]
        refine CWs.add (h := h) ⟨c1, c2, c3⟩ gI_s ?_ ?_ ?_ ?_
        · show up2 (gA g4) 106 ws.length (nI ((FL ws).length + (ncod 12 (bk 6 i)).length)) 105 = _
          rw [up2_k (by decide), f4.A (by decide), gA_s, a105]
        · show up2 (gA g4) 106 ws.length (nI ((FL ws).length + (ncod 12 (bk 6 i)).length)) 106 = _
          rw [up2_r, f4.A (by decide)]
          show up1 (up2 (gA g2) 105 ws.length (nI (FL ws).length) 106) _ _ = _
          rw [up2_k (by decide), a106]
        · intro i' hi'
          show gA g4 104 i' = _
          rw [w4, wr_out (Or.inl hi')]
          show up2 (gA g2) 105 ws.length (nI (FL ws).length) 104 i' = _
          rw [up2_k (by decide)]; exact old i' hi'
        · intro i' hi'
          show gA g4 104 _ = _
          rw [w4, wr_in hi']
      · exact (((f02.sA (by decide)).trans (f4.wk (List.nil_subset _) (by decide))).sA (by decide)).sI (by decide)
theorem c_rdl (W : WB bk) (N : WN bk) (h3 : t.1 ≤ 80) : ∀ (k fr a : Nat) (ws : List (List Nat)) {h : AH}, Sh h → CB h b bk G Cp → CT h t → CWs h ws → WWb fr ws → fr ≤ a → k + a = t.1 + 1 → (∀ i, fr ≤ i → i < a → pcd (t.2 i) ≠ 0) → ∃ h', Q (d + 3) 242 10 [some (.ref 103), some (.ref 101), some (.ref b), some (.int (nI fr)), some (.int (nI a))] [] h = some (none, h') ∧ CWs h' (wl bk t.1 (fun i => pcd (t.2 i)) k fr a ws) ∧ Fr [1028] [104, 105, 106] h h'
  | 0, fr, a, ws, h, hs, B, T, C, V, h1, e, nz => by
    refine ⟨h, ?_, C, Fr.rfl⟩
    rw [t_242_10 hs, ck_ok hs.t101.1, T.1, if_pos (nI_lt (by omega) (by omega))]
  | k + 1, fr, a, ws, h, hs, B, T, C, V, h1, e, nz => by
    obtain ⟨s1, s2, s3, s4⟩ := hs.t101
    have end' : (a = t.1 ∨ pcd (t.2 a) = 0) → ∃ h', (if nI fr < nI a then (if gI h 1028 103 < nI 41 then cK (E (d + 3) 297 [.ref 103, .ref 101, .int (nI fr), .int (nI a), .ref b] h) (Q (d + 3) 242 65 [some (.ref 103), some (.ref 101), some (.ref b), none, some (.int (nI a))]) [] else Q (d + 3) 242 65 [some (.ref 103), some (.ref 101), some (.ref b), none, some (.int (nI a))] [] h) else Q (d + 3) 242 65 [some (.ref 103), some (.ref 101), some (.ref b), none, some (.int (nI a))] [] h) = some (none, h') ∧ CWs h' (wl bk t.1 (fun i => pcd (t.2 i)) (k + 1) fr a ws) ∧ Fr [1028] [104, 105, 106] h h' := fun q => by
      rw [wl, if_pos q]
      by_cases w : fr < a
      · obtain ⟨g, eg, cg, fg⟩ := c_addWord (d := d) hs W B T C V w (by omega) h3
        have V' := V.add (w := exW bk (sl (fun i => pcd (t.2 i)) fr (a - fr))) w (by have := ex_l (bk := bk) (w := sl (fun i => pcd (t.2 i)) fr (a - fr)); rw [sl_l] at this; exact this) (ex_m N (sl_m _ _ fun i h1 h2 => ⟨nz i h1 (by omega), pcd_b⟩))
        obtain ⟨h', e', c', f'⟩ := c_rdl W N h3 k (a + 1) (a + 1) _ (fg.sh hs) (B.fw fg) (T.fr fg (by decide) (by decide)) cg V' (Nat.le_refl _) (by omega) (fun i h1 h2 => absurd h2 (by omega))
        refine ⟨h', ?_, by rw [if_pos w]; exact c', fg.trans f'⟩
        have v1 := V.1
        rw [if_pos (nI_lt w (by omega)), C.1, if_pos (nI_lt (by omega) (by decide)), eg, cK_n, t_242_65 (fg.sh hs), nI_add]
        exact e'
      · obtain ⟨h', e', c', f'⟩ := c_rdl W N h3 k (a + 1) (a + 1) ws hs B T C (V.up (by omega)) (Nat.le_refl _) (by omega) (fun i h1 h2 => absurd h2 (by omega))
        refine ⟨h', ?_, by rw [if_neg w]; exact c', f'⟩
        rw [if_neg (nI_nlt (by omega) (by omega)), t_242_65 hs, nI_add]
        exact e'
    rw [t_242_10 hs, ck_ok s1, ck_ok s1, T.1, if_neg (nI_nlt (by omega) (by omega))]
    simp only [show (nI a = nI t.1) = (a = t.1) from propext (nI_eq (by omega) (by omega))]
    by_cases q : a = t.1
    · rw [if_pos q]; exact end' (Or.inl q)
    · obtain ⟨g1, g2⟩ := T.sg (i := a) (by omega)
      rw [if_neg q, ck_ok s1, s2, Option.bind_some, ck_ok s3, s4, gd_nI (by omega) (by decide), ix_nI (by omega), g1, c_plain hs g2, cK_v, t_242_38 hs]
      simp only [show (nI (pcd (t.2 a)) = nI 0) = (pcd (t.2 a) = 0) from propext (nI_eq (Nat.lt_trans pcd_b (by decide)) (by decide))]
      by_cases w : pcd (t.2 a) = 0
      · rw [if_pos w]; exact end' (Or.inr w)
      · obtain ⟨h', e', c', f'⟩ := c_rdl W N h3 k fr (a + 1) ws hs B T C V (by omega) (by omega) (fun i h1 h2 => by
          by_cases z : i = a
          · rw [z]; exact w
          · exact nz i h1 (by omega))
        refine ⟨h', ?_, ?_, f'⟩
        · rw [if_neg w, nI_add]; exact e'
        · rw [wl, if_neg (fun z => z.elim q w)]; exact c'
/-- the words of a tape -/
def wdS (bk : Bk) (t : Tp) : List (List Nat) := wl bk t.1 (fun i => pcd (t.2 i)) (t.1 + 1) 0 0 []
theorem c_words {h : AH} (hs : Sh h) (W : WB bk) (N : WN bk) (B : CB h b bk G Cp) (T : CT h t) (h3 : t.1 ≤ 80) : ∃ h', E (d + 4) 242 [.ref 103, .ref 101, .ref b] h = some (none, h') ∧ CWs h' (wdS bk t) ∧ Fr [1028] [104, 105, 106] h h' := by
  have hf : Fr [1028] [104, 105, 106] h (sI h 1028 103 (nI 0)) := Fr.rfl.sI (by decide)
  obtain ⟨h', e', c', f'⟩ := c_rdl (d := d) W N h3 (t.1 + 1) 0 0 [] (hf.sh hs) (B.fw hf) (T.fr hf (by decide) (by decide)) ⟨gI_s, (fun k w hk => by cases hk), fun i hi => absurd hi (Nat.not_lt_zero _)⟩ ⟨Nat.le_refl _, Nat.le_refl _, fun w hw => absurd hw List.not_mem_nil⟩ (Nat.le_refl _) (by omega) (fun i h1 h2 => absurd h2 (by omega))
  exact ⟨h', by rw [t_242 hs]; exact e', c', hf.trans f'⟩
theorem wd_b (N : WN bk) : WWb (t.1 + 1) (wdS bk t) := WWb.wls N (fun _ => pcd_b) _ 0 0 [] ⟨Nat.le_refl _, Nat.le_refl _, fun w hw => absurd hw List.not_mem_nil⟩ (Nat.le_refl _) (by omega) (fun i h1 h2 => absurd h2 (by omega))
end CWD
