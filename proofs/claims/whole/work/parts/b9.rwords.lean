/-! ===== WORDS: the reference takes them ===== -/
section RWD
variable {d : Nat} {bk : Bk} {t : Tp} {w : Nat}
/-- the tape that the reference reads -/
def RTk (h : AH) (t : Tp) : Prop := gI h 3591 189 = nI t.1 ∧ t.1 ≤ 4000 ∧ ∀ i, i < t.1 → gA h 193 i = nI (t.2 i) ∧ t.2 i < 128
theorem RTk.fr {K X : List Nat} {h h' : AH} (T : RTk h t) (f : Fr K X h h') (hK : 3591 ∉ K) (hX : 193 ∉ X) : RTk h' t := by
  unfold RTk at T ⊢; rw [f.I hK, f.A hX]; exact T
theorem pcd_or {c : Nat} : (97 ≤ smN c ∧ smN c ≤ 122) ∨ (48 ≤ c ∧ c ≤ 57) ↔ pcd c ≠ 0 := by
  unfold smN pcd
  by_cases q1 : 65 ≤ c ∧ c ≤ 90
  · rw [if_pos q1, if_pos q1]; omega
  · rw [if_neg q1, if_neg q1]
    by_cases q2 : 97 ≤ c ∧ c ≤ 122
    · rw [if_pos q2]; omega
    · rw [if_neg q2]
      by_cases q3 : 48 ≤ c ∧ c ≤ 57
      · rw [if_pos q3]; omega
      · rw [if_neg q3]; omega
theorem r_isOf {h : AH} (hs : Sh h) (T : RTk h t) {k : Nat} (hk : k < 5000) : E (d + 2) 65 [.ref 189, .int (nI k)] h = some (some (.int (nI (if k < t.1 ∧ pcd (t.2 k) ≠ 0 then 1 else 0))), h) := by
  obtain ⟨t1, t2, t3⟩ := T
  rw [t_65 hs, t1]
  by_cases q : k < t.1
  · obtain ⟨g1, g2⟩ := t3 k q
    rw [if_pos (nI_lt q (by omega)), gd_nI (by omega) (by decide), ix_nI (by omega), g1, r_small hs g2, cK_v, t_65_17 hs, r_letter hs (by unfold smN; split <;> omega), cK_v, t_65_20 hs]
    have hor := pcd_or (c := t.2 k)
    by_cases q1 : 97 ≤ smN (t.2 k) ∧ smN (t.2 k) ≤ 122
    · rw [if_pos q1, if_neg (by decide), if_pos ⟨q, hor.mp (Or.inl q1)⟩]
    · rw [if_neg q1, if_pos rfl, gd_nI (by omega) (by decide), ix_nI (by omega), g1, r_digit hs (by omega), cK_v, t_65_32 hs]
      by_cases q2 : 48 ≤ t.2 k ∧ t.2 k ≤ 57
      · rw [if_pos q2, if_neg (by decide), if_pos ⟨q, hor.mp (Or.inr q2)⟩]
      · rw [if_neg q2, if_pos rfl, if_neg fun z => (hor.mpr z.2).elim q1 q2]
  · rw [if_neg (nI_nlt (by omega) (by omega)), if_neg fun z => q z.1]
theorem r_shL {h : AH} (hs : Sh h) (W : WB bk) (R : RB h w bk) (hw : w ≤ 1) (ew : gI h 3597 189 = nI w) {p : Nat} (hp : p < 2 ^ 63) : ∀ (k j : Nat), k + j = bk 0 4 → Q d 67 2 [some (.ref 189), some (.long (lN p)), none, some (.int (nI j))] [] h = some (some (.long (lN (match shL bk p k j with
    | none => 0
    | some i => bk 6 i))), h)
  | 0, j, e => by
    have v4 := W.1.2.2.2.2
    obtain ⟨⟨-, -, -, -, r5⟩, -⟩ := R
    rw [t_67_2 hs, ew, gd_nI (by omega) (by decide), ix_nI (by omega), r5, if_neg (nI_nlt (by omega) (by omega))]; rfl
  | k + 1, j, e => by
    have v4 := W.1.2.2.2.2
    have wj := (W.2.2.1 j (by omega)).1
    have ih := r_shL hs W R hw ew hp k (j + 1) (by omega)
    obtain ⟨⟨-, -, -, -, r5⟩, -, r7, -⟩ := R
    obtain ⟨r8, r9⟩ := r7 j (by omega)
    rw [t_67_2 hs, ew, gd_nI (by omega) (by decide), ix_nI (by omega), r5, if_pos (nI_lt (by omega) (by omega)), pk_mul, nI_add, gd_nI (by omega) (by decide), ix_nI (by omega), r8, r9, gd_nI (by omega) (by decide), shL]
    simp only [l_eq (show bk 5 j < 2 ^ 63 from lt37 wj (by decide)) hp]
    by_cases q : bk 5 j = p
    · rw [if_pos q, if_pos q]
    · rw [if_neg q, if_neg q, nI_add]; exact ih
theorem r_short {h : AH} (hs : Sh h) (W : WB bk) (R : RB h w bk) (hw : w ≤ 1) (ew : gI h 3597 189 = nI w) {p : Nat} (hp : p < 2 ^ 63) : E (d + 1) 67 [.ref 189, .long (lN p)] h = some (some (.long (lN (match shL bk p (bk 0 4) 0 with
    | none => 0
    | some i => bk 6 i))), h) := by
  rw [t_67 hs]; exact r_shL hs W R hw ew hp _ 0 rfl
theorem RB.fw {h h' : AH} (R : RB h w bk) (f : Fr [3638, 3639] [233, 234, 235] h h') : RB h' w bk := R.fr f fun x hx => Or.inr ((by decide : ∀ x, x ∈ [233, 234, 235] → 232 < x) x hx)
/-- copying a word as it stands -/
theorem r_cp : ∀ (k a s : Nat) {h : AH}, Sh h → RTk h t → a + k ≤ t.1 → s + k < 1200 → gI h 3639 189 = nI s → (∀ i, a ≤ i → i < a + k → pcd (t.2 i) ≠ 0) → ∃ h', Q (d + 1) 64 135 [some (.ref 189), some (.int (nI (a + k))), none, none, none, none, none, some (.int (nI a))] [] h = Q (d + 1) 64 135 [some (.ref 189), some (.int (nI (a + k))), none, none, none, none, none, some (.int (nI (a + k)))] [] h' ∧ gI h' 3639 189 = nI (s + k) ∧ gA h' 233 = wrL (gA h 233) s ((sl (fun i => pcd (t.2 i)) a k).map asc) ∧ Fr [3639] [233] h h'
  | 0, a, s, h, hs, T, _, _, e, _ => ⟨h, rfl, e, by rw [sl, List.map_nil, wr_nil], Fr.rfl⟩
  | k + 1, a, s, h, hs, T, h1, h2, e, nz => by
    obtain ⟨t1, t2, t3⟩ := T
    obtain ⟨g1, g2⟩ := t3 a (by omega)
    have hf : Fr [3639] [233] h (sI (sA h 233 s (nI (smN (t.2 a)))) 3639 189 (nI (s + 1))) := (Fr.rfl.sA (List.mem_singleton.mpr rfl)).sI (List.mem_singleton.mpr rfl)
    obtain ⟨h', e', e2, w', f⟩ := r_cp k (a + 1) (s + 1) (hf.sh hs) (RTk.fr ⟨t1, t2, t3⟩ hf (by decide) (by decide)) (by omega) (by omega) gI_s (fun i h1 h2 => nz i (by omega) (by omega))
    refine ⟨h', ?_, by rw [e2]; congr 1; omega, ?_, hf.trans f⟩
    · rw [t_64_135 hs, if_pos (nI_lt (by omega) (by omega)), gd_nI (by omega) (by decide), ix_nI (by omega), g1, r_small hs g2, cK_v, t_64_159 hs, cw_ok hs.c233.1 (by decide), hs.c233.2, e, gd_nI (by omega) (by decide), ix_nI (by omega), nI_add, nI_add, show a + (k + 1) = a + 1 + k from by omega]
      exact e'
    · rw [w']
      show wrL (gA (sA h 233 s (nI (smN (t.2 a)))) 233) (s + 1) _ = _
      rw [gA_s, sl, List.map_cons, ← wr_cons, sm_asc (nz a (Nat.le_refl _) (by omega))]
/-- what stands where a short is looked for -/
def fuN (bk : Bk) (l : List Nat) : Nat := if 12 < l.length then 0 else match shL bk (pkN 0 l) (bk 0 4) 0 with
  | none => 0
  | some i => bk 6 i
theorem fu_ex {W : WB bk} {l : List Nat} : (fuN bk l = 0 → exW bk l = l) ∧ (fuN bk l ≠ 0 → exW bk l = ncod 12 (fuN bk l) ∧ ∃ i, i < bk 0 4 ∧ fuN bk l = bk 6 i) := by
  unfold fuN exW
  by_cases q : 12 < l.length
  · rw [if_pos q, if_pos q]; exact ⟨fun _ => rfl, fun z => absurd rfl z⟩
  · rw [if_neg q, if_neg q]
    cases e : shL bk (pkN 0 l) (bk 0 4) 0 with
    | none => exact ⟨fun _ => rfl, fun z => absurd rfl z⟩
    | some i =>
      have hi : i < bk 0 4 := by have := sh_b _ _ e; omega
      have := (W.2.2.1 i hi).2.1
      exact ⟨fun z => absurd z (by show ¬ bk 6 i = 0; omega), fun _ => ⟨rfl, i, hi, rfl⟩⟩
/-- the end of a word -/
theorem r_wend {h g : AH} (hg : Sh g) {ws : List (List Nat)} {l : List Nat} (C : RWs h ws) {x1 : Int32} (hl1 : ws.length < 82) (hl2 : (FL ws).length + l.length < 1200) (e0 : gI g 3638 189 = nI ws.length) (e1 : gI g 3639 189 = nI ((FL ws).length + l.length)) (e2 : gA g 234 = up1 (gA h 234) ws.length (nI (FL ws).length)) (e3 : gA g 235 = gA h 235) (e4 : gA g 233 = wrL (gA h 233) (FL ws).length (l.map asc)) (F : Fr [3638, 3639] [233, 234, 235] h g) : ∃ h', (gd (gI g 3638 189) 82 <| gd (gI g 3638 189) 82 <| gd (gI g 3639 189) 1200 <| Q d 64 12 [some (.ref 189), some (.int x1), none, none, none, none, none, none] [] (sI (sI (sA (sA g 235 (ix (gI g 3638 189)) ((gI g 3639 189) - (gA g 234 (ix (gI g 3638 189))))) 233 (ix (gI g 3639 189)) (nI 32)) 3639 189 ((gI g 3639 189) + (nI 1))) 3638 189 ((gI g 3638 189) + (nI 1)))) = Q d 64 12 [some (.ref 189), some (.int x1), none, none, none, none, none, none] [] h' ∧ RWs h' (ws ++ [l]) ∧ Fr [3638, 3639] [233, 234, 235] h h' := by
  rw [e0, e1, gd_nI hl1 (by decide), gd_nI hl1 (by decide), gd_nI hl2 (by decide), ix_nI (by omega), ix_nI (by omega), e2, show up1 (gA h 234) ws.length (nI (FL ws).length) ws.length = nI (FL ws).length from by unfold up1; rw [if_pos rfl], pk_sub (by omega), Nat.add_sub_cancel_left, nI_add, nI_add]
  refine ⟨_, rfl, ?_, (((F.sA (by decide)).sA (by decide)).sI (by decide)).sI (by decide)⟩
  have a233 : ∀ i, gA (sI (sI (sA (sA g 235 ws.length (nI l.length)) 233 ((FL ws).length + l.length) (nI 32)) 3639 189 (nI ((FL ws).length + l.length + 1))) 3638 189 (nI (ws.length + 1))) 233 i = up1 (wrL (gA h 233) (FL ws).length (l.map asc)) ((FL ws).length + l.length) (nI 32) i := fun i => by
    show up2 (up2 (gA g) 235 ws.length (nI l.length)) 233 ((FL ws).length + l.length) (nI 32) 233 i = _
    rw [up2_r, up2_k (by decide), e4]
  refine C.add gI_s ?_ ?_ ?_ (fun i hi => ?_) (fun i hi => ?_) ?_
  · show up2 (up2 (gI g) 3639 189 (nI ((FL ws).length + l.length + 1))) 3638 189 (nI (ws.length + 1)) 3639 189 = _
    rw [up2_k (by decide), up2_s]
  · show up2 (up2 (gA g) 235 ws.length (nI l.length)) 233 ((FL ws).length + l.length) (nI 32) 234 = _
    rw [up2_k (by decide), up2_k (by decide), e2]
  · show up2 (up2 (gA g) 235 ws.length (nI l.length)) 233 ((FL ws).length + l.length) (nI 32) 235 = _
    rw [up2_k (by decide), up2_r, e3]
  · rw [a233, gI_n (by omega), wr_out (Or.inl hi)]
  · rw [a233, gI_n (by omega), wr_in (by rw [List.length_map]; exact hi), List.getD_eq_getElem?_getD, List.getElem?_map, List.getElem?_eq_getElem hi, List.getD_eq_getElem?_getD, List.getElem?_eq_getElem hi]; rfl
  · rw [a233]; unfold up1; rw [if_pos rfl]
/-- a word, once its packed name has been looked up -/
theorem r_word {h : AH} (hs : Sh h) (W : WB bk) (N : WN bk) (T : RTk h t) {ws : List (List Nat)} (C : RWs h ws) {fr a : Nat} (V : WWb fr ws) (h1 : fr < a) (h2 : a ≤ t.1) (h3 : t.1 ≤ 80) (nz : ∀ i, fr ≤ i → i < a → pcd (t.2 i) ≠ 0) : ∃ h', Q (d + 2) 64 101 [some (.ref 189), some (.int (nI a)), some (.int (nI fr)), none, none, none, none, none] [.long (lN (fuN bk (sl (fun i => pcd (t.2 i)) fr (a - fr))))] h = Q (d + 2) 64 12 [some (.ref 189), some (.int (nI a)), none, none, none, none, none, none] [] h' ∧ RWs h' (ws ++ [exW bk (sl (fun i => pcd (t.2 i)) fr (a - fr))]) ∧ Fr [3638, 3639] [233, 234, 235] h h' := by
  obtain ⟨v1, v2, v3⟩ := V
  obtain ⟨c1, c2, -⟩ := id C
  have fx := fu_ex (W := W) (l := sl (fun i => pcd (t.2 i)) fr (a - fr))
  have hf : Fr [3638, 3639] [233, 234, 235] h (sA h 234 ws.length (nI (FL ws).length)) := Fr.rfl.sA (by decide)
  have hs1 := hf.sh hs
  have raw : (sl (fun i => pcd (t.2 i)) fr (a - fr)).length = a - fr := sl_l _ _
  by_cases q : fuN bk (sl (fun i => pcd (t.2 i)) fr (a - fr)) = 0
  · rw [fx.1 q, q, t_64_101 hs, c1, gd_nI (by omega) (by decide), if_neg (by rw [l_gt0 (by decide)]; omega), c2, ix_nI (by omega)]
    obtain ⟨g, eg, ig, wg, fg⟩ := r_cp (d := d + 1) (a - fr) fr (FL ws).length hs1 (T.fr hf (by decide) (by decide)) (by omega) (by omega) c2 (fun i h1 h2 => nz i h1 (by omega))
    rw [show fr + (a - fr) = a from by omega] at eg
    have fg' := fg.wk (K' := [3638, 3639]) (X' := [233, 234, 235]) (by decide) (by decide)
    rw [eg, t_64_135 (fg.sh hs1), if_neg (nI_nlt (Nat.le_refl _) (by omega))]
    refine r_wend (h := h) (fg.sh hs1) C (by omega) (by omega) ?_ (by rw [ig, raw]) ?_ ?_ ?_ (hf.trans fg')
    · rw [fg.I (by decide)]; exact c1
    · rw [fg.A (by decide), gA_s]
    · rw [fg.A (by decide)]
      show up2 (gA h) 234 ws.length (nI (FL ws).length) 235 = _
      rw [up2_k (by decide)]
    · rw [wg]
      show wrL (up2 (gA h) 234 ws.length (nI (FL ws).length) 233) _ _ = _
      rw [up2_k (by decide)]
  · obtain ⟨e1, i, hi, e2⟩ := fx.2 q
    have wi := W.2.2.1 i hi
    have nl := nc_l 12 (bk 6 i)
    rw [e1, e2]
    have q' : 0 < bk 6 i := wi.2.1
    obtain ⟨g, eg, ig, wg, fg⟩ := r_spell (d := d) (s := (FL ws).length) hs1 wi.2.2 (N.2.1 i hi) (by omega) c2
    have fg' := fg.wk (K' := [3638, 3639]) (X' := [233, 234, 235]) (by decide) (by decide)
    rw [t_64_101 hs, c1, gd_nI (by omega) (by decide), if_pos (by rw [l_gt0 (lt37 wi.2.2 (by decide))]; exact q'), c2, ix_nI (by omega), eg, cK_n, t_64_129 (fg.sh hs1)]
    refine r_wend (h := h) (fg.sh hs1) C (by omega) (by omega) ?_ ig ?_ ?_ ?_ (hf.trans fg')
    · rw [fg.I (by decide)]; exact c1
    · rw [fg.A (by decide), gA_s]
    · rw [fg.A (by decide)]
      show up2 (gA h) 234 ws.length (nI (FL ws).length) 235 = _
      rw [up2_k (by decide)]
    · rw [wg]
      show wrL (up2 (gA h) 234 ws.length (nI (FL ws).length) 233) _ _ = _
      rw [up2_k (by decide)]
end RWD
