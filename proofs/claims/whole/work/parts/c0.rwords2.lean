/-! ===== WORDS: the reference's tape through ===== -/
section RWD
variable {d : Nat} {bk : Bk} {t : Tp} {w : Nat}
theorem pk_s {c : Nat → Nat} {a k : Nat} : pkN 0 (sl c a (k + 1)) = 37 * pkN 0 (sl c a k) + c (a + k) := by
  rw [sl_app]; unfold pkN; rw [List.foldl_append]; rfl
theorem r_scan {h : AH} (hs : Sh h) (W : WB bk) (R : RB h w bk) (hw : w ≤ 1) (ew : gI h 3597 189 = nI w) (T : RTk h t) {fr : Nat} {ws : List (List Nat)} : ∀ (m k : Nat), m + k = t.1 → fr ≤ k → (∀ i, fr ≤ i → i < k → pcd (t.2 i) ≠ 0) → ∃ e, k ≤ e ∧ e ≤ t.1 ∧ (e = t.1 ∨ pcd (t.2 e) = 0) ∧ (∀ i, fr ≤ i → i < e → pcd (t.2 i) ≠ 0) ∧ wl bk t.1 (fun i => pcd (t.2 i)) (t.1 + 1 - k) fr k ws = wl bk t.1 (fun i => pcd (t.2 i)) (t.1 + 1 - e) fr e ws ∧ Q (d + 2) 64 38 [some (.ref 189), some (.int (nI k)), some (.int (nI fr)), some (.long (lN (pkN 0 (sl (fun i => pcd (t.2 i)) fr (min (k - fr) 12))))), none, none, none, none] [] h = Q (d + 2) 64 101 [some (.ref 189), some (.int (nI e)), some (.int (nI fr)), none, none, none, none, none] [.long (lN (fuN bk (sl (fun i => pcd (t.2 i)) fr (e - fr))))] h := by
  intro m
  have t2 := T.2.1
  have stop : ∀ k, fr ≤ k → k ≤ t.1 → (k = t.1 ∨ pcd (t.2 k) = 0) → Q (d + 2) 64 38 [some (.ref 189), some (.int (nI k)), some (.int (nI fr)), some (.long (lN (pkN 0 (sl (fun i => pcd (t.2 i)) fr (min (k - fr) 12))))), none, none, none, none] [] h = Q (d + 2) 64 101 [some (.ref 189), some (.int (nI k)), some (.int (nI fr)), none, none, none, none, none] [.long (lN (fuN bk (sl (fun i => pcd (t.2 i)) fr (k - fr))))] h := fun k h1 h2 q => by
    rw [t_64_38 hs, r_isOf hs T (by omega), cK_v, t_64_43 hs, if_neg (c := k < t.1 ∧ pcd (t.2 k) ≠ 0) (fun z => q.elim (fun y => by omega) z.2), if_pos rfl, pk_sub h1]
    have sll := sl_l (c := fun i => pcd (t.2 i)) (k - fr) fr
    unfold fuN
    by_cases z : 12 < k - fr
    · rw [if_pos (nI_lt z (by omega)), if_pos (by rw [sll]; exact z)]; rfl
    · have pb : pkN 0 (sl (fun i => pcd (t.2 i)) fr (k - fr)) < 2 ^ 63 := lt37 (f := 0 + (sl (fun i => pcd (t.2 i)) fr (k - fr)).length) (pk_b _ 0 0 (by decide) (sl_m _ _ fun _ _ _ => pcd_b)) (by omega)
      rw [if_neg (nI_nlt (by omega) (by omega)), if_neg (by rw [sll]; exact z), Nat.min_eq_left (by omega), r_short hs W R hw ew pb, cK_v]
  induction m with
  | zero =>
    intro k e h1 nz
    exact ⟨k, Nat.le_refl _, by omega, Or.inl (by omega), nz, rfl, stop k h1 (by omega) (Or.inl (by omega))⟩
  | succ m ih =>
    intro k e h1 nz
    by_cases q : pcd (t.2 k) = 0
    · exact ⟨k, Nat.le_refl _, by omega, Or.inr q, nz, rfl, stop k h1 (by omega) (Or.inr q)⟩
    · obtain ⟨e', a1, a2, a3, a4, a5, a6⟩ := ih (k + 1) (by omega) (by omega) fun i h1 h2 => by
        by_cases z : i = k
        · rw [z]; exact q
        · exact nz i h1 (by omega)
      refine ⟨e', by omega, a2, a3, a4, ?_, ?_⟩
      · rw [show t.1 + 1 - k = (t.1 + 1 - (k + 1)) + 1 from by omega, wl, if_neg (fun z => z.elim (fun y => by omega) q)]; exact a5
      · rw [← a6]
        obtain ⟨g1, g2⟩ := T.2.2 k (by omega)
        rw [t_64_38 hs, r_isOf hs T (by omega), cK_v, t_64_43 hs, if_pos (c := k < t.1 ∧ pcd (t.2 k) ≠ 0) ⟨by omega, q⟩, if_neg (by decide), pk_sub h1]
        by_cases z : k - fr < 12
        · rw [if_pos (nI_lt z (by decide)), gd_nI (by omega) (by decide), ix_nI (by omega), g1, r_small hs g2, cK_v, t_64_68 hs, r_srank hs g2, cK_v, t_64_71 hs, nI_add, nI_l (Nat.lt_trans pcd_b (by decide)), show (37 : Int64) = lN 37 from rfl, lN_mul, lN_add, Nat.min_eq_left (by omega), Nat.min_eq_left (by omega), show k + 1 - fr = (k - fr) + 1 from by omega, pk_s, show fr + (k - fr) = k from by omega]
        · rw [if_neg (nI_nlt (by omega) (by omega)), nI_add, Nat.min_eq_right (by omega), Nat.min_eq_right (by omega)]
theorem r_twl (W : WB bk) (N : WN bk) (hw : w ≤ 1) (h3 : t.1 ≤ 80) : ∀ (m k : Nat) (ws : List (List Nat)) {h : AH}, t.1 ≤ k + m → k ≤ t.1 → Sh h → RB h w bk → gI h 3597 189 = nI w → RTk h t → RWs h ws → WWb k ws → ∃ h', Q (d + 2) 64 12 [some (.ref 189), some (.int (nI k)), none, none, none, none, none, none] [] h = some (none, h') ∧ RWs h' (wl bk t.1 (fun i => pcd (t.2 i)) (t.1 + 1 - k) k k ws) ∧ Fr [3638, 3639] [233, 234, 235] h h' := by
  intro m
  have fin : ∀ {h : AH} {ws : List (List Nat)}, Sh h → RTk h t → RWs h ws → ∃ h', Q (d + 2) 64 12 [some (.ref 189), some (.int (nI t.1)), none, none, none, none, none, none] [] h = some (none, h') ∧ RWs h' ws ∧ Fr [3638, 3639] [233, 234, 235] h h' := fun {h ws} hs T C => ⟨h, by rw [t_64_12 hs, T.1, if_neg (nI_nlt (Nat.le_refl _) (by omega))], C, Fr.rfl⟩
  induction m with
  | zero =>
    intro k ws h e1 e2 hs R ew T C V
    obtain rfl : k = t.1 := by omega
    rw [Nat.add_sub_cancel_left, wl_rest (Or.inl rfl), wl]
    exact fin hs T C
  | succ m ih =>
    intro k ws h e1 e2 hs R ew T C V
    by_cases z : k = t.1
    · subst z
      rw [Nat.add_sub_cancel_left, wl_rest (Or.inl rfl), wl]
      exact fin hs T C
    · rw [t_64_12 hs, T.1, if_pos (nI_lt (by omega) (by omega)), r_isOf hs T (by omega), cK_v, t_64_25 hs]
      by_cases q : pcd (t.2 k) = 0
      · rw [if_neg (c := k < t.1 ∧ pcd (t.2 k) ≠ 0) (fun z => z.2 q), if_pos rfl, nI_add, show t.1 + 1 - k = (t.1 + 1 - (k + 1)) + 1 from by omega, wl_rest (c := fun i => pcd (t.2 i)) (a := k) (Or.inr q)]
        exact ih (k + 1) ws (by omega) (by omega) hs R ew T C (V.up (by omega))
      · rw [if_pos (c := k < t.1 ∧ pcd (t.2 k) ≠ 0) ⟨by omega, q⟩, if_neg (by decide)]
        obtain ⟨e, a1, a2, a3, a4, a5, a6⟩ := r_scan (d := d) (fr := k) (ws := ws) hs W R hw ew T (t.1 - k) k (by omega) (Nat.le_refl _) (fun i h1 h2 => absurd h2 (by omega))
        have hke : k < e := by
          rcases a3 with a3 | a3
          · omega
          · by_cases y : e = k
            · rw [y] at a3; exact absurd a3 q
            · omega
        rw [Nat.sub_self] at a6
        obtain ⟨g, eg, cg, fg⟩ := r_word (d := d) hs W N T C V hke a2 h3 a4
        have V' := V.add (w := exW bk (sl (fun i => pcd (t.2 i)) k (e - k))) hke (by have := ex_l (bk := bk) (w := sl (fun i => pcd (t.2 i)) k (e - k)); rw [sl_l] at this; exact this) (ex_m N (sl_m _ _ fun i h1 h2 => ⟨a4 i h1 (by omega), pcd_b⟩))
        have hg := fg.sh hs
        have Tg := T.fr fg (by decide) (by decide)
        have e6 : Q (d + 2) 64 38 [some (.ref 189), some (.int (nI k)), some (.int (nI k)), some (.long 0), none, none, none, none] [] h = _ := a6
        rw [a5, e6, eg, show t.1 + 1 - e = (t.1 - e) + 1 from by omega, wl, if_pos a3, if_pos hke]
        by_cases y : e = t.1
        · subst y
          obtain ⟨h', e', c', f'⟩ := fin hg Tg cg
          refine ⟨h', e', ?_, fg.trans f'⟩
          rw [Nat.sub_self, wl]; exact c'
        · have ce : pcd (t.2 e) = 0 := a3.elim (fun z => absurd z y) id
          obtain ⟨h', e', c', f'⟩ := ih (e + 1) _ (by omega) (by omega) hg (R.fw fg) (by rw [fg.I (by decide)]; exact ew) Tg cg V'
          refine ⟨h', ?_, by rw [show t.1 - e = t.1 + 1 - (e + 1) from by omega]; exact c', fg.trans f'⟩
          rw [t_64_12 hg, Tg.1, if_pos (nI_lt (by omega) (by omega)), r_isOf hg Tg (by omega), cK_v, t_64_25 hg, if_neg (c := e < t.1 ∧ pcd (t.2 e) ≠ 0) (fun z => z.2 ce), if_pos rfl, nI_add]
          exact e'
theorem r_words {h : AH} (hs : Sh h) (W : WB bk) (N : WN bk) (R : RB h w bk) (hw : w ≤ 1) (ew : gI h 3597 189 = nI w) (T : RTk h t) (h3 : t.1 ≤ 80) : ∃ h', E (d + 3) 64 [.ref 189] h = some (none, h') ∧ RWs h' (wdS bk t) ∧ Fr [3638, 3639] [233, 234, 235] h h' := by
  have hf : Fr [3638, 3639] [233, 234, 235] h (sI (sI h 3638 189 (nI 0)) 3639 189 (nI 0)) := (Fr.rfl.sI (by decide)).sI (by decide)
  obtain ⟨h', e', c', f'⟩ := r_twl (d := d) W N hw h3 t.1 0 [] (by omega) (by omega) (hf.sh hs) (R.fw hf) (by rw [hf.I (by decide)]; exact ew) (T.fr hf (by decide) (by decide)) ⟨by show up2 (up2 (gI h) 3638 189 (nI 0)) 3639 189 (nI 0) 3638 189 = _; rw [up2_k (by decide), up2_s]; rfl, gI_s, (fun k w hk => by cases hk), fun i hi => absurd hi (Nat.not_lt_zero _)⟩ ⟨Nat.le_refl _, Nat.le_refl _, fun w hw => absurd hw List.not_mem_nil⟩
  exact ⟨h', by rw [t_64 hs]; exact e', c', hf.trans f'⟩
end RWD
