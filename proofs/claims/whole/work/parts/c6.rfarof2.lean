/-! ===== how far a piece is: the reference, through ===== -/
section RFO
variable {d : Nat} {bk : Bk} {w0 : Nat} {ws : List (List Nat)} {u : Nat} {p s : Nat}
theorem r_233 {h : AH} {cw : Option Nat} {S O : List Nat} (F : RFo h bk w0 ws cw s S O) (V : WWb u ws) (hu : u ≤ 81) (hS : S.length ≤ 40) (hO : O.length ≤ 40) (hcw : ∀ c, cw = some c → 0 < c ∧ c < 1000) {g0 least hi w : Nat} (hg : g0 ≤ 3) (hl : least ≤ 4) (h2 : 2 ≤ w) (hw : w < ws.length) : ∃ h', cK (E (d + 2) 75 [.ref 189, .int (nI w - nI 1)] h) (Q (d + 2) 73 233 [some (.ref 189), none, some (.int (nI (60 * w0 + p))), some (.int (nI s)), some (.int (nI S.length)), some (.int (nI (s + S.length + 1))), some (.int (nI O.length)), some (.int (nI least)), none, some (.int (nI hi)), some (.int (nI (w))), some (.int (nI g0)), none]) [.int (gA h 234 1), .int (nI S.length), .int (nI s), .ref 189, .int (nI g0)] = Q (d + 2) 73 170 [some (.ref 189), none, some (.int (nI (60 * w0 + p))), some (.int (nI s)), some (.int (nI S.length)), some (.int (nI (s + S.length + 1))), some (.int (nI O.length)), some (.int (nI (min least (g0 + min (fsg ws S 1 w) 4 + if fsW cw w < ws.length ∧ g0 + min (fsg ws S 1 w) 4 < 4 then min (fsg ws O (fsW cw w) ws.length) 4 else 0)))), none, some (.int (nI hi)), some (.int (nI (w + 1))), none, none] [] h' ∧ Fr [] [236] h h' := by
  obtain ⟨hs, -, -, C, -, A, -⟩ := id F
  have v1 := V.1
  have s1 := (C.2.2.1 1 _ (gtD (ws := ws) (i := 1) (by omega))).1
  obtain ⟨o1, o2⟩ := off_l (ws := ws) (show 1 < w by omega) (by omega)
  obtain ⟨h1, e1, f1⟩ := r_fsg (d := d) hs C V hu A hS (show 1 < w by omega) (by omega)
  obtain ⟨h', e', f'⟩ := r_it (d := d) (p := p) (hi := hi) (w := w) (a := min (fsg ws S 1 w) 4) (F.fr f1) V hu hO hcw (by omega) hg hl hw
  refine ⟨h', ?_, f1.trans f'⟩
  rw [r_endOf hs C V hu (by omega) (by omega), cK_v, t_73_233 hs, ck_ok hs.c189, s1, pk_sub (by omega), e1, cK_v]
  exact e'
theorem r_fml {S O : List Nat} (V : WWb u ws) (hu : u ≤ 81) (hS : S.length ≤ 40) (hO : O.length ≤ 40) : ∀ (k w least : Nat) {h : AH}, RFo h bk w0 ws none s S O → k + w = ws.length → 2 ≤ w → least ≤ 4 → ∃ h', Q (d + 2) 73 170 [some (.ref 189), none, some (.int (nI (60 * w0 + p))), some (.int (nI s)), some (.int (nI S.length)), some (.int (nI (s + S.length + 1))), some (.int (nI O.length)), some (.int (nI least)), none, some (.int (nI (ws.length - 1))), some (.int (nI (w))), none, none] [] h = some (some (.int (nI (fmL ws S O k w least))), h') ∧ Fr [] [236] h h' := by
  intro k
  have v1 := V.1
  induction k with
  | zero =>
    intro w least h F e hw hl
    exact ⟨h, by rw [t_73_170 F.1, if_pos (nI_lt (by omega) (by omega))]; rfl, Fr.rfl⟩
  | succ k ih =>
    intro w least h F e hw hl
    obtain ⟨hs, -, -, C, ec, -⟩ := id F
    obtain ⟨h1, e1, f1⟩ := r_233 (d := d) (p := p) (g0 := 0) (least := least) (hi := ws.length - 1) (w := w) F V hu hS hO (fun c z => by cases z) (by decide) hl hw (by omega)
    have ea : min least (0 + min (fsg ws S 1 w) 4 + if fsW none w < ws.length ∧ 0 + min (fsg ws S 1 w) 4 < 4 then min (fsg ws O (fsW none w) ws.length) 4 else 0) = min least (fsg ws S 1 w + fsg ws O w ws.length) := by
      show min least (0 + min (fsg ws S 1 w) 4 + if w < ws.length ∧ 0 + min (fsg ws S 1 w) 4 < 4 then min (fsg ws O w ws.length) 4 else 0) = _
      generalize fsg ws S 1 w = a
      generalize fsg ws O w ws.length = b
      by_cases q : a < 4
      · rw [if_pos (by omega)]; omega
      · rw [if_neg (by omega)]; omega
    rw [ea] at e1
    obtain ⟨h', e', f'⟩ := ih (w + 1) (min least (fsg ws S 1 w + fsg ws O w ws.length)) (F.fr f1) (by omega) (by omega) (by omega)
    refine ⟨h', ?_, f1.trans f'⟩
    rw [t_73_170 hs, if_neg (nI_nlt (by omega) (by omega)), ec, if_neg co_n, e1, fmL]
    exact e'
theorem r_fm1 {S O : List Nat} (W : WB bk) (hw0 : w0 ≤ 1) (hp : p < bk 0 1) (V : WWb u ws) (hu : u ≤ 81) (hS : S.length ≤ 40) (hO : O.length ≤ 40) {c : Nat} {h : AH} (F : RFo h bk w0 ws (some c) s S O) (h2 : 2 ≤ c) (hc : c < ws.length) (hC : isC (ws.getD c []) = true) : ∃ h', Q (d + 2) 73 170 [some (.ref 189), none, some (.int (nI (60 * w0 + p))), some (.int (nI s)), some (.int (nI S.length)), some (.int (nI (s + S.length + 1))), some (.int (nI O.length)), some (.int (nI 4)), none, some (.int (nI c)), some (.int (nI (c))), none, none] [] h = some (some (.int (nI (faS ws (some c) S O (bk 2 (bk 9 p))))), h') ∧ Fr [] [236] h h' := by
  have v1 := V.1
  have w1 := W.1
  have wp := W.2.2.2.1 p hp
  have wo := W.2.1 (bk 9 p) (by omega)
  obtain ⟨hs, R, ew, C, ec, -⟩ := id F
  obtain ⟨-, r2, -, r4, -⟩ := R
  obtain ⟨-, -, r8, -⟩ := r4 p hp
  have r9 := (r2 (bk 9 p) (by omega)).2.1
  have ub := ug_b (w := ws.getD c []) (c := bk 2 (bk 9 p))
  obtain ⟨h', e', f'⟩ := r_233 (d := d) (p := p) (g0 := ugN (ws.getD c []) (bk 2 (bk 9 p))) (least := 4) (hi := c) (w := c) F V hu hS hO (fun c' z => by cases z; omega) ub (by decide) h2 hc
  have ea : min 4 (ugN (ws.getD c []) (bk 2 (bk 9 p)) + min (fsg ws S 1 c) 4 + if fsW (some c) c < ws.length ∧ ugN (ws.getD c []) (bk 2 (bk 9 p)) + min (fsg ws S 1 c) 4 < 4 then min (fsg ws O (fsW (some c) c) ws.length) 4 else 0) = faS ws (some c) S O (bk 2 (bk 9 p)) := by
    show min 4 (ugN (ws.getD c []) (bk 2 (bk 9 p)) + min (fsg ws S 1 c) 4 + if c + 1 < ws.length ∧ ugN (ws.getD c []) (bk 2 (bk 9 p)) + min (fsg ws S 1 c) 4 < 4 then min (fsg ws O (c + 1) ws.length) 4 else 0) = min 4 (ugN (ws.getD c []) (bk 2 (bk 9 p)) + fsg ws S 1 c + (if c + 1 < ws.length then fsg ws O (c + 1) ws.length else 0))
    generalize fsg ws S 1 c = a
    generalize fsg ws O (c + 1) ws.length = b
    generalize ugN (ws.getD c []) (bk 2 (bk 9 p)) = g
    by_cases q : c + 1 < ws.length
    · rw [if_pos q]
      by_cases z : g + min a 4 < 4
      · rw [if_pos ⟨q, z⟩]; omega
      · rw [if_neg fun y => z y.2]; omega
    · rw [if_neg q, if_neg fun y => q y.1]; omega
  rw [ea] at e'
  refine ⟨h', ?_, f'⟩
  rw [t_73_170 hs, if_neg (nI_nlt (Nat.le_refl _) (by omega)), ec, if_pos (co_s (by omega) (by omega)), gd_nI (by omega) (by decide), ix_nI (by omega), r8, ew, pk_mul, nI_add, gd_nI (by omega) (by decide), ix_nI (by omega), r9, r_ug hs C V hu (gtD hc) hC ec (by omega), cK_v, t_73_207 hs, e', t_73_170 (f'.sh hs), if_pos (nI_lt (by omega) (by omega))]
/-- how far a piece is -/
theorem r_farOf {h : AH} (hs : Sh h) (W : WB bk) (N : WN bk) (R : RB h w0 bk) (hw : w0 ≤ 1) (ew : gI h 3597 189 = nI w0) (C : RWs h ws) (V : WWb u ws) (hu : u ≤ 81) (hp : p < bk 0 1) (h2 : 2 ≤ ws.length) {cw : Option Nat} (ecw : cw = fcL ws (ws.length - 2) 2) (ec : gI h 3642 189 = coI cw) : ∃ h', E (d + 3) 73 [.ref 189, .int (nI p)] h = some (some (.int (nI (faS ws cw (stx bk p) (otx bk p) (bk 2 (bk 9 p))))), h') ∧ RWs h' ws ∧ Fr [3639] [233, 236] h h' := by
  have v1 := V.1
  have v2 := V.2.1
  have w1 := W.1
  have wp := W.2.2.2.1 p hp
  have wo := W.2.1 (bk 9 p) (by omega)
  have sl := stx_l (bk := bk) (p := p)
  have ol := nc_l 12 (bk 1 (bk 9 p))
  have ol' : (otx bk p).length ≤ 12 := ol
  obtain ⟨s, es⟩ : ∃ s, (FL ws).length = s := ⟨_, rfl⟩
  have c2 : gI h 3639 189 = nI s := by rw [C.2.1, es]
  obtain ⟨g, eg, ig, wg, fg⟩ := r_nml (d := d) (p := p) (s := s) W N hw hp (by omega) (f0 := gA h 233) (bk 8 p) 0 hs R ew rfl c2 (by rw [nmL, List.map_nil, wr_nil])
  have nm := nm_stx wp.1
  rw [nm, List.length_append, List.length_singleton] at ig
  rw [nm] at wg
  have hg := fg.sh hs
  have Rg := R.fn fg (by decide)
  have ewg : gI g 3597 189 = nI w0 := by rw [fg.I (by decide)]; exact ew
  obtain ⟨-, r2, -, r4, -⟩ := id Rg
  obtain ⟨-, r7, r8, -⟩ := r4 p hp
  have r9 := (r2 (bk 9 p) (by omega)).1
  obtain ⟨k, ek, ik, wk, fk⟩ := r_spell (d := d) (s := s + ((stx bk p).length + 1)) hg wo.2.1 (N.1 (bk 9 p) (by omega)) (by omega) ig
  have hk := fk.sh hg
  -- the row as it then stands
  have row : gA k 233 = wrL (gA h 233) s ((stx bk p ++ [0] ++ otx bk p).map asc) := by
    rw [wk, wg, List.map_append (l₂ := otx bk p), ← wr_wr, List.length_map, List.length_append, List.length_singleton]; rfl
  have ff : Fr [3639] [233] h (sI k 3639 189 (nI s)) := (fg.trans fk).sI (by decide)
  have tl : (stx bk p ++ [0] ++ otx bk p).length = (stx bk p).length + 1 + (otx bk p).length := by rw [List.length_append, List.length_append, List.length_singleton]
  have Ck : RWs (sI k 3639 189 (nI s)) ws := by
    refine ⟨by rw [ff.I (by decide)]; exact C.1, by rw [gI_s, es], ?_, fun i hi => ?_⟩
    · rw [ff.A (by decide), ff.A (by decide)]; exact C.2.2.1
    · show gA k 233 i = _
      rw [row, wr_out (Or.inl (by omega))]; exact C.2.2.2 i hi
  have F : RFo (sI k 3639 189 (nI s)) bk w0 ws cw s (stx bk p) (otx bk p) := by
    refine ⟨ff.sh hs, R.fn ff (by decide), by rw [ff.I (by decide)]; exact ew, Ck, by rw [ff.I (by decide)]; exact ec, ⟨by omega, fun i hi => ⟨?_, getD_lt (by decide) stx_m⟩⟩, ⟨by omega, fun i hi => ⟨?_, getD_lt (by decide) (nc_b _ _)⟩⟩⟩
    · show gA k 233 (s + i) = nI (asc ((stx bk p).getD i 0))
      rw [row, wr_in (by rw [List.length_map, tl]; omega), mp_g (by rw [tl]; omega), List.append_assoc, List.getD_eq_getElem?_getD, List.getElem?_append_left hi, ← List.getD_eq_getElem?_getD]
    · show gA k 233 (s + (stx bk p).length + 1 + i) = nI (asc ((otx bk p).getD i 0))
      rw [row, show s + (stx bk p).length + 1 + i = s + ((stx bk p).length + 1 + i) from by omega, wr_in (by rw [List.length_map, tl]; omega), mp_g (by rw [tl]; omega), List.getD_eq_getElem?_getD, List.getElem?_append_right (by rw [List.length_append, List.length_singleton]; omega), List.length_append, List.length_singleton, Nat.add_sub_cancel_left, ← List.getD_eq_getElem?_getD]
  have go : ∃ h', Q (d + 2) 73 110 [some (.ref 189), none, some (.int (nI (60 * w0 + p))), some (.int (nI s)), some (.int (nI (s + ((stx bk p).length + 1)) - nI s - nI 1)), some (.int (nI (s + ((stx bk p).length + 1)))), none, none, none, none, none, none, none] [] k = some (some (.int (nI (faS ws cw (stx bk p) (otx bk p) (bk 2 (bk 9 p))))), h') ∧ Fr [] [236] (sI k 3639 189 (nI s)) h' := by
    have ck1 : gI k 3642 189 = coI cw := by rw [fk.I (by decide), fg.I (by decide)]; exact ec
    have ck2 : gI k 3638 189 = nI ws.length := by rw [fk.I (by decide), fg.I (by decide)]; exact C.1
    rw [t_73_110 hk, ck1, ck2, ik, pk_sub (by omega), pk_sub (by omega), pk_sub (by omega), pk_sub (by omega), show s + ((stx bk p).length + 1) - s - 1 = (stx bk p).length from by omega, show s + ((stx bk p).length + 1) + (ncod 12 (bk 1 (bk 9 p))).length - (s + ((stx bk p).length + 1)) = (otx bk p).length from by show _ = (ncod 12 (bk 1 (bk 9 p))).length; omega, show s + ((stx bk p).length + 1) = s + (stx bk p).length + 1 from by omega]
    cases cw with
    | none =>
      rw [if_neg co_n, if_neg co_n]
      exact r_fml (d := d) (p := p) V hu (by omega) (by omega) (ws.length - 2) 2 4 F (by omega) (by decide) (by decide)
    | some c =>
      obtain ⟨f1, f2, f3⟩ := fc_b _ _ ecw.symm
      rw [if_pos (co_s (by omega) (by omega)), if_pos (co_s (by omega) (by omega))]
      exact r_fm1 (d := d) (p := p) W hw hp V hu (by omega) (by omega) F f1 (by omega) f3
  obtain ⟨h', e', f'⟩ := go
  refine ⟨h', ?_, Ck.fr f' (by decide) (by decide), (ff.wk (List.Subset.refl _) (by decide)).trans (f'.wk (List.nil_subset _) (by decide))⟩
  rw [t_73 hs, ew, c2, pk_mul, nI_add, eg, t_73_18 hg, gd_nI (by omega) (by decide), ix_nI (by omega), r7, if_neg (nI_nlt (Nat.le_refl _) (by omega)), gd_nI (by omega) (by decide), r8, ewg, pk_mul, nI_add, gd_nI (by omega) (by decide), ix_nI (by omega), r9, ek, cK_n, ig]
  exact e'
end RFO
