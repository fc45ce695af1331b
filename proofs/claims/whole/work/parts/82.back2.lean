/-! ===== GIVEN BACK: both sides ===== -/
/-- the shelf of f from its place k on, m items left, n given back -/
def gbF (bk : Bk) (f : Nat) : Nat → Nat → Nat → St → St × Nat
  | 0, _, n, s => (s, n)
  | m + 1, k, n, s => if iP s ((sH s f).getD k 0) = none ∧ iN s 2 ((sH s f).getD k 0) = f then gbF bk f m k (n + 1) (dlS bk s ((sH s f).getD k 0) f 4 5) else gbF bk f m (k + 1) n s
theorem oI_m1 {p : Option Nat} (hp : ∀ q, p = some q → q < 60) : (oI p = -1 ↔ p = none) ∧ (oI p < nI 0 ↔ p = none) := by
  cases p with
  | none => exact ⟨⟨fun _ => rfl, fun _ => rfl⟩, ⟨fun _ => rfl, fun _ => by decide⟩⟩
  | some q =>
    have h1 := hp q rfl
    have : ∀ j, j < 60 → ¬ nI j = -1 ∧ ¬ nI j < nI 0 := by decide
    exact ⟨⟨fun w => absurd w (this q h1).1, fun w => by cases w⟩, ⟨fun w => absurd w (this q h1).2, fun w => by cases w⟩⟩
section GBK
variable {d : Nat} {b : Nat} {bk : Bk}
theorem c_back_lp (W : WB bk) {f : Nat} (hf : f < bk 0 0) : ∀ (m k n : Nat) (h : AH) (s : St) (G Cp : Nat → Nat → Nat), k + m = (sH s f).length → n + m < 1000 → CSt h b bk s G Cp → WS bk s → capB bk s Cp →
    ∃ h', Q (d + 4) 205 29 [some (.ref 156), some (.int (nI f)), some (.ref (G 5 f)), some (.int (nI n)), some (.int (nI k)), some (.int (nI m)), none] [] h = some (some (.int (nI (gbF bk f m k n s).2)), h') ∧ CSt h' b bk (gbF bk f m k n s).1 G Cp ∧ WS bk (gbF bk f m k n s).1 ∧ capB bk (gbF bk f m k n s).1 Cp ∧ h'.1 = h.1 ∧ GFc h h'
  | 0, k, n, h, s, G, Cp, e, hn, C, w, hcb => by
    refine ⟨h, ?_, C, w, hcb, rfl, GF.rfl⟩
    rw [t_205_29 C.1, if_neg (by decide)]
    rfl
  | m + 1, k, n, h, s, G, Cp, e, hn, C, w, hcb => by
    have w0 := W.1.1
    have wp := W.1.2.1
    obtain ⟨hs, hw, hb, B, C1, C2⟩ := id C
    have A := C2.2.2 (10 + f) (Or.inr (Or.inl ⟨by omega, by omega⟩)) (Or.inr (by omega))
    rw [lX_sh (by omega), lo_sh (by omega)] at A
    have hl := (w.len f).1
    have hk : k < (sH s f).length := by omega
    have hm : (sH s f).getD k 0 ∈ sH s f := by rw [getD_ix hk]; exact List.getElem_mem hk
    obtain ⟨i1, i2, i3⟩ := ((w.2.2.2.2.1 f).2 _).mp hm
    have wi := w.2.2.2.1 _ i1
    obtain ⟨c1, c2, c3, c4, c5, c6, c7, c8, -⟩ := C1.2.2.2 _ i1
    have o1 := (oI_m1 (p := iP s ((sH s f).getD k 0)) fun q hq => by have := wi.2.2.2.2.2.2.2.2.2.2.2.1 q hq; omega).1
    have ih := c_back_lp W hf m
    rw [t_205_29 hs, if_pos (nI_lt (by omega) (by omega)), ck_ok A.1, al_get hs A hk, cK_v, t_205_40 hs, ck_ok c1, ck_ok c1, c8, ck_ok c1, c6, nI_add, m1]
    simp only [show (oI (iP s ((sH s f).getD k 0)) = -1) = (iP s ((sH s f).getD k 0) = none) from propext o1, show (nI (iN s 2 ((sH s f).getD k 0)) = nI f) = (iN s 2 ((sH s f).getD k 0) = f) from propext (nI_eq (by omega) (by omega))]
    unfold gbF
    by_cases q : iP s ((sH s f).getD k 0) = none ∧ iN s 2 ((sH s f).getD k 0) = f
    · rw [if_pos q.1, if_pos q.2, if_pos q]
      obtain ⟨h1, a1, a2, a3, a4⟩ := c_rm (d := d) W C w hf hk
      obtain ⟨hs1, hw1, hb1', B1, C11, C21⟩ := id a2
      obtain ⟨h2, x1, x2, x3⟩ := c_comes (d := d + 3) (wh := 4) (o := f) (c := none) (i := (sH s f).getD k 0) hs1 C11 i1 (by decide)
      have C2' : CSt h2 b bk (cmS (stH s f ((sH s f).erase ((sH s f).getD k 0))) ((sH s f).getD k 0) 4 f none) G Cp := a2.fr x2 (by decide) (by decide) (fun r => rfl) x3
      obtain ⟨h3, z1, z2, z3⟩ := c_log (d := d + 3) (wh := 5) (o := f) (i := (sH s f).getD k 0) C2'.1 W (show WI bk (cmS (stH s f ((sH s f).erase ((sH s f).getD k 0))) ((sH s f).getD k 0) 4 f none) from w.i) C2'.2.2.2.2.1 i1 (by decide) (by omega)
      have C3 : CSt h3 b bk (dlS bk s ((sH s f).getD k 0) f 4 5) G Cp := C2'.fr z2 (by decide) (by decide) (fun r => lX_nt _ 5 f r) z3
      obtain ⟨d1, d2, d3⟩ := dlS_z (bk := bk) (s := s) (i := (sH s f).getD k 0) (f := f) (wh := 4) (wt := 5)
      have le : (sH (dlS bk s ((sH s f).getD k 0) f 4 5) f).length + 1 = (sH s f).length := by
        rw [d3, List.length_erase_of_mem hm]; omega
      obtain ⟨h4, y1, y2, y3, y4, y5, y6⟩ := ih k (n + 1) h3 _ G Cp (by omega) (by omega) C3 (w.dl hf i1 i2 i3 (by decide) (by decide)) (fun r r1 r2 => by rw [d2]; exact hcb r r1 r2)
      refine ⟨h4, ?_, y2, y3, y4, y5.trans (z2.1.trans (x2.1.trans a3)), a4.trans ((x2.gfc (by decide)).trans ((z2.gfc (by decide)).trans y6))⟩
      have x1' : E (d + 4) 257 [.ref (G 4 ((sH s f).getD k 0)), .int (nI 4), .int (nI f), .int (-1), .int (nI (zN s 0))] h1 = some (none, h2) := x1
      have z1' : E (d + 4) 258 [.ref 156, .ref (G 4 ((sH s f).getD k 0)), .int (nI 5), .int (nI f)] h2 = some (none, h3) := z1
      rw [ck_ok A.1, a1, cK_v, t_205_69 hs1, ck_ok (C11.2.2.2 _ i1).1, show gI h1 2051 156 = nI (zN s 0) from C11.1, x1', cK_n, t_205_82 C2'.1, z1', cK_n, t_205_90 C3.1, nI_add, m1]
      exact y1
    · rw [if_neg q]
      have res := ih (k + 1) n h s G Cp (by omega) (by omega) C w hcb
      by_cases q1 : iP s ((sH s f).getD k 0) = none
      · rw [if_pos q1, if_neg fun q2 => q ⟨q1, q2⟩]; exact res
      · rw [if_neg q1]; exact res
theorem r_back_lp (W : WB bk) {f v : Nat} (hv' : v ≤ 1) (hf : f < bk 0 0) : ∀ (m k n : Nat) (h : AH) (s : St), k + m = (sH s f).length → n + m < 1000 → Sh h → gI h 3597 189 = nI v → RB h v bk → RS h s → WS bk s →
    ∃ h', Q (d + 2) 119 4 [some (.ref 189), some (.int (nI f)), some (.int (nI n)), some (.int (nI k)), none] [] h = some (some (.int (nI (gbF bk f m k n s).2)), h') ∧ RS h' (gbF bk f m k n s).1 ∧ Fr [3678] [248, 249, 250, 253, 254, 255] h h'
  | 0, k, n, h, s, e, hn, hs, hN, B, R, w => by
    have w0 := W.1.1
    have hl := (w.len f).1
    refine ⟨h, ?_, R, Fr.rfl⟩
    rw [t_119_4 hs, gd_nI (by omega) (by decide), ix_nI (by omega), (R.2.1.1 f (by omega)).1, if_neg (nI_nlt (by omega) (by omega))]
    rfl
  | m + 1, k, n, h, s, e, hn, hs, hN, B, R, w => by
    have w0 := W.1.1
    have wp := W.1.2.1
    have w1 := w.1
    have hl := (w.len f).1
    have hk : k < (sH s f).length := by omega
    have hm : (sH s f).getD k 0 ∈ sH s f := by rw [getD_ix hk]; exact List.getElem_mem hk
    obtain ⟨i1, i2, i3⟩ := ((w.2.2.2.2.1 f).2 _).mp hm
    have wi := w.2.2.2.1 _ i1
    obtain ⟨r1, r2⟩ := R.2.1.1 f (by omega)
    have r2k := r2 k hk
    rw [← getD_ix hk] at r2k
    obtain ⟨-, -, a3, -, a5, -⟩ := R.1.2.2.2.2 _ i1
    have o1 := (oI_m1 (p := iP s ((sH s f).getD k 0)) fun q hq => by have := wi.2.2.2.2.2.2.2.2.2.2.2.1 q hq; omega).2
    have ih := r_back_lp W hv' hf m
    rw [t_119_4 hs, gd_nI (by omega) (by decide), ix_nI (by omega), r1, if_pos (nI_lt hk (by omega)), pk_mul, nI_add, gd_nI (by omega) (by decide), ix_nI (by omega), r2k, gd_nI (by omega) (by decide), gd_nI (by omega) (by decide), ix_nI (by omega), a5, a3, nI_add]
    simp only [show (oI (iP s ((sH s f).getD k 0)) < nI 0) = (iP s ((sH s f).getD k 0) = none) from propext o1, show (nI (iN s 2 ((sH s f).getD k 0)) = nI f) = (iN s 2 ((sH s f).getD k 0) = f) from propext (nI_eq (by omega) (by omega))]
    unfold gbF
    by_cases q : iP s ((sH s f).getD k 0) = none ∧ iN s 2 ((sH s f).getD k 0) = f
    · rw [if_pos q.1, if_pos q.2, if_pos q]
      have ee := eraseIdx_of (w.2.2.2.2.1 f).1 hk (getD_ix hk).symm
      obtain ⟨h1, b1, b2, b3⟩ := r_unshelve (d := d) hs R w (show f < 16 by omega) hk (getD_ix hk).symm
      rw [ee] at b3
      have hs1 := b2.sh hs
      obtain ⟨h2, x1, x2, x3⟩ := r_comes (d := d + 1) (bk := bk) (i := (sH s f).getD k 0) (wh := 4) (o := f) (c := none) hs1 b3 (show WI bk (stH s f ((sH s f).erase ((sH s f).getD k 0))) from w.i) i1
      have hs2 := x2.sh hs1
      have f2 : Fr [] [248, 249, 250, 253, 254, 255] h h2 := (b2.wk (by decide) (by decide)).trans (x2.wk (by decide) (by decide))
      obtain ⟨h3, z1, z2, z3⟩ := r_note (d := d) (i := (sH s f).getD k 0) (wh := 5) (o := f) hs2 W hv' (by rw [f2.I (by decide)]; exact hN) (B.fr f2 (by decide)) x3 (show WI bk (cmS (stH s f ((sH s f).erase ((sH s f).getD k 0))) ((sH s f).getD k 0) 4 f none) from w.i) i1 (by decide) (by omega)
      have hs3 := z2.sh hs2
      have f3 : Fr [3678] [248, 249, 250, 253, 254, 255] h h3 := (f2.wk (by decide) (by decide)).trans (z2.wk (by decide) (by decide))
      obtain ⟨d1, d2, d3⟩ := dlS_z (bk := bk) (s := s) (i := (sH s f).getD k 0) (f := f) (wh := 4) (wt := 5)
      have le : (sH (dlS bk s ((sH s f).getD k 0) f 4 5) f).length + 1 = (sH s f).length := by
        rw [d3, List.length_erase_of_mem hm]; omega
      obtain ⟨h4, y1, y2, y3⟩ := ih k (n + 1) h3 (dlS bk s ((sH s f).getD k 0) f 4 5) (by omega) (by omega) hs3 (by rw [f3.I (by decide)]; exact hN) (B.fr f3 (by decide)) z3 (w.dl hf i1 i2 i3 (by decide) (by decide))
      refine ⟨h4, ?_, y2, f3.trans y3⟩
      have x1' : E (d + 2) 99 [.ref 189, .int (nI ((sH s f).getD k 0)), .int (nI 4), .int (nI f), .int (-1)] h1 = some (none, h2) := x1
      rw [b1, cK_n, t_119_56 hs1, x1', cK_n, t_119_65 hs2, z1, cK_n, t_119_73 hs3, nI_add]
      exact y1
    · rw [if_neg q]
      have res := ih (k + 1) n h s (by omega) (by omega) hs hN B R w
      by_cases q1 : iP s ((sH s f).getD k 0) = none
      · rw [if_pos q1, if_neg fun q2 => q ⟨q1, q2⟩]; exact res
      · rw [if_neg q1]; exact res
end GBK
