/-! ===== the nearest piece; find ===== -/
theorem fm_b {ws : List (List Nat)} {S O : List Nat} : ∀ (k w acc : Nat), acc ≤ 4 → fmL ws S O k w acc ≤ 4
  | 0, w, acc, h => h
  | k + 1, w, acc, h => fm_b k (w + 1) _ (by omega)
theorem fa_b {ws : List (List Nat)} {cw : Option Nat} {S O : List Nat} {c : Nat} : faS ws cw S O c ≤ 4 := by
  cases cw with
  | none => exact fm_b _ _ _ (Nat.le_refl _)
  | some c => exact Nat.min_le_left _ _
/-- how far the piece p is with the door n -/
def fpN (bk : Bk) (ws : List (List Nat)) (cw : Option Nat) (n p : Nat) : Nat := if ftB bk p n then faS ws cw (stx bk p) (otx bk p) (bk 2 (bk 9 p)) else 4
theorem fp_b {bk : Bk} {ws : List (List Nat)} {cw : Option Nat} {n p : Nat} : fpN bk ws cw n p ≤ 4 := by
  unfold fpN; split
  · exact fa_b
  · exact Nat.le_refl _
def nsL (bk : Bk) (ws : List (List Nat)) (cw : Option Nat) (n : Nat) : Nat → Nat → Nat × Int32 → Nat × Int32
  | 0, _, st => st
  | k + 1, p, st => nsL bk ws cw n k (p + 1) (if fpN bk ws cw n p < st.1 then (fpN bk ws cw n p, nI p) else if fpN bk ws cw n p = st.1 ∧ fpN bk ws cw n p < 4 then (st.1, -2) else st)
/-- the address on the tape: number, door, how far, which piece -/
def adS (bk : Bk) (t : Tp) : Option (Nat × Nat × Nat × Int32) := if 80 < t.1 ∨ (wdS bk t).length < 3 then none else match doS ((wdS bk t).getD 0 []) with
  | none => none
  | some q => some (q.1, 27 * q.1 + q.2, nsL bk (wdS bk t) (fcL (wdS bk t) ((wdS bk t).length - 2) 2) q.1 (bk 0 1) 0 (4, -1))
def adR (bk : Bk) (t : Tp) : Int32 := match adS bk t with
  | none => -1
  | some q => q.2.2.2
/-- the component's best so far -/
def NB (l : Nat) (r x2 x4 : Int32) : Prop := l ≤ 4 ∧ (x2 = -1 ∧ l = 4 ∧ r = -1 ∨ ∃ q, q < 60 ∧ x2 = nI q ∧ l < 4 ∧ (x4 = nI 0 ∧ r = nI q ∨ x4 = nI 1 ∧ r = -2))
theorem nn1 {c : Nat} (h : c < 2 ^ 31) : ¬ nI c = -1 := fun z => by
  have : (nI c).toInt = (-1 : Int32).toInt := by rw [z]
  rw [nI_toInt h] at this
  have : (-1 : Int32).toInt = -1 := by decide
  omega
section NEA
variable {d : Nat} {bk : Bk} {G Cp : Nat → Nat → Nat} {b w0 : Nat} {ws : List (List Nat)} {u n : Nat}
theorem c_near (W : WB bk) (V : WWb u ws) (hu : u ≤ 81) (h2 : 2 ≤ ws.length) {D : Nat} (hD : D / 27 = n) (hD2 : D < 30000) : ∀ (k p l : Nat) (r x2 x4 : Int32) {h : AH}, Sh h → CWs h ws → CB h b bk G Cp → gI h 1029 103 = coI (fcL ws (ws.length - 2) 2) → gI h 1030 103 = nI D → k + p = bk 0 1 → NB l r x2 x4 → ∃ h', Q (d + 4) 245 10 [some (.ref 103), some (.ref b), some (.int x2), some (.int (nI l)), some (.int x4), some (.int (nI p)), none, none] [] h = some (some (.int (nsL bk ws (fcL ws (ws.length - 2) 2) n k p (l, r)).2), h') ∧ gI h' 1031 103 = nI (nsL bk ws (fcL ws (ws.length - 2) 2) n k p (l, r)).1 ∧ Fr [1031] XTb h h' := by
  intro k
  have v01 := W.1.2.1
  induction k with
  | zero =>
    intro p l r x2 x4 h hs C B e1 e2 e N
    obtain ⟨b1, -, b3, -⟩ := id B
    obtain ⟨b4, b5⟩ := b3 1 (by decide)
    have go : ∃ h', (if x2 = (-1) then some (some (.int x2), sI h 1031 103 (nI l)) else if x4 = nI 0 then some (some (.int x2), sI h 1031 103 (nI l)) else some (some (.int (-2)), sI h 1031 103 (nI l))) = some (some (Value.int r), h') ∧ gI h' 1031 103 = nI l ∧ Fr [1031] XTb h h' := by
      refine ⟨sI h 1031 103 (nI l), ?_, gI_s, Fr.rfl.sI (by decide)⟩
      rcases N.2 with ⟨n1, n2, n3⟩ | ⟨q, hq, n1, n2, ⟨n3, n4⟩ | ⟨n3, n4⟩⟩
      · rw [if_pos n1, n1, n3]
      · rw [n1, if_neg (nn1 (by omega)), if_pos n3, n4]
      · rw [n1, if_neg (nn1 (by omega)), n3, if_neg (by decide), n4]
    rw [t_245_10 hs, ck_ok b1, b4, Option.bind_some, ck_ok b5.1, al_size hs b5, cK_v, t_245_19 hs, if_neg (nI_nlt (by omega) (by omega))]
    exact go
  | succ k ih =>
    intro p l r x2 x4 h hs C B e1 e2 e N
    have hp : p < bk 0 1 := by omega
    have wp := W.2.2.2.1 p hp
    obtain ⟨b1, -, b3, -, -, b6, -⟩ := id B
    obtain ⟨b4, b5⟩ := b3 1 (by decide)
    obtain ⟨b7, b8⟩ := b3 0 (by decide)
    obtain ⟨g1, g2, -⟩ := b6 p hp
    have fitE := c_fits (d := d + 3) hs W B (n := n) hp (by omega)
    have pre : Q (d + 4) 245 10 [some (.ref 103), some (.ref b), some (.int x2), some (.int (nI l)), some (.int x4), some (.int (nI p)), none, none] [] h = Q (d + 4) 245 48 [some (.ref 103), some (.ref b), some (.int x2), some (.int (nI l)), some (.int x4), some (.int (nI p)), some (.ref (G 1 p)), none] [.int (nI (if ftB bk p n then 1 else 0))] h := by
      rw [t_245_10 hs, ck_ok b1, b4, Option.bind_some, ck_ok b5.1, al_size hs b5, cK_v, t_245_19 hs, if_pos (nI_lt hp (by omega)), ck_ok b1, b4, Option.bind_some, ck_ok b5.1, al_get hs b5 hp, cK_v, t_245_31 hs, ck_ok g1, dz_ok (by decide), ck_ok g1, e2, pk_div (by omega) (by decide) (by decide), hD, fitE, cK_v]
    rw [pre, t_245_48 hs, nsL]
    simp only
    by_cases q : ftB bk p n = true
    · have fpe : fpN bk ws (fcL ws (ws.length - 2) 2) n p = faS ws (fcL ws (ws.length - 2) 2) (stx bk p) (otx bk p) (bk 2 (bk 9 p)) := by unfold fpN; rw [if_pos q]
      obtain ⟨y, h1, ey, ly, ny, fy⟩ := c_farOf (d := d) hs W C V hu B hp h2 rfl e1
      rw [← fpe] at ny
      have bd := fp_b (bk := bk) (ws := ws) (cw := fcL ws (ws.length - 2) 2) (n := n) (p := p)
      generalize fpN bk ws (fcL ws (ws.length - 2) 2) n p = f at *
      have hs1 := fy.sh hs
      have C1 := C.ft fy
      have B1 := B.ft fy
      have e11 : gI h1 1029 103 = coI (fcL ws (ws.length - 2) 2) := by rw [fy.I List.not_mem_nil]; exact e1
      have e21 : gI h1 1030 103 = nI D := by rw [fy.I List.not_mem_nil]; exact e2
      have fy' := fy.wk (K' := [1031]) (X' := XTb) (List.nil_subset _) (List.Subset.refl _)
      have nr' := nr_or.mp ny
      have c103 : gC h 103 = 4 := by rw [← congrFun hs.c 103]; rfl
      obtain ⟨-, -, -, -, o5, -⟩ := id B
      have o1 := (o5 (bk 9 p) (by omega)).1
      rw [if_pos q, if_neg (by decide), ck_ok b1, b7, Option.bind_some, ck_ok g1, g2, ck_ok b8.1, al_get hs b8 (by omega), cK_v, t_245_66 hs, ck_ok o1, ck_ok c103, ey, cK_v, t_245_72 hs1, nI_add]
      simp only [nlt' (show y < 2 ^ 31 by omega) (show l < 2 ^ 31 by have := N.1; omega), show (nI y = nI l) = (y = l) from propext (nI_eq (by omega) (by have := N.1; omega))]
      by_cases q1 : f < l
      · have : y < l := by have := N.1; omega
        have yf : y = f := by have := N.1; omega
        obtain ⟨h', e', i', f'⟩ := ih (p + 1) f (nI p) (nI p) (nI 0) hs1 C1 B1 e11 e21 (by omega) ⟨by omega, Or.inr ⟨p, by omega, rfl, by have := N.1; omega, Or.inl ⟨rfl, rfl⟩⟩⟩
        rw [if_pos this, if_pos q1, yf]
        exact ⟨h', e', i', fy'.trans f'⟩
      · rw [if_neg q1, if_neg (show ¬ y < l by have := N.1; omega)]
        by_cases q2 : f = l ∧ f < 4
        · have yf : y = l := by omega
          rw [if_pos q2, if_pos yf]
          obtain ⟨h', e', i', f'⟩ := ih (p + 1) l (-2) x2 (nI 1) hs1 C1 B1 e11 e21 (by omega) ⟨N.1, by
            rcases N.2 with ⟨n1, n2, n3⟩ | ⟨q, hq, n1, n2, n3⟩
            · omega
            · exact Or.inr ⟨q, hq, n1, n2, Or.inr ⟨rfl, rfl⟩⟩⟩
          exact ⟨h', e', i', fy'.trans f'⟩
        · rw [if_neg q2]
          by_cases yl : y = l
          · have l4 : l = 4 := by have := N.1; omega
            rw [if_pos yl]
            obtain ⟨h', e', i', f'⟩ := ih (p + 1) l r x2 (nI 1) hs1 C1 B1 e11 e21 (by omega) ⟨N.1, by
              rcases N.2 with ⟨n1, n2, n3⟩ | ⟨q, hq, n1, n2, n3⟩
              · exact Or.inl ⟨n1, n2, n3⟩
              · omega⟩
            exact ⟨h', e', i', fy'.trans f'⟩
          · rw [if_neg yl]
            obtain ⟨h', e', i', f'⟩ := ih (p + 1) l r x2 x4 hs1 C1 B1 e11 e21 (by omega) N
            exact ⟨h', e', i', fy'.trans f'⟩
    · have fpe : fpN bk ws (fcL ws (ws.length - 2) 2) n p = 4 := by unfold fpN; rw [if_neg q]
      rw [fpe, if_neg q, if_pos rfl, nI_add, if_neg (show ¬ 4 < l by have := N.1; omega), if_neg (c := 4 = l ∧ 4 < 4) (fun z => absurd z.2 (by decide))]
      exact ih (p + 1) l r x2 x4 hs C B e1 e2 (by omega) N
theorem r_near (W : WB bk) (N : WN bk) (V : WWb u ws) (hu : u ≤ 81) (h2 : 2 ≤ ws.length) (hw : w0 ≤ 1) (hn : n ≤ 999) : ∀ (k p l : Nat) (r : Int32) {h : AH}, Sh h → RWs h ws → RB h w0 bk → gI h 3597 189 = nI w0 → gI h 3642 189 = coI (fcL ws (ws.length - 2) 2) → gI h 3640 189 = nI n → gI h 3643 189 = nI l → l ≤ 4 → k + p = bk 0 1 → ∃ h', Q (d + 3) 63 101 [some (.ref 189), some (.int r), some (.int (nI p)), none] [] h = some (some (.int (nsL bk ws (fcL ws (ws.length - 2) 2) n k p (l, r)).2), h') ∧ gI h' 3643 189 = nI (nsL bk ws (fcL ws (ws.length - 2) 2) n k p (l, r)).1 ∧ Fr [3639, 3643] [233, 236] h h' := by
  intro k
  have v01 := W.1.2.1
  induction k with
  | zero =>
    intro p l r h hs C R ew e1 e2 e3 hl e
    obtain ⟨⟨-, r2, -⟩, -⟩ := id R
    refine ⟨h, ?_, e3, Fr.rfl⟩
    rw [t_63_101 hs, ew, gd_nI (by omega) (by decide), ix_nI (by omega), r2, if_neg (nI_nlt (by omega) (by omega))]; rfl
  | succ k ih =>
    intro p l r h hs C R ew e1 e2 e3 hl e
    have hp : p < bk 0 1 := by omega
    obtain ⟨⟨-, r2, -⟩, -⟩ := id R
    rw [t_63_101 hs, ew, gd_nI (by omega) (by decide), ix_nI (by omega), r2, if_pos (nI_lt hp (by omega)), e2, r_fits hs W R hw ew hp (by omega), cK_v, t_63_123 hs, e3, nsL]
    simp only
    by_cases q : ftB bk p n = true
    · have fpe : fpN bk ws (fcL ws (ws.length - 2) 2) n p = faS ws (fcL ws (ws.length - 2) 2) (stx bk p) (otx bk p) (bk 2 (bk 9 p)) := by unfold fpN; rw [if_pos q]
      obtain ⟨h1, ey, C1, fy⟩ := r_farOf (d := d) hs W N R hw ew C V hu hp h2 rfl e1
      rw [← fpe] at ey
      have bd := fp_b (bk := bk) (ws := ws) (cw := fcL ws (ws.length - 2) 2) (n := n) (p := p)
      generalize fpN bk ws (fcL ws (ws.length - 2) 2) n p = f at *
      have hs1 := fy.sh hs
      have R1 := R.fn fy (by decide)
      have i1 : ∀ x, x ≠ 3639 → gI h1 x = gI h x := fun x hx => fy.I (by rw [List.mem_singleton]; exact hx)
      have fy' := fy.wk (K' := [3639, 3643]) (X' := [233, 236]) (by decide) (List.Subset.refl _)
      rw [if_pos q, if_neg (by decide), ey, cK_v, t_63_131 hs1, i1 3643 (by decide), e3, nI_add]
      simp only [nlt' (show f < 2 ^ 31 by omega) (show l < 2 ^ 31 by omega), nlt' (show f < 2 ^ 31 by omega) (show 4 < 2 ^ 31 by decide), show (nI f = nI l) = (f = l) from propext (nI_eq (by omega) (by omega))]
      by_cases q1 : f < l
      · have hf : Fr [3639, 3643] [233, 236] h1 (sI h1 3643 189 (nI f)) := Fr.rfl.sI (by decide)
        have j1 : ∀ x, x ≠ 3643 → x ≠ 3639 → gI (sI h1 3643 189 (nI f)) x 189 = gI h x 189 := fun x hx hx' => by
          show up2 (gI h1) 3643 189 (nI f) x 189 = _
          rw [up2_k hx, i1 x hx']
        obtain ⟨h', e', i', f'⟩ := ih (p + 1) f (nI p) (hf.sh hs1) (C1.fr (K := [3643]) (X := []) (Fr.rfl.sI (by decide)) (by decide) (by decide)) (R1.fn hf (by decide)) (by rw [j1 _ (by decide) (by decide)]; exact ew) (by rw [j1 _ (by decide) (by decide)]; exact e1) (by rw [j1 _ (by decide) (by decide)]; exact e2) gI_s (by omega) (by omega)
        rw [if_pos q1, if_pos q1]
        exact ⟨h', e', i', (fy'.trans hf).trans f'⟩
      · rw [if_neg q1, if_neg q1]
        have st : ∀ r', ∃ h', Q (d + 3) 63 101 [some (.ref 189), some (.int r'), some (.int (nI (p + 1))), none] [] h1 = some (some (.int (nsL bk ws (fcL ws (ws.length - 2) 2) n k (p + 1) (l, r')).2), h') ∧ gI h' 3643 189 = nI (nsL bk ws (fcL ws (ws.length - 2) 2) n k (p + 1) (l, r')).1 ∧ Fr [3639, 3643] [233, 236] h h' := fun r' => by
          obtain ⟨h', e', i', f'⟩ := ih (p + 1) l r' hs1 C1 R1 (by rw [i1 _ (by decide)]; exact ew) (by rw [i1 _ (by decide)]; exact e1) (by rw [i1 _ (by decide)]; exact e2) (by rw [i1 _ (by decide)]; exact e3) hl (by omega)
          exact ⟨h', e', i', fy'.trans f'⟩
        by_cases q2 : f = l
        · rw [if_pos q2]
          by_cases q3 : f < 4
          · rw [if_pos q3, if_pos (c := f = l ∧ f < 4) ⟨q2, q3⟩]; exact st _
          · rw [if_neg q3, if_neg (c := f = l ∧ f < 4) (fun z => q3 z.2)]; exact st _
        · rw [if_neg q2, if_neg (c := f = l ∧ f < 4) (fun z => q2 z.1)]; exact st _
    · have fpe : fpN bk ws (fcL ws (ws.length - 2) 2) n p = 4 := by unfold fpN; rw [if_neg q]
      rw [fpe, if_neg q, if_pos rfl, nI_add, if_neg (show ¬ nI 4 < nI l from nI_nlt (by omega) (by decide)), if_neg (show ¬ nI 4 < nI 4 by decide), ite_self, if_neg (show ¬ 4 < l by omega), if_neg (c := 4 = l ∧ 4 < 4) (fun z => absurd z.2 (by decide))]
      exact ih (p + 1) l r hs C R ew e1 e2 e3 hl (by omega)
end NEA
