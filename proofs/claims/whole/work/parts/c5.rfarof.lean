/-! ===== how far a piece is: the reference ===== -/
theorem wr_wr {f : Nat → Int32} {s : Nat} {l l2 : List Nat} : wrL (wrL f s l) (s + l.length) l2 = wrL f s (l ++ l2) := by
  funext i
  unfold wrL
  rw [List.length_append]
  by_cases q : s + l.length ≤ i ∧ i < s + l.length + l2.length
  · rw [if_pos q, if_pos (by omega), List.getD_eq_getElem?_getD, List.getD_eq_getElem?_getD, List.getElem?_append_right (by omega), show i - (s + l.length) = i - s - l.length from by omega]
  · rw [if_neg q]
    by_cases z : s ≤ i ∧ i < s + l.length
    · rw [if_pos z, if_pos (by omega), List.getD_eq_getElem?_getD, List.getD_eq_getElem?_getD, List.getElem?_append_left (by omega)]
    · rw [if_neg z, if_neg (by omega)]
theorem wr_end {f : Nat → Int32} {s x : Nat} {l : List Nat} : up1 (wrL f s l) (s + l.length) (nI x) = wrL f s (l ++ [x]) := by
  rw [← wr_wr, ← wr_cons, wr_nil]
theorem mp_g {l : List Nat} {i : Nat} (h : i < l.length) : (l.map asc).getD i 0 = asc (l.getD i 0) := by
  rw [List.getD_eq_getElem?_getD, List.getElem?_map, List.getElem?_eq_getElem h, List.getD_eq_getElem?_getD, List.getElem?_eq_getElem h]; rfl
def nmL (bk : Bk) (p : Nat) : Nat → List Nat
  | 0 => []
  | k + 1 => nmL bk p k ++ (ncod 12 (bk 7 (3 * p + k)) ++ [0])
theorem nm_l {bk : Bk} {p : Nat} : ∀ k, (nmL bk p k).length ≤ 13 * k
  | 0 => Nat.le_refl _
  | k + 1 => by
    have := nm_l (bk := bk) (p := p) k; have := nc_l 12 (bk 7 (3 * p + k))
    rw [nmL, List.length_append, List.length_append, List.length_singleton]; omega
theorem nm_stx {bk : Bk} {p : Nat} (h : 1 ≤ bk 8 p ∧ bk 8 p ≤ 3) : nmL bk p (bk 8 p) = stx bk p ++ [0] := by
  unfold stx
  obtain e | e | e : bk 8 p = 1 ∨ bk 8 p = 2 ∨ bk 8 p = 3 := by omega
  · rw [e, if_neg (by decide), if_neg (by decide)]; simp only [nmL, List.nil_append, List.append_nil, Nat.add_zero]
  · rw [e, if_pos (by decide), if_neg (by decide)]; simp only [nmL, List.nil_append, List.append_nil, Nat.add_zero, List.append_assoc, List.cons_append]
  · rw [e, if_pos (by decide), if_pos (by decide)]; simp only [nmL, List.nil_append, List.append_nil, Nat.add_zero, List.append_assoc, List.cons_append]
section RFO
variable {d : Nat} {bk : Bk} {w0 : Nat} {ws : List (List Nat)} {u : Nat} {p s : Nat}
theorem RB.fn {h h' : AH} {K X : List Nat} (R : RB h w0 bk) (f : Fr K X h h') (hX : ∀ x, x ∈ X → 232 < x) : RB h' w0 bk := R.fr f fun x hx => Or.inr (hX x hx)
theorem r_nml (W : WB bk) (N : WN bk) (hw : w0 ≤ 1) (hp : p < bk 0 1) (hS : s ≤ 700) {f0 : Nat → Int32} : ∀ (k j : Nat) {h : AH}, Sh h → RB h w0 bk → gI h 3597 189 = nI w0 → k + j = bk 8 p → gI h 3639 189 = nI (s + (nmL bk p j).length) → gA h 233 = wrL f0 s ((nmL bk p j).map asc) → ∃ h', Q (d + 2) 73 18 [some (.ref 189), none, some (.int (nI (60 * w0 + p))), some (.int (nI s)), some (.int (nI (j))), none, none, none, none, none, none, none, none] [] h = Q (d + 2) 73 18 [some (.ref 189), none, some (.int (nI (60 * w0 + p))), some (.int (nI s)), some (.int (nI (bk 8 p))), none, none, none, none, none, none, none, none] [] h' ∧ gI h' 3639 189 = nI (s + (nmL bk p (bk 8 p)).length) ∧ gA h' 233 = wrL f0 s ((nmL bk p (bk 8 p)).map asc) ∧ Fr [3639] [233] h h' := by
  intro k
  have wp := W.2.2.2.1 p hp
  have w1 := W.1.2.1
  induction k with
  | zero =>
    intro j h hs R ew e e1 e2
    obtain rfl : j = bk 8 p := by omega
    exact ⟨h, rfl, e1, e2, Fr.rfl⟩
  | succ k ih =>
    intro j h hs R ew e e1 e2
    have nl := nm_l (bk := bk) (p := p) j
    have cl := nc_l 12 (bk 7 (3 * p + j))
    obtain ⟨-, -, -, r4, -⟩ := id R
    obtain ⟨r5, r6, -⟩ := r4 p hp
    obtain ⟨h1, ea, ia, wa, fa⟩ := r_spell (d := d) (s := s + (nmL bk p j).length) hs (wp.2.1 j (by omega)).2 (N.2.2 p hp j (by omega)) (by omega) e1
    have hs1 := fa.sh hs
    have hf : Fr [3639] [233] h1 (sI (sA h1 233 (s + (nmL bk p j).length + (ncod 12 (bk 7 (3 * p + j))).length) (nI 32)) 3639 189 (nI (s + (nmL bk p j).length + (ncod 12 (bk 7 (3 * p + j))).length + 1))) := (Fr.rfl.sA (by decide)).sI (by decide)
    obtain ⟨h', e', i', w', f'⟩ := ih (j + 1) (hf.sh hs1) ((R.fn fa (by decide)).fn hf (by decide)) (by rw [hf.I (by decide), fa.I (by decide)]; exact ew) (by omega) (by rw [gI_s, nmL, List.length_append, List.length_append, List.length_singleton]; congr 1; omega) (by
      show gA (sA h1 233 (s + (nmL bk p j).length + (ncod 12 (bk 7 (3 * p + j))).length) (nI 32)) 233 = _
      rw [gA_s, wa, e2]
      have q1 := wr_wr (f := f0) (s := s) (l := (nmL bk p j).map asc) (l2 := (ncod 12 (bk 7 (3 * p + j))).map asc)
      rw [List.length_map] at q1
      rw [q1]
      have q2 := wr_end (f := f0) (s := s) (x := 32) (l := (nmL bk p j).map asc ++ (ncod 12 (bk 7 (3 * p + j))).map asc)
      rw [List.length_append, List.length_map, List.length_map, ← Nat.add_assoc] at q2
      rw [q2, nmL, List.map_append, List.map_append, List.append_assoc]; rfl)
    refine ⟨h', ?_, i', w', (fa.trans hf).trans f'⟩
    rw [t_73_18 hs, gd_nI (by omega) (by decide), ix_nI (by omega), r6, if_pos (nI_lt (by omega) (by omega)), pk_mul, nI_add, gd_nI (by omega) (by decide), ix_nI (by omega), r5 j (by omega), ea, cK_n, t_73_44 hs1, ia, gd_nI (by omega) (by decide), ix_nI (by omega), nI_add, nI_add]
    exact e'
theorem r_fsg {h : AH} (hs : Sh h) (C : RWs h ws) (V : WWb u ws) (hu : u ≤ 81) {q : Nat} {l : List Nat} (A : RG h q l.length (fun k => l.getD k 0)) (hl2 : l.length ≤ 40) {i j : Nat} (hij : i < j) (hj : j ≤ ws.length) : ∃ h', E (d + 2) 76 [.ref 189, .int (nI q), .int (nI l.length), .int (nI (off ws i)), .int (nI (off ws j - 1 - off ws i))] h = some (some (.int (nI (min (fsg ws l i j) 4))), h') ∧ Fr [] [236] h h' := by
  have v1 := V.1
  have v2 := V.2.1
  obtain ⟨o1, o2⟩ := off_l hij hj
  exact r_apart hs A (q := off ws i) (m := off ws j - 1 - off ws i) (B := fun k => (FL ws).getD (off ws i + k) 0) ⟨by omega, fun k hk => ⟨C.2.2.2 _ (by omega), getD_lt (by decide) (FL_m ws fun w hw x hx => (V.2.2 w hw x hx).2)⟩⟩ hl2 (by omega)
theorem r_endOf {h : AH} (hs : Sh h) (C : RWs h ws) (V : WWb u ws) (hu : u ≤ 81) {j : Nat} (h1 : 1 ≤ j) (hj : j ≤ ws.length) : E (d + 1) 75 [.ref 189, .int (nI j - nI 1)] h = some (some (.int (nI (off ws j - 1))), h) := by
  have v1 := V.1
  have ej := gtD (ws := ws) (i := j - 1) (by omega)
  have oj := off_s ej
  obtain ⟨s1, s2⟩ := C.2.2.1 (j - 1) _ ej
  rw [show j - 1 + 1 = j from by omega] at oj
  rw [pk_sub h1, t_75 hs, gd_nI (by omega) (by decide), gd_nI (by omega) (by decide), ix_nI (by omega), s1, s2, nI_add, show off ws (j - 1) + (ws.getD (j - 1) []).length = off ws j - 1 from by omega]
/-- what stays while a piece is looked at -/
def RFo (h : AH) (bk : Bk) (w0 : Nat) (ws : List (List Nat)) (cw : Option Nat) (s : Nat) (S O : List Nat) : Prop := Sh h ∧ RB h w0 bk ∧ gI h 3597 189 = nI w0 ∧ RWs h ws ∧ gI h 3642 189 = coI cw ∧ RG h s S.length (fun k => S.getD k 0) ∧ RG h (s + S.length + 1) O.length (fun k => O.getD k 0)
theorem RFo.fr {h h' : AH} {cw : Option Nat} {S O : List Nat} (F : RFo h bk w0 ws cw s S O) (f : Fr [] [236] h h') : RFo h' bk w0 ws cw s S O := by
  obtain ⟨a1, a2, a3, a4, a5, a6, a7⟩ := F
  exact ⟨f.sh a1, a2.fn f (by decide), by rw [f.I List.not_mem_nil]; exact a3, a4.fr f (by decide) (by decide), by rw [f.I List.not_mem_nil]; exact a5, a6.fr f (by decide), a7.fr f (by decide)⟩
def fsW (cw : Option Nat) (w : Nat) : Nat := match cw with
  | some _ => w + 1
  | none => w
theorem co_s {c : Nat} (h0 : 0 < c) (hc : c < 1000) : nI 0 < coI (some c) := nI_lt h0 (by omega)
theorem co_n : ¬ nI 0 < coI none := by decide
theorem min_if {a b : Nat} (ha : a < 2 ^ 31) (hb : b < 2 ^ 31) {X : Int32 → Option Ot} : (if nI a < nI b then X (nI a) else X (nI b)) = X (nI (min b a)) := by
  by_cases q : a < b
  · rw [if_pos (nI_lt q hb), Nat.min_eq_right (by omega)]
  · rw [if_neg (nI_nlt (by omega) ha), Nat.min_eq_left (by omega)]
theorem r_it {h : AH} {cw : Option Nat} {S O : List Nat} (F : RFo h bk w0 ws cw s S O) (V : WWb u ws) (hu : u ≤ 81) (hO : O.length ≤ 40) (hcw : ∀ c, cw = some c → 0 < c ∧ c < 1000) {a g0 least hi w : Nat} (ha : a ≤ 4) (hg : g0 ≤ 3) (hl : least ≤ 4) (hw : w < ws.length) : ∃ h', Q (d + 2) 73 243 [some (.ref 189), none, some (.int (nI (60 * w0 + p))), some (.int (nI s)), some (.int (nI S.length)), some (.int (nI (s + S.length + 1))), some (.int (nI O.length)), some (.int (nI least)), none, some (.int (nI hi)), some (.int (nI (w))), some (.int (nI g0)), none] [.int (nI a), .int (nI g0)] h = Q (d + 2) 73 170 [some (.ref 189), none, some (.int (nI (60 * w0 + p))), some (.int (nI s)), some (.int (nI S.length)), some (.int (nI (s + S.length + 1))), some (.int (nI O.length)), some (.int (nI (min least (g0 + a + if fsW cw w < ws.length ∧ g0 + a < 4 then min (fsg ws O (fsW cw w) ws.length) 4 else 0)))), none, some (.int (nI hi)), some (.int (nI (w + 1))), none, none] [] h' ∧ Fr [] [236] h h' := by
  obtain ⟨hs, -, -, C, ec, -, A⟩ := F
  have v1 := V.1
  have lst : ∀ {g : AH} (v : Nat), v ≤ 100 → (if nI v < nI least then Q (d + 2) 73 170 [some (.ref 189), none, some (.int (nI (60 * w0 + p))), some (.int (nI s)), some (.int (nI S.length)), some (.int (nI (s + S.length + 1))), some (.int (nI O.length)), some (.int (nI v)), none, some (.int (nI hi)), some (.int (nI (w + 1))), none, none] [] g else Q (d + 2) 73 170 [some (.ref 189), none, some (.int (nI (60 * w0 + p))), some (.int (nI s)), some (.int (nI S.length)), some (.int (nI (s + S.length + 1))), some (.int (nI O.length)), some (.int (nI least)), none, some (.int (nI hi)), some (.int (nI (w + 1))), none, none] [] g) = Q (d + 2) 73 170 [some (.ref 189), none, some (.int (nI (60 * w0 + p))), some (.int (nI s)), some (.int (nI S.length)), some (.int (nI (s + S.length + 1))), some (.int (nI O.length)), some (.int (nI (min least v))), none, some (.int (nI hi)), some (.int (nI (w + 1))), none, none] [] g := fun {g} v hv => min_if (X := fun z => Q (d + 2) 73 170 [some (.ref 189), none, some (.int (nI (60 * w0 + p))), some (.int (nI s)), some (.int (nI S.length)), some (.int (nI (s + S.length + 1))), some (.int (nI O.length)), some (.int (z)), none, some (.int (nI hi)), some (.int (nI (w + 1))), none, none] [] g) (by omega) (by omega)
  have fin : ∀ {f : Nat} {x12 : Nat}, x12 = f → f < ws.length → ∃ h', (gd (nI f) 82 <| cK (E (d + 2) 75 [.ref 189, .int (nI ws.length - nI 1)] h) (Q (d + 2) 73 303 [some (.ref 189), none, some (.int (nI (60 * w0 + p))), some (.int (nI s)), some (.int (nI S.length)), some (.int (nI (s + S.length + 1))), some (.int (nI O.length)), some (.int (nI least)), none, some (.int (nI hi)), some (.int (nI (w))), some (.int (nI (g0 + a))), some (.int (nI f))]) [.int (gA h 234 (ix (nI f))), .int (nI O.length), .int (nI (s + S.length + 1)), .ref 189, .int (nI (g0 + a))]) = Q (d + 2) 73 170 [some (.ref 189), none, some (.int (nI (60 * w0 + p))), some (.int (nI s)), some (.int (nI S.length)), some (.int (nI (s + S.length + 1))), some (.int (nI O.length)), some (.int (nI (min least (g0 + a + min (fsg ws O f ws.length) 4)))), none, some (.int (nI hi)), some (.int (nI (w + 1))), none, none] [] h' ∧ Fr [] [236] h h' := fun {f x12} _ hf => by
    have ef := gtD (ws := ws) (i := f) hf
    have s1 := (C.2.2.1 f _ ef).1
    obtain ⟨o1, o2⟩ := off_l hf (Nat.le_refl _)
    obtain ⟨h', e', f'⟩ := r_fsg (d := d) hs C V hu A hO hf (Nat.le_refl _)
    refine ⟨h', ?_, f'⟩
    rw [gd_nI (by omega) (by decide), ix_nI (by omega), s1, r_endOf hs C V hu (by omega) (Nat.le_refl _), cK_v, t_73_303 hs, gd_nI (by omega) (by decide), ck_ok hs.c189, ix_nI (by omega), s1, pk_sub (by omega), e', cK_v, t_73_314 (f'.sh hs), nI_add, nI_add]
    exact lst _ (by omega)
  cases cw with
  | none =>
    rw [t_73_243 hs, ec, if_neg co_n, C.1, if_pos (nI_lt hw (by omega)), nI_add, nI_add, nI_add]
    show ∃ h', _ = Q (d + 2) 73 170 [some (.ref 189), none, some (.int (nI (60 * w0 + p))), some (.int (nI s)), some (.int (nI S.length)), some (.int (nI (s + S.length + 1))), some (.int (nI O.length)), some (.int (nI (min least (g0 + a + if w < ws.length ∧ g0 + a < 4 then min (fsg ws O w ws.length) 4 else 0)))), none, some (.int (nI hi)), some (.int (nI (w + 1))), none, none] [] h' ∧ _
    by_cases q : g0 + a < 4
    · rw [if_pos (nI_lt q (by decide)), if_pos ⟨hw, q⟩]
      exact fin rfl hw
    · rw [if_neg (nI_nlt (by omega) (by omega)), if_neg (c := w < ws.length ∧ g0 + a < 4) (fun z => q z.2)]
      exact ⟨h, lst _ (by omega), Fr.rfl⟩
  | some c =>
    have hc := hcw c rfl
    rw [t_73_243 hs, ec, if_pos (co_s hc.1 hc.2), C.1, nI_add, nI_add, nI_add]
    show ∃ h', _ = Q (d + 2) 73 170 [some (.ref 189), none, some (.int (nI (60 * w0 + p))), some (.int (nI s)), some (.int (nI S.length)), some (.int (nI (s + S.length + 1))), some (.int (nI O.length)), some (.int (nI (min least (g0 + a + if w + 1 < ws.length ∧ g0 + a < 4 then min (fsg ws O (w + 1) ws.length) 4 else 0)))), none, some (.int (nI hi)), some (.int (nI (w + 1))), none, none] [] h' ∧ _
    by_cases z : w + 1 < ws.length
    · rw [if_pos (nI_lt z (by omega))]
      by_cases q : g0 + a < 4
      · rw [if_pos (nI_lt q (by decide)), if_pos ⟨z, q⟩]
        exact fin rfl z
      · rw [if_neg (nI_nlt (by omega) (by omega)), if_neg (c := w + 1 < ws.length ∧ g0 + a < 4) (fun z => q z.2)]
        exact ⟨h, lst _ (by omega), Fr.rfl⟩
    · rw [if_neg (nI_nlt (by omega) (by omega)), if_neg (c := w + 1 < ws.length ∧ g0 + a < 4) (fun y => z y.1)]
      exact ⟨h, lst _ (by omega), Fr.rfl⟩
end RFO
