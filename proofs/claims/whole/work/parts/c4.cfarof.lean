/-! ===== how far a piece is: the component ===== -/
theorem off_lt {ws : List (List Nat)} {i : Nat} : ∀ (k : Nat), i + k + 1 ≤ ws.length → off ws i < off ws (i + k + 1) ∧ off ws (i + k + 1) ≤ (FL ws).length
  | 0, h => by
    have e := gtD (ws := ws) (i := i) (by omega)
    have e1 := off_s e
    have := (FL_at ws i e (Nat.le_refl _)).2
    rw [show i + 0 + 1 = i + 1 from rfl]; omega
  | k + 1, h => by
    have ih := off_lt (ws := ws) (i := i) k (by omega)
    have e := gtD (ws := ws) (i := i + k + 1) (by omega)
    have e1 := off_s e
    have := (FL_at ws (i + k + 1) e (Nat.le_refl _)).2
    rw [show i + (k + 1) + 1 = i + k + 1 + 1 from by omega]; omega
theorem off_l {ws : List (List Nat)} {i j : Nat} (h1 : i < j) (h2 : j ≤ ws.length) : off ws i < off ws j ∧ off ws j ≤ (FL ws).length := by
  have := off_lt (ws := ws) (i := i) (j - i - 1) (by omega)
  rw [show i + (j - i - 1) + 1 = j from by omega] at this; exact this
theorem FL_m : ∀ (ws : List (List Nat)), (∀ w, w ∈ ws → ∀ x, x ∈ w → x < 37) → ∀ x, x ∈ FL ws → x < 37
  | [], _ => fun x hx => absurd hx List.not_mem_nil
  | v :: ws, h => fun x hx => by
    rw [FL, List.mem_append, List.mem_cons] at hx
    rcases hx with hx | hx | hx
    · exact h v (List.mem_cons_self ..) x hx
    · omega
    · exact FL_m ws (fun w hw => h w (List.mem_cons_of_mem _ hw)) x hx
theorem getD_lt {l : List Nat} {i n : Nat} (hn : 0 < n) (h : ∀ x, x ∈ l → x < n) : l.getD i 0 < n := by
  rw [List.getD_eq_getElem?_getD]
  by_cases q : i < l.length
  · rw [List.getElem?_eq_getElem q]; exact h _ (List.getElem_mem q)
  · rw [List.getElem?_eq_none (by omega)]; exact hn
/-- the farness of a text and the words i .. j - 1 -/
def fsg (ws : List (List Nat)) (a : List Nat) (i j : Nat) : Nat := edF (fun k => a.getD k 0) (fun k => (FL ws).getD (off ws i + k) 0) a.length (off ws j - 1 - off ws i)
def fmL (ws : List (List Nat)) (S O : List Nat) : Nat → Nat → Nat → Nat
  | 0, _, acc => acc
  | k + 1, w, acc => fmL ws S O k (w + 1) (min acc (fsg ws S 1 w + fsg ws O w ws.length))
/-- how far a piece is, 4 if it is too far -/
def faS (ws : List (List Nat)) (cw : Option Nat) (S O : List Nat) (code : Nat) : Nat := match cw with
  | some c => min 4 (ugN (ws.getD c []) code + fsg ws S 1 c + (if c + 1 < ws.length then fsg ws O (c + 1) ws.length else 0))
  | none => fmL ws S O (ws.length - 2) 2 4
def stx (bk : Bk) (p : Nat) : List Nat := ncod 12 (bk 7 (3 * p)) ++ (if 1 < bk 8 p then 0 :: ncod 12 (bk 7 (3 * p + 1)) else []) ++ (if 2 < bk 8 p then 0 :: ncod 12 (bk 7 (3 * p + 2)) else [])
def otx (bk : Bk) (p : Nat) : List Nat := ncod 12 (bk 1 (bk 9 p))
theorem stx_l {bk : Bk} {p : Nat} : (stx bk p).length ≤ 38 := by
  unfold stx
  have := nc_l 12 (bk 7 (3 * p)); have := nc_l 12 (bk 7 (3 * p + 1)); have := nc_l 12 (bk 7 (3 * p + 2))
  rw [List.length_append, List.length_append]
  split <;> split <;> simp only [List.length_cons, List.length_nil] <;> omega
theorem stx_m {bk : Bk} {p : Nat} : ∀ x, x ∈ stx bk p → x < 37 := fun x hx => by
  unfold stx at hx
  rw [List.mem_append, List.mem_append] at hx
  rcases hx with (hx | hx) | hx
  · exact nc_b _ _ x hx
  · split at hx
    · rcases List.mem_cons.mp hx with hx | hx
      · omega
      · exact nc_b _ _ x hx
    · exact absurd hx List.not_mem_nil
  · split at hx
    · rcases List.mem_cons.mp hx with hx | hx
      · omega
      · exact nc_b _ _ x hx
    · exact absurd hx List.not_mem_nil
section CFO
variable {d : Nat} {bk : Bk} {G Cp : Nat → Nat → Nat} {b : Nat} {ws : List (List Nat)} {u : Nat}
theorem AN.cx {h : AH} {x : Nat} {l : List Nat} (A : AN h x l) (hl : ∀ y, y ∈ l → y < 37) : CX h x l.length (fun k => l.getD k 0) := by
  obtain ⟨a1, a2, a3, a4⟩ := A
  refine ⟨a1, a2, by unfold idB at a3; omega, fun i hi => ⟨?_, getD_lt (by decide) hl⟩⟩
  show gA h x i = nI (l.getD i 0)
  rw [a4 i hi, List.getD_eq_getElem?_getD, List.getElem?_eq_getElem hi]; rfl
theorem c_fsg {h : AH} (hs : Sh h) (C : CWs h ws) (V : WWb u ws) (hu : u ≤ 81) {x : Nat} {l : List Nat} (A : AN h x l) (hl : ∀ y, y ∈ l → y < 37) (hl2 : l.length ≤ 40) {i j : Nat} (hij : i < j) (hj : j ≤ ws.length) : ∃ y h', E (d + 3) 353 [.ref 103, .ref x, .int (nI i), .int (nI j)] h = some (some (.int (nI y)), h') ∧ y ≤ 200 ∧ nr y (fsg ws l i j) ∧ Fr [] XTb h h' := by
  have v1 := V.1
  have v2 := V.2.1
  obtain ⟨o1, o2⟩ := off_l hij hj
  have ei := gtD (ws := ws) (i := i) (by omega)
  have ej := gtD (ws := ws) (i := j - 1) (by omega)
  have oj := off_s ej
  rw [show j - 1 + 1 = j from by omega] at oj
  have s1 := (C.2.1 i _ ei).1
  have s2 := (C.2.1 (j - 1) _ ej).2
  refine c_far hs (A.cx hl) (p := off ws i) (m := off ws j - 1 - off ws i) (B := fun k => (FL ws).getD (off ws i + k) 0) ⟨by omega, fun k hk => ⟨C.2.2 _ (by omega), getD_lt (by decide) (FL_m ws fun w hw x hx => (V.2.2 w hw x hx).2)⟩⟩ hl2 (by omega) (by omega) (by omega) s1 ?_
  rw [s2]; congr 1; omega
theorem AN.fr {K X : List Nat} {h h' : AH} {x : Nat} {l : List Nat} (A : AN h x l) (f : Fr K X h h') (hX : ∀ y, y ∈ X → y < 157) : AN h' x l := by
  obtain ⟨a1, a2, a3, a4⟩ := A
  refine ⟨by rw [f.2.1]; exact a1, by rw [f.2.2.1]; exact a2, a3, fun i hi => ?_⟩
  rw [f.A (fun q => absurd (hX x q) (by unfold idB at a3; omega))]; exact a4 i hi
theorem xt157 : ∀ y, y ∈ XTb → y < 157 := fun y hy => by have := (xtb.mp hy).2; omega
theorem CB.ft {h h' : AH} (B : CB h b bk G Cp) (f : Fr [] XTb h h') : CB h' b bk G Cp := B.fr f (fun k _ => List.not_mem_nil) fun x hx => Or.inl (xt157 x hx)
theorem CWs.ft {h h' : AH} (C : CWs h ws) (f : Fr [] XTb h h') : CWs h' ws := C.fr f List.not_mem_nil ⟨fun q => absurd (xtb.mp q) (by decide), fun q => absurd (xtb.mp q) (by decide), fun q => absurd (xtb.mp q) (by decide)⟩
theorem c_fml (V : WWb u ws) (hu : u ≤ 81) {p : Nat} (hp : p < bk 0 1) (W : WB bk) (h2 : 2 ≤ ws.length) : ∀ (k w x3 acc : Nat) {h : AH}, Sh h → CWs h ws → CB h b bk G Cp → k + w = ws.length → 2 ≤ w → x3 ≤ 400 → nr x3 acc → ∃ y h', Q (d + 3) 299 75 [some (.ref 103), some (.ref (G 1 p)), some (.ref (G 0 (bk 9 p))), some (.int (nI x3)), some (.int (nI w)), none] [] h = some (some (.int (nI y)), h') ∧ y ≤ 400 ∧ nr y (fmL ws (stx bk p) (otx bk p) k w acc) ∧ Fr [] XTb h h' := by
  intro k
  have v1 := V.1
  have wp := W.2.2.2.1 p hp
  induction k with
  | zero =>
    intro w x3 acc h hs C B e hw hx hn
    exact ⟨x3, h, by rw [t_299_75 hs, C.1, if_neg (nI_nlt (by omega) (by omega))], hx, hn, Fr.rfl⟩
  | succ k ih =>
    intro w x3 acc h hs C B e hw hx hn
    obtain ⟨-, -, -, -, c5, c6, -⟩ := id B
    obtain ⟨g1, -, -, -, -, -, -, -, -, g10, g11⟩ := c6 p hp
    obtain ⟨ya, h1, ea, la, na, fa⟩ := c_fsg (d := d) hs C V hu (l := stx bk p) g11 stx_m (by have := stx_l (bk := bk) (p := p); omega) (i := 1) (j := w) (by omega) (by omega)
    have hs1 := fa.sh hs
    have C1 := C.ft fa
    have B1 := B.ft fa
    obtain ⟨-, -, -, -, c5, -⟩ := id B1
    obtain ⟨o1, -, -, -, -, -, o7, o8⟩ := c5 (bk 9 p) (by omega)
    rw [fmL]
    by_cases q : ya < x3
    · obtain ⟨yo, h3, eo, lo, no, fo⟩ := c_fsg (d := d) hs1 C1 V hu (l := otx bk p) o8 (nc_b _ _) (by have := nc_l 12 (bk 1 (bk 9 p)); unfold otx; omega) (i := w) (j := ws.length) (by omega) (Nat.le_refl _)
      obtain ⟨y, h', ey, ly, ny, fy⟩ := ih (w + 1) (min x3 (ya + yo)) (min acc (fsg ws (stx bk p) 1 w + fsg ws (otx bk p) w ws.length)) (fo.sh hs1) (C1.ft fo) (B1.ft fo) (by omega) (by omega) (by omega) (nr_mn hn (nr_sm na no))
      refine ⟨y, h', ?_, ly, ny, (fa.trans fo).trans fy⟩
      rw [t_299_75 hs, C.1, if_pos (nI_lt (by omega) (by omega)), ck_ok g1, g10, Option.bind_some, ea, cK_v, t_299_95 hs1, if_pos (nI_lt q (by omega)), ck_ok o1, o7, Option.bind_some, C1.1, eo, cK_v, t_299_120 (fo.sh hs1), nI_add, m_min (fo.sh hs1) (by omega) (by omega), cK_v, t_299_124 (fo.sh hs1), nI_add]
      exact ey
    · obtain ⟨y, h', ey, ly, ny, fy⟩ := ih (w + 1) x3 (min acc (fsg ws (stx bk p) 1 w + fsg ws (otx bk p) w ws.length)) hs1 C1 B1 (by omega) (by omega) hx (by
        have a1 := nr_or.mp hn; have a2 := nr_or.mp na
        exact nr_or.mpr (by omega))
      refine ⟨y, h', ?_, ly, ny, fa.trans fy⟩
      rw [t_299_75 hs, C.1, if_pos (nI_lt (by omega) (by omega)), ck_ok g1, g10, Option.bind_some, ea, cK_v, t_299_95 hs1, if_neg (nI_nlt (by omega) (by omega)), nI_add]
      exact ey
theorem nr_m4 {x y : Nat} (h : nr x y) : nr x (min 4 y) := nr_or.mpr (by have := nr_or.mp h; omega)
theorem c_farOf {h : AH} (hs : Sh h) (W : WB bk) (C : CWs h ws) (V : WWb u ws) (hu : u ≤ 81) (B : CB h b bk G Cp) {p : Nat} (hp : p < bk 0 1) (h2 : 2 ≤ ws.length) {cw : Option Nat} (ecw : cw = fcL ws (ws.length - 2) 2) (ew : gI h 1029 103 = coI cw) : ∃ y h', E (d + 4) 299 [.ref 103, .ref (G 1 p), .ref (G 0 (bk 9 p))] h = some (some (.int (nI y)), h') ∧ y ≤ 1000 ∧ nr y (faS ws cw (stx bk p) (otx bk p) (bk 2 (bk 9 p))) ∧ Fr [] XTb h h' := by
  have v1 := V.1
  have wp := W.2.2.2.1 p hp
  cases cw with
  | none =>
    obtain ⟨y, h', ey, ly, ny, fy⟩ := c_fml (d := d) V hu hp W h2 (ws.length - 2) 2 99 4 hs C B (by omega) (by omega) (by omega) (nr_or.mpr (by omega))
    refine ⟨y, h', ?_, by omega, ny, fy⟩
    rw [t_299 hs, ew, if_pos (show coI none = -1 from rfl)]; exact ey
  | some c =>
    obtain ⟨f1, f2, f3⟩ := fc_b _ _ ecw.symm
    have nn : ¬ nI c = -1 := fun z => by
      have : (nI c).toInt = (-1 : Int32).toInt := by rw [z]
      rw [nI_toInt (by omega)] at this
      have : (-1 : Int32).toInt = -1 := by decide
      omega
    have ew' : gI h 1029 103 = nI c := ew
    -- street, then digits
    have tl : ∀ {g : AH} (z : Nat), Sh g → CWs g ws → CB g b bk G Cp → gI g 1029 103 = nI c → ∃ ys g', (ck (gC g (G 1 p)) 11 <| (gR g 2816 (G 1 p)).bind fun y1 => cK (E (d + 3) 353 [.ref 103, .ref y1, .int (nI 1), .int (gI g 1029 103)] g) (Q (d + 3) 299 57 [some (.ref 103), some (.ref (G 1 p)), some (.ref (G 0 (bk 9 p))), some (.int (nI z)), none, none]) []) = some (some (.int (nI (ys + z + ugN (ws.getD c []) (bk 2 (bk 9 p))))), g') ∧ ys ≤ 200 ∧ nr ys (fsg ws (stx bk p) 1 c) ∧ Fr [] XTb g g' := fun {g} z hg C B eg => by
      obtain ⟨-, -, -, -, -, c6, -⟩ := id B
      obtain ⟨g1, -, -, -, -, -, -, -, -, g10, g11⟩ := c6 p hp
      obtain ⟨ya, g2, ea, la, na, fa⟩ := c_fsg (d := d) hg C V hu (l := stx bk p) g11 stx_m (by have := stx_l (bk := bk) (p := p); omega) (i := 1) (j := c) (by omega) (by omega)
      have hg2 := fa.sh hg
      obtain ⟨-, -, -, -, c5, -⟩ := B.ft fa
      obtain ⟨o1, -, o3, -⟩ := c5 (bk 9 p) (by omega)
      have wo := W.2.1 (bk 9 p) (by omega)
      refine ⟨ya, g2, ?_, la, na, fa⟩
      rw [ck_ok g1, g10, Option.bind_some, eg, ea, cK_v, t_299_57 hg2, ck_ok o1, o3, c_ug hg2 (C.ft fa) V hu (gtD (by omega)) f3 (by rw [fa.I List.not_mem_nil]; exact eg) (by omega), cK_v, t_299_67 hg2, nI_add, nI_add]
    rw [t_299 hs, ew', if_neg nn, C.1, nI_add]
    show ∃ y h', _ ∧ _ ∧ nr y (min 4 (ugN (ws.getD c []) (bk 2 (bk 9 p)) + fsg ws (stx bk p) 1 c + (if c + 1 < ws.length then fsg ws (otx bk p) (c + 1) ws.length else 0))) ∧ _
    have ub := ug_b (w := ws.getD c []) (c := bk 2 (bk 9 p))
    by_cases q : c + 1 < ws.length
    · obtain ⟨-, -, -, -, c5, -⟩ := id B
      obtain ⟨o1, -, -, -, -, -, o7, o8⟩ := c5 (bk 9 p) (by omega)
      obtain ⟨yo, g1, eo, lo, no, fo⟩ := c_fsg (d := d) hs C V hu (l := otx bk p) o8 (nc_b _ _) (by have := nc_l 12 (bk 1 (bk 9 p)); unfold otx; omega) (i := c + 1) (j := ws.length) q (Nat.le_refl _)
      obtain ⟨ys, g', e', ls, ns, fs⟩ := tl yo (fo.sh hs) (C.ft fo) (B.ft fo) (by rw [fo.I List.not_mem_nil]; exact ew')
      refine ⟨ys + yo + ugN (ws.getD c []) (bk 2 (bk 9 p)), g', ?_, by omega, ?_, fo.trans fs⟩
      · rw [if_pos (nI_lt q (by omega)), ck_ok o1, o7, Option.bind_some, eo, cK_v, t_299_39 (fo.sh hs)]
        exact e'
      · rw [if_pos q]
        have := nr_sm (nr_sm ns no) (show nr (ugN (ws.getD c []) (bk 2 (bk 9 p))) (ugN (ws.getD c []) (bk 2 (bk 9 p))) from rfl)
        rw [show ugN (ws.getD c []) (bk 2 (bk 9 p)) + fsg ws (stx bk p) 1 c + fsg ws (otx bk p) (c + 1) ws.length = fsg ws (stx bk p) 1 c + fsg ws (otx bk p) (c + 1) ws.length + ugN (ws.getD c []) (bk 2 (bk 9 p)) from by omega]
        exact nr_m4 this
    · obtain ⟨ys, g', e', ls, ns, fs⟩ := tl 0 hs C B ew'
      refine ⟨ys + 0 + ugN (ws.getD c []) (bk 2 (bk 9 p)), g', ?_, by omega, ?_, fs⟩
      · rw [if_neg (nI_nlt (by omega) (by omega))]
        rw [ew'] at e'
        exact e'
      · rw [if_neg q]
        have := nr_sm ns (show nr (ugN (ws.getD c []) (bk 2 (bk 9 p))) (ugN (ws.getD c []) (bk 2 (bk 9 p))) from rfl)
        rw [show ugN (ws.getD c []) (bk 2 (bk 9 p)) + fsg ws (stx bk p) 1 c + 0 = fsg ws (stx bk p) 1 c + ugN (ws.getD c []) (bk 2 (bk 9 p)) from by omega]
        exact nr_m4 this
end CFO
