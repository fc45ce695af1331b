/-! ===== moved AS A CALL ===== -/
def mvS (bk : Bk) (s : St) (t : Tp) (x y : Int32) : Int32 × St := match hv x (bk 0 1) with
  | none => (nI 0, s)
  | some p => if adR bk t < nI 0 then (nI 0, s) else match adS bk t with
    | none => (nI 0, s)
    | some q => if q.2.2.2 = x ∧ nI q.2.1 = y then (nI 0, s) else match hv y 27000 with
      | none => (nI 0, s)
      | some dr => if 27 ≤ dr then (tmB s p dr (some (ix q.2.2.2, q.2.1)), tmSt s p dr (some (ix q.2.2.2, q.2.1))) else (nI 0, s)
theorem gnS_w {bk : Bk} {s : St} (w : WS bk s) (x y : Int32) (W : WB bk) : WS bk (gnS bk s x y).2 := by
  have wp := W.1.2.1
  unfold gnS
  rcases hv_c x (show bk 0 1 < 2 ^ 31 by omega) with ⟨e, -⟩ | ⟨p, hp, rfl, e⟩
  · rw [e]; exact w
  · rw [e]
    dsimp only
    rcases hv_c y (show 27000 < 2 ^ 31 by decide) with ⟨e', q⟩ | ⟨dr, hd, rfl, e'⟩
    · rw [e']; exact w
    · rw [e']
      dsimp only
      by_cases q : 27 ≤ dr
      · rw [if_pos q]; exact w.tm hp q hd (fun q h => by cases h)
      · rw [if_neg q]; exact w
theorem mvS_w {bk : Bk} {s : St} {t : Tp} (w : WS bk s) (x y : Int32) (W : WB bk) (N : WN bk) : WS bk (mvS bk s t x y).2 := by
  have wp := W.1.2.1
  unfold mvS
  rcases hv_c x (show bk 0 1 < 2 ^ 31 by omega) with ⟨e, -⟩ | ⟨p, hp, rfl, e⟩
  · rw [e]; exact w
  rw [e]
  dsimp only
  by_cases q : adR bk t < nI 0
  · rw [if_pos q]; exact w
  rw [if_neg q]
  rcases ad_f (t := t) W N with (e | e) | ⟨p', D, F, v, e1, e2, e3, e4, e5⟩
  · rw [e] at q; exact absurd (by decide) q
  · rw [e] at q; exact absurd (by decide) q
  rw [e1]
  dsimp only
  split
  · exact w
  · rcases hv_c y (show 27000 < 2 ^ 31 by decide) with ⟨e', q⟩ | ⟨dr, hd, rfl, e'⟩
    · rw [e']; exact w
    · rw [e']
      dsimp only
      by_cases q : 27 ≤ dr
      · rw [if_pos q]
        exact w.tm hp q hd (fun q h => by cases h; exact ⟨by show ix (nI p') < _; rw [ix_nI (by omega)]; exact e3, e4, e5⟩)
      · rw [if_neg q]; exact w
section MVD
variable {d : Nat} {h : AH} {b : Nat} {bk : Bk} {G Cp : Nat → Nat → Nat} {s : St} {v : Nat} {t : Tp}
abbrev KMv : List Nat := 2055 :: 3073 :: KF
abbrev XMv : List Nat := 166 :: 167 :: XF
theorem c_moved (W : WB bk) (N : WN bk) (C : CSt h b bk s G Cp) (w : WS bk s) (C4 : CS4 h s) (T : CT h t) (x y : Int32) : ∃ h', E (d + 8) 12 [.ref 100, .int x, .int y] h = some (some (.int (mvS bk s t x y).1), h') ∧ Fr KMv XMv h h' ∧ CS4 h' (mvS bk s t x y).2 ∧ CT h' (0, t.2) := by
  obtain ⟨hs, hw, hb, B, C1, C2⟩ := C
  have wp := W.1.2.1
  obtain ⟨h1, a1, a2, a3, a4⟩ := c_takeA (d := d) hs hb W N B T
  have s1 := a3.sh hs
  have F1 : Fr KMv XMv h h1 := a3.wk (fun _ q => List.mem_cons_of_mem _ q) (fun _ q => List.mem_cons_of_mem _ (List.mem_cons_of_mem _ q))
  have B1 : CB h1 b bk G Cp := B.fr a3 (by decide) (fun x hx => by have := xf.mp hx; omega)
  have hb1 : gR h1 2048 156 = some b := by rw [a3.2.2.2.1]; exact hb
  have C41 : CS4 h1 s := C4.fr a3 (by decide) (fun q => by have := xf.mp q; omega) (fun q => by have := xf.mp q; omega) rfl
  have same : ∃ h', some (some (Value.int (nI 0)), h1) = some (some (Value.int (nI 0)), h') ∧ Fr KMv XMv h h' ∧ CS4 h' s ∧ CT h' (0, t.2) := ⟨h1, rfl, F1, C41, a2⟩
  unfold mvS
  rw [t_12 hs, a1, cK_v, t_12_4 s1]
  by_cases q : adR bk t < nI 0
  · rw [if_pos q]
    rcases hv_c x (show bk 0 1 < 2 ^ 31 by omega) with ⟨e, -⟩ | ⟨p, hp, rfl, e⟩
    · rw [e]; exact same
    · rw [e]; dsimp only; rw [if_pos q]; exact same
  rw [if_neg q, hb1, Option.bind_some, ck_ok B1.1, (c_has s1 W B1 x).2.1, cK_v, t_12_20 s1]
  rcases hv_c x (show bk 0 1 < 2 ^ 31 by omega) with ⟨e, -⟩ | ⟨p, hp, rfl, e⟩
  · rw [hb1_n e, if_pos rfl, e]; exact same
  rw [hb1_s e, if_neg (by decide), e]
  dsimp only
  rw [if_neg q]
  rcases ad_f (t := t) W N with (e | e) | ⟨p', D, F, v, e1, e2, e3, e4, e5⟩
  · rw [e] at q; exact absurd (by decide) q
  · rw [e] at q; exact absurd (by decide) q
  have dd := (a4 v D F _ e1).1
  rw [e1, e2, dd]
  dsimp only
  have go : cK (E (d + 7) 208 [.int (nI p'), .int (nI D)] h1) (Q (d + 7) 12 58 [some (.ref 100), some (.int (nI p)), some (.int y), some (.int (nI p'))]) [.int y, .int (nI p), .ref 156] = cK (E (d + 7) 209 [.ref 156, .int (nI p), .int y, .int (nI (27000 * p' + D))] h1) (Q (d + 7) 12 61 [some (.ref 100), some (.int (nI p)), some (.int y), some (.int (nI p'))]) [] := by
    rw [t_208 s1, pk_mul, nI_add, Nat.mul_comm p' 27000, cK_v, t_12_58 s1, ck_ok (show gC h1 156 = 8 from ShC s1 (by decide))]
  have eqs : (if nI p' = nI p then (if nI D = y then (some (some (Value.int (nI 0)), h1) : Option Ot) else cK (E (d + 7) 208 [.int (nI p'), .int (nI D)] h1) (Q (d + 7) 12 58 [some (.ref 100), some (.int (nI p)), some (.int y), some (.int (nI p'))]) [.int y, .int (nI p), .ref 156]) else cK (E (d + 7) 208 [.int (nI p'), .int (nI D)] h1) (Q (d + 7) 12 58 [some (.ref 100), some (.int (nI p)), some (.int y), some (.int (nI p'))]) [.int y, .int (nI p), .ref 156]) = if nI p' = nI p ∧ nI D = y then some (some (Value.int (nI 0)), h1) else cK (E (d + 7) 209 [.ref 156, .int (nI p), .int y, .int (nI (27000 * p' + D))] h1) (Q (d + 7) 12 61 [some (.ref 100), some (.int (nI p)), some (.int y), some (.int (nI p'))]) [] := by
    rw [go]
    by_cases z1 : nI p' = nI p
    · by_cases z2 : nI D = y
      · rw [if_pos z1, if_pos z2, if_pos ⟨z1, z2⟩]
      · rw [if_pos z1, if_neg z2, if_neg fun z => z2 z.2]
    · rw [if_neg z1, if_neg fun z => z1 z.1]
  rw [eqs]
  by_cases z : nI p' = nI p ∧ nI D = y
  · rw [if_pos z, if_pos z]; exact same
  rw [if_neg z, if_neg z, ix_nI (show p' < 2 ^ 31 by omega)]
  rcases hv_c y (show 27000 < 2 ^ 31 by decide) with ⟨e', q⟩ | ⟨dr, hd, rfl, e'⟩
  · rw [e']
    dsimp only
    rw [t_209 s1]
    by_cases q1 : y < nI 27
    · rw [if_pos q1, cK_v, t_12_61 s1, if_pos (by decide)]; exact same
    · rw [if_neg q1]
      rcases q with q | ⟨-, q⟩
      · exact absurd (Int32.lt_trans q (by decide)) q1
      · rw [if_neg q, cK_v, t_12_61 s1, if_pos (by decide)]; exact same
  · rw [e']
    dsimp only
    by_cases q : 27 ≤ dr
    · rw [if_pos q]
      obtain ⟨h', b1, b2, b3⟩ := c_tell (d := d + 5) s1 W w C41 hp q hd (some (p', D))
      have b1' : E (d + 7) 209 [.ref 156, .int (nI p), .int (nI dr), .int (nI (27000 * p' + D))] h1 = some (some (.int (tmB s p dr (some (p', D)))), h') := b1
      refine ⟨h', ?_, F1.trans (b2.wk (by decide) (fun x q => by
        simp only [List.mem_cons, List.not_mem_nil, or_false] at q
        rcases q with q | q <;> rw [q]
        · exact List.mem_cons_self
        · exact List.mem_cons_of_mem _ List.mem_cons_self)), b3, a2.fr b2 (by decide) (by decide)⟩
      rw [b1', cK_v, t_12_61 (b2.sh s1), if_pos (show tmB s p dr (some (p', D)) = 0 ∨ tmB s p dr (some (p', D)) = 1 from tmB_01 _ _ _)]
    · rw [if_neg q, t_209 s1, if_pos (nI_lt (by omega) (by decide)), cK_v, t_12_61 s1, if_pos (by decide)]; exact same
abbrev KRm : List Nat := 3586 :: 3590 :: 3591 :: 3688 :: KA
abbrev XRm : List Nat := [265, 266, 267, 268] ++ XA
theorem r_moved (hs : Sh h) (W : WB bk) (N : WN bk) (w : WS bk s) (hv' : v ≤ 1) (hN : gI h 3597 189 = nI v) (B : RB h v bk) (R4 : RS4 h s) (T : RT h t) (x y : Int32) : ∃ h', E (d + 5) 114 [.ref 189, .int x, .int y] h = some (some (.int (mvS bk s t x y).1), h') ∧ gI h' 3586 189 = nI 0 ∧ Fr KRm XRm h h' ∧ RS4 h' (mvS bk s t x y).2 ∧ RT h' (0, t.2) := by
  have wp := W.1.2.1
  obtain ⟨g0, g0E⟩ : ∃ g, g = sI h 3586 189 (nI 0) := ⟨_, rfl⟩
  have f0 : Fr KRm [] h g0 := by rw [g0E]; exact Fr.rfl.sI (by decide)
  have s0 := f0.sh hs
  have T0 : RT g0 t := by
    refine ⟨?_, T.2.1, fun i hi => by rw [f0.A List.not_mem_nil]; exact T.2.2 i hi⟩
    rw [g0E, gI_k (by decide)]; exact T.1
  obtain ⟨g1, g1E⟩ : ∃ g, g = sI (sI g0 3591 189 (gI g0 3590 189)) 3590 189 (nI 0) := ⟨_, rfl⟩
  have f1 : Fr KRm [] h g1 := by rw [g1E]; exact (f0.sI (by decide)).sI (by decide)
  have s1 := f1.sh hs
  have T1 : RTk g1 t := by rw [g1E]; exact RT.tk T0
  obtain ⟨g2, a1, a2, a3⟩ := r_addr (d := d) s1 W N (B.fr f1 (fun x q => absurd q List.not_mem_nil)) hv' (by rw [f1.I (by decide)]; exact hN) T1
  have f2 : Fr KRm XRm h g2 := (f1.wk (fun _ q => q) (fun _ q => absurd q List.not_mem_nil)).trans (a2.wk (by decide) (fun _ q => List.mem_append_right _ q))
  have s2 := f2.sh hs
  have t2 : gI g2 3586 189 = nI 0 := by rw [a2.I (by decide), g1E, gI_k (by decide), gI_k (by decide), g0E, gI_s]
  have z2 : gI g2 3590 189 = nI 0 := by rw [a2.I (by decide), g1E, gI_s]
  have f2' : Fr KRm XA h g2 := (f1.wk (fun _ q => q) (fun _ q => absurd q List.not_mem_nil)).trans (a2.wk (by decide) (fun _ q => q))
  have B2 : RB g2 v bk := B.fr f2' (fun x hx => by
    have : ∀ x, x ∈ XA → 232 < x := by decide
    exact Or.inr (this x hx))
  have N2 : gI g2 3597 189 = nI v := by rw [f2.I (by decide)]; exact hN
  have R2 : RS4 g2 s := by
    unfold RS4 at R4 ⊢
    rw [show gI g2 3688 189 = gI h 3688 189 from by rw [a2.I (by decide), g1E, gI_k (by decide), gI_k (by decide), g0E, gI_k (by decide)], f2'.A (by decide), f2'.A (by decide), f2'.A (by decide), f2'.A (by decide)]
    exact R4
  have same : ∃ h', some (some (Value.int (nI 0)), g2) = some (some (Value.int (nI 0)), h') ∧ gI h' 3586 189 = nI 0 ∧ Fr KRm XRm h h' ∧ RS4 h' s ∧ RT h' (0, t.2) := ⟨g2, rfl, t2, f2, R2, RT.z z2⟩
  have zz : ∀ {u2 u3 : Option Value}, Q (d + 4) 114 44 [some (.ref 189), some (.int x), u2, u3] [.int (nI 0)] g2 = some (some (.int (nI 0)), g2) := by
    intro u2 u3; rw [t_114_44 s2, if_pos (by decide)]
  unfold mvS
  rw [t_114 hs, ← g0E, t_36 s0, cK_n, ← g1E, t_114_9 s1, a1, cK_v, t_114_13 s2]
  by_cases q : adR bk t < nI 0
  · rw [if_pos q]
    rcases hv_c x (show bk 0 1 < 2 ^ 31 by omega) with ⟨e, -⟩ | ⟨p, hp, rfl, e⟩
    · rw [e]; exact same
    · rw [e]; dsimp only; rw [if_pos q]; exact same
  rw [if_neg q]
  rcases ad_f (t := t) W N with (e | e) | ⟨p', D, F, u, e1, e2, e3, e4, e5⟩
  · rw [e] at q; exact absurd (by decide) q
  · rw [e] at q; exact absurd (by decide) q
  have dd := (a3 u D F _ e1).1
  rw [e2, dd]
  have eqs : ∀ A B : Option Ot, (if nI p' = x then (if nI D = y then A else B) else B) = if nI p' = x ∧ nI D = y then A else B := fun A B => by
    by_cases z1 : nI p' = x
    · by_cases z2 : nI D = y
      · rw [if_pos z1, if_pos z2, if_pos ⟨z1, z2⟩]
      · rw [if_pos z1, if_neg z2, if_neg fun z => z2 z.2]
    · rw [if_neg z1, if_neg fun z => z1 z.1]
  rw [eqs]
  by_cases z : nI p' = x ∧ nI D = y
  · rw [if_pos z]
    rcases hv_c x (show bk 0 1 < 2 ^ 31 by omega) with ⟨e, -⟩ | ⟨p, hp, rfl, e⟩
    · rw [e]; exact same
    · rw [e]; dsimp only; rw [← e2, if_neg q, e1]; dsimp only; rw [if_pos z]; exact same
  rw [if_neg z]
  rcases hv_c x (show bk 0 1 < 2 ^ 31 by omega) with ⟨e, q'⟩ | ⟨p, hp, rfl, e⟩
  · rw [e]
    dsimp only
    rw [t_115 s2]
    rcases q' with q' | ⟨q', r⟩
    · rw [if_pos q', cK_v, zz]; exact same
    · rw [if_neg q', N2, gd_nI (by omega) (by decide), ix_nI (by omega), B2.1.2.1, if_neg r, cK_v, zz]; exact same
  rw [e]
  dsimp only
  rw [← e2, if_neg q, e1]
  dsimp only
  rw [if_neg z, ix_nI (show p' < 2 ^ 31 by omega), e2]
  rcases hv_c y (show 27000 < 2 ^ 31 by decide) with ⟨e', q⟩ | ⟨dr, hd, rfl, e'⟩
  · rw [e']
    dsimp only
    rw [t_115 s2, if_neg (nI_nlt (by omega) (by omega)), N2, gd_nI (by omega) (by decide), ix_nI (by omega), B2.1.2.1, if_pos (nI_lt hp (by omega))]
    by_cases q1 : y < nI 27
    · rw [if_pos q1, cK_v, zz]; exact same
    · rw [if_neg q1]
      rcases q with q | ⟨-, q⟩
      · exact absurd (Int32.lt_trans q (by decide)) q1
      · rw [if_pos (Int32.lt_of_lt_of_le (show nI 26999 < nI 27000 by decide) (Int32.not_lt.mp q)), cK_v, zz]; exact same
  · rw [e']
    dsimp only
    by_cases q : 27 ≤ dr
    · rw [if_pos q]
      obtain ⟨h', b1, b2, b3⟩ := r_move (d := d + 2) s2 W w hv' N2 B2 R2 hp q hd (some (p', D)) (nI D) (fun q w => by cases w; rfl)
      have b1' : E (d + 4) 115 [.ref 189, .int (nI p), .int (nI dr), .int (nI p'), .int (nI D)] g2 = some (some (.int (tmB s p dr (some (p', D)))), h') := b1
      refine ⟨h', ?_, ?_, f2.trans (b2.wk (by decide) (fun _ q => List.mem_append_left _ q)), b3, RT.z ?_⟩
      · rw [b1', cK_v, t_114_44 (b2.sh s2), if_pos (show tmB s p dr (some (p', D)) = 0 ∨ tmB s p dr (some (p', D)) = 1 from tmB_01 _ _ _)]
      · rw [b2.I (by decide)]; exact t2
      · rw [b2.I (by decide)]; exact z2
    · rw [if_neg q, t_115 s2, if_neg (nI_nlt (by omega) (by omega)), N2, gd_nI (by omega) (by decide), ix_nI (by omega), B2.1.2.1, if_pos (nI_lt hp (by omega)), if_pos (nI_lt (by omega) (by decide)), cK_v, zz]; exact same
end MVD
