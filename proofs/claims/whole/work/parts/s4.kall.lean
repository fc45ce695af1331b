/-! ===== THE LAW: the calls that may throw: each answers alike or throws ===== -/
section JKB
variable {d : Nat} {h h' h1 h2 : AH} {b v sd x0 y0 P Q Z P' Q' : Nat} {bk : Bk} {s s' s'' : St} {G Cp G' Cp' : Nat → Nat → Nat} {t t' u : Tp} {fd ff md fd' ff' md' : Int32} {hp : Bool} {K X : List Nat}
theorem k_price (i : JI h P Q Z) (a x f r : Int32) : JW false d 20 80 [.int a, .int x, .int f, .int r] h P Q Z ∨ JT false 37 d 20 80 [.int a, .int x, .int f, .int r] h P Q Z := by
  obtain ⟨bk, s, b, v, G, Cp, t, wx, w, cb, hv', C, C4, C5, T, hN, B, R, RT', m⟩ := i.b
  have w0 := wx.1.1.1
  have w2 := wx.1.1.2.2.1
  have g := C.1.2
  have bad : (hv a (bk 0 2) = none ∨ hv f (bk 0 0) = none ∨ hv r (bk 0 0) = none) → JT false 37 d 20 80 [.int a, .int x, .int f, .int r] h P Q Z := fun q => JI.thr (by first | exact isL_i | exact isL_l) i (c_price_t (d := d + 334) C.1 wx.1 C.2.2.1 C.2.2.2.1 x q) (r_price_t (d := d + 337) C.1.nw wx.1 hv' (by rw [(O5.rk (GF.nw : O5 h (nw h 0 0 6)) g).I 3597 (by decide)]; exact hN) (B.rk (O5.rk (GF.nw : O5 h (nw h 0 0 6)) g)) x q)
  rcases hv_c a (show bk 0 2 < 2 ^ 31 by omega) with ⟨e1, -⟩ | ⟨j1, l1, rfl, e1⟩
  · exact Or.inr (bad (Or.inl e1))
  rcases hv_c f (show bk 0 0 < 2 ^ 31 by omega) with ⟨e2, -⟩ | ⟨j2, l2, rfl, e2⟩
  · exact Or.inr (bad (Or.inr (Or.inl e2)))
  rcases hv_c r (show bk 0 0 < 2 ^ 31 by omega) with ⟨e3, -⟩ | ⟨j3, l3, rfl, e3⟩
  · exact Or.inr (bad (Or.inr (Or.inr e3)))
  exact Or.inl (JI.w isL_i i (c_price (d := d + 334) C.1 wx.1 C.2.2.1 C.2.2.2.1 l1 l2 l3 x) fun z => r_price (d := d + 337) C.1.sB wx.1 hv' hN (B.rk (O5.sb.rk g)) l1 l2 l3 x)
theorem k_item (i : JI h P Q Z) (x y : Int32) : JW false d 28 181 [.int x, .int y] h P Q Z ∨ JT false 21 d 28 181 [.int x, .int y] h P Q Z := by
  obtain ⟨bk, s, b, v, G, Cp, t, wx, w, cb, hv', C, C4, C5, T, hN, B, R, RT', m⟩ := i.b
  have w1 := w.1
  have g := C.1.2
  have bad : (hv x (zN s 2) = none ∨ hv y 11 = none) → JT false 21 d 28 181 [.int x, .int y] h P Q Z := fun q => JI.thr (by first | exact isL_i | exact isL_l) i (c_item_t (d := d + 336) C w q) (r_item_t (d := d + 339) C.1.nw w (R.rk (O5.rk (GF.nw : O5 h (nw h 0 0 6)) g)).1 q)
  rcases hv_c x (show zN s 2 < 2 ^ 31 by omega) with ⟨e1, -⟩ | ⟨j1, l1, rfl, e1⟩
  · exact Or.inr (bad (Or.inl e1))
  rcases hv_c y (show 11 < 2 ^ 31 by decide) with ⟨e2, -⟩ | ⟨j2, l2, rfl, e2⟩
  · exact Or.inr (bad (Or.inr e2))
  exact Or.inl (JI.w isL_i i (c_item (d := d + 335) C w l1 (by omega)) fun z => r_item (d := d + 339) C.1.sB w (R.rk (O5.sb.rk g)).1 l1 (by omega))
theorem MRe.rsb {ni : Nat} {z : Int64} (m : MRe h h ni) (g : 296 ≤ gN h) : MRe h (sB h 295 0 z) ni := by
  obtain ⟨ty, a2, p, p2, mk, rf, m⟩ := m
  exact ⟨ty, a2, p, p2, mk, rf, m.rk (O5.sb.rk g)⟩
theorem MRe.rnw {ni : Nat} (m : MRe h h ni) (g : 296 ≤ gN h) : MRe h (nw h 0 0 6) ni := by
  obtain ⟨ty, a2, p, p2, mk, rf, m⟩ := m
  exact ⟨ty, a2, p, p2, mk, rf, m.rk (O5.rk (GF.nw : O5 h (nw h 0 0 6)) g)⟩
theorem one_v {w w' : Value} {x : Option Ot} (a : x = some (some w, h)) (b : x = some (some w', h)) : w' = w := by
  rw [a] at b; injection b with b; injection b with b1 _; injection b1 with b1; exact b1.symm
theorem k_number (i : JI h P Q Z) (x : Int32) : JW true d 24 177 [.int x] h P Q Z ∨ JT true 16 d 24 177 [.int x] h P Q Z := by
  obtain ⟨bk, s, b, v, G, Cp, t, wx, w, cb, hv', C, C4, C5, T, hN, B, R, RT', m⟩ := i.b
  have g := C.1.2
  rcases hv_c x (show 10 < 2 ^ 31 by decide) with ⟨e, -⟩ | ⟨j, hj, rfl, e⟩
  · exact Or.inr (JI.thr (by first | exact isL_i | exact isL_l) i (c_num_t (d := d + 339) C.1 e) ((num_b (d := d + 339) C.1 C.1.nw (m.rnw g) x).2 e))
  · obtain ⟨w0, a1, -⟩ := (num_b (d := d + 339) C.1 C.1 m (nI j)).1 j e
    exact Or.inl (JI.w isL_l i a1 fun z => by
      obtain ⟨w1, b1, b2⟩ := (num_b (d := d + 339) C.1 C.1.sB (m.rsb (z := z) g) (nI j)).1 j e
      rw [← one_v a1 b1]; exact b2)
theorem k_held (i : JI h P Q Z) (x : Int32) : JW false d 25 178 [.int x] h P Q Z ∨ JT false 16 d 25 178 [.int x] h P Q Z := by
  obtain ⟨bk, s, b, v, G, Cp, t, wx, w, cb, hv', C, C4, C5, T, hN, B, R, RT', m⟩ := i.b
  have g := C.1.2
  rcases hv_c x (show 4 < 2 ^ 31 by decide) with ⟨e, -⟩ | ⟨j, hj, rfl, e⟩
  · exact Or.inr (JI.thr (by first | exact isL_i | exact isL_l) i (c_held_t (d := d + 339) C.1 e) ((held_b (d := d + 339) C.1 C.1.nw (m.rnw g) x).2 e))
  · obtain ⟨w0, a1, -⟩ := (held_b (d := d + 339) C.1 C.1 m (nI j)).1 j e
    exact Or.inl (JI.w isL_i i a1 fun z => by
      obtain ⟨w1, b1, b2⟩ := (held_b (d := d + 339) C.1 C.1.sB (m.rsb (z := z) g) (nI j)).1 j e
      rw [← one_v a1 b1]; exact b2)
theorem k_tray (i : JI h P Q Z) (x k : Int32) : JW false d 26 179 [.int x, .int k] h P Q Z ∨ JT false 10 d 26 179 [.int x, .int k] h P Q Z := by
  obtain ⟨bk, s, b, v, G, Cp, t, wx, w, cb, hv', C, C4, C5, T, hN, B, R, RT', m⟩ := i.b
  have g := C.1.2
  rcases hv_c x (show 12 < 2 ^ 31 by decide) with ⟨e, -⟩ | ⟨j, hj, rfl, e⟩
  · exact Or.inr (JI.thr (by first | exact isL_i | exact isL_l) i (c_tray_t (d := d + 339) C.1 e) ((tray_b (d := d + 338) C.1 C.1.nw (m.rnw g) x k).2 e))
  · obtain ⟨w0, a1, -⟩ := (tray_b (d := d + 338) C.1 C.1 m (nI j) k).1 j e
    exact Or.inl (JI.w isL_i i a1 fun z => by
      obtain ⟨w1, b1, b2⟩ := (tray_b (d := d + 338) C.1 C.1.sB (m.rsb (z := z) g) (nI j) k).1 j e
      rw [← one_v a1 b1]; exact b2)
theorem k_place (i : JI h P Q Z) (x k : Int32) : JW true d 27 180 [.int x, .int k] h P Q Z ∨ JT true 39 d 27 180 [.int x, .int k] h P Q Z := by
  obtain ⟨bk, s, b, v, G, Cp, t, wx, w, cb, hv', C, C4, C5, T, hN, B, R, RT', m⟩ := i.b
  have g := C.1.2
  cases e : plcS h x k with
  | none => exact Or.inr (JI.thr (by first | exact isL_i | exact isL_l) i (c_place_t (d := d + 339) C.1 e) ((place_b (d := d + 339) C.1 C.1.nw (m.rnw g) x k).2 e))
  | some j =>
    obtain ⟨w0, a1, -⟩ := (place_b (d := d + 339) C.1 C.1 m x k).1 j e
    exact Or.inl (JI.w isL_l i a1 fun z => by
      obtain ⟨w1, b1, b2⟩ := (place_b (d := d + 339) C.1 C.1.sB (m.rsb (z := z) g) x k).1 j e
      rw [← one_v a1 b1]; exact b2)
/-- both have moved, out[0] is written between them -/
theorem JW.of {y yr : Nat} {as : Vs} {w : Value} {z : Int64} (e2 : E (d + 340) yr (.ref 189 :: as) (sB h1 295 0 z) = some (some w, h2)) (zz : gI h2 3586 189 = nI 0) (ip : JPu bk s' Cp' v sd x0 y0 hp u) (c : JCo (sB h1 295 0 z) b bk s' G' Cp' t' fd ff md x0 y0 hp u) (f : Fr K X (sB h1 295 0 z) h2) (hK : ∀ k, k ∈ K → 3584 ≤ k ∧ k < 3840) (hX : ∀ x, x ∈ X → 190 ≤ x ∧ x < 295) (r : JRf h2 v bk s' t' fd ff md sd hp u) (m : MRe h2 h2 (zN s' 2)) (rs : gS h1 + 63 * t'.1 + 560 * zN s' 2 + 4 * kcL Cp' ≤ P + 7000 + 4 * csm Cp' 70) (rn : gN h1 + 3 * t'.1 + 140 * zN s' 2 + kcL Cp' ≤ Q + 1000 + csm Cp' 70) (rz : zN s' 0 ≤ Z + 3000) : E (d + 340) yr (.ref 189 :: as) (sB h1 295 0 z) = some (some w, h2) ∧ gI h2 3586 189 = nI 0 ∧ gB h2 295 0 = z ∧ JI h2 (P + 7000) (Q + 1000) (Z + 3000) := by
  have n1 : gN h2 = gN h1 := congrArg (fun p : Nat × Nat => p.1) f.1
  have n2 : gS h2 = gS h1 := congrArg (fun p : Nat × Nat => p.2) f.1
  exact ⟨e2, zz, by rw [f.B (fun w => by have := hX _ w; omega)]; exact (show up2 (gB h1) 295 0 z 295 0 = z from up2_s), b, bk, s', G', Cp', v, t', fd, ff, md, sd, x0, y0, hp, u, ip, c.fr f ip.2.2.2.2.2.1 hK hX, r, m, by rw [n2]; exact rs, by rw [n1]; exact rn, rz⟩
theorem k_bar (i : JI h P Q Z) (x y : Int32) : JW false d 23 86 [.int x, .int y] h P Q Z ∨ JT false 21 d 23 86 [.int x, .int y] h P Q Z := by
  have i0 := i
  obtain ⟨b, bk, s, G, Cp, v, t, fd, ff, md, sd, x0, y0, hp, u, i1, i2, i3, i4, i5, i6, i7⟩ := i
  have w1 := i1.2.1.1
  have g := i2.1.1.2
  have bad : (hv x (zN s 2) = none ∨ hv y 33 = none) → JT false 21 d 23 86 [.int x, .int y] h P Q Z := fun q => JI.thr (by first | exact isL_i | exact isL_l) i0 (c_bar_t (d := d + 336) i2.1 i1.2.1 q) (r_bar_t (d := d + 337) i2.1.1.nw i1.2.1 (i3.2.2.2.1.rk (O5.rk (GF.nw : O5 h (nw h 0 0 6)) g)).1 q)
  rcases hv_c x (show zN s 2 < 2 ^ 31 by omega) with ⟨e1, -⟩ | ⟨j, hj, rfl, e1⟩
  · exact Or.inr (bad (Or.inl e1))
  rcases hv_c y (show 33 < 2 ^ 31 by decide) with ⟨e2, -⟩ | ⟨k, hk, rfl, e2⟩
  · exact Or.inr (bad (Or.inr e2))
  obtain ⟨T, a1, a2⟩ := c_bar (d := d + 336) i2.1 i1.2.1 i2.2.2.2.1 hj hk
  refine Or.inl ⟨_, h, isL_i, a2, i2.1.1, fun z => ?_⟩
  have i2' : JCo (sB h 295 0 z) b bk s G Cp t fd ff md x0 y0 hp u := i2.o5 O5.sb i1.2.2.2.2.2.1 i2.1.sb
  have i3' : JRf (sB h 295 0 z) v bk s t fd ff md sd hp u := i3.rk (O5.sb.rk g) i2.1.1.sB
  obtain ⟨M, q⟩ := i3'.2.2.2.2.2.2.2.2.1
  obtain ⟨h2, M', W', b1, b2, b3, b4, b5⟩ := r_bar (d := d + 336) i3'.1 i1.2.1 i1.1.1 i3'.2.2.2.1.1 i3'.2.2.2.2.2.2.2.1 q hj hk
  have wi := i1.2.1.2.2.2.1 j hj
  have z2 := i1.2.1.1
  have z3 := i1.1.1.1.2.2.1
  have eq := SolS.one sp7_d (fun p _ => sgB_lt (s := s) (i := j) (by omega) (by omega) (by omega) (by omega) p) a1 b1 (k / 3) (by omega)
  have e : brS W' k = brS T k := by
    unfold brS
    rw [eq]
  rw [e] at b2
  exact ⟨h2, JW.of (y := 0) b2 b3 i1 i2' b4 (by decide) (by decide) (i3'.frr b4 (by decide) (by decide) (RT.fr i3'.2.2.2.2.2.1 b4 (by decide) (by decide)) (RF.fr i3'.2.2.2.2.2.2.2.2.2.1 b4 (by decide)) ⟨M', b5⟩) ((i4.o5 O5.sb g).keep b4 (by decide) (by decide)) (by omega) (by omega) (by omega)⟩
theorem k_way (i : JI h P Q Z) (x y : Int32) : JW false d 21 106 [.int x, .int y] h P Q Z ∨ JT false 28 d 21 106 [.int x, .int y] h P Q Z := by
  have i0 := i
  obtain ⟨b, bk, s, G, Cp, v, t, fd, ff, md, sd, x0, y0, hp, u, i1, i2, i3, i4, i5, i6, i7⟩ := i
  have w0 := i1.1.1.1.1
  have g := i2.1.1.2
  have bad : (hv x (bk 0 0) = none ∨ hv y (bk 0 0) = none) → JT false 28 d 21 106 [.int x, .int y] h P Q Z := fun q => JI.thr (by first | exact isL_i | exact isL_l) i0 (c_way_t (d := d + 334) i2.1.1 i1.1.1 i2.1.2.2.1 i2.1.2.2.2.1 q) (r_way_t (d := d + 337) i2.1.1.nw i1.1.1 i1.2.2.2.1 (by rw [(O5.rk (GF.nw : O5 h (nw h 0 0 6)) g).I 3597 (by decide)]; exact i3.2.1) (i3.2.2.1.rk (O5.rk (GF.nw : O5 h (nw h 0 0 6)) g)) q)
  rcases hv_c x (show bk 0 0 < 2 ^ 31 by omega) with ⟨e1, -⟩ | ⟨f, hf, rfl, e1⟩
  · exact Or.inr (bad (Or.inl e1))
  rcases hv_c y (show bk 0 0 < 2 ^ 31 by omega) with ⟨e2, -⟩ | ⟨r, hr, rfl, e2⟩
  · exact Or.inr (bad (Or.inr e2))
  obtain ⟨h1, a1, a2, a3, a4⟩ := c_way (d := d + 331) i1.1.1 i2.1 i1.2.1 i2.2.1 hf hr
  have s1 := a3.1
  have n1 : gN h1 = gN h := congrArg (fun p : Nat × Nat => p.1) a2.1
  have n2 : gS h1 = gS h := congrArg (fun p : Nat × Nat => p.2) a2.1
  have g1 : 296 ≤ gN h1 := s1.2
  have c0 : JCo h1 b bk s G Cp t fd ff md x0 y0 hp u := i2.gf (a2.gfk (fun _ q => q) (fun _ q => q)) i2.1.1.2 i1.2.2.2.2.2.1 (by decide) (fun x w => absurd w.2 (by decide)) (fun x w => absurd w.2 (by decide)) (by decide) (by decide) (fun x w => by have := w.2; simp only [List.mem_cons, List.not_mem_nil, or_false] at this; omega) a3 a4 (i2.2.2.1.fr a2 (by decide) (by decide) (by decide) rfl) (i2.2.2.2.1.fr a2 (by decide)) (i2.2.2.2.2.1.fr a2 (by decide) (by decide)) (i2.2.2.2.2.2.2.1.fr a2 (by decide))
  refine Or.inl ⟨_, h1, isL_i, a1, s1, fun z => ?_⟩
  have c1 : JCo (sB h1 295 0 z) b bk s G Cp t fd ff md x0 y0 hp u := c0.o5 O5.sb i1.2.2.2.2.2.1 a3.sb
  have r1 : JRf (sB h1 295 0 z) v bk s t fd ff md sd hp u := (i3.rk (a2.rk (by decide) (by decide)) s1).rk (O5.sb.rk g1) s1.sB
  obtain ⟨h2, b1, b2, b3, b4, b5, b6⟩ := r_way (d := d + 336) s1.sB i1.1.1 i1.2.1 i1.2.2.2.1 r1.2.1 r1.2.2.1 r1.2.2.2.1 r1.2.2.2.2.1 hf hr
  have r2 : JRf h2 v bk s t fd ff md sd hp u := by
    obtain ⟨c1, c2, c3, c4, c5, c6, c7, c8, c9, c10, c11, c12, c13⟩ := r1
    refine ⟨b3.sh c1, by rw [b3.I (by decide)]; exact c2, b5, b4, b6, c6.fr b3 (by decide) (by decide), c7.fr b3 (by decide), c8.fr b3 (by decide) (by decide), MRt.fr c9 b3 (by decide), c10.fr b3 (by decide), by rw [b3.I (by decide)]; exact c11, by rw [b3.I (by decide)]; exact c12, fun q => ?_⟩
    have c13 := c13 q
    unfold RPg AT T3 at c13 ⊢
    rw [b3.A (by decide), b3.A (by decide), b3.A (by decide), b3.A (by decide), b3.A (by decide), b3.A (by decide), b3.A (by decide), b3.A (by decide)]; exact c13
  exact ⟨h2, JW.of (y := 0) b1 b2 i1 c1 b3 (by decide) (by decide) r2 (((i4.keep a2 (by decide) (by decide)).o5 O5.sb g1).keep b3 (by decide) (by decide)) (by omega) (by omega) (by omega)⟩
/-- accept throws behind its search -/
theorem c_accept_t (W : WB bk) (N : WN bk) (C : CSt h b bk s G Cp) (T : CT h t) {sv f : Int32} (x : Int32) (q : hv sv (bk 0 2) = none ∨ hv f (bk 0 0) = none) : ∃ h1, E (d + 10) 22 [.ref 100, .int sv, .int x, .int f] h = none ∧ TQ 33 (d + 9) 22 0 [some (.ref 100), some (.int sv), some (.int x), some (.int f), none, none] [] h = some (some (.double 0), h1) ∧ CT h1 (0, t.2) ∧ Fr (3073 :: KF) XF h h1 := by
  have hs := C.1
  have wb0 := W.1.1
  have wb2 := W.1.2.2.1
  obtain ⟨h1, a1, a2, a3, a4⟩ := c_takeA (d := d + 2) hs C.2.2.1 W N C.2.2.2.1 T
  have s1 := a3.sh hs
  have C1 : CSt h1 b bk s G Cp := C.fr a3 (by decide) (fun x hx => by have := xf.mp hx; omega) (fun _ => rfl) (C.2.2.2.2.1.fr a3 (by decide))
  have B1 := C1.2.2.2.1
  have hb1 := C1.2.2.1
  refine ⟨h1, ?_⟩
  rw [t_22 hs, q_22 hs, a1, cK_v, cK_v, t_22_4 s1, q_22_4 s1, hb1, Option.bind_some, Option.bind_some, ck_ok B1.1, ck_ok B1.1, (c_has s1 W B1 _).2.2.1, cK_v, cK_v, t_22_21 s1, q_22_21 s1]
  rcases hv_c sv (show bk 0 2 < 2 ^ 31 by omega) with ⟨e1, -⟩ | ⟨j1, -, rfl, e1⟩
  · rw [hb1_n e1, if_pos rfl, if_pos rfl]; exact ⟨rfl, TQ_at, a2, a3⟩
  rw [hb1_s e1, if_neg (by decide), if_neg (by decide), ck_ok B1.1, ck_ok B1.1, (c_has s1 W B1 _).1, cK_v, cK_v, t_22_30 s1, q_22_30 s1]
  rcases hv_c f (show bk 0 0 < 2 ^ 31 by omega) with ⟨e2, -⟩ | ⟨j2, -, rfl, e2⟩
  · rw [hb1_n e2, if_pos rfl, if_pos rfl]; exact ⟨rfl, TQ_at, a2, a3⟩
  · rw [e1, e2] at q
    rcases q with q | q <;> cases q
theorem k_accept (i : JI h P Q Z) (a x f : Int32) : JW false d 22 97 [.int a, .int x, .int f] h P Q Z ∨ JT false 33 d 22 97 [.int a, .int x, .int f] h P Q Z := by
  obtain ⟨b, bk, s, G, Cp, v, t, fd, ff, md, sd, x0, y0, hp, u, i1, i2, i3, i4, i5, i6, i7⟩ := i
  have w0 := i1.1.1.1.1
  have w2 := i1.1.1.1.2.2.1
  have g := i2.1.1.2
  have hsx := i1.2.2.2.2.2.1
  have bad : (hv a (bk 0 2) = none ∨ hv f (bk 0 0) = none) → JT false 33 d 22 97 [.int a, .int x, .int f] h P Q Z := fun q => by
    obtain ⟨h1, a0, a1, a2, a3⟩ := c_accept_t (d := d + 330) i1.1.1 i1.1.2.1 i2.1 i2.2.2.2.2.1 x q
    have s1 := a3.sh i2.1.1
    have g1 := s1.2
    have n1 : gN h1 = gN h := congrArg (fun p : Nat × Nat => p.1) a3.1
    have n2 : gS h1 = gS h := congrArg (fun p : Nat × Nat => p.2) a3.1
    have F1 : CF h1 fd ff md := i2.2.2.2.2.2.2.1 |> fun q => by unfold CF at q ⊢; rw [a3.I (by decide), a3.I (by decide), a3.I (by decide)]; exact q
    have c1 : JCo h1 b bk s G Cp (0, t.2) fd ff md x0 y0 hp u := i2.frc a3 hsx (by decide) (by decide) (by decide) (fun x hx => by have := xf.mp hx; omega) a2 F1
    have rk := a3.rk (by decide) (fun x hx => by have := xf.mp hx; omega)
    have O : O5 h1 (nw h1 0 0 6) := GF.nw
    have c2 : JCo (nw h1 0 0 6) b bk s G Cp (0, t.2) fd ff md x0 y0 hp u := c1.o5 O hsx c1.1.nw6
    have r2 : JRf (nw h1 0 0 6) v bk s t fd ff md sd hp u := (i3.rk rk s1).rk (O.rk g1) s1.nw
    have m1 : MRe (nw h1 0 0 6) (nw h1 0 0 6) (zN s 2) := (i4.gk (a3.gfk (fun _ q => q) (fun _ q => q)) g (fun k q w => by have := (by decide : ∀ k, k ∈ 3073 :: KF → k < 1549 ∨ k = 3073) k w; omega) (fun x q w => by have := xf.mp w; omega) rk).o5 O g1
    obtain ⟨h2, b1, b2, b3, b4⟩ := r_accept_t (d := d + 337) s1.nw i1.1.1 i1.2.2.2.1 r2.2.1 r2.2.2.1 r2.2.2.2.2.2.1 x q
    have n3 : gN h2 = gN h1 + 1 := congrArg (fun p : Nat × Nat => p.1) b3.1
    have n4 : gS h2 = gS h1 + 6 := congrArg (fun p : Nat × Nat => p.2) b3.1
    exact ⟨a0, h1, _, h2, isL_i, a1, s1, b1, b2, b, bk, s, G, Cp, v, (0, t.2), fd, ff, md, sd, x0, y0, hp, u, i1, c2.fr b3 hsx (by decide) (by decide), r2.frr b3 (by decide) (by decide) b4 (RF.fr r2.2.2.2.2.2.2.2.2.2.1 b3 (by decide)) (MRt.fr r2.2.2.2.2.2.2.2.2.1 b3 (by decide)), m1.keep b3 (by decide) (by decide), by dsimp only; omega, by dsimp only; omega, by omega⟩
  rcases hv_c a (show bk 0 2 < 2 ^ 31 by omega) with ⟨e1, -⟩ | ⟨sv, hsv, rfl, e1⟩
  · exact Or.inr (bad (Or.inl e1))
  rcases hv_c f (show bk 0 0 < 2 ^ 31 by omega) with ⟨e2, -⟩ | ⟨f, hf, rfl, e2⟩
  · exact Or.inr (bad (Or.inr e2))
  obtain ⟨h1, G', Cp', a1, a2, a3, a4, a5, a6, a7, a8, a9⟩ := c_accept (d := d + 330) i1.1.1 i1.1.2.1 i2.1 i1.2.1 i1.2.2.1 i2.2.2.2.2.2.1 i2.2.2.2.1 i2.2.2.2.2.1 hsv hf x
  have s1 := a2.1
  have kf : ∀ k, k ∈ 3073 :: KF → k < 1549 ∨ k = 3073 := by decide
  have F : GF (fun k x => gN h ≤ x ∨ k < 2053 ∧ (k < 1549 ∨ 1555 < k) ∨ k = 3073) (fun k x => gN h ≤ x ∨ k = 257) (fun _ => True) (fun x => gN h ≤ x ∨ 61 ≤ x ∧ x < 157) h h1 := a6.wk (fun k x q => by
    rcases q with q | q | q
    · exact Or.inl q
    · have := nKC k q; omega
    · have := kf k q; omega) (fun k x q => q) (fun _ q => q) (fun x q => by
    rcases q with q | q
    · exact Or.inl q
    · have := xf.mp q; omega)
  have rk := F.rk g (fun k q w => by omega) (fun x q w => by omega)
  have w1 := acA_w (t := t) i1.1.1 i1.1.2.1 i1.2.1 hsv hf x
  obtain ⟨eM, z1, z2, z0⟩ := acA_q bk s t sv f x
  obtain ⟨s', hs'⟩ : ∃ s', s' = (acA bk s t sv f x).2 := ⟨_, rfl⟩
  rw [← hs'] at a2 a3 a4 w1 eM z1 z2 z0
  have c1 : JCo h1 b bk s' G' Cp' (0, t.2) fd ff md x0 y0 hp u := i2.gf F g i1.2.2.2.2.2.1 (by omega) (fun x w => by omega) (fun x w => by omega) (by omega) (by omega) (fun x w => by omega) a2 (i2.2.1.gf F g (by omega) (by omega) (by omega) (by omega)) (i2.2.2.1.gf F g (by omega) (by omega) (by omega) eM) a4 a5 (i2.2.2.2.2.2.2.1.gf F g (fun k hk w => by have := (by decide : ∀ k, k ∈ [3335, 3336, 3337] → 3335 ≤ k) k hk; omega))
  have m1 : MRe h1 h1 (zN s 2) := i4.gk F g (fun k q w => by omega) (fun x q w => by omega) rk
  have g1 := s1.2
  refine Or.inl ⟨_, h1, isL_i, a1, s1, fun z => ?_⟩
  have c1' : JCo (sB h1 295 0 z) b bk s' G' Cp' (0, t.2) fd ff md x0 y0 hp u := c1.o5 O5.sb hsx c1.1.sb
  have r1 : JRf (sB h1 295 0 z) v bk s t fd ff md sd hp u := (i3.rk rk s1).rk (O5.sb.rk g1) s1.sB
  obtain ⟨h2, b1, b2, b3, b4, b5⟩ := r_accept (d := d + 334) s1.sB i1.1.1 i1.1.2.1 i1.2.1 i1.2.2.2.1 r1.2.1 r1.2.2.1 r1.2.2.2.1 r1.2.2.2.2.2.1 hsv hf x
  rw [← hs'] at b4
  have m2 : MRe h2 h2 (zN s' 2) := by
    obtain ⟨ty, a2, p, p2, mk, rf, m⟩ := (m1.o5 O5.sb g1).keep b3 (by decide) (by decide)
    exact ⟨ty, a2, p, p2, mk, rf, m.up z1⟩
  exact ⟨h2, JW.of (y := 0) b1 b2 ⟨i1.1, w1, a3, i1.2.2.2⟩ c1' b3 (by decide) (by decide) (r1.fra b3 (by decide) (by decide) b4 (r1.2.2.2.2.1.fr b3 (by decide) (by decide) (by decide) (by decide)) b5) m2 (by dsimp only; omega) (by dsimp only; omega) (by omega)⟩
end JKB
