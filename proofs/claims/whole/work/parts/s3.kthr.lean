/-! ===== THE LAW: the nine calls that may throw, joined ===== -/
section JKA
variable {d : Nat} {h h' h1 h2 : AH} {b v sd x0 y0 P Q Z P' Q' : Nat} {bk : Bk} {s s' s'' : St} {G Cp G' Cp' : Nat → Nat → Nat} {t t' u : Tp} {fd ff md fd' ff' md' : Int32} {hp : Bool} {K X : List Nat}
abbrev O5 (h h' : AH) : Prop := GF (fun _ _ => False) (fun _ _ => False) (fun _ => False) (fun x => x = 295) h h'
theorem O5.sb {z : Int64} : O5 h (sB h 295 0 z) := ⟨⟨Nat.le_refl _, Nat.le_refl _⟩, fun _ _ => ⟨rfl, rfl⟩, fun _ _ _ _ => rfl, fun _ _ _ _ => rfl, fun _ _ _ _ => rfl, fun x _ q => ⟨rfl, (up2_k q : up2 (gB h) 295 0 z x = gB h x)⟩, fun _ _ _ => rfl⟩
theorem O5.rk (a : O5 h h') (g : 296 ≤ gN h) : RKp h h' := GF.rk a g (fun _ _ q => q) (fun x q w => by omega)
theorem JCo.o5 (c : JCo h b bk s G Cp t fd ff md x0 y0 hp u) (a : O5 h h') (hx : scX x0) (C' : CSt h' b bk s G Cp) : JCo h' b bk s G Cp t fd ff md x0 y0 hp u := by
  have g := c.1.1.2
  exact c.gf a g hx (fun q => q) (fun x q => q.2) (fun x q => q.2) (fun q => q) (fun q => q) (fun x q => by omega) C' (c.2.1.gf a g (fun q => q) (fun q => q) (by decide) (by decide)) (c.2.2.1.gf a g (fun q => q) (by decide) (by decide) rfl) (c.2.2.2.1.gf a (fun j hj => (c.1.2.2.2.2.1.2.2.2 j hj).2.1) (fun _ _ q => q) (fun x q1 _ q => by omega) rfl (fun _ _ => rfl) rfl rfl) (c.2.2.2.2.1.gf a g (fun q => q) (by decide)) (c.2.2.2.2.2.2.1.gf a g (fun _ _ q => q))
theorem MRe.o5 {ni : Nat} (m : MRe h h ni) (a : O5 h h') (g : 296 ≤ gN h) : MRe h' h' ni := m.gk a g (fun _ _ q => q) (fun x q w => by omega) (a.rk g)
theorem JI.mv (i : JI h P Q Z) (a : O5 h h') (s' : Sh h') (C' : ∀ b bk s G Cp, CSt h b bk s G Cp → CSt h' b bk s G Cp) (hP : gS h' + P ≤ gS h + P') (hQ : gN h' + Q ≤ gN h + Q') : JI h' P' Q' Z := by
  obtain ⟨b, bk, s, G, Cp, v, t, fd, ff, md, sd, x0, y0, hp, u, i1, i2, i3, i4, i5, i6, i7⟩ := i
  have g := i2.1.1.2
  exact ⟨b, bk, s, G, Cp, v, t, fd, ff, md, sd, x0, y0, hp, u, i1, i2.o5 a i1.2.2.2.2.2.1 (C' _ _ _ _ _ i2.1), i3.rk (a.rk g) s', i4.o5 a g, by omega, by omega, i7⟩
theorem CSt.sb {z : Int64} (C : CSt h b bk s G Cp) : CSt (sB h 295 0 z) b bk s G Cp := by
  have f : Fr [] [295] h (sB h 295 0 z) := Fr.rfl.sB (by decide)
  exact C.fr f (fun _ _ q => absurd q List.not_mem_nil) (fun x q => by rw [List.mem_singleton.mp q]; decide) (fun _ => rfl) (C.2.2.2.2.1.fr f (fun _ q => absurd q List.not_mem_nil))
theorem CSt.nw6 (C : CSt h b bk s G Cp) : CSt (nw h 0 0 6) b bk s G Cp := C.nf (NFr.rfl.nw) C.1.nw C.2.1.nw
theorem JI.sb {z : Int64} (i : JI h P Q Z) : JI (sB h 295 0 z) P Q Z := by
  have hs : Sh h := by obtain ⟨b, bk, s, G, Cp, v, t, fd, ff, md, sd, x0, y0, hp, u, i1, i2, -⟩ := i; exact i2.1.1
  exact i.mv O5.sb hs.sB (fun _ _ _ _ _ C => C.sb) (by show gS h + P ≤ _; omega) (by show gN h + Q ≤ _; omega)
theorem JI.nw6 (i : JI h P Q Z) : JI (nw h 0 0 6) (P + 6) (Q + 1) Z := by
  have hs : Sh h := by obtain ⟨b, bk, s, G, Cp, v, t, fd, ff, md, sd, x0, y0, hp, u, i1, i2, -⟩ := i; exact i2.1.1
  exact i.mv GF.nw hs.nw (fun _ _ _ _ _ C => C.nw6) (by show gS h + 6 + P ≤ _; omega) (by show gN h + 1 + Q ≤ _; omega)
theorem JRf.q1 (y : Int32) (c : JRf h v bk s t fd ff md sd hp u) : JRf (sI h 3586 189 y) v bk s t fd ff md sd hp u := by
  obtain ⟨c1, c2, c3, c4, c5, c6, c7, c8, ⟨M, c9⟩, c10, c11, c12, c13⟩ := c
  have f : Fr [3586] [] h (sI h 3586 189 y) := Fr.rfl.sI (by decide)
  exact ⟨f.sh c1, by rw [f.I (by decide)]; exact c2, c3.fr f (by decide), c4.fr f (by decide) (by decide), c5.fr f (by decide) (by decide) (by decide) (by decide), c6, c7, c8, ⟨M, c9⟩, c10, by rw [f.I (by decide)]; exact c11, by rw [f.I (by decide)]; exact c12, c13⟩
theorem JI.q1 (y : Int32) (i : JI h P Q Z) : JI (sI h 3586 189 y) P Q Z := by
  obtain ⟨b, bk, s, G, Cp, v, t, fd, ff, md, sd, x0, y0, hp, u, i1, i2, i3, ⟨ty, a2, p, p2, mk, rf, i4⟩, i5, i6, i7⟩ := i
  have f : Fr [3586] [] h (sI h 3586 189 y) := Fr.rfl.sI (by decide)
  exact ⟨b, bk, s, G, Cp, v, t, fd, ff, md, sd, x0, y0, hp, u, i1, i2.fr f i1.2.2.2.2.2.1 (by decide) (by decide), i3.q1 y, ⟨ty, a2, p, p2, mk, rf, (i4.frR f (by decide) (fun _ _ => List.not_mem_nil)).frC f (by decide) (fun _ _ => List.not_mem_nil)⟩, i5, i6, i7⟩
theorem JI.sh (i : JI h P Q Z) : Sh h := by obtain ⟨b, bk, s, G, Cp, v, t, fd, ff, md, sd, x0, y0, hp, u, i1, i2, -⟩ := i; exact i2.1.1
/-- the component answers w, out[0] is written, the reference answers w -/
def isL : Bool → Value → Prop
  | true, w => ∃ x, w = .long x
  | false, w => ∃ x, w = .int x
theorem isL_i {x : Int32} : isL false (.int x) := Exists.intro x rfl
theorem isL_l {x : Int64} : isL true (.long x) := Exists.intro x rfl
def JW (lo : Bool) (d y yr : Nat) (as : Vs) (h : AH) (P Q Z : Nat) : Prop := ∃ w h1, isL lo w ∧ E (d + 340) y (.ref 100 :: as) h = some (some w, h1) ∧ Sh h1 ∧ ∀ z : Int64, ∃ h2, E (d + 340) yr (.ref 189 :: as) (sB h1 295 0 z) = some (some w, h2) ∧ gI h2 3586 189 = nI 0 ∧ gB h2 295 0 = z ∧ JI h2 (P + 7000) (Q + 1000) (Z + 3000)
/-- the component throws, the reference says so -/
def JT (lo : Bool) (P0 d y yr : Nat) (as : Vs) (h : AH) (P Q Z : Nat) : Prop := E (d + 340) y (.ref 100 :: as) h = none ∧ ∃ h1 w h2, isL lo w ∧ TQ P0 (d + 339) y 0 (pdL (arL (.ref 100 :: as)) (mL y)) [] h = some (some (.double 0), h1) ∧ Sh h1 ∧ E (d + 340) yr (.ref 189 :: as) (nw h1 0 0 6) = some (some w, h2) ∧ gI h2 3586 189 = nI 1 ∧ JI h2 (P + 7000) (Q + 1000) (Z + 3000)
theorem gB_o5 {x : Int32} {z : Int64} : gB (sI (sB h 295 0 z) 3586 189 x) 295 0 = z := by
  show up2 (gB h) 295 0 z 295 0 = z
  exact up2_s
theorem JI.w {lo : Bool} {y yr : Nat} {as : Vs} {w : Value} (iw : isL lo w) (i : JI h P Q Z) (e1 : E (d + 340) y (.ref 100 :: as) h = some (some w, h)) (e2 : ∀ z : Int64, E (d + 340) yr (.ref 189 :: as) (sB h 295 0 z) = some (some w, sI (sB h 295 0 z) 3586 189 (nI 0))) : JW lo d y yr as h P Q Z := ⟨w, h, iw, e1, i.sh, fun z => ⟨_, e2 z, gI_s, gB_o5, ((i.sb).q1 _).up (by omega) (by omega) (by omega)⟩⟩
theorem JI.thr {lo : Bool} {P0 y yr : Nat} {as : Vs} {w : Value} (iw : isL lo w) (i : JI h P Q Z) (e0 : E (d + 340) y (.ref 100 :: as) h = none ∧ TQ P0 (d + 339) y 0 (pdL (arL (.ref 100 :: as)) (mL y)) [] h = some (some (.double 0), h)) (e2 : E (d + 340) yr (.ref 189 :: as) (nw h 0 0 6) = some (some w, sI (nw h 0 0 6) 3586 189 (nI 1))) : JT lo P0 d y yr as h P Q Z := ⟨e0.1, h, w, _, iw, e0.2, i.sh, e2, gI_s, ((i.nw6).q1 _).up (by omega) (by omega) (by omega)⟩
/-! the component's throws -/
theorem c_price_t (hs : Sh h) (W : WB bk) (hb : gR h 2048 156 = some b) (B : CB h b bk G Cp) {sv f t : Int32} (x : Int32) (q : hv sv (bk 0 2) = none ∨ hv f (bk 0 0) = none ∨ hv t (bk 0 0) = none) : E (d + 6) 20 [.ref 100, .int sv, .int x, .int f, .int t] h = none ∧ TQ 37 (d + 5) 20 0 [some (.ref 100), some (.int sv), some (.int x), some (.int f), some (.int t), none] [] h = some (some (.double 0), h) := by
  have w0 := W.1.1
  have w2 := W.1.2.2.1
  rw [t_20 hs, q_20 hs, hb, Option.bind_some, Option.bind_some, ck_ok B.1, ck_ok B.1, (c_has hs W B _).2.2.1, cK_v, cK_v, t_20_15 hs, q_20_15 hs]
  rcases hv_c sv (show bk 0 2 < 2 ^ 31 by omega) with ⟨e1, -⟩ | ⟨j1, -, rfl, e1⟩
  · rw [hb1_n e1, if_pos rfl, if_pos rfl]; exact ⟨rfl, TQ_at⟩
  rw [hb1_s e1, if_neg (by decide), if_neg (by decide), ck_ok B.1, ck_ok B.1, (c_has hs W B _).1, cK_v, cK_v, t_20_24 hs, q_20_24 hs]
  rcases hv_c f (show bk 0 0 < 2 ^ 31 by omega) with ⟨e2, -⟩ | ⟨j2, -, rfl, e2⟩
  · rw [hb1_n e2, if_pos rfl, if_pos rfl]; exact ⟨rfl, TQ_at⟩
  rw [hb1_s e2, if_neg (by decide), if_neg (by decide), ck_ok B.1, ck_ok B.1, (c_has hs W B _).1, cK_v, cK_v, t_20_34 hs, q_20_34 hs]
  rcases hv_c t (show bk 0 0 < 2 ^ 31 by omega) with ⟨e3, -⟩ | ⟨j3, -, rfl, e3⟩
  · rw [hb1_n e3, if_pos rfl, if_pos rfl]; exact ⟨rfl, TQ_at⟩
  · rw [e1, e2, e3] at q
    rcases q with q | q | q <;> cases q
theorem c_way_t (hs : Sh h) (W : WB bk) (hb : gR h 2048 156 = some b) (B : CB h b bk G Cp) {f t : Int32} (q : hv f (bk 0 0) = none ∨ hv t (bk 0 0) = none) : E (d + 6) 21 [.ref 100, .int f, .int t] h = none ∧ TQ 28 (d + 5) 21 0 [some (.ref 100), some (.int f), some (.int t)] [] h = some (some (.double 0), h) := by
  have w0 := W.1.1
  rw [t_21 hs, q_21 hs, hb, Option.bind_some, Option.bind_some, ck_ok B.1, ck_ok B.1, (c_has hs W B _).1, cK_v, cK_v, t_21_11 hs, q_21_11 hs]
  rcases hv_c f (show bk 0 0 < 2 ^ 31 by omega) with ⟨e2, -⟩ | ⟨j2, -, rfl, e2⟩
  · rw [hb1_n e2, if_pos rfl, if_pos rfl]; exact ⟨rfl, TQ_at⟩
  rw [hb1_s e2, if_neg (by decide), if_neg (by decide), hb, Option.bind_some, Option.bind_some, ck_ok B.1, ck_ok B.1, (c_has hs W B _).1, cK_v, cK_v, t_21_25 hs, q_21_25 hs]
  rcases hv_c t (show bk 0 0 < 2 ^ 31 by omega) with ⟨e3, -⟩ | ⟨j3, -, rfl, e3⟩
  · rw [hb1_n e3, if_pos rfl, if_pos rfl]; exact ⟨rfl, TQ_at⟩
  · rw [e2, e3] at q
    rcases q with q | q <;> cases q
theorem c_it_t (C : CSt h b bk s G Cp) (w : WS bk s) (x : Int32) : E (d + 2) 223 [.ref 156, .int x] h = some (some (.int (hb1 x (zN s 2))), h) := by
  obtain ⟨hs, hw, hb, B, C1, C2⟩ := C
  have w1 := w.1
  have A := C2.2.2 0 (Or.inl (by omega)) (Or.inl (by omega))
  have e1 : lX s 0 = List.range (zN s 2) := rfl
  have e2 : lo G 0 = 164 := rfl
  rw [e1, e2, List.length_range] at A
  rw [t_223 hs]
  rcases hv_c x (show zN s 2 < 2 ^ 31 by omega) with ⟨e, q⟩ | ⟨j, hj, rfl, e⟩
  · rw [hb1_n e]
    rcases q with q | ⟨q1, q2⟩
    · rw [if_pos q]
    · rw [if_neg q1, al_size hs A, cK_v, t_223_12 hs, if_neg q2]
  · rw [hb1_s e, if_neg (nI_nlt (by omega) (by omega)), al_size hs A, cK_v, t_223_12 hs, if_pos (nI_lt hj (by omega))]
theorem c_bar_t (C : CSt h b bk s G Cp) (w : WS bk s) {x y : Int32} (q : hv x (zN s 2) = none ∨ hv y 33 = none) : E (d + 4) 23 [.ref 100, .int x, .int y] h = none ∧ TQ 21 (d + 3) 23 0 [some (.ref 100), some (.int x), some (.int y)] [] h = some (some (.double 0), h) := by
  have hs := C.1
  have w1 := w.1
  rw [t_23 hs, q_23 hs, c_it_t C w, cK_v, cK_v, t_23_8 hs, q_23_8 hs]
  rcases hv_c x (show zN s 2 < 2 ^ 31 by omega) with ⟨e1, -⟩ | ⟨j1, l1, rfl, e1⟩
  · rw [hb1_n e1, if_pos rfl, if_pos rfl]; exact ⟨rfl, TQ_at⟩
  rw [hb1_s e1, if_neg (show ¬ nI 1 = nI 0 by decide), if_neg (show ¬ nI 1 = nI 0 by decide)]
  rcases hv_c y (show 33 < 2 ^ 31 by decide) with ⟨e2, r⟩ | ⟨j2, l2, rfl, e2⟩
  · rcases r with r | ⟨r1, r2⟩
    · rw [if_pos r, if_pos r]; exact ⟨rfl, TQ_at⟩
    · rw [if_neg r1, if_neg r1, if_neg r2, if_neg r2]; exact ⟨rfl, TQ_at⟩
  · rw [e1, e2] at q
    rcases q with q | q <;> cases q
theorem c_item_t (C : CSt h b bk s G Cp) (w : WS bk s) {x y : Int32} (q : hv x (zN s 2) = none ∨ hv y 11 = none) : E (d + 4) 28 [.ref 100, .int x, .int y] h = none ∧ TQ 21 (d + 3) 28 0 [some (.ref 100), some (.int x), some (.int y)] [] h = some (some (.double 0), h) := by
  have hs := C.1
  have w1 := w.1
  rw [t_28 hs, q_28 hs, c_it_t C w, cK_v, cK_v, t_28_8 hs, q_28_8 hs]
  rcases hv_c x (show zN s 2 < 2 ^ 31 by omega) with ⟨e1, -⟩ | ⟨j1, l1, rfl, e1⟩
  · rw [hb1_n e1, if_pos rfl, if_pos rfl]; exact ⟨rfl, TQ_at⟩
  rw [hb1_s e1, if_neg (show ¬ nI 1 = nI 0 by decide), if_neg (show ¬ nI 1 = nI 0 by decide)]
  rcases hv_c y (show 11 < 2 ^ 31 by decide) with ⟨e2, r⟩ | ⟨j2, l2, rfl, e2⟩
  · rcases r with r | ⟨r1, r2⟩
    · rw [if_pos r, if_pos r]; exact ⟨rfl, TQ_at⟩
    · have r3 : nI 10 < y := by
        rcases Int32.lt_or_le (nI 10) y with z | z
        · exact z
        · exact absurd (Int32.lt_of_le_of_lt z (show nI 10 < nI 11 by decide)) r2
      rw [if_neg r1, if_neg r1, if_pos r3, if_pos r3]; exact ⟨rfl, TQ_at⟩
  · rw [e1, e2] at q
    rcases q with q | q <;> cases q
theorem c_num_t (hs : Sh h) {x : Int32} (q : hv x 10 = none) : E (d + 1) 24 [.ref 100, .int x] h = none ∧ TQ 16 d 24 0 [some (.ref 100), some (.int x)] [] h = some (some (.double 0), h) := by
  rw [t_24 hs, q_24 hs]
  rcases hv_c x (show 10 < 2 ^ 31 by decide) with ⟨e1, r⟩ | ⟨j1, l1, rfl, e1⟩
  · rcases r with r | ⟨r1, r2⟩
    · rw [if_pos r, if_pos r]; exact ⟨rfl, TQ_at⟩
    · rw [if_neg r1, if_neg r1, if_neg r2, if_neg r2]; exact ⟨rfl, TQ_at⟩
  · rw [e1] at q; cases q
theorem c_held_t (hs : Sh h) {x : Int32} (q : hv x 4 = none) : E (d + 1) 25 [.ref 100, .int x] h = none ∧ TQ 16 d 25 0 [some (.ref 100), some (.int x)] [] h = some (some (.double 0), h) := by
  rw [t_25 hs, q_25 hs]
  rcases hv_c x (show 4 < 2 ^ 31 by decide) with ⟨e1, r⟩ | ⟨j1, l1, rfl, e1⟩
  · rcases r with r | ⟨r1, r2⟩
    · rw [if_pos r, if_pos r]; exact ⟨rfl, TQ_at⟩
    · rw [if_neg r1, if_neg r1, if_neg r2, if_neg r2]; exact ⟨rfl, TQ_at⟩
  · rw [e1] at q; cases q
theorem c_tray_t (hs : Sh h) {x y : Int32} (q : hv x 12 = none) : E (d + 1) 26 [.ref 100, .int x, .int y] h = none ∧ TQ 10 d 26 0 [some (.ref 100), some (.int x), some (.int y)] [] h = some (some (.double 0), h) := by
  rw [t_26 hs, q_26 hs]
  rcases hv_c x (show 12 < 2 ^ 31 by decide) with ⟨e1, r⟩ | ⟨j1, l1, rfl, e1⟩
  · rcases r with r | ⟨r1, r2⟩
    · rw [if_pos r, if_pos r]; exact ⟨rfl, TQ_at⟩
    · rw [if_neg r1, if_neg r1, if_neg r2, if_neg r2]; exact ⟨rfl, TQ_at⟩
  · rw [e1] at q; cases q
theorem c_place_t (hs : Sh h) {x y : Int32} (q : plcS h x y = none) : E (d + 1) 27 [.ref 100, .int x, .int y] h = none ∧ TQ 39 d 27 0 [some (.ref 100), some (.int x), some (.int y)] [] h = some (some (.double 0), h) := by
  unfold plcS at q
  rw [t_27 hs, q_27 hs]
  rcases hv_c x (show 12 < 2 ^ 31 by decide) with ⟨e1, r⟩ | ⟨j1, l1, rfl, e1⟩
  · rcases r with r | ⟨r1, r2⟩
    · rw [if_pos r, if_pos r]; exact ⟨rfl, TQ_at⟩
    · rw [if_neg r1, if_neg r1, if_neg r2, if_neg r2]; exact ⟨rfl, TQ_at⟩
  · rw [e1] at q
    dsimp only at q
    have n0 : ¬ nI j1 < nI 0 := nI_nlt (by omega) (by omega)
    have G : ∀ X : Option Ot, gd (nI j1) 12 X = X := fun X => gd_nI l1 (by decide)
    rw [if_neg n0, if_neg n0, if_pos (nI_lt l1 (by decide)), if_pos (nI_lt l1 (by decide)), ix_nI (by omega)]
    simp only [G]
    by_cases z : gA h 178 j1 = nI 0
    · rw [if_pos z, if_pos z]; exact ⟨rfl, TQ_at⟩
    rw [if_neg z] at q ⊢
    rw [if_neg z]
    by_cases k0 : y < nI 0
    · rw [if_pos k0, if_pos k0]; exact ⟨rfl, TQ_at⟩
    rw [if_neg k0] at q ⊢
    rw [if_neg k0]
    by_cases k1 : y < gA h 180 j1
    · rw [if_pos k1] at q; cases q
    · rw [if_neg k1, if_neg k1]; exact ⟨rfl, TQ_at⟩
end JKA
