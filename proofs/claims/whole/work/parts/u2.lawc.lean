/-! ===== THE LAW: one call each (made by wip/gen2/genu2.py) ===== -/
/-- the script and the law's cells are there -/
def LV (L : Nat) (xs : Nat → Int32) (h : AH) : Prop := 296 ≤ gN h ∧ gC h 63 = 60 ∧ gK h 63 = L ∧ gA h 63 = xs ∧ gC h 100 = 13 ∧ gC h 189 = 14 ∧ gC h 295 = 61 ∧ gK h 295 = 1
section LVS
variable {d i L : Nat} {xs : Nat → Int32} {h h1 h2 : AH} {P Q Z : Nat}
theorem LV.c63 (a : LV L xs h) : gC h 63 = 60 := a.2.1
theorem LV.k63 (a : LV L xs h) : gK h 63 = L := a.2.2.1
theorem LV.a63 (a : LV L xs h) : gA h 63 = xs := a.2.2.2.1
theorem LV.c100 (a : LV L xs h) : gC h 100 = 13 := a.2.2.2.2.1
theorem LV.c189 (a : LV L xs h) : gC h 189 = 14 := a.2.2.2.2.2.1
theorem LV.c295 (a : LV L xs h) : gC h 295 = 61 := a.2.2.2.2.2.2.1
theorem LV.k295 (a : LV L xs h) : gK h 295 = 1 := a.2.2.2.2.2.2.2
theorem LV.mv {o : Ot} (a : LV L xs h) (m : mx h o) (n : m3 h o) : LV L xs o.2 := by
  obtain ⟨a0, a1, a2, a3, a4, a5, a6, a7⟩ := a
  have q := m.2.2
  exact ⟨Nat.le_trans a0 m.2.1, (q 63 (by omega)).1.trans a1, (q 63 (by omega)).2.trans a2, (n (by omega)).2.trans a3, (q 100 (by omega)).1.trans a4, (q 189 (by omega)).1.trans a5, (q 295 (by omega)).1.trans a6, (q 295 (by omega)).2.trans a7⟩
theorem LV.ev {y : Nat} {as : Vs} {o : Ot} (a : LV L xs h) (e : E d y as h = some o) : LV L xs o.2 := a.mv (E_mx e) (E_m3 e)
theorem LV.tq {P0 y pc : Nat} {l : Ls} {st : Vs} {o : Ot} (a : LV L xs h) (e : TQ P0 d y pc l st h = some o) : LV L xs o.2 := a.mv (TQ_mx e) (TQ_m3 e)
theorem LV.sB {x j : Nat} {v : Int64} (a : LV L xs h) : LV L xs (sB h x j v) := a
theorem LV.nw6 (a : LV L xs h) : LV L xs (nw h 0 0 6) := a.mv (o := (none, nw h 0 0 6)) (mx_nw mx_r) (m3_nw m3_r)
/-- one call of both: the law goes on to the next, all holds again -/
def ST (d pc i L : Nat) (xs : Nat → Int32) (h : AH) (P Q Z : Nat) : Prop := ∃ h2, LQ d pc [some (.ref 63), some (.ref 100), some (.ref 189), some (.ref 295), some (.int (nI i)), none, none, none] [] h = LQ d 23 [some (.ref 63), some (.ref 100), some (.ref 189), some (.ref 295), some (.int (nI (i + 7))), none, none, none] [] h2 ∧ JI h2 (P + 7000) (Q + 1000) (Z + 3000) ∧ LV L xs h2
theorem lgc_s {x : Int64} : lg_cmp x x = nI 0 := by
  unfold lg_cmp
  rw [if_neg (fun q : x > x => Int64.lt_irrefl q), if_pos rfl]; rfl
theorem lc_0 (lv : LV L xs h) (hi : i + 7 ≤ L) (hL : L < 2 ^ 31) (J : JO d 2 33 [.long (((xs (i + 1)).toInt64 <<< ((nI 32).toInt64 &&& 63)) ||| ((xs (i + 2)).toInt64 &&& 4294967295)), .long (((xs (i + 3)).toInt64 <<< ((nI 32).toInt64 &&& 63)) ||| ((xs (i + 4)).toInt64 &&& 4294967295)), .long (((xs (i + 5)).toInt64 <<< ((nI 32).toInt64 &&& 63)) ||| ((xs (i + 6)).toInt64 &&& 4294967295))] h P Q Z) : ST d 156 i L xs h P Q Z := by
  obtain ⟨w, h1, h2, e1, e2, z, j⟩ := J
  have lv1 := lv.ev e1
  have lv2 := lv1.ev e2
  refine ⟨h2, ?_, j, lv2⟩
  rw [lp_156, ck_ok lv.c63, nI_add, lv.k63, gd_nI (show i + 1 < L by omega) (Nat.le_of_lt hL), ix_nI (show i + 1 < 2 ^ 31 by omega), lv.a63, lp_163, ck_ok lv.c63, nI_add, lv.k63, gd_nI (show i + 2 < L by omega) (Nat.le_of_lt hL), ix_nI (show i + 2 < 2 ^ 31 by omega), lv.a63, lp_173, ck_ok lv.c63, nI_add, lv.k63, gd_nI (show i + 3 < L by omega) (Nat.le_of_lt hL), ix_nI (show i + 3 < 2 ^ 31 by omega), lv.a63, lp_185, ck_ok lv.c63, nI_add, lv.k63, gd_nI (show i + 4 < L by omega) (Nat.le_of_lt hL), ix_nI (show i + 4 < 2 ^ 31 by omega), lv.a63, lp_195, ck_ok lv.c63, nI_add, lv.k63, gd_nI (show i + 5 < L by omega) (Nat.le_of_lt hL), ix_nI (show i + 5 < 2 ^ 31 by omega), lv.a63, lp_207, ck_ok lv.c63, nI_add, lv.k63, gd_nI (show i + 6 < L by omega) (Nat.le_of_lt hL), ix_nI (show i + 6 < 2 ^ 31 by omega), lv.a63, lp_218, ck_ok lv.c100, e1, cK_v, lp_227, ck_ok lv1.c63, nI_add, lv1.k63, gd_nI (show i + 1 < L by omega) (Nat.le_of_lt hL), ix_nI (show i + 1 < 2 ^ 31 by omega), lv1.a63, lp_234, ck_ok lv1.c63, nI_add, lv1.k63, gd_nI (show i + 2 < L by omega) (Nat.le_of_lt hL), ix_nI (show i + 2 < 2 ^ 31 by omega), lv1.a63, lp_244, ck_ok lv1.c63, nI_add, lv1.k63, gd_nI (show i + 3 < L by omega) (Nat.le_of_lt hL), ix_nI (show i + 3 < 2 ^ 31 by omega), lv1.a63, lp_256, ck_ok lv1.c63, nI_add, lv1.k63, gd_nI (show i + 4 < L by omega) (Nat.le_of_lt hL), ix_nI (show i + 4 < 2 ^ 31 by omega), lv1.a63, lp_266, ck_ok lv1.c63, nI_add, lv1.k63, gd_nI (show i + 5 < L by omega) (Nat.le_of_lt hL), ix_nI (show i + 5 < 2 ^ 31 by omega), lv1.a63, lp_278, ck_ok lv1.c63, nI_add, lv1.k63, gd_nI (show i + 6 < L by omega) (Nat.le_of_lt hL), ix_nI (show i + 6 < 2 ^ 31 by omega), lv1.a63, lp_289, ck_ok lv1.c189, e2, cK_v, lp_298, if_pos rfl, lp_1312, nI_add]
theorem lc_1 (lv : LV L xs h) (hi : i + 7 ≤ L) (hL : L < 2 ^ 31) (J : JO d 3 35 [] h P Q Z) : ST d 303 i L xs h P Q Z := by
  obtain ⟨w, h1, h2, e1, e2, z, j⟩ := J
  have lv1 := lv.ev e1
  have lv2 := lv1.ev e2
  refine ⟨h2, ?_, j, lv2⟩
  rw [lp_303, ck_ok lv.c100, e1, cK_v, lp_307, ck_ok lv1.c189, e2, cK_v, lp_311, if_pos rfl, lp_1312, nI_add]
theorem lc_2 (lv : LV L xs h) (hi : i + 7 ≤ L) (hL : L < 2 ^ 31) (J : JO d 4 62 [] h P Q Z) : ST d 316 i L xs h P Q Z := by
  obtain ⟨w, h1, h2, e1, e2, z, j⟩ := J
  have lv1 := lv.ev e1
  have lv2 := lv1.ev e2
  refine ⟨h2, ?_, j, lv2⟩
  rw [lp_316, ck_ok lv.c100, e1, cK_v, lp_320, ck_ok lv1.c189, e2, cK_v, lp_324, if_pos rfl, lp_1312, nI_add]
theorem lc_3 (lv : LV L xs h) (hi : i + 7 ≤ L) (hL : L < 2 ^ 31) (J : JO d 6 79 [.int (xs (i + 1))] h P Q Z) : ST d 329 i L xs h P Q Z := by
  obtain ⟨w, h1, h2, e1, e2, z, j⟩ := J
  have lv1 := lv.ev e1
  have lv2 := lv1.ev e2
  refine ⟨h2, ?_, j, lv2⟩
  rw [lp_329, ck_ok lv.c63, nI_add, lv.k63, gd_nI (show i + 1 < L by omega) (Nat.le_of_lt hL), ix_nI (show i + 1 < 2 ^ 31 by omega), lv.a63, lp_336, ck_ok lv.c100, e1, cK_v, lp_339, ck_ok lv1.c63, nI_add, lv1.k63, gd_nI (show i + 1 < L by omega) (Nat.le_of_lt hL), ix_nI (show i + 1 < 2 ^ 31 by omega), lv1.a63, lp_346, ck_ok lv1.c189, e2, cK_v, lp_349, if_pos rfl, lp_1312, nI_add]
theorem lc_4 (lv : LV L xs h) (hi : i + 7 ≤ L) (hL : L < 2 ^ 31) (hs : Sh h) (J : JW false d 20 80 [.int (xs (i + 1)), .int (xs (i + 2)), .int (xs (i + 3)), .int (xs (i + 4))] h P Q Z ∨ JT false 37 d 20 80 [.int (xs (i + 1)), .int (xs (i + 2)), .int (xs (i + 3)), .int (xs (i + 4))] h P Q Z) : ST d 354 i L xs h P Q Z := by
  have st0 : ∀ {o' : Ot}, fk0 (d + 339) [.ref 100, .int (xs (i + 1)), .int (xs (i + 2)), .int (xs (i + 3)), .int (xs (i + 4)), .ref 295] h = some o' → LQ d 354 [some (.ref 63), some (.ref 100), some (.ref 189), some (.ref 295), some (.int (nI i)), none, none, none] [] h = LQ d 383 [some (.ref 63), some (.ref 100), some (.ref 189), some (.ref 295), some (.int (nI i)), none, none, none] (o'.1.toList ++ []) o'.2 := fun f => by
    rw [lp_354, ck_ok lv.c63, nI_add, lv.k63, gd_nI (show i + 1 < L by omega) (Nat.le_of_lt hL), ix_nI (show i + 1 < 2 ^ 31 by omega), lv.a63, lp_361, ck_ok lv.c63, nI_add, lv.k63, gd_nI (show i + 2 < L by omega) (Nat.le_of_lt hL), ix_nI (show i + 2 < 2 ^ 31 by omega), lv.a63, lp_367, ck_ok lv.c63, nI_add, lv.k63, gd_nI (show i + 3 < L by omega) (Nat.le_of_lt hL), ix_nI (show i + 3 < 2 ^ 31 by omega), lv.a63, lp_373, ck_ok lv.c63, nI_add, lv.k63, gd_nI (show i + 4 < L by omega) (Nat.le_of_lt hL), ix_nI (show i + 4 < 2 ^ 31 by omega), lv.a63, lp_379]
    exact RnL_call wcf_0 rfl rfl f
  rcases J with ⟨w, h1, iw, e1, s1, J⟩ | ⟨e1, h1, w, h2, iw, e0, s1, e2, z, j⟩
  · obtain ⟨w, rfl⟩ := iw
    obtain ⟨h2, e2, z, b, j⟩ := J (w.toInt64)
    have f := fWr_ok (d := d + 339) (P0 := 37) (lg := false) (ml := pdL (arL [.ref 100, .int (xs (i + 1)), .int (xs (i + 2)), .int (xs (i + 3)), .int (xs (i + 4))]) (mL 20)) (Or.inl ⟨_, h1, e1, hs, s1, isL_i, rfl⟩)
    have lv1 : LV L xs (sB h1 295 0 (w.toInt64)) := (lv.ev e1).sB
    have lv2 := lv1.ev e2
    have hs2 := j.sh
    refine ⟨h2, ?_, j, lv2⟩
    refine (st0 f).trans ?_
    show LQ d 383 _ [.int 0] (sB h1 295 0 (w.toInt64)) = _
    rw [lp_383, ck_ok lv1.c63, nI_add, lv1.k63, gd_nI (show i + 1 < L by omega) (Nat.le_of_lt hL), ix_nI (show i + 1 < 2 ^ 31 by omega), lv1.a63, lp_392, ck_ok lv1.c63, nI_add, lv1.k63, gd_nI (show i + 2 < L by omega) (Nat.le_of_lt hL), ix_nI (show i + 2 < 2 ^ 31 by omega), lv1.a63, lp_398, ck_ok lv1.c63, nI_add, lv1.k63, gd_nI (show i + 3 < L by omega) (Nat.le_of_lt hL), ix_nI (show i + 3 < 2 ^ 31 by omega), lv1.a63, lp_404, ck_ok lv1.c63, nI_add, lv1.k63, gd_nI (show i + 4 < L by omega) (Nat.le_of_lt hL), ix_nI (show i + 4 < 2 ^ 31 by omega), lv1.a63, lp_410, ck_ok lv1.c189, e2, cK_v, lp_413, ck_ok lv2.c189, t_29 hs2, cK_v, z, lp_419, if_pos (show nI 0 = (0 : Int32) by decide), if_pos (show (0 : Int32) = nI 0 by decide), ck_ok lv2.c295, lv2.k295, gd_nI (by decide) (by decide), b, if_pos lgc_s, lp_1312, nI_add]
  · obtain ⟨w, rfl⟩ := iw
    have f := fWr_ok (d := d + 339) (P0 := 37) (lg := false) (ml := pdL (arL [.ref 100, .int (xs (i + 1)), .int (xs (i + 2)), .int (xs (i + 3)), .int (xs (i + 4))]) (mL 20)) (Or.inr ⟨e1, h1, e0, hs, s1, rfl⟩)
    have lv1 : LV L xs (nw h1 0 0 6) := (lv.tq e0).nw6
    have lv2 := lv1.ev e2
    have hs2 := j.sh
    refine ⟨h2, ?_, j, lv2⟩
    refine (st0 f).trans ?_
    show LQ d 383 _ [.int 1] (nw h1 0 0 6) = _
    rw [lp_383, ck_ok lv1.c63, nI_add, lv1.k63, gd_nI (show i + 1 < L by omega) (Nat.le_of_lt hL), ix_nI (show i + 1 < 2 ^ 31 by omega), lv1.a63, lp_392, ck_ok lv1.c63, nI_add, lv1.k63, gd_nI (show i + 2 < L by omega) (Nat.le_of_lt hL), ix_nI (show i + 2 < 2 ^ 31 by omega), lv1.a63, lp_398, ck_ok lv1.c63, nI_add, lv1.k63, gd_nI (show i + 3 < L by omega) (Nat.le_of_lt hL), ix_nI (show i + 3 < 2 ^ 31 by omega), lv1.a63, lp_404, ck_ok lv1.c63, nI_add, lv1.k63, gd_nI (show i + 4 < L by omega) (Nat.le_of_lt hL), ix_nI (show i + 4 < 2 ^ 31 by omega), lv1.a63, lp_410, ck_ok lv1.c189, e2, cK_v, lp_413, ck_ok lv2.c189, t_29 hs2, cK_v, z, lp_419, if_pos (show nI 1 = (1 : Int32) by decide), if_neg (show ¬ (1 : Int32) = nI 0 by decide), lp_1312, nI_add]
theorem lc_5 (lv : LV L xs h) (hi : i + 7 ≤ L) (hL : L < 2 ^ 31) (hs : Sh h) (J : JW false d 21 106 [.int (xs (i + 1)), .int (xs (i + 2))] h P Q Z ∨ JT false 28 d 21 106 [.int (xs (i + 1)), .int (xs (i + 2))] h P Q Z) : ST d 446 i L xs h P Q Z := by
  have st0 : ∀ {o' : Ot}, fk1 (d + 339) [.ref 100, .int (xs (i + 1)), .int (xs (i + 2)), .ref 295] h = some o' → LQ d 446 [some (.ref 63), some (.ref 100), some (.ref 189), some (.ref 295), some (.int (nI i)), none, none, none] [] h = LQ d 463 [some (.ref 63), some (.ref 100), some (.ref 189), some (.ref 295), some (.int (nI i)), none, none, none] (o'.1.toList ++ []) o'.2 := fun f => by
    rw [lp_446, ck_ok lv.c63, nI_add, lv.k63, gd_nI (show i + 1 < L by omega) (Nat.le_of_lt hL), ix_nI (show i + 1 < 2 ^ 31 by omega), lv.a63, lp_453, ck_ok lv.c63, nI_add, lv.k63, gd_nI (show i + 2 < L by omega) (Nat.le_of_lt hL), ix_nI (show i + 2 < 2 ^ 31 by omega), lv.a63, lp_459]
    exact RnL_call wcf_1 rfl rfl f
  rcases J with ⟨w, h1, iw, e1, s1, J⟩ | ⟨e1, h1, w, h2, iw, e0, s1, e2, z, j⟩
  · obtain ⟨w, rfl⟩ := iw
    obtain ⟨h2, e2, z, b, j⟩ := J (w.toInt64)
    have f := fWr_ok (d := d + 339) (P0 := 28) (lg := false) (ml := pdL (arL [.ref 100, .int (xs (i + 1)), .int (xs (i + 2))]) (mL 21)) (Or.inl ⟨_, h1, e1, hs, s1, isL_i, rfl⟩)
    have lv1 : LV L xs (sB h1 295 0 (w.toInt64)) := (lv.ev e1).sB
    have lv2 := lv1.ev e2
    have hs2 := j.sh
    refine ⟨h2, ?_, j, lv2⟩
    refine (st0 f).trans ?_
    show LQ d 463 _ [.int 0] (sB h1 295 0 (w.toInt64)) = _
    rw [lp_463, ck_ok lv1.c63, nI_add, lv1.k63, gd_nI (show i + 1 < L by omega) (Nat.le_of_lt hL), ix_nI (show i + 1 < 2 ^ 31 by omega), lv1.a63, lp_472, ck_ok lv1.c63, nI_add, lv1.k63, gd_nI (show i + 2 < L by omega) (Nat.le_of_lt hL), ix_nI (show i + 2 < 2 ^ 31 by omega), lv1.a63, lp_478, ck_ok lv1.c189, e2, cK_v, lp_481, ck_ok lv2.c189, t_29 hs2, cK_v, z, lp_487, if_pos (show nI 0 = (0 : Int32) by decide), if_pos (show (0 : Int32) = nI 0 by decide), ck_ok lv2.c295, lv2.k295, gd_nI (by decide) (by decide), b, if_pos lgc_s, lp_1312, nI_add]
  · obtain ⟨w, rfl⟩ := iw
    have f := fWr_ok (d := d + 339) (P0 := 28) (lg := false) (ml := pdL (arL [.ref 100, .int (xs (i + 1)), .int (xs (i + 2))]) (mL 21)) (Or.inr ⟨e1, h1, e0, hs, s1, rfl⟩)
    have lv1 : LV L xs (nw h1 0 0 6) := (lv.tq e0).nw6
    have lv2 := lv1.ev e2
    have hs2 := j.sh
    refine ⟨h2, ?_, j, lv2⟩
    refine (st0 f).trans ?_
    show LQ d 463 _ [.int 1] (nw h1 0 0 6) = _
    rw [lp_463, ck_ok lv1.c63, nI_add, lv1.k63, gd_nI (show i + 1 < L by omega) (Nat.le_of_lt hL), ix_nI (show i + 1 < 2 ^ 31 by omega), lv1.a63, lp_472, ck_ok lv1.c63, nI_add, lv1.k63, gd_nI (show i + 2 < L by omega) (Nat.le_of_lt hL), ix_nI (show i + 2 < 2 ^ 31 by omega), lv1.a63, lp_478, ck_ok lv1.c189, e2, cK_v, lp_481, ck_ok lv2.c189, t_29 hs2, cK_v, z, lp_487, if_pos (show nI 1 = (1 : Int32) by decide), if_neg (show ¬ (1 : Int32) = nI 0 by decide), lp_1312, nI_add]
theorem lc_6 (lv : LV L xs h) (hi : i + 7 ≤ L) (hL : L < 2 ^ 31) (hs : Sh h) (J : JW false d 22 97 [.int (xs (i + 1)), .int (xs (i + 2)), .int (xs (i + 3))] h P Q Z ∨ JT false 33 d 22 97 [.int (xs (i + 1)), .int (xs (i + 2)), .int (xs (i + 3))] h P Q Z) : ST d 514 i L xs h P Q Z := by
  have st0 : ∀ {o' : Ot}, fk2 (d + 339) [.ref 100, .int (xs (i + 1)), .int (xs (i + 2)), .int (xs (i + 3)), .ref 295] h = some o' → LQ d 514 [some (.ref 63), some (.ref 100), some (.ref 189), some (.ref 295), some (.int (nI i)), none, none, none] [] h = LQ d 537 [some (.ref 63), some (.ref 100), some (.ref 189), some (.ref 295), some (.int (nI i)), none, none, none] (o'.1.toList ++ []) o'.2 := fun f => by
    rw [lp_514, ck_ok lv.c63, nI_add, lv.k63, gd_nI (show i + 1 < L by omega) (Nat.le_of_lt hL), ix_nI (show i + 1 < 2 ^ 31 by omega), lv.a63, lp_521, ck_ok lv.c63, nI_add, lv.k63, gd_nI (show i + 2 < L by omega) (Nat.le_of_lt hL), ix_nI (show i + 2 < 2 ^ 31 by omega), lv.a63, lp_527, ck_ok lv.c63, nI_add, lv.k63, gd_nI (show i + 3 < L by omega) (Nat.le_of_lt hL), ix_nI (show i + 3 < 2 ^ 31 by omega), lv.a63, lp_533]
    exact RnL_call wcf_2 rfl rfl f
  rcases J with ⟨w, h1, iw, e1, s1, J⟩ | ⟨e1, h1, w, h2, iw, e0, s1, e2, z, j⟩
  · obtain ⟨w, rfl⟩ := iw
    obtain ⟨h2, e2, z, b, j⟩ := J (w.toInt64)
    have f := fWr_ok (d := d + 339) (P0 := 33) (lg := false) (ml := pdL (arL [.ref 100, .int (xs (i + 1)), .int (xs (i + 2)), .int (xs (i + 3))]) (mL 22)) (Or.inl ⟨_, h1, e1, hs, s1, isL_i, rfl⟩)
    have lv1 : LV L xs (sB h1 295 0 (w.toInt64)) := (lv.ev e1).sB
    have lv2 := lv1.ev e2
    have hs2 := j.sh
    refine ⟨h2, ?_, j, lv2⟩
    refine (st0 f).trans ?_
    show LQ d 537 _ [.int 0] (sB h1 295 0 (w.toInt64)) = _
    rw [lp_537, ck_ok lv1.c63, nI_add, lv1.k63, gd_nI (show i + 1 < L by omega) (Nat.le_of_lt hL), ix_nI (show i + 1 < 2 ^ 31 by omega), lv1.a63, lp_546, ck_ok lv1.c63, nI_add, lv1.k63, gd_nI (show i + 2 < L by omega) (Nat.le_of_lt hL), ix_nI (show i + 2 < 2 ^ 31 by omega), lv1.a63, lp_552, ck_ok lv1.c63, nI_add, lv1.k63, gd_nI (show i + 3 < L by omega) (Nat.le_of_lt hL), ix_nI (show i + 3 < 2 ^ 31 by omega), lv1.a63, lp_558, ck_ok lv1.c189, e2, cK_v, lp_561, ck_ok lv2.c189, t_29 hs2, cK_v, z, lp_567, if_pos (show nI 0 = (0 : Int32) by decide), if_pos (show (0 : Int32) = nI 0 by decide), ck_ok lv2.c295, lv2.k295, gd_nI (by decide) (by decide), b, if_pos lgc_s, lp_1312, nI_add]
  · obtain ⟨w, rfl⟩ := iw
    have f := fWr_ok (d := d + 339) (P0 := 33) (lg := false) (ml := pdL (arL [.ref 100, .int (xs (i + 1)), .int (xs (i + 2)), .int (xs (i + 3))]) (mL 22)) (Or.inr ⟨e1, h1, e0, hs, s1, rfl⟩)
    have lv1 : LV L xs (nw h1 0 0 6) := (lv.tq e0).nw6
    have lv2 := lv1.ev e2
    have hs2 := j.sh
    refine ⟨h2, ?_, j, lv2⟩
    refine (st0 f).trans ?_
    show LQ d 537 _ [.int 1] (nw h1 0 0 6) = _
    rw [lp_537, ck_ok lv1.c63, nI_add, lv1.k63, gd_nI (show i + 1 < L by omega) (Nat.le_of_lt hL), ix_nI (show i + 1 < 2 ^ 31 by omega), lv1.a63, lp_546, ck_ok lv1.c63, nI_add, lv1.k63, gd_nI (show i + 2 < L by omega) (Nat.le_of_lt hL), ix_nI (show i + 2 < 2 ^ 31 by omega), lv1.a63, lp_552, ck_ok lv1.c63, nI_add, lv1.k63, gd_nI (show i + 3 < L by omega) (Nat.le_of_lt hL), ix_nI (show i + 3 < 2 ^ 31 by omega), lv1.a63, lp_558, ck_ok lv1.c189, e2, cK_v, lp_561, ck_ok lv2.c189, t_29 hs2, cK_v, z, lp_567, if_pos (show nI 1 = (1 : Int32) by decide), if_neg (show ¬ (1 : Int32) = nI 0 by decide), lp_1312, nI_add]
theorem lc_7 (lv : LV L xs h) (hi : i + 7 ≤ L) (hL : L < 2 ^ 31) (hs : Sh h) (J : JW false d 23 86 [.int (xs (i + 1)), .int (xs (i + 2))] h P Q Z ∨ JT false 21 d 23 86 [.int (xs (i + 1)), .int (xs (i + 2))] h P Q Z) : ST d 594 i L xs h P Q Z := by
  have st0 : ∀ {o' : Ot}, fk3 (d + 339) [.ref 100, .int (xs (i + 1)), .int (xs (i + 2)), .ref 295] h = some o' → LQ d 594 [some (.ref 63), some (.ref 100), some (.ref 189), some (.ref 295), some (.int (nI i)), none, none, none] [] h = LQ d 611 [some (.ref 63), some (.ref 100), some (.ref 189), some (.ref 295), some (.int (nI i)), none, none, none] (o'.1.toList ++ []) o'.2 := fun f => by
    rw [lp_594, ck_ok lv.c63, nI_add, lv.k63, gd_nI (show i + 1 < L by omega) (Nat.le_of_lt hL), ix_nI (show i + 1 < 2 ^ 31 by omega), lv.a63, lp_601, ck_ok lv.c63, nI_add, lv.k63, gd_nI (show i + 2 < L by omega) (Nat.le_of_lt hL), ix_nI (show i + 2 < 2 ^ 31 by omega), lv.a63, lp_607]
    exact RnL_call wcf_3 rfl rfl f
  rcases J with ⟨w, h1, iw, e1, s1, J⟩ | ⟨e1, h1, w, h2, iw, e0, s1, e2, z, j⟩
  · obtain ⟨w, rfl⟩ := iw
    obtain ⟨h2, e2, z, b, j⟩ := J (w.toInt64)
    have f := fWr_ok (d := d + 339) (P0 := 21) (lg := false) (ml := pdL (arL [.ref 100, .int (xs (i + 1)), .int (xs (i + 2))]) (mL 23)) (Or.inl ⟨_, h1, e1, hs, s1, isL_i, rfl⟩)
    have lv1 : LV L xs (sB h1 295 0 (w.toInt64)) := (lv.ev e1).sB
    have lv2 := lv1.ev e2
    have hs2 := j.sh
    refine ⟨h2, ?_, j, lv2⟩
    refine (st0 f).trans ?_
    show LQ d 611 _ [.int 0] (sB h1 295 0 (w.toInt64)) = _
    rw [lp_611, ck_ok lv1.c63, nI_add, lv1.k63, gd_nI (show i + 1 < L by omega) (Nat.le_of_lt hL), ix_nI (show i + 1 < 2 ^ 31 by omega), lv1.a63, lp_620, ck_ok lv1.c63, nI_add, lv1.k63, gd_nI (show i + 2 < L by omega) (Nat.le_of_lt hL), ix_nI (show i + 2 < 2 ^ 31 by omega), lv1.a63, lp_626, ck_ok lv1.c189, e2, cK_v, lp_629, ck_ok lv2.c189, t_29 hs2, cK_v, z, lp_635, if_pos (show nI 0 = (0 : Int32) by decide), if_pos (show (0 : Int32) = nI 0 by decide), ck_ok lv2.c295, lv2.k295, gd_nI (by decide) (by decide), b, if_pos lgc_s, lp_1312, nI_add]
  · obtain ⟨w, rfl⟩ := iw
    have f := fWr_ok (d := d + 339) (P0 := 21) (lg := false) (ml := pdL (arL [.ref 100, .int (xs (i + 1)), .int (xs (i + 2))]) (mL 23)) (Or.inr ⟨e1, h1, e0, hs, s1, rfl⟩)
    have lv1 : LV L xs (nw h1 0 0 6) := (lv.tq e0).nw6
    have lv2 := lv1.ev e2
    have hs2 := j.sh
    refine ⟨h2, ?_, j, lv2⟩
    refine (st0 f).trans ?_
    show LQ d 611 _ [.int 1] (nw h1 0 0 6) = _
    rw [lp_611, ck_ok lv1.c63, nI_add, lv1.k63, gd_nI (show i + 1 < L by omega) (Nat.le_of_lt hL), ix_nI (show i + 1 < 2 ^ 31 by omega), lv1.a63, lp_620, ck_ok lv1.c63, nI_add, lv1.k63, gd_nI (show i + 2 < L by omega) (Nat.le_of_lt hL), ix_nI (show i + 2 < 2 ^ 31 by omega), lv1.a63, lp_626, ck_ok lv1.c189, e2, cK_v, lp_629, ck_ok lv2.c189, t_29 hs2, cK_v, z, lp_635, if_pos (show nI 1 = (1 : Int32) by decide), if_neg (show ¬ (1 : Int32) = nI 0 by decide), lp_1312, nI_add]
theorem lc_8 (lv : LV L xs h) (hi : i + 7 ≤ L) (hL : L < 2 ^ 31) (J : JO d 7 92 [] h P Q Z) : ST d 662 i L xs h P Q Z := by
  obtain ⟨w, h1, h2, e1, e2, z, j⟩ := J
  have lv1 := lv.ev e1
  have lv2 := lv1.ev e2
  refine ⟨h2, ?_, j, lv2⟩
  rw [lp_662, ck_ok lv.c100, e1, cK_v, lp_666, ck_ok lv1.c189, e2, cK_v, lp_670, if_pos rfl, lp_1312, nI_add]
theorem lc_9 (lv : LV L xs h) (hi : i + 7 ≤ L) (hL : L < 2 ^ 31) (J : JO d 8 96 [] h P Q Z) : ST d 675 i L xs h P Q Z := by
  obtain ⟨w, h1, h2, e1, e2, z, j⟩ := J
  have lv1 := lv.ev e1
  have lv2 := lv1.ev e2
  refine ⟨h2, ?_, j, lv2⟩
  rw [lp_675, ck_ok lv.c100, e1, cK_v, lp_679, ck_ok lv1.c189, e2, cK_v, lp_683, if_pos rfl, lp_1312, nI_add]
theorem lc_10 (lv : LV L xs h) (hi : i + 7 ≤ L) (hL : L < 2 ^ 31) (J : JO d 9 102 [.int (xs (i + 1))] h P Q Z) : ST d 688 i L xs h P Q Z := by
  obtain ⟨w, h1, h2, e1, e2, z, j⟩ := J
  have lv1 := lv.ev e1
  have lv2 := lv1.ev e2
  refine ⟨h2, ?_, j, lv2⟩
  rw [lp_688, ck_ok lv.c63, nI_add, lv.k63, gd_nI (show i + 1 < L by omega) (Nat.le_of_lt hL), ix_nI (show i + 1 < 2 ^ 31 by omega), lv.a63, lp_695, ck_ok lv.c100, e1, cK_v, lp_698, ck_ok lv1.c63, nI_add, lv1.k63, gd_nI (show i + 1 < L by omega) (Nat.le_of_lt hL), ix_nI (show i + 1 < 2 ^ 31 by omega), lv1.a63, lp_705, ck_ok lv1.c189, e2, cK_v, lp_708, if_pos rfl, lp_1312, nI_add]
theorem lc_11 (lv : LV L xs h) (hi : i + 7 ≤ L) (hL : L < 2 ^ 31) (J : JO d 10 109 [.int (xs (i + 1))] h P Q Z) : ST d 713 i L xs h P Q Z := by
  obtain ⟨w, h1, h2, e1, e2, z, j⟩ := J
  have lv1 := lv.ev e1
  have lv2 := lv1.ev e2
  refine ⟨h2, ?_, j, lv2⟩
  rw [lp_713, ck_ok lv.c63, nI_add, lv.k63, gd_nI (show i + 1 < L by omega) (Nat.le_of_lt hL), ix_nI (show i + 1 < 2 ^ 31 by omega), lv.a63, lp_720, ck_ok lv.c100, e1, cK_v, lp_723, ck_ok lv1.c63, nI_add, lv1.k63, gd_nI (show i + 1 < L by omega) (Nat.le_of_lt hL), ix_nI (show i + 1 < 2 ^ 31 by omega), lv1.a63, lp_730, ck_ok lv1.c189, e2, cK_v, lp_733, if_pos rfl, lp_1312, nI_add]
theorem lc_12 (lv : LV L xs h) (hi : i + 7 ≤ L) (hL : L < 2 ^ 31) (J : JO d 11 118 [.int (xs (i + 1)), .int (xs (i + 2))] h P Q Z) : ST d 738 i L xs h P Q Z := by
  obtain ⟨w, h1, h2, e1, e2, z, j⟩ := J
  have lv1 := lv.ev e1
  have lv2 := lv1.ev e2
  refine ⟨h2, ?_, j, lv2⟩
  rw [lp_738, ck_ok lv.c63, nI_add, lv.k63, gd_nI (show i + 1 < L by omega) (Nat.le_of_lt hL), ix_nI (show i + 1 < 2 ^ 31 by omega), lv.a63, lp_745, ck_ok lv.c63, nI_add, lv.k63, gd_nI (show i + 2 < L by omega) (Nat.le_of_lt hL), ix_nI (show i + 2 < 2 ^ 31 by omega), lv.a63, lp_751, ck_ok lv.c100, e1, cK_v, lp_754, ck_ok lv1.c63, nI_add, lv1.k63, gd_nI (show i + 1 < L by omega) (Nat.le_of_lt hL), ix_nI (show i + 1 < 2 ^ 31 by omega), lv1.a63, lp_761, ck_ok lv1.c63, nI_add, lv1.k63, gd_nI (show i + 2 < L by omega) (Nat.le_of_lt hL), ix_nI (show i + 2 < 2 ^ 31 by omega), lv1.a63, lp_767, ck_ok lv1.c189, e2, cK_v, lp_770, if_pos rfl, lp_1312, nI_add]
theorem lc_13 (lv : LV L xs h) (hi : i + 7 ≤ L) (hL : L < 2 ^ 31) (J : JO d 12 114 [.int (xs (i + 1)), .int (xs (i + 2))] h P Q Z) : ST d 775 i L xs h P Q Z := by
  obtain ⟨w, h1, h2, e1, e2, z, j⟩ := J
  have lv1 := lv.ev e1
  have lv2 := lv1.ev e2
  refine ⟨h2, ?_, j, lv2⟩
  rw [lp_775, ck_ok lv.c63, nI_add, lv.k63, gd_nI (show i + 1 < L by omega) (Nat.le_of_lt hL), ix_nI (show i + 1 < 2 ^ 31 by omega), lv.a63, lp_782, ck_ok lv.c63, nI_add, lv.k63, gd_nI (show i + 2 < L by omega) (Nat.le_of_lt hL), ix_nI (show i + 2 < 2 ^ 31 by omega), lv.a63, lp_788, ck_ok lv.c100, e1, cK_v, lp_791, ck_ok lv1.c63, nI_add, lv1.k63, gd_nI (show i + 1 < L by omega) (Nat.le_of_lt hL), ix_nI (show i + 1 < 2 ^ 31 by omega), lv1.a63, lp_798, ck_ok lv1.c63, nI_add, lv1.k63, gd_nI (show i + 2 < L by omega) (Nat.le_of_lt hL), ix_nI (show i + 2 < 2 ^ 31 by omega), lv1.a63, lp_804, ck_ok lv1.c189, e2, cK_v, lp_807, if_pos rfl, lp_1312, nI_add]
theorem lc_14 (lv : LV L xs h) (hi : i + 7 ≤ L) (hL : L < 2 ^ 31) (J : JO d 13 117 [.int (xs (i + 1)), .int (xs (i + 2))] h P Q Z) : ST d 812 i L xs h P Q Z := by
  obtain ⟨w, h1, h2, e1, e2, z, j⟩ := J
  have lv1 := lv.ev e1
  have lv2 := lv1.ev e2
  refine ⟨h2, ?_, j, lv2⟩
  rw [lp_812, ck_ok lv.c63, nI_add, lv.k63, gd_nI (show i + 1 < L by omega) (Nat.le_of_lt hL), ix_nI (show i + 1 < 2 ^ 31 by omega), lv.a63, lp_819, ck_ok lv.c63, nI_add, lv.k63, gd_nI (show i + 2 < L by omega) (Nat.le_of_lt hL), ix_nI (show i + 2 < 2 ^ 31 by omega), lv.a63, lp_825, ck_ok lv.c100, e1, cK_v, lp_828, ck_ok lv1.c63, nI_add, lv1.k63, gd_nI (show i + 1 < L by omega) (Nat.le_of_lt hL), ix_nI (show i + 1 < 2 ^ 31 by omega), lv1.a63, lp_835, ck_ok lv1.c63, nI_add, lv1.k63, gd_nI (show i + 2 < L by omega) (Nat.le_of_lt hL), ix_nI (show i + 2 < 2 ^ 31 by omega), lv1.a63, lp_841, ck_ok lv1.c189, e2, cK_v, lp_844, if_pos rfl, lp_1312, nI_add]
theorem lc_15 (lv : LV L xs h) (hi : i + 7 ≤ L) (hL : L < 2 ^ 31) (J : JO d 14 127 [] h P Q Z) : ST d 849 i L xs h P Q Z := by
  obtain ⟨w, h1, h2, e1, e2, z, j⟩ := J
  have lv1 := lv.ev e1
  have lv2 := lv1.ev e2
  refine ⟨h2, ?_, j, lv2⟩
  rw [lp_849, ck_ok lv.c100, e1, cK_v, lp_853, ck_ok lv1.c189, e2, cK_v, lp_857, if_pos rfl, lp_1312, nI_add]
theorem lc_16 (lv : LV L xs h) (hi : i + 7 ≤ L) (hL : L < 2 ^ 31) (J : JO d 15 151 [.int (xs (i + 1)), .int (xs (i + 2))] h P Q Z) : ST d 862 i L xs h P Q Z := by
  obtain ⟨w, h1, h2, e1, e2, z, j⟩ := J
  have lv1 := lv.ev e1
  have lv2 := lv1.ev e2
  refine ⟨h2, ?_, j, lv2⟩
  rw [lp_862, ck_ok lv.c63, nI_add, lv.k63, gd_nI (show i + 1 < L by omega) (Nat.le_of_lt hL), ix_nI (show i + 1 < 2 ^ 31 by omega), lv.a63, lp_869, ck_ok lv.c63, nI_add, lv.k63, gd_nI (show i + 2 < L by omega) (Nat.le_of_lt hL), ix_nI (show i + 2 < 2 ^ 31 by omega), lv.a63, lp_875, ck_ok lv.c100, e1, cK_v, lp_878, ck_ok lv1.c63, nI_add, lv1.k63, gd_nI (show i + 1 < L by omega) (Nat.le_of_lt hL), ix_nI (show i + 1 < 2 ^ 31 by omega), lv1.a63, lp_885, ck_ok lv1.c63, nI_add, lv1.k63, gd_nI (show i + 2 < L by omega) (Nat.le_of_lt hL), ix_nI (show i + 2 < 2 ^ 31 by omega), lv1.a63, lp_891, ck_ok lv1.c189, e2, cK_v, lp_894, if_pos rfl, lp_1312, nI_add]
theorem lc_17 (lv : LV L xs h) (hi : i + 7 ≤ L) (hL : L < 2 ^ 31) (hs : Sh h) (J : JW true d 24 177 [.int (xs (i + 1))] h P Q Z ∨ JT true 16 d 24 177 [.int (xs (i + 1))] h P Q Z) : ST d 899 i L xs h P Q Z := by
  have st0 : ∀ {o' : Ot}, fk4 (d + 339) [.ref 100, .int (xs (i + 1)), .ref 295] h = some o' → LQ d 899 [some (.ref 63), some (.ref 100), some (.ref 189), some (.ref 295), some (.int (nI i)), none, none, none] [] h = LQ d 910 [some (.ref 63), some (.ref 100), some (.ref 189), some (.ref 295), some (.int (nI i)), none, none, none] (o'.1.toList ++ []) o'.2 := fun f => by
    rw [lp_899, ck_ok lv.c63, nI_add, lv.k63, gd_nI (show i + 1 < L by omega) (Nat.le_of_lt hL), ix_nI (show i + 1 < 2 ^ 31 by omega), lv.a63, lp_906]
    exact RnL_call wcf_4 rfl rfl f
  rcases J with ⟨w, h1, iw, e1, s1, J⟩ | ⟨e1, h1, w, h2, iw, e0, s1, e2, z, j⟩
  · obtain ⟨w, rfl⟩ := iw
    obtain ⟨h2, e2, z, b, j⟩ := J (w)
    have f := fWr_ok (d := d + 339) (P0 := 16) (lg := true) (ml := pdL (arL [.ref 100, .int (xs (i + 1))]) (mL 24)) (Or.inl ⟨_, h1, e1, hs, s1, isL_l, rfl⟩)
    have lv1 : LV L xs (sB h1 295 0 (w)) := (lv.ev e1).sB
    have lv2 := lv1.ev e2
    have hs2 := j.sh
    refine ⟨h2, ?_, j, lv2⟩
    refine (st0 f).trans ?_
    show LQ d 910 _ [.int 0] (sB h1 295 0 (w)) = _
    rw [lp_910, ck_ok lv1.c63, nI_add, lv1.k63, gd_nI (show i + 1 < L by omega) (Nat.le_of_lt hL), ix_nI (show i + 1 < 2 ^ 31 by omega), lv1.a63, lp_919, ck_ok lv1.c189, e2, cK_v, lp_922, ck_ok lv2.c189, t_29 hs2, cK_v, z, lp_928, if_pos (show nI 0 = (0 : Int32) by decide), if_pos (show (0 : Int32) = nI 0 by decide), ck_ok lv2.c295, lv2.k295, gd_nI (by decide) (by decide), b, if_pos lgc_s, lp_1312, nI_add]
  · obtain ⟨w, rfl⟩ := iw
    have f := fWr_ok (d := d + 339) (P0 := 16) (lg := true) (ml := pdL (arL [.ref 100, .int (xs (i + 1))]) (mL 24)) (Or.inr ⟨e1, h1, e0, hs, s1, rfl⟩)
    have lv1 : LV L xs (nw h1 0 0 6) := (lv.tq e0).nw6
    have lv2 := lv1.ev e2
    have hs2 := j.sh
    refine ⟨h2, ?_, j, lv2⟩
    refine (st0 f).trans ?_
    show LQ d 910 _ [.int 1] (nw h1 0 0 6) = _
    rw [lp_910, ck_ok lv1.c63, nI_add, lv1.k63, gd_nI (show i + 1 < L by omega) (Nat.le_of_lt hL), ix_nI (show i + 1 < 2 ^ 31 by omega), lv1.a63, lp_919, ck_ok lv1.c189, e2, cK_v, lp_922, ck_ok lv2.c189, t_29 hs2, cK_v, z, lp_928, if_pos (show nI 1 = (1 : Int32) by decide), if_neg (show ¬ (1 : Int32) = nI 0 by decide), lp_1312, nI_add]
theorem lc_18 (lv : LV L xs h) (hi : i + 7 ≤ L) (hL : L < 2 ^ 31) (hs : Sh h) (J : JW false d 25 178 [.int (xs (i + 1))] h P Q Z ∨ JT false 16 d 25 178 [.int (xs (i + 1))] h P Q Z) : ST d 954 i L xs h P Q Z := by
  have st0 : ∀ {o' : Ot}, fk5 (d + 339) [.ref 100, .int (xs (i + 1)), .ref 295] h = some o' → LQ d 954 [some (.ref 63), some (.ref 100), some (.ref 189), some (.ref 295), some (.int (nI i)), none, none, none] [] h = LQ d 965 [some (.ref 63), some (.ref 100), some (.ref 189), some (.ref 295), some (.int (nI i)), none, none, none] (o'.1.toList ++ []) o'.2 := fun f => by
    rw [lp_954, ck_ok lv.c63, nI_add, lv.k63, gd_nI (show i + 1 < L by omega) (Nat.le_of_lt hL), ix_nI (show i + 1 < 2 ^ 31 by omega), lv.a63, lp_961]
    exact RnL_call wcf_5 rfl rfl f
  rcases J with ⟨w, h1, iw, e1, s1, J⟩ | ⟨e1, h1, w, h2, iw, e0, s1, e2, z, j⟩
  · obtain ⟨w, rfl⟩ := iw
    obtain ⟨h2, e2, z, b, j⟩ := J (w.toInt64)
    have f := fWr_ok (d := d + 339) (P0 := 16) (lg := false) (ml := pdL (arL [.ref 100, .int (xs (i + 1))]) (mL 25)) (Or.inl ⟨_, h1, e1, hs, s1, isL_i, rfl⟩)
    have lv1 : LV L xs (sB h1 295 0 (w.toInt64)) := (lv.ev e1).sB
    have lv2 := lv1.ev e2
    have hs2 := j.sh
    refine ⟨h2, ?_, j, lv2⟩
    refine (st0 f).trans ?_
    show LQ d 965 _ [.int 0] (sB h1 295 0 (w.toInt64)) = _
    rw [lp_965, ck_ok lv1.c63, nI_add, lv1.k63, gd_nI (show i + 1 < L by omega) (Nat.le_of_lt hL), ix_nI (show i + 1 < 2 ^ 31 by omega), lv1.a63, lp_974, ck_ok lv1.c189, e2, cK_v, lp_977, ck_ok lv2.c189, t_29 hs2, cK_v, z, lp_983, if_pos (show nI 0 = (0 : Int32) by decide), if_pos (show (0 : Int32) = nI 0 by decide), ck_ok lv2.c295, lv2.k295, gd_nI (by decide) (by decide), b, if_pos lgc_s, lp_1312, nI_add]
  · obtain ⟨w, rfl⟩ := iw
    have f := fWr_ok (d := d + 339) (P0 := 16) (lg := false) (ml := pdL (arL [.ref 100, .int (xs (i + 1))]) (mL 25)) (Or.inr ⟨e1, h1, e0, hs, s1, rfl⟩)
    have lv1 : LV L xs (nw h1 0 0 6) := (lv.tq e0).nw6
    have lv2 := lv1.ev e2
    have hs2 := j.sh
    refine ⟨h2, ?_, j, lv2⟩
    refine (st0 f).trans ?_
    show LQ d 965 _ [.int 1] (nw h1 0 0 6) = _
    rw [lp_965, ck_ok lv1.c63, nI_add, lv1.k63, gd_nI (show i + 1 < L by omega) (Nat.le_of_lt hL), ix_nI (show i + 1 < 2 ^ 31 by omega), lv1.a63, lp_974, ck_ok lv1.c189, e2, cK_v, lp_977, ck_ok lv2.c189, t_29 hs2, cK_v, z, lp_983, if_pos (show nI 1 = (1 : Int32) by decide), if_neg (show ¬ (1 : Int32) = nI 0 by decide), lp_1312, nI_add]
theorem lc_19 (lv : LV L xs h) (hi : i + 7 ≤ L) (hL : L < 2 ^ 31) (hs : Sh h) (J : JW false d 26 179 [.int (xs (i + 1)), .int (xs (i + 2))] h P Q Z ∨ JT false 10 d 26 179 [.int (xs (i + 1)), .int (xs (i + 2))] h P Q Z) : ST d 1010 i L xs h P Q Z := by
  have st0 : ∀ {o' : Ot}, fk6 (d + 339) [.ref 100, .int (xs (i + 1)), .int (xs (i + 2)), .ref 295] h = some o' → LQ d 1010 [some (.ref 63), some (.ref 100), some (.ref 189), some (.ref 295), some (.int (nI i)), none, none, none] [] h = LQ d 1027 [some (.ref 63), some (.ref 100), some (.ref 189), some (.ref 295), some (.int (nI i)), none, none, none] (o'.1.toList ++ []) o'.2 := fun f => by
    rw [lp_1010, ck_ok lv.c63, nI_add, lv.k63, gd_nI (show i + 1 < L by omega) (Nat.le_of_lt hL), ix_nI (show i + 1 < 2 ^ 31 by omega), lv.a63, lp_1017, ck_ok lv.c63, nI_add, lv.k63, gd_nI (show i + 2 < L by omega) (Nat.le_of_lt hL), ix_nI (show i + 2 < 2 ^ 31 by omega), lv.a63, lp_1023]
    exact RnL_call wcf_6 rfl rfl f
  rcases J with ⟨w, h1, iw, e1, s1, J⟩ | ⟨e1, h1, w, h2, iw, e0, s1, e2, z, j⟩
  · obtain ⟨w, rfl⟩ := iw
    obtain ⟨h2, e2, z, b, j⟩ := J (w.toInt64)
    have f := fWr_ok (d := d + 339) (P0 := 10) (lg := false) (ml := pdL (arL [.ref 100, .int (xs (i + 1)), .int (xs (i + 2))]) (mL 26)) (Or.inl ⟨_, h1, e1, hs, s1, isL_i, rfl⟩)
    have lv1 : LV L xs (sB h1 295 0 (w.toInt64)) := (lv.ev e1).sB
    have lv2 := lv1.ev e2
    have hs2 := j.sh
    refine ⟨h2, ?_, j, lv2⟩
    refine (st0 f).trans ?_
    show LQ d 1027 _ [.int 0] (sB h1 295 0 (w.toInt64)) = _
    rw [lp_1027, ck_ok lv1.c63, nI_add, lv1.k63, gd_nI (show i + 1 < L by omega) (Nat.le_of_lt hL), ix_nI (show i + 1 < 2 ^ 31 by omega), lv1.a63, lp_1036, ck_ok lv1.c63, nI_add, lv1.k63, gd_nI (show i + 2 < L by omega) (Nat.le_of_lt hL), ix_nI (show i + 2 < 2 ^ 31 by omega), lv1.a63, lp_1042, ck_ok lv1.c189, e2, cK_v, lp_1045, ck_ok lv2.c189, t_29 hs2, cK_v, z, lp_1051, if_pos (show nI 0 = (0 : Int32) by decide), if_pos (show (0 : Int32) = nI 0 by decide), ck_ok lv2.c295, lv2.k295, gd_nI (by decide) (by decide), b, if_pos lgc_s, lp_1312, nI_add]
  · obtain ⟨w, rfl⟩ := iw
    have f := fWr_ok (d := d + 339) (P0 := 10) (lg := false) (ml := pdL (arL [.ref 100, .int (xs (i + 1)), .int (xs (i + 2))]) (mL 26)) (Or.inr ⟨e1, h1, e0, hs, s1, rfl⟩)
    have lv1 : LV L xs (nw h1 0 0 6) := (lv.tq e0).nw6
    have lv2 := lv1.ev e2
    have hs2 := j.sh
    refine ⟨h2, ?_, j, lv2⟩
    refine (st0 f).trans ?_
    show LQ d 1027 _ [.int 1] (nw h1 0 0 6) = _
    rw [lp_1027, ck_ok lv1.c63, nI_add, lv1.k63, gd_nI (show i + 1 < L by omega) (Nat.le_of_lt hL), ix_nI (show i + 1 < 2 ^ 31 by omega), lv1.a63, lp_1036, ck_ok lv1.c63, nI_add, lv1.k63, gd_nI (show i + 2 < L by omega) (Nat.le_of_lt hL), ix_nI (show i + 2 < 2 ^ 31 by omega), lv1.a63, lp_1042, ck_ok lv1.c189, e2, cK_v, lp_1045, ck_ok lv2.c189, t_29 hs2, cK_v, z, lp_1051, if_pos (show nI 1 = (1 : Int32) by decide), if_neg (show ¬ (1 : Int32) = nI 0 by decide), lp_1312, nI_add]
theorem lc_20 (lv : LV L xs h) (hi : i + 7 ≤ L) (hL : L < 2 ^ 31) (hs : Sh h) (J : JW true d 27 180 [.int (xs (i + 1)), .int (xs (i + 2))] h P Q Z ∨ JT true 39 d 27 180 [.int (xs (i + 1)), .int (xs (i + 2))] h P Q Z) : ST d 1078 i L xs h P Q Z := by
  have st0 : ∀ {o' : Ot}, fk7 (d + 339) [.ref 100, .int (xs (i + 1)), .int (xs (i + 2)), .ref 295] h = some o' → LQ d 1078 [some (.ref 63), some (.ref 100), some (.ref 189), some (.ref 295), some (.int (nI i)), none, none, none] [] h = LQ d 1095 [some (.ref 63), some (.ref 100), some (.ref 189), some (.ref 295), some (.int (nI i)), none, none, none] (o'.1.toList ++ []) o'.2 := fun f => by
    rw [lp_1078, ck_ok lv.c63, nI_add, lv.k63, gd_nI (show i + 1 < L by omega) (Nat.le_of_lt hL), ix_nI (show i + 1 < 2 ^ 31 by omega), lv.a63, lp_1085, ck_ok lv.c63, nI_add, lv.k63, gd_nI (show i + 2 < L by omega) (Nat.le_of_lt hL), ix_nI (show i + 2 < 2 ^ 31 by omega), lv.a63, lp_1091]
    exact RnL_call wcf_7 rfl rfl f
  rcases J with ⟨w, h1, iw, e1, s1, J⟩ | ⟨e1, h1, w, h2, iw, e0, s1, e2, z, j⟩
  · obtain ⟨w, rfl⟩ := iw
    obtain ⟨h2, e2, z, b, j⟩ := J (w)
    have f := fWr_ok (d := d + 339) (P0 := 39) (lg := true) (ml := pdL (arL [.ref 100, .int (xs (i + 1)), .int (xs (i + 2))]) (mL 27)) (Or.inl ⟨_, h1, e1, hs, s1, isL_l, rfl⟩)
    have lv1 : LV L xs (sB h1 295 0 (w)) := (lv.ev e1).sB
    have lv2 := lv1.ev e2
    have hs2 := j.sh
    refine ⟨h2, ?_, j, lv2⟩
    refine (st0 f).trans ?_
    show LQ d 1095 _ [.int 0] (sB h1 295 0 (w)) = _
    rw [lp_1095, ck_ok lv1.c63, nI_add, lv1.k63, gd_nI (show i + 1 < L by omega) (Nat.le_of_lt hL), ix_nI (show i + 1 < 2 ^ 31 by omega), lv1.a63, lp_1104, ck_ok lv1.c63, nI_add, lv1.k63, gd_nI (show i + 2 < L by omega) (Nat.le_of_lt hL), ix_nI (show i + 2 < 2 ^ 31 by omega), lv1.a63, lp_1110, ck_ok lv1.c189, e2, cK_v, lp_1113, ck_ok lv2.c189, t_29 hs2, cK_v, z, lp_1119, if_pos (show nI 0 = (0 : Int32) by decide), if_pos (show (0 : Int32) = nI 0 by decide), ck_ok lv2.c295, lv2.k295, gd_nI (by decide) (by decide), b, if_pos lgc_s, lp_1312, nI_add]
  · obtain ⟨w, rfl⟩ := iw
    have f := fWr_ok (d := d + 339) (P0 := 39) (lg := true) (ml := pdL (arL [.ref 100, .int (xs (i + 1)), .int (xs (i + 2))]) (mL 27)) (Or.inr ⟨e1, h1, e0, hs, s1, rfl⟩)
    have lv1 : LV L xs (nw h1 0 0 6) := (lv.tq e0).nw6
    have lv2 := lv1.ev e2
    have hs2 := j.sh
    refine ⟨h2, ?_, j, lv2⟩
    refine (st0 f).trans ?_
    show LQ d 1095 _ [.int 1] (nw h1 0 0 6) = _
    rw [lp_1095, ck_ok lv1.c63, nI_add, lv1.k63, gd_nI (show i + 1 < L by omega) (Nat.le_of_lt hL), ix_nI (show i + 1 < 2 ^ 31 by omega), lv1.a63, lp_1104, ck_ok lv1.c63, nI_add, lv1.k63, gd_nI (show i + 2 < L by omega) (Nat.le_of_lt hL), ix_nI (show i + 2 < 2 ^ 31 by omega), lv1.a63, lp_1110, ck_ok lv1.c189, e2, cK_v, lp_1113, ck_ok lv2.c189, t_29 hs2, cK_v, z, lp_1119, if_pos (show nI 1 = (1 : Int32) by decide), if_neg (show ¬ (1 : Int32) = nI 0 by decide), lp_1312, nI_add]
theorem lc_21 (lv : LV L xs h) (hi : i + 7 ≤ L) (hL : L < 2 ^ 31) (hs : Sh h) (J : JW false d 28 181 [.int (xs (i + 1)), .int (xs (i + 2))] h P Q Z ∨ JT false 21 d 28 181 [.int (xs (i + 1)), .int (xs (i + 2))] h P Q Z) : ST d 1145 i L xs h P Q Z := by
  have st0 : ∀ {o' : Ot}, fk8 (d + 339) [.ref 100, .int (xs (i + 1)), .int (xs (i + 2)), .ref 295] h = some o' → LQ d 1145 [some (.ref 63), some (.ref 100), some (.ref 189), some (.ref 295), some (.int (nI i)), none, none, none] [] h = LQ d 1162 [some (.ref 63), some (.ref 100), some (.ref 189), some (.ref 295), some (.int (nI i)), none, none, none] (o'.1.toList ++ []) o'.2 := fun f => by
    rw [lp_1145, ck_ok lv.c63, nI_add, lv.k63, gd_nI (show i + 1 < L by omega) (Nat.le_of_lt hL), ix_nI (show i + 1 < 2 ^ 31 by omega), lv.a63, lp_1152, ck_ok lv.c63, nI_add, lv.k63, gd_nI (show i + 2 < L by omega) (Nat.le_of_lt hL), ix_nI (show i + 2 < 2 ^ 31 by omega), lv.a63, lp_1158]
    exact RnL_call wcf_8 rfl rfl f
  rcases J with ⟨w, h1, iw, e1, s1, J⟩ | ⟨e1, h1, w, h2, iw, e0, s1, e2, z, j⟩
  · obtain ⟨w, rfl⟩ := iw
    obtain ⟨h2, e2, z, b, j⟩ := J (w.toInt64)
    have f := fWr_ok (d := d + 339) (P0 := 21) (lg := false) (ml := pdL (arL [.ref 100, .int (xs (i + 1)), .int (xs (i + 2))]) (mL 28)) (Or.inl ⟨_, h1, e1, hs, s1, isL_i, rfl⟩)
    have lv1 : LV L xs (sB h1 295 0 (w.toInt64)) := (lv.ev e1).sB
    have lv2 := lv1.ev e2
    have hs2 := j.sh
    refine ⟨h2, ?_, j, lv2⟩
    refine (st0 f).trans ?_
    show LQ d 1162 _ [.int 0] (sB h1 295 0 (w.toInt64)) = _
    rw [lp_1162, ck_ok lv1.c63, nI_add, lv1.k63, gd_nI (show i + 1 < L by omega) (Nat.le_of_lt hL), ix_nI (show i + 1 < 2 ^ 31 by omega), lv1.a63, lp_1171, ck_ok lv1.c63, nI_add, lv1.k63, gd_nI (show i + 2 < L by omega) (Nat.le_of_lt hL), ix_nI (show i + 2 < 2 ^ 31 by omega), lv1.a63, lp_1177, ck_ok lv1.c189, e2, cK_v, lp_1180, ck_ok lv2.c189, t_29 hs2, cK_v, z, lp_1186, if_pos (show nI 0 = (0 : Int32) by decide), if_pos (show (0 : Int32) = nI 0 by decide), ck_ok lv2.c295, lv2.k295, gd_nI (by decide) (by decide), b, if_pos lgc_s, lp_1312, nI_add]
  · obtain ⟨w, rfl⟩ := iw
    have f := fWr_ok (d := d + 339) (P0 := 21) (lg := false) (ml := pdL (arL [.ref 100, .int (xs (i + 1)), .int (xs (i + 2))]) (mL 28)) (Or.inr ⟨e1, h1, e0, hs, s1, rfl⟩)
    have lv1 : LV L xs (nw h1 0 0 6) := (lv.tq e0).nw6
    have lv2 := lv1.ev e2
    have hs2 := j.sh
    refine ⟨h2, ?_, j, lv2⟩
    refine (st0 f).trans ?_
    show LQ d 1162 _ [.int 1] (nw h1 0 0 6) = _
    rw [lp_1162, ck_ok lv1.c63, nI_add, lv1.k63, gd_nI (show i + 1 < L by omega) (Nat.le_of_lt hL), ix_nI (show i + 1 < 2 ^ 31 by omega), lv1.a63, lp_1171, ck_ok lv1.c63, nI_add, lv1.k63, gd_nI (show i + 2 < L by omega) (Nat.le_of_lt hL), ix_nI (show i + 2 < 2 ^ 31 by omega), lv1.a63, lp_1177, ck_ok lv1.c189, e2, cK_v, lp_1180, ck_ok lv2.c189, t_29 hs2, cK_v, z, lp_1186, if_pos (show nI 1 = (1 : Int32) by decide), if_neg (show ¬ (1 : Int32) = nI 0 by decide), lp_1312, nI_add]
theorem lc_22 (lv : LV L xs h) (hi : i + 7 ≤ L) (hL : L < 2 ^ 31) (J : JO d 16 182 [.int (xs (i + 1)), .int (xs (i + 2))] h P Q Z) : ST d 1213 i L xs h P Q Z := by
  obtain ⟨w, h1, h2, e1, e2, z, j⟩ := J
  have lv1 := lv.ev e1
  have lv2 := lv1.ev e2
  refine ⟨h2, ?_, j, lv2⟩
  rw [lp_1213, ck_ok lv.c63, nI_add, lv.k63, gd_nI (show i + 1 < L by omega) (Nat.le_of_lt hL), ix_nI (show i + 1 < 2 ^ 31 by omega), lv.a63, lp_1220, ck_ok lv.c63, nI_add, lv.k63, gd_nI (show i + 2 < L by omega) (Nat.le_of_lt hL), ix_nI (show i + 2 < 2 ^ 31 by omega), lv.a63, lp_1226, ck_ok lv.c100, e1, cK_v, lp_1229, ck_ok lv1.c63, nI_add, lv1.k63, gd_nI (show i + 1 < L by omega) (Nat.le_of_lt hL), ix_nI (show i + 1 < 2 ^ 31 by omega), lv1.a63, lp_1236, ck_ok lv1.c63, nI_add, lv1.k63, gd_nI (show i + 2 < L by omega) (Nat.le_of_lt hL), ix_nI (show i + 2 < 2 ^ 31 by omega), lv1.a63, lp_1242, ck_ok lv1.c189, e2, cK_v, lp_1245, if_pos rfl, lp_1312, nI_add]
theorem lc_23 (lv : LV L xs h) (hi : i + 7 ≤ L) (hL : L < 2 ^ 31) (J : JO d 18 183 [.int (xs (i + 1)), .int (xs (i + 2))] h P Q Z) : ST d 1250 i L xs h P Q Z := by
  obtain ⟨w, h1, h2, e1, e2, z, j⟩ := J
  have lv1 := lv.ev e1
  have lv2 := lv1.ev e2
  refine ⟨h2, ?_, j, lv2⟩
  rw [lp_1250, ck_ok lv.c63, nI_add, lv.k63, gd_nI (show i + 1 < L by omega) (Nat.le_of_lt hL), ix_nI (show i + 1 < 2 ^ 31 by omega), lv.a63, lp_1257, ck_ok lv.c63, nI_add, lv.k63, gd_nI (show i + 2 < L by omega) (Nat.le_of_lt hL), ix_nI (show i + 2 < 2 ^ 31 by omega), lv.a63, lp_1263, ck_ok lv.c100, e1, cK_v, lp_1266, ck_ok lv1.c63, nI_add, lv1.k63, gd_nI (show i + 1 < L by omega) (Nat.le_of_lt hL), ix_nI (show i + 1 < 2 ^ 31 by omega), lv1.a63, lp_1273, ck_ok lv1.c63, nI_add, lv1.k63, gd_nI (show i + 2 < L by omega) (Nat.le_of_lt hL), ix_nI (show i + 2 < 2 ^ 31 by omega), lv1.a63, lp_1279, ck_ok lv1.c189, e2, cK_v, lp_1282, if_pos rfl, lp_1312, nI_add]
theorem lc_24 (lv : LV L xs h) (hi : i + 7 ≤ L) (hL : L < 2 ^ 31) (J : JO d 19 184 [.int (xs (i + 1))] h P Q Z) : ST d 1287 i L xs h P Q Z := by
  obtain ⟨w, h1, h2, e1, e2, z, j⟩ := J
  have lv1 := lv.ev e1
  have lv2 := lv1.ev e2
  refine ⟨h2, ?_, j, lv2⟩
  rw [lp_1287, ck_ok lv.c63, nI_add, lv.k63, gd_nI (show i + 1 < L by omega) (Nat.le_of_lt hL), ix_nI (show i + 1 < 2 ^ 31 by omega), lv.a63, lp_1294, ck_ok lv.c100, e1, cK_v, lp_1297, ck_ok lv1.c63, nI_add, lv1.k63, gd_nI (show i + 1 < L by omega) (Nat.le_of_lt hL), ix_nI (show i + 1 < 2 ^ 31 by omega), lv1.a63, lp_1304, ck_ok lv1.c189, e2, cK_v, lp_1307, if_pos rfl, lp_1312, nI_add]
end LVS
