/-! ===== THE LAW: all calls of a script (made by wip/gen2/genu3.py) ===== -/
section LWL
variable {d i L : Nat} {xs : Nat → Int32} {h h1 h2 : AH} {P Q Z : Nat}
theorem one_call (lv : LV L xs h) (j : JI h P Q Z) (hi : i + 7 ≤ L) (hL : L < 2 ^ 31) (hz : Z + 3000 < 2 ^ 29) : ST d 23 i L xs h P Q Z := by
  have hs := j.sh
  have go : ∀ {pc : Nat}, LQ d 23 [some (.ref 63), some (.ref 100), some (.ref 189), some (.ref 295), some (.int (nI i)), none, none, none] [] h = LQ d pc [some (.ref 63), some (.ref 100), some (.ref 189), some (.ref 295), some (.int (nI i)), none, none, none] [] h → ST d pc i L xs h P Q Z → ST d 23 i L xs h P Q Z := fun e ⟨g, a, b⟩ => ⟨g, e.trans a, b⟩
  have e23 := lp_23 (d := d) (h := h) (nI i)
  rw [if_pos (by rw [lv.c63]; decide), lv.k63, show nI L - nI 7 = nI (L - 7) from pk_sub (by omega), if_neg (nI_nlt (by omega) (by omega)), ck_ok lv.c63, gd_nI (by omega) (Nat.le_of_lt hL), ix_nI (by omega), lv.a63] at e23
  obtain ⟨v, hv⟩ : ∃ v, v = xs i &&& nI 31 := ⟨_, rfl⟩
  rw [← hv] at e23
  by_cases c0 : v = nI 0
  · rw [if_pos c0] at e23
    exact go e23 (lc_0 lv hi hL (j_feed j _ _ _))
  rw [if_neg c0] at e23
  by_cases c1 : v = nI 1
  · rw [if_pos c1] at e23
    exact go e23 (lc_1 lv hi hL (j_book j ))
  rw [if_neg c1] at e23
  by_cases c2 : v = nI 2
  · rw [if_pos c2] at e23
    exact go e23 (lc_2 lv hi hL (j_find j ))
  rw [if_neg c2] at e23
  by_cases c3 : v = nI 3
  · rw [if_pos c3] at e23
    exact go e23 (lc_3 lv hi hL (j_found j (xs (i + 1))))
  rw [if_neg c3] at e23
  by_cases c4 : v = nI 4
  · rw [if_pos c4] at e23
    exact go e23 (lc_4 lv hi hL hs (k_price j (xs (i + 1)) (xs (i + 2)) (xs (i + 3)) (xs (i + 4))))
  rw [if_neg c4] at e23
  by_cases c5 : v = nI 5
  · rw [if_pos c5] at e23
    exact go e23 (lc_5 lv hi hL hs (k_way j (xs (i + 1)) (xs (i + 2))))
  rw [if_neg c5] at e23
  by_cases c6 : v = nI 6
  · rw [if_pos c6] at e23
    exact go e23 (lc_6 lv hi hL hs (k_accept j (xs (i + 1)) (xs (i + 2)) (xs (i + 3))))
  rw [if_neg c6] at e23
  by_cases c7 : v = nI 7
  · rw [if_pos c7] at e23
    exact go e23 (lc_7 lv hi hL hs (k_bar j (xs (i + 1)) (xs (i + 2))))
  rw [if_neg c7] at e23
  by_cases c8 : v = nI 8
  · rw [if_pos c8] at e23
    exact go e23 (lc_8 lv hi hL (j_read j ))
  rw [if_neg c8] at e23
  by_cases c9 : v = nI 9
  · rw [if_pos c9] at e23
    exact go e23 (lc_9 lv hi hL (j_mended j ))
  rw [if_neg c9] at e23
  by_cases c10 : v = nI 10
  · rw [if_pos c10] at e23
    exact go e23 (lc_10 lv hi hL (j_tick j hz (xs (i + 1))))
  rw [if_neg c10] at e23
  by_cases c11 : v = nI 11
  · rw [if_pos c11] at e23
    exact go e23 (lc_11 lv hi hL (j_sort j (xs (i + 1))))
  rw [if_neg c11] at e23
  by_cases c12 : v = nI 12
  · rw [if_pos c12] at e23
    exact go e23 (lc_12 lv hi hL (j_deliver j (xs (i + 1)) (xs (i + 2))))
  rw [if_neg c12] at e23
  by_cases c13 : v = nI 13
  · rw [if_pos c13] at e23
    exact go e23 (lc_13 lv hi hL (j_moved j (xs (i + 1)) (xs (i + 2))))
  rw [if_neg c13] at e23
  by_cases c14 : v = nI 14
  · rw [if_pos c14] at e23
    exact go e23 (lc_14 lv hi hL (j_gone j (xs (i + 1)) (xs (i + 2))))
  rw [if_neg c14] at e23
  by_cases c15 : v = nI 15
  · rw [if_pos c15] at e23
    exact go e23 (lc_15 lv hi hL (j_prog j ))
  rw [if_neg c15] at e23
  by_cases c16 : v = nI 16
  · rw [if_pos c16] at e23
    exact go e23 (lc_16 lv hi hL (j_run j (xs (i + 1)) (xs (i + 2))))
  rw [if_neg c16] at e23
  by_cases c17 : v = nI 17
  · rw [if_pos c17] at e23
    exact go e23 (lc_17 lv hi hL hs (k_number j (xs (i + 1))))
  rw [if_neg c17] at e23
  by_cases c18 : v = nI 18
  · rw [if_pos c18] at e23
    exact go e23 (lc_18 lv hi hL hs (k_held j (xs (i + 1))))
  rw [if_neg c18] at e23
  by_cases c19 : v = nI 19
  · rw [if_pos c19] at e23
    exact go e23 (lc_19 lv hi hL hs (k_tray j (xs (i + 1)) (xs (i + 2))))
  rw [if_neg c19] at e23
  by_cases c20 : v = nI 20
  · rw [if_pos c20] at e23
    exact go e23 (lc_20 lv hi hL hs (k_place j (xs (i + 1)) (xs (i + 2))))
  rw [if_neg c20] at e23
  by_cases c21 : v = nI 21
  · rw [if_pos c21] at e23
    exact go e23 (lc_21 lv hi hL hs (k_item j (xs (i + 1)) (xs (i + 2))))
  rw [if_neg c21] at e23
  by_cases c22 : v = nI 22
  · rw [if_pos c22] at e23
    exact go e23 (lc_22 lv hi hL (j_shelf j (xs (i + 1)) (xs (i + 2))))
  rw [if_neg c22] at e23
  by_cases c23 : v = nI 23
  · rw [if_pos c23] at e23
    exact go e23 (lc_23 lv hi hL (j_bag j (xs (i + 1)) (xs (i + 2))))
  rw [if_neg c23] at e23
  by_cases c24 : v = nI 24
  · rw [if_pos c24] at e23
    exact go e23 (lc_24 lv hi hL (j_count j (xs (i + 1))))
  rw [if_neg c24] at e23
  refine go e23 ⟨h, ?_, j.up (by omega) (by omega) (by omega), lv⟩
  rw [lp_1312, nI_add]
theorem small_L {L i : Nat} (h : L < i + 7) (hi : i < 2 ^ 31) (hL : L < 2 ^ 31) : nI L - nI 7 < nI i := by
  by_cases q : 7 ≤ L
  · rw [show nI L - nI 7 = nI (L - 7) from pk_sub (by omega)]; exact nI_lt (by omega) hi
  · have s : ∀ L, L < 7 → nI L - nI 7 < nI 0 := by decide
    have t := s L (by omega)
    by_cases z : i = 0
    · rw [z]; exact t
    · exact Int32.lt_trans t (nI_lt (by omega) hi)
theorem mq (a b n : Nat) : a + b + b * n = a + b * (n + 1) := by rw [Nat.mul_succ, Nat.add_assoc, Nat.add_comm b]
theorem all_calls : ∀ (n i : Nat) (h : AH) (P Q Z : Nat), JI h P Q Z → LV L xs h → Z + 3000 * n ≤ 500000000 → i + 7 * n ≤ L → L < i + 7 * n + 7 → L ≤ 3584 → ∃ hE, LQ d 23 [some (.ref 63), some (.ref 100), some (.ref 189), some (.ref 295), some (.int (nI i)), none, none, none] [] h = some (some (.int (nI 1)), hE) ∧ JI hE (P + 7000 * n) (Q + 1000 * n) (Z + 3000 * n)
  | 0, i, h, P, Q, Z, j, lv, hz, h1, h2, hL => by
    refine ⟨h, ?_, j⟩
    rw [lp_23, if_pos (by rw [lv.c63]; decide), lv.k63, if_pos (small_L (by omega) (by omega) (by omega))]
  | n + 1, i, h, P, Q, Z, j, lv, hz, h1, h2, hL => by
    have q1 : i + 7 ≤ L := by omega
    have q2 : L < 2 ^ 31 := Nat.lt_of_le_of_lt hL (by decide)
    rw [← mq] at hz
    have q3 : Z + 3000 ≤ 500000000 := Nat.le_trans (Nat.le_add_right _ _) hz
    obtain ⟨g, a1, a2, a3⟩ := one_call (d := d) lv j q1 q2 (Nat.lt_of_le_of_lt q3 (by decide))
    obtain ⟨hE, b1, b2⟩ := all_calls n (i + 7) g _ _ _ a2 a3 hz (by omega) (by omega) hL
    rw [mq, mq, mq] at b2
    exact ⟨hE, a1.trans b1, b2⟩
theorem JI.room (j : JI h P Q Z) : gS h ≤ P + 110000 ∧ gN h ≤ Q + 30000 := by
  obtain ⟨b, bk, s, G, Cp, v, t, fd, ff, md, sd, x0, y0, hp, u, i1, i2, i3, i4, i5, i6, i7⟩ := j
  have k1 := csm_cap i1.2.2.1
  have k2 := i1.2.1.1
  have k3 : Cp 9 0 ≤ 410 ∧ Cp 9 1 ≤ 410 := ⟨i1.2.2.1 0 (by decide) (Or.inl (by decide)), i1.2.2.1 1 (by decide) (Or.inl (by decide))⟩
  constructor
  · omega
  · omega
/-- the whole run, from the law's entry -/
theorem law_run (L : Nat) (xs : Nat → Int32) (nl : Nat) (hL : L ≤ 3584) : ∃ (N : Nat) (hE : AH), rnL (evM cdF mL N 340) (wcf 339) (cdR ld) N 0 (pdL (arL [.ref 63]) 8) [] (h0 L xs nl) = some (some (.int 1), hE) ∧ gN hE - 100 ≤ 601024 ∧ gS hE ≤ 7293034 := by
  obtain ⟨H1, H2, a1, a2, a3, a4, a5, j⟩ := ji_first (d := 334) (L := L) (xs := xs) (nl := nl)
  have lv0 : LV L xs (nwA H2 61 1) := by
    have g0 : 100 ≤ gN (nwO (h0 L xs nl) 13 10) := by show 100 ≤ 100 + 1; omega
    have m1 := E_mx a1
    have m2 := E_mx a2
    have n1 := E_m3 a1 g0
    have q1 : gN (nwO (h0 L xs nl) 13 10) = 101 := rfl
    have q2 : gN (nwO H1 14 152) = 190 := by show gN H1 + 1 = 190; rw [a3]
    have g1 : 100 ≤ gN (nwO H1 14 152) := by omega
    have n2 := E_m3 a2 g1
    have c1 : ∀ x, x < 101 → gC H2 x = gC (nwO (h0 L xs nl) 13 10) x ∧ gK H2 x = gK (nwO (h0 L xs nl) 13 10) x := fun x hx => by
      have u := m1.2.2 x (by omega)
      have w := m2.2.2 x (by omega)
      have e1 : gC (nwO H1 14 152) x = gC H1 x := by show (if x = gN H1 then 14 else gC H1 x) = gC H1 x; rw [if_neg (by omega)]
      have e2 : gK (nwO H1 14 152) x = gK H1 x := by show (if x = gN H1 then 0 else gK H1 x) = gK H1 x; rw [if_neg (by omega)]
      exact ⟨w.1.trans (e1.trans u.1), w.2.trans (e2.trans u.2)⟩
    have z : ∀ x, x < 295 → gC (nwA H2 61 1) x = gC H2 x ∧ gK (nwA H2 61 1) x = gK H2 x := fun x hx => ⟨by show (if x = gN H2 then 61 else gC H2 x) = gC H2 x; rw [if_neg (by omega)], by show (if x = gN H2 then 1 else gK H2 x) = gK H2 x; rw [if_neg (by omega)]⟩
    refine ⟨by show 296 ≤ gN H2 + 1; omega, ?_, ?_, ?_, ?_, ?_, ?_, ?_⟩
    · rw [(z 63 (by decide)).1, (c1 63 (by decide)).1]; rfl
    · rw [(z 63 (by decide)).2, (c1 63 (by decide)).2]; rfl
    · have e3 : gA (nwA H2 61 1) 63 = gA H2 63 := by show (if (63 : Nat) = gN H2 then (fun _ => 0) else gA H2 63) = gA H2 63; rw [if_neg (by omega)]
      have e4 : gA (nwO H1 14 152) 63 = gA H1 63 := by show (if (63 : Nat) = gN H1 then (fun _ => 0) else gA H1 63) = gA H1 63; rw [if_neg (by omega)]
      rw [e3, n2.2, e4, n1.2]; rfl
    · rw [(z 100 (by decide)).1, (c1 100 (by decide)).1]; exact a5
    · rw [(z 189 (by decide)).1, (m2.2.2 189 (by omega)).1]
      show (if (189 : Nat) = gN H1 then 14 else gC H1 189) = 14
      rw [if_pos a3.symm]
    · show (if (295 : Nat) = gN H2 then 61 else gC H2 295) = 61
      rw [if_pos a4.symm]
    · show (if (295 : Nat) = gN H2 then 1 else gK H2 295) = 1
      rw [if_pos a4.symm]
  have hn : L / 7 ≤ 512 := by omega
  obtain ⟨hE, b1, b2⟩ := all_calls (d := 0) (L / 7) 0 _ _ _ _ j lv0 (Nat.le_trans (Nat.add_le_add_left (Nat.mul_le_mul_left 3000 hn) 0) (by decide)) (by omega) (by omega) hL
  have a1' : E (0 + 340) 0 [.ref 100] (nwO (h0 L xs nl) 13 10) = some (none, H1) := a1
  have a2' : E (0 + 340) 1 [.ref 189] (nwO H1 14 152) = some (none, H2) := a2
  have e : LQ 0 0 [some (.ref 63), none, none, none, none, none, none, none] [] (h0 L xs nl) = some (some (.int (nI 1)), hE) := by
    rw [lp_0, show gN (h0 L xs nl) = 100 from rfl, lp_3, a1', cK_n, lp_7, a3, lp_11, a2', cK_n, lp_15, a4, lp_19]
    exact b1
  obtain ⟨N, q⟩ := (lm_iff (rnL_up 0 _ _ _)).mp e
  obtain ⟨r1, r2⟩ := (b2.up (Nat.add_le_add_left (Nat.mul_le_mul_left 7000 hn) _) (Nat.add_le_add_left (Nat.mul_le_mul_left 1000 hn) _) (Nat.le_refl _)).room
  refine ⟨N, hE, ?_, Nat.le_trans (Nat.sub_le _ _) (Nat.le_trans r2 (by decide)), Nat.le_trans r1 (by decide)⟩
  exact q
end LWL
