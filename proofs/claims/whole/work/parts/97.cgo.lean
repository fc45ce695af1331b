/-! ===== MINUTES: the component, items go ===== -/
section CMN2
variable {d : Nat} {b : Nat} {bk : Bk}
/-- an item comes into a coach, and is due -/
theorem c_go {h : AH} {s : St} {G : Nat → Nat → Nat} (hs : Sh h) (C1 : CS1 h bk s G) {i o due : Nat} {c : Option Nat} (hi : i < zN s 2) : ∃ h', E (d + 1) 257 [.ref (G 4 i), .int (nI 2), .int (nI o), .int (oI c), .int (nI (zN s 0))] h = some (none, h') ∧ Fr [1288, 1289, 1290, 1293] [] h h' ∧ CS1 (sI h' 1294 (G 4 i) (nI due)) bk (stI (cmS s i 2 o c) 9 i due) G := by
  have a1 := (C1.2.2.2 i hi).1
  rw [t_257 hs, ck_ok a1, ck_ok a1, ck_ok a1, ck_ok a1]
  have f : Fr [1288, 1289, 1290, 1293] [] h (sI (sI (sI (sI h 1288 (G 4 i) (nI 2)) 1289 (G 4 i) (nI o)) 1290 (G 4 i) (oI c)) 1293 (G 4 i) (nI (zN s 0))) := (((Fr.rfl.sI (by decide)).sI (by decide)).sI (by decide)).sI (by decide)
  refine ⟨_, rfl, f, C1.1, C1.2.1, C1.2.2.1, fun j hj => ?_⟩
  obtain ⟨b1, b2, b3, b4, b5, b6, b7, b8, b9, b10, b11, b12, b13, b14, b15, b16⟩ := C1.2.2.2 j hj
  have inj : j ≠ i → G 4 j ≠ G 4 i := fun q w => q (C1.2.2.1 j i hj hi w)
  refine ⟨b1, b2, b3, b4, b5, b6, b7, b8, b9, ?_, ?_, ?_, b13, b14, ?_, fun q => ?_⟩
  · show up2 (gI h) 1288 (G 4 i) (nI 2) 1288 (G 4 j) = nI (up2 (iN s) 5 i 2 5 j)
    by_cases q : j = i
    · rw [q, up2_s, up2_s]
    · rw [up2_x q, up2_x (inj q)]; exact b10
  · show up2 (gI h) 1289 (G 4 i) (nI o) 1289 (G 4 j) = nI (up2 (up2 (iN s) 5 i 2) 6 i o 6 j)
    by_cases q : j = i
    · rw [q, up2_s, up2_s]
    · rw [up2_x q, up2_x (inj q), up2_k (by decide)]; exact b11
  · show up2 (gI h) 1290 (G 4 i) (oI c) 1290 (G 4 j) = oI (up1 (iC s) i c j)
    by_cases q : j = i
    · rw [q, up2_s, up1_s]
    · rw [up1_x q, up2_x (inj q)]; exact b12
  · show up2 (gI h) 1293 (G 4 i) (nI (zN s 0)) 1293 (G 4 j) = nI (up2 (up2 (up2 (iN s) 5 i 2) 6 i o) 8 i (zN s 0) 8 j)
    by_cases q : j = i
    · rw [q, up2_s, up2_s]
    · rw [up2_x q, up2_x (inj q), up2_k (by decide), up2_k (by decide)]; exact b15
  · show up2 (gI h) 1294 (G 4 i) (nI due) 1294 (G 4 j) = nI (up2 (iN (cmS s i 2 o c)) 9 i due 9 j)
    by_cases q1 : j = i
    · rw [q1, up2_s, up2_s]
    · rw [up2_x (inj q1), up2_x q1]
      have q : up2 (iN (cmS s i 2 o c)) 9 i due 5 j = 2 := q
      rw [up2_k (by decide), (cm_n q1).1] at q
      rw [(cm_n q1).1]; exact b16 q
/-- the coach c is at the door: k items are in, these may still get in -/
theorem go_lp (W : WB bk) {c : Nat} (hc : c < bk 0 3) {g : List Nat} : ∀ (ys : List Nat) (k : Nat) (h : AH) (s : St) (G Cp : Nat → Nat → Nat) (rl : List Nat), CSt h b bk (stT s [(0, 0, rl)]) G Cp → WSc bk s rl → capB bk s Cp → sG s c = ys ++ g → 1 ≤ zN s 0 → tbC bk c (zN s 0 - 1) = zN s 0 → k + ys.length ≤ bk 31 c → (k + ys.length = bk 31 c ∨ g = []) →
    ∃ h' G' Cp', Q (d + 7) 252 33 [some (.ref 156), some (.int (nI c)), some (.ref (G 3 c)), some (.int (nI k)), none] [] h = Q (d + 7) 252 2 [some (.ref 156), some (.int (nI (c + 1))), none, none, none] [] h' ∧ CSt h' b bk (stT (stG (dpL bk c ys s) c g) [(0, 0, rl ++ ys)]) G' Cp' ∧ RM h Cp h' Cp' ∧ capB bk (stG (dpL bk c ys s) c g) Cp' ∧ (∀ j, j ≠ 9 → G' j = G j) ∧ GFc h h'
  | [], k, h, s, G, Cp, rl, C, w, hcb, hg, hz, ht, hk, hk2 => by
    have w3 := W.1.2.2.2.1
    have wz := w.2.1
    obtain ⟨-, -, -, -, -, -, u7, u8, u9, u10⟩ := W.2.2.2.2.2 c hc
    obtain ⟨hs, hw, hb, B, C1, C2⟩ := id C
    obtain ⟨d1, d2, d3, d4, d5, d6, d7, d8, d9⟩ := B.2.2.2.2.2.2.2 c hc
    have A := C2.2.2 (30 + c) (Or.inr (Or.inr ⟨by omega, by omega⟩)) (Or.inr (by omega))
    rw [lX_bg, lo_bg] at A
    have hg' : sG (stT s [(0, 0, rl)]) c = g := hg
    rw [hg'] at A
    have cz : gI h 2051 156 = nI (zN s 0 - 1 + 1) := by rw [Nat.sub_add_cancel hz]; exact C1.1
    refine ⟨h, G, Cp, ?_, ?_, RM.rfl rfl, ?_, fun _ _ => rfl, GF.rfl⟩
    · rw [t_252_33 hs, ck_ok d1, cz, c_goesAt hs W B hc (by omega), if_pos (by omega), cK_v, t_252_41 hs, if_neg (by decide), ck_ok d1, d8]
      rcases hk2 with q | q
      · have : k = bk 31 c := q
        rw [if_neg (nI_nlt (by omega) (by omega)), nI_add]
      · by_cases q2 : k < bk 31 c
        · rw [if_pos (nI_lt q2 (by omega)), ck_ok d1, d9, Option.bind_some, ck_ok A.1, al_empty hs A, if_pos (by rw [q]; rfl), cK_v, t_252_59 hs, if_neg (by decide), nI_add]
        · rw [if_neg (nI_nlt (by omega) (by omega)), nI_add]
    · rw [List.append_nil]
      show CSt h b bk (stT (stG s c g) [(0, 0, rl)]) G Cp
      rw [stG_id (show sG s c = g from hg)]; exact C
    · show capB bk (stG s c g) Cp
      exact hcb
  | i :: ys, k, h, s, G, Cp, rl, C, w, hcb, hg, hz, ht, hk, hk2 => by
    have w3 := W.1.2.2.2.1
    have w0 := W.1.1
    have wz := w.2.1
    have w1 := w.1
    obtain ⟨v1, v2, -, -, -, -, u7, u8, u9, u10⟩ := W.2.2.2.2.2 c hc
    rw [List.length_cons] at hk hk2
    obtain ⟨hs, hw, hb, B, C1, C2⟩ := id C
    obtain ⟨d1, d2, d3, d4, d5, d6, d7, d8, d9⟩ := B.2.2.2.2.2.2.2 c hc
    have A := C2.2.2 (30 + c) (Or.inr (Or.inr ⟨by omega, by omega⟩)) (Or.inr (by omega))
    rw [lX_bg, lo_bg] at A
    have hg' : sG (stT s [(0, 0, rl)]) c = i :: (ys ++ g) := hg
    rw [hg'] at A
    have im : i ∈ sG s c := by rw [hg]; exact List.mem_cons_self
    obtain ⟨il, i5, iC1⟩ := ((w.2.2.2.2.2.1 c).2 i).mp im
    have ci := C1.2.2.2 i il
    have cz : gI h 2051 156 = nI (zN s 0 - 1 + 1) := by rw [Nat.sub_add_cancel hz]; exact C1.1
    -- out of the bag
    obtain ⟨h1, a1, a2, a3, a4⟩ := c_rmL (d := d + 3) C (s' := stT (stG s c (ys ++ g)) [(0, 0, rl)]) (r0 := 30 + c) (k := 0) (Or.inr (Or.inr ⟨by omega, by omega⟩)) (Or.inr (by omega)) (by rw [lX_bg, hg']; exact Nat.succ_pos _) (by
      rw [lX_bg, lX_bg, hg']
      show up1 (sG s) c (ys ++ g) c = _
      rw [up1_s]; rfl) (fun r q => lX_G (s := stT s [(0, 0, rl)]) q) (fun h' q => q)
    rw [lX_bg, hg', lo_bg] at a1
    have a1 : E (d + 7) 256 [.ref (G 6 c), .int (nI 0)] h = some (some (.ref (G 4 i)), h1) := a1
    obtain ⟨hs1, hw1, hb1', B1, C11, C21⟩ := id a2
    obtain ⟨e1, e2, e3, e4, e5, e6, e7, e8, e9⟩ := B1.2.2.2.2.2.2.2 c hc
    -- into the coach
    obtain ⟨h2, x1, x2, x3⟩ := c_go (d := d + 6) (o := bk 26 c) (c := some c) (due := zN s 0 + bk 30 c) hs1 C11 il
    have f2 : Fr [1288, 1289, 1290, 1293, 1294] [] h1 (sI h2 1294 (G 4 i) (nI (zN s 0 + bk 30 c))) := (x2.wk (by decide) (by decide)).sI (by decide)
    have Cb : CSt (sI h2 1294 (G 4 i) (nI (zN s 0 + bk 30 c))) b bk (stI (cmS (stT (stG s c (ys ++ g)) [(0, 0, rl)]) i 2 (bk 26 c) (some c)) 9 i (zN s 0 + bk 30 c)) G Cp := a2.fr f2 (by decide) (by decide) (fun r => rfl) x3
    have hs2 := x2.sh hs1
    have rn : i ∉ rl := fun q => by
      have := ((w.2.2.2.2.2.2.1.2 i).mp q).2
      omega
    have hl2 : rl.length < zN s 2 := by
      have := nd_len (zN s 2) (i :: rl) (List.nodup_cons.mpr ⟨rn, w.2.2.2.2.2.2.1.1⟩) fun x hx => by
        rcases List.mem_cons.mp hx with rfl | hx
        · exact il
        · exact ((w.2.2.2.2.2.2.1.2 x).mp hx).1
      rw [List.length_cons] at this
      omega
    obtain ⟨h3, G', Cp', y1, y2, y3, y4, y5, y6⟩ := c_add (d := d) Cb hcb (r0 := 1) (i := i) (s' := stT (stI (cmS (stG s c (ys ++ g)) i 2 (bk 26 c) (some c)) 9 i (zN s 0 + bk 30 c)) [(0, 0, rl ++ [i])]) (Or.inl (by decide)) (Or.inl (by decide)) il rfl (by decide) (by rw [lX_1]; show (rid (stT s [(0, 0, rl)])).length < _; rw [rid1]; exact hl2) w.1 (by
        rw [lX_1, lX_1, rid1]
        show rl ++ [i] = rid (stT s [(0, 0, rl)]) ++ [i]
        rw [rid1]) (fun r q => by
        rw [lX_T q]
        exact (lX_T (s := stI (cmS (stG s c (ys ++ g)) i 2 (bk 26 c) (some c)) 9 i (zN s 0 + bk 30 c)) (l := [(0, 0, rl)]) q).symm) (fun h' G' e4 q => q.nums e4 rfl)
    obtain ⟨hs3, hw3, hb3, B3, C13, C23⟩ := id y2
    have g4 : G' 4 = G 4 := y5 4 (by decide)
    have g3 : G' 3 = G 3 := y5 3 (by decide)
    obtain ⟨k1, k2, -⟩ := B3.2.2.2.2.2.2.2 c hc
    rw [g3] at k1 k2
    have wi3 : WI bk (stT (stI (cmS (stG s c (ys ++ g)) i 2 (bk 26 c) (some c)) 9 i (zN s 0 + bk 30 c)) [(0, 0, rl ++ [i])]) := w.i
    obtain ⟨h4, z1, z2, z3⟩ := c_log (d := d + 6) (wh := 2) (o := bk 25 c) (i := i) hs3 W wi3 C13 il (by decide) (by omega)
    have es : ntS bk (stT (stI (cmS (stG s c (ys ++ g)) i 2 (bk 26 c) (some c)) 9 i (zN s 0 + bk 30 c)) [(0, 0, rl ++ [i])]) i 2 (bk 25 c) = stT (stG (dpJ bk c s i) c (ys ++ g)) [(0, 0, rl ++ [i])] := by
      rw [ntS_T, ← dpJ_G]; rfl
    have Cd : CSt h4 b bk (stT (stG (dpJ bk c s i) c (ys ++ g)) [(0, 0, rl ++ [i])]) G' Cp' := by
      rw [← es]
      exact y2.fr z2 (by decide) (by decide) (fun r => lX_nt i 2 (bk 25 c) r) z3
    obtain ⟨j1, j2, j3, j4, j5, j6, j7, j8, j9, j10, j11, j12, j13, j14, j15⟩ := dpJ_f (bk := bk) (s := s) c i
    have zz : zN (stG (dpJ bk c s i) c (ys ++ g)) 0 = zN s 0 := j12
    obtain ⟨h5, G2, Cp2, q1, q2, q3, q4, q5, q6⟩ := go_lp W hc (g := g) ys (k + 1) h4 (stG (dpJ bk c s i) c (ys ++ g)) G' Cp' (rl ++ [i]) Cd (w.dp W hc hg) (fun r r1 r2 => by
      show lc Cp' r ≤ cbd (zN (dpJ bk c s i) 2) r
      rw [j13]; exact y4 r r1 r2) up1_s (by rw [zz]; exact hz) (by rw [zz]; exact ht) (by omega) (hk2.imp (fun q => by omega) id)
    rw [dpL_G, stG_G, List.append_assoc] at q2
    rw [dpL_G, stG_G] at q4
    refine ⟨h5, G2, Cp2, ?_, q2, ((RM.rfl a3).trans (RM.rfl f2.1)).trans ((y3.trans (RM.rfl z2.1)).trans q3), q4, fun j q => (q5 j q).trans (y5 j q), a4.trans ((f2.gfc (by decide)).trans ((gfc_l y6).trans ((z2.gfc (by decide)).trans q6)))⟩
    rw [g4] at z1
    rw [show lo G 1 = 165 from rfl] at y1
    have x1' : E (d + 7) 257 [.ref (G 4 i), .int (nI 2), .int (nI (bk 26 c)), .int (nI c), .int (nI (zN s 0))] h1 = some (none, h2) := x1
    have cz1 : gI h1 2051 156 = nI (zN s 0) := C11.1
    have gA1 : (if (0 : Nat) < (ys ++ g).length + 1 then True else False) := by rw [if_pos (Nat.succ_pos _)]; trivial
    have cz2 : gI h2 2051 156 = nI (zN s 0) := by rw [x2.I (by decide)]; exact cz1
    have h773 : gI h2 773 (G 3 c) = nI (bk 30 c) := by rw [x2.I (by decide)]; exact e7
    have hC2 : gC h2 = gC h1 := x2.2.1
    have hlA : (i :: (ys ++ g)).length ≤ 100000 := by
      obtain ⟨-, -, -, -, -, a6, a7, -⟩ := A
      omega
    have ag := al_get (d := d + 4) hs A (i := 0) (by rw [List.length_cons]; omega)
    have ag : E (d + 7) 212 [.ref (G 6 c), .int (nI 0)] h = some (some (.ref (G 4 i)), h) := ag
    rw [t_252_33 hs, ck_ok d1, cz, c_goesAt hs W B hc (by omega), if_pos (by omega), cK_v, t_252_41 hs, if_neg (by decide), ck_ok d1, d8, if_pos (nI_lt (by omega) (by omega)), ck_ok d1, d9, Option.bind_some, ck_ok A.1, al_empty hs A, if_neg (by rw [List.length_cons]; omega), cK_v, t_252_59 hs, if_pos rfl, ck_ok d1, d9, Option.bind_some, ck_ok A.1, ag, cK_v, t_252_70 hs, ck_ok ci.1, ck_ok d1, d9, Option.bind_some, ck_ok A.1, a1, cK_v, t_252_83 hs1, ck_ok e1, ck_ok (C11.2.2.2 i il).1, e3, cz1, x1', cK_n, t_252_99 hs2, ck_ok (by rw [hC2]; exact e1), ck_ok (by rw [hC2]; exact (C11.2.2.2 i il).1), cz2, h773, nI_add, y1, cK_v, t_252_122 hs3, ck_ok k1, k2, z1, cK_n, t_252_134 (z2.sh hs3), nI_add]
    rw [g3] at q1
    exact q1
theorem c_letGo_lp (W : WB bk) : ∀ (m c : Nat) (h : AH) (s : St) (G Cp : Nat → Nat → Nat), c + m = bk 0 3 → CSt h b bk s G Cp → WS bk s → capB bk s Cp → 1 ≤ zN s 0 → (∀ t, t ∈ sT s → c ≤ t.1 → t.2.1 < zN s 0 + bk 30 t.1) →
    ∃ h' G' Cp', Q (d + 7) 252 2 [some (.ref 156), some (.int (nI c)), none, none, none] [] h = some (none, h') ∧ CSt h' b bk (goF bk m c s) G' Cp' ∧ RM h Cp h' Cp' ∧ capB bk (goF bk m c s) Cp' ∧ (∀ j, j ≠ 9 → G' j = G j) ∧ GFc h h'
  | 0, c, h, s, G, Cp, e, C, w, hcb, hz, hl => by
    have w3 := W.1.2.2.2.1
    obtain ⟨hs, hw, hb, B, C1, C2⟩ := id C
    obtain ⟨p3, q3⟩ := B.2.2.1 3 (by decide)
    refine ⟨h, G, Cp, ?_, C, RM.rfl rfl, hcb, fun _ _ => rfl, GF.rfl⟩
    rw [t_252_2 hs, hb, Option.bind_some, ck_ok B.1, p3, Option.bind_some, ck_ok q3.1, al_size hs q3, cK_v, t_252_13 hs, if_neg (nI_nlt (by omega) (by omega))]
  | m + 1, c, h, s, G, Cp, e, C, w, hcb, hz, hl => by
    have w3 := W.1.2.2.2.1
    have wz := w.2.1
    have hc : c < bk 0 3 := by omega
    obtain ⟨hs, hw, hb, B, C1, C2⟩ := id C
    obtain ⟨p3, q3⟩ := B.2.2.1 3 (by decide)
    obtain ⟨d1, d2, d3, d4, d5, d6, d7, d8, d9⟩ := B.2.2.2.2.2.2.2 c hc
    obtain ⟨a1, a2, a3, a4⟩ := w.gc W hc hl
    obtain ⟨-, -, -, -, -, -, u7, u8, u9, u10⟩ := W.2.2.2.2.2 c hc
    have pre : Q (d + 7) 252 2 [some (.ref 156), some (.int (nI c)), none, none, none] [] h = Q (d + 7) 252 33 [some (.ref 156), some (.int (nI c)), some (.ref (G 3 c)), some (.int (nI 0)), none] [] h := by
      rw [t_252_2 hs, hb, Option.bind_some, ck_ok B.1, p3, Option.bind_some, ck_ok q3.1, al_size hs q3, cK_v, t_252_13 hs, if_pos (nI_lt hc (by omega)), hb, Option.bind_some, ck_ok B.1, p3, Option.bind_some, ck_ok q3.1, al_get hs q3 hc, cK_v, t_252_27 hs, ck_ok d1]
    have step : ∃ h1 G1 Cp1, Q (d + 7) 252 33 [some (.ref 156), some (.int (nI c)), some (.ref (G 3 c)), some (.int (nI 0)), none] [] h = Q (d + 7) 252 2 [some (.ref 156), some (.int (nI (c + 1))), none, none, none] [] h1 ∧ CSt h1 b bk (gcS bk c s) G1 Cp1 ∧ RM h Cp h1 Cp1 ∧ capB bk (gcS bk c s) Cp1 ∧ (∀ j, j ≠ 9 → G1 j = G j) ∧ GFc h h1 := by
      by_cases q2 : tbC bk c (zN s 0 - 1) = zN s 0
      · have ll2 : ((sG s c).take (bk 31 c)).length + ((sG s c).drop (bk 31 c)).length = (sG s c).length := by
          rw [← List.length_append, List.take_append_drop]
        have ll : ((sG s c).take (bk 31 c)).length = min (bk 31 c) (sG s c).length := List.length_take
        have C0 : CSt h b bk (stT s [(0, 0, rid s)]) G Cp := CSt.rd (l := sT s) C fmT1.symm
        obtain ⟨h1, G1, Cp1, b1, b2, b3, b4, b5, b6⟩ := go_lp (d := d) W hc (g := (sG s c).drop (bk 31 c)) ((sG s c).take (bk 31 c)) 0 h s G Cp (rid s) C0 w.c.1 hcb (List.take_append_drop _ _).symm hz q2 (by omega) (by
          by_cases q5 : bk 31 c ≤ (sG s c).length
          · exact Or.inl (by omega)
          · exact Or.inr (List.length_eq_zero_iff.mp (by omega)))
        by_cases hg : sG s c = []
        · have eg : gcS bk c s = s := if_neg fun w => w.1 hg
          rw [eg]
          rw [hg, List.take_nil, List.drop_nil, List.append_nil] at b2
          rw [hg, List.take_nil, List.drop_nil] at b4
          refine ⟨h1, G1, Cp1, b1, ?_, b3, ?_, b5, b6⟩
          · have b2 : CSt h1 b bk (stT (stG s c []) [(0, 0, rid s)]) G1 Cp1 := b2
            rw [stG_id hg] at b2
            exact CSt.rd (l' := sT s) b2 fmT1
          · have b4 : capB bk (stG s c []) Cp1 := b4
            rw [stG_id hg] at b4; exact b4
        · have eg : gcS bk c s = dpS bk c s := if_pos ⟨hg, q2⟩
          rw [eg]
          refine ⟨h1, G1, Cp1, b1, CSt.rd (s := stG (dpL bk c ((sG s c).take (bk 31 c)) s) c ((sG s c).drop (bk 31 c))) b2 ?_, b3, b4, b5, b6⟩
          rw [fmT1, List.flatMap_append, fmT1]; rfl
      · have eg : gcS bk c s = s := if_neg fun w => q2 w.2
        have cz : gI h 2051 156 = nI (zN s 0 - 1 + 1) := by rw [Nat.sub_add_cancel hz]; exact C1.1
        refine ⟨h, G, Cp, ?_, by rw [eg]; exact C, RM.rfl rfl, by rw [eg]; exact hcb, fun _ _ => rfl, GF.rfl⟩
        rw [t_252_33 hs, ck_ok d1, cz, c_goesAt hs W B hc (by omega), if_neg (by omega), cK_v, t_252_41 hs, if_pos rfl, nI_add]
    obtain ⟨h1, G1, Cp1, b1, b2, b3, b4, b5, b6⟩ := step
    obtain ⟨h2, G2, Cp2, c1, c2, c3, c4, c5, c6⟩ := c_letGo_lp W m (c + 1) h1 (gcS bk c s) G1 Cp1 (by omega) b2 a1 b4 (by omega) (fun t ht e => by rw [a2]; exact a4 t ht e)
    exact ⟨h2, G2, Cp2, (pre.trans b1).trans c1, c2, b3.trans c3, c4, fun j q => (c5 j q).trans (b5 j q), b6.trans c6⟩
end CMN2
