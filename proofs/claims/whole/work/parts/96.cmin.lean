/-! ===== MINUTES: the component, items come ===== -/
section CMN
variable {d : Nat} {b : Nat} {bk : Bk}
/-- a place of a list is taken out -/
theorem c_rmL {h : AH} {s s' : St} {G Cp : Nat → Nat → Nat} (C : CSt h b bk s G Cp) {r0 k : Nat} (hr : lV bk r0) (h0 : r0 < 2 ∨ 10 ≤ r0) (hk : k < (lX s r0).length) (hX0 : lX s' r0 = (lX s r0).eraseIdx k) (hX : ∀ r, r ≠ r0 → lX s' r = lX s r) (hS : ∀ h', CS1 h' bk s G → CS1 h' bk s' G) : ∃ h', E (d + 4) 256 [.ref (lo G r0), .int (nI k)] h = some (some (.ref (G 4 ((lX s r0).getD k 0))), h') ∧ CSt h' b bk s' G Cp ∧ h'.1 = h.1 ∧ GFc h h' := by
  obtain ⟨hs, hw, hb, B, C1, C2⟩ := id C
  have A := C2.2.2 r0 hr h0
  have O := C2.2.1 r0 hr
  obtain ⟨h', a1, a2, a3, a4, a5, a6⟩ := al_remove (d := d) hs A O.1 hk
  refine ⟨h', a1, ?_, Prod.ext a5 a6, gfc_l a3⟩
  have O' : AO h' (lo G r0) (la G r0) (lc Cp r0) := by
    obtain ⟨o1, o2, o3⟩ := O.1
    exact ⟨by rw [a5]; exact o1, by rw [a5]; exact o2, o3⟩
  refine C.one (G' := G) (Cp' := Cp) (e' := la G r0) (cap' := lc Cp r0) hr h0 (fun _ _ _ => ⟨rfl, rfl⟩) ⟨(la_r (Cp := Cp) h0).1.symm, (la_r (G := G) h0).2.symm⟩ a3 a4 ((E_mx a1).1 hw) ?_ O' O.2 (Or.inl rfl) hX (hS h')
  rw [hX0, List.length_eraseIdx_of_lt hk]
  obtain ⟨c1, c2, c3, c4, c5, c6, c7, c8⟩ := a2
  refine ⟨c1, c2, c3, c4, c5, c6, c7, fun j hj => ?_⟩
  rw [c8 j hj]
  have hj2 : j < ((lX s r0).eraseIdx k).length := by rw [List.length_eraseIdx_of_lt hk]; exact hj
  dsimp only
  rw [getD_ix hj2, List.getElem_eraseIdx]
  by_cases q3 : j < k
  · rw [if_pos q3, dif_pos q3, getD_ix (by omega)]
  · rw [if_neg q3, dif_neg q3, getD_ix (by omega)]
/-- only the riding items of the trips are seen -/
theorem lX_T {s : St} {l : List (Nat × Nat × List Nat)} {r : Nat} (q : r ≠ 1) : lX (stT s l) r = lX s r := by
  unfold lX
  by_cases q1 : r = 0
  · rw [if_pos q1, if_pos q1]; rfl
  · rw [if_neg q1, if_neg q1, if_neg q, if_neg q]; rfl
theorem lX_1 {s : St} : lX s 1 = rid s := rfl
theorem CSt.rd {h : AH} {s : St} {G Cp : Nat → Nat → Nat} {l l' : List (Nat × Nat × List Nat)} (C : CSt h b bk (stT s l) G Cp) (e : (l.flatMap fun t => t.2.2) = l'.flatMap fun t => t.2.2) : CSt h b bk (stT s l') G Cp := by
  obtain ⟨hs, hw, hb, B, C1, C2⟩ := C
  refine ⟨hs, hw, hb, B, C1, C2.1, C2.2.1, fun r q1 q2 => ?_⟩
  have : lX (stT s l') r = lX (stT s l) r := by
    by_cases q : r = 1
    · rw [q]; exact e.symm
    · rw [lX_T q, lX_T q]
  rw [this]; exact C2.2.2 r q1 q2
theorem fmT1 {l : List Nat} {a c : Nat} : ([(a, c, l)].flatMap fun t : Nat × Nat × List Nat => t.2.2) = l := by
  show l ++ [] = l
  exact List.append_nil l
theorem rid1 {s : St} {l : List Nat} {a c : Nat} : rid (stT s [(a, c, l)]) = l := fmT1
/-- the riding items from a place on: those that are due come -/
theorem come_lp (W : WB bk) : ∀ (rest kept : List Nat) (h : AH) (s : St) (G Cp : Nat → Nat → Nat) (rl : List Nat), CSt h b bk (stT s [(0, 0, kept ++ rest)]) G Cp → WSc bk s rl → capB bk s Cp → rest.Nodup → (∀ i, i ∈ rest → i ∈ rl ∧ iN s 9 i < 2 ^ 31) →
    ∃ h' G' Cp', Q (d + 7) 251 10 [some (.ref 156), some (.int (nI kept.length)), some (.int (nI rest.length)), none] [] h = some (none, h') ∧ CSt h' b bk (stT (avL bk rest s) [(0, 0, kept ++ rest.filter fun i => decide (iN s 9 i ≠ zN s 0))]) G' Cp' ∧ RM h Cp h' Cp' ∧ capB bk (avL bk rest s) Cp' ∧ (∀ j, j ≠ 9 → G' j = G j) ∧ GFc h h'
  | [], kept, h, s, G, Cp, rl, C, w, hcb, nd, hr => by
    refine ⟨h, G, Cp, ?_, C, RM.rfl rfl, hcb, fun _ _ => rfl, GF.rfl⟩
    rw [t_251_10 C.1, if_neg (by decide)]
  | i :: rest, kept, h, s, G, Cp, rl, C, w, hcb, nd, hr => by
    obtain ⟨n1, n2⟩ := List.nodup_cons.mp nd
    have w0 := W.1.1
    have wz := w.2.1
    obtain ⟨hi1, hi2⟩ := hr i List.mem_cons_self
    obtain ⟨il, i5⟩ := (w.2.2.2.2.2.2.1.2 i).mp hi1
    have wi := w.2.2.2.1 i il
    have ho := wi.2.2.2.2.2.2.2.2.1
    obtain ⟨hs, hw, hb, B, C1, C2⟩ := id C
    have A : Ar h 165 (la G 1) (lc Cp 1) (kept ++ i :: rest).length (fun k => G 4 ((kept ++ i :: rest).getD k 0)) := by
      have := C2.2.2 1 (Or.inl (by decide)) (Or.inl (by decide))
      rw [lX_1, rid1] at this
      exact this
    have ll : (kept ++ i :: rest).length = kept.length + (rest.length + 1) := by rw [List.length_append, List.length_cons]
    have lb : (kept ++ i :: rest).length ≤ 100000 := by
      obtain ⟨-, -, -, -, -, a6, a7, -⟩ := A
      omega
    have hk : kept.length < (kept ++ i :: rest).length := by omega
    have ei : (kept ++ i :: rest).getD kept.length 0 = i := by
      rw [getD_ix hk, List.getElem_append_right (Nat.le_refl _)]
      simp
    have ci := C1.2.2.2 i il
    have c9 : gI h 1294 (G 4 i) = nI (iN s 9 i) := ci.2.2.2.2.2.2.2.2.2.2.2.2.2.2.2 i5
    have cz : gI h 2051 156 = nI (zN s 0) := C1.1
    have pre : Q (d + 7) 251 10 [some (.ref 156), some (.int (nI kept.length)), some (.int (nI (i :: rest).length)), none] [] h = (if iN s 9 i = zN s 0 then cK (E (d + 7) 256 [.ref 165, .int (nI kept.length)] h) (Q (d + 7) 251 45 [some (.ref 156), some (.int (nI kept.length)), some (.int (nI (rest.length + 1))), some (.ref (G 4 i))]) [] else Q (d + 7) 251 10 [some (.ref 156), some (.int (nI (kept.length + 1))), some (.int (nI rest.length)), none] [] h) := by
      rw [t_251_10 hs, List.length_cons, if_pos (nI_lt (by omega) (by omega)), al_get hs A hk, cK_v, ei, t_251_22 hs, ck_ok ci.1, ck_ok ci.1, c9, cz, nI_add, m1]
      simp only [show (nI (iN s 9 i) = nI (zN s 0)) = (iN s 9 i = zN s 0) from propext (nI_eq (by omega) (by omega))]
    rw [pre]
    by_cases q : iN s 9 i = zN s 0
    · rw [if_pos q]
      obtain ⟨h1, a1, a2, a3, a4⟩ := c_rmL (d := d + 3) C (s' := stT s [(0, 0, kept ++ rest)]) (r0 := 1) (k := kept.length) (Or.inl (by decide)) (Or.inl (by decide)) (by rw [lX_1, rid1]; exact hk) (by
        rw [lX_1, lX_1, rid1, rid1, List.eraseIdx_append_of_length_le (Nat.le_refl _), Nat.sub_self]; rfl) (fun r q => by rw [lX_T q, lX_T q]) (fun h' q => q)
      rw [lX_1, rid1, ei] at a1
      obtain ⟨hs1, hw1, hb1', B1, C11, C21⟩ := id a2
      obtain ⟨h2, x1, x2, x3⟩ := c_comes (d := d + 6) (wh := 0) (o := iN s 6 i) (c := none) hs1 C11 il (by decide)
      have Cb : CSt h2 b bk (cmS (stT s [(0, 0, kept ++ rest)]) i 0 (iN s 6 i) none) G Cp := a2.fr x2 (by decide) (by decide) (fun r => rfl) x3
      obtain ⟨hs2, hw2, hb2, B2, C12, C22⟩ := id Cb
      have hl2 := w.lt hi1 (iN s 6 i)
      obtain ⟨h3, G', Cp', y1, y2, y3, y4, y5, y6⟩ := c_add (d := d) Cb hcb (r0 := 10 + iN s 6 i) (i := i) (s' := cmS (stH (stT s [(0, 0, kept ++ rest)]) (iN s 6 i) (sH s (iN s 6 i) ++ [i])) i 0 (iN s 6 i) none) (Or.inr (Or.inl ⟨by omega, by omega⟩)) (Or.inr (by omega)) il rfl (by omega) (by rw [lX_sh (by omega)]; exact hl2) w.1 (by rw [lX_sh (by omega), lX_sh (by omega)]; exact up1_s) (fun r q => lX_H (s := cmS (stT s [(0, 0, kept ++ rest)]) i 0 (iN s 6 i) none) q) (fun h' G' e4 q => q.nums e4 rfl)
      obtain ⟨hs3, hw3, hb3, B3, C13, C23⟩ := id y2
      have g4 : G' 4 = G 4 := y5 4 (by decide)
      have wi3 : WI bk (cmS (stH (stT s [(0, 0, kept ++ rest)]) (iN s 6 i) (sH s (iN s 6 i) ++ [i])) i 0 (iN s 6 i) none) := w.i
      obtain ⟨h4, z1, z2, z3⟩ := c_log (d := d + 6) (wh := 3) (o := iN s 6 i) (i := i) hs3 W wi3 C13 il (by decide) (by omega)
      have es : ntS bk (cmS (stH (stT s [(0, 0, kept ++ rest)]) (iN s 6 i) (sH s (iN s 6 i) ++ [i])) i 0 (iN s 6 i) none) i 3 (iN s 6 i) = stT (shS bk s i (iN s 6 i)) [(0, 0, kept ++ rest)] := ntS_T (s := cmS (stH s (iN s 6 i) (sH s (iN s 6 i) ++ [i])) i 0 (iN s 6 i) none) i 3 (iN s 6 i) [(0, 0, kept ++ rest)]
      have Cd : CSt h4 b bk (stT (shS bk s i (iN s 6 i)) [(0, 0, kept ++ rest)]) G' Cp' := by
        rw [← es]
        exact y2.fr z2 (by decide) (by decide) (fun r => lX_nt i 3 (iN s 6 i) r) z3
      obtain ⟨k1, k2, -, -, -, -, -, -, -, -, k11, k12, -⟩ := sh_f (bk := bk) (s := s) i (iN s 6 i)
      have hcb' : capB bk (shS bk s i (iN s 6 i)) Cp' := fun r r1 r2 => by
        rw [k12]; exact y4 r r1 r2
      obtain ⟨h5, G2, Cp2, u1, u2, u3, u4, u5, u6⟩ := come_lp W rest kept h4 (shS bk s i (iN s 6 i)) G' Cp' (rl.erase i) Cd (w.sh hi1 ho) hcb' n2 (fun j hj => by
        have ne : j ≠ i := fun e => n1 (e ▸ hj)
        obtain ⟨j1, j2⟩ := hr j (List.mem_cons_of_mem _ hj)
        exact ⟨w.2.2.2.2.2.2.1.1.mem_erase_iff.mpr ⟨ne, j1⟩, by rw [(k1 9 j ne).1]; exact j2⟩)
      have e1 : avL bk (i :: rest) s = avL bk rest (shS bk s i (iN s 6 i)) := by
        show avL bk rest (if iN s 9 i = zN s 0 then shS bk s i (iN s 6 i) else s) = _
        rw [if_pos q]
      have e2 : (rest.filter fun j => decide (iN (shS bk s i (iN s 6 i)) 9 j ≠ zN (shS bk s i (iN s 6 i)) 0)) = (i :: rest).filter fun j => decide (iN s 9 j ≠ zN s 0) := by
        rw [List.filter_cons_of_neg (by rw [decide_eq_true_iff]; exact fun y => y q)]
        apply List.filter_congr
        intro j hj
        rw [k11, (k1 9 j fun e => n1 (e ▸ hj)).1]
      refine ⟨h5, G2, Cp2, ?_, ?_, ((RM.rfl a3).trans (RM.rfl x2.1)).trans ((y3.trans (RM.rfl z2.1)).trans u3), ?_, fun j q => (u5 j q).trans (y5 j q), a4.trans ((x2.gfc (by decide)).trans ((gfc_l y6).trans ((z2.gfc (by decide)).trans u6)))⟩
      · obtain ⟨p0, q0⟩ := B2.2.2.1 0 (by decide)
        have bo := B2.2.2.2.2.1 (iN s 6 i) ho
        have c61 : gI h1 1289 (G 4 i) = nI (iN s 6 i) := (C11.2.2.2 i il).2.2.2.2.2.2.2.2.2.2.1
        have c62 : gI h2 1289 (G 4 i) = nI (iN s 6 i) := by
          have := (C12.2.2.2 i il).2.2.2.2.2.2.2.2.2.2.1
          rw [this]
          congr 1
          exact (cm_s (s := stT s [(0, 0, kept ++ rest)]) (i := i) (w := 0) (o := iN s 6 i) (k := 0) (c := none)).2.1
        have c63 : gI h3 1289 (G 4 i) = nI (iN s 6 i) := by
          have := (C13.2.2.2 i il).2.2.2.2.2.2.2.2.2.2.1
          rw [g4] at this
          rw [this]
          congr 1
          exact (cm_s (s := stH (stT s [(0, 0, kept ++ rest)]) (iN s 6 i) (sH s (iN s 6 i) ++ [i])) (i := i) (w := 0) (o := iN s 6 i) (k := 0) (c := none)).2.1
        have k31 : gC h3 (G 4 i) = 5 := by
          have := (C13.2.2.2 i il).1
          rw [g4] at this; exact this
        have x1' : E (d + 7) 257 [.ref (G 4 i), .int (nI 0), .int (nI (iN s 6 i)), .int (-1), .int (nI (zN s 0))] h1 = some (none, h2) := x1
        have cz1 : gI h1 2051 156 = nI (zN s 0) := C11.1
        rw [g4] at z1
        rw [lo_sh (by omega)] at y1
        rw [show lo G 1 = 165 from rfl] at a1
        have cl2 : gC h2 (G 5 (iN s 6 i)) = 1 := by
          have := (C22.2.2 (10 + iN s 6 i) (Or.inr (Or.inl ⟨by omega, by omega⟩)) (Or.inr (by omega))).1
          rw [lo_sh (by omega)] at this; exact this
        rw [a1, cK_v, t_251_45 hs1, ck_ok (C11.2.2.2 i il).1, ck_ok (C11.2.2.2 i il).1, c61, cz1, x1', cK_n, t_251_60 hs2, hb2, Option.bind_some, ck_ok B2.1, p0, Option.bind_some, ck_ok (C12.2.2.2 i il).1, ck_ok q0.1, c62, al_get hs2 q0 ho, cK_v, t_251_74 hs2, ck_ok bo.1, ck_ok bo.1, bo.2.2.2.2.2.1, Option.bind_some, ck_ok cl2, y1, cK_v, t_251_84 hs3, ck_ok k31, c63, z1, cK_n, t_251_95 (z2.sh hs3), m1]
        exact u1
      · rw [e1, ← e2]; exact u2
      · rw [e1]; exact u4
    · rw [if_neg q]
      have e1 : avL bk (i :: rest) s = avL bk rest s := by
        show avL bk rest (if iN s 9 i = zN s 0 then shS bk s i (iN s 6 i) else s) = _
        rw [if_neg q]
      have C' : CSt h b bk (stT s [(0, 0, (kept ++ [i]) ++ rest)]) G Cp := by
        rw [List.append_assoc]; exact C
      obtain ⟨h5, G2, Cp2, u1, u2, u3, u4, u5, u6⟩ := come_lp W rest (kept ++ [i]) h s G Cp rl C' w hcb n2 (fun j hj => hr j (List.mem_cons_of_mem _ hj))
      rw [List.length_append] at u1
      rw [List.append_assoc] at u2
      refine ⟨h5, G2, Cp2, u1, ?_, u3, by rw [e1]; exact u4, u5, u6⟩
      rw [e1, List.filter_cons_of_pos (by rw [decide_eq_true_iff]; exact q)]
      exact u2
theorem c_letCome (W : WB bk) {h : AH} {s : St} {G Cp : Nat → Nat → Nat} (C : CSt h b bk s G Cp) (w : WSc bk s (rid s)) (t : TrC bk s (sT s)) (hcb : capB bk s Cp) : ∃ h' G' Cp', E (d + 8) 251 [.ref 156] h = some (none, h') ∧ CSt h' b bk (avS bk s) G' Cp' ∧ RM h Cp h' Cp' ∧ capB bk (avS bk s) Cp' ∧ (∀ j, j ≠ 9 → G' j = G j) ∧ GFc h h' := by
  have wz := w.2.1
  have C0 : CSt h b bk (stT s [(0, 0, [] ++ rid s)]) G Cp := CSt.rd (l := sT s) C fmT1.symm
  have hd : ∀ i, i ∈ rid s → ∃ x, x ∈ sT s ∧ i ∈ x.2.2 := fun i hi => List.mem_flatMap.mp hi
  obtain ⟨h1, G1, Cp1, a1, a2, a3, a4, a5, a6⟩ := come_lp (d := d) W (rid s) [] h s G Cp (rid s) C0 w hcb w.2.2.2.2.2.2.1.1 (fun i hi => ⟨hi, by
    obtain ⟨x, x1, x2⟩ := hd i hi
    obtain ⟨b1, b2, b3, b4, b5, b6⟩ := t.1 x x1
    have := (W.2.2.2.2.2 x.1 b1).2.2.2.2.2.2.2.1
    have := (b6 i x2).2.1
    omega⟩)
  have A : Ar h 165 (la G 1) (lc Cp 1) (rid s).length (fun k => G 4 ((rid s).getD k 0)) := C.2.2.2.2.2.2.2 1 (Or.inl (by decide)) (Or.inl (by decide))
  refine ⟨h1, G1, Cp1, ?_, CSt.rd (s := avL bk (rid s) s) a2 ?_, a3, a4, a5, a6⟩
  · rw [t_251 C.1, al_size C.1 A, cK_v, t_251_9 C.1]; exact a1
  · rw [fmT1, List.nil_append]
    have : ∀ l : List (Nat × Nat × List Nat), (∀ x, x ∈ l → ∀ i, i ∈ x.2.2 → iN s 9 i = x.2.1) → (l.flatMap fun t => t.2.2).filter (fun i => decide (iN s 9 i ≠ zN s 0)) = (l.filter fun t => decide (t.2.1 ≠ zN s 0)).flatMap fun t => t.2.2 := fun l => by
      induction l with
      | nil => intro _; rfl
      | cons x l ih =>
        intro hl
        rw [List.flatMap_cons, List.filter_append, ih fun y hy => hl y (List.mem_cons_of_mem _ hy)]
        have hx := hl x List.mem_cons_self
        by_cases q : x.2.1 = zN s 0
        · rw [List.filter_cons_of_neg (by rw [decide_eq_true_iff]; exact fun y => y q), List.filter_eq_nil_iff.mpr (fun i hi => by rw [decide_eq_true_iff, hx i hi]; exact fun y => y q), List.nil_append]
        · rw [List.filter_cons_of_pos (by rw [decide_eq_true_iff]; exact q), List.flatMap_cons, List.filter_eq_self.mpr (fun i hi => by rw [decide_eq_true_iff, hx i hi]; exact q)]
    exact this (sT s) fun x hx i hi => ((t.1 x hx).2.2.2.2.2 i hi).2.1
end CMN
