/-! ===== SMALL CALLS ===== -/
/-- a number that is an index below n -/
def hv (x : Int32) (n : Nat) : Option Nat := if x < nI 0 then none else if x < nI n then some (ix x) else none
theorem hv_c (x : Int32) {n : Nat} (hn : n < 2 ^ 31) : (hv x n = none ∧ (x < nI 0 ∨ ¬ x < nI 0 ∧ ¬ x < nI n)) ∨ ∃ j, j < n ∧ x = nI j ∧ hv x n = some j := by
  unfold hv
  by_cases h0 : x < nI 0
  · exact Or.inl ⟨if_pos h0, Or.inl h0⟩
  · rw [if_neg h0]
    by_cases h1 : x < nI n
    · rcases pk_ix x hn with q | q | ⟨j, hj, q⟩
      · exact absurd q h0
      · exact (Int32.lt_irrefl (Int32.lt_of_lt_of_le h1 q)).elim
      · refine Or.inr ⟨j, hj, q, ?_⟩
        rw [if_pos h1, q, ix_nI (by omega)]
    · exact Or.inl ⟨if_neg h1, Or.inr ⟨h0, h1⟩⟩
def hb1 (x : Int32) (n : Nat) : Int32 := if (hv x n).isSome then nI 1 else nI 0
section SML
variable {d : Nat} {h : AH} {b : Nat} {bk : Bk} {G Cp : Nat → Nat → Nat} {v : Nat} {s : St}
theorem c_has (hs : Sh h) (W : WB bk) (B : CB h b bk G Cp) (x : Int32) : E (d + 2) 203 [.ref b, .int x] h = some (some (.int (hb1 x (bk 0 0))), h) ∧ E (d + 2) 207 [.ref b, .int x] h = some (some (.int (hb1 x (bk 0 1))), h) ∧ E (d + 2) 218 [.ref b, .int x] h = some (some (.int (hb1 x (bk 0 2))), h) ∧ E (d + 2) 214 [.ref b, .int x] h = some (some (.int (hb1 x (bk 0 3))), h) := by
  obtain ⟨w0, w1, w2, w3, w4⟩ := W.1
  have c1 := B.1
  obtain ⟨p0, q0⟩ := B.2.2.1 0 (by decide)
  obtain ⟨p1, q1⟩ := B.2.2.1 1 (by decide)
  obtain ⟨p2, q2⟩ := B.2.2.1 2 (by decide)
  obtain ⟨p3, q3⟩ := B.2.2.1 3 (by decide)
  unfold hb1
  refine ⟨?_, ?_, ?_, ?_⟩
  · rw [t_203 hs]
    rcases hv_c x (show bk 0 0 < 2 ^ 31 by omega) with ⟨e, q | ⟨q, r⟩⟩ | ⟨j, hj, rfl, e⟩
    · rw [if_pos q, e]; rfl
    · rw [if_neg q, ck_ok c1, p0, Option.bind_some, ck_ok q0.1, al_size hs q0, cK_v, t_203_12 hs, if_neg r, e]; rfl
    · rw [if_neg (nI_nlt (by omega) (by omega)), ck_ok c1, p0, Option.bind_some, ck_ok q0.1, al_size hs q0, cK_v, t_203_12 hs, if_pos (nI_lt hj (by omega)), e]; rfl
  · rw [t_207 hs]
    rcases hv_c x (show bk 0 1 < 2 ^ 31 by omega) with ⟨e, q | ⟨q, r⟩⟩ | ⟨j, hj, rfl, e⟩
    · rw [if_pos q, e]; rfl
    · rw [if_neg q, ck_ok c1, p1, Option.bind_some, ck_ok q1.1, al_size hs q1, cK_v, t_207_12 hs, if_neg r, e]; rfl
    · rw [if_neg (nI_nlt (by omega) (by omega)), ck_ok c1, p1, Option.bind_some, ck_ok q1.1, al_size hs q1, cK_v, t_207_12 hs, if_pos (nI_lt hj (by omega)), e]; rfl
  · rw [t_218 hs]
    rcases hv_c x (show bk 0 2 < 2 ^ 31 by omega) with ⟨e, q | ⟨q, r⟩⟩ | ⟨j, hj, rfl, e⟩
    · rw [if_pos q, e]; rfl
    · rw [if_neg q, ck_ok c1, p2, Option.bind_some, ck_ok q2.1, al_size hs q2, cK_v, t_218_12 hs, if_neg r, e]; rfl
    · rw [if_neg (nI_nlt (by omega) (by omega)), ck_ok c1, p2, Option.bind_some, ck_ok q2.1, al_size hs q2, cK_v, t_218_12 hs, if_pos (nI_lt hj (by omega)), e]; rfl
  · rw [t_214 hs]
    rcases hv_c x (show bk 0 3 < 2 ^ 31 by omega) with ⟨e, q | ⟨q, r⟩⟩ | ⟨j, hj, rfl, e⟩
    · rw [if_pos q, e]; rfl
    · rw [if_neg q, ck_ok c1, p3, Option.bind_some, ck_ok q3.1, al_size hs q3, cK_v, t_214_12 hs, if_neg r, e]; rfl
    · rw [if_neg (nI_nlt (by omega) (by omega)), ck_ok c1, p3, Option.bind_some, ck_ok q3.1, al_size hs q3, cK_v, t_214_12 hs, if_pos (nI_lt hj (by omega)), e]; rfl
theorem r_has (hs : Sh h) (W : WB bk) (hv' : v ≤ 1) (hN : gI h 3597 189 = nI v) (B : RB h v bk) (x : Int32) : E (d + 1) 82 [.ref 189, .int x] h = some (some (.int (hb1 x (bk 0 0))), h) ∧ E (d + 1) 81 [.ref 189, .int x] h = some (some (.int (hb1 x (bk 0 2))), h) := by
  obtain ⟨w0, w1, w2, w3, w4⟩ := W.1
  unfold hb1
  refine ⟨?_, ?_⟩
  · rw [t_82 hs]
    rcases hv_c x (show bk 0 0 < 2 ^ 31 by omega) with ⟨e, q | ⟨q, r⟩⟩ | ⟨j, hj, rfl, e⟩
    · rw [if_pos q, e]; rfl
    · rw [if_neg q, hN, gd_nI (by omega) (by decide), ix_nI (by omega), B.1.1, if_neg r, e]; rfl
    · rw [if_neg (nI_nlt (by omega) (by omega)), hN, gd_nI (by omega) (by decide), ix_nI (by omega), B.1.1, if_pos (nI_lt hj (by omega)), e]; rfl
  · rw [t_81 hs]
    rcases hv_c x (show bk 0 2 < 2 ^ 31 by omega) with ⟨e, q | ⟨q, r⟩⟩ | ⟨j, hj, rfl, e⟩
    · rw [if_pos q, e]; rfl
    · rw [if_neg q, hN, gd_nI (by omega) (by decide), ix_nI (by omega), B.1.2.2.1, if_neg r, e]; rfl
    · rw [if_neg (nI_nlt (by omega) (by omega)), hN, gd_nI (by omega) (by decide), ix_nI (by omega), B.1.2.2.1, if_pos (nI_lt hj (by omega)), e]; rfl
theorem hb1_n {x : Int32} {n : Nat} (e : hv x n = none) : hb1 x n = nI 0 := by unfold hb1; rw [e]; rfl
theorem hb1_s {x : Int32} {n j : Nat} (e : hv x n = some j) : hb1 x n = nI 1 := by unfold hb1; rw [e]; rfl
/-- shelf and bag: the number at a place of a row -/
def nmS (l : List Nat) (k : Int32) : Int32 := match hv k l.length with
  | some j => nI (l.getD j 0)
  | none => -1
def shfS (bk : Bk) (s : St) (o k : Int32) : Int32 := match hv o (bk 0 0) with
  | some j => nmS (sH s j) k
  | none => -1
def bagS (bk : Bk) (s : St) (o k : Int32) : Int32 := match hv o (bk 0 3) with
  | some j => nmS (sG s j) k
  | none => -1
theorem c_nmIn (hs : Sh h) {l e cap : Nat} {xs : List Nat} (A : Ar h l e cap xs.length (fun k => G 4 (xs.getD k 0))) (I : ∀ i, i ∈ xs → gC h (G 4 i) = 5 ∧ gI h 1280 (G 4 i) = nI i) (k : Int32) : E (d + 4) 17 [.ref l, .int k] h = some (some (.int (nmS xs k)), h) := by
  have hl : xs.length < 2 ^ 31 := by
    obtain ⟨-, -, -, -, -, a6, a7, -⟩ := A
    omega
  unfold nmS
  rw [t_17 hs]
  rcases hv_c k hl with ⟨e, q | ⟨q, r⟩⟩ | ⟨j, hj, rfl, e⟩
  · rw [if_pos q, e]
  · rw [if_neg q, ck_ok A.1, al_size hs A, cK_v, t_17_9 hs, if_neg r, e]
  · obtain ⟨i1, i2⟩ := I (xs.getD j 0) (by rw [List.getD_eq_getElem?_getD, List.getElem?_eq_getElem hj]; exact List.getElem_mem hj)
    rw [if_neg (nI_nlt (by omega) (by omega)), ck_ok A.1, al_size hs A, cK_v, t_17_9 hs, if_pos (nI_lt hj hl), ck_ok A.1, al_get hs A hj, cK_v, t_17_21 hs, ck_ok i1, ck_ok i1, i2, e]
theorem c_shelf (hs : Sh h) (W : WB bk) (w : WS bk s) (hb : gR h 2048 156 = some b) (B : CB h b bk G Cp) (C1 : CS1 h bk s G) (C2 : CS2 h bk s G Cp) (o k : Int32) : E (d + 5) 16 [.ref 100, .int o, .int k] h = some (some (.int (shfS bk s o k)), h) := by
  have w0 := W.1.1
  obtain ⟨p0, q0⟩ := B.2.2.1 0 (by decide)
  unfold shfS
  rw [t_16 hs, hb, Option.bind_some, ck_ok B.1, (c_has hs W B o).1, cK_v, t_16_11 hs]
  rcases hv_c o (show bk 0 0 < 2 ^ 31 by omega) with ⟨e, -⟩ | ⟨j, hj, rfl, e⟩
  · rw [hb1_n e, if_pos rfl, e]
  · have A := C2.2.2 (10 + j) (Or.inr (Or.inl ⟨by omega, by omega⟩)) (Or.inr (by omega))
    have e1 : lo G (10 + j) = G 5 j := by
      unfold lo
      rw [if_neg (by omega), if_neg (by omega), if_neg (by omega), if_pos (by omega), show 10 + j - 10 = j from by omega]
    have e2 : lX s (10 + j) = sH s j := by
      unfold lX
      rw [if_neg (by omega), if_neg (by omega), if_neg (by omega), if_pos (by omega), show 10 + j - 10 = j from by omega]
    rw [e1, e2] at A
    have bo := B.2.2.2.2.1 j hj
    rw [hb1_s e, if_neg (by decide), hb, Option.bind_some, ck_ok B.1, p0, Option.bind_some, ck_ok q0.1, al_get hs q0 hj, cK_v, t_16_28 hs, ck_ok bo.1, ck_ok bo.1, bo.2.2.2.2.2.1, Option.bind_some,
      c_nmIn hs A (fun i hi => by
        have := ((w.2.2.2.2.1 j).2 i).mp hi
        have := C1.2.2.2 i this.1
        exact ⟨this.1, this.2.2.1⟩) k, cK_v, t_16_38 hs, e]
theorem c_bag (hs : Sh h) (W : WB bk) (w : WS bk s) (hb : gR h 2048 156 = some b) (B : CB h b bk G Cp) (C1 : CS1 h bk s G) (C2 : CS2 h bk s G Cp) (o k : Int32) : E (d + 5) 18 [.ref 100, .int o, .int k] h = some (some (.int (bagS bk s o k)), h) := by
  have w0 := W.1.2.2.2.1
  obtain ⟨p0, q0⟩ := B.2.2.1 3 (by decide)
  unfold bagS
  rw [t_18 hs, hb, Option.bind_some, ck_ok B.1, (c_has hs W B o).2.2.2, cK_v, t_18_11 hs]
  rcases hv_c o (show bk 0 3 < 2 ^ 31 by omega) with ⟨e, -⟩ | ⟨j, hj, rfl, e⟩
  · rw [hb1_n e, if_pos rfl, e]
  · have A := C2.2.2 (30 + j) (Or.inr (Or.inr ⟨by omega, by omega⟩)) (Or.inr (by omega))
    have e1 : lo G (30 + j) = G 6 j := by
      unfold lo
      rw [if_neg (by omega), if_neg (by omega), if_neg (by omega), if_neg (by omega), show 30 + j - 30 = j from by omega]
    have e2 : lX s (30 + j) = sG s j := by
      unfold lX
      rw [if_neg (by omega), if_neg (by omega), if_neg (by omega), if_neg (by omega), show 30 + j - 30 = j from by omega]
    rw [e1, e2] at A
    have bo := B.2.2.2.2.2.2.2 j hj
    rw [hb1_s e, if_neg (by decide), hb, Option.bind_some, ck_ok B.1, p0, Option.bind_some, ck_ok q0.1, al_get hs q0 hj, cK_v, t_18_28 hs, ck_ok bo.1, ck_ok bo.1, bo.2.2.2.2.2.2.2.2, Option.bind_some,
      c_nmIn hs A (fun i hi => by
        have := ((w.2.2.2.2.2.1 j).2 i).mp hi
        have := C1.2.2.2 i this.1
        exact ⟨this.1, this.2.2.1⟩) k, cK_v, t_18_38 hs, e]
theorem WS.len (w : WS bk s) (o : Nat) : (sH s o).length ≤ 200 ∧ (sG s o).length ≤ 200 := by
  have h1 := nd_len (zN s 2) (sH s o) (w.2.2.2.2.1 o).1 fun x hx => (((w.2.2.2.2.1 o).2 x).mp hx).1
  have h2 := nd_len (zN s 2) (sG s o) (w.2.2.2.2.2.1 o).1 fun x hx => (((w.2.2.2.2.2.1 o).2 x).mp hx).1
  have := w.1
  omega
theorem getD_ix {l : List Nat} {j : Nat} (hj : j < l.length) : l.getD j 0 = l[j] := by
  rw [List.getD_eq_getElem?_getD, List.getElem?_eq_getElem hj]; rfl
theorem r_shelf (hs : Sh h) (W : WB bk) (w : WS bk s) (hv' : v ≤ 1) (hN : gI h 3597 189 = nI v) (B : RB h v bk) (R2 : RS2 h s) (o k : Int32) : E (d + 2) 182 [.ref 189, .int o, .int k] h = some (some (.int (shfS bk s o k)), sI h 3586 189 (nI 0)) := by
  have w0 := W.1.1
  have f0 : Fr [3586] [] h (sI h 3586 189 (nI 0)) := Fr.rfl.sI (by decide)
  unfold shfS
  rw [t_182 hs, (r_has (bk := bk) (h := sI h 3586 189 (nI 0)) hs.sI W hv' hN (B.fr f0 (by decide)) o).1, cK_v, t_182_10 hs.sI]
  rcases hv_c o (show bk 0 0 < 2 ^ 31 by omega) with ⟨e, -⟩ | ⟨j, hj, rfl, e⟩
  · rw [hb1_n e, if_pos rfl, e]
  · obtain ⟨a1, a2⟩ := R2.1 j (by omega)
    have hl := (w.len j).1
    unfold nmS
    rw [hb1_s e, if_neg (by decide), e]
    dsimp only
    rcases hv_c k (show (sH s j).length < 2 ^ 31 by omega) with ⟨e', q | ⟨q, r⟩⟩ | ⟨i, hi, rfl, e'⟩
    · rw [if_pos q, e']
    · rw [if_neg q, gd_nI (by omega) (by decide), ix_nI (by omega), show gA (sI h 3586 189 (nI 0)) 255 j = _ from a1, if_neg r, e']
    · rw [if_neg (nI_nlt (by omega) (by omega)), gd_nI (by omega) (by decide), ix_nI (by omega), show gA (sI h 3586 189 (nI 0)) 255 j = _ from a1, if_pos (nI_lt hi (by omega)), pk_mul, nI_add, gd_nI (by omega) (by decide), ix_nI (by omega), show gA (sI h 3586 189 (nI 0)) 254 (200 * j + i) = _ from a2 i hi, e']
      dsimp only
      rw [getD_ix hi]
theorem r_bag (hs : Sh h) (W : WB bk) (w : WS bk s) (hv' : v ≤ 1) (hN : gI h 3597 189 = nI v) (B : RB h v bk) (R2 : RS2 h s) (o k : Int32) : E (d + 1) 183 [.ref 189, .int o, .int k] h = some (some (.int (bagS bk s o k)), sI h 3586 189 (nI 0)) := by
  have w0 := W.1.2.2.2.1
  unfold bagS
  rw [t_183 hs, hN]
  rcases hv_c o (show bk 0 3 < 2 ^ 31 by omega) with ⟨e, q | ⟨q, r⟩⟩ | ⟨j, hj, rfl, e⟩
  · rw [if_pos q, e]
  · rw [if_neg q, gd_nI (by omega) (by decide), ix_nI (by omega), B.1.2.2.2.1, if_neg r, e]
  · obtain ⟨a1, a2⟩ := R2.2 j (by omega)
    have hl := (w.len j).2
    unfold nmS
    rw [if_neg (nI_nlt (by omega) (by omega)), gd_nI (by omega) (by decide), ix_nI (by omega), B.1.2.2.2.1, if_pos (nI_lt hj (by omega)), e]
    dsimp only
    rcases hv_c k (show (sG s j).length < 2 ^ 31 by omega) with ⟨e', q | ⟨q, r⟩⟩ | ⟨i, hi, rfl, e'⟩
    · rw [if_pos q, e']
    · rw [if_neg q, gd_nI (by omega) (by decide), ix_nI (by omega), a1, if_neg r, e']
    · rw [if_neg (nI_nlt (by omega) (by omega)), gd_nI (by omega) (by decide), ix_nI (by omega), a1, if_pos (nI_lt hi (by omega)), pk_mul, nI_add, gd_nI (by omega) (by decide), ix_nI (by omega), a2 i hi, e']
      dsimp only
      rw [getD_ix hi]
end SML
