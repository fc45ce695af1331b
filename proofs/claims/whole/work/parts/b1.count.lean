/-! ===== COUNT ===== -/
def cntI (s : St) (x : Nat) : Nat → Nat
  | 0 => 0
  | n + 1 => cntI s x n + if iN s 5 n = x then 1 else 0
/-- how often what rides changes -/
def cuF (s : St) : Option (Option Nat × Nat) → List Nat → Nat
  | _, [] => 0
  | p, i :: r => (if p = some (iC s i, iN s 9 i) then 0 else 1) + cuF s (some (iC s i, iN s 9 i)) r
theorem cuF_same {s : St} {k : Option Nat × Nat} : ∀ (r rest : List Nat), (∀ i, i ∈ r → (iC s i, iN s 9 i) = k) → cuF s (some k) (r ++ rest) = cuF s (some k) rest
  | [], _, _ => rfl
  | i :: r, rest, h => by
    show (if some k = some (iC s i, iN s 9 i) then 0 else 1) + cuF s (some (iC s i, iN s 9 i)) (r ++ rest) = _
    rw [h i List.mem_cons_self, if_pos rfl, Nat.zero_add]
    exact cuF_same r rest fun j hj => h j (List.mem_cons_of_mem _ hj)
theorem cuF_T {s : St} : ∀ (T : List (Nat × Nat × List Nat)) (p : Option (Option Nat × Nat)), (∀ t, t ∈ T → 1 ≤ t.2.2.length ∧ ∀ i, i ∈ t.2.2 → (iC s i, iN s 9 i) = (some t.1, t.2.1)) → (T.Pairwise fun a b => a.1 ≠ b.1 ∨ a.2.1 ≠ b.2.1) → (∀ t, t ∈ T → p ≠ some (some t.1, t.2.1)) → cuF s p (T.flatMap fun t => t.2.2) = T.length
  | [], _, _, _, _ => rfl
  | x :: T, p, h, pw, hp => by
    obtain ⟨h1, h2⟩ := h x List.mem_cons_self
    obtain ⟨p1, p2⟩ := List.pairwise_cons.mp pw
    rw [List.flatMap_cons, List.length_cons]
    cases hx : x.2.2 with
    | nil => rw [hx] at h1; exact absurd h1 (by decide)
    | cons i r =>
      rw [hx] at h2
      have ki := h2 i List.mem_cons_self
      show (if p = some (iC s i, iN s 9 i) then 0 else 1) + cuF s (some (iC s i, iN s 9 i)) (r ++ T.flatMap fun t => t.2.2) = _
      rw [ki, if_neg (hp x List.mem_cons_self), cuF_same r _ fun j hj => h2 j (List.mem_cons_of_mem _ hj), cuF_T T _ (fun t ht => h t (List.mem_cons_of_mem _ ht)) p2 (fun t ht e => by
        have e2 := Option.some.inj e
        simp only [Prod.mk.injEq, Option.some.injEq] at e2
        rcases p1 t ht with q | q
        · exact q e2.1
        · exact q e2.2)]
      omega
/-- what count answers; a, c: steps of all runs, of the latest; t: signs on the tape -/
def ctA (bk : Bk) (s : St) (a c t : Nat) (x : Int32) : Int32 := match hv x 18 with
  | none => -1
  | some j => if j < 4 then nI (bk 0 j) else if j = 4 then nI (zN s 0) else if j = 5 then nI (zN s 2) else if j < 11 then nI (cntI s (j - 6) (zN s 2)) else if j = 11 then nI (sM s).length else if j = 12 then nI (zN s 1) else if j = 13 then nI a else if j = 14 then nI c else if j = 15 then sumP (iM s) (zN s 2) else if j = 16 then nI t else nI (sT s).length
theorem hv_ne {x : Int32} {n : Nat} (hn : n < 2 ^ 31) (e : hv x n = none) : ∀ j, j < n → x ≠ nI j := fun j hj q => by
  unfold hv at e
  rw [q, if_neg (nI_nlt (by omega) (by omega)), if_pos (nI_lt hj (by omega))] at e
  cases e
section CNT
variable {d : Nat} {b : Nat} {bk : Bk} {G Cp : Nat → Nat → Nat} {h : AH} {s : St} {v : Nat}
theorem c_are (C : CSt h b bk s G Cp) (w : WS bk s) {x : Nat} (hx : x ≤ 4) : ∀ (m k : Nat), k + m = zN s 2 → Q (d + 3) 215 4 [some (.ref 156), some (.int (nI x)), some (.int (nI (cntI s x k))), some (.int (nI k))] [] h = some (some (.int (nI (cntI s x (zN s 2)))), h)
  | 0, k, e => by
    obtain ⟨hs, hw, hb, B, C1, C2⟩ := id C
    have w1 := w.1
    have A := C2.2.2 0 (Or.inl (by decide)) (Or.inl (by decide))
    rw [show lo G 0 = 164 from rfl, show lX s 0 = List.range (zN s 2) from rfl, List.length_range] at A
    rw [t_215_4 hs, al_size hs A, cK_v, t_215_12 hs, if_neg (nI_nlt (by omega) (by omega)), show k = zN s 2 from by omega]
  | m + 1, k, e => by
    obtain ⟨hs, hw, hb, B, C1, C2⟩ := id C
    have w1 := w.1
    have A := C2.2.2 0 (Or.inl (by decide)) (Or.inl (by decide))
    rw [show lo G 0 = 164 from rfl, show lX s 0 = List.range (zN s 2) from rfl, List.length_range] at A
    have hk : k < zN s 2 := by omega
    have ek : (List.range (zN s 2)).getD k 0 = k := by rw [getD_ix (by rw [List.length_range]; exact hk), List.getElem_range]
    have ci := C1.2.2.2 k hk
    have wi := (w.2.2.2.1 k hk).2.2.2.2.2.2.2.1
    have ih := c_are C w hx m (k + 1) (by omega)
    rw [t_215_4 hs, al_size hs A, cK_v, t_215_12 hs, if_pos (nI_lt hk (by omega)), al_get hs A hk, cK_v, ek, t_215_23 hs, ck_ok ci.1, ck_ok ci.1, ci.2.2.2.2.2.2.2.2.2.1, nI_add, nI_add]
    simp only [show (nI (iN s 5 k) = nI x) = (iN s 5 k = x) from propext (nI_eq (by omega) (by omega))]
    have ec : cntI s x (k + 1) = cntI s x k + if iN s 5 k = x then 1 else 0 := rfl
    rw [ec] at ih
    by_cases q : iN s 5 k = x
    · rw [if_pos q]; rw [if_pos q] at ih; exact ih
    · rw [if_neg q]; rw [if_neg q, Nat.add_zero] at ih; exact ih
theorem c_sum (C : CSt h b bk s G Cp) (w : WS bk s) : ∀ (m k : Nat), k + m = zN s 2 → Q (d + 3) 216 4 [some (.ref 156), some (.int (sumP (iM s) k)), some (.int (nI k))] [] h = some (some (.int (sumP (iM s) (zN s 2))), h)
  | 0, k, e => by
    obtain ⟨hs, hw, hb, B, C1, C2⟩ := id C
    have w1 := w.1
    have A := C2.2.2 0 (Or.inl (by decide)) (Or.inl (by decide))
    rw [show lo G 0 = 164 from rfl, show lX s 0 = List.range (zN s 2) from rfl, List.length_range] at A
    rw [t_216_4 hs, al_size hs A, cK_v, t_216_12 hs, if_neg (nI_nlt (by omega) (by omega)), show k = zN s 2 from by omega]
  | m + 1, k, e => by
    obtain ⟨hs, hw, hb, B, C1, C2⟩ := id C
    have w1 := w.1
    have A := C2.2.2 0 (Or.inl (by decide)) (Or.inl (by decide))
    rw [show lo G 0 = 164 from rfl, show lX s 0 = List.range (zN s 2) from rfl, List.length_range] at A
    have hk : k < zN s 2 := by omega
    have ek : (List.range (zN s 2)).getD k 0 = k := by rw [getD_ix (by rw [List.length_range]; exact hk), List.getElem_range]
    have ci := C1.2.2.2 k hk
    have ih := c_sum C w m (k + 1) (by omega)
    rw [t_216_4 hs, al_size hs A, cK_v, t_216_12 hs, if_pos (nI_lt hk (by omega)), al_get hs A hk, cK_v, ek, t_216_24 hs, ck_ok ci.1, ck_ok ci.1, ci.2.2.2.2.2.2.2.2.2.2.2.2.1, nI_add]
    exact ih
/-- the key of the item ahead -/
def lsK (s : St) (pre : List Nat) : Option (Option Nat × Nat) := pre.getLast?.map fun j => (iC s j, iN s 9 j)
theorem c_ride (C : CSt h b bk s G Cp) (w : WS bk s) (hd : ∀ i, i ∈ rid s → (∃ c, iC s i = some c ∧ c < 40) ∧ iN s 9 i < 2 ^ 31) : ∀ (ys pre : List Nat) (n : Nat), pre ++ ys = rid s → Q (d + 3) 217 4 [some (.ref 156), some (.int (nI n)), some (.int (nI pre.length)), none] [] h = some (some (.int (nI (n + cuF s (lsK s pre) ys))), h)
  | [], pre, n, e => by
    obtain ⟨hs, hw, hb, B, C1, C2⟩ := id C
    have A := C2.2.2 1 (Or.inl (by decide)) (Or.inl (by decide))
    rw [show lo G 1 = 165 from rfl, lX_1] at A
    have lb : (rid s).length ≤ 100000 := by
      obtain ⟨-, -, -, -, -, a6, a7, -⟩ := A
      omega
    have el : pre.length = (rid s).length := by rw [← e, List.append_nil]
    rw [t_217_4 hs, al_size hs A, cK_v, t_217_12 hs, if_neg (nI_nlt (by omega) (by omega))]
    rfl
  | i :: ys, pre, n, e => by
    obtain ⟨hs, hw, hb, B, C1, C2⟩ := id C
    have A := C2.2.2 1 (Or.inl (by decide)) (Or.inl (by decide))
    rw [show lo G 1 = 165 from rfl, lX_1] at A
    have lb : (rid s).length ≤ 100000 := by
      obtain ⟨-, -, -, -, -, a6, a7, -⟩ := A
      omega
    have el : pre.length + (ys.length + 1) = (rid s).length := by rw [← e, List.length_append, List.length_cons]
    have hpl : pre.length < (rid s).length := by omega
    have ei : (rid s).getD pre.length 0 = i := by
      rw [← e, List.getD_eq_getElem?_getD, List.getElem?_append_right (Nat.le_refl _), Nat.sub_self]; rfl
    have im : i ∈ rid s := by rw [← e]; exact List.mem_append_right _ List.mem_cons_self
    obtain ⟨il, i5⟩ := (w.2.2.2.2.2.2.1.2 i).mp im
    have ci := C1.2.2.2 i il
    obtain ⟨⟨ci1, ci2, ci3⟩, ci4⟩ := hd i im
    have ih : ∀ n, Q (d + 3) 217 4 [some (.ref 156), some (.int (nI n)), some (.int (nI (pre.length + 1))), none] [] h = some (some (.int (nI (n + cuF s (some (iC s i, iN s 9 i)) ys))), h) := fun n => by
      have := c_ride C w hd ys (pre ++ [i]) n (by rw [List.append_assoc]; exact e)
      rw [List.length_append] at this
      have e2 : lsK s (pre ++ [i]) = some (iC s i, iN s 9 i) := by unfold lsK; rw [List.getLast?_append]; rfl
      rw [e2] at this; exact this
    rw [t_217_4 hs, al_size hs A, cK_v, t_217_12 hs, if_pos (nI_lt hpl (by omega)), al_get hs A hpl, cK_v, ei, t_217_23 hs, ck_ok ci.1, nI_add, nI_add]
    simp only [show (nI pre.length = nI 0) = (pre.length = 0) from propext (nI_eq (by omega) (by decide))]
    show _ = some (some (Value.int (nI (n + ((if lsK s pre = some (iC s i, iN s 9 i) then 0 else 1) + cuF s (some (iC s i, iN s 9 i)) ys)))), h)
    by_cases q : pre.length = 0
    · have ep : pre = [] := List.length_eq_zero_iff.mp q
      have : lsK s pre = none := by rw [ep]; rfl
      rw [if_pos q, this, if_neg (fun y => by cases y), ih, Nat.add_assoc]
    · have hp1 : pre.length - 1 < pre.length := by omega
      have ej : (rid s).getD (pre.length - 1) 0 = pre[pre.length - 1] := by
        rw [← e, List.getD_eq_getElem?_getD, List.getElem?_append_left hp1, List.getElem?_eq_getElem hp1]; rfl
      have elk : lsK s pre = some (iC s pre[pre.length - 1], iN s 9 pre[pre.length - 1]) := by
        unfold lsK
        rw [List.getLast?_eq_getElem?, List.getElem?_eq_getElem hp1]; rfl
      generalize hj : pre[pre.length - 1] = j at *
      have jm : j ∈ rid s := by rw [← e, ← hj]; exact List.mem_append_left _ (List.getElem_mem hp1)
      obtain ⟨jl, j5⟩ := (w.2.2.2.2.2.2.1.2 j).mp jm
      have cj := C1.2.2.2 j jl
      obtain ⟨⟨cj1, cj2, cj3⟩, cj4⟩ := hd j jm
      have ag := al_get (d := d) hs A (i := pre.length - 1) (by omega)
      rw [ej] at ag
      rw [if_neg q, pk_sub (by omega), ag, cK_v, t_217_41 hs, ck_ok cj.1, ck_ok cj.1, ck_ok ci.1, cj.2.2.2.2.2.2.2.2.2.2.2.1, ci.2.2.2.2.2.2.2.2.2.2.2.1, cj2, ci2, pk_sub (by omega), ag, cK_v, t_217_64 hs, ck_ok cj.1, ck_ok cj.1, ck_ok ci.1, cj.2.2.2.2.2.2.2.2.2.2.2.2.2.2.2 j5, ci.2.2.2.2.2.2.2.2.2.2.2.2.2.2.2 i5, nI_add, nI_add, elk, cj2]
      simp only [show (oI (some cj1) = oI (some ci1)) = (cj1 = ci1) from propext (nI_eq (by omega) (by omega)), show (nI (iN s 9 j) = nI (iN s 9 i)) = (iN s 9 j = iN s 9 i) from propext (nI_eq (by omega) (by omega)), Option.some.injEq, Prod.mk.injEq]
      rw [ci2] at ih
      by_cases q1 : cj1 = ci1
      · by_cases q2 : iN s 9 j = iN s 9 i
        · rw [if_pos q1, if_pos q2, if_pos ⟨q1, q2⟩, ih, Nat.zero_add]
        · rw [if_pos q1, if_neg q2, if_neg (fun y => q2 y.2), ih, Nat.add_assoc]
      · rw [if_neg q1, if_neg (fun y => q1 y.1), ih, Nat.add_assoc]
theorem c_count (W : WB bk) (C : CSt h b bk s G Cp) (C4 : CS4 h s) (w : WS bk s) {a c t : Nat} (ha : gI h 1553 175 = nI a) (hc : gI h 1549 175 = nI c) (ht : gI h 3073 101 = nI t) (x : Int32) : E (d + 5) 19 [.ref 100, .int x] h = some (some (.int (ctA bk s a c t x)), h) := by
  obtain ⟨hs, hw, hb, B, C1, C2⟩ := id C
  have w1 := w.1
  obtain ⟨v1, v2, v3⟩ := w.c
  unfold ctA
  rcases hv_c x (show 18 < 2 ^ 31 by decide) with ⟨e, -⟩ | ⟨j, hj, rfl, e⟩
  · have ne := hv_ne (by decide) e
    rw [t_19 hs, e, if_neg (ne 0 (by decide)), if_neg (ne 1 (by decide)), if_neg (ne 2 (by decide)), if_neg (ne 3 (by decide)), if_neg (ne 4 (by decide)), if_neg (ne 5 (by decide)), if_neg (ne 6 (by decide)), if_neg (ne 7 (by decide)), if_neg (ne 8 (by decide)), if_neg (ne 9 (by decide)), if_neg (ne 10 (by decide)), if_neg (ne 11 (by decide)), if_neg (ne 12 (by decide)), if_neg (ne 13 (by decide)), if_neg (ne 14 (by decide)), if_neg (ne 15 (by decide)), if_neg (ne 16 (by decide)), if_neg (ne 17 (by decide))]
  · rw [e]
    dsimp only
    obtain ⟨p0, q0⟩ := B.2.2.1 0 (by decide)
    obtain ⟨p1, q1⟩ := B.2.2.1 1 (by decide)
    obtain ⟨p2, q2⟩ := B.2.2.1 2 (by decide)
    obtain ⟨p3, q3⟩ := B.2.2.1 3 (by decide)
    have A0 := C2.2.2 0 (Or.inl (by decide)) (Or.inl (by decide))
    rw [show lo G 0 = 164 from rfl, show lX s 0 = List.range (zN s 2) from rfl, List.length_range] at A0
    have are : ∀ x, x ≤ 4 → E (d + 4) 215 [.ref 156, .int (nI x)] h = some (some (.int (nI (cntI s x (zN s 2)))), h) := fun x hx => by
      rw [t_215 hs]; exact c_are C w hx (zN s 2) 0 (by omega)
    have sm : E (d + 4) 216 [.ref 156] h = some (some (.int (sumP (iM s) (zN s 2))), h) := by
      rw [t_216 hs]; exact c_sum C w (zN s 2) 0 (by omega)
    have rd : E (d + 4) 217 [.ref 156] h = some (some (.int (nI (sT s).length)), h) := by
      have hd : ∀ i, i ∈ rid s → (∃ c, iC s i = some c ∧ c < 40) ∧ iN s 9 i < 2 ^ 31 := fun i hi => by
        obtain ⟨x, x1, x2⟩ := List.mem_flatMap.mp hi
        obtain ⟨b1, b2, b3, b4, b5, b6⟩ := v2.1 x x1
        have := (W.2.2.2.2.2 x.1 b1).2.2.2.2.2.2.2.1
        have := W.1.2.2.2.1
        have wz := w.2.1
        obtain ⟨c1, c2, c3⟩ := b6 i x2
        exact ⟨⟨x.1, c1, by omega⟩, by omega⟩
      have := c_ride (d := d) C w hd (rid s) [] 0 rfl
      rw [t_217 hs]
      have e2 : cuF s (lsK s []) (rid s) = (sT s).length := cuF_T (sT s) none (fun t ht => ⟨(v2.1 t ht).2.2.2.1, fun i hi => by rw [((v2.1 t ht).2.2.2.2.2 i hi).1, ((v2.1 t ht).2.2.2.2.2 i hi).2.1]⟩) v2.2 (fun t ht q => by cases q)
      rw [e2, Nat.zero_add] at this
      exact this
    have cases18 : j = 0 ∨ j = 1 ∨ j = 2 ∨ j = 3 ∨ j = 4 ∨ j = 5 ∨ j = 6 ∨ j = 7 ∨ j = 8 ∨ j = 9 ∨ j = 10 ∨ j = 11 ∨ j = 12 ∨ j = 13 ∨ j = 14 ∨ j = 15 ∨ j = 16 ∨ j = 17 := by omega
    rw [t_19 hs]
    rcases cases18 with rfl | rfl | rfl | rfl | rfl | rfl | rfl | rfl | rfl | rfl | rfl | rfl | rfl | rfl | rfl | rfl | rfl | rfl
    · rw [if_pos rfl, hb, Option.bind_some, ck_ok B.1, p0, Option.bind_some, ck_ok q0.1, al_size hs q0, cK_v, t_19_101 hs]; rfl
    · rw [if_neg (by decide), if_pos rfl, hb, Option.bind_some, ck_ok B.1, p1, Option.bind_some, ck_ok q1.1, al_size hs q1, cK_v, t_19_115 hs]; rfl
    · rw [if_neg (by decide), if_neg (by decide), if_pos rfl, hb, Option.bind_some, ck_ok B.1, p2, Option.bind_some, ck_ok q2.1, al_size hs q2, cK_v, t_19_129 hs]; rfl
    · rw [if_neg (by decide), if_neg (by decide), if_neg (by decide), if_pos rfl, hb, Option.bind_some, ck_ok B.1, p3, Option.bind_some, ck_ok q3.1, al_size hs q3, cK_v, t_19_143 hs]; rfl
    · rw [if_neg (by decide), if_neg (by decide), if_neg (by decide), if_neg (by decide), if_pos rfl, C1.1]; rfl
    · rw [if_neg (by decide), if_neg (by decide), if_neg (by decide), if_neg (by decide), if_neg (by decide), if_pos rfl, al_size hs A0, cK_v, t_19_162 hs]; rfl
    · rw [if_neg (by decide), if_neg (by decide), if_neg (by decide), if_neg (by decide), if_neg (by decide), if_neg (by decide), if_pos rfl, show nI 6 - nI 6 = nI 0 from by decide, are 0 (by decide), cK_v, t_19_174 hs]; rfl
    · rw [if_neg (by decide), if_neg (by decide), if_neg (by decide), if_neg (by decide), if_neg (by decide), if_neg (by decide), if_neg (by decide), if_pos rfl, show nI 7 - nI 6 = nI 1 from by decide, are 1 (by decide), cK_v, t_19_174 hs]; rfl
    · rw [if_neg (by decide), if_neg (by decide), if_neg (by decide), if_neg (by decide), if_neg (by decide), if_neg (by decide), if_neg (by decide), if_neg (by decide), if_pos rfl, show nI 8 - nI 6 = nI 2 from by decide, are 2 (by decide), cK_v, t_19_174 hs]; rfl
    · rw [if_neg (by decide), if_neg (by decide), if_neg (by decide), if_neg (by decide), if_neg (by decide), if_neg (by decide), if_neg (by decide), if_neg (by decide), if_neg (by decide), if_pos rfl, show nI 9 - nI 6 = nI 3 from by decide, are 3 (by decide), cK_v, t_19_174 hs]; rfl
    · rw [if_neg (by decide), if_neg (by decide), if_neg (by decide), if_neg (by decide), if_neg (by decide), if_neg (by decide), if_neg (by decide), if_neg (by decide), if_neg (by decide), if_neg (by decide), if_pos rfl, show nI 10 - nI 6 = nI 4 from by decide, are 4 (by decide), cK_v, t_19_174 hs]; rfl
    · rw [if_neg (by decide), if_neg (by decide), if_neg (by decide), if_neg (by decide), if_neg (by decide), if_neg (by decide), if_neg (by decide), if_neg (by decide), if_neg (by decide), if_neg (by decide), if_neg (by decide), if_pos rfl, C4.1]; rfl
    · rw [if_neg (by decide), if_neg (by decide), if_neg (by decide), if_neg (by decide), if_neg (by decide), if_neg (by decide), if_neg (by decide), if_neg (by decide), if_neg (by decide), if_neg (by decide), if_neg (by decide), if_neg (by decide), if_pos rfl, C1.2.1]; rfl
    · rw [if_neg (by decide), if_neg (by decide), if_neg (by decide), if_neg (by decide), if_neg (by decide), if_neg (by decide), if_neg (by decide), if_neg (by decide), if_neg (by decide), if_neg (by decide), if_neg (by decide), if_neg (by decide), if_neg (by decide), if_pos rfl, ha]; rfl
    · rw [if_neg (by decide), if_neg (by decide), if_neg (by decide), if_neg (by decide), if_neg (by decide), if_neg (by decide), if_neg (by decide), if_neg (by decide), if_neg (by decide), if_neg (by decide), if_neg (by decide), if_neg (by decide), if_neg (by decide), if_neg (by decide), if_pos rfl, hc]; rfl
    · rw [if_neg (by decide), if_neg (by decide), if_neg (by decide), if_neg (by decide), if_neg (by decide), if_neg (by decide), if_neg (by decide), if_neg (by decide), if_neg (by decide), if_neg (by decide), if_neg (by decide), if_neg (by decide), if_neg (by decide), if_neg (by decide), if_neg (by decide), if_pos rfl, sm, cK_v, t_19_214 hs]; rfl
    · rw [if_neg (by decide), if_neg (by decide), if_neg (by decide), if_neg (by decide), if_neg (by decide), if_neg (by decide), if_neg (by decide), if_neg (by decide), if_neg (by decide), if_neg (by decide), if_neg (by decide), if_neg (by decide), if_neg (by decide), if_neg (by decide), if_neg (by decide), if_neg (by decide), if_pos rfl, ht]; rfl
    · rw [if_neg (by decide), if_neg (by decide), if_neg (by decide), if_neg (by decide), if_neg (by decide), if_neg (by decide), if_neg (by decide), if_neg (by decide), if_neg (by decide), if_neg (by decide), if_neg (by decide), if_neg (by decide), if_neg (by decide), if_neg (by decide), if_neg (by decide), if_neg (by decide), if_neg (by decide), if_pos rfl, rd, cK_v, t_19_230 hs]; rfl
theorem r_are (hs : Sh h) (R : RS h s) (w : WS bk s) {x : Nat} (hx : x ≤ 4) : ∀ (m k : Nat), k + m = zN s 2 → Q d 184 21 [some (.ref 189), some (.int (nI (x + 6))), some (.int (nI (cntI s x k))), some (.int (nI k))] [] h = some (some (.int (nI (cntI s x (zN s 2)))), h)
  | 0, k, e => by
    have w1 := w.1
    rw [t_184_21 hs, R.1.1, if_neg (nI_nlt (by omega) (by omega)), show k = zN s 2 from by omega]
  | m + 1, k, e => by
    have w1 := w.1
    have hk : k < zN s 2 := by omega
    have wi := (w.2.2.2.1 k hk).2.2.2.2.2.2.2.1
    have ri := (R.1.2.2.2.2 k hk).2.2.2.2.2.2.1
    have ih := r_are hs R w hx m (k + 1) (by omega)
    rw [t_184_21 hs, R.1.1, if_pos (nI_lt hk (by omega)), gd_nI (by omega) (by decide), ix_nI (by omega), ri, pk_sub (by omega), Nat.add_sub_cancel, nI_add, nI_add, nI_add, Nat.add_zero]
    simp only [show (nI (iN s 5 k) = nI x) = (iN s 5 k = x) from propext (nI_eq (by omega) (by omega))]
    have ec : cntI s x (k + 1) = cntI s x k + if iN s 5 k = x then 1 else 0 := rfl
    rw [ec] at ih
    by_cases q : iN s 5 k = x
    · rw [if_pos q]; rw [if_pos q] at ih; exact ih
    · rw [if_neg q]; rw [if_neg q, Nat.add_zero] at ih; exact ih
theorem r_count (W : WB bk) (hv' : v ≤ 1) (hs : Sh h) (hN : gI h 3597 189 = nI v) (B : RB h v bk) (R : RS h s) (w : WS bk s) {a c t : Nat} (ha : gI h 3719 189 = nI a) (hc : gI h 3720 189 = nI c) (ht : gI h 3590 189 = nI t) (x : Int32) : E (d + 1) 184 [.ref 189, .int x] h = some (some (.int (ctA bk s a c t x)), sI h 3586 189 (nI 0)) := by
  have w1 := w.1
  obtain ⟨b1, b2, b3, b4, -⟩ := B.1
  have f0 : Fr [3586] [] h (sI h 3586 189 (nI 0)) := Fr.rfl.sI (by decide)
  have R0 := R.fr f0 (by decide) (by decide)
  have are : ∀ x, x ≤ 4 → Q d 184 21 [some (.ref 189), some (.int (nI (x + 6))), some (.int (nI 0)), some (.int (nI 0))] [] (sI h 3586 189 (nI 0)) = some (some (.int (nI (cntI s x (zN s 2)))), sI h 3586 189 (nI 0)) := fun x hx => r_are (f0.sh hs) R0 w hx (zN s 2) 0 (by omega)
  unfold ctA
  rcases hv_c x (show 18 < 2 ^ 31 by decide) with ⟨e, q⟩ | ⟨j, hj, rfl, e⟩
  · have ne := hv_ne (by decide) e
    rw [t_184 hs, e]
    by_cases q6 : x < nI 6
    · rw [if_pos q6, if_neg (ne 0 (by decide)), if_neg (ne 1 (by decide)), if_neg (ne 2 (by decide)), if_neg (ne 3 (by decide)), if_neg (ne 4 (by decide)), if_neg (ne 5 (by decide)), if_neg (ne 6 (by decide)), if_neg (ne 7 (by decide)), if_neg (ne 8 (by decide)), if_neg (ne 9 (by decide)), if_neg (ne 10 (by decide)), if_neg (ne 11 (by decide)), if_neg (ne 12 (by decide)), if_neg (ne 13 (by decide)), if_neg (ne 14 (by decide)), if_neg (ne 15 (by decide)), if_neg (ne 16 (by decide)), if_neg (ne 17 (by decide))]
    · have q10 : nI 10 < x := by
        rcases q with q | ⟨q, r⟩
        · exact absurd (Int32.lt_trans q (show nI 0 < nI 6 by decide)) q6
        · rcases Int32.lt_or_le (nI 10) x with y | y
          · exact y
          · exact absurd (Int32.lt_of_le_of_lt y (show nI 10 < nI 18 by decide)) r
      rw [if_neg q6, if_pos q10, if_neg (ne 0 (by decide)), if_neg (ne 1 (by decide)), if_neg (ne 2 (by decide)), if_neg (ne 3 (by decide)), if_neg (ne 4 (by decide)), if_neg (ne 5 (by decide)), if_neg (ne 6 (by decide)), if_neg (ne 7 (by decide)), if_neg (ne 8 (by decide)), if_neg (ne 9 (by decide)), if_neg (ne 10 (by decide)), if_neg (ne 11 (by decide)), if_neg (ne 12 (by decide)), if_neg (ne 13 (by decide)), if_neg (ne 14 (by decide)), if_neg (ne 15 (by decide)), if_neg (ne 16 (by decide)), if_neg (ne 17 (by decide))]
  · rw [e]
    dsimp only
    have cases18 : j = 0 ∨ j = 1 ∨ j = 2 ∨ j = 3 ∨ j = 4 ∨ j = 5 ∨ j = 6 ∨ j = 7 ∨ j = 8 ∨ j = 9 ∨ j = 10 ∨ j = 11 ∨ j = 12 ∨ j = 13 ∨ j = 14 ∨ j = 15 ∨ j = 16 ∨ j = 17 := by omega
    rw [t_184 hs]
    rcases cases18 with rfl | rfl | rfl | rfl | rfl | rfl | rfl | rfl | rfl | rfl | rfl | rfl | rfl | rfl | rfl | rfl | rfl | rfl
    · rw [if_pos (by decide), if_pos rfl, hN, gd_nI (by omega) (by decide), ix_nI (by omega), b1]; rfl
    · rw [if_pos (by decide), if_neg (by decide), if_pos rfl, hN, gd_nI (by omega) (by decide), ix_nI (by omega), b2]; rfl
    · rw [if_pos (by decide), if_neg (by decide), if_neg (by decide), if_pos rfl, hN, gd_nI (by omega) (by decide), ix_nI (by omega), b3]; rfl
    · rw [if_pos (by decide), if_neg (by decide), if_neg (by decide), if_neg (by decide), if_pos rfl, hN, gd_nI (by omega) (by decide), ix_nI (by omega), b4]; rfl
    · rw [if_pos (by decide), if_neg (by decide), if_neg (by decide), if_neg (by decide), if_neg (by decide), if_pos rfl, R.1.2.1]; rfl
    · rw [if_pos (by decide), if_neg (by decide), if_neg (by decide), if_neg (by decide), if_neg (by decide), if_neg (by decide), if_pos rfl, R.1.1]; rfl
    · rw [if_neg (by decide), if_neg (by decide)]; exact are 0 (by decide)
    · rw [if_neg (by decide), if_neg (by decide)]; exact are 1 (by decide)
    · rw [if_neg (by decide), if_neg (by decide)]; exact are 2 (by decide)
    · rw [if_neg (by decide), if_neg (by decide)]; exact are 3 (by decide)
    · rw [if_neg (by decide), if_neg (by decide)]; exact are 4 (by decide)
    · rw [if_neg (by decide), if_pos (by decide), if_neg (by decide), if_neg (by decide), if_neg (by decide), if_neg (by decide), if_neg (by decide), if_neg (by decide), if_neg (by decide), if_neg (by decide), if_neg (by decide), if_neg (by decide), if_neg (by decide), if_pos rfl, R.2.2.2.1]; rfl
    · rw [if_neg (by decide), if_pos (by decide), if_neg (by decide), if_neg (by decide), if_neg (by decide), if_neg (by decide), if_neg (by decide), if_neg (by decide), if_neg (by decide), if_neg (by decide), if_neg (by decide), if_neg (by decide), if_neg (by decide), if_neg (by decide), if_pos rfl, R.1.2.2.1]; rfl
    · rw [if_neg (by decide), if_pos (by decide), if_neg (by decide), if_neg (by decide), if_neg (by decide), if_neg (by decide), if_neg (by decide), if_neg (by decide), if_neg (by decide), if_neg (by decide), if_neg (by decide), if_neg (by decide), if_neg (by decide), if_neg (by decide), if_neg (by decide), if_pos rfl, ha]; rfl
    · rw [if_neg (by decide), if_pos (by decide), if_neg (by decide), if_neg (by decide), if_neg (by decide), if_neg (by decide), if_neg (by decide), if_neg (by decide), if_neg (by decide), if_neg (by decide), if_neg (by decide), if_neg (by decide), if_neg (by decide), if_neg (by decide), if_neg (by decide), if_neg (by decide), if_pos rfl, hc]; rfl
    · rw [if_neg (by decide), if_pos (by decide), if_neg (by decide), if_neg (by decide), if_neg (by decide), if_neg (by decide), if_neg (by decide), if_neg (by decide), if_neg (by decide), if_neg (by decide), if_neg (by decide), if_neg (by decide), if_neg (by decide), if_neg (by decide), if_neg (by decide), if_neg (by decide), if_neg (by decide), if_pos rfl, R.1.2.2.2.1]; rfl
    · rw [if_neg (by decide), if_pos (by decide), if_neg (by decide), if_neg (by decide), if_neg (by decide), if_neg (by decide), if_neg (by decide), if_neg (by decide), if_neg (by decide), if_neg (by decide), if_neg (by decide), if_neg (by decide), if_neg (by decide), if_neg (by decide), if_neg (by decide), if_neg (by decide), if_neg (by decide), if_neg (by decide), if_pos rfl, ht]; rfl
    · rw [if_neg (by decide), if_pos (by decide), if_neg (by decide), if_neg (by decide), if_neg (by decide), if_neg (by decide), if_neg (by decide), if_neg (by decide), if_neg (by decide), if_neg (by decide), if_neg (by decide), if_neg (by decide), if_neg (by decide), if_neg (by decide), if_neg (by decide), if_neg (by decide), if_neg (by decide), if_neg (by decide), if_neg (by decide), if_pos rfl, R.2.2.1.1]; rfl
end CNT
