/-! ===== MINUTES: the reference, coaches come and go ===== -/
theorem avL_app {bk : Bk} : ∀ (xs ys : List Nat) (s : St), avL bk (xs ++ ys) s = avL bk ys (avL bk xs s)
  | [], _, _ => rfl
  | i :: xs, ys, s => by
    show avL bk (xs ++ ys) _ = avL bk ys (avL bk xs _)
    exact avL_app xs ys _
abbrev XT : List Nat := [248, 249, 250, 253, 254, 255, 256, 257, 258, 259, 260, 261]
section RMN2
variable {d : Nat} {bk : Bk} {v : Nat}
theorem ar_lp (W : WB bk) (hv' : v ≤ 1) {T0 : List (Nat × Nat × List Nat)} (hT0 : T0.length ≤ 200) : ∀ (rest P K : List (Nat × Nat × List Nat)) (h : AH) (s : St) (rl : List Nat), P ++ rest = T0 → K.length ≤ P.length → Sh h → gI h 3597 189 = nI v → RB h v bk → RS h (stT s (K ++ T0.drop K.length)) → WSc bk s rl → (∀ t, t ∈ K ++ T0 → t.2.2.length ≤ 20) → (rest.flatMap fun t => t.2.2).Nodup → (∀ t, t ∈ rest → t.1 < bk 0 3 ∧ t.2.1 < 2 ^ 31 ∧ ∀ i, i ∈ t.2.2 → i ∈ rl ∧ iN s 9 i = t.2.1 ∧ iN s 6 i = bk 26 t.1) →
    ∃ h', Q (d + 2) 103 4 [some (.ref 189), some (.int (nI K.length)), some (.int (nI P.length)), none, none] [] h = some (none, h') ∧ RS h' (stT (avL bk (rest.flatMap fun t => t.2.2) s) (K ++ rest.filter fun t => decide (t.2.1 ≠ zN s 0))) ∧ Fr [3676, 3678] XT h h'
  | [], P, K, h, s, rl, e, hK, hs, hN, B, R, w, hl, nd, hr => by
    have el : P.length = T0.length := by rw [← e, List.append_nil]
    have elen : (K ++ T0.drop K.length).length = T0.length := by rw [List.length_append, List.length_drop]; omega
    have r0 := R.2.2.1.1
    rw [show sT (stT s (K ++ T0.drop K.length)) = K ++ T0.drop K.length from rfl, elen] at r0
    have f : Fr [3676] [] h (sI h 3676 189 (nI K.length)) := Fr.rfl.sI (by decide)
    refine ⟨sI h 3676 189 (nI K.length), ?_, ⟨R.1.fr f (by decide) (by decide), R.2.1.fr f (by decide), ?_, R.2.2.2.fr f (by decide) (by decide)⟩, f.wk (by decide) (by decide)⟩
    · rw [t_103_4 hs, r0, if_neg (nI_nlt (by omega) (by omega))]
    · show RS3 _ (stT s (K ++ []))
      rw [List.append_nil]
      refine ⟨(up2_s : up2 (gI h) 3676 189 (nI K.length) 3676 189 = nI K.length), fun t ht => ?_⟩
      have ht : t < K.length := ht
      have r := R.2.2.1.2 t (by show t < (K ++ T0.drop K.length).length; omega)
      have e1 : (sT (stT s (K ++ T0.drop K.length)))[t]'(by show t < (K ++ T0.drop K.length).length; omega) = K[t] := List.getElem_append_left ht
      simp only [e1] at r
      exact r
  | x :: rest, P, K, h, s, rl, e, hK, hs, hN, B, R, w, hl, nd, hr => by
    have w0 := W.1.1
    have w3 := W.1.2.2.2.1
    have el : P.length + (rest.length + 1) = T0.length := by rw [← e, List.length_append, List.length_cons]
    have elen : (K ++ T0.drop K.length).length = T0.length := by rw [List.length_append, List.length_drop]; omega
    have r0 := R.2.2.1.1
    rw [show sT (stT s (K ++ T0.drop K.length)) = K ++ T0.drop K.length from rfl, elen] at r0
    have hP : P.length < (K ++ T0.drop K.length).length := by omega
    have ex0 : T0[P.length]'(by omega) = x := by
      simp only [← e]
      rw [List.getElem_append_right (Nat.le_refl _)]
      simp
    have ex : (K ++ T0.drop K.length)[P.length] = x := by
      rw [List.getElem_append_right hK, List.getElem_drop, ← ex0]
      congr 1; omega
    have r := R.2.2.1.2 P.length hP
    simp only [show (sT (stT s (K ++ T0.drop K.length)))[P.length]'hP = x from ex] at r
    obtain ⟨r1, r2, r3, r4⟩ := r
    obtain ⟨x1, x2, x3⟩ := hr x List.mem_cons_self
    have xo := (W.2.2.2.2.2 x.1 x1).2.1
    rw [List.flatMap_cons] at nd
    obtain ⟨nd1, nd2, nd3⟩ := List.nodup_append.mp nd
    have xl : x.2.2.length ≤ 20 := hl x (List.mem_append_right _ (by rw [← e]; exact List.mem_append_right _ List.mem_cons_self))
    have wz := w.2.1
    have rc : gI h 3677 189 = nI (zN s 0) := R.1.2.1
    have bc : gA h 227 (40 * v + x.1) = nI (bk 26 x.1) := (B.2.2.2.2.2 x.1 x1).2.1
    obtain ⟨f1, -, -, -, f5, f6, -⟩ := avL_f (bk := bk) x.2.2 s
    -- what is left keeps to it
    have hr' : ∀ t, t ∈ rest → t.1 < bk 0 3 ∧ t.2.1 < 2 ^ 31 ∧ ∀ i, i ∈ t.2.2 → iN (avL bk x.2.2 s) 9 i = t.2.1 ∧ iN (avL bk x.2.2 s) 6 i = bk 26 t.1 := fun t ht => by
      obtain ⟨t1, t2, t3⟩ := hr t (List.mem_cons_of_mem _ ht)
      refine ⟨t1, t2, fun i hi => ?_⟩
      have ni : i ∉ x.2.2 := fun q => nd3 i q i (List.mem_flatMap.mpr ⟨t, ht, hi⟩) rfl
      rw [(f1 9 i ni).1, (f1 6 i ni).1]
      exact (t3 i hi).2
    rw [t_103_4 hs, r0, if_pos (nI_lt (by omega) (by omega)), gd_nI (by omega) (by decide), ix_nI (by omega), r2, rc, hN, r1]
    simp only [show (nI x.2.1 = nI (zN s 0)) = (x.2.1 = zN s 0) from propext (nI_eq (by omega) (by omega))]
    by_cases q : x.2.1 = zN s 0
    · rw [if_pos q, gd_nI (by omega) (by decide), pk_mul, nI_add, gd_nI (by omega) (by decide), ix_nI (by omega), bc]
      obtain ⟨h1, a1, a2, a3⟩ := ar_in (d := d) (stay := K.length) (o := bk 26 x.1) W hv' hP (show (K ++ T0.drop K.length)[P.length] = (x.1, x.2.1, x.2.2) from ex) (by omega) xl xo x.2.2 [] h s rl rfl hs hN B R w nd1 (fun i hi => ⟨(x3 i hi).1, by rw [(x3 i hi).2.1]; exact q, (x3 i hi).2.2⟩)
      have hs1 := a3.sh hs
      obtain ⟨rl', u1, u2⟩ := WSc.ar (bk := bk) x.2.2 s rl w nd1 (fun i hi => (x3 i hi).1)
      obtain ⟨h2, b1, b2, b3⟩ := ar_lp W hv' hT0 rest (P ++ [x]) K h1 (avL bk x.2.2 s) rl' (by rw [List.append_assoc]; exact e) (by rw [List.length_append]; omega) hs1 (by rw [a3.I (by decide)]; exact hN) (B.fr a3 (by decide)) a2 u1 hl nd2 (fun t ht => by
        obtain ⟨t1, t2, t3⟩ := hr' t ht
        refine ⟨t1, t2, fun i hi => ⟨?_, t3 i hi⟩⟩
        rw [u2 i]
        exact ⟨((hr t (List.mem_cons_of_mem _ ht)).2.2 i hi).1, fun y => nd3 i y.1 i (List.mem_flatMap.mpr ⟨t, ht, hi⟩) rfl⟩)
      refine ⟨h2, ?_, ?_, (a3.wk (by decide) (by decide)).trans b3⟩
      · rw [List.length_append] at b1
        exact a1.trans b1
      · rw [List.flatMap_cons, avL_app, List.filter_cons_of_neg (by rw [decide_eq_true_iff]; exact fun y => y q)]
        rw [f5] at b2; exact b2
    · rw [if_neg q]
      have r258 : ∀ j, gA h 258 j = if 20 * K.length ≤ j ∧ j < 20 * K.length + 0 then gA h 258 (j - 20 * K.length + 20 * P.length) else gA h 258 j := fun j => by rw [if_neg (by omega)]
      obtain ⟨h1, a1, a2, a3, a4, a5, a6⟩ := ar_cp (d := d + 2) (y1 := 0) (y2 := 0) (y3 := 0) (t := P.length) (stay := K.length) (n := x.2.2.length) (f := gA h 258) (by omega) hK xl x.2.2.length 0 h (by omega) hs r3 r258
      have hs1 := a2.sh hs
      have Kx : (K ++ [x]).length = K.length + 1 := List.length_append
      have elen' : ((K ++ [x]) ++ T0.drop (K ++ [x]).length).length = T0.length := by rw [List.length_append, List.length_drop, Kx]; omega
      have qs : avL bk x.2.2 s = s := avL_q _ _ fun i hi => by rw [(x3 i hi).2.1]; exact q
      have R1 : RS h1 (stT s ((K ++ [x]) ++ T0.drop (K ++ [x]).length)) := by
        refine ⟨R.1.fr a2 (by decide) (by decide), R.2.1.fr a2 (by decide), ⟨?_, fun t ht => ?_⟩, R.2.2.2.fr a2 (by decide) (by decide)⟩
        · rw [show sT (stT s ((K ++ [x]) ++ T0.drop (K ++ [x]).length)) = (K ++ [x]) ++ T0.drop (K ++ [x]).length from rfl, elen', a2.I (by decide)]
          exact r0
        · have ht : t < ((K ++ [x]) ++ T0.drop (K ++ [x]).length).length := ht
          show gA h1 260 t = nI ((K ++ [x]) ++ T0.drop (K ++ [x]).length)[t].1 ∧ gA h1 261 t = nI ((K ++ [x]) ++ T0.drop (K ++ [x]).length)[t].2.1 ∧ gA h1 259 t = nI ((K ++ [x]) ++ T0.drop (K ++ [x]).length)[t].2.2.length ∧ ∀ k (hk : k < ((K ++ [x]) ++ T0.drop (K ++ [x]).length)[t].2.2.length), gA h1 258 (20 * t + k) = nI ((K ++ [x]) ++ T0.drop (K ++ [x]).length)[t].2.2[k]
          by_cases q1 : t = K.length
          · subst q1
            have e1 : ((K ++ [x]) ++ T0.drop (K ++ [x]).length)[K.length] = x := by
              rw [List.getElem_append_left (by omega), List.getElem_append_right (Nat.le_refl _)]
              simp
            simp only [e1]
            rw [a4, a5, a6, up1_s, up1_s, up1_s]
            refine ⟨r1, r2, r3, fun k hk => ?_⟩
            rw [a3, if_pos (by omega), show 20 * K.length + k - 20 * K.length + 20 * P.length = 20 * P.length + k from by omega]
            exact r4 k hk
          · have e1 : ((K ++ [x]) ++ T0.drop (K ++ [x]).length)[t] = (K ++ T0.drop K.length)[t]'(by omega) := by
              by_cases q2 : t < K.length
              · rw [List.getElem_append_left (by omega), List.getElem_append_left q2, List.getElem_append_left q2]
              · rw [List.getElem_append_right (by omega), List.getElem_append_right (by omega), List.getElem_drop, List.getElem_drop]
                congr 1
                rw [Kx]; omega
            have rr := R.2.2.1.2 t (by show t < (K ++ T0.drop K.length).length; omega)
            simp only [e1]
            obtain ⟨s1, s2, s3, s4⟩ := rr
            rw [a4, a5, a6, up1_x q1, up1_x q1, up1_x q1]
            refine ⟨s1, s2, s3, fun k hk => ?_⟩
            have hk20 : k < 20 := by
              have hm : (K ++ T0.drop K.length)[t]'(by omega) ∈ K ++ T0 := by
                rcases List.mem_append.mp (List.getElem_mem (show t < (K ++ T0.drop K.length).length by omega)) with y | y
                · exact List.mem_append_left _ y
                · exact List.mem_append_right _ (List.mem_of_mem_drop y)
              have := hl _ hm
              omega
            rw [a3, if_neg (by omega)]
            exact s4 k hk
      obtain ⟨h2, b1, b2, b3⟩ := ar_lp W hv' hT0 rest (P ++ [x]) (K ++ [x]) h1 s rl (by rw [List.append_assoc]; exact e) (by rw [Kx, List.length_append]; show K.length + 1 ≤ P.length + 1; omega) hs1 (by rw [a2.I (by decide)]; exact hN) (B.fr a2 (by decide)) R1 w (fun t ht => by
          rcases List.mem_append.mp ht with y | y
          · rcases List.mem_append.mp y with z | z
            · exact hl t (List.mem_append_left _ z)
            · rw [List.mem_singleton] at z; rw [z]; exact xl
          · exact hl t (List.mem_append_right _ y)) nd2 (fun t ht => by
        obtain ⟨t1, t2, t3⟩ := hr t (List.mem_cons_of_mem _ ht)
        exact ⟨t1, t2, t3⟩)
      refine ⟨h2, ?_, ?_, (a2.wk (by decide) (by decide)).trans b3⟩
      · rw [Kx, List.length_append] at b1
        exact a1.trans b1
      · rw [List.flatMap_cons, avL_app, qs, List.filter_cons_of_pos (by rw [decide_eq_true_iff]; exact q)]
        rw [List.append_assoc] at b2; exact b2
theorem TrC.len {s : St} (w : WSc bk s (rid s)) (t : TrC bk s (sT s)) : (sT s).length ≤ 200 := by
  have h1 := (w.len 0).2.2
  have : ∀ l : List (Nat × Nat × List Nat), (∀ t, t ∈ l → 1 ≤ t.2.2.length) → l.length ≤ (l.flatMap fun t => t.2.2).length := fun l => by
    induction l with
    | nil => intro _; exact Nat.le_refl _
    | cons a l ih =>
      intro h
      have h2 := ih fun t ht => h t (List.mem_cons_of_mem _ ht)
      have h3 := h a List.mem_cons_self
      rw [List.flatMap_cons, List.length_append, List.length_cons]
      omega
  have h4 := this (sT s) fun x hx => (t.1 x hx).2.2.2.1
  unfold rid at h1
  omega
theorem r_arrive (W : WB bk) (hv' : v ≤ 1) {h : AH} {s : St} (hs : Sh h) (hN : gI h 3597 189 = nI v) (B : RB h v bk) (R : RS h s) (w : WSc bk s (rid s)) (t : TrC bk s (sT s)) : ∃ h', E (d + 3) 103 [.ref 189] h = some (none, h') ∧ RS h' (avS bk s) ∧ Fr [3676, 3678] XT h h' := by
  have wz := w.2.1
  obtain ⟨h1, a1, a2, a3⟩ := ar_lp (d := d) W hv' (T0 := sT s) (TrC.len w t) (sT s) [] [] h s (rid s) rfl (Nat.le_refl _) hs hN B R w (fun x hx => (t.1 x hx).2.2.2.2.1) w.2.2.2.2.2.2.1.1 (fun x hx => by
    obtain ⟨b1, b2, b3, b4, b5, b6⟩ := t.1 x hx
    have := (W.2.2.2.2.2 x.1 b1).2.2.2.2.2.2.2.1
    exact ⟨b1, by omega, fun i hi => ⟨List.mem_flatMap.mpr ⟨x, hx, hi⟩, (b6 i hi).2.1, (b6 i hi).2.2⟩⟩)
  exact ⟨h1, by rw [t_103 hs]; exact a1, a2, a3⟩
end RMN2
