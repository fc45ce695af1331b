/-! ===== MINUTES: the component's tick ===== -/
section CMN3
variable {d : Nat} {b : Nat} {bk : Bk}
/-- the next minute in which something may happen -/
theorem nx_r {h : AH} {s : St} {G Cp : Nat → Nat → Nat} (C : CSt h b bk s G Cp) (w : WS bk s) (hd : ∀ i, i ∈ rid s → iN s 9 i < 2 ^ 31) : ∀ (m k x : Nat), k + m = (rid s).length → x < 2 ^ 31 → ∃ x', x' ≤ x ∧ (x' = x ∨ ∃ i, i ∈ rid s ∧ x' = iN s 9 i) ∧ (∀ j, k ≤ j → j < (rid s).length → x' ≤ iN s 9 ((rid s).getD j 0)) ∧ Q (d + 3) 250 4 [some (.ref 156), none, some (.int (nI x)), some (.int (nI k)), none] [] h = Q (d + 3) 250 42 [some (.ref 156), none, some (.int (nI x')), some (.int (nI 0)), none] [] h
  | 0, k, x, e, hx => by
    obtain ⟨hs, hw, hb, B, C1, C2⟩ := id C
    have A : Ar h 165 (la G 1) (lc Cp 1) (rid s).length (fun k => G 4 ((rid s).getD k 0)) := C2.2.2 1 (Or.inl (by decide)) (Or.inl (by decide))
    have lb : (rid s).length ≤ 100000 := by
      obtain ⟨-, -, -, -, -, a6, a7, -⟩ := A
      omega
    refine ⟨x, Nat.le_refl _, Or.inl rfl, fun j h1 h2 => by omega, ?_⟩
    rw [t_250_4 hs, al_size hs A, cK_v, t_250_12 hs, if_neg (nI_nlt (by omega) (by omega))]
  | m + 1, k, x, e, hx => by
    obtain ⟨hs, hw, hb, B, C1, C2⟩ := id C
    have A : Ar h 165 (la G 1) (lc Cp 1) (rid s).length (fun k => G 4 ((rid s).getD k 0)) := C2.2.2 1 (Or.inl (by decide)) (Or.inl (by decide))
    have lb : (rid s).length ≤ 100000 := by
      obtain ⟨-, -, -, -, -, a6, a7, -⟩ := A
      omega
    have hk : k < (rid s).length := by omega
    have hm : (rid s).getD k 0 ∈ rid s := by rw [getD_ix hk]; exact List.getElem_mem hk
    obtain ⟨il, i5⟩ := (w.2.2.2.2.2.2.1.2 _).mp hm
    have ci := C1.2.2.2 _ il
    have c9 := ci.2.2.2.2.2.2.2.2.2.2.2.2.2.2.2 i5
    have hdi := hd _ hm
    obtain ⟨x', a1, a2, a3, a4⟩ := nx_r C w hd m (k + 1) (min x (iN s 9 ((rid s).getD k 0))) (by omega) (by omega)
    refine ⟨x', by omega, ?_, fun j h1 h2 => ?_, ?_⟩
    · rcases a2 with q | q
      · rw [q]
        by_cases q2 : x ≤ iN s 9 ((rid s).getD k 0)
        · exact Or.inl (by omega)
        · exact Or.inr ⟨_, hm, by omega⟩
      · exact Or.inr q
    · by_cases q : j = k
      · rw [q]; omega
      · exact a3 j (by omega) h2
    · rw [t_250_4 hs, al_size hs A, cK_v, t_250_12 hs, if_pos (nI_lt hk (by omega)), al_get hs A hk, cK_v, t_250_24 hs, ck_ok ci.1, ck_ok ci.1, c9, m_min hs hx hdi, cK_v, t_250_33 hs, nI_add]
      exact a4
theorem nx_c (W : WB bk) {h : AH} {s : St} {G Cp : Nat → Nat → Nat} (C : CSt h b bk s G Cp) (w : WS bk s) : ∀ (m c x : Nat), c + m = bk 0 3 → x < 2 ^ 31 → ∃ x', x' ≤ x ∧ (x' = x ∨ ∃ c, c < bk 0 3 ∧ x' = tbC bk c (zN s 0)) ∧ (∀ j, c ≤ j → j < bk 0 3 → sG s j ≠ [] → x' ≤ tbC bk j (zN s 0)) ∧ Q (d + 3) 250 42 [some (.ref 156), none, some (.int (nI x)), some (.int (nI c)), none] [] h = some (some (.int (nI x')), h)
  | 0, c, x, e, hx => by
    have w3 := W.1.2.2.2.1
    obtain ⟨hs, hw, hb, B, C1, C2⟩ := id C
    obtain ⟨p3, q3⟩ := B.2.2.1 3 (by decide)
    refine ⟨x, Nat.le_refl _, Or.inl rfl, fun j h1 h2 => by omega, ?_⟩
    rw [t_250_42 hs, hb, Option.bind_some, ck_ok B.1, p3, Option.bind_some, ck_ok q3.1, al_size hs q3, cK_v, t_250_53 hs, if_neg (nI_nlt (by omega) (by omega))]
  | m + 1, c, x, e, hx => by
    have w3 := W.1.2.2.2.1
    have wz := w.2.1
    have hc : c < bk 0 3 := by omega
    obtain ⟨hs, hw, hb, B, C1, C2⟩ := id C
    obtain ⟨p3, q3⟩ := B.2.2.1 3 (by decide)
    obtain ⟨d1, d2, d3, d4, d5, d6, d7, d8, d9⟩ := B.2.2.2.2.2.2.2 c hc
    have A := C2.2.2 (30 + c) (Or.inr (Or.inr ⟨by omega, by omega⟩)) (Or.inr (by omega))
    rw [lX_bg, lo_bg] at A
    obtain ⟨-, -, v3, v4, v5, -⟩ := W.2.2.2.2.2 c hc
    have hgt : tbC bk c (zN s 0) ≤ zN s 0 + 2880 := tbS_le v5 v4 v3
    have pre : Q (d + 3) 250 42 [some (.ref 156), none, some (.int (nI x)), some (.int (nI c)), none] [] h = Q (d + 3) 250 80 [some (.ref 156), none, some (.int (nI x)), some (.int (nI c)), some (.ref (G 3 c))] [.int (if (sG s c).length = 0 then nI 1 else nI 0)] h := by
      rw [t_250_42 hs, hb, Option.bind_some, ck_ok B.1, p3, Option.bind_some, ck_ok q3.1, al_size hs q3, cK_v, t_250_53 hs, if_pos (nI_lt hc (by omega)), hb, Option.bind_some, ck_ok B.1, p3, Option.bind_some, ck_ok q3.1, al_get hs q3 hc, cK_v, t_250_67 hs, ck_ok d1, ck_ok d1, d9, Option.bind_some, ck_ok A.1, al_empty hs A, cK_v]
    rw [pre, t_250_80 hs]
    by_cases q : (sG s c).length = 0
    · rw [if_pos q, if_neg (by decide)]
      obtain ⟨x', a1, a2, a3, a4⟩ := nx_c W C w m (c + 1) x (by omega) hx
      refine ⟨x', a1, a2, fun j h1 h2 h3 => ?_, by rw [nI_add]; exact a4⟩
      by_cases q2 : j = c
      · rw [q2] at h3; exact absurd (List.length_eq_zero_iff.mp q) h3
      · exact a3 j (by omega) h2 h3
    · rw [if_neg q, if_pos rfl]
      obtain ⟨x', a1, a2, a3, a4⟩ := nx_c W C w m (c + 1) (min x (tbC bk c (zN s 0))) (by omega) (by omega)
      refine ⟨x', by omega, ?_, fun j h1 h2 h3 => ?_, ?_⟩
      · rcases a2 with r | r
        · rw [r]
          by_cases q2 : x ≤ tbC bk c (zN s 0)
          · exact Or.inl (by omega)
          · exact Or.inr ⟨c, hc, by omega⟩
        · exact Or.inr r
      · by_cases q2 : j = c
        · rw [q2]; omega
        · exact a3 j (by omega) h2 h3
      · rw [ck_ok d1, show gI h 2051 156 = nI (zN s 0) from C1.1, c_time hs W B hc (by omega), cK_v, t_250_93 hs, m_min hs hx (by omega), cK_v, t_250_96 hs, nI_add]
        exact a4
theorem c_next (W : WB bk) {h : AH} {s : St} {G Cp : Nat → Nat → Nat} (C : CSt h b bk s G Cp) (w : WS bk s) {e : Nat} (he : e < 2 ^ 31) (h0 : zN s 0 < e) : ∃ x, zN s 0 < x ∧ x ≤ e ∧ (∀ t, t ∈ sT s → x ≤ t.2.1) ∧ (∀ c, c < bk 0 3 → sG s c ≠ [] → x ≤ tbC bk c (zN s 0)) ∧ E (d + 4) 250 [.ref 156, .int (nI e)] h = some (some (.int (nI x)), h) := by
  have wz := w.2.1
  obtain ⟨v1, v2, v3⟩ := w.c
  have hd : ∀ i, i ∈ rid s → iN s 9 i < 2 ^ 31 ∧ zN s 0 < iN s 9 i := fun i hi => by
    obtain ⟨x, x1, x2⟩ := List.mem_flatMap.mp hi
    obtain ⟨b1, b2, b3, b4, b5, b6⟩ := v2.1 x x1
    have := (W.2.2.2.2.2 x.1 b1).2.2.2.2.2.2.2.1
    have h1 := (b6 i x2).2.1
    have h2 := v3 x x1
    omega
  obtain ⟨x1, a1, a2, a3, a4⟩ := nx_r (d := d) C w (fun i hi => (hd i hi).1) (rid s).length 0 e (by omega) he
  obtain ⟨x2, b1, b2, b3, b4⟩ := nx_c (d := d) W C w (bk 0 3) 0 x1 (by omega) (by omega)
  have h1 : zN s 0 < x1 := by
    rcases a2 with q | ⟨i, hi, q⟩
    · omega
    · have := (hd i hi).2; omega
  refine ⟨x2, ?_, by omega, fun t ht => ?_, fun c hc hg => b3 c (by omega) hc hg, ?_⟩
  · rcases b2 with q | ⟨c, hc, q⟩
    · omega
    · obtain ⟨-, -, u3, u4, u5, -⟩ := W.2.2.2.2.2 c hc
      have : zN s 0 < tbC bk c (zN s 0) := tbS_gt u5 u4 u3
      omega
  · obtain ⟨c1, c2, c3, c4, c5, c6⟩ := v2.1 t ht
    obtain ⟨i, hi⟩ := List.exists_mem_of_length_pos (show 0 < t.2.2.length by omega)
    have hr : i ∈ rid s := List.mem_flatMap.mpr ⟨t, ht, hi⟩
    obtain ⟨j, hj, ej⟩ := List.getElem_of_mem hr
    have := a3 j (by omega) hj
    rw [getD_ix hj, ej, (c6 i hi).2.1] at this
    omega
  · rw [t_250 C.1, a4, b4]
theorem pass_lp (W : WB bk) {n e : Nat} (hn : n ≤ 3000) (he : e < 2 ^ 29) : ∀ (f i : Nat) (h : AH) (s : St) (G Cp : Nat → Nat → Nat), i + f = n → zN s 0 ≤ e → e - zN s 0 ≤ f → CSt h b bk s G Cp → WS bk s → capB bk s Cp →
    ∃ h' G' Cp', Q (d + 8) 202 9 [some (.ref 156), some (.int (nI n)), some (.int (nI e)), some (.int (nI i))] [] h = some (some (.int (nI e)), h') ∧ CSt h' b bk (tmnS bk (e - zN s 0) s) G' Cp' ∧ RM h Cp h' Cp' ∧ capB bk (tmnS bk (e - zN s 0) s) Cp' ∧ (∀ j, j ≠ 9 → G' j = G j) ∧ GFc h h'
  | 0, i, h, s, G, Cp, ei, h1, h2, C, w, hcb => by
    have ez : e = zN s 0 := by omega
    refine ⟨h, G, Cp, ?_, by rw [show e - zN s 0 = 0 from by omega]; exact C, RM.rfl rfl, by rw [show e - zN s 0 = 0 from by omega]; exact hcb, fun _ _ => rfl, GF.rfl⟩
    rw [t_202_9 C.1, if_neg (nI_nlt (by omega) (by omega)), show gI h 2051 156 = nI (zN s 0) from C.2.2.2.2.1.1, ez]
  | f + 1, i, h, s, G, Cp, ei, h1, h2, C, w, hcb => by
    obtain ⟨hs, hw, hb, B, C1, C2⟩ := id C
    have cz : gI h 2051 156 = nI (zN s 0) := C1.1
    by_cases q : zN s 0 < e
    · obtain ⟨x, x1, x2, x3, x4, x5⟩ := c_next (d := d + 4) W C w (by omega) q
      have f0 : Fr [2051] [] h (sI h 2051 156 (nI x)) := Fr.rfl.sI (by decide)
      have hs0 := f0.sh hs
      have C10 : CS1 (sI h 2051 156 (nI x)) bk (stZ s 0 x) G := ⟨(up2_s : up2 (gI h) 2051 156 (nI x) 2051 156 = nI x), C1.2.1, C1.2.2.1, C1.2.2.2⟩
      have Ca : CSt (sI h 2051 156 (nI x)) b bk (stZ s 0 x) G Cp := C.fr f0 (by decide) (by decide) (fun r => rfl) C10
      obtain ⟨a1, a2, a3⟩ := w.z (n := x) (by omega) (by omega) (fun t ht => x3 t ht)
      obtain ⟨h1', G1, Cp1, b1, b2, b3, b4, b5, b6⟩ := c_letCome (d := d) W Ca a1 a2 hcb
      obtain ⟨v1, v2, v3, v4⟩ := WS.ar a1 a2
      rw [zZ] at v2
      obtain ⟨h2', G2, Cp2, c1, c2, c3, c4, c5, c6⟩ := c_letGo_lp (d := d) W (bk 0 3) 0 h1' (avS bk (stZ s 0 x)) G1 Cp1 (by omega) b2 v1 b4 (by omega) (fun t ht _ => by
        rw [v4] at ht
        rw [v2]
        exact a3 t (List.mem_filter.mp ht).1)
      -- the minutes in between are quiet
      have key : goF bk (bk 0 3) 0 (avS bk (stZ s 0 x)) = tmnS bk (x - zN s 0) s := by
        rw [show x - zN s 0 = (x - zN s 0 - 1) + 1 from by omega, tmnS_add]
        rw [tmn_q W (x - zN s 0 - 1) s (fun t ht i hi => ((w.c.2.1.1 t ht).2.2.2.2.2 i hi).2.1) (fun t ht => by have := x3 t ht; omega) (fun c hc hg => by have := x4 c hc hg; omega)]
        show _ = mnS bk (stZ s 0 (zN s 0 + (x - zN s 0 - 1)))
        unfold mnS
        rw [zZ, stZ_Z, show zN s 0 + (x - zN s 0 - 1) + 1 = x from by omega]
      rw [key] at c2 c4
      obtain ⟨t1, t2, t3⟩ := WS.tk W (x - zN s 0) s w (by omega)
      obtain ⟨h3', G3, Cp3, d1, d2, d3, d4, d5, d6⟩ := pass_lp W hn he f (i + 1) h2' (tmnS bk (x - zN s 0) s) G2 Cp2 (by omega) (by omega) (by omega) c2 t1 c4
      have key2 : tmnS bk (e - zN (tmnS bk (x - zN s 0) s) 0) (tmnS bk (x - zN s 0) s) = tmnS bk (e - zN s 0) s := by
        rw [← tmnS_add, t2]
        congr 1; omega
      rw [key2] at d2 d4
      refine ⟨h3', G3, Cp3, ?_, d2, (RM.rfl f0.1).trans (b3.trans (c3.trans d3)), d4, fun j q => (d5 j q).trans ((c5 j q).trans (b5 j q)), (f0.gfc (by decide)).trans (b6.trans (c6.trans d6))⟩
      have e252 : E (d + 8) 252 [.ref 156] h1' = some (none, h2') := by
        rw [t_252 b2.1]; exact c1
      rw [t_202_9 hs, if_pos (nI_lt (by omega) (by omega)), cz, if_pos (nI_lt q (by omega)), x5, cK_v, t_202_28 hs, ck_ok (show gC h 156 = 8 from ShC hs (by decide)), b1, cK_n, t_202_35 b2.1, e252, cK_n, t_202_39 c2.1, nI_add]
      exact d1
    · have ez : e = zN s 0 := by omega
      refine ⟨h, G, Cp, ?_, by rw [show e - zN s 0 = 0 from by omega]; exact C, RM.rfl rfl, by rw [show e - zN s 0 = 0 from by omega]; exact hcb, fun _ _ => rfl, GF.rfl⟩
      rw [t_202_9 hs, if_pos (nI_lt (by omega) (by omega)), cz, if_neg (nI_nlt (by omega) (by omega)), ez]
theorem c_tick (W : WB bk) {h : AH} {s : St} {G Cp : Nat → Nat → Nat} (hz : zN s 0 + 3000 < 2 ^ 29) (C : CSt h b bk s G Cp) (w : WS bk s) (hcb : capB bk s Cp) (x : Int32) : ∃ h' G' Cp', E (d + 10) 9 [.ref 100, .int x] h = some (some (.int (tkA bk s x).1), h') ∧ CSt h' b bk (tkA bk s x).2 G' Cp' ∧ RM h Cp h' Cp' ∧ capB bk (tkA bk s x).2 Cp' ∧ (∀ j, j ≠ 9 → G' j = G j) ∧ GFc h h' := by
  have hs := C.1
  unfold tkA
  rw [t_9 hs]
  rcases hv_c x (show 3001 < 2 ^ 31 by decide) with ⟨e, q | ⟨q, r⟩⟩ | ⟨j, hj, rfl, e⟩
  · rw [if_pos q, e, t_9_23 hs]; exact ⟨h, G, Cp, rfl, C, RM.rfl rfl, hcb, fun _ _ => rfl, GF.rfl⟩
  · have r2 : nI 3000 < x := by
      rcases Int32.lt_or_le (nI 3000) x with y | y
      · exact y
      · exact absurd (Int32.lt_of_le_of_lt y (show nI 3000 < nI 3001 by decide)) r
    rw [if_neg q, if_pos r2, e, t_9_23 hs]; exact ⟨h, G, Cp, rfl, C, RM.rfl rfl, hcb, fun _ _ => rfl, GF.rfl⟩
  · obtain ⟨t1, t2, t3⟩ := WS.tk W j s w (by omega)
    obtain ⟨h1, G1, Cp1, a1, a2, a3, a4, a5, a6⟩ := pass_lp (d := d) W (n := j) (e := zN s 0 + j) (by omega) (by omega) j 0 h s G Cp (by omega) (by omega) (by omega) C w hcb
    rw [show zN s 0 + j - zN s 0 = j from by omega] at a2 a4
    rw [if_neg (nI_nlt (by omega) (by omega)), if_neg (nI_nlt (by omega) (by omega)), e]
    refine ⟨h1, G1, Cp1, ?_, a2, a3, a4, a5, a6⟩
    have e1 : E (d + 9) 202 [.ref 156, .int (nI j)] h = some (some (.int (nI (zN s 0 + j))), h1) := by
      rw [t_202 hs, show gI h 2051 156 = nI (zN s 0) from C.2.2.2.2.1.1, nI_add]; exact a1
    rw [e1, cK_v, t_9_23 a2.1]
    dsimp only
    rw [t2]
end CMN3
