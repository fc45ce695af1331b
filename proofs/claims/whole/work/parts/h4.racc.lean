/-! ===== accept AS A CALL (reference) ===== -/
abbrev KAc : List Nat := 3586 :: 3590 :: 3591 :: 3654 :: 3667 :: 3678 :: KA
abbrev XAc : List Nat := [242, 243, 244, 245, 246, 247, 248, 249, 250, 251, 252, 253, 254, 255] ++ XA
section RAC
variable {d : Nat} {h : AH} {bk : Bk} {s : St} {t : Tp} {v : Nat}
theorem sumP_c {f g : Nat → Int32} : ∀ n, (∀ i, i < n → f i = g i) → sumP f n = sumP g n
  | 0, _ => rfl
  | n + 1, h => by
    unfold sumP
    rw [sumP_c n fun i hi => h i (by omega), h n (by omega)]
theorem RS2.put {h h' : AH} {s s' : St} {o i : Nat} (R : RS2 h s) (hl : ∀ o, (sH s o).length ≤ 199) (e1 : gA h' 254 = up1 (gA h 254) (200 * o + (sH s o).length) (nI i)) (e2 : gA h' 255 = up1 (gA h 255) o (nI ((sH s o).length + 1))) (e3 : gA h' 256 = gA h 256) (e4 : gA h' 257 = gA h 257) (eH : sH s' = up1 (sH s) o (sH s o ++ [i])) (eG : sG s' = sG s) : RS2 h' s' := by
  refine ⟨fun o' ho' => ?_, fun c hc => by rw [e3, e4, eG]; exact R.2 c hc⟩
  obtain ⟨b1, b2⟩ := R.1 o' ho'
  have hl3 := hl o'
  rw [e1, e2]
  simp only [eH]
  by_cases q : o' = o
  · subst q
    have e1 : up1 (sH s) o' (sH s o' ++ [i]) o' = sH s o' ++ [i] := up1_s
    simp only [e1]
    refine ⟨by rw [up1_s, List.length_append]; rfl, fun k hk => ?_⟩
    rw [List.length_append] at hk
    by_cases q2 : k = (sH s o').length
    · subst q2
      rw [up1_s, List.getElem_append_right (Nat.le_refl _)]
      simp
    · have hk2 : k < (sH s o').length := by
        have : k < (sH s o').length + 1 := hk
        omega
      rw [up1_x (by omega), List.getElem_append_left hk2]
      exact b2 k hk2
  · have e1 : up1 (sH s) o (sH s o ++ [i]) o' = sH s o' := up1_x q
    simp only [e1]
    refine ⟨by rw [up1_x q]; exact b1, fun k hk => ?_⟩
    have := hl o
    rw [up1_x (by omega)]
    exact b2 k hk
theorem r_taken (hs : Sh h) (W : WB bk) (hv' : v ≤ 1) (hN : gI h 3597 189 = nI v) (B : RB h v bk) {sv : Nat} (hS : sv < bk 0 2) (x : Int32) : E (d + 1) 83 [.ref 189, .int (nI sv), .int x] h = some (some (.int (match tkS bk sv x with
    | none => nI 0
    | some _ => nI 1)), h) := by
  have w2 := W.1.2.2.1
  have wm := (W.2.2.2.2.1 sv hS).2.2.1
  have bm := (B.2.2.2.2.1 sv hS).2.2.1
  rw [t_83 hs]
  rcases tkS_c W hS x with ⟨e, q | ⟨q, r⟩⟩ | ⟨w, h1, h2, rfl, e⟩
  · rw [if_neg (fun w => by
      rcases pk_ix x (show 1 < 2 ^ 31 by decide) with q1 | q1 | ⟨j, hj, q1⟩
      · exact Int32.lt_irrefl (Int32.lt_trans w q1)
      · exact Int32.lt_irrefl (Int32.lt_of_lt_of_le q q1)
      · have : j = 0 := by omega
        subst this
        rw [q1] at w
        exact absurd w (by decide)), e]
  · rw [if_pos (show nI 0 < x from Int32.lt_trans (show nI 0 < nI (bk 19 sv) from nI_lt (by have := (W.2.2.2.2.1 sv hS).2.1; omega) (by omega)) r), hN, pk_mul, nI_add, gd_nI (by omega) (by decide), ix_nI (by omega), bm, if_pos r, e]
  · rw [if_pos (nI_lt (by omega) (by omega)), hN, pk_mul, nI_add, gd_nI (by omega) (by decide), ix_nI (by omega), bm, if_neg (nI_nlt h2 (by omega)), e]
theorem r_accept (hs : Sh h) (W : WB bk) (N : WN bk) (w : WS bk s) (hv' : v ≤ 1) (hN : gI h 3597 189 = nI v) (B : RB h v bk) (R : RS h s) (T : RT h t) {sv f : Nat} (hS : sv < bk 0 2) (hf : f < bk 0 0) (x : Int32) : ∃ h', E (d + 6) 97 [.ref 189, .int (nI sv), .int x, .int (nI f)] h = some (some (.int (acA bk s t sv f x).1), h') ∧ gI h' 3586 189 = nI 0 ∧ Fr KAc XAc h h' ∧ RS h' (acA bk s t sv f x).2 ∧ RT h' (0, t.2) := by
  have w0 := W.1.1
  have w1 := W.1.2.1
  have w2 := W.1.2.2.1
  have wz := w.1
  have f1 : Fr KAc [] h (sI (sI h 3591 189 (gI h 3590 189)) 3590 189 (nI 0)) := (Fr.rfl.sI (by decide)).sI (by decide)
  obtain ⟨g1, g1E⟩ : ∃ g, g = sI (sI h 3591 189 (gI h 3590 189)) 3590 189 (nI 0) := ⟨_, rfl⟩
  rw [← g1E] at f1
  have T1 : RTk g1 t := by rw [g1E]; exact RT.tk T
  have s1 := f1.sh hs
  have B1 : RB g1 v bk := B.fr f1 (fun x q => absurd q List.not_mem_nil)
  have N1 : gI g1 3597 189 = nI v := by rw [f1.I (by decide)]; exact hN
  obtain ⟨g2, g2E⟩ : ∃ g, g = sI g1 3586 189 (nI 0) := ⟨_, rfl⟩
  have f2 : Fr KAc [] h g2 := by rw [g2E]; exact f1.sI (by decide)
  have f12 : Fr [3586] [] g1 g2 := by rw [g2E]; exact Fr.rfl.sI (by decide)
  have s2 := f2.sh hs
  have z2 : gI g2 3590 189 = nI 0 := by rw [f12.I (by decide), g1E, gI_s]
  obtain ⟨g3, a1, a2, a3⟩ := r_addr (d := d + 1) s2 W N (B1.fr f12 (fun x q => absurd q List.not_mem_nil)) hv' (by rw [f12.I (by decide)]; exact N1) (T1.fr f12 (by decide) (by decide))
  have s3 := a2.sh s2
  have f3 : Fr KAc XA h g3 := (f2.wk (fun _ q => q) (fun _ q => absurd q List.not_mem_nil)).trans (a2.wk (by decide) (fun _ q => q))
  have f3' : Fr KAc XAc h g3 := f3.wk (fun _ q => q) (fun _ q => List.mem_append_right _ q)
  have t3 : gI g3 3586 189 = nI 0 := by rw [a2.I (by decide), g2E, gI_s]
  have z3 : gI g3 3590 189 = nI 0 := by rw [a2.I (by decide)]; exact z2
  have B3 : RB g3 v bk := B.fr f3 (fun x hx => by
    have : ∀ x, x ∈ XA → 232 < x := by decide
    exact Or.inr (this x hx))
  have N3 : gI g3 3597 189 = nI v := by rw [f3.I (by decide)]; exact hN
  obtain ⟨R1, R2, R3, R4⟩ := R
  have i3 : ∀ k, k ∈ [3654, 3667, 3677, 3678, 3676, 3688] → gI g3 k 189 = gI h k 189 := fun k hk => by
    have : ∀ k, k ∈ [3654, 3667, 3677, 3678, 3676, 3688] → k ∉ KA ∧ k ≠ 3586 ∧ k ≠ 3590 ∧ k ≠ 3591 := by decide
    obtain ⟨u1, u2, u3, u4⟩ := this k hk
    rw [a2.I u1, g2E, gI_k u2, g1E, gI_k u3, gI_k u4]
  have A3 : ∀ x, x ∉ XA → gA g3 x = gA h x := fun x hx => f3.A hx
  have RS3' : RS g3 s := by
    refine ⟨?_, ?_, ?_, ?_⟩
    · unfold RS1 at R1 ⊢
      rw [i3 3654 (by decide), i3 3677 (by decide), i3 3678 (by decide), i3 3667 (by decide), A3 242 (by decide), A3 243 (by decide), A3 244 (by decide), A3 245 (by decide), A3 246 (by decide), A3 247 (by decide), A3 248 (by decide), A3 249 (by decide), A3 250 (by decide), A3 251 (by decide), A3 252 (by decide), A3 253 (by decide)]
      exact R1
    · unfold RS2 at R2 ⊢
      rw [A3 254 (by decide), A3 255 (by decide), A3 256 (by decide), A3 257 (by decide)]; exact R2
    · unfold RS3 at R3 ⊢
      rw [i3 3676 (by decide), A3 258 (by decide), A3 259 (by decide), A3 260 (by decide), A3 261 (by decide)]; exact R3
    · unfold RS4 at R4 ⊢
      rw [i3 3688 (by decide), A3 265 (by decide), A3 266 (by decide), A3 267 (by decide), A3 268 (by decide)]; exact R4
  have e0 : E (d + 6) 97 [.ref 189, .int (nI sv), .int x, .int (nI f)] h = if adR bk t < nI 0 then some (some (.int (adR bk t)), g3) else cK (E (d + 5) 83 [.ref 189, .int (nI sv), .int x] g3) (Q (d + 5) 97 58 [some (.ref 189), some (.int (nI sv)), some (.int x), some (.int (nI f)), some (.int (adR bk t)), none]) [] := by
    rw [t_97 hs, t_36 hs, cK_n, ← g1E, t_97_4 s1, (r_has s1 W hv' N1 B1 _).2, cK_v, t_97_10 s1, hb1_s (hv_N hS (by omega)), if_neg (by decide), (r_has s1 W hv' N1 B1 _).1, cK_v, t_97_18 s1, hb1_s (hv_N hf (by omega)), if_neg (by decide), ck_ok (show gC g1 189 = 14 from ShC s1 (by decide)), ← g2E, show gI g2 3586 189 = nI 0 from by rw [g2E, gI_s], if_neg (by decide), a1, cK_v, t_97_42 s3]
  rw [e0]
  have same : ∀ u : Int32, ∃ h', some (some (Value.int u), g3) = some (some (Value.int u), h') ∧ gI h' 3586 189 = nI 0 ∧ Fr KAc XAc h h' ∧ RS h' s ∧ RT h' (0, t.2) := fun u => ⟨g3, rfl, t3, f3', RS3', RT.z z3⟩
  by_cases q : adR bk t < nI 0
  · have e : acA bk s t sv f x = (adR bk t, s) := if_pos q
    rw [if_pos q, e]; exact same _
  · rw [if_neg q]
    rcases ad_f (t := t) W N with (e | e) | ⟨p, D, F, u, e1, e2, e3, e4, e5⟩
    · rw [e] at q; exact absurd (by decide) q
    · rw [e] at q; exact absurd (by decide) q
    have wm := (W.2.2.2.2.1 sv hS).2.2.1
    have dd := (a3 u D F _ e1).1
    rw [r_taken (d := d + 4) s3 W hv' N3 B3 hS x, cK_v, t_97_58 s3]
    rcases tkS_c W hS x with ⟨e, -⟩ | ⟨wt, h1', h2', rfl, e⟩
    · have ee : acA bk s t sv f x = (-3, s) := by unfold acA; rw [if_neg q, e1, e]
      rw [ee, e, if_pos rfl]; exact same _
    · rw [e]
      rw [if_neg (show ¬ nI 1 = nI 0 by decide)]
      have r54 : gI g3 3654 189 = nI (zN s 2) := RS3'.1.1
      rw [r54]
      simp only [show (nI (zN s 2) = nI 200) = (zN s 2 = 200) from propext (nI_eq (by omega) (by decide))]
      by_cases z : zN s 2 = 200
      · have ee : acA bk s t sv f (nI wt) = (-4, s) := by unfold acA; rw [if_neg q, e1, e]; dsimp only; rw [if_neg (by omega)]
        rw [ee, if_pos z]; exact same _
      · have ee : acA bk s t sv f (nI wt) = (nI (zN s 2), acS bk s sv wt f p D (prA bk sv (nI wt) f (bk 9 p))) := by
          unfold acA; rw [if_neg q, e1, e]; dsimp only; rw [if_pos (by omega), ix_nI (by omega)]
        rw [ee, if_neg z]
        have zl : zN s 2 < 200 := by omega
        obtain ⟨pr, prE⟩ : ∃ pr, pr = prA bk sv (nI wt) f (bk 9 p) := ⟨_, rfl⟩
        rw [← prE]
        have bp := B3.2.2.2.1 p e3
        have wp := W.2.2.2.1 p e3
        have bo := B3.2.1 _ wp.2.2.1
        obtain ⟨g4, g4E⟩ : ∃ g, g = sA (sA (sA (sA (sA (sA (sA (sI g3 3654 189 (nI (zN s 2 + 1))) 242 (zN s 2) (nI sv)) 243 (zN s 2) (nI wt)) 244 (zN s 2) (nI f)) 246 (zN s 2) (nI p)) 247 (zN s 2) (nI D)) 245 (zN s 2) (nI (bk 2 (bk 9 p)))) 252 (zN s 2) (nI 0) := ⟨_, rfl⟩
        have f34 : Fr [3654] [242, 243, 244, 245, 246, 247, 252] g3 g4 := by
          rw [g4E]
          exact (((((((Fr.rfl.sI (by decide)).sA (by decide)).sA (by decide)).sA (by decide)).sA (by decide)).sA (by decide)).sA (by decide)).sA (by decide)
        have s4 := f34.sh s3
        have B4 : RB g4 v bk := B3.fr f34 (by decide)
        have N4 : gI g4 3597 189 = nI v := by rw [f34.I (by decide)]; exact N3
        have pe : prS bk sv wt (nI (znS bk f (bk 9 p))) = pr := by
          rw [prE]; unfold prA; rw [e]
        obtain ⟨g5, g5E⟩ : ∃ g, g = sI (sA g4 251 (zN s 2) pr) 3667 189 (gI g4 3667 189 + pr) := ⟨_, rfl⟩
        have f45 : Fr [3667] [251] g4 g5 := by rw [g5E]; exact (Fr.rfl.sA (by decide)).sI (by decide)
        have s5 := f45.sh s4
        have hl : ∀ o, (sH s o).length ≤ 199 := fun o => by
          have := nd_len (zN s 2) _ (w.2.2.2.2.1 o).1 fun i hi => (((w.2.2.2.2.1 o).2 i).mp hi).1
          omega
        have g255 : gA g5 255 f = nI (sH s f).length := by
          rw [f45.A (by decide), f34.A (by decide)]; exact (RS3'.2.1.1 f (by omega)).1
        have hlf := hl f
        obtain ⟨g6, g6E⟩ : ∃ g, g = sA (sA g5 254 (200 * f + (sH s f).length) (nI (zN s 2))) 255 f (nI ((sH s f).length + 1)) := ⟨_, rfl⟩
        have f56 : Fr [] [254, 255] g5 g6 := by rw [g6E]; exact (Fr.rfl.sA (by decide)).sA (by decide)
        have s6 := f56.sh s5
        have c6 : gI g6 3677 189 = nI (zN s 0) := by
          rw [f56.I (by decide), f45.I (by decide), f34.I (by decide)]; exact RS3'.1.2.1
        obtain ⟨g7, g7E⟩ : ∃ g, g = sA (sA (sA (sA g6 248 (zN s 2) (nI 0)) 249 (zN s 2) (nI f)) 250 (zN s 2) (-1)) 253 (zN s 2) (nI (zN s 0)) := ⟨_, rfl⟩
        have f67 : Fr [] [248, 249, 250, 253] g6 g7 := by rw [g7E]; exact (((Fr.rfl.sA (by decide)).sA (by decide)).sA (by decide)).sA (by decide)
        have s7 := f67.sh s6
        have f37 : Fr [3654, 3667] [242, 243, 244, 245, 246, 247, 248, 249, 250, 251, 252, 253, 254, 255] g3 g7 := (((f34.wk (by decide) (by decide)).trans (f45.wk (by decide) (by decide))).trans (f56.wk (by decide) (by decide))).trans (f67.wk (by decide) (by decide))
        have RS7 : RS g7 (stH (acS0 bk s sv wt f p D pr) f (sH s f ++ [zN s 2])) := by
          have q1 := RS3'.1
          refine ⟨⟨?_, ?_, ?_, ?_, fun i hi => ?_⟩, ?_, ?_, ?_⟩
          · rw [f67.I (by decide), f56.I (by decide), f45.I (by decide), g4E]
            show gI (sI g3 3654 189 (nI (zN s 2 + 1))) 3654 189 = _
            rw [gI_s]; rfl
          · rw [f37.I (by decide)]; exact q1.2.1
          · rw [f37.I (by decide)]; exact q1.2.2.1
          · rw [f67.I (by decide), f56.I (by decide), g5E, gI_s, f34.I (by decide), q1.2.2.2.1]
            show _ = sumP (up1 (iM s) (zN s 2) pr) (zN s 2) + up1 (iM s) (zN s 2) pr (zN s 2)
            rw [up1_s, sumP_c (f := up1 (iM s) (zN s 2) pr) (g := iM s) _ fun i hi => up1_x (by omega)]
          · have hi : i < zN s 2 + 1 := hi
            have x4 : ∀ x, x ∈ [242, 243, 244, 245, 246, 247, 252] → gA g7 x = gA g4 x := fun x hx => by
              rw [f67.A (by revert x; decide), f56.A (by revert x; decide), f45.A (by revert x; decide)]
            have x6 : ∀ x, x ∈ [248, 249, 250, 253] → gA g6 x = gA g3 x := fun x hx => by
              rw [f56.A (by revert x; decide), f45.A (by revert x; decide), f34.A (by revert x; decide)]
            have x251 : gA g7 251 = up1 (gA g3 251) (zN s 2) pr := by
              rw [f67.A (by decide), f56.A (by decide), g5E]
              show gA (sA g4 251 (zN s 2) pr) 251 = _
              rw [gA_s, f34.A (by decide)]
            have y : gA g7 242 = up1 (gA g3 242) (zN s 2) (nI sv) ∧ gA g7 243 = up1 (gA g3 243) (zN s 2) (nI wt) ∧ gA g7 244 = up1 (gA g3 244) (zN s 2) (nI f) ∧ gA g7 245 = up1 (gA g3 245) (zN s 2) (nI (bk 2 (bk 9 p))) ∧ gA g7 246 = up1 (gA g3 246) (zN s 2) (nI p) ∧ gA g7 247 = up1 (gA g3 247) (zN s 2) (nI D) ∧ gA g7 252 = up1 (gA g3 252) (zN s 2) (nI 0) := by
              rw [x4 242 (by decide), x4 243 (by decide), x4 244 (by decide), x4 245 (by decide), x4 246 (by decide), x4 247 (by decide), x4 252 (by decide), g4E]
              refine ⟨?_, ?_, ?_, ?_, ?_, ?_, ?_⟩
              · rw [gA_k (by decide), gA_k (by decide), gA_k (by decide), gA_k (by decide), gA_k (by decide), gA_k (by decide), gA_s]; rfl
              · rw [gA_k (by decide), gA_k (by decide), gA_k (by decide), gA_k (by decide), gA_k (by decide), gA_s, gA_k (by decide)]; rfl
              · rw [gA_k (by decide), gA_k (by decide), gA_k (by decide), gA_k (by decide), gA_s, gA_k (by decide), gA_k (by decide)]; rfl
              · rw [gA_k (by decide), gA_s, gA_k (by decide), gA_k (by decide), gA_k (by decide), gA_k (by decide), gA_k (by decide)]; rfl
              · rw [gA_k (by decide), gA_k (by decide), gA_k (by decide), gA_s, gA_k (by decide), gA_k (by decide), gA_k (by decide)]; rfl
              · rw [gA_k (by decide), gA_k (by decide), gA_s, gA_k (by decide), gA_k (by decide), gA_k (by decide), gA_k (by decide)]; rfl
              · rw [gA_s, gA_k (by decide), gA_k (by decide), gA_k (by decide), gA_k (by decide), gA_k (by decide), gA_k (by decide)]; rfl
            have y2 : gA g7 248 = up1 (gA g3 248) (zN s 2) (nI 0) ∧ gA g7 249 = up1 (gA g3 249) (zN s 2) (nI f) ∧ gA g7 250 = up1 (gA g3 250) (zN s 2) (-1) ∧ gA g7 253 = up1 (gA g3 253) (zN s 2) (nI (zN s 0)) := by
              rw [g7E]
              refine ⟨?_, ?_, ?_, ?_⟩
              · rw [gA_k (by decide), gA_k (by decide), gA_k (by decide), gA_s, x6 248 (by decide)]
              · rw [gA_k (by decide), gA_k (by decide), gA_s, gA_k (by decide), x6 249 (by decide)]
              · rw [gA_k (by decide), gA_s, gA_k (by decide), gA_k (by decide), x6 250 (by decide)]
              · rw [gA_s, gA_k (by decide), gA_k (by decide), gA_k (by decide), x6 253 (by decide)]
            obtain ⟨y242, y243, y244, y245, y246, y247, y252⟩ := y
            obtain ⟨y248, y249, y250, y253⟩ := y2
            rw [y242, y243, y244, y245, y246, y247, y248, y249, y250, x251, y252, y253]
            show _ = nI (acN bk s sv wt f p D 0 i) ∧ _ = nI (acN bk s sv wt f p D 1 i) ∧ _ = nI (acN bk s sv wt f p D 2 i) ∧ _ = nI (acN bk s sv wt f p D 3 i) ∧ _ = oI (up1 (iP s) (zN s 2) (some p) i) ∧ _ = nI (acN bk s sv wt f p D 4 i) ∧ _ = nI (acN bk s sv wt f p D 5 i) ∧ _ = nI (acN bk s sv wt f p D 6 i) ∧ _ = oI (up1 (iC s) (zN s 2) none i) ∧ _ = up1 (iM s) (zN s 2) pr i ∧ _ = nI (acN bk s sv wt f p D 7 i) ∧ _ = nI (acN bk s sv wt f p D 8 i)
            unfold acN
            by_cases qi : i = zN s 2
            · subst qi
              rw [up1_s, up1_s, up1_s, up1_s, up1_s, up1_s, up1_s, up1_s, up1_s, up1_s, up1_s, up1_s, up1_s, up1_s, up1_s, if_pos rfl, if_pos rfl, if_pos rfl, if_pos rfl, if_pos rfl, if_pos rfl, if_pos rfl, if_pos rfl, if_pos rfl]
              exact ⟨rfl, rfl, rfl, rfl, rfl, rfl, rfl, rfl, rfl, rfl, rfl, rfl⟩
            · rw [up1_x qi, up1_x qi, up1_x qi, up1_x qi, up1_x qi, up1_x qi, up1_x qi, up1_x qi, up1_x qi, up1_x qi, up1_x qi, up1_x qi, up1_x qi, up1_x qi, up1_x qi, if_neg qi, if_neg qi, if_neg qi, if_neg qi, if_neg qi, if_neg qi, if_neg qi, if_neg qi, if_neg qi]
              exact q1.2.2.2.2 i (by omega)
          · refine RS2.put (o := f) (i := zN s 2) RS3'.2.1 hl ?_ ?_ ?_ ?_ rfl rfl
            · rw [f67.A (by decide), g6E, gA_k (by decide), gA_s, f45.A (by decide), f34.A (by decide)]
            · rw [f67.A (by decide), g6E, gA_s, gA_k (by decide), f45.A (by decide), f34.A (by decide)]
            · rw [f37.A (by decide)]
            · rw [f37.A (by decide)]
          · have := RS3'.2.2.1.fr f37 (by decide) (by decide); exact this
          · have := RS3'.2.2.2.fr f37 (by decide) (by decide); exact this
        have wi := WI.ac (pr := pr) (dr := D) (l := sH s f ++ [zN s 2]) w hS hf e3 zl (wt := wt)
        obtain ⟨g8, b1, b2, b3⟩ := r_note (d := d + 3) s7 W hv' (by rw [f37.I (by decide)]; exact N3) (B3.fr f37 (by decide)) RS7 wi (i := zN s 2) (wh := 0) (o := f) (by show zN s 2 < zN s 2 + 1; omega) (by decide) (by omega)
        refine ⟨g8, ?_, ?_, f3'.trans ((f37.wk (by decide) (by decide)).trans (b2.wk (by decide) (by decide))), b3, RT.z ?_⟩
        · have x98 : E (d + 5) 98 [.ref 189, .int (nI (zN s 2)), .int (nI f)] g5 = some (none, g7) := by
            rw [t_98 s5, gd_nI (by omega) (by decide), ix_nI (by omega), g255, pk_mul, nI_add, gd_nI (by omega) (by decide), gd_nI (by omega) (by decide), gd_nI (by omega) (by decide), nI_add, ix_nI (by omega), ← g6E, t_99 s6, gd_nI zl (by decide), gd_nI zl (by decide), gd_nI zl (by decide), gd_nI zl (by decide), ix_nI (by omega), c6, ← g7E, cK_n, t_98_36 s7]
          have k251 : gC g4 251 = 60 ∧ gK g4 251 = 200 := ⟨ShC s4 (by decide), ShK s4 (by decide)⟩
          rw [gd_nI zl (by decide), gd_nI zl (by decide), gd_nI zl (by decide), gd_nI zl (by decide), gd_nI zl (by decide), e2, N3, pk_mul, nI_add, gd_nI (by omega) (by decide), ix_nI (by omega), bp.2.2.1, pk_mul, nI_add, gd_nI (by omega) (by decide), gd_nI zl (by decide), gd_nI zl (by decide), gd_nI (by omega) (by decide), ix_nI (by omega), ix_nI (by omega), bo.2.1, nI_add, dd, ← g4E, r_zone (d := d + 3) s4 W hv' N4 B4 hf wp.2.2.1, cK_v, t_97_209 s4, ck_ok (show gC g4 189 = 14 from ShC s4 (by decide)), r_prS (d := d + 4) s4 W hv' N4 B4 hS (by omega) (znS_le f _), cK_v, pe, t_97_212 s4, cw_ok k251.1 (by decide), k251.2, gd_nI zl (by decide), gd_nI zl (by decide), ix_nI (by omega)]
          rw [show gA (sA g4 251 (zN s 2) pr) 251 (zN s 2) = pr from by rw [gA_s, up1_s], ← g5E, x98, cK_n, t_97_236 s7, b1, cK_n, t_97_244 (b2.sh s7)]
        · rw [b2.I (by decide), f37.I (by decide)]; exact t3
        · rw [b2.I (by decide), f37.I (by decide)]; exact z3
end RAC
