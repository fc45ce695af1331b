/-! ===== WALKS: the component takes the stops, all of them ===== -/
section WC2
variable {d : Nat} {b : Nat} {bk : Bk} {G Cp : Nat → Nat → Nat}
theorem lX_s2 {s s' : St} (e : (zN s', sH s', sG s', sT s') = (zN s, sH s, sG s, sT s)) (r : Nat) : lX s' r = lX s r := by
  simp only [Prod.mk.injEq] at e
  obtain ⟨e1, e2, e3, e4⟩ := e
  unfold lX rid
  rw [e1, e2, e3, e4]
/-- the stop of an item of this walk -/
theorem c_stopFor (W : WB bk) {h : AH} {s : St} {S : List (Nat × Nat)} (C : CSt h b bk s G Cp) (C4 : CS4 h s) (w : WS bk s) (hS : SB S) (P : CSp h S) {i f wk : Nat} (hi : i < zN s 2) (hf : iN s 6 i = f) (ho : owB bk s i f wk = true) : ∃ h', E (d + 5) 260 [.ref 156, .ref (G 4 i)] h = some (some (.int (oI (tsI bk f wk s S i).2.2)), h') ∧ CSt h' b bk (tsI bk f wk s S i).1 G Cp ∧ CS4 h' (tsI bk f wk s S i).1 ∧ CSp h' (tsI bk f wk s S i).2.1 ∧ Fr KSt [172, 173] h h' := by
  have w3 := W.1.2.1
  obtain ⟨hs, hw, hb, B, C1, C2⟩ := id C
  obtain ⟨b1, b2, b3, b4, b5, b6, b7, b8, b9, b10, b11, b12, b13, b14, b15, b16⟩ := C1.2.2.2 i hi
  have wi := w.2.2.2.1 i hi
  obtain ⟨p1, q1⟩ := B.2.2.1 1 (by decide)
  unfold owB at ho
  cases hp : iP s i with
  | none => rw [hp] at ho; cases ho
  | some p =>
    rw [hp] at ho
    have hq := of_decide_eq_true ho
    have hpb := wi.2.2.2.2.2.2.2.2.2.2.2.1 p hp
    have bp := B.2.2.2.2.2.1 p hpb
    have n1 : 1 ≤ iN s 4 i / 27 := by omega
    have n2 : iN s 4 i / 27 ≤ 999 := by omega
    rw [hp] at b8
    have b8 : gI h 1286 (G 4 i) = nI p := b8
    unfold tsI
    rw [hp]
    dsimp only
    rw [if_pos hq, t_260 hs, ck_ok b1, ck_ok b1, b8, b9, t_208 hs, pk_mul, nI_add, cK_v, t_260_12 hs, ck_ok (show gC h 156 = 8 from ShC hs (by decide)), Nat.mul_comm, c_mvI hs W w C4 hpb wi.2.2.2.2.2.2.1, cK_v, t_260_15 hs]
    cases hm : mvI s p (iN s 4 i) with
    | some k =>
      obtain ⟨hk, -⟩ := mvI_s hm
      have wM := w.2.2.2.2.2.2.2.2.2.2.2.1
      have em : (sM s).getD k (0, 0, none) = (sM s)[k] := by
        rw [List.getD_eq_getElem?_getD, List.getElem?_eq_getElem hk]; rfl
      have ne : ¬ nI k = -1 := by
        have : ∀ j, j < 40 → ¬ nI j = -1 := by decide
        exact this k (by omega)
      obtain ⟨h1, y1, y2, y3⟩ := c_sendOn (d := d + 2) W hs w C1 hi hk
      have wm := w.2.2.2.2.2.2.2.2.2.2.2.2.2 (sM s)[k] (List.getElem_mem hk)
      obtain ⟨v1, v2, v3, v4, v5, v6⟩ := saS_w (i := i) (o := f) (to := (sM s)[k].2.2) w wm.2.2.2
      rw [hf] at y3
      dsimp only
      rw [show oI (some k) = nI k from rfl, if_neg ne, gd_nI (by omega) (by decide), ix_nI (by omega), (C4.2 k hk).2, y1, cK_n, t_260_32 (y2.sh hs), em]
      exact ⟨h1, rfl, C.fr y2 (by decide) (by decide) v6 y3, C4.fr y2 (by decide) (by decide) (by decide) v5, P.fr y2 (by decide) (by decide) (by decide), y2.wk (by decide) (by decide)⟩
    | none =>
      obtain ⟨pb1, pb2⟩ := pXY_b W hpb n1 n2
      obtain ⟨dx, dy⟩ := c_door (d := d + 3) hs W B hpb n1 n2
      obtain ⟨h1, y1, y2, y3⟩ := c_stop (d := d + 4) pb1 pb2 hS S [] h rfl hs P
      have y1 : Q (d + 4) 260 81 [some (.ref 156), none, none, none, some (.int (sC (pX bk p (iN s 4 i / 27)))), some (.int (sC (pY bk p (iN s 4 i / 27)))), some (.int (nI 0))] [] h = _ := y1
      dsimp only
      rw [show oI none = -1 from rfl, if_pos rfl, hb, Option.bind_some, ck_ok B.1, p1, Option.bind_some, ck_ok b1, ck_ok q1.1, b8, al_get hs q1 hpb, cK_v, t_260_48 hs, ck_ok bp.1, ck_ok b1, dz_ok (by decide), ck_ok bp.1, b9, pk_div (by omega) (by decide) (by decide), dx, cK_v, t_260_63 hs, ck_ok b1, dz_ok (by decide), ck_ok bp.1, b9, pk_div (by omega) (by decide) (by decide), dy, cK_v, t_260_76 hs, y1]
      have C' : CSt h1 b bk s G Cp := C.fr y3 (by decide) (by decide) (fun r => rfl) (by
        unfold CS1 at C1 ⊢
        rw [y3.I (by decide), y3.I (by decide), y3.I (by decide), y3.I (by decide), y3.I (by decide), y3.I (by decide), y3.I (by decide), y3.I (by decide), y3.I (by decide), y3.I (by decide), y3.I (by decide), y3.I (by decide), y3.I (by decide), y3.I (by decide), y3.I (by decide), y3.I (by decide), y3.2.1, show gN h1 = gN h from congrArg (fun p : Nat × Nat => p.1) y3.1]
        exact C1)
      have C4' : CS4 h1 s := C4.fr y3 (by decide) (by decide) (by decide) rfl
      have y2 : CSp h1 (match fdF (pX bk p (iN s 4 i / 27), pY bk p (iN s 4 i / 27)) S 0 with
          | some k => S
          | none => if S.length < 8 then S ++ [(pX bk p (iN s 4 i / 27), pY bk p (iN s 4 i / 27))] else S) := y2
      have f1 : Fr KSt [172, 173] h h1 := y3.wk (by decide) (by decide)
      show ∃ h', some (some (Value.int (oI (match fdF (pX bk p (iN s 4 i / 27), pY bk p (iN s 4 i / 27)) S 0 with
          | some k => some k
          | none => if S.length < 8 then some S.length else none))), h1) = _ ∧ _
      cases hf2 : fdF (pX bk p (iN s 4 i / 27), pY bk p (iN s 4 i / 27)) S 0 with
      | some k =>
        rw [hf2] at y2
        exact ⟨h1, rfl, C', C4', y2, f1⟩
      | none =>
        rw [hf2] at y2
        dsimp only at y2 ⊢
        by_cases h8 : S.length < 8
        · simp only [if_pos h8] at y2 ⊢
          exact ⟨h1, rfl, C', C4', y2, f1⟩
        · simp only [if_neg h8] at y2 ⊢
          exact ⟨h1, rfl, C', C4', y2, f1⟩
theorem CS1.same {K X : List Nat} {h h' : AH} {s : St} (C : CS1 h bk s G) (f : Fr K X h h') (hK : ∀ k, k ∈ K → k < 1280 ∨ 1294 < k ∧ k ≠ 2051 ∧ k ≠ 2052) : CS1 h' bk s G := by
  obtain ⟨r1, r2, r3, r4⟩ := C
  have eN : gN h' = gN h := congrArg (fun p : Nat × Nat => p.1) f.1
  have F : ∀ k, (1280 ≤ k ∧ k ≤ 1294 ∨ k = 2051 ∨ k = 2052) → gI h' k = gI h k := fun k hk => f.I fun hm => by have := hK k hm; omega
  refine ⟨by rw [F _ (by decide)]; exact r1, by rw [F _ (by decide)]; exact r2, r3, fun j hj => ?_⟩
  obtain ⟨b1, b2, b3, b4, b5, b6, b7, b8, b9, b10, b11, b12, b13, b14, b15, b16⟩ := r4 j hj
  rw [F 1280 (by decide), F 1281 (by decide), F 1282 (by decide), F 1283 (by decide), F 1284 (by decide), F 1286 (by decide), F 1287 (by decide), F 1288 (by decide), F 1289 (by decide), F 1290 (by decide), F 1291 (by decide), F 1292 (by decide), F 1293 (by decide), F 1294 (by decide), f.2.1, eN]
  exact ⟨b1, b2, b3, b4, b5, b6, b7, b8, b9, b10, b11, b12, b13, b14, b15, b16⟩
theorem cts_lp (W : WB bk) {f wk : Nat} (hf : f < bk 0 0) (hwk : wk ≤ 9) {l : List Nat} (nd : l.Nodup) : ∀ (ys pre : List Nat) (os : List (Option Nat)) (h : AH) (s : St) (S : List (Nat × Nat)), pre ++ ys = l → sH s f = l → os.length = pre.length → CSt h b bk s G Cp → CS4 h s → WS bk s → SB S → CSp h S → (∀ k (hk : k < pre.length), gA h 171 pre[k] = oI (os.getD k none)) →
    ∃ h', Q (d + 5) 206 26 [some (.ref 156), some (.int (nI f)), some (.int (nI wk)), some (.ref (G 5 f)), some (.int (nI pre.length)), none] [] h = Q (d + 5) 206 26 [some (.ref 156), some (.int (nI f)), some (.int (nI wk)), some (.ref (G 5 f)), some (.int (nI l.length)), none] [] h' ∧ CSt h' b bk (tsL bk f wk ys s S).1 G Cp ∧ CS4 h' (tsL bk f wk ys s S).1 ∧ CSp h' (tsL bk f wk ys s S).2.1 ∧ (∀ k (hk : k < l.length), gA h' 171 l[k] = oI ((os ++ (tsL bk f wk ys s S).2.2).getD k none)) ∧ Fr KSt [171, 172, 173] h h'
  | [], pre, os, h, s, S, e, hl, ho, C, C4, w, hS, P, K => by
    have e : pre = l := by rw [← e, List.append_nil]
    subst e
    exact ⟨h, rfl, C, C4, P, fun k hk => by rw [show (tsL bk f wk [] s S).2.2 = [] from rfl, List.append_nil]; exact K k hk, Fr.rfl⟩
  | i :: ys, pre, os, h, s, S, e, hl, ho, C, C4, w, hS, P, K => by
    have w0 := W.1.1
    have w1 := w.1
    obtain ⟨hs, hw, hb, B, C1, C2⟩ := id C
    have A := C2.2.2 (10 + f) (Or.inr (Or.inl ⟨by omega, by omega⟩)) (Or.inr (by omega))
    rw [lX_sh (by omega), lo_sh (by omega), hl] at A
    have lb : l.length ≤ 100000 := by
      obtain ⟨-, -, -, -, -, a6, a7, -⟩ := A
      omega
    have el : pre.length + (ys.length + 1) = l.length := by rw [← e, List.length_append, List.length_cons]
    have hpl : pre.length < l.length := by omega
    have ei : l[pre.length] = i := by
      simp only [← e]
      rw [List.getElem_append_right (Nat.le_refl _)]
      simp
    have ei2 : l.getD pre.length 0 = i := by rw [getD_ix hpl]; exact ei
    have im : i ∈ sH s f := by rw [hl, ← ei]; exact List.getElem_mem hpl
    obtain ⟨il, i5, i6⟩ := ((w.2.2.2.2.1 f).2 i).mp im
    have ci := C1.2.2.2 i il
    obtain ⟨b1, b2, b3, b4, b5, b6, b7⟩ := tsI_w W w hS (f := f) (wk := wk) il
    have ih := cts_lp W (wk := wk) hf hwk (l := l) nd ys (pre ++ [i])
    have inp : ∀ k (hk : k < pre.length), pre[k] ≠ i := fun k hk q => by
      have h1 : l[k]'(by omega) = pre[k] := by
        simp only [← e]
        rw [List.getElem_append_left hk]
      have := nd_inj nd (show k < l.length by omega) hpl (by rw [h1, q, ei])
      omega
    have go : ∀ (h1 : AH) (s1 : St) (S1 : List (Nat × Nat)) (o1 : Option Nat), tsI bk f wk s S i = (s1, S1, o1) → CSt h1 b bk s1 G Cp → CS4 h1 s1 → CSp h1 S1 → Fr KSt [171, 172, 173] h h1 → gA h1 171 = up1 (gA h 171) i (oI o1) →
        ∃ h', Q (d + 5) 206 26 [some (.ref 156), some (.int (nI f)), some (.int (nI wk)), some (.ref (G 5 f)), some (.int (nI (pre.length + 1))), none] [] h1 = Q (d + 5) 206 26 [some (.ref 156), some (.int (nI f)), some (.int (nI wk)), some (.ref (G 5 f)), some (.int (nI l.length)), none] [] h' ∧ CSt h' b bk (tsL bk f wk (i :: ys) s S).1 G Cp ∧ CS4 h' (tsL bk f wk (i :: ys) s S).1 ∧ CSp h' (tsL bk f wk (i :: ys) s S).2.1 ∧ (∀ k (hk : k < l.length), gA h' 171 l[k] = oI ((os ++ (tsL bk f wk (i :: ys) s S).2.2).getD k none)) ∧ Fr KSt [171, 172, 173] h h' := fun h1 s1 S1 o1 et C' C4' P1 f1 K1 => by
      rw [et] at b1 b2 b3 b4 b5
      dsimp only at b1 b2 b3 b4 b5
      obtain ⟨h', c1, c2, c3, c4, c5, c6⟩ := ih (os ++ [o1]) h1 s1 S1 (by rw [List.append_assoc]; exact e) (by rw [b3]; exact hl) (by rw [List.length_append, List.length_append, ho]; rfl) C' C4' b1 b2 P1 (fun k hk => by
        rw [List.length_append] at hk
        have hk : k < pre.length + 1 := hk
        rw [K1, List.getD_eq_getElem?_getD]
        by_cases q : k = pre.length
        · subst q
          rw [List.getElem?_append_right (by omega), ho, Nat.sub_self]
          have : (pre ++ [i])[pre.length]'(by rw [List.length_append]; exact Nat.lt_succ_self _) = i := by
            rw [List.getElem_append_right (Nat.le_refl _)]
            simp
          rw [this, up1_s]; rfl
        · have hk2 : k < pre.length := by omega
          rw [List.getElem_append_left hk2, up1_x (inp k hk2), List.getElem?_append_left (by omega)]
          have := K k hk2
          rw [List.getD_eq_getElem?_getD] at this
          exact this)
      rw [List.length_append] at c1
      have ets : tsL bk f wk (i :: ys) s S = ((tsL bk f wk ys s1 S1).1, (tsL bk f wk ys s1 S1).2.1, o1 :: (tsL bk f wk ys s1 S1).2.2) := by
        show ((tsL bk f wk ys (tsI bk f wk s S i).1 (tsI bk f wk s S i).2.1).1, _, _) = _
        rw [et]
      rw [ets]
      refine ⟨h', c1, c2, c3, c4, fun k hk => ?_, f1.trans c6⟩
      have := c5 k hk
      rw [List.append_assoc] at this
      exact this
    have i200 : i < 200 := by omega
    rw [t_206_26 hs, ck_ok A.1, al_size hs A, cK_v, t_206_32 hs, if_pos (nI_lt hpl (by omega)), ck_ok A.1, al_get hs A hpl, cK_v, ei2, t_206_41 hs, ck_ok ci.1, ck_ok ci.1, ci.2.2.1, c_ofWalk W hs w.i hb B C1 il hf hwk, cK_v, t_206_63 hs]
    cases ho2 : owB bk s i f wk with
    | false =>
      have et : tsI bk f wk s S i = (s, S, none) := by
        unfold owB at ho2
        unfold tsI
        cases hp : iP s i with
        | none => rfl
        | some p =>
          rw [hp] at ho2
          dsimp only
          rw [if_neg (of_decide_eq_false ho2)]
      have f1 : Fr [] [171] h (sA h 171 i (-1)) := Fr.rfl.sA (by decide)
      rw [if_pos (by decide), cw_ok (show gC h 171 = 60 from ShC hs (by decide)) (by decide), show gK h 171 = 200 from ShK hs (by decide), gd_nI i200 (by decide), ix_nI (by omega), nI_add]
      exact go _ s S none et (C.fr f1 (by decide) (by decide) (fun r => rfl) (C1.same f1 (by decide))) (C4.fr f1 (by decide) (by decide) (by decide) rfl) (P.fr f1 (by decide) (by decide) (by decide)) (f1.wk (by decide) (by decide)) (by
        show up2 (gA h) 171 i (-1) 171 = _
        rw [up2_r]; rfl)
    | true =>
      obtain ⟨h1, y1, y2, y3, y4, y5⟩ := c_stopFor (d := d) W C C4 w hS P il i6 ho2
      have hs1 := y5.sh hs
      rw [if_neg (by decide), y1, cK_v, t_206_72 hs1, cw_ok (show gC h1 171 = 60 from ShC hs1 (by decide)) (by decide), show gK h1 171 = 200 from ShK hs1 (by decide), gd_nI i200 (by decide), ix_nI (by omega), nI_add]
      have f1 : Fr [] [171] h1 (sA h1 171 i (oI (tsI bk f wk s S i).2.2)) := Fr.rfl.sA (by decide)
      refine go _ (tsI bk f wk s S i).1 (tsI bk f wk s S i).2.1 (tsI bk f wk s S i).2.2 rfl (y2.fr f1 (by decide) (by decide) (fun r => rfl) (y2.2.2.2.2.1.same f1 (by decide))) (y3.fr f1 (by decide) (by decide) (by decide) rfl) (y4.fr f1 (by decide) (by decide) (by decide)) ((y5.wk (by decide) (by decide)).trans (f1.wk (by decide) (by decide))) ?_
      show up2 (gA h1) 171 i _ 171 = _
      rw [up2_r, y5.A (by decide)]
end WC2
