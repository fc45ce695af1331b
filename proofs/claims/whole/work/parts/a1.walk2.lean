/-! ===== WALKS: what every state keeps to; the reference finds the stops ===== -/
section WK1
variable {bk : Bk}
theorem WS.s2 {s s' : St} (w : WS bk s) (e : (zN s', iC s', sH s', sG s', sT s', sM s') = (zN s, iC s, sH s, sG s, sT s, sM s)) (eN : ∀ k, k ≠ 4 → k ≠ 7 → iN s' k = iN s k) (h4 : ∀ i, i < zN s 2 → 27 ≤ iN s' 4 i ∧ iN s' 4 i < 27000 ∧ iN s' 7 i ≤ 2 ∧ ∀ p, iP s' i = some p → p < bk 0 1) : WS bk s' := by
  simp only [Prod.mk.injEq] at e
  obtain ⟨e1, e2, e3, e4, e5, e6⟩ := e
  have er : rid s' = rid s := by unfold rid; rw [e5]
  obtain ⟨w1, w2, w3, w4, w5⟩ := w
  unfold WS
  rw [e1, e2, e3, e4, e5, e6, er, eN 0 (by decide) (by decide), eN 1 (by decide) (by decide), eN 2 (by decide) (by decide), eN 3 (by decide) (by decide), eN 5 (by decide) (by decide), eN 6 (by decide) (by decide), eN 8 (by decide) (by decide), eN 9 (by decide) (by decide)]
  refine ⟨w1, w2, w3, fun i hi => ?_, w5⟩
  obtain ⟨a1, a2, a3, a4, a5, a6, a7, a8, a9, a10, a11, a12, a13⟩ := w4 i hi
  obtain ⟨b1, b2, b3, b4⟩ := h4 i hi
  exact ⟨a1, a2, a3, a4, a5, b1, b2, a8, a9, b3, a11, b4, a13⟩
theorem saS_w {s : St} (w : WS bk s) {i o : Nat} {to : Option (Nat × Nat)} (hq : ∀ q, to = some q → q.1 < bk 0 1 ∧ 27 ≤ q.2 ∧ q.2 < 27000) : WS bk (saS bk s i to o) ∧ sH (saS bk s i to o) = sH s ∧ zN (saS bk s i to o) 0 = zN s 0 ∧ zN (saS bk s i to o) 2 = zN s 2 ∧ sM (saS bk s i to o) = sM s ∧ (∀ r, lX (saS bk s i to o) r = lX s r) := by
  have back : WS bk (ntS bk (stP s i none) i 7 o) := by
    refine WS.nt (w.s2 (s' := stP s i none) rfl (fun _ _ _ => rfl) fun j hj => ?_) i 7 o
    obtain ⟨a1, a2, a3, a4, a5, a6, a7, a8, a9, a10, a11, a12, a13⟩ := w.2.2.2.1 j hj
    refine ⟨a6, a7, a10, fun p q => ?_⟩
    have q : up1 (iP s) i none j = some p := q
    by_cases e : j = i
    · rw [e, up1_s] at q; cases q
    · rw [up1_x e] at q; exact a12 p q
  obtain ⟨c1, c2, c3, c4, c5, c6, c7, c8, c9, c10⟩ := ntS_f (bk := bk) (s := stP s i none) i 7 o
  have back2 : sH (ntS bk (stP s i none) i 7 o) = sH s ∧ zN (ntS bk (stP s i none) i 7 o) 0 = zN s 0 ∧ zN (ntS bk (stP s i none) i 7 o) 2 = zN s 2 ∧ sM (ntS bk (stP s i none) i 7 o) = sM s ∧ (∀ r, lX (ntS bk (stP s i none) i 7 o) r = lX s r) := ⟨c5, c9, c10, c8, fun r => (lX_nt i 7 o r).trans rfl⟩
  cases to with
  | none => exact ⟨back, back2⟩
  | some q =>
    unfold saS
    dsimp only
    by_cases e : iN s 7 i < 2
    · rw [if_pos e]
      obtain ⟨d1, d2, d3, d4, d5, d6, d7, d8, d9, d10⟩ := ntS_f (bk := bk) (s := stI (stI (stP s i (some q.1)) 4 i q.2) 7 i (iN s 7 i + 1)) i 6 o
      refine ⟨WS.nt (w.s2 (s' := stI (stI (stP s i (some q.1)) 4 i q.2) 7 i (iN s 7 i + 1)) rfl (fun k h1 h2 => ?_) fun j hj => ?_) i 6 o, d5, d9, d10, d8, fun r => (lX_nt i 6 o r).trans rfl⟩
      · show up2 (up2 (iN s) 4 i q.2) 7 i (iN s 7 i + 1) k = _
        rw [up2_k h2, up2_k h1]
      · obtain ⟨a1, a2, a3, a4, a5, a6, a7, a8, a9, a10, a11, a12, a13⟩ := w.2.2.2.1 j hj
        obtain ⟨q1, q2, q3⟩ := hq q rfl
        show 27 ≤ up2 (up2 (iN s) 4 i q.2) 7 i (iN s 7 i + 1) 4 j ∧ up2 (up2 (iN s) 4 i q.2) 7 i (iN s 7 i + 1) 4 j < 27000 ∧ up2 (up2 (iN s) 4 i q.2) 7 i (iN s 7 i + 1) 7 j ≤ 2 ∧ ∀ p, up1 (iP s) i (some q.1) j = some p → p < bk 0 1
        by_cases e2 : j = i
        · subst e2
          rw [up2_k (by decide), up2_s, up2_s, up1_s]
          exact ⟨q2, q3, by omega, fun p e => by cases e; exact q1⟩
        · rw [up2_n e2, up2_n e2, up2_n e2, up2_n e2, up1_x e2]
          exact ⟨a6, a7, a10, a12⟩
    · rw [if_neg e]; exact ⟨back, back2⟩
/-- stops lie somewhere near -/
def SB (S : List (Nat × Nat)) : Prop := S.length ≤ 8 ∧ ∀ q, q ∈ S → q.1 ≤ 3000 ∧ q.2 ≤ 3000
theorem pXY_b (W : WB bk) {p n : Nat} (hp : p < bk 0 1) (h1 : 1 ≤ n) (hn : n ≤ 999) : pX bk p n ≤ 3000 ∧ pY bk p n ≤ 3000 := by
  obtain ⟨-, -, -, -, a1, a2, a3, a4, a5, a6, -⟩ := W.2.2.2.1 p hp
  unfold pX pY
  constructor
  · repeat' split
    all_goals omega
  · repeat' split
    all_goals omega
theorem fdF_lt {q : Nat × Nat} : ∀ (S : List (Nat × Nat)) (k j : Nat), fdF q S k = some j → j < k + S.length
  | [], _, _, e => by cases e
  | a :: S, k, j, e => by
    unfold fdF at e
    by_cases h : a = q
    · rw [if_pos h] at e; cases e
      rw [List.length_cons]; omega
    · rw [if_neg h] at e
      have := fdF_lt S (k + 1) j e
      rw [List.length_cons]; omega
theorem tsI_w (W : WB bk) {s : St} (w : WS bk s) {S : List (Nat × Nat)} (hS : SB S) {f wk i : Nat} (hi : i < zN s 2) : WS bk (tsI bk f wk s S i).1 ∧ SB (tsI bk f wk s S i).2.1 ∧ sH (tsI bk f wk s S i).1 = sH s ∧ zN (tsI bk f wk s S i).1 0 = zN s 0 ∧ zN (tsI bk f wk s S i).1 2 = zN s 2 ∧ S.length ≤ (tsI bk f wk s S i).2.1.length ∧ (∀ k, (tsI bk f wk s S i).2.2 = some k → k < (tsI bk f wk s S i).2.1.length) := by
  obtain ⟨a1, a2, a3, a4, a5, a6, a7, a8, a9, a10, a11, a12, a13⟩ := w.2.2.2.1 i hi
  unfold tsI
  cases hp : iP s i with
  | none => exact ⟨w, hS, rfl, rfl, rfl, Nat.le_refl _, fun k e => by cases e⟩
  | some p =>
    have hpb := a12 p hp
    dsimp only
    by_cases q : bk 9 p = f ∧ bk 16 p = wk
    · rw [if_pos q]
      cases hm : mvI s p (iN s 4 i) with
      | some k =>
        obtain ⟨hk, -⟩ := mvI_s hm
        have em : (sM s).getD k (0, 0, none) = (sM s)[k] := by
          rw [List.getD_eq_getElem?_getD, List.getElem?_eq_getElem hk]; rfl
        have wm := w.2.2.2.2.2.2.2.2.2.2.2.2.2 (sM s)[k] (List.getElem_mem hk)
        obtain ⟨b1, b2, b3, b4, b5, b6⟩ := saS_w (i := i) (o := f) (to := ((sM s).getD k (0, 0, none)).2.2) w (fun q e => wm.2.2.2 q (by rw [em] at e; exact e))
        exact ⟨b1, hS, b2, b3, b4, Nat.le_refl _, fun k e => by cases e⟩
      | none =>
        dsimp only
        cases hf : fdF (pX bk p (iN s 4 i / 27), pY bk p (iN s 4 i / 27)) S 0 with
        | some k => exact ⟨w, hS, rfl, rfl, rfl, Nat.le_refl _, fun k' e => by cases e; have := fdF_lt S 0 k hf; dsimp only; omega⟩
        | none =>
          dsimp only
          by_cases h8 : S.length < 8
          · rw [if_pos h8]
            refine ⟨w, ⟨by rw [List.length_append]; show S.length + 1 ≤ 8; omega, fun q hq => ?_⟩, rfl, rfl, rfl, by rw [List.length_append]; omega, fun k e => by cases e; rw [List.length_append]; show S.length < S.length + 1; omega⟩
            rcases List.mem_append.mp hq with r | r
            · exact hS.2 q r
            · rw [List.mem_singleton] at r
              subst r
              exact pXY_b W hpb (by omega) (by omega)
          · rw [if_neg h8]; exact ⟨w, hS, rfl, rfl, rfl, Nat.le_refl _, fun k e => by cases e⟩
    · rw [if_neg q]; exact ⟨w, hS, rfl, rfl, rfl, Nat.le_refl _, fun k e => by cases e⟩
theorem tsL_w (W : WB bk) {f wk : Nat} : ∀ (l : List Nat) (s : St) (S : List (Nat × Nat)), WS bk s → SB S → (∀ i, i ∈ l → i < zN s 2) → WS bk (tsL bk f wk l s S).1 ∧ SB (tsL bk f wk l s S).2.1 ∧ sH (tsL bk f wk l s S).1 = sH s ∧ zN (tsL bk f wk l s S).1 0 = zN s 0 ∧ zN (tsL bk f wk l s S).1 2 = zN s 2 ∧ (tsL bk f wk l s S).2.2.length = l.length ∧ S.length ≤ (tsL bk f wk l s S).2.1.length ∧ (∀ o, o ∈ (tsL bk f wk l s S).2.2 → ∀ k, o = some k → k < (tsL bk f wk l s S).2.1.length)
  | [], s, S, w, hS, _ => ⟨w, hS, rfl, rfl, rfl, rfl, Nat.le_refl _, fun o ho => absurd ho List.not_mem_nil⟩
  | i :: r, s, S, w, hS, hl => by
    obtain ⟨a1, a2, a3, a4, a5, a6, a7⟩ := tsI_w W w hS (f := f) (wk := wk) (hl i List.mem_cons_self)
    obtain ⟨b1, b2, b3, b4, b5, b6, b7, b8⟩ := tsL_w W (f := f) (wk := wk) r _ _ a1 a2 (fun j hj => by rw [a5]; exact hl j (List.mem_cons_of_mem _ hj))
    unfold tsL
    refine ⟨b1, b2, b3.trans a3, b4.trans a4, b5.trans a5, by dsimp only; rw [List.length_cons, List.length_cons, b6], by dsimp only; omega, fun o ho k e => ?_⟩
    rcases List.mem_cons.mp ho with q | q
    · rw [q] at e
      have := a7 k e
      dsimp only; omega
    · exact b8 o q k e
end WK1
theorem sC_eq {a b : Nat} (ha : a < 2 ^ 30) (hb : b < 2 ^ 30) : sC a = sC b ↔ a = b := by
  refine ⟨fun e => ?_, fun e => by rw [e]⟩
  unfold sC at e
  have : nI a = nI b := by grind
  exact (nI_eq (by omega) (by omega)).mp this
theorem sC_i {a : Nat} (ha : a ≤ 4000) : (sC a).toInt = (a : Int) - 1000 := by
  unfold sC
  rw [Int32.toInt_sub]
  have h1 : (nI a).toInt = (a : Int) := by
    show (Int32.ofNat a).toInt = _
    rw [Int32.toInt_ofNat_of_lt (by omega)]
  have h2 : (nI 1000).toInt = 1000 := by decide
  rw [h1, h2]
  apply Int.bmod_eq_of_le <;> omega
theorem sC_lt {a b : Nat} (ha : a ≤ 4000) (hb : b ≤ 4000) : sC a < sC b ↔ a < b := by
  rw [Int32.lt_iff_toInt_lt, sC_i ha, sC_i hb]
  omega
theorem sC_o {x : Nat} : nI x = sC (x + 1000) := by
  unfold sC
  rw [pk_sub (by omega), Nat.add_sub_cancel]
/-- the reference's stops -/
def RSt (h : AH) (S : List (Nat × Nat)) : Prop := gI h 3691 189 = nI S.length ∧ ∀ k (hk : k < S.length), gA h 269 k = sC S[k].1 ∧ gA h 270 k = sC S[k].2
section WK2
variable {d : Nat} {bk : Bk} {v : Nat}
theorem nIe {a b : Nat} (e : a = b) : nI a = nI b := congrArg nI e
theorem r_door {h : AH} (hs : Sh h) (W : WB bk) (hv' : v ≤ 1) (hN : gI h 3597 189 = nI v) (B : RB h v bk) {p dr : Nat} (hp : p < bk 0 1) (h1 : 27 ≤ dr) (h2 : dr < 27000) : E (d + 1) 122 [.ref 189, .int (nI p), .int (nI dr)] h = some (some (.int (sC (pX bk p (dr / 27)))), h) ∧ E (d + 1) 123 [.ref 189, .int (nI p), .int (nI dr)] h = some (some (.int (sC (pY bk p (dr / 27)))), h) := by
  have w1 := W.1.2.1
  obtain ⟨-, -, -, -, a1, a2, a3, a4, a5, a6, -⟩ := W.2.2.2.1 p hp
  obtain ⟨-, -, -, -, b5, -, b7, b8, b9, -⟩ := B.2.2.2.1 p hp
  have g : ∀ x, gd (nI (60 * v + p)) 120 x = x := fun x => gd_nI (by omega) (by decide)
  have n1 : 1 ≤ dr / 27 := by omega
  have n2 : dr / 27 ≤ 999 := by omega
  constructor
  · rw [t_122 hs, dz_ok (by decide), hN, pk_mul, nI_add]
    simp only [g, ix_nI (show 60 * v + p < 2 ^ 31 by omega), b9, b7, b5, pk_div (show dr < 2 ^ 31 by omega) (show 0 < 27 by decide) (show 27 < 2 ^ 31 by decide)]
    simp only [show (nI (bk 15 p) = nI 0) = (bk 15 p = 0) from propext (nI_eq (by omega) (by decide)), show (nI (bk 15 p) = nI 2) = (bk 15 p = 2) from propext (nI_eq (by omega) (by decide))]
    unfold pX sC
    by_cases q : bk 15 p = 0
    · rw [if_pos q, if_pos q]
      have e := nIe (show (bk 13 p + 1000 + dr / 27 - bk 11 p) + bk 11 p = bk 13 p + 1000 + dr / 27 by omega)
      rw [← nI_add, ← nI_add, ← nI_add] at e
      have : nI (bk 13 p) + (nI (dr / 27) - nI (bk 11 p)) = nI (bk 13 p + 1000 + dr / 27 - bk 11 p) - nI 1000 := by grind
      rw [this]
    · rw [if_neg q, if_neg q]
      by_cases q2 : bk 15 p = 2
      · rw [if_pos q2, if_pos q2]
        have e := nIe (show (bk 13 p + 1000 + bk 11 p - dr / 27) + dr / 27 = bk 13 p + 1000 + bk 11 p by omega)
        rw [← nI_add, ← nI_add, ← nI_add] at e
        have : nI (bk 13 p) + (-(nI (dr / 27) - nI (bk 11 p))) = nI (bk 13 p + 1000 + bk 11 p - dr / 27) - nI 1000 := by grind
        rw [this]
      · rw [if_neg q2, if_neg q2, nI_add, pk_sub (by omega), show bk 13 p + 1000 - 1000 = bk 13 p + 0 from by omega]
  · rw [t_123 hs, dz_ok (by decide), hN, pk_mul, nI_add]
    simp only [g, ix_nI (show 60 * v + p < 2 ^ 31 by omega), b9, b8, b5, pk_div (show dr < 2 ^ 31 by omega) (show 0 < 27 by decide) (show 27 < 2 ^ 31 by decide)]
    simp only [show (nI (bk 15 p) = nI 1) = (bk 15 p = 1) from propext (nI_eq (by omega) (by decide)), show (nI (bk 15 p) = nI 3) = (bk 15 p = 3) from propext (nI_eq (by omega) (by decide))]
    unfold pY sC
    by_cases q : bk 15 p = 1
    · rw [if_pos q, if_pos q]
      have e := nIe (show (bk 14 p + 1000 + dr / 27 - bk 11 p) + bk 11 p = bk 14 p + 1000 + dr / 27 by omega)
      rw [← nI_add, ← nI_add, ← nI_add] at e
      have : nI (bk 14 p) + (nI (dr / 27) - nI (bk 11 p)) = nI (bk 14 p + 1000 + dr / 27 - bk 11 p) - nI 1000 := by grind
      rw [this]
    · rw [if_neg q, if_neg q]
      by_cases q2 : bk 15 p = 3
      · rw [if_pos q2, if_pos q2]
        have e := nIe (show (bk 14 p + 1000 + bk 11 p - dr / 27) + dr / 27 = bk 14 p + 1000 + bk 11 p by omega)
        rw [← nI_add, ← nI_add, ← nI_add] at e
        have : nI (bk 14 p) + (-(nI (dr / 27) - nI (bk 11 p))) = nI (bk 14 p + 1000 + bk 11 p - dr / 27) - nI 1000 := by grind
        rw [this]
      · rw [if_neg q2, if_neg q2, nI_add, pk_sub (by omega), show bk 14 p + 1000 - 1000 = bk 14 p + 0 from by omega]
/-- a stop is found or made -/
theorem r_stop {x y : Nat} (hx : x ≤ 3000) (hy : y ≤ 3000) {S : List (Nat × Nat)} (hS : SB S) : ∀ (r pre : List (Nat × Nat)) (h : AH), pre ++ r = S → Sh h → RSt h S →
    ∃ h', Q d 124 2 [some (.ref 189), some (.int (sC x)), some (.int (sC y)), some (.int (nI pre.length))] [] h = some (some (.int (oI (match fdF (x, y) r pre.length with
      | some k => some k
      | none => if S.length < 8 then some S.length else none))), h') ∧ RSt h' (match fdF (x, y) r pre.length with
      | some k => S
      | none => if S.length < 8 then S ++ [(x, y)] else S) ∧ Fr [3691] [269, 270] h h'
  | [], pre, h, e, hs, R => by
    have e : pre = S := by rw [← e, List.append_nil]
    subst e
    have h8 := hS.1
    rw [t_124_2 hs, R.1, if_neg (nI_nlt (Nat.le_refl _) (by omega))]
    simp only [show (nI pre.length = nI 8) = (pre.length = 8) from propext (nI_eq (by omega) (by decide)), fdF]
    by_cases q : pre.length = 8
    · rw [if_pos q, if_neg (by omega), if_neg (by omega)]
      exact ⟨h, rfl, R, Fr.rfl⟩
    · rw [if_neg q, if_pos (by omega), if_pos (by omega), gd_nI (by omega) (by decide), gd_nI (by omega) (by decide), ix_nI (by omega), nI_add, pk_sub (by omega), Nat.add_sub_cancel]
      have f : Fr [3691] [269, 270] h (sI (sA (sA h 269 pre.length (sC x)) 270 pre.length (sC y)) 3691 189 (nI (pre.length + 1))) := ((Fr.rfl.sA (by decide)).sA (by decide)).sI (by decide)
      refine ⟨_, rfl, ⟨?_, fun k hk => ?_⟩, f⟩
      · show up2 (gI h) 3691 189 _ 3691 189 = _
        rw [up2_s, List.length_append]; rfl
      · rw [List.length_append] at hk
        have hk : k < pre.length + 1 := hk
        show up2 (up2 (gA h) 269 pre.length (sC x)) 270 pre.length (sC y) 269 k = _ ∧ up2 (up2 (gA h) 269 pre.length (sC x)) 270 pre.length (sC y) 270 k = _
        rw [up2_k (by decide), up2_r, up2_r, up2_k (by decide)]
        by_cases q2 : k = pre.length
        · subst q2
          rw [up1_s, up1_s, List.getElem_append_right (Nat.le_refl _)]
          simp
        · rw [up1_x q2, up1_x q2, List.getElem_append_left (by omega)]
          exact R.2 k (by omega)
  | a :: r, pre, h, e, hs, R => by
    have h8 := hS.1
    have el : pre.length + (r.length + 1) = S.length := by rw [← e, List.length_append, List.length_cons]
    have hk : pre.length < S.length := by omega
    have ea : S[pre.length] = a := by
      simp only [← e]
      rw [List.getElem_append_right (Nat.le_refl _)]
      simp
    obtain ⟨r1, r2⟩ := R.2 pre.length hk
    rw [ea] at r1 r2
    have ab := hS.2 a (by rw [← ea]; exact List.getElem_mem hk)
    obtain ⟨h', b1, b2, b3⟩ := r_stop hx hy hS r (pre ++ [a]) h (by rw [List.append_assoc]; exact e) hs R
    rw [List.length_append] at b1 b2
    have b1 : Q d 124 2 [some (.ref 189), some (.int (sC x)), some (.int (sC y)), some (.int (nI (pre.length + 1)))] [] h = _ := b1
    rw [t_124_2 hs, R.1, if_pos (nI_lt hk (by omega)), gd_nI (by omega) (by decide), gd_nI (by omega) (by decide), ix_nI (by omega), r1, r2, nI_add]
    simp only [show (sC a.1 = sC x) = (a.1 = x) from propext (sC_eq (by omega) (by omega)), show (sC a.2 = sC y) = (a.2 = y) from propext (sC_eq (by omega) (by omega))]
    unfold fdF
    by_cases q : a = (x, y)
    · rw [if_pos (by rw [q]), if_pos (by rw [q]), if_pos q]
      exact ⟨h, rfl, R, Fr.rfl⟩
    · rw [if_neg q]
      by_cases q1 : a.1 = x
      · rw [if_pos q1, if_neg fun q2 => q (Prod.ext q1 q2)]
        exact ⟨h', b1, b2, b3⟩
      · rw [if_neg q1]
        exact ⟨h', b1, b2, b3⟩
end WK2
