/-! ===== TOKENS: the reference cuts them all ===== -/
def rkd (k : Nat) : Nat := if k = 0 then 0 else if k = 1 then 4 else if k = 2 then 1 else if k = 3 then 2 else 3
def RK1 (h : AH) (t : Tp) (j : Nat) : Prop := gA h 194 j = nI (rkd (tK t j)) ∧ gA h 195 j = nI (tS t j) ∧ (2 ≤ tK t j → gB h 196 j = lN (tV t j))
/-- all tokens, up to the end -/
def RKs (h : AH) (t : Tp) (M : Nat) : Prop := M ≤ t.1 ∧ t.1 ≤ 4000 ∧ tK t M = 0 ∧ (∀ j, j < M → tK t j ≠ 0) ∧ ∀ j, j ≤ M → RK1 h t j
section RTOK
variable {d : Nat} {t : Tp}
theorem tcd_or {c : Nat} : ((97 ≤ c ∧ c ≤ 122) ∨ 48 ≤ c ∧ c ≤ 57) ↔ 1 ≤ tcd c := by unfold tcd; (repeat' split) <;> omega
theorem tcd_dg {c : Nat} : (48 ≤ c ∧ c ≤ 57) ↔ 27 ≤ tcd c := by unfold tcd; (repeat' split) <;> omega
theorem r_isSg {h : AH} (hs : Sh h) {c : Nat} (hc : c < 128) : E (d + 1) 43 [.ref 189, .int (nI c)] h = some (some (.int (nI (if c ∈ sgL then 1 else 0))), h) := by
  rw [t_43 hs]
  by_cases q : c ∈ sgL
  · rw [if_pos q]
    simp only [sgL, List.mem_cons, List.not_mem_nil, or_false] at q
    rcases q with rfl | rfl | rfl | rfl | rfl | rfl | rfl | rfl | rfl | rfl | rfl | rfl | rfl | rfl | rfl | rfl <;> rfl
  · rw [if_neg q]
    simp only [sgL, List.mem_cons, List.not_mem_nil, or_false, not_or] at q
    obtain ⟨q1, q2, q3, q4, q5, q6, q7, q8, q9, q10, q11, q12, q13, q14, q15, q16⟩ := q
    have ne : ∀ a, a < 128 → c ≠ a → ¬ nI c = nI a := fun a ha q z => q ((nI_eq (by omega) (by omega)).mp z)
    rw [if_neg (ne _ (by decide) q1), if_neg (ne _ (by decide) q2), if_neg (ne _ (by decide) q3), if_neg (ne _ (by decide) q4), if_neg (ne _ (by decide) q5), if_neg (ne _ (by decide) q6), if_neg (ne _ (by decide) q7), if_neg (ne _ (by decide) q8), if_neg (ne _ (by decide) q9), if_neg (ne _ (by decide) q10), if_neg (ne _ (by decide) q11), if_neg (ne _ (by decide) q12), if_neg (ne _ (by decide) q13), if_neg (ne _ (by decide) q14), if_neg (ne _ (by decide) q15), if_neg (ne _ (by decide) q16)]
/-- a name as far as it is packed -/
def pk12 (t : Tp) (b e : Nat) : Nat := pkN 0 (sl (tcS t) b (min 12 (e - b)))
def dg9 (t : Tp) (b e : Nat) : Nat := dgN 0 (sl (tcS t) b (min 9 (e - b)))
theorem r_cnl {h : AH} (hs : Sh h) (T : RTk h t) {b j : Nat} (hj : j < 4002) : ∀ (k a : Nat), k + a = t.1 → b ≤ a → Q (d + 1) 39 5 [some (.ref 189), some (.int (nI b)), some (.int (nI j)), some (.int (nI a)), some (.long (lN (pk12 t b a))), none] [] h = some (some (.int (nI (rnB t 1 k a))), sB (sA h 194 j (nI (if 12 < rnB t 1 k a - b then 4 else 1))) 196 j (lN (pk12 t b (rnB t 1 k a))))
  | 0, a, e, hb => by
    obtain ⟨t1, t2, t3⟩ := T
    rw [t_39_5 hs, t1, if_neg (nI_nlt (by omega) (by omega)), pk_sub hb, ifl (by decide) (by omega), rnB]
    simp only [gd_nI hj (show 4002 ≤ 2 ^ 31 by decide), ix_nI (show j < 2 ^ 31 by omega)]
    split <;> rfl
  | k + 1, a, e, hb => by
    obtain ⟨t1, t2, t3⟩ := T
    obtain ⟨g1, g2⟩ := t3 a (by omega)
    have ih := r_cnl hs ⟨t1, t2, t3⟩ (b := b) hj k (a + 1) (by omega) (by omega)
    have tb := tcd_b (c := t.2 a)
    have step : 1 ≤ tcd (t.2 a) → (if nI a - nI b < nI 12 then gd (nI a) 4000 (cK (E (d + 1) 30 [.int (gA h 193 (ix (nI a)))] h) (Q (d + 1) 39 60 [some (.ref 189), some (.int (nI b)), some (.int (nI j)), some (.int (nI a)), some (.long (lN (pk12 t b a))), none]) [.long (37 * lN (pk12 t b a))]) else Q (d + 1) 39 5 [some (.ref 189), some (.int (nI b)), some (.int (nI j)), some (.int (nI a + nI 1)), some (.long (lN (pk12 t b a))), none] [] h) = Q (d + 1) 39 5 [some (.ref 189), some (.int (nI b)), some (.int (nI j)), some (.int (nI (a + 1))), some (.long (lN (pk12 t b (a + 1)))), none] [] h := fun _ => by
      rw [pk_sub hb, ifl (by omega) (by decide)]
      by_cases q : a - b < 12
      · rw [if_pos q, gd_nI (by omega) (by decide), ix_nI (by omega), g1, r_rank hs (by omega), cK_v, t_39_60 hs, nI_add]
        have ev : 37 * lN (pk12 t b a) + (nI (if 97 ≤ t.2 a ∧ t.2 a ≤ 122 then t.2 a - 96 else if 48 ≤ t.2 a ∧ t.2 a ≤ 57 then t.2 a - 21 else 0)).toInt64 = lN (pk12 t b (a + 1)) := by
          show 37 * lN (pk12 t b a) + (nI (tcd (t.2 a))).toInt64 = _
          rw [nI_l (by omega), show (37 : Int64) = lN 37 from rfl, lN_mul, lN_add]
          unfold pk12
          rw [show min 12 (a - b) = a - b from by omega, show min 12 (a + 1 - b) = a - b + 1 from by omega, pk_s, show b + (a - b) = a from by omega]; rfl
        rw [ev]
      · rw [if_neg q, nI_add]
        unfold pk12
        rw [show min 12 (a - b) = 12 from by omega, show min 12 (a + 1 - b) = 12 from by omega]
    rw [t_39_5 hs, t1, if_pos (nI_lt (by omega) (by omega)), gd_nI (by omega) (by decide), ix_nI (by omega), g1, r_letter hs (by omega), cK_v, t_39_22 hs, rnB]
    by_cases q1 : 97 ≤ t.2 a ∧ t.2 a ≤ 122
    · rw [if_pos q1, if_neg (by decide), if_pos (tcd_or.mp (Or.inl q1)), ← ih]
      have s := step (tcd_or.mp (Or.inl q1))
      exact s
    · rw [if_neg q1, if_pos rfl, gd_nI (by omega) (by decide), ix_nI (by omega), g1, r_digit hs (by omega), cK_v, t_39_34 hs]
      by_cases q2 : 48 ≤ t.2 a ∧ t.2 a ≤ 57
      · rw [if_pos q2, if_neg (by decide), if_pos (tcd_or.mp (Or.inr q2)), ← ih]
        exact step (tcd_or.mp (Or.inr q2))
      · rw [if_neg q2, if_pos rfl, if_neg fun z => (tcd_or.mpr z).elim q1 q2, pk_sub hb, ifl (by decide) (by omega)]
        simp only [gd_nI hj (show 4002 ≤ 2 ^ 31 by decide), ix_nI (show j < 2 ^ 31 by omega)]
        split <;> rfl
theorem dg_s {c : Nat → Nat} {a k : Nat} : dgN 0 (sl c a (k + 1)) = 10 * dgN 0 (sl c a k) + (c (a + k) - 27) := by
  rw [sl_app]; unfold dgN; rw [List.foldl_append]; rfl
theorem r_cdl {h : AH} (hs : Sh h) (T : RTk h t) {b j : Nat} (hj : j < 4002) : ∀ (k a : Nat), k + a = t.1 → b ≤ a → Q (d + 1) 41 5 [some (.ref 189), some (.int (nI b)), some (.int (nI j)), some (.int (nI a)), some (.long (lN (dg9 t b a))), none] [] h = some (some (.int (nI (rnB t 27 k a))), sB (sA h 194 j (nI (if 9 < rnB t 27 k a - b then 4 else 2))) 196 j (lN (dg9 t b (rnB t 27 k a))))
  | 0, a, e, hb => by
    obtain ⟨t1, t2, t3⟩ := T
    rw [t_41_5 hs, t1, if_neg (nI_nlt (by omega) (by omega)), pk_sub hb, ifl (by decide) (by omega), rnB]
    simp only [gd_nI hj (show 4002 ≤ 2 ^ 31 by decide), ix_nI (show j < 2 ^ 31 by omega)]
    split <;> rfl
  | k + 1, a, e, hb => by
    obtain ⟨t1, t2, t3⟩ := T
    obtain ⟨g1, g2⟩ := t3 a (by omega)
    have ih := r_cdl hs ⟨t1, t2, t3⟩ (b := b) hj k (a + 1) (by omega) (by omega)
    rw [t_41_5 hs, t1, if_pos (nI_lt (by omega) (by omega)), gd_nI (by omega) (by decide), ix_nI (by omega), g1, r_digit hs (by omega), cK_v, t_41_22 hs, rnB]
    by_cases q2 : 48 ≤ t.2 a ∧ t.2 a ≤ 57
    · rw [if_pos q2, if_neg (by decide), if_pos (tcd_dg.mp q2), ← ih, pk_sub hb, ifl (by omega) (by decide), nI_add]
      by_cases q : a - b < 9
      · have ev : 10 * lN (dg9 t b a) + (nI (t.2 a)).toInt64 - 48 = lN (dg9 t b (a + 1)) := by
          rw [nI_l (by omega), show (10 : Int64) = lN 10 from rfl, lN_mul, lN_add, show (48 : Int64) = lN 48 from rfl, lN_sub (by omega)]
          unfold dg9
          rw [show min 9 (a - b) = a - b from by omega, show min 9 (a + 1 - b) = a - b + 1 from by omega, dg_s, show b + (a - b) = a from by omega]
          congr 1
          unfold tcS tcd
          rw [if_neg (by omega), if_pos q2]; omega
        rw [if_pos q, gd_nI (by omega) (by decide), ix_nI (by omega), g1, ev]
      · rw [if_neg q]
        unfold dg9
        rw [show min 9 (a - b) = 9 from by omega, show min 9 (a + 1 - b) = 9 from by omega]
    · rw [if_neg q2, if_pos rfl, if_neg fun z => q2 (tcd_dg.mpr z), pk_sub hb, ifl (by decide) (by omega)]
      simp only [gd_nI hj (show 4002 ≤ 2 ^ 31 by decide), ix_nI (show j < 2 ^ 31 by omega)]
      split <;> rfl
theorem Sh.c194 {h : AH} (hs : Sh h) : gC h 194 = 60 ∧ gK h 194 = 4002 := ⟨by rw [← congrFun hs.c 194]; rfl, by rw [← congrFun hs.k 194]; rfl⟩
theorem tok_at {a : Nat} (h1 : a < t.1) (h2 : ¬ (t.2 a = 32 ∨ t.2 a = 10)) : tok t a = tokB t a := by
  unfold tok
  obtain ⟨j, hj⟩ : ∃ j, t.1 - a = j + 1 := ⟨t.1 - a - 1, by omega⟩
  rw [hj, skB, if_neg h2]
theorem tok_bl {a : Nat} (h1 : a < t.1) (h2 : t.2 a = 32 ∨ t.2 a = 10) : tok t (a + 1) = tok t a := by
  unfold tok
  rw [show t.1 - a = (t.1 - (a + 1)) + 1 from by omega, skB, if_pos h2]
theorem RTk.fB {K X : List Nat} {h h' : AH} (T : RTk h t) (f : Fr K X h h') (hK : 3591 ∉ K) (hX : 193 ∉ X) : RTk h' t := T.fr f hK hX
/-- one token is cut: kind, value -/
theorem r_cut1 {h : AH} (hs : Sh h) (T : RTk h t) {b j : Nat} (hj : j < 4002) (hb : b < t.1) (nb : ¬ (t.2 b = 32 ∨ t.2 b = 10)) : ∃ h', cK (E (d + 2) 38 [.int (nI (t.2 b))] h) (Q (d + 2) 37 48 [some (.ref 189), some (.int (nI j)), some (.int (nI b)), some (.int (nI (t.2 b)))]) [] = Q (d + 2) 37 4 [some (.ref 189), some (.int (nI (j + 1))), some (.int (nI (tokB t b).2.2.2)), none] [] h' ∧ Fr [] [194, 196] h h' ∧ gA h' 194 = up1 (gA h 194) j (nI (rkd (tokB t b).1)) ∧ ∃ v, gB h' 196 = up1 (gB h 196) j v ∧ (2 ≤ (tokB t b).1 → v = lN (tokB t b).2.1) := by
  obtain ⟨t1, t2, t3⟩ := id T
  obtain ⟨g1, g2⟩ := t3 b hb
  have fr : ∀ x v, Fr [] [194, 196] h (sB (sA h 194 j x) 196 j v) := fun x v => (Fr.rfl.sA (by decide)).sB (by decide)
  have ga : ∀ x v, gA (sB (sA h 194 j x) 196 j v) 194 = up1 (gA h 194) j x := fun x v => by
    show up2 (gA h) 194 j x 194 = _
    unfold up2; rw [if_pos rfl]
  have gb : ∀ x v, gB (sB (sA h 194 j x) 196 j v) 196 = up1 (gB h 196) j v := fun x v => by
    show up2 (gB h) 196 j v 196 = _
    unfold up2; rw [if_pos rfl]
  rw [r_letter hs (by omega), cK_v, t_37_48 hs]
  unfold tokB
  rw [if_neg (show ¬ t.1 ≤ b by omega)]
  by_cases q1 : 97 ≤ t.2 b ∧ t.2 b ≤ 122
  · have c0 : tcS t b = t.2 b - 96 := by unfold tcS tcd; rw [if_pos q1]
    have p0 : lN (pk12 t b b) = 0 := by unfold pk12; rw [Nat.sub_self]; rfl
    have lp := r_cnl (d := d) hs T (b := b) hj (t.1 - b) b (by omega) (Nat.le_refl _)
    rw [p0] at lp
    rw [if_pos q1, if_neg (by decide), t_39 hs, lp, cK_v, t_37_57 ((fr _ _).sh hs), t_37_82 ((fr _ _).sh hs), nI_add, if_neg (show ¬ tcS t b = 0 by omega), if_neg (show ¬ 27 ≤ tcS t b by omega)]
    unfold tokR
    rw [if_neg (show ¬ (1 : Nat) = 27 by decide)]
    refine ⟨_, rfl, fr _ _, ?_, _, gb _ _, fun z => ?_⟩
    · rw [ga]; congr 2; dsimp only; split <;> rfl
    · dsimp only at z ⊢
      by_cases q4 : 12 < rnB t 1 (t.1 - b) b - b
      · rw [if_pos q4] at z; omega
      · unfold pk12; rw [show min 12 (rnB t 1 (t.1 - b) b - b) = rnB t 1 (t.1 - b) b - b from by omega]
  · rw [if_neg q1, if_pos rfl, r_digit hs (by omega), cK_v, t_37_64 hs]
    by_cases q2 : 48 ≤ t.2 b ∧ t.2 b ≤ 57
    · have c0 : 27 ≤ tcS t b := tcd_dg.mp q2
      have p0 : lN (dg9 t b b) = 0 := by unfold dg9; rw [Nat.sub_self]; rfl
      have lp := r_cdl (d := d) hs T (b := b) hj (t.1 - b) b (by omega) (Nat.le_refl _)
      rw [p0] at lp
      rw [if_pos q2, if_neg (by decide), t_41 hs, lp, cK_v, t_37_73 ((fr _ _).sh hs), t_37_82 ((fr _ _).sh hs), nI_add, if_neg (show ¬ tcS t b = 0 by omega), if_pos c0]
      unfold tokR
      rw [if_pos rfl]
      refine ⟨_, rfl, fr _ _, ?_, _, gb _ _, fun z => ?_⟩
      · rw [ga]; congr 2; dsimp only; split <;> rfl
      · dsimp only at z ⊢
        by_cases q4 : 9 < rnB t 27 (t.1 - b) b - b
        · rw [if_pos q4] at z; omega
        · unfold dg9; rw [show min 9 (rnB t 27 (t.1 - b) b - b) = rnB t 27 (t.1 - b) b - b from by omega]
    · have c0 : tcS t b = 0 := by
        have h1 : ¬ 1 ≤ tcd (t.2 b) := fun z => (tcd_or.mpr z).elim q1 q2
        unfold tcS; omega
      rw [if_neg q2, if_pos rfl, t_42 hs, gd_nI (by omega) (by decide), ix_nI (by omega), g1, r_isSg hs g2, cK_v, t_42_15 hs, if_pos c0]
      have av : ∀ x, gA (sA h 194 j x) 193 b = nI (t.2 b) := fun x => by
        show up2 (gA h) 194 j x 193 b = _
        rw [up2_k (by decide)]; exact g1
      by_cases q3 : t.2 b ∈ sgL
      · rw [if_pos q3, if_neg (by decide), cw_ok hs.c194.1 (by decide), hs.c194.2, gd_nI hj (by decide), gd_nI (by omega) (by decide), gd_nI hj (by decide), ix_nI (by omega), ix_nI (by omega), av, nI_l (by omega), nI_add, cK_v, t_37_82 ((fr _ _).sh hs), nI_add, if_pos q3]
        refine ⟨_, rfl, fr _ _, ?_, _, gb _ _, fun _ => rfl⟩
        rw [ga]; congr 2; dsimp only
        have ne : ∀ c, c ∈ sgL → rkd c = 3 := by decide
        exact (ne _ q3).symm
      · rw [if_neg q3, if_pos rfl, cw_ok hs.c194.1 (by decide), hs.c194.2, gd_nI hj (by decide), gd_nI (by omega) (by decide), gd_nI hj (by decide), ix_nI (by omega), ix_nI (by omega), av, nI_l (by omega), nI_add, cK_v, t_37_82 ((fr _ _).sh hs), nI_add, if_neg q3]
        exact ⟨_, rfl, fr _ _, by rw [ga]; rfl, _, gb _ _, fun _ => rfl⟩
theorem r_cutlp : ∀ (k a j : Nat) {h : AH}, Sh h → RTk h t → t.1 ≤ a + k → a ≤ t.1 → j ≤ a → tok t a = tok t (tkP t j) → (∀ i, i < j → tK t i ≠ 0 ∧ RK1 h t i) → ∃ h' M, Q (d + 2) 37 4 [some (.ref 189), some (.int (nI j)), some (.int (nI a)), none] [] h = some (none, h') ∧ Fr [3595, 3596] [194, 195, 196] h h' ∧ RKs h' t M ∧ gI h' 3595 189 = nI 0 ∧ gI h' 3596 189 = nI 0 := by
  intro k
  have fin : ∀ (a j : Nat) {h : AH}, Sh h → RTk h t → a = t.1 → j ≤ a → tok t a = tok t (tkP t j) → (∀ i, i < j → tK t i ≠ 0 ∧ RK1 h t i) → ∃ h' M, Q (d + 2) 37 4 [some (.ref 189), some (.int (nI j)), some (.int (nI a)), none] [] h = some (none, h') ∧ Fr [3595, 3596] [194, 195, 196] h h' ∧ RKs h' t M ∧ gI h' 3595 189 = nI 0 ∧ gI h' 3596 189 = nI 0 := by
    intro a j h hs T ea hj hk hI
    obtain ⟨t1, t2, t3⟩ := T
    have te : tok t a = (0, 0, t.1, t.1) := by
      unfold tok; rw [ea, Nat.sub_self, skB]; unfold tokB; rw [if_pos (Nat.le_refl _)]
    have kj : tK t j = 0 := by unfold tK; rw [← hk, te]
    have sj : tS t j = t.1 := by unfold tS; rw [← hk, te]
    rw [t_37_4 hs, t1, if_neg (nI_nlt (by omega) (by omega)), gd_nI (by omega) (by decide), gd_nI (by omega) (by decide), ix_nI (by omega)]
    refine ⟨_, j, rfl, (((Fr.rfl.sA (by decide)).sA (by decide)).sI (by decide)).sI (by decide), ⟨by omega, t2, kj, fun i hi => (hI i hi).1, fun i hi => ?_⟩, ?_, ?_⟩
    · have e1 : gA (sI (sI (sA (sA h 194 j (nI 0)) 195 j (nI t.1)) 3595 189 (nI 0)) 3596 189 (nI 0)) 194 = up1 (gA h 194) j (nI 0) := by
        show up2 (up2 (gA h) 194 j (nI 0)) 195 j (nI t.1) 194 = _
        rw [up2_k (by decide)]; unfold up2; rw [if_pos rfl]
      have e2 : gA (sI (sI (sA (sA h 194 j (nI 0)) 195 j (nI t.1)) 3595 189 (nI 0)) 3596 189 (nI 0)) 195 = up1 (gA h 195) j (nI t.1) := by
        show up2 (up2 (gA h) 194 j (nI 0)) 195 j (nI t.1) 195 = _
        unfold up2; rw [if_pos rfl, if_neg (by decide)]
      unfold RK1
      rw [e1, e2]
      by_cases w : i = j
      · rw [w, up1_s, up1_s, kj, sj]; exact ⟨rfl, rfl, fun z => absurd z (by decide)⟩
      · rw [up1_x w, up1_x w]; exact (hI i (by omega)).2
    · rw [gI_k (by decide), gI_s]
    · rw [gI_s]
  induction k with
  | zero => intro a j h hs T h1 h2 hj hk hI; exact fin a j hs T (by omega) hj hk hI
  | succ k ih =>
    intro a j h hs T h1 h2 hj hk hI
    by_cases ea : a = t.1
    · exact fin a j hs T ea hj hk hI
    obtain ⟨t1, t2, t3⟩ := id T
    obtain ⟨g1, g2⟩ := t3 a (by omega)
    by_cases q : t.2 a = 32 ∨ t.2 a = 10
    · have s : Q (d + 2) 37 4 [some (.ref 189), some (.int (nI j)), some (.int (nI a)), none] [] h = Q (d + 2) 37 4 [some (.ref 189), some (.int (nI j)), some (.int (nI (a + 1))), none] [] h := by
        rw [t_37_4 hs, t1, if_pos (nI_lt (by omega) (by omega)), gd_nI (by omega) (by decide), ix_nI (by omega), g1, nI_add]
        rcases q with q | q
        · rw [q, if_neg (by decide), if_pos rfl]
        · rw [q, if_pos rfl]
      rw [s]
      exact ih (a + 1) j hs T (by omega) (by omega) (by omega) ((tok_bl (by omega) q).trans hk) hI
    · have ta := tok_at (t := t) (a := a) (by omega) q
      have tb := tok_b (t := t) (a := a) h2
      rw [ta] at tb hk
      have fp : Fr [] [195] h (sA h 195 j (nI a)) := Fr.rfl.sA (by decide)
      obtain ⟨h1', c1, c2, c3, v, c4, c5⟩ := r_cut1 (d := d) (fp.sh hs) (T.fr fp (by decide) (by decide)) (b := a) (j := j) (by omega) (by omega) q
      have s : Q (d + 2) 37 4 [some (.ref 189), some (.int (nI j)), some (.int (nI a)), none] [] h = Q (d + 2) 37 4 [some (.ref 189), some (.int (nI (j + 1))), some (.int (nI (tokB t a).2.2.2)), none] [] h1' := by
        rw [t_37_4 hs, t1, if_pos (nI_lt (by omega) (by omega)), gd_nI (by omega) (by decide), ix_nI (by omega), g1, if_neg (fun z => q (Or.inr ((nI_eq (by omega) (by decide)).mp z))), if_neg (fun z => q (Or.inl ((nI_eq (by omega) (by decide)).mp z))), gd_nI (by omega) (by decide), ix_nI (by omega)]
        exact c1
      have kj : tK t j = (tokB t a).1 := by unfold tK; rw [← hk]
      have sj : tS t j = (tokB t a).2.2.1 := by unfold tS; rw [← hk]
      have vj : tV t j = (tokB t a).2.1 := by unfold tV; rw [← hk]
      have sa : (tokB t a).2.2.1 = a := by
        unfold tokB
        rw [if_neg (by omega)]
        split
        · rfl
        · split <;> (unfold tokR; split <;> rfl)
      have n0 : (tokB t a).1 ≠ 0 := fun w => by have := tb.2.2.2.1 w; omega
      have tp : tkP t (j + 1) = (tokB t a).2.2.2 := by rw [tkP, ← hk]
      have lt := tb.2.2.2.2 n0
      rw [s]
      have f1 : Fr [3595, 3596] [194, 195, 196] h h1' := (fp.wk (by decide) (by decide)).trans (c2.wk (by decide) (by decide))
      obtain ⟨h2', M, o1, o2, o3⟩ := ih (tokB t a).2.2.2 (j + 1) (c2.sh (fp.sh hs)) ((T.fr fp (by decide) (by decide)).fr c2 (by decide) (by decide)) (by omega) (by omega) (by omega) (by rw [tp]) (fun i hi => by
        have e2 : gA h1' 195 = up1 (gA h 195) j (nI a) := by
          rw [c2.A (by decide)]
          show up2 (gA h) 195 j (nI a) 195 = _
          unfold up2; rw [if_pos rfl]
        have e1 : gA (sA h 195 j (nI a)) 194 = gA h 194 := by show up2 (gA h) 195 j (nI a) 194 = _; rw [up2_k (by decide)]
        unfold RK1
        rw [c3, e2, c4, e1]
        by_cases w : i = j
        · rw [w, up1_s, up1_s, up1_s, kj, sj, vj, sa]
          exact ⟨n0, rfl, rfl, c5⟩
        · rw [up1_x w, up1_x w, up1_x w]; exact hI i (by omega))
      exact ⟨h2', M, o1, f1.trans o2, o3⟩
theorem r_cut {h : AH} (hs : Sh h) (T : RTk h t) : ∃ h' M, E (d + 3) 37 [.ref 189] h = some (none, h') ∧ Fr [3595, 3596] [194, 195, 196] h h' ∧ RKs h' t M ∧ gI h' 3595 189 = nI 0 ∧ gI h' 3596 189 = nI 0 := by
  obtain ⟨h', M, a1, a2⟩ := r_cutlp (d := d) (t := t) t.1 0 0 hs T (by omega) (Nat.zero_le _) (Nat.zero_le _) rfl (fun i hi => absurd hi (by omega))
  exact ⟨h', M, by rw [t_37 hs]; exact a1, a2⟩
end RTOK
