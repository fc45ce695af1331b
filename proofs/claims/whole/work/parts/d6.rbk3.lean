/-! ===== THE BOOK: streets, as the reference reads them ===== -/
section ROH
variable {d : Nat} {h0 h : AH} {t : Tp} {M w k f : Nat} {bk : Bk}
abbrev isNm (t : Tp) (k : Nat) : Prop := tK t k = 2 ∧ tV t k ≠ kw 4
def nmR (t : Tp) (k : Nat) : Nat → Nat → Nat
  | 0, n => n
  | r + 1, n => if isNm t (k + n) then nmR t k r (n + 1) else n
theorem nmR_b {t : Tp} {k : Nat} : ∀ (r n : Nat), n ≤ nmR t k r n ∧ nmR t k r n ≤ n + r ∧ ∀ j, n ≤ j → j < nmR t k r n → isNm t (k + j)
  | 0, n => ⟨Nat.le_refl _, Nat.le_refl _, fun j h1 h2 => absurd h2 (by rw [nmR]; omega)⟩
  | r + 1, n => by
    obtain ⟨a, b, c⟩ := nmR_b (t := t) (k := k) r (n + 1)
    rw [nmR]
    by_cases q : isNm t (k + n)
    · rw [if_pos q]
      refine ⟨by omega, by omega, fun j h1 h2 => ?_⟩
      by_cases e : j = n
      · rw [e]; exact q
      · exact c j (by omega) h2
    · rw [if_neg q]; exact ⟨Nat.le_refl _, by omega, fun j h1 h2 => by omega⟩
/-- how many names stand there -/
def nmC (t : Tp) (k : Nat) : Nat := nmR t k 3 0
def sdN (t : Tp) (q : Nat) : Nat := if isW t q (kw 5) then 1 else if isW t q (kw 6) then 2 else 0
def qsN (t : Tp) (q : Nat) : Nat := if sdN t q = 0 then q else q + 1
theorem r_nms (hw : w ≤ 1) {p : Nat} (hp : p < 60) : ∀ (r n : Nat) {h : AH}, r + n = 3 → RIb h0 t M w (k + n) 0 h → ∃ h', Q (d + 3) 52 45 [some (.ref 189), none, some (.int (nI (60 * w + p))), some (.int (nI n))] [] h = Q (d + 3) 52 115 [some (.ref 189), none, some (.int (nI (60 * w + p))), some (.int (nI (nmR t k r n)))] [] h' ∧ RIb h0 t M w (k + nmR t k r n) (if nmR t k r n = 0 then fX t 1 k else 0) h' ∧ gA h' = gA h ∧ (∀ x, x ≠ 206 → gB h' x = gB h x) ∧ gB h' 206 = fun i => if 3 * (60 * w + p) + n ≤ i ∧ i < 3 * (60 * w + p) + nmR t k r n then lN (tV t (k + (i - 3 * (60 * w + p)))) else gB h 206 i := by
  intro r
  induction r with
  | zero =>
    intro n h e I
    rw [t_52_45 I.1, if_neg (nI_nlt (by omega) (by omega)), if_neg fun z => by have := (nI_eq (by omega) (by decide)).mp z; omega]
    refine ⟨h, rfl, ?_, rfl, fun _ _ => rfl, ?_⟩
    · rw [nmR, if_neg (by omega)]; exact I
    · funext i; rw [nmR, if_neg (by omega)]
  | succ r ih =>
    intro n h e I
    have hs := I.1
    obtain ⟨c1, c2, c3, c4⟩ := I.2.2.1.at rfl
    have out : ¬ isNm t (k + n) → ∃ h', (if nI n = nI 0 then cK (E (d + 3) 48 [.ref 189, .int (nI 1)] h) (Q (d + 3) 52 115 [some (.ref 189), none, some (.int (nI (60 * w + p))), some (.int (nI n))]) [] else Q (d + 3) 52 115 [some (.ref 189), none, some (.int (nI (60 * w + p))), some (.int (nI n))] [] h) = Q (d + 3) 52 115 [some (.ref 189), none, some (.int (nI (60 * w + p))), some (.int (nI (nmR t k (r + 1) n)))] [] h' ∧ RIb h0 t M w (k + nmR t k (r + 1) n) (if nmR t k (r + 1) n = 0 then fX t 1 k else 0) h' ∧ gA h' = gA h ∧ (∀ x, x ≠ 206 → gB h' x = gB h x) ∧ gB h' 206 = fun i => if 3 * (60 * w + p) + n ≤ i ∧ i < 3 * (60 * w + p) + nmR t k (r + 1) n then lN (tV t (k + (i - 3 * (60 * w + p)))) else gB h 206 i := fun q => by
      rw [nmR, if_neg q, ife (by omega) (by decide)]
      have gE : gB h 206 = fun i => if 3 * (60 * w + p) + n ≤ i ∧ i < 3 * (60 * w + p) + n then lN (tV t (k + (i - 3 * (60 * w + p)))) else gB h 206 i := by funext i; rw [if_neg (by omega)]
      by_cases z : n = 0
      · obtain ⟨h1, a1, a2, a3⟩ := r_wrong (d := d + 2) hs I.2.2.1 (c := 1) (by decide) (by decide)
        have F : Fr [3595, 3596] [] h h1 := a2.wk (by decide) (by decide)
        rw [if_pos z, if_pos z, a1, cK_n]
        refine ⟨h1, rfl, ?_, F.gA', fun x _ => by rw [F.gB'], by rw [F.gB']; exact gE⟩
        have : st 0 (fX t 1 (k + n)) = fX t 1 k := by rw [z]; rfl
        rw [this] at a3
        exact I.op F a3
      · rw [if_neg z, if_neg z]
        exact ⟨h, rfl, I, rfl, fun _ _ => rfl, gE⟩
    rw [t_52_45 hs, if_pos (nI_lt (by omega) (by omega)), c1, gd_nI (by omega) (by decide), ix_nI (by omega), c4.1]
    by_cases q1 : tK t (k + n) = 2
    · rw [if_pos (by rw [rk_1.1.mpr q1]), r_isW hs I.2.1 I.2.2.1 (w := 4) (by decide), cK_v, t_52_68 hs]
      by_cases q2 : tV t (k + n) = kw 4
      · rw [b1 (show 0 = 0 ∧ isW t (k + n) (kw 4) from ⟨rfl, q1, q2⟩), if_neg (by decide)]
        exact out fun z => z.2 q2
      · have U := I.2.2.1.up rfl (by rw [q1]; decide)
        have hn : n < 3 := by omega
        have S0 := I.sB (x := 206) (i := 3 * (60 * w + p) + n) (v := lN (tV t (k + n))) (by decide) (by unfold hzA; simp; omega)
        have fr' : Fr [3595, 3596] [] (sB h 206 (3 * (60 * w + p) + n) (lN (tV t (k + n)))) (sI (sB h 206 (3 * (60 * w + p) + n) (lN (tV t (k + n)))) 3595 189 (nI (k + n + 1))) := Fr.rfl.sI (by decide)
        have S1 : RIb h0 t M w (k + (n + 1)) 0 (sI (sB h 206 (3 * (60 * w + p) + n) (lN (tV t (k + n)))) 3595 189 (nI (k + n + 1))) := S0.op fr' (S0.2.2.1.up rfl (by rw [q1]; decide))
        obtain ⟨h', o1, o2, o3, o4, o5⟩ := ih (n + 1) (by omega) S1
        rw [b0 (show ¬ (0 = 0 ∧ isW t (k + n) (kw 4)) from fun z => q2 z.2.2), if_pos rfl, c1, gd_nI (by omega) (by decide), pk_mul, nI_add, gd_nI (by omega) (by decide), ix_nI (by omega), ix_nI (by omega), c4.2.2 (by omega), nI_add, nI_add, o1, nmR, if_pos ⟨q1, q2⟩]
        have nb := (nmR_b (t := t) (k := k) r (n + 1)).1
        refine ⟨h', rfl, o2, o3, fun x hx => ?_, ?_⟩
        · rw [o4 x hx, gBI, gB_k hx]
        · rw [o5]
          funext i
          rw [gBI, gB_s]
          by_cases z : i = 3 * (60 * w + p) + n
          · rw [if_neg (by omega), if_pos (by omega), z, up1_s]; congr 2; omega
          · by_cases z2 : 3 * (60 * w + p) + (n + 1) ≤ i ∧ i < 3 * (60 * w + p) + nmR t k r (n + 1)
            · rw [if_pos z2, if_pos (by omega)]
            · rw [if_neg z2, if_neg (by omega), up1_x z]
    · rw [if_neg fun z => q1 (rk_1.1.mp ((nI_eq (by have := (rk_1 (x := tK t (k + n))).2.2.2.2; omega) (by decide)).mp z))]
      exact out fun z => q1 z.1
theorem r_side {i : Nat} {u1 u3 : Option Value} (hi : i < 120) (I : RIb h0 t M w k f h) : ∃ h' v, cK (E (d + 3) 55 [.ref 189, .int (nI 5)] h) (Q (d + 3) 52 147 [some (.ref 189), u1, some (.int (nI i)), u3]) [.int (nI i), .ref 209] = cK (E (d + 3) 53 [.ref 189, .int (nI 7)] (sA h' 209 i v)) (Q (d + 3) 52 175 [some (.ref 189), none, some (.int (nI i)), none]) [] ∧ RIb h0 t M w (qsN t k) f h' ∧ (gA h' = gA h ∧ gB h' = gB h) ∧ (f = 0 → v = nI (sdN t k)) := by
  obtain ⟨h1, a1, I1, A1, B1⟩ := i_hW (d := d + 1) I (q := 5) (by decide)
  rw [a1, cK_v, t_52_147 I1.1]
  by_cases q : f = 0 ∧ isW t k (kw 5)
  · rw [b1 q, if_neg (by decide), cwN I1.1 209 60 (by decide) rfl, gkN I1.1 209 120 (by decide) rfl, gd_nI hi (by decide), ix_nI (by omega)]
    rw [if_pos q.2] at I1
    have e : sdN t k = 1 := if_pos q.2
    exact ⟨h1, _, rfl, by unfold qsN; rw [e]; exact I1, ⟨A1, B1⟩, fun _ => by rw [e]⟩
  · obtain ⟨h2, a2, I2, A2, B2⟩ := i_hW (d := d + 1) I1 (q := 6) (by decide)
    rw [b0 q, if_pos rfl, a2, cK_v, t_52_160 I2.1]
    by_cases z : f = 0
    · have n5 : ¬ isW t k (kw 5) := fun y => q ⟨z, y⟩
      rw [if_neg n5] at I2 ⊢
      by_cases q2 : isW t k (kw 6)
      · rw [b1 (show f = 0 ∧ isW t k (kw 6) from ⟨z, q2⟩), if_neg (by decide), cwN I2.1 209 60 (by decide) rfl, gkN I2.1 209 120 (by decide) rfl, gd_nI hi (by decide), ix_nI (by omega)]
        rw [if_pos q2] at I2
        have e : sdN t k = 2 := by unfold sdN; rw [if_neg n5, if_pos q2]
        exact ⟨h2, _, rfl, by unfold qsN; rw [e]; exact I2, ⟨A2.trans A1, B2.trans B1⟩, fun _ => by rw [e]⟩
      · rw [b0 (show ¬ (f = 0 ∧ isW t k (kw 6)) from fun y => q2 y.2), if_pos rfl, cwN I2.1 209 60 (by decide) rfl, gkN I2.1 209 120 (by decide) rfl, gd_nI hi (by decide), ix_nI (by omega)]
        rw [if_neg q2] at I2
        have e : sdN t k = 0 := by unfold sdN; rw [if_neg n5, if_neg q2]
        exact ⟨h2, _, rfl, by unfold qsN; rw [e]; exact I2, ⟨A2.trans A1, B2.trans B1⟩, fun _ => by rw [e]⟩
    · rw [b0 (fun y => z y.1), if_pos rfl, cwN I2.1 209 60 (by decide) rfl, gkN I2.1 209 120 (by decide) rfl, gd_nI hi (by decide), ix_nI (by omega)]
      exact ⟨h2, _, rfl, I2.op Fr.rfl (I2.2.2.1.any z _), ⟨A2.trans A1, B2.trans B1⟩, fun y => absurd y z⟩
def pFs' (t : Tp) (k n A Q : Nat) (bk : Bk) : List Nat := [if bk 0 1 = 60 then fX t 5 k else 0, if n = 0 then fX t 1 (k + 1) else 0, fW t A (kw 4), fO t (A + 1) (bk 1) (bk 0 0), fW t Q (kw 7), fN t (Q + 1) 1 999, fW t (Q + 2) (kw 8), fN t (Q + 3) (tV t (Q + 1)) 999, fW t (Q + 4) (kw 9), fN t (Q + 5) 0 999, fN t (Q + 6) 0 999, f1 t (Q + 7) 10 4, fW t (Q + 8) (kw 14), fN t (Q + 9) 0 9]
/-- where the in of a street stands, and its from -/
def pA (t : Tp) (k : Nat) : Nat := k + 1 + nmC t (k + 1)
def pQ (t : Tp) (k : Nat) : Nat := qsN t (pA t k + 2)
def pFs (t : Tp) (k : Nat) (bk : Bk) : List Nat := pFs' t k (nmC t (k + 1)) (pA t k) (pQ t k) bk
def owI (t : Tp) (k w n : Nat) : Nat := (ow t k w n 0).getD 0
theorem f1_v {t : Tp} {k w n : Nat} (h : f1 t k w n = 0) : oI (ow t k w n 0) = nI (owI t k w n) ∧ owI t k w n < n ∧ isW t k (kw (w + owI t k w n)) := by
  obtain ⟨i, e, e1, e2⟩ := f1_0 h
  unfold owI
  rw [e]; exact ⟨rfl, e1, e2⟩
def p7 (t : Tp) (k : Nat) (bk : Bk) : Bk := fun j i => if j = 7 ∧ 3 * bk 0 1 ≤ i ∧ i < 3 * bk 0 1 + 3 then tV t (k + 1 + (i - 3 * bk 0 1)) else bk j i
def pBk (t : Tp) (k : Nat) (bk : Bk) : Bk := up2 (up2 (up2 (up2 (up2 (up2 (up2 (up2 (up2 (up2 (p7 t k bk) 8 (bk 0 1) (nmC t (k + 1))) 9 (bk 0 1) (ofI bk (tV t (pA t k + 1)))) 10 (bk 0 1) (sdN t (pA t k + 2))) 11 (bk 0 1) (tV t (pQ t k + 1))) 12 (bk 0 1) (tV t (pQ t k + 3))) 13 (bk 0 1) (tV t (pQ t k + 5))) 14 (bk 0 1) (tV t (pQ t k + 6))) 15 (bk 0 1) (owI t (pQ t k + 7) 10 4)) 16 (bk 0 1) (tV t (pQ t k + 9))) 0 1 (bk 0 1 + 1)
theorem p7_k {j : Nat} (hj : j ≠ 7) : p7 t k bk j = bk j := funext fun i => if_neg fun z => hj z.1
set_option maxHeartbeats 4000000 in
theorem r_street (hw : w ≤ 1) (W : WB bk) (I : RIb h0 t M w k 0 h) (B : RB h w bk) (q0 : tK t k ≠ 0) : ∃ h', E (d + 4) 52 [.ref 189] h = some (none, h') ∧ RIb h0 t M w (pQ t k + 10) (ff (pFs t k bk)) h' ∧ (ff (pFs t k bk) = 0 → RB h' w (pBk t k bk)) := by
  have w1 := W.1
  have w2 := W.2.1
  obtain ⟨b1', b2', b3', b4', b5', b6'⟩ := id B
  have hs := I.1
  obtain ⟨h1, a1, I1, A1, B1⟩ := i_beg (d := d + 1) I q0 (P := bk 0 1 = 60)
  have beg : (if nI (bk 0 1) = nI 60 then cK (E (d + 3) 47 [.ref 189, .int (nI 1)] h) (Q (d + 3) 52 25 [some (.ref 189), some (.int (nI (bk 0 1))), none, none]) [] else cK (E (d + 3) 47 [.ref 189, .int (nI 0)] h) (Q (d + 3) 52 25 [some (.ref 189), some (.int (nI (bk 0 1))), none, none]) []) = Q (d + 3) 52 25 [some (.ref 189), some (.int (nI (bk 0 1))), none, none] [] h1 := by
    rw [ife (by omega) (by decide)]
    by_cases q : bk 0 1 = 60
    · rw [if_pos q]; rw [b1 q] at a1; rw [a1, cK_n]
    · rw [if_neg q]; rw [b0 q] at a1; rw [a1, cK_n]
  rw [t_52 hs, I.2.2.2.1, gd_nI (by omega) (by decide), ix_nI (by omega), b1'.2.1, beg]
  unfold pFs pFs'
  by_cases q : bk 0 1 = 60
  · rw [if_pos q] at I1 ⊢
    have nz : fX t 5 k ≠ 0 := fX_n (by decide)
    rw [ff_n nz, t_52_25 I1.1, I1.2.2.1.2.1, if_pos (nI_lt (by omega) (by have := I1.2.2.1.2.2.1; omega))]
    exact ⟨h1, rfl, I1.op Fr.rfl (I1.2.2.1.any nz _), fun z => absurd z nz⟩
  · rw [if_neg q] at I1 ⊢
    obtain ⟨h2, a2, I2, A2, B2x, B2n⟩ := r_nms (d := d) (k := k + 1) hw (p := bk 0 1) (by omega) 3 0 rfl I1
    have q52 : nmR t (k + 1) 3 0 = nmC t (k + 1) := rfl
    rw [q52] at a2 I2 B2n
    have pe : k + 1 + nmC t (k + 1) = pA t k := rfl
    rw [pe] at I2
    have nb := (nmR_b (t := t) (k := k + 1) 3 0)
    rw [q52] at nb
    have S2 := I2.sA (x := 207) (i := 60 * w + bk 0 1) (v := nI (nmC t (k + 1))) (by decide) (by unfold hzA; simp; omega)
    obtain ⟨h3, a3, I3, A3, B3⟩ := i_tW (d := d + 1) S2 (q := 4) (by decide)
    obtain ⟨h4, v4, a4, I4, ⟨A4, B4⟩, u4⟩ := i_tO (d := d + 1) I3 (m := bk 0 0) (nm := bk 1) hw (by omega) (by rw [A3, gA_k (by decide), A2, A1]; exact b1'.1) (fun i hi => lt37 (w2 i hi).2.1 (by decide)) (fun i hi => by rw [B3, gBA, B2x 198 (by decide), B1]; exact (b2' i hi).1)
    have S4 := I4.sA (x := 208) (i := 60 * w + bk 0 1) (v := v4) (by decide) (by unfold hzA; simp; omega)
    obtain ⟨h5, v5, a5, I5, ⟨A5, B5⟩, u5⟩ := r_side (d := d) (i := 60 * w + bk 0 1) (by omega) S4
    have pq : qsN t (pA t k + 1 + 1) = pQ t k := rfl
    rw [pq] at I5
    have S5 := I5.sA (x := 209) (i := 60 * w + bk 0 1) (v := v5) (by decide) (by unfold hzA; simp; omega)
    obtain ⟨h6, a6, I6, A6, B6⟩ := i_tW (d := d + 1) S5 (q := 7) (by decide)
    obtain ⟨h7, v7, a7, I7, ⟨A7, B7⟩, u7⟩ := i_tN (d := d + 1) I6 (lo := 1) (hi := 999) (x1 := nI 1) (fun _ => ⟨rfl, by decide⟩) (by decide)
    have S7 := I7.sA (x := 210) (i := 60 * w + bk 0 1) (v := v7) (by decide) (by unfold hzA; simp; omega)
    obtain ⟨h8, a8, I8, A8, B8⟩ := i_tW (d := d + 1) S7 (q := 8) (by decide)
    obtain ⟨h9, v9, a9, I9, ⟨A9, B9⟩, u9⟩ := i_tN (d := d + 1) I8 (lo := tV t (pQ t k + 1)) (hi := 999) (x1 := gA h8 210 (60 * w + bk 0 1)) (fun z => by
      have z6 := (st_0.mp z).1
      have := (fN_0 (st_0.mp z6).2).2.2
      exact ⟨by rw [A8, gA_s, up1_s]; exact u7 z6, Nat.lt_of_le_of_lt this (by decide)⟩) (by decide)
    have S9 := I9.sA (x := 211) (i := 60 * w + bk 0 1) (v := v9) (by decide) (by unfold hzA; simp; omega)
    obtain ⟨h10, a10, I10, A10, B10⟩ := i_tW (d := d + 1) S9 (q := 9) (by decide)
    obtain ⟨h11, v11, a11, I11, ⟨A11, B11⟩, u11⟩ := i_tN (d := d + 1) I10 (lo := 0) (hi := 999) (x1 := nI 0) (fun _ => ⟨rfl, by decide⟩) (by decide)
    have S11 := I11.sA (x := 212) (i := 60 * w + bk 0 1) (v := v11) (by decide) (by unfold hzA; simp; omega)
    obtain ⟨h12, v12, a12, I12, ⟨A12, B12⟩, u12⟩ := i_tN (d := d + 1) S11 (lo := 0) (hi := 999) (x1 := nI 0) (fun _ => ⟨rfl, by decide⟩) (by decide)
    have S12 := I12.sA (x := 213) (i := 60 * w + bk 0 1) (v := v12) (by decide) (by unfold hzA; simp; omega)
    obtain ⟨h13, v13, a13, I13, ⟨A13, B13⟩, u13⟩ := i_1of (d := d + 0) S12 (q := 10) (n := 4) (x2 := nI 13) (by decide) (by decide) rfl
    have S13 := I13.sA (x := 214) (i := 60 * w + bk 0 1) (v := v13) (by decide) (by unfold hzA; simp; omega)
    obtain ⟨h14, a14, I14, A14, B14⟩ := i_tW (d := d + 1) S13 (q := 14) (by decide)
    obtain ⟨h15, v15, a15, I15, ⟨A15, B15⟩, u15⟩ := i_tN (d := d + 1) I14 (lo := 0) (hi := 9) (x1 := nI 0) (fun _ => ⟨rfl, by decide⟩) (by decide)
    have S15 := I15.sA (x := 215) (i := 60 * w + bk 0 1) (v := v15) (by decide) (by unfold hzA; simp; omega)
    have SF := S15.sA (x := 205) (i := w) (v := nI (bk 0 1 + 1)) (by decide) (by unfold hzA; simp)
    have cnt : gA (sA h15 215 (60 * w + bk 0 1) v15) 205 w = nI (bk 0 1) := by
      rw [gA_k (by decide), A15, A14, gA_k (by decide), A13, gA_k (by decide), A12, gA_k (by decide), A11, A10, gA_k (by decide), A9, A8, gA_k (by decide), A7, A6, gA_k (by decide), A5, gA_k (by decide), A4, A3, gA_k (by decide), A2, A1]; exact b1'.2.1
    have fE : st (st (st (st (st (st (st (st (st (st (st (st (if nmC t (k + 1) = 0 then fX t 1 (k + 1) else 0) (fW t (pA t k) (kw 4))) (fO t (pA t k + 1) (bk 1) (bk 0 0))) (fW t (pQ t k) (kw 7))) (fN t (pQ t k + 1) 1 999)) (fW t (pQ t k + 2) (kw 8))) (fN t (pQ t k + 3) (tV t (pQ t k + 1)) 999)) (fW t (pQ t k + 4) (kw 9))) (fN t (pQ t k + 5) 0 999)) (fN t (pQ t k + 6) 0 999)) (f1 t (pQ t k + 7) 10 4)) (fW t (pQ t k + 8) (kw 14))) (fN t (pQ t k + 9) 0 9) = ff [0, if nmC t (k + 1) = 0 then fX t 1 (k + 1) else 0, fW t (pA t k) (kw 4), fO t (pA t k + 1) (bk 1) (bk 0 0), fW t (pQ t k) (kw 7), fN t (pQ t k + 1) 1 999, fW t (pQ t k + 2) (kw 8), fN t (pQ t k + 3) (tV t (pQ t k + 1)) 999, fW t (pQ t k + 4) (kw 9), fN t (pQ t k + 5) 0 999, fN t (pQ t k + 6) 0 999, f1 t (pQ t k + 7) 10 4, fW t (pQ t k + 8) (kw 14), fN t (pQ t k + 9) 0 9] := by
      have e0 : (if nmC t (k + 1) = 0 then fX t 1 (k + 1) else 0) = ff [0, if nmC t (k + 1) = 0 then fX t 1 (k + 1) else 0] := by rw [ff_0, ff_1]
      conv => lhs; rw [e0, st_ff, st_ff, st_ff, st_ff, st_ff, st_ff, st_ff, st_ff, st_ff, st_ff, st_ff, st_ff]
      rfl
    rw [← fE]
    refine ⟨_, ?_, SF, fun z => ?_⟩
    · rw [t_52_25 I1.1, I1.2.2.1.2.1, if_neg (by decide), I1.2.2.2.1, pk_mul, nI_add, a2, t_52_115 I2.1, gd_nI (by omega) (by decide), ix_nI (by omega), a3, cK_n, t_52_127 I3.1, a4, cK_v, t_52_136 I4.1, cwN I4.1 208 60 (by decide) rfl, gkN I4.1 208 120 (by decide) rfl, gd_nI (by omega) (by decide), ix_nI (by omega), a5, a6, cK_n, t_52_175 I6.1, a7, cK_v, t_52_188 I7.1, cwN I7.1 210 60 (by decide) rfl, gkN I7.1 210 120 (by decide) rfl, gd_nI (by omega) (by decide), ix_nI (by omega), a8, cK_n, t_52_195 I8.1, gd_nI (by omega) (by decide), ix_nI (by omega), a9, cK_v, t_52_213 I9.1, cwN I9.1 211 60 (by decide) rfl, gkN I9.1 211 120 (by decide) rfl, gd_nI (by omega) (by decide), ix_nI (by omega), a10, cK_n, t_52_220 I10.1, a11, cK_v, t_52_233 I11.1, cwN I11.1 212 60 (by decide) rfl, gkN I11.1 212 120 (by decide) rfl, gd_nI (by omega) (by decide), ix_nI (by omega), a12, cK_v, t_52_247 I12.1, cwN I12.1 213 60 (by decide) rfl, gkN I12.1 213 120 (by decide) rfl, gd_nI (by omega) (by decide), ix_nI (by omega), a13, cK_v, t_52_261 I13.1, cwN I13.1 214 60 (by decide) rfl, gkN I13.1 214 120 (by decide) rfl, gd_nI (by omega) (by decide), ix_nI (by omega), a14, cK_n, t_52_268 I14.1, a15, cK_v, t_52_280 I15.1, cwN I15.1 215 60 (by decide) rfl, gkN I15.1 215 120 (by decide) rfl, gd_nI (by omega) (by decide), ix_nI (by omega), I15.2.2.2.1, gd_nI (by omega) (by decide), gd_nI (by omega) (by decide), ix_nI (by omega), cnt, nI_add]
    · obtain ⟨z13, y13⟩ := st_0.mp z
      obtain ⟨z12, y12⟩ := st_0.mp z13
      obtain ⟨z11, y11⟩ := st_0.mp z12
      obtain ⟨z10, y10⟩ := st_0.mp z11
      obtain ⟨z9, y9⟩ := st_0.mp z10
      obtain ⟨z8, y8⟩ := st_0.mp z9
      obtain ⟨z7, y7⟩ := st_0.mp z8
      obtain ⟨z6, y6⟩ := st_0.mp z7
      obtain ⟨z5, y5⟩ := st_0.mp z6
      obtain ⟨z4, y4⟩ := st_0.mp z5
      obtain ⟨z3, y3⟩ := st_0.mp z4
      obtain ⟨z2, y2⟩ := st_0.mp z3
      have e4 := u4 z4
      have e5 := u5 z4
      have e7 := u7 z6
      have e9 := u9 z8
      have e11 := u11 z10
      have e12 := u12 z11
      have e13 := u13 z12
      have e15 := u15 z
      have g205 : gA (sA (sA h15 215 (60 * w + bk 0 1) v15) 205 w (nI (bk 0 1 + 1))) 205 = up1 (gA h 205) w (nI (bk 0 1 + 1)) := by
        rw [gA_s, gA_k (by decide), A15, A14, gA_k (by decide), A13, gA_k (by decide), A12, gA_k (by decide), A11, A10, gA_k (by decide), A9, A8, gA_k (by decide), A7, A6, gA_k (by decide), A5, gA_k (by decide), A4, A3, gA_k (by decide), A2, A1]
      have g208 : gA (sA (sA h15 215 (60 * w + bk 0 1) v15) 205 w (nI (bk 0 1 + 1))) 208 = up1 (gA h 208) (60 * w + bk 0 1) v4 := by
        rw [gA_k (by decide), gA_k (by decide), A15, A14, gA_k (by decide), A13, gA_k (by decide), A12, gA_k (by decide), A11, A10, gA_k (by decide), A9, A8, gA_k (by decide), A7, A6, gA_k (by decide), A5, gA_s, A4, A3, gA_k (by decide), A2, A1]
      have g209 : gA (sA (sA h15 215 (60 * w + bk 0 1) v15) 205 w (nI (bk 0 1 + 1))) 209 = up1 (gA h 209) (60 * w + bk 0 1) v5 := by
        rw [gA_k (by decide), gA_k (by decide), A15, A14, gA_k (by decide), A13, gA_k (by decide), A12, gA_k (by decide), A11, A10, gA_k (by decide), A9, A8, gA_k (by decide), A7, A6, gA_s, A5, gA_k (by decide), A4, A3, gA_k (by decide), A2, A1]
      have g210 : gA (sA (sA h15 215 (60 * w + bk 0 1) v15) 205 w (nI (bk 0 1 + 1))) 210 = up1 (gA h 210) (60 * w + bk 0 1) v7 := by
        rw [gA_k (by decide), gA_k (by decide), A15, A14, gA_k (by decide), A13, gA_k (by decide), A12, gA_k (by decide), A11, A10, gA_k (by decide), A9, A8, gA_s, A7, A6, gA_k (by decide), A5, gA_k (by decide), A4, A3, gA_k (by decide), A2, A1]
      have g211 : gA (sA (sA h15 215 (60 * w + bk 0 1) v15) 205 w (nI (bk 0 1 + 1))) 211 = up1 (gA h 211) (60 * w + bk 0 1) v9 := by
        rw [gA_k (by decide), gA_k (by decide), A15, A14, gA_k (by decide), A13, gA_k (by decide), A12, gA_k (by decide), A11, A10, gA_s, A9, A8, gA_k (by decide), A7, A6, gA_k (by decide), A5, gA_k (by decide), A4, A3, gA_k (by decide), A2, A1]
      have g212 : gA (sA (sA h15 215 (60 * w + bk 0 1) v15) 205 w (nI (bk 0 1 + 1))) 212 = up1 (gA h 212) (60 * w + bk 0 1) v11 := by
        rw [gA_k (by decide), gA_k (by decide), A15, A14, gA_k (by decide), A13, gA_k (by decide), A12, gA_s, A11, A10, gA_k (by decide), A9, A8, gA_k (by decide), A7, A6, gA_k (by decide), A5, gA_k (by decide), A4, A3, gA_k (by decide), A2, A1]
      have g213 : gA (sA (sA h15 215 (60 * w + bk 0 1) v15) 205 w (nI (bk 0 1 + 1))) 213 = up1 (gA h 213) (60 * w + bk 0 1) v12 := by
        rw [gA_k (by decide), gA_k (by decide), A15, A14, gA_k (by decide), A13, gA_s, A12, gA_k (by decide), A11, A10, gA_k (by decide), A9, A8, gA_k (by decide), A7, A6, gA_k (by decide), A5, gA_k (by decide), A4, A3, gA_k (by decide), A2, A1]
      have g214 : gA (sA (sA h15 215 (60 * w + bk 0 1) v15) 205 w (nI (bk 0 1 + 1))) 214 = up1 (gA h 214) (60 * w + bk 0 1) v13 := by
        rw [gA_k (by decide), gA_k (by decide), A15, A14, gA_s, A13, gA_k (by decide), A12, gA_k (by decide), A11, A10, gA_k (by decide), A9, A8, gA_k (by decide), A7, A6, gA_k (by decide), A5, gA_k (by decide), A4, A3, gA_k (by decide), A2, A1]
      have g215 : gA (sA (sA h15 215 (60 * w + bk 0 1) v15) 205 w (nI (bk 0 1 + 1))) 215 = up1 (gA h 215) (60 * w + bk 0 1) v15 := by
        rw [gA_k (by decide), gA_s, A15, A14, gA_k (by decide), A13, gA_k (by decide), A12, gA_k (by decide), A11, A10, gA_k (by decide), A9, A8, gA_k (by decide), A7, A6, gA_k (by decide), A5, gA_k (by decide), A4, A3, gA_k (by decide), A2, A1]
      have g207 : gA (sA (sA h15 215 (60 * w + bk 0 1) v15) 205 w (nI (bk 0 1 + 1))) 207 = up1 (gA h 207) (60 * w + bk 0 1) (nI (nmC t (k + 1))) := by
        rw [gA_k (by decide), gA_k (by decide), A15, A14, gA_k (by decide), A13, gA_k (by decide), A12, gA_k (by decide), A11, A10, gA_k (by decide), A9, A8, gA_k (by decide), A7, A6, gA_k (by decide), A5, gA_k (by decide), A4, A3, gA_s, A2, A1]
      have g206 : ∀ i, gB (sA (sA h15 215 (60 * w + bk 0 1) v15) 205 w (nI (bk 0 1 + 1))) 206 i = if 3 * (60 * w + bk 0 1) ≤ i ∧ i < 3 * (60 * w + bk 0 1) + nmC t (k + 1) then lN (tV t (k + 1 + (i - 3 * (60 * w + bk 0 1)))) else gB h 206 i := fun i => by
        rw [gBA, gBA, B15, B14, gBA, B13, gBA, B12, gBA, B11, B10, gBA, B9, B8, gBA, B7, B6, gBA, B5, gBA, B4, B3, gBA, B2n]
        show (if 3 * (60 * w + bk 0 1) + 0 ≤ i ∧ _ then _ else gB h1 206 i) = _
        rw [B1, Nat.add_zero]
      have gA' : ∀ x, x ≠ 205 → x ≠ 207 → x ≠ 208 → x ≠ 209 → x ≠ 210 → x ≠ 211 → x ≠ 212 → x ≠ 213 → x ≠ 214 → x ≠ 215 → gA (sA (sA h15 215 (60 * w + bk 0 1) v15) 205 w (nI (bk 0 1 + 1))) x = gA h x := fun x n205 n207 n208 n209 n210 n211 n212 n213 n214 n215 => by
        rw [gA_k n205, gA_k n215, A15, A14, gA_k n214, A13, gA_k n213, A12, gA_k n212, A11, A10, gA_k n211, A9, A8, gA_k n210, A7, A6, gA_k n209, A5, gA_k n208, A4, A3, gA_k n207, A2, A1]
      have gB' : ∀ x, x ≠ 206 → gB (sA (sA h15 215 (60 * w + bk 0 1) v15) 205 w (nI (bk 0 1 + 1))) x = gB h x := fun x n206 => by
        rw [gBA, gBA, B15, B14, gBA, B13, gBA, B12, gBA, B11, B10, gBA, B9, B8, gBA, B7, B6, gBA, B5, gBA, B4, B3, gBA, B2x _ n206, B1]
      generalize (sA (sA h15 215 (60 * w + bk 0 1) v15) 205 w (nI (bk 0 1 + 1))) = H at *
      have k0 : pBk t k bk 0 1 = bk 0 1 + 1 := up2_s
      have kx : ∀ j, j ≠ 1 → pBk t k bk 0 j = bk 0 j := fun j hj => by
        unfold pBk; rw [up2_x hj, up2_k (by decide), up2_k (by decide), up2_k (by decide), up2_k (by decide), up2_k (by decide), up2_k (by decide), up2_k (by decide), up2_k (by decide), up2_k (by decide), p7_k (by decide)]
      have kk : ∀ j, j ≠ 0 → j ≠ 7 → j ≠ 8 → j ≠ 9 → j ≠ 10 → j ≠ 11 → j ≠ 12 → j ≠ 13 → j ≠ 14 → j ≠ 15 → j ≠ 16 → pBk t k bk j = bk j := fun j m0 m7 m8 m9 m10 m11 m12 m13 m14 m15 m16 => by
        unfold pBk; rw [up2_k m0, up2_k m16, up2_k m15, up2_k m14, up2_k m13, up2_k m12, up2_k m11, up2_k m10, up2_k m9, up2_k m8, p7_k m7]
      have kn8 : ∀ i, pBk t k bk 8 i = if i = bk 0 1 then nmC t (k + 1) else bk 8 i := fun i => by
        unfold pBk; simp [up2, up1, p7_k]
      have kn9 : ∀ i, pBk t k bk 9 i = if i = bk 0 1 then ofI bk (tV t (pA t k + 1)) else bk 9 i := fun i => by
        unfold pBk; simp [up2, up1, p7_k]
      have kn10 : ∀ i, pBk t k bk 10 i = if i = bk 0 1 then sdN t (pA t k + 2) else bk 10 i := fun i => by
        unfold pBk; simp [up2, up1, p7_k]
      have kn11 : ∀ i, pBk t k bk 11 i = if i = bk 0 1 then tV t (pQ t k + 1) else bk 11 i := fun i => by
        unfold pBk; simp [up2, up1, p7_k]
      have kn12 : ∀ i, pBk t k bk 12 i = if i = bk 0 1 then tV t (pQ t k + 3) else bk 12 i := fun i => by
        unfold pBk; simp [up2, up1, p7_k]
      have kn13 : ∀ i, pBk t k bk 13 i = if i = bk 0 1 then tV t (pQ t k + 5) else bk 13 i := fun i => by
        unfold pBk; simp [up2, up1, p7_k]
      have kn14 : ∀ i, pBk t k bk 14 i = if i = bk 0 1 then tV t (pQ t k + 6) else bk 14 i := fun i => by
        unfold pBk; simp [up2, up1, p7_k]
      have kn15 : ∀ i, pBk t k bk 15 i = if i = bk 0 1 then owI t (pQ t k + 7) 10 4 else bk 15 i := fun i => by
        unfold pBk; simp [up2, up1, p7_k]
      have kn16 : ∀ i, pBk t k bk 16 i = if i = bk 0 1 then tV t (pQ t k + 9) else bk 16 i := fun i => by
        unfold pBk; simp [up2, up1, p7_k]
      unfold RB
      simp only [kx 0 (by decide), kx 2 (by decide), kx 3 (by decide), kx 4 (by decide), k0, kk 1 (by decide) (by decide) (by decide) (by decide) (by decide) (by decide) (by decide) (by decide) (by decide) (by decide) (by decide), kk 2 (by decide) (by decide) (by decide) (by decide) (by decide) (by decide) (by decide) (by decide) (by decide) (by decide) (by decide), kk 3 (by decide) (by decide) (by decide) (by decide) (by decide) (by decide) (by decide) (by decide) (by decide) (by decide) (by decide), kk 4 (by decide) (by decide) (by decide) (by decide) (by decide) (by decide) (by decide) (by decide) (by decide) (by decide) (by decide), kk 5 (by decide) (by decide) (by decide) (by decide) (by decide) (by decide) (by decide) (by decide) (by decide) (by decide) (by decide), kk 6 (by decide) (by decide) (by decide) (by decide) (by decide) (by decide) (by decide) (by decide) (by decide) (by decide) (by decide), kk 17 (by decide) (by decide) (by decide) (by decide) (by decide) (by decide) (by decide) (by decide) (by decide) (by decide) (by decide), kk 18 (by decide) (by decide) (by decide) (by decide) (by decide) (by decide) (by decide) (by decide) (by decide) (by decide) (by decide), kk 19 (by decide) (by decide) (by decide) (by decide) (by decide) (by decide) (by decide) (by decide) (by decide) (by decide) (by decide), kk 20 (by decide) (by decide) (by decide) (by decide) (by decide) (by decide) (by decide) (by decide) (by decide) (by decide) (by decide), kk 21 (by decide) (by decide) (by decide) (by decide) (by decide) (by decide) (by decide) (by decide) (by decide) (by decide) (by decide), kk 22 (by decide) (by decide) (by decide) (by decide) (by decide) (by decide) (by decide) (by decide) (by decide) (by decide) (by decide), kk 23 (by decide) (by decide) (by decide) (by decide) (by decide) (by decide) (by decide) (by decide) (by decide) (by decide) (by decide), kk 24 (by decide) (by decide) (by decide) (by decide) (by decide) (by decide) (by decide) (by decide) (by decide) (by decide) (by decide), kk 25 (by decide) (by decide) (by decide) (by decide) (by decide) (by decide) (by decide) (by decide) (by decide) (by decide) (by decide), kk 26 (by decide) (by decide) (by decide) (by decide) (by decide) (by decide) (by decide) (by decide) (by decide) (by decide) (by decide), kk 27 (by decide) (by decide) (by decide) (by decide) (by decide) (by decide) (by decide) (by decide) (by decide) (by decide) (by decide), kk 28 (by decide) (by decide) (by decide) (by decide) (by decide) (by decide) (by decide) (by decide) (by decide) (by decide) (by decide), kk 29 (by decide) (by decide) (by decide) (by decide) (by decide) (by decide) (by decide) (by decide) (by decide) (by decide) (by decide), kk 30 (by decide) (by decide) (by decide) (by decide) (by decide) (by decide) (by decide) (by decide) (by decide) (by decide) (by decide), kk 31 (by decide) (by decide) (by decide) (by decide) (by decide) (by decide) (by decide) (by decide) (by decide) (by decide) (by decide)]
      rw [gA' 197 (by decide) (by decide) (by decide) (by decide) (by decide) (by decide) (by decide) (by decide) (by decide) (by decide), gA' 199 (by decide) (by decide) (by decide) (by decide) (by decide) (by decide) (by decide) (by decide) (by decide) (by decide), gA' 200 (by decide) (by decide) (by decide) (by decide) (by decide) (by decide) (by decide) (by decide) (by decide) (by decide), gA' 201 (by decide) (by decide) (by decide) (by decide) (by decide) (by decide) (by decide) (by decide) (by decide) (by decide), gA' 202 (by decide) (by decide) (by decide) (by decide) (by decide) (by decide) (by decide) (by decide) (by decide) (by decide), gA' 216 (by decide) (by decide) (by decide) (by decide) (by decide) (by decide) (by decide) (by decide) (by decide) (by decide), gA' 218 (by decide) (by decide) (by decide) (by decide) (by decide) (by decide) (by decide) (by decide) (by decide) (by decide), gA' 219 (by decide) (by decide) (by decide) (by decide) (by decide) (by decide) (by decide) (by decide) (by decide) (by decide), gA' 220 (by decide) (by decide) (by decide) (by decide) (by decide) (by decide) (by decide) (by decide) (by decide) (by decide), gA' 221 (by decide) (by decide) (by decide) (by decide) (by decide) (by decide) (by decide) (by decide) (by decide) (by decide), gA' 222 (by decide) (by decide) (by decide) (by decide) (by decide) (by decide) (by decide) (by decide) (by decide) (by decide), gA' 223 (by decide) (by decide) (by decide) (by decide) (by decide) (by decide) (by decide) (by decide) (by decide) (by decide), gA' 224 (by decide) (by decide) (by decide) (by decide) (by decide) (by decide) (by decide) (by decide) (by decide) (by decide), gA' 225 (by decide) (by decide) (by decide) (by decide) (by decide) (by decide) (by decide) (by decide) (by decide) (by decide), gA' 226 (by decide) (by decide) (by decide) (by decide) (by decide) (by decide) (by decide) (by decide) (by decide) (by decide), gA' 227 (by decide) (by decide) (by decide) (by decide) (by decide) (by decide) (by decide) (by decide) (by decide) (by decide), gA' 228 (by decide) (by decide) (by decide) (by decide) (by decide) (by decide) (by decide) (by decide) (by decide) (by decide), gA' 229 (by decide) (by decide) (by decide) (by decide) (by decide) (by decide) (by decide) (by decide) (by decide) (by decide), gA' 230 (by decide) (by decide) (by decide) (by decide) (by decide) (by decide) (by decide) (by decide) (by decide) (by decide), gA' 231 (by decide) (by decide) (by decide) (by decide) (by decide) (by decide) (by decide) (by decide) (by decide) (by decide), gA' 232 (by decide) (by decide) (by decide) (by decide) (by decide) (by decide) (by decide) (by decide) (by decide) (by decide), gB' 198 (by decide), gB' 203 (by decide), gB' 204 (by decide), gB' 217 (by decide)]
      have E4 := e4.trans (fO_v y3).1
      have E13 := e13.trans (f1_v y11).1
      have n0 : nmC t (k + 1) ≠ 0 := fun z => by
        have w : (if nmC t (k + 1) = 0 then fX t 1 (k + 1) else 0) = 0 := z2
        rw [if_pos z] at w; exact absurd w (fX_n (by decide))
      have k7 : ∀ i, pBk t k bk 7 i = if 3 * bk 0 1 ≤ i ∧ i < 3 * bk 0 1 + 3 then tV t (k + 1 + (i - 3 * bk 0 1)) else bk 7 i := fun i => by
        unfold pBk
        rw [up2_k (by decide), up2_k (by decide), up2_k (by decide), up2_k (by decide), up2_k (by decide), up2_k (by decide), up2_k (by decide), up2_k (by decide), up2_k (by decide), up2_k (by decide)]
        unfold p7
        by_cases z : 3 * bk 0 1 ≤ i ∧ i < 3 * bk 0 1 + 3
        · rw [if_pos ⟨rfl, z⟩, if_pos z]
        · rw [if_neg fun y => z y.2, if_neg z]
      refine ⟨⟨b1'.1, by rw [g205, up1_s], b1'.2.2⟩, b2', b3', fun i hi => ?_, b5', b6'⟩
      rw [g207, g208, g209, g210, g211, g212, g213, g214, g215, kn8, kn9, kn10, kn11, kn12, kn13, kn14, kn15, kn16]
      by_cases z : i = bk 0 1
      · rw [z]; simp only [up1_s, if_true]
        refine ⟨fun j hj => ?_, trivial, E4, e5, e7, e9, e11, e12, E13, e15⟩
        rw [g206, if_pos (by omega), k7, if_pos (by omega), Nat.add_sub_cancel_left, Nat.add_sub_cancel_left]
      · have wi := W.2.2.2.1 i (by omega)
        rw [up1_x (by omega), up1_x (by omega), up1_x (by omega), up1_x (by omega), up1_x (by omega), up1_x (by omega), up1_x (by omega), up1_x (by omega), up1_x (by omega), if_neg z, if_neg z, if_neg z, if_neg z, if_neg z, if_neg z, if_neg z, if_neg z, if_neg z]
        obtain ⟨y1', y2'⟩ := b4' i (by omega)
        refine ⟨fun j hj => ?_, y2'⟩
        rw [g206, if_neg (by omega), k7, if_neg (by omega)]; exact y1' j hj
end ROH
