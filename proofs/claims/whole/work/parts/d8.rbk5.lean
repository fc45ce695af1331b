/-! ===== THE BOOK: a service's rules; all that is told; the whole book (reference) ===== -/
def ruP (t : Tp) (k : Nat) : Nat → Nat
  | 0 => k
  | i + 1 => ruP t k i + lnR (ruK t (ruP t k i))
def rlF (t : Tp) (k : Nat) : Nat → Nat → Nat × Nat
  | 0, i => (fX t 1 (ruP t k i), i)
  | r + 1, i => if tK t (ruP t k i) = 59 then (0, i) else if r1F t (ruP t k i) i = 0 then rlF t k r (i + 1) else (r1F t (ruP t k i) i, i)
theorem r1F_8 {t : Tp} {p : Nat} : r1F t p 8 ≠ 0 := by
  unfold r1F
  cases rKd t p with
  | none => exact fX_n (by decide)
  | some κ => show (if 8 = 8 then fX t 5 p else ff (ruF t p κ)) ≠ 0; rw [if_pos rfl]; exact fX_n (by decide)
/-- rules that were read -/
def RUl (h : AH) (t : Tp) (k s n : Nat) : Prop := ∀ j, j < n → gA h 221 (8 * s + j) = nI (rkR (ruK t (ruP t k j))) ∧ gA h 222 (8 * s + j) = nI (if ruK t (ruP t k j) = 2 then ruB t (ruP t k j) else ruA t (ruP t k j)) ∧ (ruK t (ruP t k j) = 1 → gA h 223 (8 * s + j) = nI (ruB t (ruP t k j)) ∧ gA h 224 (8 * s + j) = nI (ruC t (ruP t k j))) ∧ (ruK t (ruP t k j) = 2 → gA h 223 (8 * s + j) = nI (ruA t (ruP t k j)))
section RSW
variable {d : Nat} {h0 h : AH} {t : Tp} {M w k f : Nat} {bk : Bk}
theorem r_rlp {s : Nat} (hs8 : s < 16) (hw : w ≤ 1) (hsw : 8 * w ≤ s ∧ s < 8 * w + 8) : ∀ (r i : Nat) {h : AH}, r + i = 9 → 0 < r → RIb h0 t M w (ruP t k i) 0 h → gA h 220 s = nI i → RUl h t k s i → ∃ h', Q (d + 4) 57 106 [some (.ref 189), none, some (.int (nI s))] [] h = some (none, sA h' 216 w (gA h' 216 w + nI 1)) ∧ RIb h0 t M w (ruP t k (rlF t k r i).2) (rlF t k r i).1 h' ∧ gB h' = gB h ∧ (∀ x, x < 220 ∨ 224 < x → gA h' x = gA h x) ∧ (∀ x j, 221 ≤ x → x ≤ 224 → (j < 8 * s ∨ 8 * s + 8 ≤ j) → gA h' x j = gA h x j) ∧ (∀ j, j ≠ s → gA h' 220 j = gA h 220 j) ∧ ((rlF t k r i).1 = 0 → gA h' 220 s = nI (rlF t k r i).2 ∧ (rlF t k r i).2 ≤ 8 ∧ RUl h' t k s (rlF t k r i).2) := by
  intro r
  have fin : ∀ {g : AH} {p f : Nat}, RIb h0 t M w p f g → (gd (gI g 3598 189) 2 (gd (gI g 3598 189) 2 (some (none, sA g 216 (ix (gI g 3598 189)) ((gA g 216 (ix (gI g 3598 189))) + (nI 1)))))) = (some (none, sA g 216 w (gA g 216 w + nI 1)) : Option Ot) := fun {g p f} I => by
    rw [I.2.2.2.1, gd_nI (by omega) (by decide), gd_nI (by omega) (by decide), ix_nI (by omega)]
  induction r with
  | zero => intro i h e h0; omega
  | succ r ih =>
    intro i h e hr I hc RU
    have hs := I.1
    rw [t_57_106 hs, I.2.2.1.2.1, if_pos rfl, r_isA hs I.2.2.1 (c := 59) (by decide) (by decide), cK_v, t_57_119 hs, rlF]
    by_cases q : tK t (ruP t k i) = 59
    · rw [b1 (show 0 = 0 ∧ tK t (ruP t k i) = 59 from ⟨rfl, q⟩), if_neg (by decide), fin I, if_pos q]
      exact ⟨h, rfl, I, rfl, fun _ _ => rfl, fun _ _ _ _ _ => rfl, fun _ _ => rfl, fun _ => ⟨hc, by show i ≤ 8; omega, RU⟩⟩
    · obtain ⟨h1, a1, I1, B1, A1, A2, A3, V⟩ := r_rule (d := d + 1) (i := i) hs8 hsw (by omega) I hc
      rw [b0 (show ¬ (0 = 0 ∧ tK t (ruP t k i) = 59) from fun z => q z.2), if_pos rfl, a1, cK_n, t_57_127 I1.1, if_neg q]
      by_cases q2 : r1F t (ruP t k i) i = 0
      · rw [if_pos q2]
        obtain ⟨v1, v2, v3, v4, v5⟩ := V q2
        rw [q2] at I1
        have i8 : i ≠ 8 := fun z => by rw [z] at q2; exact r1F_8 q2
        obtain ⟨h2, o1, o2, o3, o4, o5, o6, o7⟩ := ih (i + 1) (by omega) (by omega) I1 v1 (fun j hj => by
          by_cases z : j = i
          · rw [z]; exact ⟨v2, v3, v4, v5⟩
          · rw [A2 221 _ (by decide) (by decide) (by omega), A2 222 _ (by decide) (by decide) (by omega), A2 223 _ (by decide) (by decide) (by omega), A2 224 _ (by decide) (by decide) (by omega)]
            exact RU j (by omega))
        exact ⟨h2, o1, o2, o3.trans B1, fun x hx => (o4 x hx).trans (A1 x hx), fun x j x1 x2 hj => (o5 x j x1 x2 hj).trans (A2 x j x1 x2 (by omega)), fun j hj => (o6 j hj).trans (A3 j hj), o7⟩
      · have lt := I1.2.2.1.2.2.1
        rw [if_neg q2, t_57_106 I1.1, I1.2.2.1.2.1, if_neg fun z => q2 ((nI_eq (Nat.lt_trans lt (by decide)) (by decide)).mp z), fin I1]
        exact ⟨h1, rfl, I1.op Fr.rfl (I1.2.2.1.any q2 _), B1, A1, fun x j x1 x2 hj => A2 x j x1 x2 (by omega), A3, fun z => absurd z q2⟩
def vFs (t : Tp) (k : Nat) (bk : Bk) : List Nat := [if bk 0 2 = 8 then fX t 5 k else 0, fM t (k + 1) (bk 17) (bk 0 2), f1 t (k + 2) 16 3, fW t (k + 3) (kw 19), fN t (k + 4) 1 4000, (rlF t (k + 5) 9 0).1]
def ruV (j : Nat) (t : Tp) (p : Nat) : Nat := if j = 21 then ruK t p else if j = 22 then ruA t p else if j = 23 then ruB t p else ruC t p
def v21 (t : Tp) (k : Nat) (bk : Bk) : Bk := fun j i => if (21 ≤ j ∧ j ≤ 24) ∧ 8 * bk 0 2 ≤ i ∧ i < 8 * bk 0 2 + 8 then ruV j t (ruP t (k + 5) (i - 8 * bk 0 2)) else bk j i
def vBk (t : Tp) (k : Nat) (bk : Bk) : Bk := up2 (up2 (up2 (up2 (up2 (v21 t k bk) 17 (bk 0 2) (tV t (k + 1))) 18 (bk 0 2) (owI t (k + 2) 16 3)) 19 (bk 0 2) (tV t (k + 4))) 20 (bk 0 2) (rlF t (k + 5) 9 0).2) 0 2 (bk 0 2 + 1)
theorem v21_k {j : Nat} (hj : j < 21 ∨ 24 < j) : v21 t k bk j = bk j := funext fun i => if_neg fun z => by omega
theorem r_service (hw : w ≤ 1) (W : WB bk) (V17 : ∀ s, s < bk 0 2 → bk 17 s < 37 ^ 12) (I : RIb h0 t M w k 0 h) (B : RB h w bk) (q0 : tK t k ≠ 0) : ∃ h', E (d + 5) 57 [.ref 189] h = some (none, h') ∧ RIb h0 t M w (ruP t (k + 5) (rlF t (k + 5) 9 0).2) (ff (vFs t k bk)) h' ∧ (ff (vFs t k bk) = 0 → RB h' w (vBk t k bk)) := by
  have w1 := W.1
  have w2 := W.2.1
  obtain ⟨b1', b2', b3', b4', b5', b6'⟩ := id B
  have hs := I.1
  obtain ⟨h1, a1, I1, A1, B1⟩ := i_beg (d := d + 2) I q0 (P := bk 0 2 = 8)
  have beg : (if nI (bk 0 2) = nI 8 then cK (E (d + 4) 47 [.ref 189, .int (nI 1)] h) (Q (d + 4) 57 25 [some (.ref 189), some (.int (nI (bk 0 2))), none]) [] else cK (E (d + 4) 47 [.ref 189, .int (nI 0)] h) (Q (d + 4) 57 25 [some (.ref 189), some (.int (nI (bk 0 2))), none]) []) = Q (d + 4) 57 25 [some (.ref 189), some (.int (nI (bk 0 2))), none] [] h1 := by
    rw [ife (by omega) (by decide)]
    by_cases q : bk 0 2 = 8
    · rw [if_pos q]; rw [b1 q] at a1; rw [a1, cK_n]
    · rw [if_neg q]; rw [b0 q] at a1; rw [a1, cK_n]
  rw [t_57 hs, I.2.2.2.1, gd_nI (by omega) (by decide), ix_nI (by omega), b1'.2.2.1, beg]
  unfold vFs
  by_cases q : bk 0 2 = 8
  · rw [if_pos q] at I1 ⊢
    have nz : fX t 5 k ≠ 0 := fX_n (by decide)
    rw [ff_n nz, t_57_25 I1.1, I1.2.2.1.2.1, if_pos (nI_lt (by omega) (by have := I1.2.2.1.2.2.1; omega))]
    exact ⟨h1, rfl, I1.op Fr.rfl (I1.2.2.1.any nz _), fun z => absurd z nz⟩
  · rw [if_neg q] at I1 ⊢
    obtain ⟨h2, v2, a2, I2, ⟨A2, B2⟩, u2⟩ := i_tM (d := d + 2) I1 (x := 217) (fr := 8 * w) (m := bk 0 2) (nm := bk 17) (Kx := 16) (fun g hg => ⟨(hg.aN 217 (by decide)).1, (hg.aN 217 (by decide)).2⟩) (by omega) (fun i hi => lt37 (V17 i hi) (by decide)) (fun i hi => by rw [B1]; exact (b5' i hi).1)
    have S2 := I2.sB (x := 217) (i := 8 * w + bk 0 2) (v := v2) (by decide) (by unfold hzA; simp; omega)
    obtain ⟨h3, v3, a3, I3, ⟨A3, B3⟩, u3⟩ := i_1of (d := d + 1) S2 (q := 16) (n := 3) (x2 := nI 18) (by decide) (by decide) rfl
    have S3 := I3.sA (x := 218) (i := 8 * w + bk 0 2) (v := v3) (by decide) (by unfold hzA; simp; omega)
    obtain ⟨h4, a4, I4, A4, B4⟩ := i_tW (d := d + 2) S3 (q := 19) (by decide)
    obtain ⟨h5, v5, a5, I5, ⟨A5, B5⟩, u5⟩ := i_tN (d := d + 2) I4 (lo := 1) (hi := 4000) (x1 := nI 1) (fun _ => ⟨rfl, by decide⟩) (by decide)
    have S5 := I5.sA (x := 219) (i := 8 * w + bk 0 2) (v := v5) (by decide) (by unfold hzA; simp; omega)
    have S6 := S5.sA (x := 220) (i := 8 * w + bk 0 2) (v := nI 0) (by decide) (by unfold hzA; simp; omega)
    have fEE : st (st (st (st (st 0 (fM t (k + 1) (bk 17) (bk 0 2))) (f1 t (k + 2) 16 3)) (fW t (k + 3) (kw 19))) (fN t (k + 4) 1 4000)) (rlF t (k + 5) 9 0).1 = ff [0, fM t (k + 1) (bk 17) (bk 0 2), f1 t (k + 2) 16 3, fW t (k + 3) (kw 19), fN t (k + 4) 1 4000, (rlF t (k + 5) 9 0).1] := by
      rw [show (0 : Nat) = ff [0] from rfl, st_ff, st_ff, st_ff, st_ff, st_ff]; rfl
    rw [← fEE]
    have run : Q (d + 4) 57 25 [some (.ref 189), some (.int (nI (bk 0 2))), none] [] h1 = Q (d + 4) 57 106 [some (.ref 189), none, some (.int (nI (8 * w + bk 0 2)))] [] (sA (sA h5 219 (8 * w + bk 0 2) v5) 220 (8 * w + bk 0 2) (nI 0)) := by
      rw [t_57_25 I1.1, I1.2.2.1.2.1, if_neg (by decide), I1.2.2.2.1, pk_mul, nI_add, a2, cK_v, t_57_64 I2.1, cwN I2.1 217 61 (by decide) rfl, gkN I2.1 217 16 (by decide) rfl, gd_nI (by omega) (by decide), ix_nI (by omega), a3, cK_v, t_57_78 I3.1, cwN I3.1 218 60 (by decide) rfl, gkN I3.1 218 16 (by decide) rfl, gd_nI (by omega) (by decide), ix_nI (by omega), a4, cK_n, t_57_85 I4.1, a5, cK_v, t_57_98 I5.1, cwN I5.1 219 60 (by decide) rfl, gkN I5.1 219 16 (by decide) rfl, gd_nI (by omega) (by decide), ix_nI (by omega), gd_nI (by omega) (by decide)]
    rw [run]
    have g220 : gA (sA (sA h5 219 (8 * w + bk 0 2) v5) 220 (8 * w + bk 0 2) (nI 0)) 220 (8 * w + bk 0 2) = nI 0 := by rw [gA_s, up1_s]
    by_cases z : st (st (st (st 0 (fM t (k + 1) (bk 17) (bk 0 2))) (f1 t (k + 2) 16 3)) (fW t (k + 3) (kw 19))) (fN t (k + 4) 1 4000) = 0
    · have S7 : RIb h0 t M w (ruP t (k + 5) 0) 0 (sA (sA h5 219 (8 * w + bk 0 2) v5) 220 (8 * w + bk 0 2) (nI 0)) := by rw [z] at S6; exact S6
      obtain ⟨h', o1, o2, o3, o4, o5, o6, o7⟩ := r_rlp (d := d) (k := k + 5) (s := 8 * w + bk 0 2) (by omega) hw (by omega) 9 0 rfl (by decide) S7 g220 (fun j hj => absurd hj (by omega))
      have cnt : gA h' 216 w = nI (bk 0 2) := by
        rw [o4 216 (by decide), gA_k (by decide)]; rw [gA_k (by decide), A5, A4, gA_k (by decide), A3, gAB, A2, A1]; exact b1'.2.2.1
      have SF := o2.sA (x := 216) (i := w) (v := nI (bk 0 2 + 1)) (by decide) (by unfold hzA; simp)
      have ez : st (st (st (st (st 0 (fM t (k + 1) (bk 17) (bk 0 2))) (f1 t (k + 2) 16 3)) (fW t (k + 3) (kw 19))) (fN t (k + 4) 1 4000)) (rlF t (k + 5) 9 0).1 = (rlF t (k + 5) 9 0).1 := if_pos z
      rw [o1, cnt, nI_add, ez]
      refine ⟨_, rfl, SF, fun y => ?_⟩
      obtain ⟨p1, p2, p3⟩ := o7 y
      obtain ⟨z4, y4⟩ := st_0.mp z
      obtain ⟨z3, y3⟩ := st_0.mp z4
      obtain ⟨z2, y2⟩ := st_0.mp z3
      have e2 := u2 z2
      have e3 := (u3 z3).trans (f1_v y2).1
      have e5 := u5 z
      have q216 : gA (sA h' 216 w (nI (bk 0 2 + 1))) 216 w = nI (bk 0 2 + 1) := by rw [gA_s, up1_s]
      have lo : ∀ x, x < 218 → x ≠ 216 → gA (sA h' 216 w (nI (bk 0 2 + 1))) x = gA h x := fun x x1 x2 => by
        rw [gA_k x2, o4 x (by omega), gA_k (by omega), gA_k (by omega), A5, A4, gA_k (by omega), A3, gAB, A2, A1]
      have hi' : ∀ x, 224 < x → gA (sA h' 216 w (nI (bk 0 2 + 1))) x = gA h x := fun x x1 => by
        rw [gA_k (by omega), o4 x (by omega), gA_k (by omega), gA_k (by omega), A5, A4, gA_k (by omega), A3, gAB, A2, A1]
      have g218 : gA (sA h' 216 w (nI (bk 0 2 + 1))) 218 = up1 (gA h 218) (8 * w + bk 0 2) v3 := by
        rw [gA_k (by decide), o4 218 (by decide), gA_k (by decide), gA_k (by decide), A5, A4, gA_s, A3, gAB, A2, A1]
      have g219 : gA (sA h' 216 w (nI (bk 0 2 + 1))) 219 = up1 (gA h 219) (8 * w + bk 0 2) v5 := by
        rw [gA_k (by decide), o4 219 (by decide), gA_k (by decide), gA_s, A5, A4, gA_k (by decide), A3, gAB, A2, A1]
      have q220 : gA (sA h' 216 w (nI (bk 0 2 + 1))) 220 (8 * w + bk 0 2) = nI (rlF t (k + 5) 9 0).2 := by rw [gA_k (by decide)]; exact p1
      have r220 : ∀ j, j ≠ 8 * w + bk 0 2 → gA (sA h' 216 w (nI (bk 0 2 + 1))) 220 j = gA h 220 j := fun j hj => by
        rw [gA_k (by decide), o6 j hj, gA_s, up1_x hj, gA_k (by decide), A5, A4, gA_k (by decide), A3, gAB, A2, A1]
      have r221 : ∀ x j, 221 ≤ x → x ≤ 224 → (j < 8 * (8 * w + bk 0 2) ∨ 8 * (8 * w + bk 0 2) + 8 ≤ j) → gA (sA h' 216 w (nI (bk 0 2 + 1))) x j = gA h x j := fun x j x1 x2 hj => by
        rw [gA_k (by omega), o5 x j x1 x2 hj, gA_k (by omega), gA_k (by omega), A5, A4, gA_k (by omega), A3, gAB, A2, A1]
      have RU' : RUl (sA h' 216 w (nI (bk 0 2 + 1))) t (k + 5) (8 * w + bk 0 2) (rlF t (k + 5) 9 0).2 := fun j hj => by
        rw [gA_k (by decide), gA_k (by decide), gA_k (by decide), gA_k (by decide)]; exact p3 j hj
      have g217 : gB (sA h' 216 w (nI (bk 0 2 + 1))) 217 = up1 (gB h 217) (8 * w + bk 0 2) v2 := by
        rw [gBA, o3, gBA, gBA, B5, B4, gBA, B3, gB_s, B2, B1]
      have gB' : ∀ x, x ≠ 217 → gB (sA h' 216 w (nI (bk 0 2 + 1))) x = gB h x := fun x n217 => by
        rw [gBA, o3, gBA, gBA, B5, B4, gBA, B3, gB_k n217, B2, B1]
      generalize (sA h' 216 w (nI (bk 0 2 + 1))) = H at *
      have k0 : vBk t k bk 0 2 = bk 0 2 + 1 := up2_s
      have kx : ∀ j, j ≠ 2 → vBk t k bk 0 j = bk 0 j := fun j hj => by
        unfold vBk; rw [up2_x hj, up2_k (by decide), up2_k (by decide), up2_k (by decide), up2_k (by decide), v21_k (by decide)]
      have kk : ∀ j, j ≠ 0 → j < 17 ∨ 24 < j → vBk t k bk j = bk j := fun j m0 m1 => by
        unfold vBk; rw [up2_k m0, up2_k (by omega), up2_k (by omega), up2_k (by omega), up2_k (by omega), v21_k (by omega)]
      have kn17 : ∀ i, vBk t k bk 17 i = if i = bk 0 2 then tV t (k + 1) else bk 17 i := fun i => by unfold vBk; simp [up2, up1, v21_k]
      have kn18 : ∀ i, vBk t k bk 18 i = if i = bk 0 2 then owI t (k + 2) 16 3 else bk 18 i := fun i => by unfold vBk; simp [up2, up1, v21_k]
      have kn19 : ∀ i, vBk t k bk 19 i = if i = bk 0 2 then tV t (k + 4) else bk 19 i := fun i => by unfold vBk; simp [up2, up1, v21_k]
      have kn20 : ∀ i, vBk t k bk 20 i = if i = bk 0 2 then (rlF t (k + 5) 9 0).2 else bk 20 i := fun i => by unfold vBk; simp [up2, up1, v21_k]
      have kn21 : ∀ j i, 21 ≤ j → j ≤ 24 → vBk t k bk j i = if 8 * bk 0 2 ≤ i ∧ i < 8 * bk 0 2 + 8 then ruV j t (ruP t (k + 5) (i - 8 * bk 0 2)) else bk j i := fun j i j1 j2 => by
        unfold vBk
        rw [up2_k (by omega), up2_k (by omega), up2_k (by omega), up2_k (by omega), up2_k (by omega)]
        unfold v21
        by_cases y : 8 * bk 0 2 ≤ i ∧ i < 8 * bk 0 2 + 8
        · rw [if_pos ⟨⟨j1, j2⟩, y⟩, if_pos y]
        · rw [if_neg fun x => y x.2, if_neg y]
      unfold RB
      simp only [kx 0 (by decide), kx 1 (by decide), kx 3 (by decide), kx 4 (by decide), k0, kk 1 (by decide) (by decide), kk 2 (by decide) (by decide), kk 3 (by decide) (by decide), kk 4 (by decide) (by decide), kk 5 (by decide) (by decide), kk 6 (by decide) (by decide), kk 7 (by decide) (by decide), kk 8 (by decide) (by decide), kk 9 (by decide) (by decide), kk 10 (by decide) (by decide), kk 11 (by decide) (by decide), kk 12 (by decide) (by decide), kk 13 (by decide) (by decide), kk 14 (by decide) (by decide), kk 15 (by decide) (by decide), kk 16 (by decide) (by decide), kk 25 (by decide) (by decide), kk 26 (by decide) (by decide), kk 27 (by decide) (by decide), kk 28 (by decide) (by decide), kk 29 (by decide) (by decide), kk 30 (by decide) (by decide), kk 31 (by decide) (by decide)]
      rw [lo 197 (by decide) (by decide), lo 205 (by decide) (by decide), lo 202 (by decide) (by decide), lo 199 (by decide) (by decide), lo 200 (by decide) (by decide), lo 201 (by decide) (by decide), lo 207 (by decide) (by decide), lo 208 (by decide) (by decide), lo 209 (by decide) (by decide), lo 210 (by decide) (by decide), lo 211 (by decide) (by decide), lo 212 (by decide) (by decide), lo 213 (by decide) (by decide), lo 214 (by decide) (by decide), lo 215 (by decide) (by decide), hi' 225 (by decide), hi' 226 (by decide), hi' 227 (by decide), hi' 228 (by decide), hi' 229 (by decide), hi' 230 (by decide), hi' 231 (by decide), hi' 232 (by decide), gB' 198 (by decide), gB' 203 (by decide), gB' 204 (by decide), gB' 206 (by decide)]
      refine ⟨⟨b1'.1, b1'.2.1, q216, b1'.2.2.2⟩, b2', b3', b4', fun i hi => ?_, b6'⟩
      by_cases y : i = bk 0 2
      · subst y
        rw [g217, g218, g219, up1_s, up1_s, up1_s, q220, kn17, kn18, kn19, kn20, if_pos rfl, if_pos rfl, if_pos rfl, if_pos rfl]
        refine ⟨e2, e3, e5, rfl, fun j hj => ?_⟩
        obtain ⟨r1, r2, r3, r4⟩ := RU' j hj
        have kv : ∀ x, 21 ≤ x → x ≤ 24 → vBk t k bk x (8 * bk 0 2 + j) = ruV x t (ruP t (k + 5) j) := fun x x1 x2 => by rw [kn21 x _ x1 x2, if_pos (by omega), Nat.add_sub_cancel_left]
        rw [kv 21 (by decide) (by decide), kv 22 (by decide) (by decide), kv 23 (by decide) (by decide), kv 24 (by decide) (by decide)]
        exact ⟨r1, r2, r3, r4⟩
      · have wi := (W.2.2.2.2.1 i (by omega)).2.2.2.1
        rw [g217, g218, g219, up1_x (by omega), up1_x (by omega), up1_x (by omega), r220 _ (by omega), kn17, kn18, kn19, kn20, if_neg y, if_neg y, if_neg y, if_neg y]
        obtain ⟨r1, r2, r3, r4, r5⟩ := b5' i (by omega)
        refine ⟨r1, r2, r3, r4, fun j hj => ?_⟩
        have kv : ∀ x, 21 ≤ x → x ≤ 24 → vBk t k bk x (8 * i + j) = bk x (8 * i + j) := fun x x1 x2 => by rw [kn21 x _ x1 x2, if_neg (by omega)]
        rw [kv 21 (by decide) (by decide), kv 22 (by decide) (by decide), kv 23 (by decide) (by decide), kv 24 (by decide) (by decide), r221 221 _ (by decide) (by decide) (by omega), r221 222 _ (by decide) (by decide) (by omega), r221 223 _ (by decide) (by decide) (by omega), r221 224 _ (by decide) (by decide) (by omega)]
        exact r5 j hj
    · have lt := S6.2.2.1.2.2.1
      have ez : st (st (st (st (st 0 (fM t (k + 1) (bk 17) (bk 0 2))) (f1 t (k + 2) 16 3)) (fW t (k + 3) (kw 19))) (fN t (k + 4) 1 4000)) (rlF t (k + 5) 9 0).1 = st (st (st (st 0 (fM t (k + 1) (bk 17) (bk 0 2))) (f1 t (k + 2) 16 3)) (fW t (k + 3) (kw 19))) (fN t (k + 4) 1 4000) := if_neg z
      have cnt : gA (sA (sA h5 219 (8 * w + bk 0 2) v5) 220 (8 * w + bk 0 2) (nI 0)) 216 w = nI (bk 0 2) := by
        rw [gA_k (by decide)]; rw [gA_k (by decide), A5, A4, gA_k (by decide), A3, gAB, A2, A1]; exact b1'.2.2.1
      have SF := S6.sA (x := 216) (i := w) (v := nI (bk 0 2 + 1)) (by decide) (by unfold hzA; simp)
      rw [t_57_106 S6.1, S6.2.2.1.2.1, if_neg fun y => z ((nI_eq (Nat.lt_trans lt (by decide)) (by decide)).mp y), S6.2.2.2.1, gd_nI (by omega) (by decide), gd_nI (by omega) (by decide), ix_nI (by omega), cnt, nI_add, ez]
      exact ⟨_, rfl, SF.op Fr.rfl (SF.2.2.1.any z _), fun y => absurd y z⟩
end RSW
