/-! ===== THE BOOK: services, as the reference reads them ===== -/
/-- a rule's kind -/
def rKL (t : Tp) (p : Nat) : Nat → Nat → Option Nat
  | 0, _ => none
  | n + 1, i => if isW t p (kw (rkR i)) then some i else rKL t p n (i + 1)
def rKd (t : Tp) (p : Nat) : Option Nat := rKL t p 7 0
theorem rKL_s {t : Tp} {p κ : Nat} : ∀ (n i : Nat), rKL t p n i = some κ → i ≤ κ ∧ κ < i + n ∧ isW t p (kw (rkR κ))
  | 0, i, e => by cases e
  | n + 1, i, e => by
    rw [rKL] at e
    by_cases q : isW t p (kw (rkR i))
    · rw [if_pos q] at e; cases e; exact ⟨by omega, by omega, q⟩
    · rw [if_neg q] at e; obtain ⟨a, b, c⟩ := rKL_s n (i + 1) e; exact ⟨by omega, by omega, c⟩
theorem rKL_n {t : Tp} {p : Nat} : ∀ (n i : Nat), rKL t p n i = none → ∀ κ, i ≤ κ → κ < i + n → ¬ isW t p (kw (rkR κ))
  | 0, i, _, κ, h1, h2 => by omega
  | n + 1, i, e, κ, h1, h2 => by
    rw [rKL] at e
    by_cases q : isW t p (kw (rkR i))
    · rw [if_pos q] at e; cases e
    · rw [if_neg q] at e
      by_cases w : κ = i
      · rw [w]; exact q
      · exact rKL_n n (i + 1) e κ (by omega) (by omega)
def lnR (κ : Nat) : Nat := if κ = 1 then 5 else if κ = 2 then 3 else 2
def ruF (t : Tp) (p κ : Nat) : List Nat := if κ = 1 then [fN t (p + 1) 1 4000, fN t (p + 2) 0 9999, fW t (p + 3) (kw 22), fN t (p + 4) 0 4000] else if κ = 2 then [fN t (p + 1) 0 9, fN t (p + 2) 0 9999] else if κ = 6 then [fN t (p + 1) 1 99] else [fN t (p + 1) 0 9999]
def ruK (t : Tp) (p : Nat) : Nat := (rKd t p).getD 0
def ruA (t : Tp) (p : Nat) : Nat := if ruK t p = 1 ∨ ruK t p = 2 then tV t (p + 2) else tV t (p + 1)
def ruB (t : Tp) (p : Nat) : Nat := if ruK t p = 1 ∨ ruK t p = 2 then tV t (p + 1) else 0
def ruC (t : Tp) (p : Nat) : Nat := if ruK t p = 1 then tV t (p + 4) else 0
/-- one rule's fault -/
def r1F (t : Tp) (p i : Nat) : Nat := match rKd t p with
  | none => fX t 1 p
  | some κ => if i = 8 then fX t 5 p else ff (ruF t p κ)
section RSV
variable {d : Nat} {h0 h : AH} {t : Tp} {M w p : Nat}
theorem r_skip {x1 x2 : Int32} (I : RIb h0 t M w p 0 h) {j : Nat} (hj : 20 ≤ j ∧ j ≤ 27) (q : ¬ (isW t p (kw j) ∧ j ≠ 22)) : Q (d + 1) 59 8 [some (.ref 189), some (.int x1), some (.int x2), some (.int (nI j)), none] [] h = Q (d + 1) 59 8 [some (.ref 189), some (.int x1), some (.int x2), some (.int (nI (j + 1))), none] [] h := by
  rw [t_59_8 I.1, if_neg (nI_nlt (by omega) (by omega)), r_isW I.1 I.2.1 I.2.2.1 (w := j) (by omega), cK_v, t_59_19 I.1]
  by_cases z : isW t p (kw j)
  · rw [b1 (show 0 = 0 ∧ isW t p (kw j) from ⟨rfl, z⟩), if_neg (by decide), ife (by omega) (by decide), if_pos (by
      by_cases y : j = 22
      · exact y
      · exact absurd ⟨z, y⟩ q), nI_add]
  · rw [b0 (show ¬ (0 = 0 ∧ isW t p (kw j)) from fun y => z y.2), if_pos rfl, nI_add]
theorem r_skips {x1 x2 : Int32} (I : RIb h0 t M w p 0 h) : ∀ (n j : Nat), 20 ≤ j → j + n ≤ 28 → (∀ i, j ≤ i → i < j + n → ¬ (isW t p (kw i) ∧ i ≠ 22)) → Q (d + 1) 59 8 [some (.ref 189), some (.int x1), some (.int x2), some (.int (nI j)), none] [] h = Q (d + 1) 59 8 [some (.ref 189), some (.int x1), some (.int x2), some (.int (nI (j + n))), none] [] h
  | 0, j, _, _, _ => rfl
  | n + 1, j, h1, h2, h3 => by
    rw [r_skip I (j := j) (by omega) (h3 j (Nat.le_refl _) (by omega)), r_skips I n (j + 1) (by omega) (by omega) (fun i a b => h3 i (by omega) (by omega)), show j + 1 + n = j + (n + 1) from by omega]
theorem kw_rk : ∀ κ, κ < 7 → (20 ≤ rkR κ ∧ rkR κ ≤ 27 ∧ rkR κ ≠ 22) ∧ ∀ i, i < 28 → 20 ≤ i → kw i = kw (rkR κ) → i = rkR κ := by decide +kernel
theorem rk_on : ∀ i, i < 28 → 20 ≤ i → i ≠ 22 → ∃ κ, κ < 7 ∧ rkR κ = i := by decide +kernel
theorem r_rule {s i : Nat} (hs8 : s < 16) (hsw : 8 * w ≤ s ∧ s < 8 * w + 8) (hi : i ≤ 8) (I : RIb h0 t M w p 0 h) (hc : gA h 220 s = nI i) : ∃ h', E (d + 3) 59 [.ref 189, .int (nI s)] h = some (none, h') ∧ RIb h0 t M w (p + lnR (ruK t p)) (r1F t p i) h' ∧ gB h' = gB h ∧ (∀ x, x < 220 ∨ 224 < x → gA h' x = gA h x) ∧ (∀ x j, 221 ≤ x → x ≤ 224 → i = 8 ∨ j ≠ 8 * s + i → gA h' x j = gA h x j) ∧ (∀ j, j ≠ s → gA h' 220 j = gA h 220 j) ∧ (r1F t p i = 0 → gA h' 220 s = nI (i + 1) ∧ gA h' 221 (8 * s + i) = nI (rkR (ruK t p)) ∧ gA h' 222 (8 * s + i) = nI (if ruK t p = 2 then ruB t p else ruA t p) ∧ (ruK t p = 1 → gA h' 223 (8 * s + i) = nI (ruB t p) ∧ gA h' 224 (8 * s + i) = nI (ruC t p)) ∧ (ruK t p = 2 → gA h' 223 (8 * s + i) = nI (ruA t p))) := by
  have hs := I.1
  obtain ⟨c1, c2, c3, c4⟩ := I.2.2.1.at rfl
  have bad : ∀ {h' : AH} {f : Nat}, f ≠ 0 → r1F t p i = f → Fr [3596] [] h h' → RQ h' t M p f → RIb h0 t M w (p + lnR (ruK t p)) (r1F t p i) h' ∧ gB h' = gB h ∧ (∀ x, x < 220 ∨ 224 < x → gA h' x = gA h x) ∧ (∀ x j, 221 ≤ x → x ≤ 224 → i = 8 ∨ j ≠ 8 * s + i → gA h' x j = gA h x j) ∧ (∀ j, j ≠ s → gA h' 220 j = gA h 220 j) ∧ (r1F t p i = 0 → gA h' 220 s = nI (i + 1) ∧ gA h' 221 (8 * s + i) = nI (rkR (ruK t p)) ∧ gA h' 222 (8 * s + i) = nI (if ruK t p = 2 then ruB t p else ruA t p) ∧ (ruK t p = 1 → gA h' 223 (8 * s + i) = nI (ruB t p) ∧ gA h' 224 (8 * s + i) = nI (ruC t p)) ∧ (ruK t p = 2 → gA h' 223 (8 * s + i) = nI (ruA t p))) := fun {h' f} hf e F R => by
    rw [e]
    exact ⟨I.op (F.wk (by decide) (by decide)) (R.any hf _), F.gB', fun _ _ => by rw [F.gA'], fun _ _ _ _ _ => by rw [F.gA'], fun _ _ => by rw [F.gA'], fun z => absurd z hf⟩
  rw [t_59 hs, c1]
  cases e : rKd t p with
  | none =>
    have nn := rKL_n 7 0 e
    have sk := r_skips (d := d + 1) (x1 := nI s) (x2 := nI p) I 8 20 (by decide) (by decide) (fun j a b z => by
      obtain ⟨κ, k1, k2⟩ := rk_on j (by omega) a z.2
      exact nn κ (Nat.zero_le _) (by omega) (by rw [k2]; exact z.1))
    obtain ⟨h', a1, a2, a3⟩ := r_wrong (d := d + 1) hs I.2.2.1 (c := 1) (by decide) (by decide)
    rw [sk, t_59_8 hs, if_pos (by decide), if_pos (by decide), a1, cK_n, t_59_45 (a2.sh hs)]
    exact ⟨h', rfl, bad (fX_n (by decide)) (by unfold r1F; rw [e]) a2 a3⟩
  | some κ =>
    obtain ⟨-, k7, kW⟩ := rKL_s 7 0 e
    have ek : ruK t p = κ := by unfold ruK; rw [e]; rfl
    obtain ⟨⟨kb1, kb2, kb3⟩, ku⟩ := kw_rk κ (by omega)
    have sk := r_skips (d := d + 1) (x1 := nI s) (x2 := nI p) I (rkR κ - 20) 20 (by decide) (by omega) (fun j a b z => by
      have := ku j (by omega) a (z.1.2.symm.trans kW.2)
      omega)
    rw [show 20 + (rkR κ - 20) = rkR κ from by omega] at sk
    rw [sk, t_59_8 hs, if_neg (nI_nlt (by omega) (by omega)), r_isW hs I.2.1 I.2.2.1 (w := rkR κ) (by omega), cK_v, t_59_19 hs, b1 (show 0 = 0 ∧ isW t p (kw (rkR κ)) from ⟨rfl, kW⟩), if_neg (by decide), ife (by omega) (by decide), if_neg kb3, if_neg (nI_nlt (by omega) (by omega)), gd_nI (by omega) (by decide), ix_nI (by omega), hc, ife (by omega) (by decide)]
    by_cases q8 : i = 8
    · obtain ⟨h', a1, a2, a3⟩ := r_wrong (d := d + 1) hs I.2.2.1 (c := 5) (by decide) (by decide)
      rw [if_pos q8, a1, cK_n, t_59_62 (a2.sh hs)]
      exact ⟨h', rfl, bad (fX_n (by decide)) (by unfold r1F; rw [e]; exact if_pos q8) a2 a3⟩
    · have eF : r1F t p i = ff (ruF t p κ) := by unfold r1F; rw [e]; exact if_neg q8
      have ix8 : 8 * s + i < 128 := by omega
      have reg : hzA 221 * w ≤ 8 * s + i ∧ 8 * s + i < hzA 221 * w + hzA 221 := by unfold hzA; simp; omega
      have fr1 : Fr [3595, 3596] [] h (sI h 3595 189 (nI (p + 1))) := Fr.rfl.sI (by decide)
      have I1 : RIb h0 t M w (p + 1) 0 (sI h 3595 189 (nI (p + 1))) := I.op fr1 (I.2.2.1.up rfl (by rw [kW.1]; decide))
      have S1 := I1.sA (x := 221) (i := 8 * s + i) (v := nI (rkR κ)) (by decide) reg
      rw [if_neg q8, gd_nI (by omega) (by decide), pk_mul, nI_add, gd_nI ix8 (by decide), ix_nI (by omega), nI_add, ife (by omega) (by decide), ife (by omega) (by decide), ife (by omega) (by decide), eF, ek]
      have rk : rkR κ = 21 ↔ κ = 1 := by unfold rkR; split <;> omega
      have rk3 : rkR κ = 23 ↔ κ = 2 := by unfold rkR; split <;> omega
      have rk7 : rkR κ = 27 ↔ κ = 6 := by unfold rkR; split <;> omega
      by_cases q1 : κ = 1
      · obtain ⟨h2, v2, a2, I2, ⟨A2, B2⟩, u2⟩ := i_tN (d := d) S1 (lo := 1) (hi := 4000) (x1 := nI 1) (fun _ => ⟨rfl, by decide⟩) (by decide)
        have S2 := I2.sA (x := 223) (i := 8 * s + i) (v := v2) (by decide) reg
        obtain ⟨h3, v3, a3, I3, ⟨A3, B3⟩, u3⟩ := i_tN (d := d) S2 (lo := 0) (hi := 9999) (x1 := nI 0) (fun _ => ⟨rfl, by decide⟩) (by decide)
        have S3 := I3.sA (x := 222) (i := 8 * s + i) (v := v3) (by decide) reg
        obtain ⟨h4, a4, I4, A4, B4⟩ := i_tW (d := d) S3 (q := 22) (by decide)
        obtain ⟨h5, v5, a5, I5, ⟨A5, B5⟩, u5⟩ := i_tN (d := d) I4 (lo := 0) (hi := 4000) (x1 := nI 0) (fun _ => ⟨rfl, by decide⟩) (by decide)
        have S5 := I5.sA (x := 224) (i := 8 * s + i) (v := v5) (by decide) reg
        have cnt : gA (sA h5 224 (8 * s + i) v5) 220 s = nI i := by rw [gA_k (by decide), A5, A4, gA_k (by decide), A3, gA_k (by decide), A2, gA_k (by decide), gAI]; exact hc
        have SF := S5.sA (x := 220) (i := s) (v := nI (i + 1)) (by decide) (by unfold hzA; simp; omega)
        have fE : st (st (st (st 0 (fN t (p + 1) 1 4000)) (fN t (p + 2) 0 9999)) (fW t (p + 3) (kw 22))) (fN t (p + 4) 0 4000) = ff (ruF t p κ) := by
          rw [show (0 : Nat) = ff [] from rfl, st_ff, st_ff, st_ff, st_ff]; unfold ruF; rw [if_pos q1]; rfl
        rw [← fE, if_pos (rk.mpr q1), a2, cK_v, t_59_111 I2.1, cwN I2.1 223 60 (by decide) rfl, gkN I2.1 223 128 (by decide) rfl, gd_nI ix8 (by decide), ix_nI (by omega), ife (by omega) (by decide), if_neg (fun z => by have := rk3.mp z; omega), ife (by omega) (by decide), if_neg (fun z => by have := rk7.mp z; omega), a3, cK_v, t_59_158 I3.1, cwN I3.1 222 60 (by decide) rfl, gkN I3.1 222 128 (by decide) rfl, gd_nI ix8 (by decide), ix_nI (by omega), ife (by omega) (by decide), if_pos (rk.mpr q1), a4, cK_n, t_59_171 I4.1, a5, cK_v, t_59_185 I5.1, cwN I5.1 224 60 (by decide) rfl, gkN I5.1 224 128 (by decide) rfl, gd_nI ix8 (by decide), ix_nI (by omega), ife (by omega) (by decide), if_neg (fun z => by have := rk3.mp z; omega), gd_nI (by omega) (by decide), gd_nI (by omega) (by decide), ix_nI (by omega), cnt, nI_add]
        refine ⟨_, rfl, by rw [show p + lnR κ = p + 5 from by unfold lnR; rw [if_pos q1]]; exact SF, ?_, fun x hx => ?_, fun x j x1 x2 hj => ?_, fun j hj => ?_, fun z => ?_⟩
        · rw [gBA, gBA, B5, B4, gBA, B3, gBA, B2, gBA, gBI]
        · rw [gA_k (by omega), gA_k (by omega), A5, A4, gA_k (by omega), A3, gA_k (by omega), A2, gA_k (by omega), gAI]
        · have hj := hj.resolve_left q8
          have g : ∀ (H : AH) (y : Nat) (v : Int32), gA (sA H y (8 * s + i) v) x j = gA H x j := fun H y v => by
            by_cases zz : x = y
            · subst zz; rw [gA_s, up1_x hj]
            · rw [gA_k zz]
          rw [gA_k (by omega), g, A5, A4, g, A3, g, A2, g, gAI]
        · rw [gA_s, up1_x hj, gA_k (by decide), A5, A4, gA_k (by decide), A3, gA_k (by decide), A2, gA_k (by decide), gAI]
        · obtain ⟨z4, y4⟩ := st_0.mp z
          obtain ⟨z3, y3⟩ := st_0.mp z4
          obtain ⟨z2, y2⟩ := st_0.mp z3
          refine ⟨by rw [gA_s, up1_s], ?_, ?_, fun _ => ⟨?_, ?_⟩, fun y => by omega⟩
          · rw [gA_k (by decide), gA_k (by decide), A5, A4, gA_k (by decide), A3, gA_k (by decide), A2, gA_s, up1_s]
          · rw [gA_k (by decide), gA_k (by decide), A5, A4, gA_s, up1_s, u3 z3, if_neg (by omega)]; unfold ruA; rw [ek, if_pos (Or.inl q1)]
          · rw [gA_k (by decide), gA_k (by decide), A5, A4, gA_k (by decide), A3, gA_s, up1_s, u2 z2]; unfold ruB; rw [ek, if_pos (Or.inl q1)]
          · rw [gA_k (by decide), gA_s, up1_s, u5 z]; unfold ruC; rw [ek, if_pos q1]
      · rw [if_neg (fun z => q1 (rk.mp z))]
        by_cases q2 : κ = 2
        · obtain ⟨h2, v2, a2, I2, ⟨A2, B2⟩, u2⟩ := i_tN (d := d) S1 (lo := 0) (hi := 9) (x1 := nI 0) (fun _ => ⟨rfl, by decide⟩) (by decide)
          have S2 := I2.sA (x := 222) (i := 8 * s + i) (v := v2) (by decide) reg
          obtain ⟨h3, v3, a3, I3, ⟨A3, B3⟩, u3⟩ := i_tN (d := d) S2 (lo := 0) (hi := 9999) (x1 := nI 0) (fun _ => ⟨rfl, by decide⟩) (by decide)
          have S3 := I3.sA (x := 223) (i := 8 * s + i) (v := v3) (by decide) reg
          have cnt : gA (sA h3 223 (8 * s + i) v3) 220 s = nI i := by rw [gA_k (by decide), A3, gA_k (by decide), A2, gA_k (by decide), gAI]; exact hc
          have SF := S3.sA (x := 220) (i := s) (v := nI (i + 1)) (by decide) (by unfold hzA; simp; omega)
          have fE : st (st 0 (fN t (p + 1) 0 9)) (fN t (p + 2) 0 9999) = ff (ruF t p κ) := by
            rw [show st 0 (fN t (p + 1) 0 9) = ff [fN t (p + 1) 0 9] from ff_1.symm, st_ff]; unfold ruF; rw [if_neg q1, if_pos q2]; rfl
          rw [← fE, if_pos (rk3.mpr q2), a2, cK_v, t_59_131 I2.1, t_59_158 I2.1, cwN I2.1 222 60 (by decide) rfl, gkN I2.1 222 128 (by decide) rfl, gd_nI ix8 (by decide), ix_nI (by omega), ife (by omega) (by decide), if_neg (fun z => q1 (rk.mp z)), ife (by omega) (by decide), if_pos (rk3.mpr q2), a3, cK_v, t_59_206 I3.1, cwN I3.1 223 60 (by decide) rfl, gkN I3.1 223 128 (by decide) rfl, gd_nI ix8 (by decide), gd_nI (by omega) (by decide), gd_nI (by omega) (by decide), ix_nI (by omega), ix_nI (by omega), cnt, nI_add]
          refine ⟨_, rfl, by rw [show p + lnR κ = p + 3 from by unfold lnR; rw [if_neg q1, if_pos q2]]; exact SF, ?_, fun x hx => ?_, fun x j x1 x2 hj => ?_, fun j hj => ?_, fun z => ?_⟩
          · rw [gBA, gBA, B3, gBA, B2, gBA, gBI]
          · rw [gA_k (by omega), gA_k (by omega), A3, gA_k (by omega), A2, gA_k (by omega), gAI]
          · have hj := hj.resolve_left q8
            have g : ∀ (H : AH) (y : Nat) (v : Int32), gA (sA H y (8 * s + i) v) x j = gA H x j := fun H y v => by
              by_cases zz : x = y
              · subst zz; rw [gA_s, up1_x hj]
              · rw [gA_k zz]
            rw [gA_k (by omega), g, A3, g, A2, g, gAI]
          · rw [gA_s, up1_x hj, gA_k (by decide), A3, gA_k (by decide), A2, gA_k (by decide), gAI]
          · obtain ⟨z2, y2⟩ := st_0.mp z
            refine ⟨by rw [gA_s, up1_s], ?_, ?_, fun y => by omega, fun _ => ?_⟩
            · rw [gA_k (by decide), gA_k (by decide), A3, gA_k (by decide), A2, gA_s, up1_s]
            · rw [gA_k (by decide), gA_k (by decide), A3, gA_s, up1_s, u2 z2, if_pos q2]; unfold ruB; rw [ek, if_pos (Or.inr q2)]
            · rw [gA_k (by decide), gA_s, up1_s, u3 z]; unfold ruA; rw [ek, if_pos (Or.inr q2)]
        · rw [if_neg (fun z => q2 (rk3.mp z))]
          have one : ∀ (lo hi pc : Nat), lo < 100000 → hi < 100000 → ff (ruF t p κ) = ff [fN t (p + 1) lo hi] → (∀ (g : AH) (v : Int32), Sh g → Q (d + 2) 59 pc [some (.ref 189), some (.int (nI s)), none, some (.int (nI (rkR κ))), some (.int (nI (8 * s + i)))] [.int v, .int (nI (8 * s + i)), .ref 222] g = Q (d + 2) 59 158 [some (.ref 189), some (.int (nI s)), none, some (.int (nI (rkR κ))), some (.int (nI (8 * s + i)))] [.int v, .int (nI (8 * s + i)), .ref 222] g) → ∃ h', cK (E (d + 2) 50 [.ref 189, .int (nI lo), .int (nI hi)] (sA (sI h 3595 189 (nI (p + 1))) 221 (8 * s + i) (nI (rkR κ)))) (Q (d + 2) 59 pc [some (.ref 189), some (.int (nI s)), none, some (.int (nI (rkR κ))), some (.int (nI (8 * s + i)))]) [.int (nI (8 * s + i)), .ref 222] = some (none, h') ∧ RIb h0 t M w (p + lnR κ) (ff (ruF t p κ)) h' ∧ gB h' = gB h ∧ (∀ x, x < 220 ∨ 224 < x → gA h' x = gA h x) ∧ (∀ x j, 221 ≤ x → x ≤ 224 → i = 8 ∨ j ≠ 8 * s + i → gA h' x j = gA h x j) ∧ (∀ j, j ≠ s → gA h' 220 j = gA h 220 j) ∧ (ff (ruF t p κ) = 0 → gA h' 220 s = nI (i + 1) ∧ gA h' 221 (8 * s + i) = nI (rkR κ) ∧ gA h' 222 (8 * s + i) = nI (if κ = 2 then ruB t p else ruA t p) ∧ (κ = 1 → gA h' 223 (8 * s + i) = nI (ruB t p) ∧ gA h' 224 (8 * s + i) = nI (ruC t p)) ∧ (κ = 2 → gA h' 223 (8 * s + i) = nI (ruA t p))) := fun lo hi pc hlo hhi hff hq => by
            obtain ⟨h2, v2, a2, I2, ⟨A2, B2⟩, u2⟩ := i_tN (d := d) S1 (lo := lo) (hi := hi) (x1 := nI lo) (fun _ => ⟨rfl, hlo⟩) hhi
            have S2 := I2.sA (x := 222) (i := 8 * s + i) (v := v2) (by decide) reg
            have cnt : gA (sA h2 222 (8 * s + i) v2) 220 s = nI i := by rw [gA_k (by decide), A2, gA_k (by decide), gAI]; exact hc
            have SF := S2.sA (x := 220) (i := s) (v := nI (i + 1)) (by decide) (by unfold hzA; simp; omega)
            have fE : st 0 (fN t (p + 1) lo hi) = ff (ruF t p κ) := by rw [hff, ff_1]; rfl
            rw [← fE, a2, cK_v, hq _ _ I2.1, t_59_158 I2.1, cwN I2.1 222 60 (by decide) rfl, gkN I2.1 222 128 (by decide) rfl, gd_nI ix8 (by decide), ix_nI (by omega), ife (by omega) (by decide), if_neg (fun z => q1 (rk.mp z)), ife (by omega) (by decide), if_neg (fun z => q2 (rk3.mp z)), gd_nI (by omega) (by decide), gd_nI (by omega) (by decide), ix_nI (by omega), cnt, nI_add]
            refine ⟨_, rfl, by rw [show p + lnR κ = p + 2 from by unfold lnR; rw [if_neg q1, if_neg q2]]; exact SF, ?_, fun x hx => ?_, fun x j x1 x2 hj => ?_, fun j hj => ?_, fun z => ?_⟩
            · rw [gBA, gBA, B2, gBA, gBI]
            · rw [gA_k (by omega), gA_k (by omega), A2, gA_k (by omega), gAI]
            · have hj := hj.resolve_left q8
              have g : ∀ (H : AH) (y : Nat) (v : Int32), gA (sA H y (8 * s + i) v) x j = gA H x j := fun H y v => by
                by_cases zz : x = y
                · subst zz; rw [gA_s, up1_x hj]
                · rw [gA_k zz]
              rw [gA_k (by omega), g, A2, g, gAI]
            · rw [gA_s, up1_x hj, gA_k (by decide), A2, gA_k (by decide), gAI]
            · refine ⟨by rw [gA_s, up1_s], ?_, ?_, fun y => absurd y q1, fun y => absurd y q2⟩
              · rw [gA_k (by decide), gA_k (by decide), A2, gA_s, up1_s]
              · rw [gA_k (by decide), gA_s, up1_s, u2 z, if_neg q2]; unfold ruA; rw [ek, if_neg (by omega)]
          by_cases q6 : κ = 6
          · rw [if_pos (rk7.mpr q6)]
            exact one 1 99 147 (by decide) (by decide) (by unfold ruF; rw [if_neg q1, if_neg q2, if_pos q6]) (fun g v hg => t_59_147 hg _ _ _ _ _ _ _)
          · rw [if_neg (fun z => q6 (rk7.mp z))]
            exact one 0 9999 158 (by decide) (by decide) (by unfold ruF; rw [if_neg q1, if_neg q2, if_neg q6]) (fun g v hg => rfl)
end RSV
