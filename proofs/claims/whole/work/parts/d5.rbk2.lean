/-! ===== THE BOOK: shorts and coaches, as the reference reads them ===== -/
section ROG
variable {d : Nat} {h0 h : AH} {t : Tp} {M w k f : Nat} {bk : Bk}
def sFs (t : Tp) (k : Nat) (bk : Bk) : List Nat := [if bk 0 4 = 20 then fX t 5 k else 0, fM t (k + 1) (bk 5) (bk 0 4), fM t (k + 2) (bk 5) 0]
def sBk (t : Tp) (k : Nat) (bk : Bk) : Bk := up2 (up2 (up2 bk 5 (bk 0 4) (tV t (k + 1))) 6 (bk 0 4) (tV t (k + 2))) 0 4 (bk 0 4 + 1)
theorem r_short' (hw : w ≤ 1) (W : WB bk) (I : RIb h0 t M w k 0 h) (B : RB h w bk) (q0 : tK t k ≠ 0) : ∃ h', E (d + 4) 51 [.ref 189] h = some (none, h') ∧ RIb h0 t M w (k + 3) (ff (sFs t k bk)) h' ∧ (ff (sFs t k bk) = 0 → RB h' w (sBk t k bk)) := by
  have w1 := W.1
  have w2 := W.2.1
  obtain ⟨b1', b2', b3', b4', b5', b6'⟩ := id B
  have hs := I.1
  obtain ⟨h1, a1, I1, A1, B1⟩ := i_beg (d := d + 1) I q0 (P := bk 0 4 = 20)
  have beg : (if nI (bk 0 4) = nI 20 then cK (E (d + 3) 47 [.ref 189, .int (nI 1)] h) (Q (d + 3) 51 25 [some (.ref 189), some (.int (nI (bk 0 4)))]) [] else cK (E (d + 3) 47 [.ref 189, .int (nI 0)] h) (Q (d + 3) 51 25 [some (.ref 189), some (.int (nI (bk 0 4)))]) []) = Q (d + 3) 51 25 [some (.ref 189), some (.int (nI (bk 0 4)))] [] h1 := by
    rw [ife (by omega) (by decide)]
    by_cases q : bk 0 4 = 20
    · rw [if_pos q]; rw [b1 q] at a1; rw [a1, cK_n]
    · rw [if_neg q]; rw [b0 q] at a1; rw [a1, cK_n]
  rw [t_51 hs, I.2.2.2.1, gd_nI (by omega) (by decide), ix_nI (by omega), b1'.2.2.2.2, beg]
  unfold sFs
  by_cases q : bk 0 4 = 20
  · rw [if_pos q] at I1 ⊢
    have nz : fX t 5 k ≠ 0 := fX_n (by decide)
    rw [ff_n nz, t_51_25 I1.1, I1.2.2.1.2.1, if_pos (nI_lt (by omega) (by have := I1.2.2.1.2.2.1; omega))]
    exact ⟨h1, rfl, I1.op Fr.rfl (I1.2.2.1.any nz _), fun z => absurd z nz⟩
  · rw [if_neg q] at I1 ⊢
    obtain ⟨h2, v2, a2, I2, ⟨A2, B2⟩, u2⟩ := i_tM (d := d + 1) I1 (x := 203) (fr := 20 * w) (m := bk 0 4) (nm := bk 5) (Kx := 40) (fun g hg => ⟨(hg.aN 203 (by decide)).1, (hg.aN 203 (by decide)).2⟩) (by omega) (fun i hi => lt37 (W.2.2.1 i hi).1 (by decide)) (fun i hi => by rw [B1]; exact (b3' i hi).1)
    have S2 := I2.sB (x := 203) (i := 20 * w + bk 0 4) (v := v2) (by decide) (by unfold hzA; simp; omega)
    obtain ⟨h3, v3, a3, I3, ⟨A3, B3⟩, u3⟩ := i_tM (d := d + 1) S2 (x := 203) (fr := 0) (m := 0) (nm := bk 5) (Kx := 40) (fun g hg => ⟨(hg.aN 203 (by decide)).1, (hg.aN 203 (by decide)).2⟩) (by decide) (fun i hi => absurd hi (by omega)) (fun i hi => absurd hi (by omega))
    have S3 := I3.sB (x := 204) (i := 20 * w + bk 0 4) (v := v3) (by decide) (by unfold hzA; simp; omega)
    have SF := S3.sA (x := 202) (i := w) (v := nI (bk 0 4 + 1)) (by decide) (by unfold hzA; simp)
    have cnt : gA (sB h3 204 (20 * w + bk 0 4) v3) 202 w = nI (bk 0 4) := by
      rw [gAB, A3, gAB, A2, A1]; exact b1'.2.2.2.2
    have fE : st (st 0 (fM t (k + 1) (bk 5) (bk 0 4))) (fM t (k + 2) (bk 5) 0) = ff [0, fM t (k + 1) (bk 5) (bk 0 4), fM t (k + 2) (bk 5) 0] := by
      rw [show (0 : Nat) = ff [0] from rfl, st_ff, st_ff]; rfl
    rw [← fE]
    refine ⟨_, ?_, SF, fun z => ?_⟩
    · rw [t_51_25 I1.1, I1.2.2.1.2.1, if_neg (by decide), I1.2.2.2.1, pk_mul, nI_add, a2, cK_v, t_51_62 I2.1, cwN I2.1 203 61 (by decide) rfl, gkN I2.1 203 40 (by decide) rfl, gd_nI (by omega) (by decide), ix_nI (by omega), I2.2.2.2.1, pk_mul, nI_add, a3, cK_v, t_51_86 I3.1, cwN I3.1 204 61 (by decide) rfl, gkN I3.1 204 40 (by decide) rfl, gd_nI (by omega) (by decide), ix_nI (by omega), I3.2.2.2.1, gd_nI (by omega) (by decide), gd_nI (by omega) (by decide), ix_nI (by omega), show gA h3 202 w = nI (bk 0 4) from by rw [A3, gAB, A2, A1]; exact b1'.2.2.2.2, nI_add]
    · obtain ⟨z2, y2⟩ := st_0.mp z
      obtain ⟨z1, y1⟩ := st_0.mp z2
      have e2 := u2 z2
      have e3 := u3 z
      have g202 : gA (sA (sB h3 204 (20 * w + bk 0 4) v3) 202 w (nI (bk 0 4 + 1))) 202 = up1 (gA h 202) w (nI (bk 0 4 + 1)) := by
        rw [gA_s, gAB, A3, gAB, A2, A1]
      have g203 : gB (sA (sB h3 204 (20 * w + bk 0 4) v3) 202 w (nI (bk 0 4 + 1))) 203 = up1 (gB h 203) (20 * w + bk 0 4) v2 := by
        rw [gBA, gB_k (by decide), B3, gB_s, B2, B1]
      have g204 : gB (sA (sB h3 204 (20 * w + bk 0 4) v3) 202 w (nI (bk 0 4 + 1))) 204 = up1 (gB h 204) (20 * w + bk 0 4) v3 := by
        rw [gBA, gB_s, B3, gB_k (by decide), B2, B1]
      have gA' : ∀ x, x ≠ 202 → gA (sA (sB h3 204 (20 * w + bk 0 4) v3) 202 w (nI (bk 0 4 + 1))) x = gA h x := fun x n202 => by
        rw [gA_k n202, gAB, A3, gAB, A2, A1]
      have gB' : ∀ x, x ≠ 203 → x ≠ 204 → gB (sA (sB h3 204 (20 * w + bk 0 4) v3) 202 w (nI (bk 0 4 + 1))) x = gB h x := fun x n203 n204 => by
        rw [gBA, gB_k n204, B3, gB_k n203, B2, B1]
      generalize (sA (sB h3 204 (20 * w + bk 0 4) v3) 202 w (nI (bk 0 4 + 1))) = H at *
      have k0 : sBk t k bk 0 4 = bk 0 4 + 1 := up2_s
      have kx : ∀ j, j ≠ 4 → sBk t k bk 0 j = bk 0 j := fun j hj => by
        unfold sBk; rw [up2_x hj, up2_k (by decide), up2_k (by decide)]
      have kk : ∀ j, j ≠ 0 → j ≠ 5 → j ≠ 6 → sBk t k bk j = bk j := fun j m0 m5 m6 => by
        unfold sBk; rw [up2_k m0, up2_k m6, up2_k m5]
      have kn5 : ∀ i, sBk t k bk 5 i = if i = bk 0 4 then tV t (k + 1) else bk 5 i := fun i => by
        unfold sBk; simp [up2, up1]
      have kn6 : ∀ i, sBk t k bk 6 i = if i = bk 0 4 then tV t (k + 2) else bk 6 i := fun i => by
        unfold sBk; simp [up2, up1]
      unfold RB
      simp only [kx 0 (by decide), kx 1 (by decide), kx 2 (by decide), kx 3 (by decide), k0, kk 1 (by decide) (by decide) (by decide), kk 2 (by decide) (by decide) (by decide), kk 3 (by decide) (by decide) (by decide), kk 4 (by decide) (by decide) (by decide), kk 7 (by decide) (by decide) (by decide), kk 8 (by decide) (by decide) (by decide), kk 9 (by decide) (by decide) (by decide), kk 10 (by decide) (by decide) (by decide), kk 11 (by decide) (by decide) (by decide), kk 12 (by decide) (by decide) (by decide), kk 13 (by decide) (by decide) (by decide), kk 14 (by decide) (by decide) (by decide), kk 15 (by decide) (by decide) (by decide), kk 16 (by decide) (by decide) (by decide), kk 17 (by decide) (by decide) (by decide), kk 18 (by decide) (by decide) (by decide), kk 19 (by decide) (by decide) (by decide), kk 20 (by decide) (by decide) (by decide), kk 21 (by decide) (by decide) (by decide), kk 22 (by decide) (by decide) (by decide), kk 23 (by decide) (by decide) (by decide), kk 24 (by decide) (by decide) (by decide), kk 25 (by decide) (by decide) (by decide), kk 26 (by decide) (by decide) (by decide), kk 27 (by decide) (by decide) (by decide), kk 28 (by decide) (by decide) (by decide), kk 29 (by decide) (by decide) (by decide), kk 30 (by decide) (by decide) (by decide), kk 31 (by decide) (by decide) (by decide)]
      rw [gA' 197 (by decide), gA' 199 (by decide), gA' 200 (by decide), gA' 201 (by decide), gA' 205 (by decide), gA' 207 (by decide), gA' 208 (by decide), gA' 209 (by decide), gA' 210 (by decide), gA' 211 (by decide), gA' 212 (by decide), gA' 213 (by decide), gA' 214 (by decide), gA' 215 (by decide), gA' 216 (by decide), gA' 218 (by decide), gA' 219 (by decide), gA' 220 (by decide), gA' 221 (by decide), gA' 222 (by decide), gA' 223 (by decide), gA' 224 (by decide), gA' 225 (by decide), gA' 226 (by decide), gA' 227 (by decide), gA' 228 (by decide), gA' 229 (by decide), gA' 230 (by decide), gA' 231 (by decide), gA' 232 (by decide), gB' 198 (by decide) (by decide), gB' 206 (by decide) (by decide), gB' 217 (by decide) (by decide)]
      refine ⟨⟨b1'.1, b1'.2.1, b1'.2.2.1, b1'.2.2.2.1, by rw [g202, up1_s]⟩, b2', fun i hi => ?_, b4', b5', b6'⟩
      rw [g203, g204, kn5, kn6]
      by_cases z : i = bk 0 4
      · rw [z, up1_s, up1_s, if_pos rfl, if_pos rfl]; exact ⟨e2, e3⟩
      · rw [up1_x (by omega), up1_x (by omega), if_neg z, if_neg z]; exact b3' i (by omega)
def ofI (bk : Bk) (v : Nat) : Nat := (ofL (bk 1) v (bk 0 0)).getD 0
def cFs (t : Tp) (k : Nat) (bk : Bk) : List Nat := [if bk 0 3 = 40 then fX t 5 k else 0, fO t (k + 1) (bk 1) (bk 0 0), fO t (k + 2) (bk 1) (bk 0 0), if ofI bk (tV t (k + 2)) = ofI bk (tV t (k + 1)) then fX t 3 (k + 2) else 0, fW t (k + 3) (kw 29), fN t (k + 4) 0 1439, fW t (k + 5) (kw 30), fN t (k + 6) 1 1440, fW t (k + 7) (kw 31), fN t (k + 8) (tV t (k + 4)) 1439, fW t (k + 9) (kw 32), fN t (k + 10) 1 3000, fW t (k + 11) (kw 33), fN t (k + 12) 1 20]
def cBk (t : Tp) (k : Nat) (bk : Bk) : Bk := up2 (up2 (up2 (up2 (up2 (up2 (up2 (up2 bk 25 (bk 0 3) (ofI bk (tV t (k + 1)))) 26 (bk 0 3) (ofI bk (tV t (k + 2)))) 27 (bk 0 3) (tV t (k + 4))) 28 (bk 0 3) (tV t (k + 6))) 29 (bk 0 3) (tV t (k + 8))) 30 (bk 0 3) (tV t (k + 10))) 31 (bk 0 3) (tV t (k + 12))) 0 3 (bk 0 3 + 1)
theorem fO_v {t : Tp} {k : Nat} {bk : Bk} (h : fO t k (bk 1) (bk 0 0) = 0) : oI (ofL (bk 1) (tV t k) (bk 0 0)) = nI (ofI bk (tV t k)) ∧ ofI bk (tV t k) < bk 0 0 ∧ bk 1 (ofI bk (tV t k)) = tV t k := by
  obtain ⟨-, i, e, e1, e2⟩ := fO_0 h
  unfold ofI
  rw [e]; exact ⟨rfl, e1, e2⟩

theorem r_coach (hw : w ≤ 1) (W : WB bk) (I : RIb h0 t M w k 0 h) (B : RB h w bk) (q0 : tK t k ≠ 0) : ∃ h', E (d + 4) 60 [.ref 189] h = some (none, h') ∧ RIb h0 t M w (k + 13) (ff (cFs t k bk)) h' ∧ (ff (cFs t k bk) = 0 → RB h' w (cBk t k bk)) := by
  have w1 := W.1
  have w2 := W.2.1
  obtain ⟨b1', b2', b3', b4', b5', b6'⟩ := id B
  have hs := I.1
  obtain ⟨h1, a1, I1, A1, B1⟩ := i_beg (d := d + 1) I q0 (P := bk 0 3 = 40)
  have beg : (if nI (bk 0 3) = nI 40 then cK (E (d + 3) 47 [.ref 189, .int (nI 1)] h) (Q (d + 3) 60 25 [some (.ref 189), some (.int (nI (bk 0 3))), none]) [] else cK (E (d + 3) 47 [.ref 189, .int (nI 0)] h) (Q (d + 3) 60 25 [some (.ref 189), some (.int (nI (bk 0 3))), none]) []) = Q (d + 3) 60 25 [some (.ref 189), some (.int (nI (bk 0 3))), none] [] h1 := by
    rw [ife (by omega) (by decide)]
    by_cases q : bk 0 3 = 40
    · rw [if_pos q]; rw [b1 q] at a1; rw [a1, cK_n]
    · rw [if_neg q]; rw [b0 q] at a1; rw [a1, cK_n]
  rw [t_60 hs, I.2.2.2.1, gd_nI (by omega) (by decide), ix_nI (by omega), b1'.2.2.2.1, beg]
  unfold cFs
  by_cases q : bk 0 3 = 40
  · rw [if_pos q] at I1 ⊢
    have nz : fX t 5 k ≠ 0 := fX_n (by decide)
    rw [ff_n nz, t_60_25 I1.1, I1.2.2.1.2.1, if_pos (nI_lt (by omega) (by have := I1.2.2.1.2.2.1; omega))]
    exact ⟨h1, rfl, I1.op Fr.rfl (I1.2.2.1.any nz _), fun z => absurd z nz⟩
  · rw [if_neg q] at I1 ⊢
    obtain ⟨h2, v2, a2, I2, ⟨A2, B2⟩, u2⟩ := i_tO (d := d + 1) I1 (m := bk 0 0) (nm := bk 1) hw (by omega) (by rw [A1]; exact b1'.1) (fun i hi => lt37 (w2 i hi).2.1 (by decide)) (fun i hi => by rw [B1]; exact (b2' i hi).1)
    have S2 := I2.sA (x := 226) (i := 40 * w + bk 0 3) (v := v2) (by decide) (by unfold hzA; simp; omega)
    obtain ⟨h3, v3, a3, I3, ⟨A3, B3⟩, u3⟩ := i_tO (d := d + 1) S2 (m := bk 0 0) (nm := bk 1) hw (by omega) (by rw [gA_k (by decide), A2, A1]; exact b1'.1) (fun i hi => lt37 (w2 i hi).2.1 (by decide)) (fun i hi => by rw [gBA, B2, B1]; exact (b2' i hi).1)
    have S3 := I3.sA (x := 227) (i := 40 * w + bk 0 3) (v := v3) (by decide) (by unfold hzA; simp; omega)
    obtain ⟨h4, a4, I4, A4, B4⟩ : ∃ h4, (if gI h3 3596 189 = nI 0 then gd (nI (40 * w + bk 0 3)) 80 (gd (nI (40 * w + bk 0 3)) 80 (if gA (sA h3 227 (40 * w + bk 0 3) v3) 227 (40 * w + bk 0 3) = gA (sA h3 227 (40 * w + bk 0 3) v3) 226 (40 * w + bk 0 3) then cK (E (d + 3) 48 [.ref 189, .int (nI 3)] (sI (sA h3 227 (40 * w + bk 0 3) v3) 3595 189 ((gI h3 3595 189) - (nI 1)))) (Q (d + 3) 60 100 [some (.ref 189), none, some (.int (nI (40 * w + bk 0 3)))]) [] else Q (d + 3) 60 100 [some (.ref 189), none, some (.int (nI (40 * w + bk 0 3)))] [] (sA h3 227 (40 * w + bk 0 3) v3))) else Q (d + 3) 60 100 [some (.ref 189), none, some (.int (nI (40 * w + bk 0 3)))] [] (sA h3 227 (40 * w + bk 0 3) v3)) = Q (d + 3) 60 100 [some (.ref 189), none, some (.int (nI (40 * w + bk 0 3)))] [] h4 ∧ RIb h0 t M w (k + 3) (st (st (st 0 (fO t (k + 1) (bk 1) (bk 0 0))) (fO t (k + 2) (bk 1) (bk 0 0))) (if ofI bk (tV t (k + 2)) = ofI bk (tV t (k + 1)) then fX t 3 (k + 2) else 0)) h4 ∧ gA h4 = gA (sA h3 227 (40 * w + bk 0 3) v3) ∧ gB h4 = gB (sA h3 227 (40 * w + bk 0 3) v3) := by
      have R3 := S3.2.2.1
      have f27 : gA (sA h3 227 (40 * w + bk 0 3) v3) 227 (40 * w + bk 0 3) = v3 := by rw [gA_s, up1_s]
      have f26 : gA (sA h3 227 (40 * w + bk 0 3) v3) 226 (40 * w + bk 0 3) = v2 := by rw [gA_k (by decide), A3, gA_s, up1_s]
      by_cases q : st (st 0 (fO t (k + 1) (bk 1) (bk 0 0))) (fO t (k + 2) (bk 1) (bk 0 0)) = 0
      · obtain ⟨q1, y2⟩ := st_0.mp q
        obtain ⟨-, y1⟩ := st_0.mp q1
        obtain ⟨p1, p2, -⟩ := fO_v y1
        obtain ⟨p3, p4, -⟩ := fO_v y2
        have e2 := (u2 q1).trans p1
        have e3 := (u3 q).trans p3
        have eF : gI h3 3596 189 = nI (st (st 0 (fO t (k + 1) (bk 1) (bk 0 0))) (fO t (k + 2) (bk 1) (bk 0 0))) := R3.2.1
        obtain ⟨c1, c2, c3, c4⟩ := R3.at q
        have c1' : gI h3 3595 189 = nI (k + 3) := c1
        rw [eF, if_pos (by rw [q]), gd_nI (by omega) (by decide), gd_nI (by omega) (by decide), f27, f26, c1', pk_sub (by omega), show k + 3 - 1 = k + 2 from rfl]
        have cv : (v3 = v2) = (ofI bk (tV t (k + 2)) = ofI bk (tV t (k + 1))) := by rw [e2, e3]; exact propext (nI_eq (by omega) (by omega))
        simp only [cv]
        by_cases q2 : ofI bk (tV t (k + 2)) = ofI bk (tV t (k + 1))
        · have fr' : Fr [3595] [] (sA h3 227 (40 * w + bk 0 3) v3) (sI (sA h3 227 (40 * w + bk 0 3) v3) 3595 189 (nI (k + 2))) := Fr.rfl.sI (by decide)
          have R' : RQ (sI (sA h3 227 (40 * w + bk 0 3) v3) 3595 189 (nI (k + 2))) t M (k + 2) (st (st 0 (fO t (k + 1) (bk 1) (bk 0 0))) (fO t (k + 2) (bk 1) (bk 0 0))) := ⟨R3.1.fr fr' (by decide) (by decide) (by decide), by rw [gI_k (by decide)]; exact R3.2.1, R3.2.2.1, k + 2, gI_s, by omega, fun _ => rfl⟩
          obtain ⟨h4, a4, a5, a6⟩ := r_wrong (d := d + 2) (fr'.sh S3.1) R' (c := 3) (by decide) (by decide)
          have F : Fr [3595, 3596] [] (sA h3 227 (40 * w + bk 0 3) v3) h4 := (fr'.wk (by decide) (by decide)).trans (a5.wk (by decide) (by decide))
          rw [if_pos q2, if_pos q2, a4, cK_n]
          have nz : st (st (st 0 (fO t (k + 1) (bk 1) (bk 0 0))) (fO t (k + 2) (bk 1) (bk 0 0))) (fX t 3 (k + 2)) ≠ 0 := fun z => fX_n (by decide) (st_0.mp z).2
          exact ⟨h4, rfl, S3.op F (a6.any nz _), F.gA', F.gB'⟩
        · rw [if_neg q2, if_neg q2]
          exact ⟨_, rfl, by rw [show st (st (st 0 (fO t (k + 1) (bk 1) (bk 0 0))) (fO t (k + 2) (bk 1) (bk 0 0))) 0 = st (st 0 (fO t (k + 1) (bk 1) (bk 0 0))) (fO t (k + 2) (bk 1) (bk 0 0)) from (if_pos q).trans q.symm]; exact S3, rfl, rfl⟩
      · have eF : gI h3 3596 189 = nI (st (st 0 (fO t (k + 1) (bk 1) (bk 0 0))) (fO t (k + 2) (bk 1) (bk 0 0))) := R3.2.1
        rw [eF, if_neg fun w => q ((nI_eq (Nat.lt_trans R3.2.2.1 (by decide)) (by decide)).mp w)]
        exact ⟨_, rfl, by rw [show st (st (st 0 (fO t (k + 1) (bk 1) (bk 0 0))) (fO t (k + 2) (bk 1) (bk 0 0))) (if ofI bk (tV t (k + 2)) = ofI bk (tV t (k + 1)) then fX t 3 (k + 2) else 0) = st (st 0 (fO t (k + 1) (bk 1) (bk 0 0))) (fO t (k + 2) (bk 1) (bk 0 0)) from if_neg q]; exact S3, rfl, rfl⟩
    obtain ⟨h5, a5, I5, A5, B5⟩ := i_tW (d := d + 1) I4 (q := 29) (by decide)
    obtain ⟨h6, v6, a6, I6, ⟨A6, B6⟩, u6⟩ := i_tN (d := d + 1) I5 (lo := 0) (hi := 1439) (x1 := nI 0) (fun _ => ⟨rfl, by decide⟩) (by decide)
    have S6 := I6.sA (x := 228) (i := 40 * w + bk 0 3) (v := v6) (by decide) (by unfold hzA; simp; omega)
    obtain ⟨h7, a7, I7, A7, B7⟩ := i_tW (d := d + 1) S6 (q := 30) (by decide)
    obtain ⟨h8, v8, a8, I8, ⟨A8, B8⟩, u8⟩ := i_tN (d := d + 1) I7 (lo := 1) (hi := 1440) (x1 := nI 1) (fun _ => ⟨rfl, by decide⟩) (by decide)
    have S8 := I8.sA (x := 229) (i := 40 * w + bk 0 3) (v := v8) (by decide) (by unfold hzA; simp; omega)
    obtain ⟨h9, a9, I9, A9, B9⟩ := i_tW (d := d + 1) S8 (q := 31) (by decide)
    obtain ⟨h10, v10, a10, I10, ⟨A10, B10⟩, u10⟩ := i_tN (d := d + 1) I9 (lo := tV t (k + 4)) (hi := 1439) (x1 := gA h9 228 (40 * w + bk 0 3)) (fun z => by
      have z8 := (st_0.mp z).1
      have z7 := (st_0.mp z8).1
      have z6 := (st_0.mp z7).1
      have := (fN_0 (st_0.mp z6).2).2.2
      exact ⟨by rw [A9, gA_k (by decide), A8, A7, gA_s, up1_s]; exact u6 z6, Nat.lt_of_le_of_lt this (by decide)⟩) (by decide)
    have S10 := I10.sA (x := 230) (i := 40 * w + bk 0 3) (v := v10) (by decide) (by unfold hzA; simp; omega)
    obtain ⟨h11, a11, I11, A11, B11⟩ := i_tW (d := d + 1) S10 (q := 32) (by decide)
    obtain ⟨h12, v12, a12, I12, ⟨A12, B12⟩, u12⟩ := i_tN (d := d + 1) I11 (lo := 1) (hi := 3000) (x1 := nI 1) (fun _ => ⟨rfl, by decide⟩) (by decide)
    have S12 := I12.sA (x := 231) (i := 40 * w + bk 0 3) (v := v12) (by decide) (by unfold hzA; simp; omega)
    obtain ⟨h13, a13, I13, A13, B13⟩ := i_tW (d := d + 1) S12 (q := 33) (by decide)
    obtain ⟨h14, v14, a14, I14, ⟨A14, B14⟩, u14⟩ := i_tN (d := d + 1) I13 (lo := 1) (hi := 20) (x1 := nI 1) (fun _ => ⟨rfl, by decide⟩) (by decide)
    have S14 := I14.sA (x := 232) (i := 40 * w + bk 0 3) (v := v14) (by decide) (by unfold hzA; simp; omega)
    have SF := S14.sA (x := 225) (i := w) (v := nI (bk 0 3 + 1)) (by decide) (by unfold hzA; simp)
    have cnt : gA (sA h14 232 (40 * w + bk 0 3) v14) 225 w = nI (bk 0 3) := by
      rw [gA_k (by decide), A14, A13, gA_k (by decide), A12, A11, gA_k (by decide), A10, A9, gA_k (by decide), A8, A7, gA_k (by decide), A6, A5, A4, gA_k (by decide), A3, gA_k (by decide), A2, A1]; exact b1'.2.2.2.1
    have fE : st (st (st (st (st (st (st (st (st (st (st (st (st 0 (fO t (k + 1) (bk 1) (bk 0 0))) (fO t (k + 2) (bk 1) (bk 0 0))) (if ofI bk (tV t (k + 2)) = ofI bk (tV t (k + 1)) then fX t 3 (k + 2) else 0)) (fW t (k + 3) (kw 29))) (fN t (k + 4) 0 1439)) (fW t (k + 5) (kw 30))) (fN t (k + 6) 1 1440)) (fW t (k + 7) (kw 31))) (fN t (k + 8) (tV t (k + 4)) 1439)) (fW t (k + 9) (kw 32))) (fN t (k + 10) 1 3000)) (fW t (k + 11) (kw 33))) (fN t (k + 12) 1 20) = ff [0, fO t (k + 1) (bk 1) (bk 0 0), fO t (k + 2) (bk 1) (bk 0 0), if ofI bk (tV t (k + 2)) = ofI bk (tV t (k + 1)) then fX t 3 (k + 2) else 0, fW t (k + 3) (kw 29), fN t (k + 4) 0 1439, fW t (k + 5) (kw 30), fN t (k + 6) 1 1440, fW t (k + 7) (kw 31), fN t (k + 8) (tV t (k + 4)) 1439, fW t (k + 9) (kw 32), fN t (k + 10) 1 3000, fW t (k + 11) (kw 33), fN t (k + 12) 1 20] := by
      rw [show (0 : Nat) = ff [0] from rfl, st_ff, st_ff, st_ff, st_ff, st_ff, st_ff, st_ff, st_ff, st_ff, st_ff, st_ff, st_ff, st_ff]; rfl
    rw [← fE]
    refine ⟨_, ?_, SF, fun z => ?_⟩
    · rw [t_60_25 I1.1, I1.2.2.1.2.1, if_neg (by decide), I1.2.2.2.1, pk_mul, nI_add, a2, cK_v, t_60_52 I2.1, cwN I2.1 226 60 (by decide) rfl, gkN I2.1 226 80 (by decide) rfl, gd_nI (by omega) (by decide), ix_nI (by omega), a3, cK_v, t_60_62 I3.1, cwN I3.1 227 60 (by decide) rfl, gkN I3.1 227 80 (by decide) rfl, gd_nI (by omega) (by decide), ix_nI (by omega), a4, t_60_100 I4.1, a5, cK_n, t_60_106 I5.1, a6, cK_v, t_60_119 I6.1, cwN I6.1 228 60 (by decide) rfl, gkN I6.1 228 80 (by decide) rfl, gd_nI (by omega) (by decide), ix_nI (by omega), a7, cK_n, t_60_126 I7.1, a8, cK_v, t_60_139 I8.1, cwN I8.1 229 60 (by decide) rfl, gkN I8.1 229 80 (by decide) rfl, gd_nI (by omega) (by decide), ix_nI (by omega), a9, cK_n, t_60_146 I9.1, gd_nI (by omega) (by decide), ix_nI (by omega), a10, cK_v, t_60_164 I10.1, cwN I10.1 230 60 (by decide) rfl, gkN I10.1 230 80 (by decide) rfl, gd_nI (by omega) (by decide), ix_nI (by omega), a11, cK_n, t_60_171 I11.1, a12, cK_v, t_60_184 I12.1, cwN I12.1 231 60 (by decide) rfl, gkN I12.1 231 80 (by decide) rfl, gd_nI (by omega) (by decide), ix_nI (by omega), a13, cK_n, t_60_191 I13.1, a14, cK_v, t_60_203 I14.1, cwN I14.1 232 60 (by decide) rfl, gkN I14.1 232 80 (by decide) rfl, gd_nI (by omega) (by decide), ix_nI (by omega), I14.2.2.2.1, gd_nI (by omega) (by decide), gd_nI (by omega) (by decide), ix_nI (by omega), cnt, nI_add]
    · obtain ⟨z13, y13⟩ := st_0.mp z
      obtain ⟨z12, y12⟩ := st_0.mp z13
      obtain ⟨z11, y11⟩ := st_0.mp z12
      obtain ⟨z10, y10⟩ := st_0.mp z11
      obtain ⟨z9, y9⟩ := st_0.mp z10
      obtain ⟨z8, y8⟩ := st_0.mp z9
      obtain ⟨z7, y7⟩ := st_0.mp z8
      obtain ⟨z6, y6⟩ := st_0.mp z7
      obtain ⟨z5, y5⟩ := st_0.mp z6
      obtain ⟨z4, y4⟩ := st_0.mp z5
      obtain ⟨z3, y3⟩ := st_0.mp z4
      obtain ⟨z2, y2⟩ := st_0.mp z3
      obtain ⟨z1, y1⟩ := st_0.mp z2
      have e2 := u2 z2
      have e3 := u3 z3
      have e6 := u6 z6
      have e8 := u8 z8
      have e10 := u10 z10
      have e12 := u12 z12
      have e14 := u14 z
      have g225 : gA (sA (sA h14 232 (40 * w + bk 0 3) v14) 225 w (nI (bk 0 3 + 1))) 225 = up1 (gA h 225) w (nI (bk 0 3 + 1)) := by
        rw [gA_s, gA_k (by decide), A14, A13, gA_k (by decide), A12, A11, gA_k (by decide), A10, A9, gA_k (by decide), A8, A7, gA_k (by decide), A6, A5, A4, gA_k (by decide), A3, gA_k (by decide), A2, A1]
      have g226 : gA (sA (sA h14 232 (40 * w + bk 0 3) v14) 225 w (nI (bk 0 3 + 1))) 226 = up1 (gA h 226) (40 * w + bk 0 3) v2 := by
        rw [gA_k (by decide), gA_k (by decide), A14, A13, gA_k (by decide), A12, A11, gA_k (by decide), A10, A9, gA_k (by decide), A8, A7, gA_k (by decide), A6, A5, A4, gA_k (by decide), A3, gA_s, A2, A1]
      have g227 : gA (sA (sA h14 232 (40 * w + bk 0 3) v14) 225 w (nI (bk 0 3 + 1))) 227 = up1 (gA h 227) (40 * w + bk 0 3) v3 := by
        rw [gA_k (by decide), gA_k (by decide), A14, A13, gA_k (by decide), A12, A11, gA_k (by decide), A10, A9, gA_k (by decide), A8, A7, gA_k (by decide), A6, A5, A4, gA_s, A3, gA_k (by decide), A2, A1]
      have g228 : gA (sA (sA h14 232 (40 * w + bk 0 3) v14) 225 w (nI (bk 0 3 + 1))) 228 = up1 (gA h 228) (40 * w + bk 0 3) v6 := by
        rw [gA_k (by decide), gA_k (by decide), A14, A13, gA_k (by decide), A12, A11, gA_k (by decide), A10, A9, gA_k (by decide), A8, A7, gA_s, A6, A5, A4, gA_k (by decide), A3, gA_k (by decide), A2, A1]
      have g229 : gA (sA (sA h14 232 (40 * w + bk 0 3) v14) 225 w (nI (bk 0 3 + 1))) 229 = up1 (gA h 229) (40 * w + bk 0 3) v8 := by
        rw [gA_k (by decide), gA_k (by decide), A14, A13, gA_k (by decide), A12, A11, gA_k (by decide), A10, A9, gA_s, A8, A7, gA_k (by decide), A6, A5, A4, gA_k (by decide), A3, gA_k (by decide), A2, A1]
      have g230 : gA (sA (sA h14 232 (40 * w + bk 0 3) v14) 225 w (nI (bk 0 3 + 1))) 230 = up1 (gA h 230) (40 * w + bk 0 3) v10 := by
        rw [gA_k (by decide), gA_k (by decide), A14, A13, gA_k (by decide), A12, A11, gA_s, A10, A9, gA_k (by decide), A8, A7, gA_k (by decide), A6, A5, A4, gA_k (by decide), A3, gA_k (by decide), A2, A1]
      have g231 : gA (sA (sA h14 232 (40 * w + bk 0 3) v14) 225 w (nI (bk 0 3 + 1))) 231 = up1 (gA h 231) (40 * w + bk 0 3) v12 := by
        rw [gA_k (by decide), gA_k (by decide), A14, A13, gA_s, A12, A11, gA_k (by decide), A10, A9, gA_k (by decide), A8, A7, gA_k (by decide), A6, A5, A4, gA_k (by decide), A3, gA_k (by decide), A2, A1]
      have g232 : gA (sA (sA h14 232 (40 * w + bk 0 3) v14) 225 w (nI (bk 0 3 + 1))) 232 = up1 (gA h 232) (40 * w + bk 0 3) v14 := by
        rw [gA_k (by decide), gA_s, A14, A13, gA_k (by decide), A12, A11, gA_k (by decide), A10, A9, gA_k (by decide), A8, A7, gA_k (by decide), A6, A5, A4, gA_k (by decide), A3, gA_k (by decide), A2, A1]
      have gA' : ∀ x, x ≠ 225 → x ≠ 226 → x ≠ 227 → x ≠ 228 → x ≠ 229 → x ≠ 230 → x ≠ 231 → x ≠ 232 → gA (sA (sA h14 232 (40 * w + bk 0 3) v14) 225 w (nI (bk 0 3 + 1))) x = gA h x := fun x n225 n226 n227 n228 n229 n230 n231 n232 => by
        rw [gA_k n225, gA_k n232, A14, A13, gA_k n231, A12, A11, gA_k n230, A10, A9, gA_k n229, A8, A7, gA_k n228, A6, A5, A4, gA_k n227, A3, gA_k n226, A2, A1]
      have gB' : ∀ x, gB (sA (sA h14 232 (40 * w + bk 0 3) v14) 225 w (nI (bk 0 3 + 1))) x = gB h x := fun x => by
        rw [gBA, gBA, B14, B13, gBA, B12, B11, gBA, B10, B9, gBA, B8, B7, gBA, B6, B5, B4, gBA, B3, gBA, B2, B1]
      generalize (sA (sA h14 232 (40 * w + bk 0 3) v14) 225 w (nI (bk 0 3 + 1))) = H at *
      have k0 : cBk t k bk 0 3 = bk 0 3 + 1 := up2_s
      have kx : ∀ j, j ≠ 3 → cBk t k bk 0 j = bk 0 j := fun j hj => by
        unfold cBk; rw [up2_x hj, up2_k (by decide), up2_k (by decide), up2_k (by decide), up2_k (by decide), up2_k (by decide), up2_k (by decide), up2_k (by decide)]
      have kk : ∀ j, j ≠ 0 → j ≠ 25 → j ≠ 26 → j ≠ 27 → j ≠ 28 → j ≠ 29 → j ≠ 30 → j ≠ 31 → cBk t k bk j = bk j := fun j m0 m25 m26 m27 m28 m29 m30 m31 => by
        unfold cBk; rw [up2_k m0, up2_k m31, up2_k m30, up2_k m29, up2_k m28, up2_k m27, up2_k m26, up2_k m25]
      have kn25 : ∀ i, cBk t k bk 25 i = if i = bk 0 3 then ofI bk (tV t (k + 1)) else bk 25 i := fun i => by
        unfold cBk; simp [up2, up1]
      have kn26 : ∀ i, cBk t k bk 26 i = if i = bk 0 3 then ofI bk (tV t (k + 2)) else bk 26 i := fun i => by
        unfold cBk; simp [up2, up1]
      have kn27 : ∀ i, cBk t k bk 27 i = if i = bk 0 3 then tV t (k + 4) else bk 27 i := fun i => by
        unfold cBk; simp [up2, up1]
      have kn28 : ∀ i, cBk t k bk 28 i = if i = bk 0 3 then tV t (k + 6) else bk 28 i := fun i => by
        unfold cBk; simp [up2, up1]
      have kn29 : ∀ i, cBk t k bk 29 i = if i = bk 0 3 then tV t (k + 8) else bk 29 i := fun i => by
        unfold cBk; simp [up2, up1]
      have kn30 : ∀ i, cBk t k bk 30 i = if i = bk 0 3 then tV t (k + 10) else bk 30 i := fun i => by
        unfold cBk; simp [up2, up1]
      have kn31 : ∀ i, cBk t k bk 31 i = if i = bk 0 3 then tV t (k + 12) else bk 31 i := fun i => by
        unfold cBk; simp [up2, up1]
      unfold RB
      simp only [kx 0 (by decide), kx 1 (by decide), kx 2 (by decide), kx 4 (by decide), k0, kk 1 (by decide) (by decide) (by decide) (by decide) (by decide) (by decide) (by decide) (by decide), kk 2 (by decide) (by decide) (by decide) (by decide) (by decide) (by decide) (by decide) (by decide), kk 3 (by decide) (by decide) (by decide) (by decide) (by decide) (by decide) (by decide) (by decide), kk 4 (by decide) (by decide) (by decide) (by decide) (by decide) (by decide) (by decide) (by decide), kk 5 (by decide) (by decide) (by decide) (by decide) (by decide) (by decide) (by decide) (by decide), kk 6 (by decide) (by decide) (by decide) (by decide) (by decide) (by decide) (by decide) (by decide), kk 7 (by decide) (by decide) (by decide) (by decide) (by decide) (by decide) (by decide) (by decide), kk 8 (by decide) (by decide) (by decide) (by decide) (by decide) (by decide) (by decide) (by decide), kk 9 (by decide) (by decide) (by decide) (by decide) (by decide) (by decide) (by decide) (by decide), kk 10 (by decide) (by decide) (by decide) (by decide) (by decide) (by decide) (by decide) (by decide), kk 11 (by decide) (by decide) (by decide) (by decide) (by decide) (by decide) (by decide) (by decide), kk 12 (by decide) (by decide) (by decide) (by decide) (by decide) (by decide) (by decide) (by decide), kk 13 (by decide) (by decide) (by decide) (by decide) (by decide) (by decide) (by decide) (by decide), kk 14 (by decide) (by decide) (by decide) (by decide) (by decide) (by decide) (by decide) (by decide), kk 15 (by decide) (by decide) (by decide) (by decide) (by decide) (by decide) (by decide) (by decide), kk 16 (by decide) (by decide) (by decide) (by decide) (by decide) (by decide) (by decide) (by decide), kk 17 (by decide) (by decide) (by decide) (by decide) (by decide) (by decide) (by decide) (by decide), kk 18 (by decide) (by decide) (by decide) (by decide) (by decide) (by decide) (by decide) (by decide), kk 19 (by decide) (by decide) (by decide) (by decide) (by decide) (by decide) (by decide) (by decide), kk 20 (by decide) (by decide) (by decide) (by decide) (by decide) (by decide) (by decide) (by decide), kk 21 (by decide) (by decide) (by decide) (by decide) (by decide) (by decide) (by decide) (by decide), kk 22 (by decide) (by decide) (by decide) (by decide) (by decide) (by decide) (by decide) (by decide), kk 23 (by decide) (by decide) (by decide) (by decide) (by decide) (by decide) (by decide) (by decide), kk 24 (by decide) (by decide) (by decide) (by decide) (by decide) (by decide) (by decide) (by decide)]
      rw [gA' 197 (by decide) (by decide) (by decide) (by decide) (by decide) (by decide) (by decide) (by decide), gA' 199 (by decide) (by decide) (by decide) (by decide) (by decide) (by decide) (by decide) (by decide), gA' 200 (by decide) (by decide) (by decide) (by decide) (by decide) (by decide) (by decide) (by decide), gA' 201 (by decide) (by decide) (by decide) (by decide) (by decide) (by decide) (by decide) (by decide), gA' 202 (by decide) (by decide) (by decide) (by decide) (by decide) (by decide) (by decide) (by decide), gA' 205 (by decide) (by decide) (by decide) (by decide) (by decide) (by decide) (by decide) (by decide), gA' 207 (by decide) (by decide) (by decide) (by decide) (by decide) (by decide) (by decide) (by decide), gA' 208 (by decide) (by decide) (by decide) (by decide) (by decide) (by decide) (by decide) (by decide), gA' 209 (by decide) (by decide) (by decide) (by decide) (by decide) (by decide) (by decide) (by decide), gA' 210 (by decide) (by decide) (by decide) (by decide) (by decide) (by decide) (by decide) (by decide), gA' 211 (by decide) (by decide) (by decide) (by decide) (by decide) (by decide) (by decide) (by decide), gA' 212 (by decide) (by decide) (by decide) (by decide) (by decide) (by decide) (by decide) (by decide), gA' 213 (by decide) (by decide) (by decide) (by decide) (by decide) (by decide) (by decide) (by decide), gA' 214 (by decide) (by decide) (by decide) (by decide) (by decide) (by decide) (by decide) (by decide), gA' 215 (by decide) (by decide) (by decide) (by decide) (by decide) (by decide) (by decide) (by decide), gA' 216 (by decide) (by decide) (by decide) (by decide) (by decide) (by decide) (by decide) (by decide), gA' 218 (by decide) (by decide) (by decide) (by decide) (by decide) (by decide) (by decide) (by decide), gA' 219 (by decide) (by decide) (by decide) (by decide) (by decide) (by decide) (by decide) (by decide), gA' 220 (by decide) (by decide) (by decide) (by decide) (by decide) (by decide) (by decide) (by decide), gA' 221 (by decide) (by decide) (by decide) (by decide) (by decide) (by decide) (by decide) (by decide), gA' 222 (by decide) (by decide) (by decide) (by decide) (by decide) (by decide) (by decide) (by decide), gA' 223 (by decide) (by decide) (by decide) (by decide) (by decide) (by decide) (by decide) (by decide), gA' 224 (by decide) (by decide) (by decide) (by decide) (by decide) (by decide) (by decide) (by decide), gB' 198 , gB' 203 , gB' 204 , gB' 206 , gB' 217 ]
      have E2 := e2.trans (fO_v y1).1
      have E3 := e3.trans (fO_v y2).1
      refine ⟨⟨b1'.1, b1'.2.1, b1'.2.2.1, by rw [g225, up1_s], b1'.2.2.2.2⟩, b2', b3', b4', b5', fun i hi => ?_⟩
      rw [g226, g227, g228, g229, g230, g231, g232, kn25, kn26, kn27, kn28, kn29, kn30, kn31]
      by_cases z : i = bk 0 3
      · rw [z]; simp only [up1_s, if_true]; exact ⟨E2, E3, e6, e8, e10, e12, e14⟩
      · rw [up1_x (by omega), up1_x (by omega), up1_x (by omega), up1_x (by omega), up1_x (by omega), up1_x (by omega), up1_x (by omega), if_neg z, if_neg z, if_neg z, if_neg z, if_neg z, if_neg z, if_neg z]; exact b6' i (by omega)
end ROG
