/-! ===== THE BOOK: a street as a whole (component) ===== -/
section CSV
variable {d : Nat} {h : AH} {N0 b : Nat} {t : Tp} {k : Nat} {bk : Bk} {G Cp : Nat → Nat → Nat}
theorem wI_ow {q : Nat} : wI t q [kw 10, kw 11, kw 12, kw 13] = ow t q 10 4 0 := by
  rw [wI_c, wI_c, wI_c, wI_c, wI_n, ow, ow, ow, ow, ow]
  by_cases a : isW t q (kw 10)
  · rw [if_pos a, if_pos a]
  · rw [if_neg a, if_neg a]
    by_cases a2 : isW t q (kw 11)
    · rw [if_pos a2, if_pos a2]; rfl
    · rw [if_neg a2, if_neg a2]
      by_cases a3 : isW t q (kw 12)
      · rw [if_pos a3, if_pos a3]; rfl
      · rw [if_neg a3, if_neg a3]
        by_cases a4 : isW t q (kw 13)
        · rw [if_pos a4, if_pos a4]; rfl
        · rw [if_neg a4, if_neg a4]; rfl
set_option maxHeartbeats 4000000 in
theorem c_street (X : WX bk) (R : CRd h N0 b t k bk G Cp) : ∃ h' r, E (d + 10) 234 [.ref b] h = some (some (.int r), h') ∧ SRd h h' N0 b t (st (ff (pFs t k bk)) (fS t (pQ t k + 10) 59)) (pQ t k + 10) (pBk t k bk) := by
  obtain ⟨C, B, L, hNb, hN, hNg, hSh⟩ := R
  have hs := C.1
  have hg := hs.2
  have c0 := X.1.1.1
  have c1' := X.1.1.2.1
  obtain ⟨b1', b2', b3', b4', b5', b6', b7', b8'⟩ := id B
  obtain ⟨e1, A⟩ := b3' 1 (by decide)
  have cb := C.2.2.2.2.2.1
  rw [t_234 hs, ck_ok cb, e1, Option.bind_some, ck_ok A.1, al_size hs A, cK_v, t_234_7 hs, ifl (by omega) (by decide)]
  by_cases q : ¬ (bk 0 1 < 60)
  · have q16 : bk 0 1 = 60 := by omega
    obtain ⟨h1, a1, a2, a3, a4⟩ := c_fail (d := d + 8) C (c := 5) (by decide)
    have nz : fX t 5 k ≠ 0 := fX_n (by decide)
    have ef : st (ff (pFs t k bk)) (fS t (pQ t k + 10) 59) = fX t 5 k := by unfold pFs pFs'; rw [if_pos q16, ff_n nz]; exact if_neg nz
    rw [if_neg q, ck_ok cb, a1, cK_v, t_234_17 a2.1, if_pos (by decide), ef]
    exact ⟨h1, _, rfl, stop_f k nz (Fr.bf a3) (by rw [a3.ct.1]; omega) (by rw [a3.ct.2]; omega) a2 a4⟩
  have q := Decidable.not_not.mp q
  have e16 : (if bk 0 1 = 60 then fX t 5 k else 0) = 0 := if_neg (by omega)
  have eF : ff (pFs t k bk) = ff [if nmC t (k + 1) = 0 then fX t 1 (k + 1) else 0, fW t (pA t k) (kw 4), fO t (pA t k + 1) (bk 1) (bk 0 0), fW t (pQ t k) (kw 7), fN t (pQ t k + 1) 1 999, fW t (pQ t k + 2) (kw 8), fN t (pQ t k + 3) (tV t (pQ t k + 1)) 999, fW t (pQ t k + 4) (kw 9), fN t (pQ t k + 5) 0 999, fN t (pQ t k + 6) 0 999, f1 t (pQ t k + 7) 10 4, fW t (pQ t k + 8) (kw 14), fN t (pQ t k + 9) 0 9] := by unfold pFs pFs'; rw [e16]; rfl
  have hs1 : Sh (nwO h 11 9) := hs.nw
  have x1a : gC (nwO h 11 9) (gN h) = 11 := nw_C0
  have hbl := C.2.1.lt cb (by decide)
  have C1a : CPs (nwO h 11 9) b t k := C.nf (NFr.rfl.nw : NFr (gN h) h (nwO h 11 9)) (Nat.le_refl _) hs1 (HW.nw C.2.1)
  obtain ⟨g1, f1', a1, e1', bn1, n1, s1, ⟨kk1, K1⟩, E1, V1⟩ := c_names (d := d) (x := gN h) hg C1a hbl x1a
  have bf1 : BFr (gN h) h g1 := (NFr.rfl.nw : NFr (gN h) h (nwO h 11 9)).bf.trans bn1
  have n1 : gN g1 ≤ gN h + 3 := by have : gN (nwO h 11 9) = gN h + 1 := rfl; omega
  have s1 : gS g1 ≤ gS h + 87 := by have : gS (nwO h 11 9) = gS h + 9 := rfl; omega
  have eA : nmFs t k (nmC t (k + 1)) = [if nmC t (k + 1) = 0 then fX t 1 (k + 1) else 0, fW t (pA t k) (kw 4)] := rfl
  have eF0 : ff (pFs t k bk) = st f1' (ff [fO t (pA t k + 1) (bk 1) (bk 0 0), fW t (pQ t k) (kw 7), fN t (pQ t k + 1) 1 999, fW t (pQ t k + 2) (kw 8), fN t (pQ t k + 3) (tV t (pQ t k + 1)) 999, fW t (pQ t k + 4) (kw 9), fN t (pQ t k + 5) 0 999, fN t (pQ t k + 6) 0 999, f1 t (pQ t k + 7) 10 4, fW t (pQ t k + 8) (kw 14), fN t (pQ t k + 9) 0 9]) := by rw [eF, e1', eA]; exact ff_app [if nmC t (k + 1) = 0 then fX t 1 (k + 1) else 0, fW t (pA t k) (kw 4)] _
  rw [if_pos q, t_234_21 hs1, t_284 hs1, cK_n, t_234_25 hs1, ck_ok C1a.2.2.2.2.2.1, a1, cK_v, t_234_31 K1.1]
  by_cases q1 : ¬ (f1' = 0)
  · have ef : st (ff (pFs t k bk)) (fS t (pQ t k + 10) 59) = f1' := by rw [eF0, show ∀ a c, f1' ≠ 0 → st (st f1' a) c = f1' from fun a c z => by unfold st; rw [if_neg z, if_neg z]]; exact q1
    rw [bz_n q1, if_pos rfl, ef]
    exact ⟨g1, _, rfl, stop_f kk1 q1 (bf1.lo hNg) (by omega) (by omega) K1 (E1 q1)⟩
  have q1 := Decidable.not_not.mp q1
  obtain ⟨I1, C1, x1, y, ry, ANy, hy1, hy2⟩ := V1 q1
  have C1 : CPs g1 b t (pA t k) := C1
  have eF1 : ff (pFs t k bk) = ff [fO t (pA t k + 1) (bk 1) (bk 0 0), fW t (pQ t k) (kw 7), fN t (pQ t k + 1) 1 999, fW t (pQ t k + 2) (kw 8), fN t (pQ t k + 3) (tV t (pQ t k + 1)) 999, fW t (pQ t k + 4) (kw 9), fN t (pQ t k + 5) 0 999, fN t (pQ t k + 6) 0 999, f1 t (pQ t k + 7) 10 4, fW t (pQ t k + 8) (kw 14), fN t (pQ t k + 9) 0 9] := by rw [eF0, q1]; rfl
  have ct1 : gN g1 = gN g1 + 0 ∧ gS g1 = gS g1 + 0 := ⟨rfl, rfl⟩
  have B1 : CB g1 b bk G Cp := B.bf C.2.1 bf1 (Nat.le_refl _)
  obtain ⟨g2, a2, C2, F2, I2⟩ := c_tOf (d := d + 0) X C1 B1
  rw [q1, bz_0, if_neg (by decide), ck_ok C1.2.2.2.2.2.1, a2, cK_v, t_234_38 C2.1]
  have bf2 : BFr (gN h) h g2 := (bf1).trans (Fr.bf F2)
  have ct2 : gN g2 = gN g1 + 0 ∧ gS g2 = gS g1 + 0 := ⟨by rw [F2.ct.1]; exact ct1.1, by rw [F2.ct.2]; exact ct1.2⟩
  by_cases q2 : ¬ (fO t (pA t k + 1) (bk 1) (bk 0 0) = 0)
  · have ef : st (ff (pFs t k bk)) (fS t (pQ t k + 10) 59) = fO t (pA t k + 1) (bk 1) (bk 0 0) := by rw [eF1, ff_n q2]; exact if_neg q2
    rw [bz_n q2, if_pos rfl, ef]
    exact ⟨g2, _, rfl, stop_f (pA t k + 1) q2 (bf2.lo hNg) (by omega) (by omega) C2 (by rw [I2, if_neg q2])⟩
  have q2 := Decidable.not_not.mp q2
  have eF2 : ff (pFs t k bk) = ff [fW t (pQ t k) (kw 7), fN t (pQ t k + 1) 1 999, fW t (pQ t k + 2) (kw 8), fN t (pQ t k + 3) (tV t (pQ t k + 1)) 999, fW t (pQ t k + 4) (kw 9), fN t (pQ t k + 5) 0 999, fN t (pQ t k + 6) 0 999, f1 t (pQ t k + 7) 10 4, fW t (pQ t k + 8) (kw 14), fN t (pQ t k + 9) 0 9] := by rw [eF1, q2]; rfl
  rw [q2, if_pos rfl] at I2
  have x2 : gC g2 (gN h) = 11 := by rw [F2.2.1]; exact x1
  have k2 := (fO_0 q2).1
  have hv2 : gL g2 3078 101 = lN (tV t (pA t k + 1)) := C2.2.2.2.2.1.2.2.1 k2
  have B2 : CB g2 b bk G Cp := B.bf C.2.1 bf2 (Nat.le_refl _)
  have ov2 := fO_v q2
  have F2' : Fr [2817] [] g2 (sI g2 2817 (gN h) (nI (ofI bk (tV t (pA t k + 1))))) := Fr.rfl.sI (by decide)
  have C2' := C2.fr F2' (by decide)
  obtain ⟨g3, a3, bn3, n3, s3, ⟨kk3, K3⟩, E3, V3⟩ := c_nums (d := d) (h := sI g2 2817 (gN h) (nI (ofI bk (tV t (pA t k + 1))))) (x := gN h) x2 C2'
  have bf3 : BFr (gN h) h g3 := (bf2.sI (Nat.le_refl _)).trans bn3
  have n3 : gN g3 ≤ gN h + 3 := Nat.le_trans n3 (by have : gN g2 = gN g1 + 0 := ct2.1; show gN g2 ≤ _; omega)
  have s3 : gS g3 ≤ gS h + 87 := Nat.le_trans s3 (by have : gS g2 = gS g1 + 0 := ct2.2; show gS g2 ≤ _; omega)
  rw [q2, bz_0, if_neg (by decide), ck_ok C2.2.2.2.2.2.1, C2.2.2.2.2.2.2, Option.bind_some, ck_ok C2.1.t101.1, ck_ok C2.2.2.2.2.2.1, hv2, c_of C2.1 X B2 ((tV_b (t := t) (k := pA t k + 1)).1 k2), cK_v, t_234_55 C2.1, ck_ok x2, ck_ok C2.2.2.2.2.2.1, ov2.1, a3, cK_v, t_234_63 K3.1]
  have eSd : sdF t (pA t k + 1 + 1) = [fW t (pQ t k) (kw 7), fN t (pQ t k + 1) 1 999, fW t (pQ t k + 2) (kw 8), fN t (pQ t k + 3) (tV t (pQ t k + 1)) 999] := rfl
  rw [eSd] at E3 V3
  have eFs : ff (pFs t k bk) = st (ff [fW t (pQ t k) (kw 7), fN t (pQ t k + 1) 1 999, fW t (pQ t k + 2) (kw 8), fN t (pQ t k + 3) (tV t (pQ t k + 1)) 999]) (ff [fW t (pQ t k + 4) (kw 9), fN t (pQ t k + 5) 0 999, fN t (pQ t k + 6) 0 999, f1 t (pQ t k + 7) 10 4, fW t (pQ t k + 8) (kw 14), fN t (pQ t k + 9) 0 9]) := by rw [eF2]; exact ff_app [fW t (pQ t k) (kw 7), fN t (pQ t k + 1) 1 999, fW t (pQ t k + 2) (kw 8), fN t (pQ t k + 3) (tV t (pQ t k + 1)) 999] _
  by_cases q3 : ¬ (ff [fW t (pQ t k) (kw 7), fN t (pQ t k + 1) 1 999, fW t (pQ t k + 2) (kw 8), fN t (pQ t k + 3) (tV t (pQ t k + 1)) 999] = 0)
  · have ef : st (ff (pFs t k bk)) (fS t (pQ t k + 10) 59) = ff [fW t (pQ t k) (kw 7), fN t (pQ t k + 1) 1 999, fW t (pQ t k + 2) (kw 8), fN t (pQ t k + 3) (tV t (pQ t k + 1)) 999] := by rw [eFs, show ∀ f a c, f ≠ 0 → st (st f a) c = f from fun f a c z => by unfold st; rw [if_neg z, if_neg z]]; exact q3
    rw [eSd, bz_n q3, if_pos rfl, ef]
    exact ⟨g3, _, rfl, stop_f kk3 q3 (bf3.lo hNg) (by omega) (by omega) K3 (E3 q3)⟩
  have q3 := Decidable.not_not.mp q3
  obtain ⟨I3, C3, F3, f19, f20, f18⟩ := V3 q3
  have C3 : CPs g3 b t (pQ t k + 3) := C3
  have eF3 : ff (pFs t k bk) = ff [fW t (pQ t k + 4) (kw 9), fN t (pQ t k + 5) 0 999, fN t (pQ t k + 6) 0 999, f1 t (pQ t k + 7) 10 4, fW t (pQ t k + 8) (kw 14), fN t (pQ t k + 9) 0 9] := by rw [eFs, q3]; rfl
  have ct3 : gN g3 = gN g1 + 0 ∧ gS g3 = gS g1 + 0 := ⟨F3.ct.1.trans ct2.1, F3.ct.2.trans ct2.2⟩
  have x3 : gC g3 (gN h) = 11 := by rw [F3.2.1]; exact x2
  obtain ⟨g4, a4, C4, F4, I4⟩ := c_tWd (d := d + 1) C3 (z := 6) (v := kw 9) (by decide) (by decide +kernel) (wi_z (by decide +kernel)) (by decide +kernel)
  rw [eSd, q3, bz_0, if_neg (by decide), ck_ok C3.2.2.2.2.2.1, a4, cK_v, t_234_72 C4.1]
  have bf4 : BFr (gN h) h g4 := (bf3).trans (Fr.bf F4)
  have ct4 : gN g4 = gN g1 + 0 ∧ gS g4 = gS g1 + 0 := ⟨by rw [F4.ct.1]; exact ct3.1, by rw [F4.ct.2]; exact ct3.2⟩
  by_cases q4 : ¬ (fW t (pQ t k + 4) (kw 9) = 0)
  · have ef : st (ff (pFs t k bk)) (fS t (pQ t k + 10) 59) = fW t (pQ t k + 4) (kw 9) := by rw [eF3, ff_n q4]; exact if_neg q4
    rw [bz_n q4, if_pos rfl, ef]
    exact ⟨g4, _, rfl, stop_f (pQ t k + 4) q4 (bf4.lo hNg) (by omega) (by omega) C4 (by rw [I4, if_neg q4])⟩
  have q4 := Decidable.not_not.mp q4
  have eF4 : ff (pFs t k bk) = ff [fN t (pQ t k + 5) 0 999, fN t (pQ t k + 6) 0 999, f1 t (pQ t k + 7) 10 4, fW t (pQ t k + 8) (kw 14), fN t (pQ t k + 9) 0 9] := by rw [eF3, q4]; rfl
  rw [q4, if_pos rfl] at I4
  have x4 : gC g4 (gN h) = 11 := by rw [F4.2.1]; exact x3
  obtain ⟨g5, a5, C5, F5, I5⟩ := c_tNu (d := d + 1) C4 (lo := 0) (hi := 999) (by decide) (by decide)
  rw [q4, bz_0, if_neg (by decide), ck_ok C4.2.2.2.2.2.1, a5, cK_v, t_234_83 C5.1]
  have bf5 : BFr (gN h) h g5 := (bf4).trans (Fr.bf F5)
  have ct5 : gN g5 = gN g1 + 0 ∧ gS g5 = gS g1 + 0 := ⟨by rw [F5.ct.1]; exact ct4.1, by rw [F5.ct.2]; exact ct4.2⟩
  by_cases q5 : ¬ (fN t (pQ t k + 5) 0 999 = 0)
  · have ef : st (ff (pFs t k bk)) (fS t (pQ t k + 10) 59) = fN t (pQ t k + 5) 0 999 := by rw [eF4, ff_n q5]; exact if_neg q5
    rw [bz_n q5, if_pos rfl, ef]
    exact ⟨g5, _, rfl, stop_f (pQ t k + 5) q5 (bf5.lo hNg) (by omega) (by omega) C5 (by rw [I5, if_neg q5])⟩
  have q5 := Decidable.not_not.mp q5
  have eF5 : ff (pFs t k bk) = ff [fN t (pQ t k + 6) 0 999, f1 t (pQ t k + 7) 10 4, fW t (pQ t k + 8) (kw 14), fN t (pQ t k + 9) 0 9] := by rw [eF4, q5]; rfl
  rw [q5, if_pos rfl] at I5
  have x5 : gC g5 (gN h) = 11 := by rw [F5.2.1]; exact x4
  have k5 := (fN_0 q5).1
  have hv5 : gI g5 3077 101 = nI (tV t (pQ t k + 5)) := C5.2.2.2.2.1.2.1 k5
  have F5' : Fr [2821] [] g5 (sI g5 2821 (gN h) (nI (tV t (pQ t k + 5)))) := Fr.rfl.sI (by decide)
  have C5' := C5.fr F5' (by decide)
  obtain ⟨g6, a6, C6, F6, I6⟩ := c_tNu (d := d + 1) C5' (lo := 0) (hi := 999) (by decide) (by decide)
  rw [q5, bz_0, if_neg (by decide), ck_ok C5.2.2.2.2.2.1, C5.2.2.2.2.2.2, Option.bind_some, ck_ok C5.1.t101.1, ck_ok x5, ck_ok C5.2.2.2.2.2.1, hv5, a6, cK_v, t_234_107 C6.1]
  have bf6 : BFr (gN h) h g6 := (bf5.sI (Nat.le_refl _)).trans (Fr.bf F6)
  have ct6 : gN g6 = gN g1 + 0 ∧ gS g6 = gS g1 + 0 := ⟨by rw [F6.ct.1]; exact ct5.1, by rw [F6.ct.2]; exact ct5.2⟩
  by_cases q6 : ¬ (fN t (pQ t k + 6) 0 999 = 0)
  · have ef : st (ff (pFs t k bk)) (fS t (pQ t k + 10) 59) = fN t (pQ t k + 6) 0 999 := by rw [eF5, ff_n q6]; exact if_neg q6
    rw [bz_n q6, if_pos rfl, ef]
    exact ⟨g6, _, rfl, stop_f (pQ t k + 6) q6 (bf6.lo hNg) (by omega) (by omega) C6 (by rw [I6, if_neg q6])⟩
  have q6 := Decidable.not_not.mp q6
  have eF6 : ff (pFs t k bk) = ff [f1 t (pQ t k + 7) 10 4, fW t (pQ t k + 8) (kw 14), fN t (pQ t k + 9) 0 9] := by rw [eF5, q6]; rfl
  rw [q6, if_pos rfl] at I6
  have x6 : gC g6 (gN h) = 11 := by rw [F6.2.1]; exact x5
  have k6 := (fN_0 q6).1
  have hv6 : gI g6 3077 101 = nI (tV t (pQ t k + 6)) := C6.2.2.2.2.1.2.1 k6
  have F6' : Fr [2822] [] g6 (sI g6 2822 (gN h) (nI (tV t (pQ t k + 6)))) := Fr.rfl.sI (by decide)
  have C6' := C6.fr F6' (by decide)
  obtain ⟨g7, a7, C7, F7, I7⟩ := C6'.nx (d := d + 2)
  have I7 : gI g7 519 b = gI (sI g6 2822 (gN h) (nI (tV t (pQ t k + 6)))) 519 b := by rw [I7]
  have x7 : gC g7 (gN h) = 11 := by rw [F7.2.1]; exact x6
  have wi7 := c_wI (d := d + 4) C7 (z := 7) (l := [kw 10, kw 11, kw 12, kw 13]) (by decide) (by decide +kernel) (wi_z (by decide +kernel)) (by decide +kernel)
  rw [wI_ow] at wi7
  rw [q6, bz_0, if_neg (by decide), ck_ok C6.2.2.2.2.2.1, C6.2.2.2.2.2.2, Option.bind_some, ck_ok C6.1.t101.1, ck_ok x6, ck_ok C6.2.2.2.2.2.1, Option.bind_some, ck_ok C6.1.t101.1, hv6, a7, cK_n, t_234_130 C7.1, ck_ok C7.2.2.2.2.2.1, C7.2.2.2.2.2.2, Option.bind_some, ck_ok C7.1.t101.1, wi7, cK_v, t_234_140 C7.1, ck_ok x7, ck_ok x7, gI_s]
  have bf7 : BFr (gN h) h g7 := (bf6.sI (Nat.le_refl _)).trans (Fr.bf F7)
  have ct7 : gN g7 = gN g1 + 0 ∧ gS g7 = gS g1 + 0 := ⟨by rw [F7.ct.1]; exact ct6.1, by rw [F7.ct.2]; exact ct6.2⟩
  by_cases q7 : ¬ (f1 t (pQ t k + 7) 10 4 = 0)
  · have eo : ow t (pQ t k + 7) 10 4 0 = none := by
      unfold f1 at q7
      by_cases z : ow t (pQ t k + 7) 10 4 0 = none
      · exact z
      · rw [if_neg z] at q7; exact absurd rfl q7
    have e1 : f1 t (pQ t k + 7) 10 4 = fX t 1 (pQ t k + 7) := by unfold f1; rw [if_pos eo]
    have nz : fX t 1 (pQ t k + 7) ≠ 0 := fX_n (by decide)
    have ef : st (ff (pFs t k bk)) (fS t (pQ t k + 10) 59) = fX t 1 (pQ t k + 7) := by rw [eF6, e1, ff_n nz]; exact if_neg nz
    have C7x : CPs (sI g7 2823 (gN h) (oI none)) b t (pQ t k + 7) := C7.fr (Fr.rfl.sI (List.mem_singleton.mpr rfl) : Fr [2823] [] g7 (sI g7 2823 (gN h) (oI none))) (by decide)
    obtain ⟨g8, d1, d2, d3, d4⟩ := c_fail (d := d + 8) C7x (c := 1) (by decide)
    have e1' : ow t (pQ t k + 6 + 1) 10 4 0 = none := eo
    rw [e1', if_pos (show oI none = -1 from rfl), ck_ok C7.2.2.2.2.2.1, d1, cK_v, t_234_156 d2.1, if_pos (by decide), ef]
    exact ⟨g8, _, rfl, stop_f (pQ t k + 7) nz (((bf7.sI (Nat.le_refl _)).trans (Fr.bf d3)).lo hNg) (by rw [d3.ct.1]; show gN g7 ≤ _; omega) (by rw [d3.ct.2]; show gS g7 ≤ _; omega) d2 d4⟩
  have q7 := Decidable.not_not.mp q7
  have ov7 := f1_v q7
  have eF7 : ff (pFs t k bk) = ff [fW t (pQ t k + 8) (kw 14), fN t (pQ t k + 9) 0 9] := by rw [eF6, q7]; rfl
  have n1' : ¬ nI (owI t (pQ t k + 7) 10 4) = -1 := fun z => by
    have : nI (owI t (pQ t k + 7) 10 4) < nI 0 := by rw [z]; decide
    exact nI_nlt (by omega) (by omega) this
  have F7' : Fr [2823] [] g7 (sI g7 2823 (gN h) (nI (owI t (pQ t k + 7) 10 4))) := Fr.rfl.sI (by decide)
  have C7' := C7.fr F7' (by decide)
  obtain ⟨g8, a8, C8, F8, I8⟩ := c_tWd (d := d + 1) C7' (z := 8) (v := kw 14) (by decide) (by decide +kernel) (wi_z (by decide +kernel)) (by decide +kernel)
  rw [show oI (ow t (pQ t k + 6 + 1) 10 4 0) = nI (owI t (pQ t k + 7) 10 4) from ov7.1, if_neg n1', ck_ok C7.2.2.2.2.2.1, a8, cK_v, t_234_163 C8.1]
  have bf8 : BFr (gN h) h g8 := (bf7.sI (Nat.le_refl _)).trans (Fr.bf F8)
  have ct8 : gN g8 = gN g1 + 0 ∧ gS g8 = gS g1 + 0 := ⟨by rw [F8.ct.1]; exact ct7.1, by rw [F8.ct.2]; exact ct7.2⟩
  by_cases q8 : ¬ (fW t (pQ t k + 8) (kw 14) = 0)
  · have ef : st (ff (pFs t k bk)) (fS t (pQ t k + 10) 59) = fW t (pQ t k + 8) (kw 14) := by rw [eF7, ff_n q8]; exact if_neg q8
    rw [bz_n q8, if_pos rfl, ef]
    exact ⟨g8, _, rfl, stop_f (pQ t k + 8) q8 (bf8.lo hNg) (by omega) (by omega) C8 (by rw [I8, if_neg q8])⟩
  have q8 := Decidable.not_not.mp q8
  have eF8 : ff (pFs t k bk) = ff [fN t (pQ t k + 9) 0 9] := by rw [eF7, q8]; rfl
  rw [q8, if_pos rfl] at I8
  have x8 : gC g8 (gN h) = 11 := by rw [F8.2.1]; exact x7
  obtain ⟨g9, a9, C9, F9, I9⟩ := c_tNu (d := d + 1) C8 (lo := 0) (hi := 9) (by decide) (by decide)
  rw [q8, bz_0, if_neg (by decide), ck_ok C8.2.2.2.2.2.1, a9, cK_v, t_234_173 C9.1]
  have bf9 : BFr (gN h) h g9 := (bf8).trans (Fr.bf F9)
  have ct9 : gN g9 = gN g1 + 0 ∧ gS g9 = gS g1 + 0 := ⟨by rw [F9.ct.1]; exact ct8.1, by rw [F9.ct.2]; exact ct8.2⟩
  by_cases q9 : ¬ (fN t (pQ t k + 9) 0 9 = 0)
  · have ef : st (ff (pFs t k bk)) (fS t (pQ t k + 10) 59) = fN t (pQ t k + 9) 0 9 := by rw [eF8, ff_n q9]; exact if_neg q9
    rw [bz_n q9, if_pos rfl, ef]
    exact ⟨g9, _, rfl, stop_f (pQ t k + 9) q9 (bf9.lo hNg) (by omega) (by omega) C9 (by rw [I9, if_neg q9])⟩
  have q9 := Decidable.not_not.mp q9
  have eF9 : ff (pFs t k bk) = ff [] := by rw [eF8, q9]; rfl
  rw [q9, if_pos rfl] at I9
  have x9 : gC g9 (gN h) = 11 := by rw [F9.2.1]; exact x8
  have k9 := (fN_0 q9).1
  have hv9 : gI g9 3077 101 = nI (tV t (pQ t k + 9)) := C9.2.2.2.2.1.2.1 k9
  have F9' : Fr [2824] [] g9 (sI g9 2824 (gN h) (nI (tV t (pQ t k + 9)))) := Fr.rfl.sI (by decide)
  have C9' := C9.fr F9' (by decide)
  obtain ⟨h9, h9E⟩ : ∃ h9, h9 = (sI g9 2824 (gN h) (nI (tV t (pQ t k + 9)))) := ⟨_, rfl⟩
  rw [← h9E] at C9'
  have bf9' : BFr (gN h) h h9 := by rw [h9E]; exact bf9.sI (Nat.le_refl _)
  have B9 : CB h9 b bk G Cp := B.bf C.2.1 bf9' (Nat.le_refl _)
  have L9 : CLb h9 N0 bk G Cp := L.bf C.2.1 bf9' (Nat.le_refl _)
  have ct9' : gN h9 = gN g1 ∧ gS h9 = gS g1 := by rw [h9E]; exact ct9
  have c9 : gC h9 = gC g1 := by rw [h9E]; show gC g9 = _; rw [F9.2.1, F8.2.1]; show gC g7 = _; rw [F7.2.1]; show gC g6 = _; rw [F6.2.1]; show gC g5 = _; rw [F5.2.1, F4.2.1, F3.2.1]; show gC g2 = _; rw [F2.2.1]
  have kk9 : gK h9 = gK g1 := by rw [h9E]; show gK g9 = _; rw [F9.2.2.1, F8.2.2.1]; show gK g7 = _; rw [F7.2.2.1]; show gK g6 = _; rw [F6.2.2.1]; show gK g5 = _; rw [F5.2.2.1, F4.2.2.1, F3.2.2.1]; show gK g2 = _; rw [F2.2.2.1]
  have r9 : gR h9 = gR g1 := by rw [h9E]; show gR g9 = _; rw [F9.2.2.2.1, F8.2.2.2.1]; show gR g7 = _; rw [F7.2.2.2.1]; show gR g6 = _; rw [F6.2.2.2.1]; show gR g5 = _; rw [F5.2.2.2.1, F4.2.2.2.1, F3.2.2.2.1]; show gR g2 = _; rw [F2.2.2.2.1]
  have ga9 : gA h9 = gA g1 := by rw [h9E]; show gA g9 = _; rw [F9.gA', F8.gA']; show gA g7 = _; rw [F7.gA']; show gA g6 = _; rw [F6.gA']; show gA g5 = _; rw [F5.gA', F4.gA', F3.gA']; show gA g2 = _; rw [F2.gA']
  have j17 : gI h9 2817 (gN h) = nI (ofI bk (tV t (pA t k + 1))) := by rw [h9E, gI_k (by decide), F9.I (by decide), F8.I (by decide), gI_k (by decide), F7.I (by decide), gI_k (by decide), F6.I (by decide), gI_k (by decide), F5.I (by decide), F4.I (by decide), F3.I (by decide), gI_s]
  have j21 : gI h9 2821 (gN h) = nI (tV t (pQ t k + 5)) := by rw [h9E, gI_k (by decide), F9.I (by decide), F8.I (by decide), gI_k (by decide), F7.I (by decide), gI_k (by decide), F6.I (by decide), gI_s]
  have j22 : gI h9 2822 (gN h) = nI (tV t (pQ t k + 6)) := by rw [h9E, gI_k (by decide), F9.I (by decide), F8.I (by decide), gI_k (by decide), F7.I (by decide), gI_s]
  have j23 : gI h9 2823 (gN h) = nI (owI t (pQ t k + 7) 10 4) := by rw [h9E, gI_k (by decide), F9.I (by decide), F8.I (by decide), gI_s]
  have j24 : gI h9 2824 (gN h) = nI (tV t (pQ t k + 9)) := by rw [h9E, gI_s]
  have j18 : gI h9 2818 (gN h) = nI (sdN t (pA t k + 2)) := by rw [h9E, gI_k (by decide), F9.I (by decide), F8.I (by decide), gI_k (by decide), F7.I (by decide), gI_k (by decide), F6.I (by decide), gI_k (by decide), F5.I (by decide), F4.I (by decide)]; exact f18
  have j19 : gI h9 2819 (gN h) = nI (tV t (pQ t k + 1)) := by rw [h9E, gI_k (by decide), F9.I (by decide), F8.I (by decide), gI_k (by decide), F7.I (by decide), gI_k (by decide), F6.I (by decide), gI_k (by decide), F5.I (by decide), F4.I (by decide)]; exact f19
  have j20 : gI h9 2820 (gN h) = nI (tV t (pQ t k + 3)) := by rw [h9E, gI_k (by decide), F9.I (by decide), F8.I (by decide), gI_k (by decide), F7.I (by decide), gI_k (by decide), F6.I (by decide), gI_k (by decide), F5.I (by decide), F4.I (by decide)]; exact f20
  have i19 : gI h9 519 b = gI h 519 b := by rw [h9E, gI_k (by decide), I9, I8, gI_k (by decide), I7, gI_k (by decide), I6, gI_k (by decide), I5, I4, I3, gI_k (by decide), I2, I1]; exact (NFr.rfl.nw : NFr (gN h) h (nwO h 11 9)).2.2.1 519 b hbl (by omega)
  have AN9 : AN h9 y (nmT t k (nmC t (k + 1))) := by
    obtain ⟨z1, z2, z3, z4⟩ := ANy
    exact ⟨by rw [c9]; exact z1, by rw [kk9]; exact z2, z3, fun j hj => by rw [ga9]; exact z4 j hj⟩
  have oldr := L.old hs
  obtain ⟨p1, A9⟩ := B9.2.2.1 1 (by decide)
  obtain ⟨h10, e', cap', s1', C10, Bx, bx10, s2, s3', s4, u1, u2, u3, u4, u5⟩ := c_addB (d := d + 2) (j0 := 1) (x := gN h) (by decide) C9' B9 L9 (by omega) (by rw [c9, x1]; decide) (by omega)
  have cl8 : gC g9 (G 7 1) = 1 := by have := A9.1; rw [h9E] at this; exact this
  have p1' : gR g9 513 b = some (G 7 1) := by rw [h9E] at p1; exact p1
  obtain ⟨h11, a11, C11, F11, I11⟩ := c_tEn (d := d + 1) C10
  rw [q9, bz_0, if_neg (by decide), ck_ok C9.2.2.2.2.2.1, C9.2.2.2.2.2.2, Option.bind_some, ck_ok C9.1.t101.1, ck_ok x9, ck_ok C9.2.2.2.2.2.1, p1', Option.bind_some, ck_ok cl8, hv9, ← h9E, s1', cK_v, t_234_197 C10.1, ck_ok C10.2.2.2.2.2.1, a11, cK_v, t_234_202 C11.1, bz_ret]
  have stE : st (ff (pFs t k bk)) (fS t (pQ t k + 10) 59) = fS t (pQ t k + 10) 59 := by rw [eF9]; rfl
  rw [stE]
  have bf10 : BFr N0 h h10 := (bf9'.lo hNg).trans bx10
  refine ⟨h11, _, rfl, bf10.trans (Fr.bf F11), by rw [F11.ct.1]; omega, by rw [F11.ct.2]; omega, ⟨pQ t k + 10, C11⟩, fun z => by rw [I11, if_neg z], fun z => ⟨?_, ?_⟩⟩
  · rw [I11, if_pos z, u5]; exact i19
  · obtain ⟨G', G'E⟩ : ∃ G', G' = up2 (up2 (up2 G 1 (bk 0 1) (gN h)) 15 (bk 0 1) y) 8 1 e' := ⟨_, rfl⟩
    obtain ⟨Cp', Cp'E⟩ : ∃ Cp', Cp' = up2 Cp 8 1 cap' := ⟨_, rfl⟩
    have gk : ∀ j, j ≠ 1 → j ≠ 15 → j ≠ 8 → G' j = G j := fun j m0 m1 m3 => by rw [G'E, up2_k m3, up2_k m1, up2_k m0]
    have g0 : G' 1 = up1 (G 1) (bk 0 1) (gN h) := by rw [G'E, up2_k (by decide), up2_k (by decide)]; unfold up2; rw [if_pos rfl]
    have g15 : ∀ i, G' 15 i = if i = bk 0 1 then y else G 15 i := fun i => by rw [G'E]; simp [up2, up1]
    have g8 : ∀ i, G' 8 i = if i = 1 then e' else G 8 i := fun i => by rw [G'E]; simp [up2, up1]
    have p8 : ∀ i, Cp' 8 i = if i = 1 then cap' else Cp 8 i := fun i => by rw [Cp'E]; simp [up2, up1]
    have p9 : Cp' 9 = Cp 9 := by rw [Cp'E, up2_k (by decide)]
    have nf : fW t (pA t k) (kw 4) = 0 ∧ nmC t (k + 1) ≠ 0 := by
      have e0 : ff [if nmC t (k + 1) = 0 then fX t 1 (k + 1) else 0, fW t (pA t k) (kw 4)] = 0 := by rw [← eA, ← e1']; exact q1
      refine ⟨ff_z e0 _ (by simp), fun w => ?_⟩
      have := ff_z e0 _ (List.mem_cons_self)
      rw [if_pos w] at this; exact fX_n (by decide) this
    have nb3 : nmC t (k + 1) ≤ 3 := (nmR_b (t := t) (k := k + 1) 3 0).2.1
    have k0 : pBk t k bk 0 1 = bk 0 1 + 1 := up2_s
    have kx : ∀ j, j ≠ 1 → pBk t k bk 0 j = bk 0 j := fun j hj => by
      unfold pBk; rw [up2_x hj, up2_k (by decide), up2_k (by decide), up2_k (by decide), up2_k (by decide), up2_k (by decide), up2_k (by decide), up2_k (by decide), up2_k (by decide), up2_k (by decide), p7_k (by decide)]
    have kk : ∀ j, j ≠ 0 → j < 7 ∨ 16 < j → pBk t k bk j = bk j := fun j m0 m1 => by
      unfold pBk; rw [up2_k m0, up2_k (by omega), up2_k (by omega), up2_k (by omega), up2_k (by omega), up2_k (by omega), up2_k (by omega), up2_k (by omega), up2_k (by omega), up2_k (by omega), p7_k (by omega)]
    have k7 : ∀ i, pBk t k bk 7 i = if 3 * bk 0 1 ≤ i ∧ i < 3 * bk 0 1 + 3 then tV t (k + 1 + (i - 3 * bk 0 1)) else bk 7 i := fun i => by
      unfold pBk
      rw [up2_k (by decide), up2_k (by decide), up2_k (by decide), up2_k (by decide), up2_k (by decide), up2_k (by decide), up2_k (by decide), up2_k (by decide), up2_k (by decide), up2_k (by decide)]
      unfold p7
      by_cases z : 3 * bk 0 1 ≤ i ∧ i < 3 * bk 0 1 + 3
      · rw [if_pos ⟨rfl, z⟩, if_pos z]
      · rw [if_neg fun y => z y.2, if_neg z]
    have kn8 : ∀ i, pBk t k bk 8 i = if i = bk 0 1 then nmC t (k + 1) else bk 8 i := fun i => by unfold pBk; simp [up2, up1, p7_k]
    have kn9 : ∀ i, pBk t k bk 9 i = if i = bk 0 1 then ofI bk (tV t (pA t k + 1)) else bk 9 i := fun i => by unfold pBk; simp [up2, up1, p7_k]
    have kn10 : ∀ i, pBk t k bk 10 i = if i = bk 0 1 then sdN t (pA t k + 2) else bk 10 i := fun i => by unfold pBk; simp [up2, up1, p7_k]
    have kn11 : ∀ i, pBk t k bk 11 i = if i = bk 0 1 then tV t (pQ t k + 1) else bk 11 i := fun i => by unfold pBk; simp [up2, up1, p7_k]
    have kn12 : ∀ i, pBk t k bk 12 i = if i = bk 0 1 then tV t (pQ t k + 3) else bk 12 i := fun i => by unfold pBk; simp [up2, up1, p7_k]
    have kn13 : ∀ i, pBk t k bk 13 i = if i = bk 0 1 then tV t (pQ t k + 5) else bk 13 i := fun i => by unfold pBk; simp [up2, up1, p7_k]
    have kn14 : ∀ i, pBk t k bk 14 i = if i = bk 0 1 then tV t (pQ t k + 6) else bk 14 i := fun i => by unfold pBk; simp [up2, up1, p7_k]
    have kn15 : ∀ i, pBk t k bk 15 i = if i = bk 0 1 then owI t (pQ t k + 7) 10 4 else bk 15 i := fun i => by unfold pBk; simp [up2, up1, p7_k]
    have kn16 : ∀ i, pBk t k bk 16 i = if i = bk 0 1 then tV t (pQ t k + 9) else bk 16 i := fun i => by unfold pBk; simp [up2, up1, p7_k]
    have nK : ∀ kk xx, kk ≠ 256 → kk ≠ 258 → ¬ lI (G 7 1) kk xx := fun kk xx y1 y2 z => z.2.elim y1 y2
    have nR : ∀ kk xx, kk ≠ 257 → ¬ lR (G 7 1) kk xx := fun kk xx y z => y z.2
    have B10 : CB h10 b (pBk t k bk) G' Cp' := by
      obtain ⟨v1, v2, v3, v4, v5', v6, v7, v8⟩ := Bx
      refine ⟨v1, v2, fun j hj => ?_, ?_, fun i hi => ?_, fun i hi => ?_, fun s hS => ?_, fun c hc => ?_⟩
      · rw [gk 7 (by decide) (by decide) (by decide)]
        refine ⟨(v3 j hj).1, ?_⟩
        by_cases ej : j = 1
        · subst ej
          rw [g8, if_pos rfl, p8, if_pos rfl, k0, g0]; exact s2
        · rw [g8, if_neg ej, p8, if_neg ej, kx j ej, gk j ej (by omega) (by omega)]; exact (v3 j hj).2 ej
      · rw [gk 16 (by decide) (by decide) (by decide), kx 4 (by decide), kk 5 (by decide) (by decide), kk 6 (by decide) (by decide)]; exact v4
      · rw [kx 0 (by decide)] at hi
        rw [gk 0 (by decide) (by decide) (by decide), gk 5 (by decide) (by decide) (by decide), gk 14 (by decide) (by decide) (by decide), kk 1 (by decide) (by decide), kk 2 (by decide) (by decide), kk 3 (by decide) (by decide), kk 4 (by decide) (by decide)]; exact v5' i hi
      · rw [k0] at hi
        rw [g0, g15, kn8, kn9, kn10, kn11, kn12, kn13, kn14, kn15, kn16]
        by_cases ei : i = bk 0 1
        · rw [ei, up1_s]
          simp only [if_true]
          have gi : ∀ kk v, kk ≠ 256 → kk ≠ 258 → gI h9 kk (gN h) = v → gI h10 kk (gN h) = v := fun kk v y1 y2 y3 => by rw [s4.2.2.1 kk _ (by omega) (nK _ _ y1 y2)]; exact y3
          refine ⟨by rw [(s4.2.1 _ (by omega)).1, c9]; exact x1, gi 2817 _ (by decide) (by decide) j17, gi 2818 _ (by decide) (by decide) j18, gi 2819 _ (by decide) (by decide) j19, gi 2820 _ (by decide) (by decide) j20, gi 2821 _ (by decide) (by decide) j21, gi 2822 _ (by decide) (by decide) j22, gi 2823 _ (by decide) (by decide) j23, gi 2824 _ (by decide) (by decide) j24, by rw [s4.2.2.2.2.1 2816 _ (by omega) (nR _ _ (by decide)), r9]; exact ry, ?_⟩
          have e7 : ∀ j, j < 3 → pBk t k bk 7 (3 * bk 0 1 + j) = tV t (k + 1 + j) := fun j hj => by rw [k7, if_pos (by omega), Nat.add_sub_cancel_left]
          have e70 : pBk t k bk 7 (3 * bk 0 1) = tV t (k + 1) := e7 0 (by decide)
          rw [e70, e7 1 (by decide), e7 2 (by decide)]
          have nT : nmT t k (nmC t (k + 1)) = ncod 12 (tV t (k + 1)) ++ (if 1 < nmC t (k + 1) then 0 :: ncod 12 (tV t (k + 1 + 1)) else []) ++ (if 2 < nmC t (k + 1) then 0 :: ncod 12 (tV t (k + 1 + 2)) else []) := by
            rcases (by omega : nmC t (k + 1) = 1 ∨ nmC t (k + 1) = 2 ∨ nmC t (k + 1) = 3) with w | w | w
            · rw [w, if_neg (by decide), if_neg (by decide), List.append_nil, List.append_nil]; rfl
            · rw [w, if_pos (by decide), if_neg (by decide), List.append_nil]; rfl
            · rw [w, if_pos (by decide), if_pos (by decide)]; rfl
          rw [← nT]
          obtain ⟨z1, z2, z3, z4⟩ := AN9
          exact ⟨by rw [(s4.2.1 _ (by omega)).1]; exact z1, by rw [(s4.2.1 _ (by omega)).2]; exact z2, z3, fun j hj => by rw [(s4.2.2.2.2.2.1 _ (by omega) (fun z => z)).1]; exact z4 j hj⟩
        · rw [up1_x ei]
          simp only [if_neg ei]
          have w3 := (X.1.2.2.2.1 i (by omega)).1
          have e7 : ∀ j, j < 3 → pBk t k bk 7 (3 * i + j) = bk 7 (3 * i + j) := fun j hj => by rw [k7, if_neg (by omega)]
          have e70 : pBk t k bk 7 (3 * i) = bk 7 (3 * i) := e7 0 (by decide)
          rw [e70, e7 1 (by decide), e7 2 (by decide)]
          exact v6 i (by omega)
      · rw [kx 2 (by decide)] at hS
        rw [gk 2 (by decide) (by decide) (by decide), gk 10 (by decide) (by decide) (by decide), gk 11 (by decide) (by decide) (by decide), gk 12 (by decide) (by decide) (by decide), gk 13 (by decide) (by decide) (by decide), kk 17 (by decide) (by decide), kk 18 (by decide) (by decide), kk 19 (by decide) (by decide), kk 20 (by decide) (by decide), kk 21 (by decide) (by decide), kk 22 (by decide) (by decide), kk 23 (by decide) (by decide), kk 24 (by decide) (by decide)]
        obtain ⟨y1, y2, y3, y4, y5, y6, y7⟩ := v7 s hS
        refine ⟨y1, y2, y3, y4, y5, fun j hj => ?_, y7⟩
        rw [gk (10 + j) (by omega) (by omega) (by omega)]; exact y6 j hj
      · rw [kx 3 (by decide)] at hc
        rw [gk 3 (by decide) (by decide) (by decide), gk 6 (by decide) (by decide) (by decide), kk 25 (by decide) (by decide), kk 26 (by decide) (by decide), kk 27 (by decide) (by decide), kk 28 (by decide) (by decide), kk 29 (by decide) (by decide), kk 30 (by decide) (by decide), kk 31 (by decide) (by decide)]; exact v8 c hc
    have lvE : ∀ r, lV (pBk t k bk) r → lV bk r := fun r hr => by unfold lV at hr ⊢; rw [kx 0 (by decide), kx 3 (by decide)] at hr; exact hr
    have loE : lo G' = lo G := by
      funext r; unfold lo; rw [gk 7 (by decide) (by decide) (by decide), gk 6 (by decide) (by decide) (by decide), gk 5 (by decide) (by decide) (by decide)]
    have g9 : G' 9 = G 9 := gk 9 (by decide) (by decide) (by decide)
    have L10 : CLb h10 N0 (pBk t k bk) G' Cp' := by
      refine CLb.add (j0 := 1) (rn := 0) (l := 0) (N1 := gN h) (e' := e') (cap' := cap') (by decide) L9 C9'.2.1 hNg (by omega) oldr s4 s3' u4 (by rw [k0]; exact u1) (fun j hj hj0 => kx j hj0) (fun r hr => Or.inl (lvE r hr)) (fun r h2 hr => by rw [loE]) (fun r h2 hr hne => ?_) ⟨?_, ?_⟩ (fun j hj hj0 => by rw [p8, if_neg hj0]) (by rw [p8, if_pos rfl]) (fun w _ => absurd w (by decide))
      · refine ⟨?_, ?_, fun _ => ⟨by rw [g9], by rw [p9]⟩⟩
        · unfold la
          by_cases z : 2 ≤ r ∧ r < 6
          · rw [if_pos z, if_pos z, g8, if_neg (by omega)]
          · rw [if_neg z, if_neg z, g9]
        · unfold lc
          by_cases z : 2 ≤ r ∧ r < 6
          · rw [if_pos z, if_pos z, p8, if_neg (by omega)]
          · rw [if_neg z, if_neg z, p9]
      · show G' 8 1 = e'; rw [g8, if_pos rfl]
      · show Cp' 8 1 = cap'; rw [p8, if_pos rfl]
    have gn11 := F11.ct.1
    exact ⟨G', Cp', C11, B10.bf C10.2.1 (Fr.bf (N := gN h10) F11) (Nat.le_refl _), L10.bf C10.2.1 (Fr.bf (N := gN h10) F11) (Nat.le_refl _), hNb, hN, by have := s4.1.1; omega, by rw [gk 16 (by decide) (by decide) (by decide)]; exact hSh⟩
end CSV
