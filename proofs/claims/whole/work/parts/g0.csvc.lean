/-! ===== THE BOOK: a service as a whole (component) ===== -/
section CSW
variable {d : Nat} {h : AH} {N0 b : Nat} {t : Tp} {k : Nat} {bk : Bk} {G Cp : Nat → Nat → Nat}
theorem wI_o3 {q : Nat} : wI t q [kw 16, kw 17, kw 18] = ow t q 16 3 0 := by
  rw [wI_c, wI_c, wI_c, wI_n, ow, ow, ow, ow]
  by_cases a : isW t q (kw 16)
  · rw [if_pos a, if_pos a]
  · rw [if_neg a, if_neg a]
    by_cases a2 : isW t q (kw 17)
    · rw [if_pos a2, if_pos a2]; rfl
    · rw [if_neg a2, if_neg a2]
      by_cases a3 : isW t q (kw 18)
      · rw [if_pos a3, if_pos a3]; rfl
      · rw [if_neg a3, if_neg a3]; rfl
set_option maxHeartbeats 4000000 in
theorem c_service (X : WX bk) (R : CRd h N0 b t k bk G Cp) : ∃ h' r, E (d + 11) 235 [.ref b] h = some (some (.int r), h') ∧ SRd h h' N0 b t (st (ff (vFs t k bk)) (fS t (ruP t (k + 5) (rlF t (k + 5) 9 0).2) 59)) (ruP t (k + 5) (rlF t (k + 5) 9 0).2) (vBk t k bk) := by
  obtain ⟨C, B, L, hNb, hN, hNg, hSh⟩ := R
  have hs := C.1
  have hg := hs.2
  have c0 := X.1.1.1
  have c2' := X.1.1.2.2.1
  obtain ⟨b1', b2', b3', b4', b5', b6', b7', b8'⟩ := id B
  obtain ⟨e1, A⟩ := b3' 2 (by decide)
  have cb := C.2.2.2.2.2.1
  rw [t_235 hs, ck_ok cb, e1, Option.bind_some, ck_ok A.1, al_size hs A, cK_v, t_235_7 hs, ifl (by omega) (by decide)]
  by_cases q : ¬ (bk 0 2 < 8)
  · have q16 : bk 0 2 = 8 := by omega
    obtain ⟨h1, a1, a2, a3, a4⟩ := c_fail (d := d + 9) C (c := 5) (by decide)
    have nz : fX t 5 k ≠ 0 := fX_n (by decide)
    have ef : st (ff (vFs t k bk)) (fS t (ruP t (k + 5) (rlF t (k + 5) 9 0).2) 59) = fX t 5 k := by unfold vFs; rw [if_pos q16, ff_n nz]; exact if_neg nz
    rw [if_neg q, ck_ok cb, a1, cK_v, t_235_17 a2.1, if_pos (by decide), ef]
    exact ⟨h1, _, rfl, stop_f k nz (Fr.bf a3) (by rw [a3.ct.1]; omega) (by rw [a3.ct.2]; omega) a2 a4⟩
  have q := Decidable.not_not.mp q
  have e16 : (if bk 0 2 = 8 then fX t 5 k else 0) = 0 := if_neg (by omega)
  have eF : ff (vFs t k bk) = ff [fM t (k + 1) (bk 17) (bk 0 2), f1 t (k + 2) 16 3, fW t (k + 3) (kw 19), fN t (k + 4) 1 4000, (rlF t (k + 5) 9 0).1] := by unfold vFs; rw [e16]; rfl
  have hbl := C.2.1.lt cb (by decide)
  have hs1 : Sh (nwO h 10 8) := hs.nw
  obtain ⟨m1, m1E⟩ : ∃ m1, m1 = nwA (nwO h 10 8) 60 8 := ⟨_, rfl⟩
  obtain ⟨m2, m2E⟩ : ∃ m2, m2 = nwA (sR m1 2564 (gN h) (some (gN h + 1))) 60 8 := ⟨_, rfl⟩
  obtain ⟨m3, m3E⟩ : ∃ m3, m3 = nwA (sR m2 2565 (gN h) (some (gN h + 2))) 60 8 := ⟨_, rfl⟩
  obtain ⟨m4, m4E⟩ : ∃ m4, m4 = nwA (sR m3 2566 (gN h) (some (gN h + 3))) 60 8 := ⟨_, rfl⟩
  obtain ⟨h2, h2E⟩ : ∃ h2, h2 = sR m4 2567 (gN h) (some (gN h + 4)) := ⟨_, rfl⟩
  have ns : inS (gN h) = false := inS_ge hg
  have g1N : gN m1 = gN h + 2 ∧ gS m1 = gS h + 16 := by rw [m1E]; exact ⟨rfl, rfl⟩
  have g2N : gN m2 = gN h + 3 ∧ gS m2 = gS h + 24 := by rw [m2E]; exact ⟨by show gN m1 + 1 = _; omega, by show gS m1 + 8 = _; omega⟩
  have g3N : gN m3 = gN h + 4 ∧ gS m3 = gS h + 32 := by rw [m3E]; exact ⟨by show gN m2 + 1 = _; omega, by show gS m2 + 8 = _; omega⟩
  have g4N : gN m4 = gN h + 5 ∧ gS m4 = gS h + 40 := by rw [m4E]; exact ⟨by show gN m3 + 1 = _; omega, by show gS m3 + 8 = _; omega⟩
  have t1 : Sh m1 := by rw [m1E]; exact hs1.nw
  have t1' : Sh (sR m1 2564 (gN h) (some (gN h + 1))) := t1.sR (Or.inl ns)
  have t2 : Sh m2 := by rw [m2E]; exact t1'.nw
  have t2' : Sh (sR m2 2565 (gN h) (some (gN h + 2))) := t2.sR (Or.inl ns)
  have t3 : Sh m3 := by rw [m3E]; exact t2'.nw
  have t3' : Sh (sR m3 2566 (gN h) (some (gN h + 3))) := t3.sR (Or.inl ns)
  have t4 : Sh m4 := by rw [m4E]; exact t3'.nw
  have hs2 : Sh h2 := by rw [h2E]; exact t4.sR (Or.inl ns)
  have y1 : gC m1 = up1 (up1 (gC h) (gN h) 10) (gN h + 1) 60 := by rw [m1E]; rfl
  have y2 : gC m2 = up1 (gC m1) (gN h + 2) 60 := by rw [m2E]; show up1 (gC m1) (gN m1) 60 = _; rw [g1N.1]
  have y3 : gC m3 = up1 (gC m2) (gN h + 3) 60 := by rw [m3E]; show up1 (gC m2) (gN m2) 60 = _; rw [g2N.1]
  have y4 : gC m4 = up1 (gC m3) (gN h + 4) 60 := by rw [m4E]; show up1 (gC m3) (gN m3) 60 = _; rw [g3N.1]
  have z1 : gK m1 = up1 (up1 (gK h) (gN h) 0) (gN h + 1) 8 := by rw [m1E]; rfl
  have z2 : gK m2 = up1 (gK m1) (gN h + 2) 8 := by rw [m2E]; show up1 (gK m1) (gN m1) 8 = _; rw [g1N.1]
  have z3 : gK m3 = up1 (gK m2) (gN h + 3) 8 := by rw [m3E]; show up1 (gK m2) (gN m2) 8 = _; rw [g2N.1]
  have z4 : gK m4 = up1 (gK m3) (gN h + 4) 8 := by rw [m4E]; show up1 (gK m3) (gN m3) 8 = _; rw [g3N.1]
  have v1 : gC m1 (gN h) = 10 := by rw [y1, up1_x (by omega), up1_s]
  have v2 : gC m2 (gN h) = 10 := by rw [y2, up1_x (by omega)]; exact v1
  have v3 : gC m3 (gN h) = 10 := by rw [y3, up1_x (by omega)]; exact v2
  have v4 : gC m4 (gN h) = 10 := by rw [y4, up1_x (by omega)]; exact v3
  have x2 : gC h2 (gN h) = 10 := by rw [h2E]; exact v4
  have ctor : E (d + 10) 289 [.ref (gN h)] (nwO h 10 8) = some (none, h2) := by
    rw [t_289 hs1, show gN (nwO h 10 8) = gN h + 1 from rfl, ← m1E, t_289_9 t1, ck_ok v1, g1N.1, ← m2E, t_289_17 t2, ck_ok v2, g2N.1, ← m3E, t_289_25 t3, ck_ok v3, g3N.1, ← m4E, t_289_33 t4, ck_ok v4, ← h2E]
  have w1 : HW m1 := by rw [m1E]; exact HW.nw (HW.nw C.2.1)
  have w2a : HW m2 := by rw [m2E]; exact HW.nw (h := sR m1 2564 (gN h) (some (gN h + 1))) (c := 60) (k := 8) (n := 8) (HW.cg (h := m1) w1 rfl rfl)
  have w3 : HW m3 := by rw [m3E]; exact HW.nw (h := sR m2 2565 (gN h) (some (gN h + 2))) (c := 60) (k := 8) (n := 8) (HW.cg (h := m2) w2a rfl rfl)
  have w4 : HW m4 := by rw [m4E]; exact HW.nw (h := sR m3 2566 (gN h) (some (gN h + 3))) (c := 60) (k := 8) (n := 8) (HW.cg (h := m3) w3 rfl rfl)
  have w2 : HW h2 := by rw [h2E]; exact HW.cg (h := m4) w4 rfl rfl
  have n2 : NFr (gN h) h h2 := by
    rw [h2E, m4E, m3E, m2E, m1E]
    exact (((((((((NFr.rfl.nw).nw).sR (Nat.le_refl _)).nw).sR (Nat.le_refl _)).nw).sR (Nat.le_refl _)).nw).sR (Nat.le_refl _))
  have ct0 : gN h2 = gN h + 5 ∧ gS h2 = gS h + 40 := by rw [h2E]; exact g4N
  have C2 : CPs h2 b t k := C.nf n2 (Nat.le_refl _) hs2 w2
  have f2r : ∀ j, j < 4 → gR h2 (2564 + j) (gN h) = some (gN h + 1 + j) ∧ gC h2 (gN h + 1 + j) = 60 ∧ gK h2 (gN h + 1 + j) = 8 := fun j hj => by
    have nn : gN h ≠ gN (sR m3 2566 (gN h) (some (gN h + 3))) ∧ gN h ≠ gN (sR m2 2565 (gN h) (some (gN h + 2))) ∧ gN h ≠ gN (sR m1 2564 (gN h) (some (gN h + 1))) := ⟨by show gN h ≠ gN m3; omega, by show gN h ≠ gN m2; omega, by show gN h ≠ gN m1; omega⟩
    have q3 : gR m4 2566 (gN h) = some (gN h + 3) := by rw [m4E, nw_R nn.1, gR_s]
    have q2 : gR m4 2565 (gN h) = some (gN h + 2) := by rw [m4E, nw_R nn.1, gR_k (by decide), m3E, nw_R nn.2.1, gR_s]
    have q1 : gR m4 2564 (gN h) = some (gN h + 1) := by rw [m4E, nw_R nn.1, gR_k (by decide), m3E, nw_R nn.2.1, gR_k (by decide), m2E, nw_R nn.2.2, gR_s]
    rw [h2E]
    show _ ∧ gC m4 _ = 60 ∧ gK m4 _ = 8
    rw [y4, y3, y2, y1, z4, z3, z2, z1]
    rcases (by omega : j = 0 ∨ j = 1 ∨ j = 2 ∨ j = 3) with rfl | rfl | rfl | rfl
    · exact ⟨by rw [gR_k (by decide)]; exact q1, by simp [up1], by simp [up1]⟩
    · exact ⟨by rw [gR_k (by decide)]; exact q2, by simp [up1], by simp [up1]⟩
    · exact ⟨by rw [gR_k (by decide)]; exact q3, by simp [up1], by simp [up1]⟩
    · exact ⟨by rw [gR_s], by simp [up1], by simp [up1]⟩
  have f2i : gI h2 2563 (gN h) = nI 0 := by
    rw [h2E, gIR, m4E, nw_I (by show gN h ≠ gN m3; omega), gIR, m3E, nw_I (by show gN h ≠ gN m2; omega), gIR, m2E, nw_I (by show gN h ≠ gN m1; omega), gIR, m1E, nw_I (by show gN h ≠ gN h + 1; omega)]
    exact nw_I0
  obtain ⟨g1, a1, C1, F1, I1⟩ := c_tNm (d := d + 2) C2
  rw [if_pos q, t_235_21 hs1, ctor, cK_n, t_235_25 hs2, ck_ok C2.2.2.2.2.2.1, a1, cK_v, t_235_30 C1.1]
  have bf1 : BFr (gN h) h g1 := n2.bf.trans (Fr.bf F1)
  have ct1 : gN g1 = gN h + 5 ∧ gS g1 = gS h + 40 := ⟨by rw [F1.ct.1]; exact ct0.1, by rw [F1.ct.2]; exact ct0.2⟩
  by_cases q1 : ¬ (fm t (k + 1) = 0)
  · have eM : fM t (k + 1) (bk 17) (bk 0 2) = fm t (k + 1) := by rw [fM_d]; exact if_neg q1
    have ef : st (ff (vFs t k bk)) (fS t (ruP t (k + 5) (rlF t (k + 5) 9 0).2) 59) = fm t (k + 1) := by rw [eF, eM, ff_n q1]; exact if_neg q1
    rw [bz_n q1, if_pos rfl, ef]
    exact ⟨g1, _, rfl, stop_f (k + 1) q1 (bf1.lo hNg) (by omega) (by omega) C1 (by rw [I1, if_neg q1])⟩
  have q1 := Decidable.not_not.mp q1
  have k1 := fm_0 q1
  have hv1 : gL g1 3078 101 = lN (tV t (k + 1)) := C1.2.2.2.2.1.2.2.1 k1
  have B1 : CB g1 b bk G Cp := B.bf C.2.1 bf1 (Nat.le_refl _)
  have x1 : gC g1 (gN h) = 10 := by rw [F1.2.1]; exact x2
  rw [q1, if_pos rfl] at I1
  rw [q1, bz_0, if_neg (by decide), ck_ok C1.2.2.2.2.2.1, C1.2.2.2.2.2.2, Option.bind_some, ck_ok C1.1.t101.1, ck_ok C1.2.2.2.2.2.1, hv1, c_sv C1.1 X B1 k1, cK_v, t_235_46 C1.1]
  by_cases q1d : ¬ (dpF t (k + 1) (bk 17) (bk 0 2) 0 = 0)
  · have eD : dpF t (k + 1) (bk 17) (bk 0 2) 0 = fX t 3 (k + 1) := by
      unfold dpF at q1d ⊢; split
      · rfl
      · rename_i z; rw [if_neg z] at q1d; exact absurd rfl q1d
    have nz : fX t 3 (k + 1) ≠ 0 := fX_n (by decide)
    have eM : fM t (k + 1) (bk 17) (bk 0 2) = fX t 3 (k + 1) := by rw [fM_d, q1, eD]; rfl
    have ef : st (ff (vFs t k bk)) (fS t (ruP t (k + 5) (rlF t (k + 5) 9 0).2) 59) = fX t 3 (k + 1) := by rw [eF, eM, ff_n nz]; exact if_neg nz
    obtain ⟨g2, d1, d2, d3, d4⟩ := c_fail (d := d + 9) C1 (c := 3) (by decide)
    rw [if_neg q1d, if_neg (by decide), ck_ok C1.2.2.2.2.2.1, d1, cK_v, t_235_54 d2.1, if_pos (by decide), ef]
    exact ⟨g2, _, rfl, stop_f (k + 1) nz ((bf1.trans (Fr.bf d3)).lo hNg) (by rw [d3.ct.1]; omega) (by rw [d3.ct.2]; omega) d2 d4⟩
  have q1d := Decidable.not_not.mp q1d
  have eM : fM t (k + 1) (bk 17) (bk 0 2) = 0 := by rw [fM_d, q1, q1d]; rfl
  have eF1 : ff (vFs t k bk) = ff [f1 t (k + 2) 16 3, fW t (k + 3) (kw 19), fN t (k + 4) 1 4000, (rlF t (k + 5) 9 0).1] := by rw [eF, eM]; rfl
  have F1l : Fr [2560] [] g1 (sL g1 2560 (gN h) (lN (tV t (k + 1)))) := Fr.rfl.sL (by decide)
  have C1' := C1.fr F1l (by decide)
  obtain ⟨g2, a2, C2', F2, I2⟩ := C1'.nx (d := d + 3)
  have I2 : gI g2 519 b = gI g1 519 b := by rw [I2]; rfl
  have x2' : gC g2 (gN h) = 10 := by rw [F2.2.1]; exact x1
  have wi2 := c_wI (d := d + 5) C2' (z := 9) (l := [kw 16, kw 17, kw 18]) (by decide) (by decide +kernel) (wi_z (by decide +kernel)) (by decide +kernel)
  rw [wI_o3] at wi2
  have bf2 : BFr (gN h) h g2 := (bf1.sL (Nat.le_refl _)).trans (Fr.bf F2)
  have ct2 : gN g2 = gN h + 5 ∧ gS g2 = gS h + 40 := ⟨by rw [F2.ct.1]; exact ct1.1, by rw [F2.ct.2]; exact ct1.2⟩
  rw [if_pos q1d, if_pos rfl, ck_ok C1.2.2.2.2.2.1, C1.2.2.2.2.2.2, Option.bind_some, ck_ok C1.1.t101.1, ck_ok x1, ck_ok C1.2.2.2.2.2.1, Option.bind_some, ck_ok C1.1.t101.1, hv1, a2, cK_n, t_235_73 C2'.1, ck_ok C2'.2.2.2.2.2.1, C2'.2.2.2.2.2.2, Option.bind_some, ck_ok C2'.1.t101.1, wi2, cK_v, t_235_83 C2'.1, ck_ok x2', ck_ok x2', gI_s]
  by_cases q2 : ¬ (f1 t (k + 2) 16 3 = 0)
  · have eo : ow t (k + 2) 16 3 0 = none := by
      unfold f1 at q2
      by_cases z : ow t (k + 2) 16 3 0 = none
      · exact z
      · rw [if_neg z] at q2; exact absurd rfl q2
    have e1 : f1 t (k + 2) 16 3 = fX t 1 (k + 2) := by unfold f1; rw [if_pos eo]
    have nz : fX t 1 (k + 2) ≠ 0 := fX_n (by decide)
    have ef : st (ff (vFs t k bk)) (fS t (ruP t (k + 5) (rlF t (k + 5) 9 0).2) 59) = fX t 1 (k + 2) := by rw [eF1, e1, ff_n nz]; exact if_neg nz
    have C7x : CPs (sI g2 2561 (gN h) (oI none)) b t (k + 2) := C2'.fr (Fr.rfl.sI (List.mem_singleton.mpr rfl) : Fr [2561] [] g2 (sI g2 2561 (gN h) (oI none))) (by decide)
    obtain ⟨g8, d1, d2, d3, d4⟩ := c_fail (d := d + 9) C7x (c := 1) (by decide)
    rw [show ow t (k + 1 + 1) 16 3 0 = none from eo, if_pos (show oI none = -1 from rfl), ck_ok C2'.2.2.2.2.2.1, d1, cK_v, t_235_99 d2.1, if_pos (by decide), ef]
    exact ⟨g8, _, rfl, stop_f (k + 2) nz (((bf2.sI (Nat.le_refl _)).trans (Fr.bf d3)).lo hNg) (by rw [d3.ct.1]; show gN g2 ≤ _; omega) (by rw [d3.ct.2]; show gS g2 ≤ _; omega) d2 d4⟩
  have q2 := Decidable.not_not.mp q2
  have ov2 := f1_v q2
  have eF2 : ff (vFs t k bk) = ff [fW t (k + 3) (kw 19), fN t (k + 4) 1 4000, (rlF t (k + 5) 9 0).1] := by rw [eF1, q2]; rfl
  have n1' : ¬ nI (owI t (k + 2) 16 3) = -1 := fun z => by
    have : nI (owI t (k + 2) 16 3) < nI 0 := by rw [z]; decide
    exact nI_nlt (by omega) (by omega) this
  have F2' : Fr [2561] [] g2 (sI g2 2561 (gN h) (nI (owI t (k + 2) 16 3))) := Fr.rfl.sI (by decide)
  have C2'' := C2'.fr F2' (by decide)
  obtain ⟨g3, a3, C3, F3, I3⟩ := c_tWd (d := d + 2) C2'' (z := 10) (v := kw 19) (by decide) (by decide +kernel) (wi_z (by decide +kernel)) (by decide +kernel)
  rw [show oI (ow t (k + 1 + 1) 16 3 0) = nI (owI t (k + 2) 16 3) from ov2.1, if_neg n1', ck_ok C2'.2.2.2.2.2.1, a3, cK_v, t_235_106 C3.1]
  have bf3 : BFr (gN h) h g3 := (bf2.sI (Nat.le_refl _)).trans (Fr.bf F3)
  have ct3 : gN g3 = gN h + 5 ∧ gS g3 = gS h + 40 := ⟨by rw [F3.ct.1]; exact ct2.1, by rw [F3.ct.2]; exact ct2.2⟩
  by_cases q3 : ¬ (fW t (k + 3) (kw 19) = 0)
  · have ef : st (ff (vFs t k bk)) (fS t (ruP t (k + 5) (rlF t (k + 5) 9 0).2) 59) = fW t (k + 3) (kw 19) := by rw [eF2, ff_n q3]; exact if_neg q3
    rw [bz_n q3, if_pos rfl, ef]
    exact ⟨g3, _, rfl, stop_f (k + 3) q3 (bf3.lo hNg) (by omega) (by omega) C3 (by rw [I3, if_neg q3])⟩
  have q3 := Decidable.not_not.mp q3
  have eF3 : ff (vFs t k bk) = ff [fN t (k + 4) 1 4000, (rlF t (k + 5) 9 0).1] := by rw [eF2, q3]; rfl
  rw [q3, if_pos rfl] at I3
  have x3 : gC g3 (gN h) = 10 := by rw [F3.2.1]; exact x2'
  obtain ⟨g4, a4, C4, F4, I4⟩ := c_tNu (d := d + 2) C3 (lo := 1) (hi := 4000) (by decide) (by decide)
  rw [q3, bz_0, if_neg (by decide), ck_ok C3.2.2.2.2.2.1, a4, cK_v, t_235_117 C4.1]
  have bf4 : BFr (gN h) h g4 := (bf3).trans (Fr.bf F4)
  have ct4 : gN g4 = gN h + 5 ∧ gS g4 = gS h + 40 := ⟨by rw [F4.ct.1]; exact ct3.1, by rw [F4.ct.2]; exact ct3.2⟩
  by_cases q4 : ¬ (fN t (k + 4) 1 4000 = 0)
  · have ef : st (ff (vFs t k bk)) (fS t (ruP t (k + 5) (rlF t (k + 5) 9 0).2) 59) = fN t (k + 4) 1 4000 := by rw [eF3, ff_n q4]; exact if_neg q4
    rw [bz_n q4, if_pos rfl, ef]
    exact ⟨g4, _, rfl, stop_f (k + 4) q4 (bf4.lo hNg) (by omega) (by omega) C4 (by rw [I4, if_neg q4])⟩
  have q4 := Decidable.not_not.mp q4
  have eF4 : ff (vFs t k bk) = ff [(rlF t (k + 5) 9 0).1] := by rw [eF3, q4]; rfl
  rw [q4, if_pos rfl] at I4
  have x4 : gC g4 (gN h) = 10 := by rw [F4.2.1]; exact x3
  have k4 := (fN_0 q4).1
  have hv4 : gI g4 3077 101 = nI (tV t (k + 4)) := C4.2.2.2.2.1.2.1 k4
  have F4' : Fr [2562] [] g4 (sI g4 2562 (gN h) (nI (tV t (k + 4)))) := Fr.rfl.sI (by decide)
  have C4' := C4.fr F4' (by decide)
  obtain ⟨h9, h9E⟩ : ∃ h9, h9 = (sI g4 2562 (gN h) (nI (tV t (k + 4)))) := ⟨_, rfl⟩
  rw [← h9E] at C4'
  have bf9' : BFr (gN h) h h9 := by rw [h9E]; exact bf4.sI (Nat.le_refl _)
  have B9 : CB h9 b bk G Cp := B.bf C.2.1 bf9' (Nat.le_refl _)
  have L9 : CLb h9 N0 bk G Cp := L.bf C.2.1 bf9' (Nat.le_refl _)
  have ct9' : gN h9 = gN h + 5 ∧ gS h9 = gS h + 40 := by rw [h9E]; exact ct4
  have c9 : gC h9 = gC h2 := by rw [h9E]; show gC g4 = _; rw [F4.2.1, F3.2.1]; show gC g2 = _; rw [F2.2.1]; show gC g1 = _; rw [F1.2.1]
  have kk9 : gK h9 = gK h2 := by rw [h9E]; show gK g4 = _; rw [F4.2.2.1, F3.2.2.1]; show gK g2 = _; rw [F2.2.2.1]; show gK g1 = _; rw [F1.2.2.1]
  have r9 : gR h9 = gR h2 := by rw [h9E]; show gR g4 = _; rw [F4.2.2.2.1, F3.2.2.2.1]; show gR g2 = _; rw [F2.2.2.2.1]; show gR g1 = _; rw [F1.2.2.2.1]
  have j61 : gI h9 2561 (gN h) = nI (owI t (k + 2) 16 3) := by rw [h9E, gI_k (by decide), F4.I (by decide), F3.I (by decide), gI_s]
  have j62 : gI h9 2562 (gN h) = nI (tV t (k + 4)) := by rw [h9E, gI_s]
  have j63 : gI h9 2563 (gN h) = nI 0 := by rw [h9E, gI_k (by decide), F4.I (by decide), F3.I (by decide), gI_k (by decide), F2.I (by decide), gIL, F1.I (by decide)]; exact f2i
  have j60 : gL h9 2560 (gN h) = lN (tV t (k + 1)) := by rw [h9E]; show gL g4 2560 _ = _; rw [F4.L (by decide), F3.L (by decide)]; show gL g2 2560 _ = _; rw [F2.L (by decide), gL_s]
  have i19 : gI h9 519 b = gI h 519 b := by rw [h9E, gI_k (by decide), I4, I3, gI_k (by decide), I2, I1]; exact n2.2.2.1 519 b hbl (by omega)
  have oldr := L.old hs
  obtain ⟨p1, A9⟩ := B9.2.2.1 2 (by decide)
  obtain ⟨h10, e', cap', s1', C10, Bx, bx10, s2, s3', s4, u1, u2, u3, u4, u5⟩ := c_addB (d := d + 3) (j0 := 2) (x := gN h) (by decide) C4' B9 L9 (by omega) (by rw [c9, x2]; decide) (by omega)
  have cl8 : gC g4 (G 7 2) = 1 := by have := A9.1; rw [h9E] at this; exact this
  have p1' : gR g4 514 b = some (G 7 2) := by rw [h9E] at p1; exact p1
  have nK : ∀ kk xx, kk ≠ 256 → kk ≠ 258 → ¬ lI (G 7 2) kk xx := fun kk xx y1 y2 z => z.2.elim y1 y2
  have nR : ∀ kk xx, kk ≠ 257 → ¬ lR (G 7 2) kk xx := fun kk xx y z => y z.2
  have gi : ∀ kk v, kk ≠ 256 → kk ≠ 258 → gI h9 kk (gN h) = v → gI h10 kk (gN h) = v := fun kk v y1 y2 y3 => by rw [s4.2.2.1 kk _ (by omega) (nK _ _ y1 y2)]; exact y3
  have S10 : SvS h10 t (k + 5) (gN h) 0 := by
    refine ⟨by rw [(s4.2.1 _ (by omega)).1, c9]; exact x2, fun j hj => ?_, gi 2563 _ (by decide) (by decide) j63, fun j hj => absurd hj (by omega)⟩
    rw [s4.2.2.2.2.1 _ _ (by omega) (nR _ _ (by omega)), (s4.2.1 _ (by omega)).1, (s4.2.1 _ (by omega)).2, r9, c9, kk9]; exact f2r j hj
  obtain ⟨h11, a11, R11, ⟨kk11, K11⟩, E11, V11⟩ := c_rlp (d := d) (p := k + 5) (x := gN h) hg 9 0 (k + 4) rfl (by decide) rfl C10 S10
  rw [q4, bz_0, if_neg (by decide), ck_ok C4.2.2.2.2.2.1, C4.2.2.2.2.2.2, Option.bind_some, ck_ok C4.1.t101.1, ck_ok x4, ck_ok C4.2.2.2.2.2.1, p1', Option.bind_some, ck_ok cl8, hv4, ← h9E, s1', cK_v, t_235_141 C10.1, ck_ok C10.2.2.2.2.2.1, t_291 C10.1, a11, cK_v, t_235_147 K11.1, bz_ret]
  have eF5 : ff (vFs t k bk) = (rlF t (k + 5) 9 0).1 := by rw [eF4]; exact ff_1
  have bR : BFr (gN h) h10 h11 := by
    obtain ⟨⟨y1, y2, y3, y4, y5, y6, y7, y8, y9⟩, yy, yl⟩ := R11
    have kb : ∀ kk, kk ∈ KRu → kk = 2563 ∨ (3074 ≤ kk ∧ kk ≤ 3078 ∨ kk = 519) := by decide
    refine ⟨⟨by show h10.1.1 ≤ h11.1.1; rw [y1]; exact Nat.le_refl _, by show h10.1.2 ≤ h11.1.2; rw [y1]; exact Nat.le_refl _⟩, fun z _ => ⟨by rw [y2], by rw [y3]⟩, fun kk z _ nq => ?_, fun kk z _ nq => ?_, fun kk z _ _ => by rw [y4], fun z _ nq => ?_, fun z _ _ => by rw [y5]⟩
    · by_cases z1 : kk ∈ KRu
      · rcases kb kk z1 with w1 | w1
        · rw [w1]; exact yy z (fun w2 => nq (Or.inl (by omega)))
        · exact absurd (Or.inr w1) nq
      · rw [y6 kk z1]
    · by_cases z1 : kk ∈ KRu
      · rcases kb kk z1 with w1 | w1
        · rw [w1, yl]
        · exact absurd (Or.inr w1) nq
      · rw [y7 kk z1]
    · have : z ∉ [gN h + 1, gN h + 2, gN h + 3, gN h + 4] := fun w1 => nq (by simp at w1; omega)
      exact ⟨by rw [y8 z this], by rw [y9 z this]⟩
  have bf11 : BFr N0 h h11 := ((bf9'.lo hNg).trans bx10).trans (bR.lo hNg)
  have ct11 : gN h11 = gN h10 ∧ gS h11 = gS h10 := R11.1.ct
  by_cases qz : ¬ ((rlF t (k + 5) 9 0).1 = 0)
  · have ef : st (ff (vFs t k bk)) (fS t (ruP t (k + 5) (rlF t (k + 5) 9 0).2) 59) = (rlF t (k + 5) 9 0).1 := by rw [eF5]; exact if_neg qz
    rw [ef]
    exact ⟨h11, _, rfl, stop_f kk11 qz bf11 (by omega) (by omega) K11 (E11 qz)⟩
  have qz := Decidable.not_not.mp qz
  obtain ⟨I11, C11, S11⟩ := V11 qz
  have rv := rlF_v (t := t) (q := k + 5) 9 0 rfl (fun j hj => absurd hj (by omega)) qz
  have ef : st (ff (vFs t k bk)) (fS t (ruP t (k + 5) (rlF t (k + 5) 9 0).2) 59) = 0 := by rw [eF5, qz]; show fS t _ 59 = 0; unfold fS; rw [if_pos rv.2.1]
  rw [ef]
  refine ⟨h11, _, rfl, bf11, by omega, by omega, ⟨_, C11⟩, fun z => absurd rfl z, fun _ => ⟨by rw [I11, u5]; exact i19, ?_⟩⟩
  obtain ⟨G', G'E⟩ : ∃ G', G' = up2 (up2 (up2 (up2 (up2 (up2 G 2 (bk 0 2) (gN h)) 10 (bk 0 2) (gN h + 1)) 11 (bk 0 2) (gN h + 2)) 12 (bk 0 2) (gN h + 3)) 13 (bk 0 2) (gN h + 4)) 8 2 e' := ⟨_, rfl⟩
  obtain ⟨Cp', Cp'E⟩ : ∃ Cp', Cp' = up2 Cp 8 2 cap' := ⟨_, rfl⟩
  have gk : ∀ j, j ≠ 2 → j < 10 ∨ 13 < j → j ≠ 8 → G' j = G j := fun j m0 m1 m3 => by rw [G'E, up2_k m3, up2_k (by omega), up2_k (by omega), up2_k (by omega), up2_k (by omega), up2_k m0]
  have g0 : G' 2 = up1 (G 2) (bk 0 2) (gN h) := by rw [G'E, up2_k (by decide), up2_k (by decide), up2_k (by decide), up2_k (by decide), up2_k (by decide)]; unfold up2; rw [if_pos rfl]
  have g10 : ∀ j i, j < 4 → G' (10 + j) i = if i = bk 0 2 then gN h + 1 + j else G (10 + j) i := fun j i hj => by
    rw [G'E]
    rcases (by omega : j = 0 ∨ j = 1 ∨ j = 2 ∨ j = 3) with rfl | rfl | rfl | rfl <;> simp [up2, up1]
  have g8 : ∀ i, G' 8 i = if i = 2 then e' else G 8 i := fun i => by rw [G'E]; simp [up2, up1]
  have p8 : ∀ i, Cp' 8 i = if i = 2 then cap' else Cp 8 i := fun i => by rw [Cp'E]; simp [up2, up1]
  have p9 : Cp' 9 = Cp 9 := by rw [Cp'E, up2_k (by decide)]
  have k0 : vBk t k bk 0 2 = bk 0 2 + 1 := up2_s
  have kx : ∀ j, j ≠ 2 → vBk t k bk 0 j = bk 0 j := fun j hj => by
    unfold vBk; rw [up2_x hj, up2_k (by decide), up2_k (by decide), up2_k (by decide), up2_k (by decide), v21_k (by decide)]
  have kk : ∀ j, j ≠ 0 → j < 17 ∨ 24 < j → vBk t k bk j = bk j := fun j m0 m1 => by
    unfold vBk; rw [up2_k m0, up2_k (by omega), up2_k (by omega), up2_k (by omega), up2_k (by omega), v21_k (by omega)]
  have kn17 : ∀ i, vBk t k bk 17 i = if i = bk 0 2 then tV t (k + 1) else bk 17 i := fun i => by unfold vBk; simp [up2, up1, v21_k]
  have kn18 : ∀ i, vBk t k bk 18 i = if i = bk 0 2 then owI t (k + 2) 16 3 else bk 18 i := fun i => by unfold vBk; simp [up2, up1, v21_k]
  have kn19 : ∀ i, vBk t k bk 19 i = if i = bk 0 2 then tV t (k + 4) else bk 19 i := fun i => by unfold vBk; simp [up2, up1, v21_k]
  have kn20 : ∀ i, vBk t k bk 20 i = if i = bk 0 2 then (rlF t (k + 5) 9 0).2 else bk 20 i := fun i => by unfold vBk; simp [up2, up1, v21_k]
  have kn21 : ∀ j i, 21 ≤ j → j ≤ 24 → vBk t k bk j i = if 8 * bk 0 2 ≤ i ∧ i < 8 * bk 0 2 + 8 then ruV j t (ruP t (k + 5) (i - 8 * bk 0 2)) else bk j i := fun j i j1 j2 => by
    unfold vBk
    rw [up2_k (by omega), up2_k (by omega), up2_k (by omega), up2_k (by omega), up2_k (by omega)]
    unfold v21
    by_cases y : 8 * bk 0 2 ≤ i ∧ i < 8 * bk 0 2 + 8
    · rw [if_pos ⟨⟨j1, j2⟩, y⟩, if_pos y]
    · rw [if_neg fun x => y x.2, if_neg y]
  obtain ⟨⟨y1', y2', y3', y4', y5', y6', y7', y8', y9'⟩, yy, yl⟩ := id R11
  have nX : ∀ z, z < gN h → z ∉ [gN h + 1, gN h + 2, gN h + 3, gN h + 4] := fun z hz w1 => by simp at w1; omega
  have aO : ∀ z l, gC h z = 60 → AN h10 z l → AN h11 z l := fun z l hz ⟨q1, q2, q3, q4⟩ => ⟨by rw [y2']; exact q1, by rw [y3']; exact q2, q3, fun i hi => by rw [y8' z (nX z (C.2.1.lt hz (by decide)))]; exact q4 i hi⟩
  have iK : ∀ kk, kk ∉ KRu → gI h11 kk = gI h10 kk := y6'
  have lK : ∀ kk, kk ∉ KRu → gL h11 kk = gL h10 kk := y7'
  have B11 : CB h11 b (vBk t k bk) G' Cp' := by
    obtain ⟨v1, v2, v3, v4, v5', v6, v7, v8⟩ := Bx
    refine ⟨by rw [y2']; exact v1, by rw [y4']; exact v2, fun j hj => ?_, ?_, fun i hi => ?_, fun p hp => ?_, fun s hS => ?_, fun c hc => ?_⟩
    · rw [gk 7 (by decide) (by decide) (by decide), y4']
      refine ⟨(v3 j hj).1, ?_⟩
      by_cases ej : j = 2
      · subst ej
        rw [g8, if_pos rfl, p8, if_pos rfl, k0, g0]
        unfold Ar at s2 ⊢
        rw [y2', y4', y3', y5', iK 258 (by decide)]; exact s2
      · rw [g8, if_neg ej, p8, if_neg ej, kx j ej, gk j ej (by omega) (by omega)]
        have := (v3 j hj).2 ej
        unfold Ar at this ⊢
        rw [y2', y4', y3', y5', iK 258 (by decide)]; exact this
    · rw [gk 16 (by decide) (by decide) (by decide), kx 4 (by decide), kk 5 (by decide) (by decide), kk 6 (by decide) (by decide), y2', y3', y4', iK 518 (by decide)]
      obtain ⟨c1, c2, c3, c4, c5, c6, c7, c8, c9, c10⟩ := v4
      refine ⟨c1, c2, c3, c4, c5, c6, c7, c8, c9, fun i hi => ?_⟩
      rw [y9' _ (nX _ (C.2.1.lt b4'.2.1 (by decide))), y9' _ (nX _ (C.2.1.lt b4'.2.2.2.2.2.2.1 (by decide)))]; exact c10 i hi
    · rw [kx 0 (by decide)] at hi
      rw [gk 0 (by decide) (by decide) (by decide), gk 5 (by decide) (by decide) (by decide), gk 14 (by decide) (by decide) (by decide), kk 1 (by decide) (by decide), kk 2 (by decide) (by decide), kk 3 (by decide) (by decide), kk 4 (by decide) (by decide), y2', y4', lK 1792 (by decide), iK 1794 (by decide), iK 1795 (by decide), iK 1796 (by decide)]
      obtain ⟨z1, z2, z3, z4, z5, z6, z7, z8⟩ := v5' i hi
      exact ⟨z1, z2, z3, z4, z5, z6, z7, aO _ _ (b5' i hi).2.2.2.2.2.2.2.1 z8⟩
    · rw [kx 1 (by decide)] at hp
      rw [gk 1 (by decide) (by decide) (by decide), gk 15 (by decide) (by decide) (by decide), kk 7 (by decide) (by decide), kk 8 (by decide) (by decide), kk 9 (by decide) (by decide), kk 10 (by decide) (by decide), kk 11 (by decide) (by decide), kk 12 (by decide) (by decide), kk 13 (by decide) (by decide), kk 14 (by decide) (by decide), kk 15 (by decide) (by decide), kk 16 (by decide) (by decide), y2', y4', iK 2817 (by decide), iK 2818 (by decide), iK 2819 (by decide), iK 2820 (by decide), iK 2821 (by decide), iK 2822 (by decide), iK 2823 (by decide), iK 2824 (by decide)]
      obtain ⟨z1, z2, z3, z4, z5, z6, z7, z8, z9, z10, z11⟩ := v6 p hp
      exact ⟨z1, z2, z3, z4, z5, z6, z7, z8, z9, z10, aO _ _ (b6' p hp).2.2.2.2.2.2.2.2.2.2.1 z11⟩
    · rw [k0] at hS
      have e10 := fun i => g10 0 i (by decide)
      have e11 := fun i => g10 1 i (by decide)
      have e12 := fun i => g10 2 i (by decide)
      have e13 := fun i => g10 3 i (by decide)
      by_cases ei : s = bk 0 2
      · obtain ⟨o1, o2, o3, o4⟩ := S11
        rw [g0, ei, up1_s, kn17, kn18, kn19, kn20, if_pos rfl, if_pos rfl, if_pos rfl, if_pos rfl]
        refine ⟨o1, ?_, ?_, ?_, o3, fun j hj => ?_, fun j hj => ?_⟩
        · rw [lK 2560 (by decide), s4.2.2.2.1 2560 _ (by omega) (nK _ _ (by decide) (by decide))]; exact j60
        · rw [iK 2561 (by decide)]; exact gi 2561 _ (by decide) (by decide) j61
        · rw [iK 2562 (by decide)]; exact gi 2562 _ (by decide) (by decide) j62
        · rw [g10 j _ hj, if_pos rfl]
          exact ⟨(o2 j hj).1, (o2 j hj).2.1, (o2 j hj).2.2, Or.inl (by omega)⟩
        · have kv : ∀ x, 21 ≤ x → x ≤ 24 → vBk t k bk x (8 * bk 0 2 + j) = ruV x t (ruP t (k + 5) j) := fun x x1 x2 => by rw [kn21 x _ x1 x2, if_pos (by omega), Nat.add_sub_cancel_left]
          rw [show G' 10 (bk 0 2) = gN h + 1 from by rw [e10, if_pos rfl], show G' 11 (bk 0 2) = gN h + 2 from by rw [e11, if_pos rfl], show G' 12 (bk 0 2) = gN h + 3 from by rw [e12, if_pos rfl], show G' 13 (bk 0 2) = gN h + 4 from by rw [e13, if_pos rfl], kv 21 (by decide) (by decide), kv 22 (by decide) (by decide), kv 23 (by decide) (by decide), kv 24 (by decide) (by decide)]
          exact o4 j hj
      · have hS' : s < bk 0 2 := by omega
        obtain ⟨z1, z2, z3, z4, z5, z6, z7⟩ := v7 s hS'
        have w20 := (X.1.2.2.2.2.1 s hS').2.2.2.1
        have xs : G 2 s ≠ gN h := by have := C.2.1.lt (b7' s hS').1 (by decide); omega
        rw [g0, up1_x ei, kn17, kn18, kn19, kn20, if_neg ei, if_neg ei, if_neg ei, if_neg ei, y2', y3', y4', lK 2560 (by decide), iK 2561 (by decide), iK 2562 (by decide), yy _ xs]
        refine ⟨z1, z2, z3, z4, z5, fun j hj => ?_, fun j hj => ?_⟩
        · rw [g10 j _ hj, if_neg ei]; exact z6 j hj
        · have kv : ∀ x, 21 ≤ x → x ≤ 24 → vBk t k bk x (8 * s + j) = bk x (8 * s + j) := fun x x1 x2 => by rw [kn21 x _ x1 x2, if_neg (by omega)]
          have ob : ∀ j, j < 4 → G (10 + j) s < gN h := fun j hj => C.2.1.lt ((b7' s hS').2.2.2.2.2.1 j hj).2.1 (by decide)
          rw [show G' 10 s = G 10 s from by rw [e10, if_neg ei], show G' 11 s = G 11 s from by rw [e11, if_neg ei], show G' 12 s = G 12 s from by rw [e12, if_neg ei], show G' 13 s = G 13 s from by rw [e13, if_neg ei], kv 21 (by decide) (by decide), kv 22 (by decide) (by decide), kv 23 (by decide) (by decide), kv 24 (by decide) (by decide), y8' _ (nX _ (ob 0 (by decide))), y8' _ (nX _ (ob 1 (by decide))), y8' _ (nX _ (ob 2 (by decide))), y8' _ (nX _ (ob 3 (by decide)))]
          exact z7 j hj
    · rw [kx 3 (by decide)] at hc
      rw [gk 3 (by decide) (by decide) (by decide), gk 6 (by decide) (by decide) (by decide), kk 25 (by decide) (by decide), kk 26 (by decide) (by decide), kk 27 (by decide) (by decide), kk 28 (by decide) (by decide), kk 29 (by decide) (by decide), kk 30 (by decide) (by decide), kk 31 (by decide) (by decide), y2', y4', iK 768 (by decide), iK 769 (by decide), iK 770 (by decide), iK 771 (by decide), iK 772 (by decide), iK 773 (by decide), iK 774 (by decide)]; exact v8 c hc
  have lvE : ∀ r, lV (vBk t k bk) r → lV bk r := fun r hr => by unfold lV at hr ⊢; rw [kx 0 (by decide), kx 3 (by decide)] at hr; exact hr
  have loE : lo G' = lo G := by
    funext r; unfold lo; rw [gk 7 (by decide) (by decide) (by decide), gk 6 (by decide) (by decide) (by decide), gk 5 (by decide) (by decide) (by decide)]
  have g9 : G' 9 = G 9 := gk 9 (by decide) (by decide) (by decide)
  have L10 : CLb h10 N0 (vBk t k bk) G' Cp' := by
    refine CLb.add (j0 := 2) (rn := 0) (l := 0) (N1 := gN h) (e' := e') (cap' := cap') (by decide) L9 C4'.2.1 hNg (by omega) oldr s4 s3' u4 (by rw [k0]; exact u1) (fun j hj hj0 => kx j hj0) (fun r hr => Or.inl (lvE r hr)) (fun r h2 hr => by rw [loE]) (fun r h2 hr hne => ?_) ⟨?_, ?_⟩ (fun j hj hj0 => by rw [p8, if_neg hj0]) (by rw [p8, if_pos rfl]) (fun w _ => absurd w (by decide))
    · refine ⟨?_, ?_, fun _ => ⟨by rw [g9], by rw [p9]⟩⟩
      · unfold la
        by_cases z : 2 ≤ r ∧ r < 6
        · rw [if_pos z, if_pos z, g8, if_neg (by omega)]
        · rw [if_neg z, if_neg z, g9]
      · unfold lc
        by_cases z : 2 ≤ r ∧ r < 6
        · rw [if_pos z, if_pos z, p8, if_neg (by omega)]
        · rw [if_neg z, if_neg z, p9]
    · show G' 8 2 = e'; rw [g8, if_pos rfl]
    · show Cp' 8 2 = cap'; rw [p8, if_pos rfl]
  exact ⟨G', Cp', C11, B11, L10.cg y2' y3' y4' y5' (iK 258 (by decide)) ct11.1 (fun _ _ => rfl), hNb, hN, by have := s4.1.1; omega, by rw [gk 16 (by decide) (by decide) (by decide)]; exact hSh⟩
end CSW
