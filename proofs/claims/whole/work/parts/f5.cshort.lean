/-! ===== THE BOOK: shorts (component) ===== -/
section CSH
variable {d : Nat} {h : AH} {N0 b : Nat} {t : Tp} {k : Nat} {bk : Bk} {G Cp : Nat → Nat → Nat}
theorem sh_dp {p : Nat} : ∀ (n j : Nat), shL bk p n j = none ↔ ∀ i, j ≤ i → i < j + n → bk 5 i ≠ p
  | 0, j => ⟨fun _ i h1 h2 => by omega, fun _ => rfl⟩
  | n + 1, j => by
    rw [shL]
    by_cases q : bk 5 j = p
    · rw [if_pos q]
      exact ⟨fun e => (by cases e), fun z => absurd q (z j (Nat.le_refl _) (by omega))⟩
    · rw [if_neg q, sh_dp n (j + 1)]
      constructor
      · intro z i h1 h2
        by_cases w : i = j
        · rw [w]; exact q
        · exact z i (by omega) (by omega)
      · intro z i h1 h2; exact z i (by omega) (by omega)
theorem CLb.cg {h h' : AH} {bk' : Bk} (C : CLb h N0 bk G Cp) (a : gC h' = gC h) (b : gK h' = gK h) (c : gR h' = gR h) (e : gO h' = gO h) (f : gI h' 258 = gI h 258) (n : gN h' = gN h) (kk : ∀ j, j < 4 → bk' 0 j = bk 0 j) : CLb h' N0 bk' G Cp := by
  have lv : ∀ r, lV bk' r → lV bk r := fun r hr => by unfold lV at hr ⊢; rw [kk 0 (by decide), kk 3 (by decide)] at hr; exact hr
  obtain ⟨c1, c2, c3, c4⟩ := C
  refine ⟨fun r h2 hr => ?_, fun j hj => ?_, fun r h2 hr => ?_, fun r r' h2 h2' hr hr' => c4 r r' h2 h2' (lv r hr) (lv r' hr')⟩
  · obtain ⟨x, y, z⟩ := c1 r h2 (lv r hr)
    exact ⟨x, y.up (by omega), z⟩
  · rw [kk j hj]; exact c2 j hj
  · obtain ⟨x, y, z⟩ := c3 r h2 (lv r hr)
    refine ⟨x, y, fun f' => ?_⟩
    have := z f'
    unfold Ar at this ⊢
    rw [a, b, c, e, f]; exact this
theorem CB.sB {h : AH} {i n : Nat} {v : Int64} (B : CB h b bk G Cp) (hi : i < 2) (hn : bk 0 4 ≤ n) (hd : G 16 0 ≠ G 16 1) : CB (sB h (G 16 i) n v) b bk G Cp := by
  obtain ⟨b1', b2', b3', b4', b5', b6', b7', b8'⟩ := B
  refine ⟨b1', b2', b3', ?_, b5', b6', b7', b8'⟩
  obtain ⟨c1, c2, c3, c4, c5, c6, c7, c8, c9, c10⟩ := b4'
  refine ⟨c1, c2, c3, c4, c5, c6, c7, c8, c9, fun j hj => ?_⟩
  obtain ⟨x, y⟩ := c10 j hj
  rcases (by omega : i = 0 ∨ i = 1) with rfl | rfl
  · rw [gB_s, up1_x (by omega), gB_k hd.symm]; exact ⟨x, y⟩
  · rw [gB_k hd, gB_s, up1_x (by omega)]; exact ⟨x, y⟩
theorem CPs.sB {h : AH} {x n : Nat} {v : Int64} (C : CPs h b t k) (hx : 296 ≤ x) : CPs (sB h x n v) b t k := by
  obtain ⟨c1, c2, c3, c4, c5, c6, c7⟩ := C
  exact ⟨c1.sB, c2, c3, c4, c5, c6, c7⟩
theorem c_short' (X : WX bk) (R : CRd h N0 b t k bk G Cp) : ∃ h' r, E (d + 10) 233 [.ref b] h = some (some (.int r), h') ∧ SRd h h' N0 b t (st (ff (sFs t k bk)) (fS t (k + 3) 59)) (k + 3) (sBk t k bk) := by
  obtain ⟨C, B, L, hNb, hN, hNg, hS0, hS1, hSd⟩ := R
  have hs := C.1
  have hg := hs.2
  have c4 := X.1.1.2.2.2.2
  obtain ⟨b1', b2', b3', b4', b5', b6', b7', b8'⟩ := id B
  obtain ⟨s1, s2, s3, s4, s5, s6, s7, s8, s9, s10⟩ := b4'
  have cb := C.2.2.2.2.2.1
  rw [t_233 hs, ck_ok cb, s9, ifl (by omega) (by decide)]
  by_cases q : ¬ (bk 0 4 < 20)
  · have q16 : bk 0 4 = 20 := by omega
    obtain ⟨h1, a1, a2, a3, a4⟩ := c_fail (d := d + 8) C (c := 5) (by decide)
    have nz : fX t 5 k ≠ 0 := fX_n (by decide)
    have ef : st (ff (sFs t k bk)) (fS t (k + 3) 59) = fX t 5 k := by unfold sFs; rw [if_pos q16, ff_n nz]; exact if_neg nz
    rw [if_neg q, ck_ok cb, a1, cK_v, t_233_14 a2.1, if_pos (by decide), ef]
    exact ⟨h1, _, rfl, stop_f k nz (Fr.bf a3) (by rw [a3.ct.1]; omega) (by rw [a3.ct.2]; omega) a2 a4⟩
  have q := Decidable.not_not.mp q
  have e16 : (if bk 0 4 = 20 then fX t 5 k else 0) = 0 := if_neg (by omega)
  have eF : ff (sFs t k bk) = ff [fM t (k + 1) (bk 5) (bk 0 4), fM t (k + 2) (bk 5) 0] := by unfold sFs; rw [e16]; rfl
  obtain ⟨g1, a1, C1, F1, I1⟩ := c_tNm (d := d + 1) C
  rw [if_pos q, ck_ok cb, a1, cK_v, t_233_19 C1.1]
  by_cases q1 : ¬ (fm t (k + 1) = 0)
  · have eM : fM t (k + 1) (bk 5) (bk 0 4) = fm t (k + 1) := by rw [fM_d]; exact if_neg q1
    have ef : st (ff (sFs t k bk)) (fS t (k + 3) 59) = fm t (k + 1) := by rw [eF, eM, ff_n q1]; exact if_neg q1
    rw [bz_n q1, if_pos rfl, ef]
    exact ⟨g1, _, rfl, stop_f (k + 1) q1 (Fr.bf F1) (by rw [F1.ct.1]; omega) (by rw [F1.ct.2]; omega) C1 (by rw [I1, if_neg q1])⟩
  have q1 := Decidable.not_not.mp q1
  have k1 := fm_0 q1
  have v1b := (tV_b (t := t) (k := k + 1)).1 k1
  have hv1 : gL g1 3078 101 = lN (tV t (k + 1)) := C1.2.2.2.2.1.2.2.1 k1
  have B1 : CB g1 b bk G Cp := B.bf C.2.1 (Fr.bf (N := gN h) F1) (Nat.le_refl _)
  rw [q1, if_pos rfl] at I1
  rw [q1, bz_0, if_neg (by decide), ck_ok C1.2.2.2.2.2.1, C1.2.2.2.2.2.2, Option.bind_some, ck_ok C1.1.t101.1, ck_ok C1.2.2.2.2.2.1, hv1, c_short C1.1 X.1 B1 (lt37 v1b (by decide)), cK_v, t_233_35 C1.1]
  have dpE : dpF t (k + 1) (bk 5) (bk 0 4) 0 = 0 ↔ shL bk (tV t (k + 1)) (bk 0 4) 0 = none := by
    rw [sh_dp, dp_of]
    constructor
    · intro z i h1 h2; exact ofL_n _ z i (by omega)
    · intro z; exact ofL_z fun i hi => z i (Nat.zero_le _) (by omega)
  cases eo : shL bk (tV t (k + 1)) (bk 0 4) 0 with
  | some i =>
    have ib := sh_b _ _ eo
    have ne : ¬ nI i = -1 := fun z => by
      have : nI i < nI 0 := by rw [z]; decide
      exact nI_nlt (by omega) (by omega) this
    have nd : dpF t (k + 1) (bk 5) (bk 0 4) 0 ≠ 0 := fun z => by rw [dpE.mp z] at eo; cases eo
    have nz : fX t 3 (k + 1) ≠ 0 := fX_n (by decide)
    have eD : dpF t (k + 1) (bk 5) (bk 0 4) 0 = fX t 3 (k + 1) := by
      unfold dpF at nd ⊢; split
      · rfl
      · rename_i z; rw [if_neg z] at nd; exact absurd rfl nd
    have eM : fM t (k + 1) (bk 5) (bk 0 4) = fX t 3 (k + 1) := by rw [fM_d, q1, eD]; rfl
    have ef : st (ff (sFs t k bk)) (fS t (k + 3) 59) = fX t 3 (k + 1) := by rw [eF, eM, ff_n nz]; exact if_neg nz
    obtain ⟨g2, d1, d2, d3, d4⟩ := c_fail (d := d + 8) C1 (c := 3) (by decide)
    show ∃ h' r, (if nI i = -1 then _ else _) = some (some (Value.int r), h') ∧ _
    rw [if_neg ne, ck_ok C1.2.2.2.2.2.1, d1, cK_v, t_233_44 d2.1, if_pos (by decide), ef]
    exact ⟨g2, _, rfl, stop_f (k + 1) nz (Fr.bf (F1.trans d3)) (by rw [d3.ct.1, F1.ct.1]; omega) (by rw [d3.ct.2, F1.ct.2]; omega) d2 d4⟩
  | none =>
    have eM : fM t (k + 1) (bk 5) (bk 0 4) = 0 := by rw [fM_d, q1, dpE.mpr eo]; rfl
    have eM2 : fM t (k + 2) (bk 5) 0 = fm t (k + 2) := by
      rw [fM_d, dp_f (by rintro ⟨j, _, a, _⟩; omega)]
      unfold st; split <;> simp_all
    have eF1 : ff (sFs t k bk) = fm t (k + 2) := by rw [eF, eM, eM2]; exact ff_1
    obtain ⟨u1, u2, u3, u4, u5, u6, u7, u8, u9, u10⟩ := B1.2.2.2.1
    have x16 : 296 ≤ G 16 0 ∧ 296 ≤ G 16 1 := by omega
    have C1' : CPs (sB g1 (G 16 0) (bk 0 4) (lN (tV t (k + 1)))) b t (k + 1) := C1.sB x16.1
    have B1' := B1.sB (i := 0) (v := lN (tV t (k + 1))) (by decide) (Nat.le_refl (bk 0 4)) hSd
    obtain ⟨g2, a2, C2, F2, I2⟩ := c_tNm (d := d + 1) C1'
    show ∃ h' r, (if (-1 : Int32) = -1 then _ else _) = some (some (Value.int r), h') ∧ _
    rw [if_pos rfl, ck_ok C1.2.2.2.2.2.1, u1, Option.bind_some, ck_ok C1.2.2.2.2.2.1, ck_ok C1.2.2.2.2.2.1, C1.2.2.2.2.2.2, Option.bind_some, ck_ok C1.1.t101.1, cw_ok u2 (by omega), u9, u3, gd_nI (by omega) (by decide), ck_ok C1.2.2.2.2.2.1, ix_nI (by omega), hv1, a2, cK_v, t_233_65 C2.1]
    have bf2 : BFr N0 h g2 := ((Fr.bf F1).sB hS0).trans (Fr.bf F2)
    have ct2 : gN g2 = gN h ∧ gS g2 = gS h := ⟨by rw [F2.ct.1]; exact F1.ct.1, by rw [F2.ct.2]; exact F1.ct.2⟩
    by_cases q2 : ¬ (fm t (k + 2) = 0)
    · have ef : st (ff (sFs t k bk)) (fS t (k + 3) 59) = fm t (k + 2) := by rw [eF1]; exact if_neg q2
      rw [bz_n q2, if_pos rfl, ef]
      exact ⟨g2, _, rfl, stop_f (k + 2) q2 bf2 (by omega) (by omega) C2 (by rw [I2, if_neg q2])⟩
    have q2 := Decidable.not_not.mp q2
    have k2 := fm_0 q2
    have hv2 : gL g2 3078 101 = lN (tV t (k + 2)) := C2.2.2.2.2.1.2.2.1 k2
    have B2 : CB g2 b bk G Cp := B1'.bf C1'.2.1 (Fr.bf (N := gN g1) F2) (Nat.le_refl _)
    obtain ⟨w1, w2, w3, w4, w5, w6, w7, w8, w9, w10⟩ := B2.2.2.2.1
    rw [q2, if_pos rfl] at I2
    have F3' : Fr [518] [] (sB g2 (G 16 1) (bk 0 4) (lN (tV t (k + 2)))) (sI (sB g2 (G 16 1) (bk 0 4) (lN (tV t (k + 2)))) 518 b (nI (bk 0 4 + 1))) := Fr.rfl.sI (by decide)
    have C2' : CPs (sI (sB g2 (G 16 1) (bk 0 4) (lN (tV t (k + 2)))) 518 b (nI (bk 0 4 + 1))) b t (k + 2) := (C2.sB x16.2).fr F3' (by decide)
    obtain ⟨g3, a3, C3, F3, I3⟩ := c_tEn (d := d + 1) C2'
    rw [q2, bz_0, if_neg (by decide), ck_ok C2.2.2.2.2.2.1, w6, Option.bind_some, ck_ok C2.2.2.2.2.2.1, ck_ok C2.2.2.2.2.2.1, C2.2.2.2.2.2.2, Option.bind_some, ck_ok C2.1.t101.1, cw_ok w7 (by omega), w9, w8, gd_nI (by omega) (by decide), ck_ok C2.2.2.2.2.2.1, ck_ok C2.2.2.2.2.2.1, ck_ok C2.2.2.2.2.2.1, ix_nI (by omega), hv2, nI_add, a3, cK_v, t_233_100 C3.1, bz_ret]
    have bf3 : BFr N0 h g3 := ((bf2.sB hS1).sI hNb).trans (Fr.bf F3)
    have stE : st (ff (sFs t k bk)) (fS t (k + 3) 59) = fS t (k + 3) 59 := by rw [eF1, q2]; rfl
    rw [stE]
    refine ⟨g3, _, rfl, bf3, by rw [F3.ct.1]; show gN g2 ≤ _; omega, by rw [F3.ct.2]; show gS g2 ≤ _; omega, ⟨k + 3, C3⟩, fun z => by rw [I3, if_neg z], fun z => ⟨?_, G, Cp, C3, ?_, ?_, hNb, hN, ?_, hS0, hS1, hSd⟩⟩
    · rw [I3, if_pos z, gI_k (by decide)]
      show gI g2 519 b = _
      rw [I2]; exact I1
    · have k0 : sBk t k bk 0 4 = bk 0 4 + 1 := up2_s
      have kx : ∀ j, j ≠ 4 → sBk t k bk 0 j = bk 0 j := fun j hj => by
        unfold sBk; rw [up2_x hj, up2_k (by decide), up2_k (by decide)]
      have kq : ∀ j, j ≠ 0 → j ≠ 5 → j ≠ 6 → sBk t k bk j = bk j := fun j m0 m1 m2 => by
        unfold sBk; rw [up2_k m0, up2_k m2, up2_k m1]
      have kn5 : ∀ i, sBk t k bk 5 i = if i = bk 0 4 then tV t (k + 1) else bk 5 i := fun i => by unfold sBk; simp [up2, up1]
      have kn6 : ∀ i, sBk t k bk 6 i = if i = bk 0 4 then tV t (k + 2) else bk 6 i := fun i => by unfold sBk; simp [up2, up1]
      have B2' := B2.sB (i := 1) (v := lN (tV t (k + 2))) (by decide) (Nat.le_refl (bk 0 4)) hSd
      have gg : CB (sI (sB g2 (G 16 1) (bk 0 4) (lN (tV t (k + 2)))) 518 b (nI (bk 0 4 + 1))) b (sBk t k bk) G Cp := by
        obtain ⟨v1, v2, v3, v4, v5, v6, v7, v8⟩ := B2'
        refine ⟨v1, v2, fun j hj => ?_, ?_, fun i hi => ?_, fun p hp => ?_, fun s hS => ?_, fun c hc => ?_⟩
        · rw [kx j (by omega)]
          refine ⟨(v3 j hj).1, ?_⟩
          obtain ⟨z1, z2, z3, z4, z5, z6⟩ := (v3 j hj).2
          exact ⟨z1, z2, z3, z4, by rw [gI_k (by decide)]; exact z5, z6⟩
        · obtain ⟨z1, z2, z3, z4, z5, z6, z7, z8, z9, z10⟩ := v4
          refine ⟨z1, z2, z3, z4, z5, z6, z7, z8, by rw [k0]; exact gI_s, fun i hi => ?_⟩
          rw [k0] at hi
          rw [kn5, kn6]
          by_cases ei : i = bk 0 4
          · rw [if_pos ei, if_pos ei, ei]
            refine ⟨?_, ?_⟩
            · rw [gBI, gB_k hSd, F2.gB', gB_s, up1_s]
            · rw [gBI, gB_s, up1_s]
          · rw [if_neg ei, if_neg ei]; exact z10 i (by omega)
        · rw [kx 0 (by decide)] at hi
          rw [kq 1 (by decide) (by decide) (by decide), kq 2 (by decide) (by decide) (by decide), kq 3 (by decide) (by decide) (by decide), kq 4 (by decide) (by decide) (by decide)]
          obtain ⟨z1, z2, z3, z4, z5, z6⟩ := v5 i hi
          exact ⟨z1, z2, by rw [gI_k (by decide)]; exact z3, by rw [gI_k (by decide)]; exact z4, by rw [gI_k (by decide)]; exact z5, z6⟩
        · rw [kx 1 (by decide)] at hp
          rw [kq 7 (by decide) (by decide) (by decide), kq 8 (by decide) (by decide) (by decide), kq 9 (by decide) (by decide) (by decide), kq 10 (by decide) (by decide) (by decide), kq 11 (by decide) (by decide) (by decide), kq 12 (by decide) (by decide) (by decide), kq 13 (by decide) (by decide) (by decide), kq 14 (by decide) (by decide) (by decide), kq 15 (by decide) (by decide) (by decide), kq 16 (by decide) (by decide) (by decide)]
          obtain ⟨z1, z2, z3, z4, z5, z6, z7, z8, z9, z10⟩ := v6 p hp
          exact ⟨z1, by rw [gI_k (by decide)]; exact z2, by rw [gI_k (by decide)]; exact z3, by rw [gI_k (by decide)]; exact z4, by rw [gI_k (by decide)]; exact z5, by rw [gI_k (by decide)]; exact z6, by rw [gI_k (by decide)]; exact z7, by rw [gI_k (by decide)]; exact z8, by rw [gI_k (by decide)]; exact z9, z10⟩
        · rw [kx 2 (by decide)] at hS
          rw [kq 17 (by decide) (by decide) (by decide), kq 18 (by decide) (by decide) (by decide), kq 19 (by decide) (by decide) (by decide), kq 20 (by decide) (by decide) (by decide), kq 21 (by decide) (by decide) (by decide), kq 22 (by decide) (by decide) (by decide), kq 23 (by decide) (by decide) (by decide), kq 24 (by decide) (by decide) (by decide)]
          obtain ⟨z1, z2, z3, z4, z5, z6⟩ := v7 s hS
          exact ⟨z1, z2, by rw [gI_k (by decide)]; exact z3, by rw [gI_k (by decide)]; exact z4, by rw [gI_k (by decide)]; exact z5, z6⟩
        · rw [kx 3 (by decide)] at hc
          rw [kq 25 (by decide) (by decide) (by decide), kq 26 (by decide) (by decide) (by decide), kq 27 (by decide) (by decide) (by decide), kq 28 (by decide) (by decide) (by decide), kq 29 (by decide) (by decide) (by decide), kq 30 (by decide) (by decide) (by decide), kq 31 (by decide) (by decide) (by decide)]
          obtain ⟨z1, z2, z3, z4, z5, z6, z7, z8, z9⟩ := v8 c hc
          exact ⟨z1, by rw [gI_k (by decide)]; exact z2, by rw [gI_k (by decide)]; exact z3, by rw [gI_k (by decide)]; exact z4, by rw [gI_k (by decide)]; exact z5, by rw [gI_k (by decide)]; exact z6, by rw [gI_k (by decide)]; exact z7, by rw [gI_k (by decide)]; exact z8, z9⟩
      exact gg.bf C2'.2.1 (Fr.bf (N := gN g2) F3) (Nat.le_refl _)
    · have kx : ∀ j, j ≠ 4 → sBk t k bk 0 j = bk 0 j := fun j hj => by
        unfold sBk; rw [up2_x hj, up2_k (by decide), up2_k (by decide)]
      exact L.cg (by rw [F3.2.1]; show gC g2 = _; rw [F2.2.1]; exact F1.2.1) (by rw [F3.2.2.1]; show gK g2 = _; rw [F2.2.2.1]; exact F1.2.2.1) (by rw [F3.2.2.2.1]; show gR g2 = _; rw [F2.2.2.2.1]; exact F1.2.2.2.1) (by rw [F3.2.2.2.2.1]; show gO g2 = _; rw [F2.2.2.2.2.1]; exact F1.2.2.2.2.1) (by rw [F3.I (by decide), gI_k (by decide)]; show gI g2 258 = _; rw [F2.I (by decide)]; exact F1.I (by decide)) (by rw [F3.ct.1]; exact ct2.1) (fun j hj => kx j (by omega))
    · rw [F3.ct.1]; show N0 ≤ gN g2; omega
end CSH
