/-! ===== THE BOOK: a service's rules (component) ===== -/
abbrev KRu : List Nat := [2563, 519, 3074, 3075, 3076, 3077, 3078]
/-- only the service x, its rows, the token, a fault -/
def RFr (x : Nat) (h h' : AH) : Prop := Fr KRu [x + 1, x + 2, x + 3, x + 4] h h' ∧ (∀ y, y ≠ x → gI h' 2563 y = gI h 2563 y) ∧ gL h' 2563 = gL h 2563
/-- a service and its first i rules; the rules begin at p -/
def SvS (h : AH) (t : Tp) (p x i : Nat) : Prop := gC h x = 10 ∧ (∀ j, j < 4 → gR h (2564 + j) x = some (x + 1 + j) ∧ gC h (x + 1 + j) = 60 ∧ gK h (x + 1 + j) = 8) ∧ gI h 2563 x = nI i ∧ ∀ j, j < i → gA h (x + 1) j = nI (ruK t (ruP t p j)) ∧ gA h (x + 2) j = nI (ruA t (ruP t p j)) ∧ (ruK t (ruP t p j) = 1 ∨ ruK t (ruP t p j) = 2 → gA h (x + 3) j = nI (ruB t (ruP t p j))) ∧ (ruK t (ruP t p j) = 1 → gA h (x + 4) j = nI (ruC t (ruP t p j)))
section CRU
variable {d : Nat} {h h' h'' : AH} {b : Nat} {t : Tp} {k x : Nat}
theorem RFr.rfl : RFr x h h := ⟨Fr.rfl, fun _ _ => Eq.refl _, Eq.refl _⟩
theorem RFr.trans (a : RFr x h h') (b : RFr x h' h'') : RFr x h h'' := ⟨a.1.trans b.1, fun y q => (b.2.1 y q).trans (a.2.1 y q), b.2.2.trans a.2.2⟩
theorem RFr.op (a : RFr x h h') (f : Fr KTk [] h' h'') : RFr x h h'' := a.trans ⟨f.wk (by decide) (fun _ q => absurd q List.not_mem_nil), fun y _ => by rw [f.I (by decide)], f.L (by decide)⟩
theorem RFr.sA (a : RFr x h h') {j i : Nat} {v : Int32} (hj : j < 4) : RFr x h (sA h' (x + 1 + j) i v) := a.trans ⟨Fr.rfl.sA (by
  rcases (by omega : j = 0 ∨ j = 1 ∨ j = 2 ∨ j = 3) with rfl | rfl | rfl | rfl <;> simp), fun _ _ => Eq.refl _, Eq.refl _⟩
theorem RFr.sI (a : RFr x h h') {v : Int32} : RFr x h (sI h' 2563 x v) := a.trans ⟨Fr.rfl.sI (by decide), fun y q => gI_x q, Eq.refl _⟩
theorem CPs.sA {h : AH} {y i : Nat} {v : Int32} (C : CPs h b t k) (hy : 296 ≤ y) : CPs (sA h y i v) b t k := by
  have f : Fr [] [y] h (Jvm.Pilot.CPostRoomLaw_law_r9321_2ac549.sA h y i v) := Fr.rfl.sA (List.mem_singleton.mpr rfl)
  exact f.xf hy C
/-- one rule -/
theorem c_rul1 {p q i κ : Nat} (hx : 296 ≤ x) (C : CPs h b t q) (hq : q = ruP t p i) (S : SvS h t p x i) (hi : i < 8) (ek : ruK t q = κ) (hκ : κ ≤ 6) : ∃ h', E (d + 9) 350 [.ref b, .ref x, .int (nI i), .int (nI κ)] h = some (some (.int (bz (ff (ruF t q κ)))), h') ∧ RFr x h h' ∧ (∃ kk, CPs h' b t kk) ∧ (ff (ruF t q κ) ≠ 0 → gI h' 519 b = nI (ff (ruF t q κ))) ∧ (ff (ruF t q κ) = 0 → gI h' 519 b = gI h 519 b ∧ CPs h' b t (q + lnR κ - 1) ∧ SvS h' t p x (i + 1)) := by
  obtain ⟨s1, s2, s3, s4⟩ := S
  obtain ⟨r0, c0, k0⟩ := s2 0 (by decide)
  obtain ⟨r1, c1, k1⟩ := s2 1 (by decide)
  obtain ⟨r2, c2, k2⟩ := s2 2 (by decide)
  obtain ⟨r3, c3, k3⟩ := s2 3 (by decide)
  have r0 : gR h 2564 x = some (x + 1) := r0
  have r1 : gR h 2565 x = some (x + 2) := r1
  have r2 : gR h 2566 x = some (x + 3) := r2
  have r3 : gR h 2567 x = some (x + 4) := r3
  have c0 : gC h (x + 1) = 60 := c0
  have c1 : gC h (x + 2) = 60 := c1
  have c2 : gC h (x + 3) = 60 := c2
  have c3 : gC h (x + 4) = 60 := c3
  have k0 : gK h (x + 1) = 8 := k0
  have k1 : gK h (x + 2) = 8 := k1
  have k2 : gK h (x + 3) = 8 := k2
  have k3 : gK h (x + 4) = 8 := k3
  have hs := C.1
  have C0 : CPs (sA h (x + 1) i (nI κ)) b t q := C.sA (by omega)
  have R0 : RFr x h (sA h (x + 1) i (nI κ)) := RFr.rfl.sA (j := 0) (by decide)
  -- the end: what has been kept
  have cG : ∀ H : AH, RFr x h H → gC H = gC h ∧ gK H = gK h ∧ gR H = gR h := fun H R => ⟨R.1.2.1, R.1.2.2.1, R.1.2.2.2.1⟩
  have fin : ∀ (H : AH), RFr x h H → gA H (x + 1) = up1 (gA h (x + 1)) i (nI κ) → gA H (x + 2) = up1 (gA h (x + 2)) i (nI (ruA t q)) → (∀ j, j < i → gA H (x + 3) j = gA h (x + 3) j) → (∀ j, j < i → gA H (x + 4) j = gA h (x + 4) j) → (κ = 1 ∨ κ = 2 → gA H (x + 3) i = nI (ruB t q)) → (κ = 1 → gA H (x + 4) i = nI (ruC t q)) → SvS (sI H 2563 x (nI (i + 1))) t p x (i + 1) := fun H R g1 g2 g3 g4 g5 g6 => by
    obtain ⟨e1, e2, e3⟩ := cG H R
    refine ⟨by show gC H x = 10; rw [e1]; exact s1, fun j hj => ?_, gI_s, fun j hj => ?_⟩
    · show gR H (2564 + j) x = _ ∧ gC H _ = _ ∧ gK H _ = _
      rw [e1, e2, e3]; exact s2 j hj
    · show gA H (x + 1) j = _ ∧ gA H (x + 2) j = _ ∧ (_ → gA H (x + 3) j = _) ∧ (_ → gA H (x + 4) j = _)
      rw [g1, g2]
      by_cases z : j = i
      · rw [z, up1_s, up1_s, ← hq, ek]; exact ⟨rfl, rfl, g5, g6⟩
      · rw [up1_x z, up1_x z, g3 j (by omega), g4 j (by omega)]; exact s4 j (by omega)
  have nx : x + 1 ≠ x + 2 ∧ x + 1 ≠ x + 3 ∧ x + 1 ≠ x + 4 ∧ x + 2 ≠ x + 3 ∧ x + 2 ≠ x + 4 ∧ x + 3 ≠ x + 4 := by omega
  have amt : ∀ (H : AH) (m lo hh pc : Nat) (ca : Nat), lo < 100000 → hh < 100000 → CPs H b t m → RFr x h H → gI H 519 b = gI h 519 b → gA H (x + 1) = up1 (gA h (x + 1)) i (nI κ) → gA H (x + 2) = gA h (x + 2) → (∀ j, j < i → gA H (x + 3) j = gA h (x + 3) j) → gA H (x + 4) = gA h (x + 4) → (κ = 1 ∨ κ = 2 → gA H (x + 3) i = nI (ruB t q)) → κ ≠ 1 → tV t (m + 1) = ruA t q → ca = fN t (m + 1) lo hh → m + 1 = q + lnR κ - 1 → (pc = 66 ∨ pc = 80) → ∃ h', cK (E (d + 8) 280 [.ref b, .int (nI lo), .int (nI hh)] H) (Q (d + 8) 350 pc [some (.ref b), some (.ref x), some (.int (nI i)), some (.int (nI κ))]) [] = some (some (.int (bz ca)), h') ∧ RFr x h h' ∧ (∃ kk, CPs h' b t kk) ∧ (ca ≠ 0 → gI h' 519 b = nI ca) ∧ (ca = 0 → gI h' 519 b = gI h 519 b ∧ CPs h' b t (q + lnR κ - 1) ∧ SvS h' t p x (i + 1)) := fun H m lo hh pc ca hl hh' CH RH IH G1 G2 G3 G4 G5 n1 eA eC em hpc => by
    obtain ⟨e1, e2, e3⟩ := cG H RH
    obtain ⟨g, a, Cg, Fg, Ig⟩ := c_tNu (d := d) CH (lo := lo) (hi := hh) hl hh'
    have sg : gC g x = 10 := by rw [Fg.2.1, e1]; exact s1
    have rg : gR g 2565 x = some (x + 2) := by rw [Fg.2.2.2.1, e3]; exact r1
    have cg : gC g (x + 2) = 60 ∧ gK g (x + 2) = 8 := ⟨by rw [Fg.2.1, e1]; exact c1, by rw [Fg.2.2.1, e2]; exact k1⟩
    rw [← eC] at a Ig
    have tl : Q (d + 8) 350 pc [some (.ref b), some (.ref x), some (.int (nI i)), some (.int (nI κ))] [.int (bz ca)] g = if ca = 0 then some (some (.int (nI 1)), sI (sA g (x + 2) i (gI g 3077 101)) 2563 x (nI (i + 1))) else some (some (.int (nI 0)), g) := by
      rcases hpc with rfl | rfl
      · rw [t_350_66 Cg.1]
        by_cases z : ca = 0
        · rw [z, bz_0, if_neg (by decide), if_pos rfl, ck_ok sg, rg, Option.bind_some, ck_ok Cg.2.2.2.2.2.1, Cg.2.2.2.2.2.2, Option.bind_some, ck_ok Cg.1.t101.1, cw_ok cg.1 (by omega), cg.2, gd_nI hi (by decide), ife (by omega) (by decide), if_neg n1, ck_ok sg, ix_nI (by omega), nI_add]
        · rw [bz_n z, if_pos rfl, if_neg z]
      · rw [t_350_80 Cg.1]
        by_cases z : ca = 0
        · rw [z, bz_0, if_neg (by decide), if_pos rfl, ck_ok sg, rg, Option.bind_some, ck_ok Cg.2.2.2.2.2.1, Cg.2.2.2.2.2.2, Option.bind_some, ck_ok Cg.1.t101.1, cw_ok cg.1 (by omega), cg.2, gd_nI hi (by decide), ife (by omega) (by decide), if_neg n1, ck_ok sg, ix_nI (by omega), nI_add]
        · rw [bz_n z, if_pos rfl, if_neg z]
    rw [a, cK_v, tl]
    by_cases z : ca = 0
    · rw [if_pos z, z]
      have hv : gI g 3077 101 = nI (ruA t q) := by rw [← eA]; exact Cg.2.2.2.2.1.2.1 (fN_0 (eC.symm.trans z)).1
      rw [z, if_pos rfl] at Ig
      have Rg : RFr x h (sA g (x + 2) i (gI g 3077 101)) := (RH.op Fg).sA (j := 1) (by decide)
      have Cg' : CPs (sI (sA g (x + 2) i (gI g 3077 101)) 2563 x (nI (i + 1))) b t (m + 1) := (Cg.sA (by omega)).fr (Fr.rfl.sI (List.mem_singleton.mpr rfl) : Fr [2563] [] _ (sI (sA g (x + 2) i (gI g 3077 101)) 2563 x (nI (i + 1)))) (by decide)
      refine ⟨_, rfl, Rg.sI, ⟨_, Cg'⟩, fun y => absurd rfl y, fun _ => ⟨?_, by rw [← em]; exact Cg', fin _ Rg ?_ ?_ (fun j hj => ?_) (fun j hj => ?_) (fun y => ?_) (fun y => absurd y n1)⟩⟩
      · rw [gI_k (by decide)]; show gI g 519 b = _; rw [Ig]; exact IH
      · rw [gA_k nx.1, Fg.gA']; exact G1
      · rw [gA_s, hv, Fg.gA', G2]
      · rw [gA_k nx.2.2.2.1.symm, Fg.gA']; exact G3 j hj
      · rw [gA_k nx.2.2.2.2.1.symm, Fg.gA', G4]
      · rw [gA_k nx.2.2.2.1.symm, Fg.gA']; exact G5 y
    · rw [if_neg z]
      exact ⟨g, by rw [bz_n z], RH.op Fg, ⟨_, Cg⟩, fun _ => by rw [Ig, if_neg z], fun y => absurd y z⟩
  rw [t_350 hs, ck_ok s1, r0, Option.bind_some, cw_ok c0 (by omega), k0, gd_nI hi (by decide), ix_nI (by omega), ife (by omega) (by decide), ife (by omega) (by decide)]
  have A01 : gA (sA h (x + 1) i (nI κ)) (x + 1) = up1 (gA h (x + 1)) i (nI κ) := gA_s
  by_cases q1 : κ = 1
  · rw [if_pos q1, ck_ok C.2.2.2.2.2.1]
    have eF : ff (ruF t q κ) = ff [fN t (q + 1) 1 4000, fN t (q + 2) 0 9999, fW t (q + 3) (kw 22), fN t (q + 4) 0 4000] := by unfold ruF; rw [if_pos q1]
    obtain ⟨g1, a1, D1, F1, I1⟩ := c_tNu (d := d) C0 (lo := 1) (hi := 4000) (by decide) (by decide)
    have R1 := R0.op F1
    obtain ⟨e1, e2, e3⟩ := cG g1 R1
    rw [a1, cK_v, t_350_20 D1.1]
    by_cases z1 : ¬ (fN t (q + 1) 1 4000 = 0)
    · have ef : ff (ruF t q κ) = fN t (q + 1) 1 4000 := by rw [eF, ff_n z1]
      rw [bz_n z1, if_pos rfl, ef]
      exact ⟨g1, by rw [bz_n z1], R1, ⟨_, D1⟩, fun _ => by rw [I1, if_neg z1], fun y => absurd y z1⟩
    have z1 := Decidable.not_not.mp z1
    have eF1 : ff (ruF t q κ) = ff [fN t (q + 2) 0 9999, fW t (q + 3) (kw 22), fN t (q + 4) 0 4000] := by rw [eF, z1]; rfl
    rw [z1, if_pos rfl] at I1
    have hv1 : gI g1 3077 101 = nI (tV t (q + 1)) := D1.2.2.2.2.1.2.1 (fN_0 z1).1
    have D1' : CPs (sA g1 (x + 3) i (nI (tV t (q + 1)))) b t (q + 1) := D1.sA (by omega)
    have R1' : RFr x h (sA g1 (x + 3) i (nI (tV t (q + 1)))) := R1.sA (j := 2) (by decide)
    obtain ⟨g2, a2, D2, F2, I2⟩ := c_tNu (d := d) D1' (lo := 0) (hi := 9999) (by decide) (by decide)
    have R2 := R1'.op F2
    obtain ⟨m1, m2, m3⟩ := cG g2 R2
    rw [z1, bz_0, if_neg (by decide), ife (by omega) (by decide), if_neg (by omega), ck_ok (by rw [e1]; exact s1), show gR g1 2566 x = some (x + 3) from by rw [e3]; exact r2, Option.bind_some, ck_ok D1.2.2.2.2.2.1, D1.2.2.2.2.2.2, Option.bind_some, ck_ok D1.1.t101.1, cw_ok (by rw [e1]; exact c2) (by omega), show gK g1 (x + 3) = 8 from by rw [e2]; exact k2, gd_nI hi (by decide), ife (by omega) (by decide), if_neg (by omega), ck_ok D1.2.2.2.2.2.1, ix_nI (by omega), hv1, a2, cK_v, t_350_80 D2.1]
    by_cases z2 : ¬ (fN t (q + 2) 0 9999 = 0)
    · have ef : ff (ruF t q κ) = fN t (q + 2) 0 9999 := by rw [eF1, ff_n z2]
      rw [bz_n z2, if_pos rfl, ef]
      exact ⟨g2, by rw [bz_n z2], R2, ⟨_, D2⟩, fun _ => by rw [I2, if_neg z2], fun y => absurd y z2⟩
    have z2 := Decidable.not_not.mp z2
    have eF2 : ff (ruF t q κ) = ff [fW t (q + 3) (kw 22), fN t (q + 4) 0 4000] := by rw [eF1, z2]; rfl
    rw [z2, if_pos rfl] at I2
    have hv2 : gI g2 3077 101 = nI (tV t (q + 2)) := D2.2.2.2.2.1.2.1 (fN_0 z2).1
    have D2' : CPs (sA g2 (x + 2) i (nI (tV t (q + 2)))) b t (q + 2) := D2.sA (by omega)
    have R2' : RFr x h (sA g2 (x + 2) i (nI (tV t (q + 2)))) := R2.sA (j := 1) (by decide)
    obtain ⟨g3, a3, D3, F3, I3⟩ := c_tWd (d := d) D2' (z := 12) (v := kw 22) (by decide) (by decide +kernel) (wi_z (by decide +kernel)) (by decide +kernel)
    have R3 := R2'.op F3
    rw [z2, bz_0, if_neg (by decide), ck_ok (by rw [m1]; exact s1), show gR g2 2565 x = some (x + 2) from by rw [m3]; exact r1, Option.bind_some, ck_ok D2.2.2.2.2.2.1, D2.2.2.2.2.2.2, Option.bind_some, ck_ok D2.1.t101.1, cw_ok (by rw [m1]; exact c1) (by omega), show gK g2 (x + 2) = 8 from by rw [m2]; exact k1, gd_nI hi (by decide), ife (by omega) (by decide), if_pos q1, ck_ok D2.2.2.2.2.2.1, ix_nI (by omega), hv2, a3, cK_v, t_350_110 D3.1]
    by_cases z3 : ¬ (fW t (q + 3) (kw 22) = 0)
    · have ef : ff (ruF t q κ) = fW t (q + 3) (kw 22) := by rw [eF2, ff_n z3]
      rw [bz_n z3, if_pos rfl, ef]
      exact ⟨g3, by rw [bz_n z3], R3, ⟨_, D3⟩, fun _ => by rw [I3, if_neg z3], fun y => absurd y z3⟩
    have z3 := Decidable.not_not.mp z3
    have eF3 : ff (ruF t q κ) = ff [fN t (q + 4) 0 4000] := by rw [eF2, z3]; rfl
    rw [z3, if_pos rfl] at I3
    obtain ⟨g4, a4, D4, F4, I4⟩ := c_tNu (d := d) D3 (lo := 0) (hi := 4000) (by decide) (by decide)
    have R4 := R3.op F4
    obtain ⟨n1, n2, n3⟩ := cG g4 R4
    rw [z3, bz_0, if_neg (by decide), ck_ok D3.2.2.2.2.2.1, a4, cK_v, t_350_121 D4.1]
    by_cases z4 : ¬ (fN t (q + 4) 0 4000 = 0)
    · have ef : ff (ruF t q κ) = fN t (q + 4) 0 4000 := by rw [eF3, ff_n z4]
      rw [bz_n z4, if_pos rfl, ef]
      exact ⟨g4, by rw [bz_n z4], R4, ⟨_, D4⟩, fun _ => by rw [I4, if_neg z4], fun y => absurd y z4⟩
    have z4 := Decidable.not_not.mp z4
    have eF4 : ff (ruF t q κ) = 0 := by rw [eF3, z4]; rfl
    rw [z4, if_pos rfl] at I4
    have hv4 : gI g4 3077 101 = nI (tV t (q + 4)) := D4.2.2.2.2.1.2.1 (fN_0 z4).1
    have R4' : RFr x h (sA g4 (x + 4) i (nI (tV t (q + 4)))) := R4.sA (j := 3) (by decide)
    have D4' : CPs (sI (sA g4 (x + 4) i (nI (tV t (q + 4)))) 2563 x (nI (i + 1))) b t (q + 4) := (D4.sA (by omega)).fr (Fr.rfl.sI (List.mem_singleton.mpr rfl) : Fr [2563] [] _ (sI (sA g4 (x + 4) i (nI (tV t (q + 4)))) 2563 x (nI (i + 1)))) (by decide)
    rw [z4, bz_0, if_neg (by decide), ck_ok (by rw [n1]; exact s1), show gR g4 2567 x = some (x + 4) from by rw [n3]; exact r3, Option.bind_some, ck_ok D4.2.2.2.2.2.1, D4.2.2.2.2.2.2, Option.bind_some, ck_ok D4.1.t101.1, cw_ok (by rw [n1]; exact c3) (by omega), show gK g4 (x + 4) = 8 from by rw [n2]; exact k3, gd_nI hi (by decide), ck_ok (by rw [n1]; exact s1), ix_nI (by omega), hv4, nI_add, eF4]
    refine ⟨_, rfl, R4'.sI, ⟨_, D4'⟩, fun y => absurd rfl y, fun _ => ⟨?_, ?_, fin _ R4' ?_ ?_ (fun j hj => ?_) (fun j hj => ?_) (fun _ => ?_) (fun _ => ?_)⟩⟩
    · rw [gI_k (by decide)]; show gI g4 519 b = _; rw [I4, I3]; show gI g2 519 b = _; rw [I2]; show gI g1 519 b = _; rw [I1]; rfl
    · rw [show q + lnR κ - 1 = q + 4 from by unfold lnR; rw [if_pos q1]; omega]; exact D4'
    · rw [gA_k nx.2.2.1, F4.gA', F3.gA', gA_k nx.1, F2.gA', gA_k nx.2.1, F1.gA']; exact A01
    · rw [gA_k nx.2.2.2.2.1, F4.gA', F3.gA', gA_s, F2.gA', gA_k nx.2.2.2.1, F1.gA', gA_k nx.1.symm]
      unfold ruA; rw [ek, if_pos (Or.inl q1)]
    · rw [gA_k nx.2.2.2.2.2, F4.gA', F3.gA', gA_k nx.2.2.2.1.symm, F2.gA', gA_s, up1_x (by omega), F1.gA', gA_k nx.2.1.symm]
    · rw [gA_s, up1_x (by omega), F4.gA', F3.gA', gA_k nx.2.2.2.2.1.symm, F2.gA', gA_k nx.2.2.2.2.2.symm, F1.gA', gA_k nx.2.2.1.symm]
    · rw [gA_k nx.2.2.2.2.2, F4.gA', F3.gA', gA_k nx.2.2.2.1.symm, F2.gA', gA_s, up1_s]
      unfold ruB; rw [ek, if_pos (Or.inl q1)]
    · rw [gA_s, up1_s]; unfold ruC; rw [ek, if_pos q1]
  · rw [if_neg q1]
    by_cases q2 : κ = 2
    · rw [if_pos q2, ck_ok C.2.2.2.2.2.1]
      have eF : ff (ruF t q κ) = ff [fN t (q + 1) 0 9, fN t (q + 2) 0 9999] := by unfold ruF; rw [if_neg q1, if_pos q2]
      obtain ⟨g1, a1, D1, F1, I1⟩ := c_tNu (d := d) C0 (lo := 0) (hi := 9) (by decide) (by decide)
      have R1 := R0.op F1
      obtain ⟨e1, e2, e3⟩ := cG g1 R1
      rw [a1, cK_v, t_350_35 D1.1]
      by_cases z1 : ¬ (fN t (q + 1) 0 9 = 0)
      · have ef : ff (ruF t q κ) = fN t (q + 1) 0 9 := by rw [eF, ff_n z1]
        rw [bz_n z1, if_pos rfl, ef]
        exact ⟨g1, by rw [bz_n z1], R1, ⟨_, D1⟩, fun _ => by rw [I1, if_neg z1], fun y => absurd y z1⟩
      have z1 := Decidable.not_not.mp z1
      have eF1 : ff (ruF t q κ) = fN t (q + 2) 0 9999 := by rw [eF, z1]; exact ff_1
      rw [z1, if_pos rfl] at I1
      have hv1 : gI g1 3077 101 = nI (tV t (q + 1)) := D1.2.2.2.2.1.2.1 (fN_0 z1).1
      have D1' : CPs (sA g1 (x + 3) i (nI (tV t (q + 1)))) b t (q + 1) := D1.sA (by omega)
      have R1' : RFr x h (sA g1 (x + 3) i (nI (tV t (q + 1)))) := R1.sA (j := 2) (by decide)
      rw [z1, bz_0, if_neg (by decide), ck_ok (by rw [e1]; exact s1), show gR g1 2566 x = some (x + 3) from by rw [e3]; exact r2, Option.bind_some, ck_ok D1.2.2.2.2.2.1, D1.2.2.2.2.2.2, Option.bind_some, ck_ok D1.1.t101.1, cw_ok (by rw [e1]; exact c2) (by omega), show gK g1 (x + 3) = 8 from by rw [e2]; exact k2, gd_nI hi (by decide), ife (by omega) (by decide), if_neg (by omega), ck_ok D1.2.2.2.2.2.1, ix_nI (by omega), hv1, eF1]
      refine amt _ (q + 1) 0 9999 80 _ (by decide) (by decide) D1' R1' ?_ ?_ ?_ (fun j hj => ?_) ?_ (fun _ => ?_) q1 ?_ rfl ?_ (Or.inr rfl)
      · show gI g1 519 b = _; rw [I1]; rfl
      · rw [gA_k nx.2.1, F1.gA']; exact A01
      · rw [gA_k nx.2.2.2.1, F1.gA', gA_k nx.1.symm]
      · rw [gA_s, up1_x (by omega), F1.gA', gA_k nx.2.1.symm]
      · rw [gA_k nx.2.2.2.2.2.symm, F1.gA', gA_k nx.2.2.1.symm]
      · rw [gA_s, up1_s]; unfold ruB; rw [ek, if_pos (Or.inr q2)]
      · unfold ruA; rw [ek, if_pos (Or.inr q2)]
      · unfold lnR; rw [if_neg q1, if_pos q2]; omega
    · rw [if_neg q2, ck_ok s1, r2, Option.bind_some, ck_ok C.2.2.2.2.2.1, C.2.2.2.2.2.2, Option.bind_some, ck_ok C.1.t101.1, cw_ok c2 (by omega), k2, gd_nI hi (by decide), ife (by omega) (by decide)]
      have D1' : CPs (sA (sA h (x + 1) i (nI κ)) (x + 3) i (gI h 3077 101)) b t q := C0.sA (by omega)
      have R1' : RFr x h (sA (sA h (x + 1) i (nI κ)) (x + 3) i (gI h 3077 101)) := R0.sA (j := 2) (by decide)
      have go : ∀ lo hh pc : Nat, lo < 100000 → hh < 100000 → (pc = 66 ∨ pc = 80) → ff (ruF t q κ) = fN t (q + 1) lo hh → ∃ h', cK (E (d + 8) 280 [.ref b, .int (nI lo), .int (nI hh)] (sA (sA h (x + 1) i (nI κ)) (x + 3) i (gI h 3077 101))) (Q (d + 8) 350 pc [some (.ref b), some (.ref x), some (.int (nI i)), some (.int (nI κ))]) [] = some (some (.int (bz (ff (ruF t q κ)))), h') ∧ RFr x h h' ∧ (∃ kk, CPs h' b t kk) ∧ (ff (ruF t q κ) ≠ 0 → gI h' 519 b = nI (ff (ruF t q κ))) ∧ (ff (ruF t q κ) = 0 → gI h' 519 b = gI h 519 b ∧ CPs h' b t (q + lnR κ - 1) ∧ SvS h' t p x (i + 1)) := fun lo hh pc h1 h2 h3 h4 => by
        refine amt _ q lo hh pc _ h1 h2 D1' R1' rfl ?_ ?_ (fun j hj => ?_) ?_ (fun y => absurd y (by omega)) q1 ?_ h4 ?_ h3
        · rw [gA_k nx.2.1]; exact A01
        · rw [gA_k nx.2.2.2.1, gA_k nx.1.symm]
        · rw [gA_s, up1_x (by omega), gA_k nx.2.1.symm]
        · rw [gA_k nx.2.2.2.2.2.symm, gA_k nx.2.2.1.symm]
        · unfold ruA; rw [ek, if_neg (by omega)]
        · unfold lnR; rw [if_neg q1, if_neg q2]; omega
      by_cases q6 : κ = 6
      · rw [if_pos q6, ck_ok C.2.2.2.2.2.1]
        exact go 1 99 66 (by decide) (by decide) (Or.inl rfl) (by unfold ruF; rw [if_neg q1, if_neg q2, if_pos q6, ff_1])
      · rw [if_neg q6, ck_ok C.2.2.2.2.2.1]
        exact go 0 9999 80 (by decide) (by decide) (Or.inr rfl) (by unfold ruF; rw [if_neg q1, if_neg q2, if_neg q6, ff_1])
theorem wI_ru {q : Nat} : wI t q [kw 20, kw 21, kw 23, kw 24, kw 25, kw 26, kw 27] = rKd t q := by
  have e : ∀ (n j : Nat) (l : List Nat), l = (List.range n).map (fun i => kw (rkR (j + i))) → (wI t q l).map (fun i => j + i) = rKL t q n j := fun n => by
    induction n with
    | zero => intro j l hl; rw [hl]; show Option.map _ (wI t q []) = _; rw [wI_n, rKL]; rfl
    | succ n ih =>
      intro j l hl
      have hl2 : l = kw (rkR j) :: (List.range n).map (fun i => kw (rkR (j + 1 + i))) := by
        rw [hl, List.range_succ_eq_map, List.map_cons, List.map_map]
        congr 1
        apply List.map_congr_left
        intro a _
        show kw (rkR (j + (a + 1))) = kw (rkR (j + 1 + a))
        rw [show j + (a + 1) = j + 1 + a from by omega]
      rw [hl2, wI_c, rKL]
      by_cases a : isW t q (kw (rkR j))
      · rw [if_pos a, if_pos a]; rfl
      · rw [if_neg a, if_neg a, ← ih (j + 1) _ rfl, Option.map_map]
        congr 1
        funext i
        show j + (i + 1) = j + 1 + i
        omega
  have := e 7 0 [kw 20, kw 21, kw 23, kw 24, kw 25, kw 26, kw 27] rfl
  unfold rKd
  rw [← this]
  have e2 : (fun i : Nat => 0 + i) = id := by funext j; exact Nat.zero_add j
  rw [e2, Option.map_id]; rfl
theorem c_rlp {p : Nat} (hx : 296 ≤ x) : ∀ (r i m : Nat) {H : AH}, r + i = 9 → 0 < r → m + 1 = ruP t p i → CPs H b t m → SvS H t p x i → ∃ h', Q (d + 9) 291 2 [some (.ref b), some (.ref x), some (.int (nI i)), none] [] H = some (some (.int (bz (rlF t p r i).1)), h') ∧ RFr x H h' ∧ (∃ kk, CPs h' b t kk) ∧ ((rlF t p r i).1 ≠ 0 → gI h' 519 b = nI (rlF t p r i).1) ∧ ((rlF t p r i).1 = 0 → gI h' 519 b = gI H 519 b ∧ CPs h' b t (ruP t p (rlF t p r i).2) ∧ SvS h' t p x (rlF t p r i).2) := by
  intro r
  induction r with
  | zero => intro i m H e h0; omega
  | succ r ih =>
    intro i m H e _ hm C S
    obtain ⟨g1, a1, C1, F1, I1⟩ := C.nx (d := d + 2)
    rw [hm] at C1
    have R1 : RFr x H g1 := RFr.rfl.op F1
    have S1 : SvS g1 t p x i := by
      obtain ⟨s1, s2, s3, s4⟩ := S
      refine ⟨by rw [F1.2.1]; exact s1, fun j hj => by rw [F1.2.1, F1.2.2.1, F1.2.2.2.1]; exact s2 j hj, by rw [F1.I (by decide)]; exact s3, fun j hj => by rw [F1.gA']; exact s4 j hj⟩
    have tb := tK_b (t := t) (k := ruP t p i)
    rw [t_291_2 C.1, if_neg (nI_nlt (by omega) (by omega)), ck_ok C.2.2.2.2.2.1, C.2.2.2.2.2.2, Option.bind_some, ck_ok C.1.t101.1, a1, cK_n, t_291_15 C1.1, ck_ok C1.2.2.2.2.2.1, C1.2.2.2.2.2.2, Option.bind_some, ck_ok C1.1.t101.1, C1.2.2.2.2.1.1, ife (show (tok t (tkP t (ruP t p i))).1 < 2 ^ 31 from Nat.lt_trans tb (by decide)) (by decide), rlF]
    by_cases q : tK t (ruP t p i) = 59
    · rw [if_pos (show (tok t (tkP t (ruP t p i))).1 = 59 from q), if_pos q]
      exact ⟨g1, rfl, R1, ⟨_, C1⟩, fun z => absurd rfl z, fun _ => ⟨by rw [I1], C1, S1⟩⟩
    · have wi := c_wI (d := d + 4) C1 (z := 11) (l := [kw 20, kw 21, kw 23, kw 24, kw 25, kw 26, kw 27]) (by decide) (by decide +kernel) (wi_z (by decide +kernel)) (by decide +kernel)
      rw [wI_ru] at wi
      rw [if_neg (show ¬ (tok t (tkP t (ruP t p i))).1 = 59 from q), if_neg q, ck_ok C1.2.2.2.2.2.1, Option.bind_some, ck_ok C1.1.t101.1, wi, cK_v, t_291_38 C1.1]
      cases ek : rKd t (ruP t p i) with
      | none =>
        have e1 : r1F t (ruP t p i) i = fX t 1 (ruP t p i) := by unfold r1F; rw [ek]
        have nz : fX t 1 (ruP t p i) ≠ 0 := fX_n (by decide)
        obtain ⟨g2, d1, d2, d3, d4⟩ := c_fail (d := d + 8) C1 (c := 1) (by decide)
        rw [if_pos (show oI none = -1 from rfl), ck_ok C1.2.2.2.2.2.1, d1, cK_v, t_291_49 d2.1, if_pos (by decide), e1, if_neg nz]
        exact ⟨g2, by rw [bz_n nz], R1.op d3, ⟨_, d2⟩, fun _ => d4, fun z => absurd z nz⟩
      | some κ =>
        have kb := (rKL_s 7 0 ek).2.1
        have ruk : ruK t (ruP t p i) = κ := by unfold ruK; rw [ek]; rfl
        have ne : ¬ oI (some κ) = -1 := fun z => by
          have : nI κ < nI 0 := by show oI (some κ) < nI 0; rw [z]; decide
          exact nI_nlt (by omega) (by omega) this
        rw [if_neg ne, ifl (by omega) (by decide)]
        by_cases q8 : i < 8
        · have e1 : r1F t (ruP t p i) i = ff (ruF t (ruP t p i) κ) := by unfold r1F; rw [ek]; exact if_neg (by omega)
          obtain ⟨g2, a2, R2, ⟨kk2, K2⟩, E2, V2⟩ := c_rul1 (d := d) hx C1 rfl S1 q8 ruk (by omega)
          rw [if_pos q8, ck_ok C1.2.2.2.2.2.1, show oI (some κ) = nI κ from rfl, a2, cK_v, t_291_69 K2.1, e1]
          by_cases z : ff (ruF t (ruP t p i) κ) = 0
          · obtain ⟨i2, C2, S2⟩ := V2 z
            have hm2 : ruP t p i + lnR κ - 1 + 1 = ruP t p (i + 1) := by
              rw [ruP, ruk]
              have : 2 ≤ lnR κ := by unfold lnR; (repeat' split) <;> omega
              omega
            have r0 : 0 < r := by omega
            obtain ⟨h', o1, o2, o3, o4, o5⟩ := ih (i + 1) _ (by omega) r0 hm2 C2 S2
            rw [z, bz_0, if_neg (by decide), if_pos rfl, nI_add]
            exact ⟨h', o1, (R1.trans R2).trans o2, o3, o4, fun y => by
              obtain ⟨y1, y2⟩ := o5 y
              exact ⟨by rw [y1, i2, I1], y2⟩⟩
          · rw [bz_n z, if_pos rfl, if_neg z]
            exact ⟨g2, by rw [bz_n z], R1.trans R2, ⟨_, K2⟩, fun _ => E2 z, fun y => absurd y z⟩
        · have i8 : i = 8 := by omega
          have e1 : r1F t (ruP t p i) i = fX t 5 (ruP t p i) := by unfold r1F; rw [ek]; exact if_pos i8
          have nz : fX t 5 (ruP t p i) ≠ 0 := fX_n (by decide)
          obtain ⟨g2, d1, d2, d3, d4⟩ := c_fail (d := d + 8) C1 (c := 5) (by decide)
          rw [if_neg q8, ck_ok C1.2.2.2.2.2.1, d1, cK_v, t_291_61 d2.1, if_pos (by decide), e1, if_neg nz]
          exact ⟨g2, by rw [bz_n nz], R1.op d3, ⟨_, d2⟩, fun _ => d4, fun z => absurd z nz⟩
end CRU
