/-! ===== THE BOOK: streets (component) ===== -/
section CSU
variable {d : Nat} {h : AH} {N0 b : Nat} {t : Tp} {k : Nat} {bk : Bk} {G Cp : Nat → Nat → Nat}
abbrev KNm : List Nat := [2818, 2819, 2820, 519, 3074, 3075, 3076, 3077, 3078]
def nuF (t : Tp) (q : Nat) : List Nat := [fN t (q + 1) 1 999, fW t (q + 2) (kw 8), fN t (q + 3) (tV t (q + 1)) 999]

theorem c_numsB {x : Nat} (C : CPs h b t k) (hx : gC h x = 11) (hxN : x ≤ x) : ∃ h', cK (E (d + 8) 280 [.ref b, .int (nI 1), .int (nI 999)] h) (Q (d + 8) 287 58 [some (.ref b), some (.ref x)]) [] = some (some (.int (bz (ff (nuF t k)))), h') ∧ BFr x h h' ∧ gN h' ≤ gN h ∧ gS h' ≤ gS h ∧ (∃ kk, CPs h' b t kk) ∧ (ff (nuF t k) ≠ 0 → gI h' 519 b = nI (ff (nuF t k))) ∧ (ff (nuF t k) = 0 → gI h' 519 b = gI h 519 b ∧ CPs h' b t (k + 3) ∧ Fr KNm [] h h' ∧ gI h' 2819 x = nI (tV t (k + 1)) ∧ gI h' 2820 x = nI (tV t (k + 3)) ∧ gI h' 2818 x = gI h 2818 x) := by
  have eF : ff (nuF t k) = ff [fN t (k + 1) 1 999, fW t (k + 2) (kw 8), fN t (k + 3) (tV t (k + 1)) 999] := rfl
  have ct0 : gN h = gN h + 0 ∧ gS h = gS h + 0 := ⟨rfl, rfl⟩
  obtain ⟨g1, a1, C1, F1, I1⟩ := c_tNu (d := d + 0) C (lo := 1) (hi := 999) (by decide) (by decide)
  rw [a1, cK_v, t_287_58 C1.1]
  have bf1 : BFr (x) h g1 := (BFr.rfl).trans (Fr.bf F1)
  have ct1 : gN g1 = gN h + 0 ∧ gS g1 = gS h + 0 := ⟨by rw [F1.ct.1]; exact ct0.1, by rw [F1.ct.2]; exact ct0.2⟩
  by_cases q1 : ¬ (fN t (k + 1) 1 999 = 0)
  · have ef : ff (nuF t k) = fN t (k + 1) 1 999 := by rw [eF, ff_n q1]
    rw [bz_n q1, if_pos rfl, ef]
    exact ⟨g1, by rw [bz_n q1], bf1, by rw [ct1.1]; exact Nat.le_refl _, by rw [ct1.2]; exact Nat.le_refl _, ⟨_, C1⟩, fun _ => (by rw [I1, if_neg q1]), fun z => absurd z q1⟩
  have q1 := Decidable.not_not.mp q1
  have eF1 : ff (nuF t k) = ff [fW t (k + 2) (kw 8), fN t (k + 3) (tV t (k + 1)) 999] := by rw [eF, q1]; rfl
  rw [q1, if_pos rfl] at I1
  have x1 : gC g1 x = 11 := by rw [F1.2.1]; exact hx
  have k1 := (fN_0 q1).1
  have hv1 : gI g1 3077 101 = nI (tV t (k + 1)) := C1.2.2.2.2.1.2.1 k1
  have F1' : Fr [2819] [] g1 (sI g1 2819 x (nI (tV t (k + 1)))) := Fr.rfl.sI (by decide)
  have C1' := C1.fr F1' (by decide)
  obtain ⟨g2, a2, C2, F2, I2⟩ := c_tWd (d := d + 0) C1' (z := 5) (v := kw 8) (by decide) (by decide +kernel) (wi_z (by decide +kernel)) (by decide +kernel)
  rw [q1, bz_0, if_neg (by decide), ck_ok C1.2.2.2.2.2.1, C1.2.2.2.2.2.2, Option.bind_some, ck_ok C1.1.t101.1, ck_ok x1, ck_ok C1.2.2.2.2.2.1, hv1, a2, cK_v, t_287_80 C2.1]
  have bf2 : BFr (x) h g2 := (bf1.sI (Nat.le_refl _)).trans (Fr.bf F2)
  have ct2 : gN g2 = gN h + 0 ∧ gS g2 = gS h + 0 := ⟨by rw [F2.ct.1]; exact ct1.1, by rw [F2.ct.2]; exact ct1.2⟩
  by_cases q2 : ¬ (fW t (k + 2) (kw 8) = 0)
  · have ef : ff (nuF t k) = fW t (k + 2) (kw 8) := by rw [eF1, ff_n q2]
    rw [bz_n q2, if_pos rfl, ef]
    exact ⟨g2, by rw [bz_n q2], bf2, by rw [ct2.1]; exact Nat.le_refl _, by rw [ct2.2]; exact Nat.le_refl _, ⟨_, C2⟩, fun _ => (by rw [I2, if_neg q2]), fun z => absurd z q2⟩
  have q2 := Decidable.not_not.mp q2
  have eF2 : ff (nuF t k) = ff [fN t (k + 3) (tV t (k + 1)) 999] := by rw [eF1, q2]; rfl
  rw [q2, if_pos rfl] at I2
  have x2 : gC g2 x = 11 := by rw [F2.2.1]; exact x1
  have i2819 : gI g2 2819 x = nI (tV t (k + 1)) := by rw [F2.I (by decide), gI_s]
  obtain ⟨g3, a3, C3, F3, I3⟩ := c_tNu (d := d + 0) C2 (lo := tV t (k + 1)) (hi := 999) (Nat.lt_of_le_of_lt (fN_0 q1).2.2 (by decide)) (by decide)
  rw [q2, bz_0, if_neg (by decide), ck_ok x2, ck_ok C2.2.2.2.2.2.1, i2819, a3, cK_v, t_287_94 C3.1]
  have bf3 : BFr (x) h g3 := (bf2).trans (Fr.bf F3)
  have ct3 : gN g3 = gN h + 0 ∧ gS g3 = gS h + 0 := ⟨by rw [F3.ct.1]; exact ct2.1, by rw [F3.ct.2]; exact ct2.2⟩
  by_cases q3 : ¬ (fN t (k + 3) (tV t (k + 1)) 999 = 0)
  · have ef : ff (nuF t k) = fN t (k + 3) (tV t (k + 1)) 999 := by rw [eF2, ff_n q3]
    rw [bz_n q3, if_pos rfl, ef]
    exact ⟨g3, by rw [bz_n q3], bf3, by rw [ct3.1]; exact Nat.le_refl _, by rw [ct3.2]; exact Nat.le_refl _, ⟨_, C3⟩, fun _ => (by rw [I3, if_neg q3]), fun z => absurd z q3⟩
  have q3 := Decidable.not_not.mp q3
  have eF3 : ff (nuF t k) = ff [] := by rw [eF2, q3]; rfl
  rw [q3, if_pos rfl] at I3
  have x3 : gC g3 x = 11 := by rw [F3.2.1]; exact x2
  have k3 := (fN_0 q3).1
  have hv3 : gI g3 3077 101 = nI (tV t (k + 3)) := C3.2.2.2.2.1.2.1 k3
  rw [q3, bz_0, if_neg (by decide), ck_ok C3.2.2.2.2.2.1, C3.2.2.2.2.2.2, Option.bind_some, ck_ok C3.1.t101.1, ck_ok x3, hv3]
  have F3' : Fr [2820] [] g3 (sI g3 2820 x (nI (tV t (k + 3)))) := Fr.rfl.sI (by decide)
  have C3' := C3.fr F3' (by decide)
  refine ⟨_, by rw [eF3]; rfl, bf3.sI (Nat.le_refl _), by show gN g3 ≤ _; rw [ct3.1]; exact Nat.le_refl _, by show gS g3 ≤ _; rw [ct3.2]; exact Nat.le_refl _, ⟨_, C3'⟩, fun z => absurd eF3 z, fun _ => ⟨?_, C3', ((((F1.wk (by decide) (by decide)).sI (by decide)).trans (F2.wk (K' := KNm) (X' := []) (by decide) (by decide))).trans (F3.wk (by decide) (by decide))).sI (by decide), ?_, gI_s, ?_⟩⟩
  · rw [gI_k (by decide), I3, I2, gI_k (by decide), I1]
  · rw [gI_k (by decide), F3.I (by decide), F2.I (by decide), gI_s]
  · rw [gI_k (by decide), F3.I (by decide), F2.I (by decide), gI_k (by decide), F1.I (by decide)]
theorem wi_3 : ∀ v : Int64, wiS v (chS 3) 0 0 = [kw 7, kw 5, kw 6].findIdx? (fun w => decide (lN w = v)) := wi_z (by decide +kernel)
theorem wI_c {q v : Nat} {l : List Nat} : wI t q (v :: l) = if isW t q v then some 0 else (wI t q l).map (fun i => i + 1) := by
  unfold wI
  by_cases q1 : tK t q = 2
  · rw [if_pos q1, if_pos q1, List.findIdx?_cons]
    by_cases a : tV t q = v
    · rw [decide_eq_true a.symm, if_pos (show isW t q v from ⟨q1, a⟩)]; rfl
    · rw [decide_eq_false (fun z => a z.symm), if_neg (show ¬ isW t q v from fun z => a z.2)]; rfl
  · rw [if_neg q1, if_neg q1, if_neg (show ¬ isW t q v from fun z => q1 z.1)]; rfl
theorem wI_n {q : Nat} : wI t q [] = none := by unfold wI; split <;> rfl
theorem wI_3 {q : Nat} : wI t q [kw 7, kw 5, kw 6] = if isW t q (kw 7) then some 0 else if isW t q (kw 5) then some 1 else if isW t q (kw 6) then some 2 else none := by
  rw [wI_c, wI_c, wI_c, wI_n]
  by_cases a : isW t q (kw 7)
  · rw [if_pos a, if_pos a]
  · rw [if_neg a, if_neg a]
    by_cases a2 : isW t q (kw 5)
    · rw [if_pos a2, if_pos a2]; rfl
    · rw [if_neg a2, if_neg a2]
      by_cases a3 : isW t q (kw 6)
      · rw [if_pos a3, if_pos a3]; rfl
      · rw [if_neg a3, if_neg a3]; rfl
def sdF (t : Tp) (q : Nat) : List Nat := fW t (qsN t q) (kw 7) :: nuF t (qsN t q)
theorem c_nums {x : Nat} (hx : gC h x = 11) (C : CPs h b t k) : ∃ h', E (d + 9) 287 [.ref b, .ref x] h = some (some (.int (bz (ff (sdF t (k + 1))))), h') ∧ BFr x h h' ∧ gN h' ≤ gN h ∧ gS h' ≤ gS h ∧ (∃ kk, CPs h' b t kk) ∧ (ff (sdF t (k + 1)) ≠ 0 → gI h' 519 b = nI (ff (sdF t (k + 1)))) ∧ (ff (sdF t (k + 1)) = 0 → gI h' 519 b = gI h 519 b ∧ CPs h' b t (qsN t (k + 1) + 3) ∧ Fr KNm [] h h' ∧ gI h' 2819 x = nI (tV t (qsN t (k + 1) + 1)) ∧ gI h' 2820 x = nI (tV t (qsN t (k + 1) + 3)) ∧ gI h' 2818 x = nI (sdN t (k + 1))) := by
  obtain ⟨g1, a1, C1, F1, I1⟩ := C.nx (d := d + 1)
  have x1 : gC g1 x = 11 := by rw [F1.2.1]; exact hx
  have wi := c_wI (d := d + 3) C1 (z := 3) (l := [kw 7, kw 5, kw 6]) (by decide) (by decide +kernel) wi_3 (by decide +kernel)
  rw [t_287 C.1, ck_ok C.2.2.2.2.2.1, C.2.2.2.2.2.2, Option.bind_some, ck_ok C.1.t101.1, a1, cK_n, t_287_7 C1.1, ck_ok C1.2.2.2.2.2.1, C1.2.2.2.2.2.2, Option.bind_some, ck_ok C1.1.t101.1, wi, cK_v, t_287_17 C1.1, ck_ok x1, ck_ok x1, gI_s, wI_3]
  have F1' : ∀ v : Int32, Fr KNm [] h (sI g1 2818 x v) := fun v => (F1.wk (by decide) (by decide)).sI (by decide)
  have C1' : ∀ v : Int32, CPs (sI g1 2818 x v) b t (k + 1) := fun v => C1.fr (Fr.rfl.sI (List.mem_singleton.mpr rfl) : Fr [2818] [] g1 (sI g1 2818 x v)) (by decide)
  have bf1 : ∀ v : Int32, BFr x h (sI g1 2818 x v) := fun v => (Fr.bf F1).sI (Nat.le_refl _)
  have ct1 : gN g1 = gN h ∧ gS g1 = gS h := F1.ct
  -- the numbers, once the from is passed
  have fin : ∀ (Q0 : Nat) (H : AH), CPs H b t Q0 → BFr x h H → gN H = gN h ∧ gS H = gS h → gC H x = 11 → gI H 519 b = gI h 519 b → Fr KNm [] h H → gI H 2818 x = nI (sdN t (k + 1)) → qsN t (k + 1) = Q0 → fW t Q0 (kw 7) = 0 → ∃ h', cK (E (d + 8) 280 [.ref b, .int (nI 1), .int (nI 999)] H) (Q (d + 8) 287 58 [some (.ref b), some (.ref x)]) [] = some (some (.int (bz (ff (sdF t (k + 1))))), h') ∧ BFr x h h' ∧ gN h' ≤ gN h ∧ gS h' ≤ gS h ∧ (∃ kk, CPs h' b t kk) ∧ (ff (sdF t (k + 1)) ≠ 0 → gI h' 519 b = nI (ff (sdF t (k + 1)))) ∧ (ff (sdF t (k + 1)) = 0 → gI h' 519 b = gI h 519 b ∧ CPs h' b t (qsN t (k + 1) + 3) ∧ Fr KNm [] h h' ∧ gI h' 2819 x = nI (tV t (qsN t (k + 1) + 1)) ∧ gI h' 2820 x = nI (tV t (qsN t (k + 1) + 3)) ∧ gI h' 2818 x = nI (sdN t (k + 1))) := fun Q0 H CH bH cH xH iH FH sH eQ e0 => by
    obtain ⟨h', o1, o2, o3, o4, o5, o6, o7⟩ := c_numsB (d := d) CH xH (Nat.le_refl _)
    have eS : ff (sdF t (k + 1)) = ff (nuF t Q0) := by unfold sdF; rw [eQ, e0]; rfl
    rw [eS, eQ]
    refine ⟨h', o1, bH.trans o2, by omega, by omega, o5, o6, fun z => ?_⟩
    obtain ⟨p1, p2, p3, p4, p5, p6⟩ := o7 z
    exact ⟨by rw [p1]; exact iH, p2, FH.trans p3, p4, p5, by rw [p6]; exact sH⟩
  have n57 : kw 5 ≠ kw 7 ∧ kw 6 ≠ kw 7 ∧ kw 5 ≠ kw 6 := by decide +kernel
  by_cases q7 : isW t (k + 1) (kw 7)
  · have e5 : ¬ isW t (k + 1) (kw 5) := fun z => n57.1 (z.2.symm.trans q7.2)
    have e6 : ¬ isW t (k + 1) (kw 6) := fun z => n57.2.1 (z.2.symm.trans q7.2)
    have sd : sdN t (k + 1) = 0 := by unfold sdN; rw [if_neg e5, if_neg e6]
    have qs : qsN t (k + 1) = k + 1 := by unfold qsN; rw [if_pos sd]
    rw [if_pos q7, if_neg (show ¬ oI (some 0) = -1 by decide), ck_ok x1, if_pos (show oI (some 0) = nI 0 from rfl), ck_ok C1.2.2.2.2.2.1]
    exact fin (k + 1) _ (C1' _) (bf1 _) ct1 x1 (by rw [gI_k (by decide), I1]) (F1' _) (by rw [gI_s, sd]; rfl) qs (by unfold fW; rw [if_pos q7])
  · rw [if_neg q7]
    have side : ∀ s : Nat, (s = 1 ∨ s = 2) → sdN t (k + 1) = s → ∃ h', (if oI (some s) = -1 then (ck (gC g1 b) 2 (cK (E (d + 8) 237 [.ref b, .int (nI 1)] (sI g1 2818 x (oI (some s)))) (Q (d + 8) 287 33 [some (.ref b), some (.ref x)]) [])) else (ck (gC g1 x) 11 (if oI (some s) = nI 0 then (ck (gC g1 b) 2 (cK (E (d + 8) 280 [.ref b, .int (nI 1), .int (nI 999)] (sI g1 2818 x (oI (some s)))) (Q (d + 8) 287 58 [some (.ref b), some (.ref x)]) [])) else (ck (gC g1 b) 2 (cK (E (d + 8) 288 [.ref b, .ref 4] (sI g1 2818 x (oI (some s)))) (Q (d + 8) 287 47 [some (.ref b), some (.ref x)]) []))))) = some (some (.int (bz (ff (sdF t (k + 1))))), h') ∧ BFr x h h' ∧ gN h' ≤ gN h ∧ gS h' ≤ gS h ∧ (∃ kk, CPs h' b t kk) ∧ (ff (sdF t (k + 1)) ≠ 0 → gI h' 519 b = nI (ff (sdF t (k + 1)))) ∧ (ff (sdF t (k + 1)) = 0 → gI h' 519 b = gI h 519 b ∧ CPs h' b t (qsN t (k + 1) + 3) ∧ Fr KNm [] h h' ∧ gI h' 2819 x = nI (tV t (qsN t (k + 1) + 1)) ∧ gI h' 2820 x = nI (tV t (qsN t (k + 1) + 3)) ∧ gI h' 2818 x = nI (sdN t (k + 1))) := fun s hs sd => by
      have qs : qsN t (k + 1) = k + 2 := by unfold qsN; rw [if_neg (by omega)]
      have n1 : ¬ oI (some s) = -1 := by rcases hs with rfl | rfl <;> decide
      have n0 : ¬ oI (some s) = nI 0 := by rcases hs with rfl | rfl <;> decide
      obtain ⟨g2, a2, C2, F2, I2⟩ := c_tWd (d := d) (C1' (oI (some s))) (z := 4) (v := kw 7) (by decide) (by decide +kernel) (wi_z (by decide +kernel)) (by decide +kernel)
      rw [if_neg n1, ck_ok x1, if_neg n0, ck_ok C1.2.2.2.2.2.1, a2, cK_v, t_287_47 C2.1]
      by_cases q2 : ¬ (fW t (k + 2) (kw 7) = 0)
      · have ef : ff (sdF t (k + 1)) = fW t (k + 2) (kw 7) := by unfold sdF; rw [qs, ff_n q2]
        rw [bz_n q2, if_pos rfl, ef]
        exact ⟨g2, by rw [bz_n q2], (bf1 _).trans (Fr.bf F2), by rw [F2.ct.1]; show gN g1 ≤ _; omega, by rw [F2.ct.2]; show gS g1 ≤ _; omega, ⟨_, C2⟩, fun _ => by rw [I2, if_neg q2], fun z => absurd z q2⟩
      have q2 := Decidable.not_not.mp q2
      rw [q2, if_pos rfl] at I2
      rw [q2, bz_0, if_neg (by decide), ck_ok C2.2.2.2.2.2.1]
      exact fin (k + 2) g2 C2 ((bf1 _).trans (Fr.bf F2)) ⟨by rw [F2.ct.1]; exact ct1.1, by rw [F2.ct.2]; exact ct1.2⟩ (by rw [F2.2.1]; exact x1) (by rw [I2, gI_k (by decide), I1]) ((F1' _).trans (F2.wk (by decide) (by decide))) (by rw [F2.I (by decide), gI_s, sd]; rfl) qs q2
    by_cases q5 : isW t (k + 1) (kw 5)
    · rw [if_pos q5]
      exact side 1 (Or.inl rfl) (by unfold sdN; rw [if_pos q5])
    · rw [if_neg q5]
      by_cases q6 : isW t (k + 1) (kw 6)
      · rw [if_pos q6]
        exact side 2 (Or.inr rfl) (by unfold sdN; rw [if_neg q5, if_pos q6])
      · have sd : sdN t (k + 1) = 0 := by unfold sdN; rw [if_neg q5, if_neg q6]
        have qs : qsN t (k + 1) = k + 1 := by unfold qsN; rw [if_pos sd]
        have nz : fX t 1 (k + 1) ≠ 0 := fX_n (by decide)
        have ef : ff (sdF t (k + 1)) = fX t 1 (k + 1) := by
          unfold sdF; rw [qs]
          have : fW t (k + 1) (kw 7) = fX t 1 (k + 1) := by unfold fW; rw [if_neg q7]
          rw [this, ff_n nz]
        obtain ⟨g2, d1, d2, d3, d4⟩ := c_fail (d := d + 7) (C1' (oI none)) (c := 1) (by decide)
        rw [if_neg q6, if_pos (show oI none = -1 from rfl), ck_ok C1.2.2.2.2.2.1, d1, cK_v, t_287_33 d2.1, if_pos (by decide), ef]
        exact ⟨g2, by rw [bz_n nz], (bf1 _).trans (Fr.bf d3), by rw [d3.ct.1]; show gN g1 ≤ _; omega, by rw [d3.ct.2]; show gS g1 ≤ _; omega, ⟨_, d2⟩, fun _ => d4, fun z => absurd z nz⟩

end CSU
