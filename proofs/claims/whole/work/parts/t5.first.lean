/-! ===== WHAT HOLDS BEFORE THE FIRST CALL ===== -/
section CT5
variable {d L nl : Nat} {xs : Nat → Int32} {h h' g : AH} {K X : List Nat} {l : List Op}
theorem lo_gC (hN : gN h = 100) (ok : okO l = true) (lw : lowO l = true) {y : Nat} (hy : y < 100) : gC (ap l h) y = gC h y := by rw [eC hN l ok, low_C l lw y hy]; rfl
theorem lo_gK (hN : gN h = 100) (ok : okO l = true) (lw : lowO l = true) {y : Nat} (hy : y < 100) : gK (ap l h) y = gK h y := by rw [eKp hN l ok, low_K l lw y hy]; rfl
theorem lo_gR (hN : gN h = 100) (ok : okO l = true) (lw : lowO l = true) {k y : Nat} (hy : y < 100) : gR (ap l h) k y = gR h k y := by rw [eR hN l ok, low_R l lw k y hy]; rfl
theorem lo_gI (hN : gN h = 100) (ok : okO l = true) (lw : lowO l = true) {k y : Nat} (hy : y < 100) : gI (ap l h) k y = gI h k y := by rw [eI hN l ok, low_I l lw k y hy]; rfl
theorem lo_gA (hN : gN h = 100) (ok : okO l = true) (lw : lowO l = true) {y : Nat} (hy : y < 100) : gA (ap l h) y = gA h y := by
  funext i
  rw [eA hN l ok, low_A l lw y i hy]; rfl
theorem SE.h0 : SE (h0 L xs nl) := by
  refine ⟨fun z hz => ⟨if_pos hz, if_pos ⟨rfl, hz⟩, ?_, ?_⟩, fun x h1 h2 h3 => ?_, fun x hx => rfl⟩
  · show (if 30 + z < 28 then 15 else if 30 ≤ 30 + z ∧ 30 + z < 58 then 64 else _) = 64
    rw [if_neg (by omega), if_pos (by omega)]
  · show (if 30 ≤ 30 + z ∧ 30 + z < 58 then (bS (30 + z - 30)).length else _) = _
    rw [if_pos (by omega), show 30 + z - 30 = z by omega]
  · funext j
    show (if 30 ≤ x ∧ x < 58 then (bS (x - 30)).getD j 0 else if x = 60 then nthD pwL j 0 else if x = 63 then xs j else 0) = (if x < 58 then (bS (x - 30)).getD j 0 else nthD pwL j 0)
    rcases h3 with q | q
    · rw [if_pos ⟨h1, q⟩, if_pos q]
    · rw [if_neg (by omega), if_pos q, if_neg (by omega)]
theorem SE.ap (a : SE h) (hN : gN h = 100) (ok : okO l = true) (lw : lowO l = true) : SE (ap l h) := by
  refine ⟨fun z hz => ?_, fun x h1 h2 h3 => ?_, fun x hx => ?_⟩
  · rw [lo_gC hN ok lw (by omega), lo_gR hN ok lw (by omega), lo_gC hN ok lw (by omega), lo_gK hN ok lw (by omega)]; exact a.1 z hz
  · rw [lo_gA hN ok lw (by omega)]; exact a.2.1 x h1 h2 h3
  · rw [lo_gI hN ok lw (by omega)]; exact a.2.2 x hx
theorem Fr.nwx {c k n : Nat} (f : Fr K X h g) : Fr K X (nw h c k n) (nw g c k n) := by
  obtain ⟨f1, f2, f3, f4, f5, f6, f7, f8, f9⟩ := f
  have n1 : gN g = gN h := congrArg (fun p : Nat × Nat => p.1) f1
  have n2 : gS g = gS h := congrArg (fun p : Nat × Nat => p.2) f1
  refine ⟨?_, ?_, ?_, ?_, ?_, fun k q => ?_, fun k q => ?_, fun x q => ?_, fun x q => ?_⟩
  · show (gN g + 1, gS g + n) = (gN h + 1, gS h + n); rw [n1, n2]
  · show up1 (gC g) (gN g) c = up1 (gC h) (gN h) c; rw [f2, n1]
  · show up1 (gK g) (gN g) k = up1 (gK h) (gN h) k; rw [f3, n1]
  · show (fun j => up1 (gR g j) (gN g) none) = fun j => up1 (gR h j) (gN h) none; rw [f4, n1]
  · show up1 (gO g) (gN g) (fun _ => none) = up1 (gO h) (gN h) (fun _ => none); rw [f5, n1]
  · show up1 (gI g k) (gN g) 0 = up1 (gI h k) (gN h) 0; rw [f6 k q, n1]
  · show up1 (gL g k) (gN g) 0 = up1 (gL h k) (gN h) 0; rw [f7 k q, n1]
  · show (if x = gN g then (fun _ => 0) else gA g x) = (if x = gN h then (fun _ => 0) else gA h x); rw [f8 x q, n1]
  · show (if x = gN g then (fun _ => 0) else gB g x) = (if x = gN h then (fun _ => 0) else gB h x); rw [f9 x q, n1]
abbrev X3 : List Nat := 190 :: 191 :: 192 :: XZ
theorem c3_ok : okO cA_323 = true := by decide +kernel
theorem c3_low : lowO cA_323 = true := by decide +kernel
theorem c3_noB : noB cA_323 = true := by decide +kernel
/-- the reference's constructor -/
theorem ctor_r (hN : gN h = 100) (S0 : SE h) : ∃ H, E (d + 5) 1 [.ref 189] (ap cA_107 h) = some (none, H) ∧ Fr KZ X3 (ap cA_323 h) H ∧ KR H ∧ KP H ∧ RZ0 H := by
  have S := S0.ap hN c3_ok c3_low
  have e0 := cR_26 (d := d + 4) hN
  obtain ⟨B, hB⟩ : ∃ B, B = ap cA_323 h := ⟨_, rfl⟩
  rw [← hB] at e0 S ⊢
  have z : ∀ {y c : Nat}, evC cA_323 y = some c → gC B y = c := fun q => by rw [hB]; exact cz hN c3_ok q
  have zk : ∀ {y c : Nat}, evK cA_323 y = some c → gK B y = c := fun q => by rw [hB]; exact kz hN c3_ok q
  have zr : ∀ {k y : Nat} {c : Option Nat}, evR cA_323 k y = some c → gR B k y = c := fun q => by rw [hB]; exact rz hN c3_ok q
  have b0 : gB B 190 = fun _ => 0 := by
    funext i
    rw [hB]
    exact bbz hN c3_ok ((noB_e _ c3_noB 190 i).trans (by decide +kernel))
  obtain ⟨g1, a1, a2, a3⟩ := kf_lp (d := d) S (z (by decide +kernel)) (zr (by decide +kernel)) (z (by decide +kernel)) (zk (by decide +kernel)) (chS 27).length 0 1 0 B rfl Fr.rfl (by rw [List.drop_zero]; exact kf_n)
  rw [List.drop_zero] at a3
  obtain ⟨g2, x', c1, c2, c3⟩ := pw_lp (d := d + 4) (b := g1) (by rw [a2.2.1]; exact z (by decide +kernel)) (by rw [a2.2.2.2.1]; exact zr (by decide +kernel)) (by rw [a2.2.2.2.1]; exact zr (by decide +kernel)) (by rw [a2.2.1]; exact z (by decide +kernel)) (by rw [a2.2.2.1]; exact zk (by decide +kernel)) (by rw [a2.2.1]; exact z (by decide +kernel)) (by rw [a2.2.2.1]; exact zk (by decide +kernel)) 126 0 g1 rfl Fr.rfl ⟨fun i q => absurd q (Nat.not_lt_zero _), fun i _ q => absurd q (Nat.not_lt_zero _)⟩
  have R : FgR B := ⟨z (by decide +kernel), ⟨zr (by decide +kernel), z (by decide +kernel), zk (by decide +kernel)⟩, ⟨zr (by decide +kernel), z (by decide +kernel), zk (by decide +kernel)⟩, ⟨zr (by decide +kernel), z (by decide +kernel), zk (by decide +kernel)⟩, ⟨zr (by decide +kernel), z (by decide +kernel), zk (by decide +kernel)⟩, zr (by decide +kernel), z (by decide +kernel), zk (by decide +kernel)⟩
  obtain ⟨H, f1, f2, f3⟩ := n_forget (d := d + 2) ((R.fr a2).fr c2)
  refine ⟨H, ?_, ((a2.wk (K' := KZ) (X' := X3) (by decide) (by decide)).trans (c2.wk (by decide) (by decide))).trans (f2.wk (fun _ q => q) (by decide)), fun w hw => ?_, ⟨fun i hi => ?_, fun i hi => ?_⟩, f3⟩
  · rw [e0]
    refine a1.trans ?_
    rw [show (nI 1 : Int32) = nI (pw 0) from by decide +kernel, c1, f1, cK_n, n_1_1063]
  · rw [f2.B (by decide), c2.B (by decide), a3, b0]; exact kf_kw w hw
  · rw [f2.A (by decide)]; exact c3.1 i hi
  · rw [f2.A (by decide)]; exact c3.2 i hi (by omega)
theorem cE_107 : nwA (ap cA_323 h) 61 1 = ap cA_E h := rfl
theorem sh_E : Sh (ap cA_E (h0 L xs nl)) := by
  obtain ⟨w, hw⟩ : ∃ w, w = ap cA_E (h0 L xs nl) := ⟨_, rfl⟩
  have hN : gN (h0 L xs nl) = 100 := rfl
  have c : cX (gC w) = gC w := by
    funext x
    unfold cX
    by_cases q : x < 296
    · rw [inS_lt.mpr q, hw]
      show cS x = _
      by_cases q2 : x < 100
      · rw [lo_gC hN cE_ok cE_low q2, c0_C x q2]
      · exact (cz hN cE_ok (cE_C x (by omega) q)).symm
    · cases e : inS x with
      | false => rfl
      | true => exact absurd (inS_lt.mp e) q
  have k : kX (gK w) = gK w := by
    funext x
    unfold kX
    cases e : (inS x && !(Nat.beq x 63 || Nat.beq x 64)) with
    | false => rfl
    | true =>
      rw [Bool.and_eq_true] at e
      have q := inS_lt.mp e.1
      have n3 : x ≠ 63 := fun z => by rw [z] at e; exact absurd e.2 (by decide)
      have n4 : x ≠ 64 := fun z => by rw [z] at e; exact absurd e.2 (by decide)
      rw [hw]
      show kS x = _
      by_cases q2 : x < 100
      · rw [lo_gK hN cE_ok cE_low q2, c0_K x q2 n3 n4]
      · exact (kz hN cE_ok (cE_K x (by omega) q)).symm
  have r : rX (gR w) = gR w := by
    funext k x
    unfold rX
    cases ei : inS x with
    | false => rfl
    | true =>
      have q := inS_lt.mp ei
      rw [cond_true]
      cases e : rS k x with
      | none => rfl
      | some v =>
        show some v = gR w k x
        rw [hw]
        by_cases q2 : x < 28
        · have e2 := rS_s x q2 k
          rw [e] at e2
          rw [lo_gR hN cE_ok cE_low (by omega)]
          cases eb : Nat.beq k 3840 with
          | false => rw [eb] at e2; cases e2
          | true =>
            rw [eb] at e2
            rw [e2]
            exact (if_pos ⟨Nat.eq_of_beq_eq_true eb, q2⟩).symm
        · by_cases n : noR x = true
          · rw [noR_n q n k] at e; cases e
          · have n' : noR x = false := Bool.eq_false_iff.mpr n
            have hx : x = 100 ∨ x = 101 ∨ x = 103 ∨ x = 156 ∨ x = 157 ∨ x = 175 ∨ x = 183 ∨ x = 186 ∨ x = 189 := by
              unfold noR at n'
              rw [Nat.ble_eq_true_of_le (show 28 ≤ x by omega), Bool.true_and, Bool.not_eq_false'] at n'
              simp only [Bool.or_eq_true] at n'
              have bq : ∀ {c : Nat}, Nat.beq x c = true → x = c := fun z => Nat.eq_of_beq_eq_true z
              rcases n' with ((((((((z | z) | z) | z) | z) | z) | z) | z) | z) <;> (have := bq z; omega)
            rcases hx with z | z | z | z | z | z | z | z | z <;> subst z
            · exact (rz hN cE_ok (rE_100 e)).symm
            · exact (rz hN cE_ok (rE_101 e)).symm
            · exact (rz hN cE_ok (rE_103 e)).symm
            · exact (rz hN cE_ok (rE_156 e)).symm
            · exact (rz hN cE_ok (rE_157 e)).symm
            · exact (rz hN cE_ok (rE_175 e)).symm
            · exact (rz hN cE_ok (rE_183 e)).symm
            · exact (rz hN cE_ok (rE_186 e)).symm
            · exact (rz hN cE_ok (rE_189 e)).symm
  have o : oX (gO w) = gO w := by
    funext x i
    unfold oX
    cases e : (Nat.beq x 107 && Nat.blt i 48) with
    | false => rfl
    | true =>
      rw [Bool.and_eq_true] at e
      have hx := Nat.eq_of_beq_eq_true e.1
      have hi : i < 48 := Nat.le_of_ble_eq_true e.2
      have q : ∀ i, i < 48 → evO cA_E 107 i = some (some (108 + i)) := by decide +kernel
      rw [hx, hw]
      exact (oz hN cE_ok (q i hi)).symm
  rw [← hw]
  refine ⟨?_, ?_⟩
  · show (w.1, cX (gC w), kX (gK w), gI w, gL w, rX (gR w), gA w, gB w, oX (gO w)) = w
    rw [c, k, r, o]; rfl
  · rw [hw, cE_N]; exact Nat.le_refl _
end CT5
