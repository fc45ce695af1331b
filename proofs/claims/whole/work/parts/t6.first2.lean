/-! ===== THE FIRST STATE: what the constructors make keeps all that the calls keep ===== -/
section CT6
variable {d L nl : Nat} {xs : Nat → Int32} {h h' g : AH} {K X : List Nat}
def G0 : Nat → Nat → Nat := fun r i => if r = 9 then 61 else Gb 157 r i
theorem lV0 {r : Nat} (q : lV bk0 r) : r < 6 := by
  unfold lV bk0 at q; omega
theorem lo_G0 : ∀ r, r < 6 → lo G0 r ∈ [164, 165, 158, 159, 160, 161] ∧ la G0 r = 61 ∧ lc Cp0 r = 0 := by decide
theorem lo_inj : ∀ r, r < 6 → ∀ r', r' < 6 → lo G0 r = lo G0 r' → r = r' := by decide
theorem lX0 (r : Nat) : lX sE0 r = [] := sE0_lX r
theorem ev_al : ∀ l, l ∈ [164, 165, 158, 159, 160, 161] → evC cA_E l = some 1 ∧ evR cA_E 257 l = some (some 61) ∧ evI cA_E 258 l = some 0 ∧ rS 257 l = none ∧ l < 296 := by decide +kernel
theorem csm0 : csm Cp0 70 = 0 ∧ kcL Cp0 = 0 := by decide
/-- all that holds before the first call -/
theorem ji_first : ∃ H1 H2 : AH, E (d + 6) 0 [.ref 100] (nwO (h0 L xs nl) 13 10) = some (none, H1) ∧ E (d + 6) 1 [.ref 189] (nwO H1 14 152) = some (none, H2) ∧ gN H1 = 189 ∧ gN H2 = 295 ∧ gC (nwO (h0 L xs nl) 13 10) 100 = 13 ∧ JI (nwA H2 61 1) 110000 300 0 := by
  obtain ⟨h, hh⟩ : ∃ h, h = h0 L xs nl := ⟨_, rfl⟩
  have hN : gN h = 100 := by rw [hh]; rfl
  have S0 : SE h := by rw [hh]; exact SE.h0
  have sW : Sh (ap cA_E h) := by rw [hh]; exact sh_E
  have wW : HW (nwO h 13 10) := HW.nw (fun x hx => by
    rw [hh] at hx ⊢
    have hx : 100 ≤ x := hx
    show (if x < 28 then 15 else if 30 ≤ x ∧ x < 58 then 64 else if x = 60 ∨ x = 63 then 60 else if x = 61 then 65 else 0) = 0
    rw [if_neg (by omega), if_neg (by omega), if_neg (by omega), if_neg (by omega)])
  rw [← hh]
  have e1 : E (d + 6) 0 [.ref 100] (nwO h 13 10) = some (none, ap cA_106 h) := cR_25 (d := d) hN
  obtain ⟨H, e2, F, kr, kp, rz⟩ := ctor_r (d := d + 1) hN S0
  have e2' : E (d + 6) 1 [.ref 189] (nwO (ap cA_106 h) 14 152) = some (none, H) := e2
  have w1 : HW (ap cA_106 h) := (E_mx e1).1 wW
  have w2 : HW H := (E_mx e2').1 (HW.nw w1)
  have n0 : gN (ap cA_323 h) = 295 := nz hN c3_ok (by decide +kernel)
  have nH : gN H = 295 := (congrArg (fun p : Nat × Nat => p.1) F.1).trans n0
  refine ⟨ap cA_106 h, H, e1, e2', nz hN (by decide +kernel) (by decide +kernel), nH, (by show (if (100 : Nat) = gN h then 13 else gC h 100) = 13; rw [if_pos hN.symm]), ?_⟩
  obtain ⟨Z, hZ⟩ : ∃ Z, Z = nwA H 61 1 := ⟨_, rfl⟩
  rw [← hZ]
  have F' : Fr KZ X3 (ap cA_E h) Z := by rw [hZ]; exact Fr.nwx (c := 61) (k := 1) (n := 1) F
  have sZ : Sh Z := F'.sh sW
  have wZ : HW Z := by rw [hZ]; exact HW.nw w2
  have nZ : gN Z = 296 := (congrArg (fun p : Nat × Nat => p.1) F'.1).trans (nz hN cE_ok (by decide +kernel))
  have h00 : gS h = 0 := by rw [hh]; rfl
  have zS : gS Z = 104567 := (congrArg (fun p : Nat × Nat => p.2) F'.1).trans ((eS cA_E).trans (by rw [h00]; decide +kernel))
  have zA : ∀ x, x < 295 → gA Z x = gA H x := fun x q => by
    rw [hZ]; show (if x = gN H then (fun _ => 0) else gA H x) = gA H x; rw [if_neg (by omega)]
  have zB : ∀ x, x < 295 → gB Z x = gB H x := fun x q => by
    rw [hZ]; show (if x = gN H then (fun _ => 0) else gB H x) = gB H x; rw [if_neg (by omega)]
  have zI : ∀ k x, x < 295 → gI Z k x = gI H k x := fun k x q => by
    rw [hZ]; show (if x = gN H then 0 else gI H k x) = gI H k x; rw [if_neg (by omega)]
  have vC : ∀ {y c : Nat}, evC cA_E y = some c → gC Z y = c := fun q => by rw [F'.2.1]; exact cz hN cE_ok q
  have vK : ∀ {y c : Nat}, evK cA_E y = some c → gK Z y = c := fun q => by rw [F'.2.2.1]; exact kz hN cE_ok q
  have vR : ∀ {k y : Nat} {c : Option Nat}, evR cA_E k y = some c → gR Z k y = c := fun q => by rw [F'.2.2.2.1]; exact (eR hN cA_E cE_ok _ _).trans (by rw [q]; rfl)
  have vI : ∀ {k y : Nat} {c : Int32}, k ∉ KZ → evI cA_E k y = some c → gI Z k y = c := fun q1 q => by rw [F'.I q1]; exact iz hN cE_ok q
  have vA : ∀ {x i : Nat} {c : Int32}, x ∉ X3 → evA cA_E x i = some c → gA Z x i = c := fun q1 q => by rw [F'.A q1]; exact az hN cE_ok q
  have vB : ∀ {x : Nat} (i : Nat) {c : Int64}, x ∉ X3 → evB cA_E x 0 = some c → gB Z x i = c := fun i c q1 q => by rw [F'.B q1]; exact bbz hN cE_ok ((noB_e _ cE_noB _ _).trans q)
  have RZ' : RZ0 Z := by
    obtain ⟨⟨r1, r2, r3⟩, r4, r5, r6, r7, r8, r9, r10, r11, r12, r13, r14, r15, r16, r17⟩ := rz
    exact ⟨⟨fun k hk => by rw [zB 282 (by decide)]; exact r1 k hk, fun k hk => by rw [zA 283 (by decide)]; exact r2 k hk, fun k hk => by rw [zA 284 (by decide)]; exact r3 k hk⟩, fun k hk => by rw [zA 257 (by decide)]; exact r4 k hk, fun k hk => by rw [zA 255 (by decide)]; exact r5 k hk, (zI _ 189 (by decide)).trans r6, (zI _ 189 (by decide)).trans r7, (zI _ 189 (by decide)).trans r8, (zI _ 189 (by decide)).trans r9, (zI _ 189 (by decide)).trans r10, (zI _ 189 (by decide)).trans r11, (zI _ 189 (by decide)).trans r12, (zI _ 189 (by decide)).trans r13, (zI _ 189 (by decide)).trans r14, (zI _ 189 (by decide)).trans r15, (zI _ 189 (by decide)).trans r16, (zI _ 189 (by decide)).trans r17⟩
  obtain ⟨rs1, rs2, rs3, rs4⟩ := r_e0 RZ'
  obtain ⟨q1, q2, q3, q4, q5, q6, q7, q8, q9, q10, q11, q12, q13, q14, q15⟩ := id RZ'
  have t61 := sZ.t61
  have AR : ∀ l, l ∈ [164, 165, 158, 159, 160, 161] → ∀ f, Ar Z l 61 0 0 f := fun l hl f => by
    obtain ⟨v1, v2, v3, -, -⟩ := ev_al l hl
    exact ⟨vC v1, vR v2, t61.1, t61.2, vI (by decide) v3, Nat.le_refl _, by decide, fun i hi => absurd hi (Nat.not_lt_zero _)⟩
  have AOZ : ∀ l, l ∈ [164, 165, 158, 159, 160, 161] → AO Z l 61 0 := fun l hl => by
    obtain ⟨-, -, -, v4, v5⟩ := ev_al l hl
    exact ⟨by omega, Or.inl ⟨rfl, rfl⟩, Or.inr v4⟩
  have CBZ : CB Z 157 bk0 G0 Cp0 := by
    refine ⟨vC (by decide +kernel), vR (by decide +kernel), fun j hj => ⟨?_, ?_⟩, ⟨vR (by decide +kernel), vC (by decide +kernel), vK (by decide +kernel), Or.inr (by decide), Or.inr (by decide), vR (by decide +kernel), vC (by decide +kernel), vK (by decide +kernel), vI (by decide) (by decide +kernel), fun i hi => absurd hi (Nat.not_lt_zero _)⟩, fun i hi => absurd hi (Nat.not_lt_zero _), fun i hi => absurd hi (Nat.not_lt_zero _), fun i hi => absurd hi (Nat.not_lt_zero _), fun i hi => absurd hi (Nat.not_lt_zero _)⟩
    · have q : ∀ j, j < 4 → evR cA_E (512 + j) 157 = some (some (G0 7 j)) := by decide +kernel
      exact vR (q j hj)
    · have q : ∀ j, j < 4 → G0 7 j ∈ [164, 165, 158, 159, 160, 161] := by decide
      exact AR _ (q j hj) _
  have C1 : CS1 Z bk0 sE0 G0 := ⟨vI (by decide) (by decide +kernel), vI (by decide) (by decide +kernel), fun i j hi => absurd hi (Nat.not_lt_zero _), fun i hi => absurd hi (Nat.not_lt_zero _)⟩
  have C2 : CS2 Z bk0 sE0 G0 Cp0 := by
    refine ⟨fun r r' h1 h2 => ⟨lo_inj r (lV0 h1) r' (lV0 h2), fun _ => Or.inr (lo_G0 r (lV0 h1)).2.1⟩, fun r h1 => ?_, fun r h1 h2 => ?_⟩
    · obtain ⟨u1, u2, u3⟩ := lo_G0 r (lV0 h1)
      rw [u2, u3]
      exact ⟨AOZ _ u1, by decide⟩
    · obtain ⟨u1, u2, u3⟩ := lo_G0 r (lV0 h1)
      rw [u2, u3, lX0]
      exact AR _ u1 _
  have CSZ : CSt Z 157 bk0 sE0 G0 Cp0 := ⟨sZ, wZ, vR (by decide +kernel), CBZ, C1, C2⟩
  have KSZ : KS Z := by
    have k0 := S0.ap hN cE_ok cE_low
    exact k0.2.fr F' (by decide) (by decide)
  have JCZ : JCo Z 157 bk0 sE0 G0 Cp0 (0, fun _ => 0) (-1) (-1) (-1) 183 186 false (0, fun _ => 0) := ⟨CSZ, Or.inl (vI (by decide) (by decide +kernel)), ⟨vI (by decide) (by decide +kernel), fun k hk => absurd hk (Nat.not_lt_zero _)⟩, fun i hi => absurd hi (Nat.not_lt_zero _), ⟨vI (by decide) (by decide +kernel), Nat.zero_le _, fun i hi => absurd hi (Nat.not_lt_zero _)⟩, KSZ, ⟨vI (by decide) (by decide +kernel), vI (by decide) (by decide +kernel), vI (by decide) (by decide +kernel)⟩, vR (by decide +kernel), vR (by decide +kernel), vI (by decide) (by decide +kernel), fun q => by cases q⟩
  have JRZ : JRf Z 0 bk0 sE0 (0, fun _ => 0) (-1) (-1) (-1) 0 false (0, fun _ => 0) := by
    refine ⟨sZ, vI (by decide) (by decide +kernel), ⟨⟨vA (by decide) (by decide +kernel), vA (by decide) (by decide +kernel), vA (by decide) (by decide +kernel), vA (by decide) (by decide +kernel), vA (by decide) (by decide +kernel)⟩, ?_⟩, ⟨rs1, rs2, rs3, rs4⟩, Or.inl q15, ⟨vI (by decide) (by decide +kernel), Nat.zero_le _, fun i hi => absurd hi (Nat.not_lt_zero _)⟩, fun w hw => by rw [zB 190 (by decide)]; exact kr w hw, ⟨fun i hi => by rw [zA 191 (by decide)]; exact kp.1 i hi, fun i hi => by rw [zA 192 (by decide)]; exact kp.2 i hi⟩, ⟨fun _ _ => 0, fun j k hj hk => ⟨?_, (by decide : 0 < 64)⟩⟩, ⟨q11, q12, q13⟩, vI (by decide) (by decide +kernel), q14, fun q => by cases q⟩
    · refine ⟨fun i hi => absurd hi (Nat.not_lt_zero _), fun i hi => absurd hi (Nat.not_lt_zero _), fun i hi => absurd hi (Nat.not_lt_zero _), fun i hi => absurd hi (Nat.not_lt_zero _), fun i hi => absurd hi (Nat.not_lt_zero _)⟩
    · have q : ∀ j, j < 4 → ∀ k, k < 5 → evA cA_E 239 (5 * j + k) = some (nI 0) := by decide +kernel
      exact vA (by decide) (q j hj k hk)
  have MZ : MRe Z Z (zN sE0 2) := by
    refine ⟨fun _ => false, 0, 0, 0, 0, 0, fun i hi => ?_, fun i hi => ?_, fun i hi => ?_, fun i hi q => absurd hi (Nat.not_lt_zero _), ⟨by decide, vI (by decide) (by decide +kernel), vI (by decide) (by decide +kernel), by decide, vI (by decide) (by decide +kernel), vI (by decide) (by decide +kernel), by decide, vI (by decide) (by decide +kernel), vI (by decide) (by decide +kernel), by decide⟩, ⟨0, by decide, vI (by decide) (by decide +kernel), q9⟩, fun t ht => Or.inl ⟨?_, q1.2.2 t ht⟩, fun t t' ht ht' w => absurd ?_ w⟩
    · rw [q1.1 i hi]; exact vB i (by decide) (by decide +kernel)
    · have q : ∀ i, i < 4 → evA cA_E 177 i = some (-1) := by decide +kernel
      have e : gA Z 177 i = -1 := vA (by decide) (q i hi)
      rw [q1.2.1 i hi, e]; exact ⟨rfl, Or.inl rfl⟩
    · rw [vB (x := 182) i (c := 0) (by decide) (by decide +kernel), vB (x := 288) i (c := 0) (by decide) (by decide +kernel)]
    · have q : ∀ i, i < 12 → evA cA_E 178 i = some (nI 0) := by decide +kernel
      exact vA (by decide) (q t ht)
    · have q : ∀ i, i < 12 → evA cA_E 178 i = some (nI 0) := by decide +kernel
      exact vA (by decide) (q t ht)
  obtain ⟨m1, m2⟩ := csm0
  exact ⟨157, bk0, sE0, G0, Cp0, 0, (0, fun _ => 0), -1, -1, -1, 0, 183, 186, false, (0, fun _ => 0), ⟨WX.z, WS.e0 _, fun r hr _ => by rw [show lc Cp0 r = 0 from by unfold lc Cp0; split <;> rfl]; exact Nat.zero_le _, by decide, by decide, Or.inl rfl, Or.inr rfl, by decide, fun q => by cases q⟩, JCZ, JRZ, MZ, by rw [zS, m1, m2]; decide, by rw [nZ, m1, m2]; decide, Nat.le_refl _⟩
end CT6
