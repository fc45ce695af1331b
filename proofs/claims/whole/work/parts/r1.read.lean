/-! ===== THE LAW: read, joined ===== -/
section JIR
variable {d : Nat} {h h' h1 h2 : AH} {b v sd x0 y0 P Q Z : Nat} {bk : Bk} {s s' : St} {G Cp G' Cp' : Nat → Nat → Nat} {t t' u : Tp} {fd ff md fd' ff' md' : Int32} {hp : Bool} {K X : List Nat} {mI mR : Nat → Nat → Prop} {mO mA : Nat → Prop}
theorem CY.gf (Y : CY h bk) (a : GF mI mR mO mA h h') (g : 296 ≤ gN h) (k1 : ¬ mI 2059 156) (k2 : ¬ mI 2060 156) (a1 : ¬ mA 168) (a2 : ¬ mA 169) : CY h' bk := by
  obtain ⟨g1, gC', gI', gL', gR', gA', gO'⟩ := a
  unfold CY at Y ⊢
  rw [gI' 2059 156 (by omega) k1, gI' 2060 156 (by omega) k2, (gA' 168 (by omega) a1).1, (gA' 169 (by omega) a2).1]; exact Y
theorem CS4.gf (C : CS4 h s) (a : GF mI mR mO mA h h') (g : 296 ≤ gN h) (k1 : ¬ mI 2055 156) (a1 : ¬ mA 166) (a2 : ¬ mA 167) (e : sM s' = sM s) : CS4 h' s' := by
  obtain ⟨g1, gC', gI', gL', gR', gA', gO'⟩ := a
  unfold CS4 at C ⊢
  rw [gI' 2055 156 (by omega) k1, (gA' 166 (by omega) a1).1, (gA' 167 (by omega) a2).1, e]; exact C
theorem CT.gf (T : CT h t) (a : GF mI mR mO mA h h') (g : 296 ≤ gN h) (k1 : ¬ mI 3073 101) (a1 : ¬ mA 102) : CT h' t := by
  obtain ⟨g1, gC', gI', gL', gR', gA', gO'⟩ := a
  unfold CT at T ⊢
  rw [gI' 3073 101 (by omega) k1, (gA' 102 (by omega) a1).1]; exact T
theorem CF.gf (T : CF h fd ff md) (a : GF mI mR mO mA h h') (g : 296 ≤ gN h) (k1 : ∀ k, k ∈ [3335, 3336, 3337] → ¬ mI k 100) : CF h' fd ff md := by
  obtain ⟨g1, gC', gI', gL', gR', gA', gO'⟩ := a
  unfold CF at T ⊢
  rw [gI' 3335 100 (by omega) (k1 _ (by decide)), gI' 3336 100 (by omega) (k1 _ (by decide)), gI' 3337 100 (by omega) (k1 _ (by decide))]; exact T
theorem CS5.gf (C5 : CS5 h s G) (a : GF mI mR mO mA h h') (lt : ∀ i, i < zN s 2 → G 4 i < gN h) (r1 : ∀ x, x < gN h → ¬ mR 1285 x) (a1 : ∀ x, 296 ≤ x → x < gN h → ¬ mA x) (z : zN s' 2 = zN s 2) (sg : ∀ i, i < zN s 2 → sgB s' i = sgB s i) (e4 : G' 4 = G 4) (e17 : G' 17 = G 17) : CS5 h' s' G' := fun i hi => by
  rw [z] at hi
  obtain ⟨d1, d2, T, d3, d4, d5, d6, d7⟩ := C5 i hi
  obtain ⟨g1, gC', gI', gL', gR', gA', gO'⟩ := a
  rw [e4, e17, sg i hi]
  exact ⟨by rw [gR' 1285 _ (lt i hi) (r1 _ (lt i hi))]; exact d1, by omega, T, d3, by rw [(gC' _ d2).1]; exact d4, by rw [(gC' _ d2).2]; exact d5, d6, by rw [(gA' _ d2 (a1 _ d6 d2)).1]; exact d7⟩
theorem MRe.gk {ni : Nat} (m : MRe h h ni) (a : GF mI mR mO mA h h') (g : 296 ≤ gN h) (h1 : ∀ k, k = 1549 ∨ 1553 ≤ k ∧ k ≤ 1555 → ¬ mI k 175) (h2 : ∀ x, 176 ≤ x ∧ x ≤ 182 → ¬ mA x) (r : RKp h h') : MRe h' h' ni := by
  obtain ⟨ty, a2, p, p2, mk, rf, m⟩ := m
  exact ⟨ty, a2, p, p2, mk, rf, (m.gf a g h1 h2).rk r⟩
theorem j_read (i : JI h P Q Z) : JO d 7 92 [] h P Q Z := by
  obtain ⟨b, bk, s, G, Cp, v, t, fd, ff, md, sd, x0, y0, hp, u, i1, i2, i3, i4, i5, i6, i7⟩ := i
  have g := i2.1.1.2
  obtain ⟨h1, r, a1, a2, a3, a4, a5, a6, a7, a8⟩ := c_read (d := d + 334) i1.1.1 i2.1 i1.2.1 i2.2.2.2.2.2.1 i2.2.2.2.1 i2.2.2.2.2.1 i2.2.2.2.2.2.2.1
  have s1 := a4.1
  have rk := a3.rk g (fun k q w => by omega) (fun x q w => by omega)
  have r1 := i3.rk rk s1
  obtain ⟨M, q⟩ := r1.2.2.2.2.2.2.2.2.1
  obtain ⟨h2, r', M', b1, b2, b3, b4, b5, b6, b7⟩ := r_read (d := d + 334) s1 i1.1.1 i1.2.1 r1.2.2.2.1.1 r1.2.2.2.2.2.1 r1.2.2.2.2.2.2.2.1 q r1.2.2.2.2.2.2.2.2.2.1
  obtain rfl := RdR.one b2 a2
  have c1 : JCo h1 b bk s G Cp (0, t.2) fd ff r'.2 x0 y0 hp u := i2.gf a3 g i1.2.2.2.2.2.1 (by omega) (fun x w => by omega) (fun x w => by omega) (by omega) (by omega) (fun x w => by omega) a4 (i2.2.1.gf a3 g (by omega) (by omega) (by omega) (by omega)) (i2.2.2.1.gf a3 g (by omega) (by omega) (by omega) rfl) (i2.2.2.2.1.gf a3 (fun j hj => (i2.1.2.2.2.2.1.2.2.2 j hj).2.1) (fun x q w => by omega) (fun x _ q w => by omega) rfl (fun _ _ => rfl) rfl rfl) a5 a6
  exact JO.of a1 b1 b3 i1 c1 b4 (by decide) (by decide) (r1.frr b4 (by decide) (by decide) b5 b6 ⟨M', b7⟩) ((i4.gk a3 g (fun k q w => by omega) (fun x q w => by omega) rk).keep b4 (by decide) (by decide)) (by dsimp only; omega) (by dsimp only; omega) (by omega)
end JIR
