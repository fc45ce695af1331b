/-! ===== THE LAW: programme, joined ===== -/
section JIY
variable {d : Nat} {h h' h1 h2 : AH} {b v sd x0 y0 P Q Z : Nat} {bk : Bk} {s s' s'' : St} {G Cp G' Cp' : Nat → Nat → Nat} {t t' u : Tp} {fd ff md fd' ff' md' : Int32} {hp : Bool} {K X : List Nat}
theorem CSt.pg (C : CSt h b bk s G Cp) (a : PgF h h') (hs' : Sh h') (w' : HW h') : CSt h' b bk s G Cp := by
  obtain ⟨c1, c2, c3, c4, c5, c6, c7, c8⟩ := C
  have g := c1.2
  have nI' : ∀ k, k ∈ kI → ¬ (3073 ≤ k ∧ k ≤ 3078 ∨ k = 519 ∨ 2306 ≤ k ∧ k ≤ 2308 ∨ k = 3334) := by decide
  have nR' : ∀ k, k ∈ kR → ¬ (k = 2309 ∨ k = 3332 ∨ k = 3333) := by decide
  refine ⟨hs', w', by rw [a.2.2.2.2.1 2048 156 (by omega) (by decide)]; exact c3, c4.gf c2 a (fun k hk _ => nI' k hk) (fun j _ => ⟨by decide, by decide, fun q => q⟩) (fun k hk _ => nR' k hk) (fun x q w => by unfold idB at q; omega), c5.gf (by omega) a (fun k q1 q2 _ w => by omega) ⟨by decide, by decide⟩, c6, fun r hr => ⟨(c7 r hr).1.up a.1.1, (c7 r hr).2⟩, fun r hr h0 => (c8 r hr h0).gf c2 a (by decide) (by decide) (fun q => q)⟩
theorem RPg.side (R : RPg h u sd) (hsd : sd ≤ 1) (same : ∀ x, 274 ≤ x → x ≤ 281 → ∀ i, ¬ mTs sd 0 0 0 x i → gA h' x i = gA h x i) : RPg h' u sd := by
  obtain ⟨L, Y, O, r1, r2, r3, r4, r5, r6, r7⟩ := R
  refine ⟨L, Y, O, r1, r2, fun i hi => ?_, fun i hi => ?_, fun i hi => ?_, r6, r7⟩
  · have hi' : i < 4001 := by rw [List.length_append] at hi; have : ([(nI 44, nI 0)] : Cds).length = 1 := rfl; omega
    rw [same 274 (by decide) (by decide) _ (by unfold mTs; omega), same 275 (by decide) (by decide) _ (by unfold mTs; omega)]; exact r3 i hi
  · rw [same 276 (by decide) (by decide) _ (by unfold mTs; omega), same (276 + 1) (by decide) (by decide) _ (by unfold mTs; omega), same (276 + 2) (by decide) (by decide) _ (by unfold mTs; omega)]; exact r4 i hi
  · rw [same 279 (by decide) (by decide) _ (by unfold mTs; omega), same (279 + 1) (by decide) (by decide) _ (by unfold mTs; omega), same (279 + 2) (by decide) (by decide) _ (by unfold mTs; omega)]; exact r5 i hi
theorem j_prog (i : JI h P Q Z) : JO d 14 127 [] h P Q Z := by
  obtain ⟨b, bk, s, G, Cp, v, t, fd, ff, md, sd, x0, y0, hp, u, i1, i2, i3, i4, i5, i6, i7⟩ := i
  have g := i2.1.1.2
  obtain ⟨j1, j2, j3, j4, j5, j6, j7, j8, j9⟩ := i1
  obtain ⟨c1, c2, c3, c4, c5, c6, c7, c8, c9, c10, c11⟩ := i2
  have hpf : (pxR t).1 < 100000 := by
    obtain ⟨h', -, -, -, q, -⟩ := r_prog (d := d) i3.1 i3.2.2.2.2.2.2.1 i3.2.2.2.2.2.1 j5 i3.2.2.2.2.2.2.2.2.2.2.1
    exact q
  obtain ⟨h1, a1, a2, a3, a4, a5, a6, a7, a8, a9⟩ := c_prog (d := d + 158) c1.1 c1.2.1 c6 c5 ⟨c1.2.2.2.1.1, c1.2.2.2.1.2.1⟩ j7 j6 (fun e => j8 e.symm) c9 c8 (by omega)
  have C1 : CSt h1 b bk s G Cp := c1.pg a7 a3 a4
  have rk := a7.rk g (fun k q w => by omega) (fun x q w => by omega)
  have r1 := i3.rk rk a3
  obtain ⟨h2, b1, b2, b3, -, b5, b6, b7, b8⟩ := r_prog (d := d + 110) r1.1 r1.2.2.2.2.2.2.1 r1.2.2.2.2.2.1 j5 r1.2.2.2.2.2.2.2.2.2.2.1
  have CY1 := c2.gf a7 g (by omega) (by omega) (by omega) (by omega)
  have C41 : CS4 h1 s := c3.gf a7 g (by omega) (by omega) (by omega) rfl
  have C51 : CS5 h1 s G := c4.gf a7 (fun j hj => (c1.2.2.2.2.1.2.2.2 j hj).2.1) (fun x q w => by omega) (fun x _ q w => by omega) rfl (fun _ _ => rfl) rfl rfl
  have F1 : CF h1 fd ff md := c7.gf a7 g (fun k hk w => by have := (by decide : ∀ k, k ∈ [3335, 3336, 3337] → 3335 ≤ k) k hk; omega)
  have K1 : KS h1 := ⟨fun x q1 q2 q3 => by rw [(a7.2.2.2.2.2.1 x (by omega) (by omega)).1]; exact c6.1 x q1 q2 q3, fun x q => by rw [a7.2.2.1 3841 x (by omega) (by omega)]; exact c6.2 x q⟩
  have m1 : MRe h2 h2 (zN s 2) := (i4.gk a7 g (fun k q w => by omega) (fun x q w => by omega) rk).keep b5 (by decide) (by decide)
  by_cases z : (pxR t).1 = 0
  · obtain ⟨u1, u2, u3, u4⟩ := a9 z
    obtain ⟨v1, v2, v3⟩ := b8 z
    have r2 : JRf h2 v bk s (0, t.2) fd ff md (1 - sd) true t := by
      obtain ⟨e1, e2, e3, e4, e5, e6, e7, e8, e9, e10, e11, e12, e13⟩ := r1
      exact ⟨b5.sh e1, by rw [b5.I (by decide)]; exact e2, e3.fr b5 (by decide), e4.fr b5 (by decide) (by decide), e5.fr b5 (by decide) (by decide) (by decide) (by decide), b3, e7.fr b5 (by decide), e8.fr b5 (by decide) (by decide), MRt.fr e9 b5 (by decide), e10.fr b5 (by decide), v1, v2, fun _ => v3⟩
    exact JO.of (hp := true) (u := t) a1 b1 b2 ⟨j1, j2, j3, j4, by omega, j7, j6, fun e => j8 e.symm, fun _ => ⟨c5.2.1, z⟩⟩ ⟨C1, CY1, C41, C51, a2, K1, F1, u2, u3, u1, fun _ => u4⟩ b5 (by decide) (by decide) r2 m1 (by rw [a6]; dsimp only; omega) (by rw [a5]; dsimp only; omega) (by omega)
  · obtain ⟨u1, u2, u3, u4, u5, u6⟩ := a8 z
    obtain ⟨v1, v2⟩ := b7 z
    have r2 : JRf h2 v bk s (0, t.2) fd ff md sd hp u := by
      obtain ⟨e1, e2, e3, e4, e5, e6, e7, e8, e9, e10, e11, e12, e13⟩ := r1
      exact ⟨b5.sh e1, by rw [b5.I (by decide)]; exact e2, e3.fr b5 (by decide), e4.fr b5 (by decide) (by decide), e5.fr b5 (by decide) (by decide) (by decide) (by decide), b3, e7.fr b5 (by decide), e8.fr b5 (by decide) (by decide), MRt.fr e9 b5 (by decide), e10.fr b5 (by decide), v1, by rw [v2]; exact e12, fun q => (e13 q).side j5 b6⟩
    exact JO.of a1 b1 b2 ⟨j1, j2, j3, j4, j5, j6, j7, j8, j9⟩ ⟨C1, CY1, C41, C51, a2, K1, F1, u3, u2, by rw [u1]; exact c10, fun q => by
      have q1 := c11 q
      unfold Scr at q1 ⊢
      rw [u4, u5, u6]; exact q1⟩ b5 (by decide) (by decide) r2 m1 (by rw [a6]; dsimp only; omega) (by rw [a5]; dsimp only; omega) (by omega)
end JIY
