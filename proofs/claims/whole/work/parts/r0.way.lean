/-! ===== THE LAW: way, read, joined ===== -/
section JIW
variable {d : Nat} {h h' h1 h2 : AH} {b v sd x0 y0 P Q Z : Nat} {bk : Bk} {s s' : St} {G Cp G' Cp' : Nat → Nat → Nat} {t t' u : Tp} {fd ff md fd' ff' md' : Int32} {hp : Bool} {K X : List Nat} {mI mR : Nat → Nat → Prop} {mO mA : Nat → Prop}
/-- a move with new cells, its office's half told -/
theorem JCo.gf (c : JCo h b bk s G Cp t fd ff md x0 y0 hp u) (a : GF mI mR mO mA h h') (g : 296 ≤ gN h) (hx : scX x0) (k1 : ¬ mI 3334 100) (k2 : ∀ x, ¬ (x < 190 ∧ mI 2306 x)) (k3 : ∀ x, ¬ (x < 28 ∧ mI 3841 x)) (r1 : ¬ mR 3332 100) (r2 : ¬ mR 3333 100) (a1 : ∀ x, ¬ ((x < 61 ∨ 184 ≤ x ∧ x ≤ 188) ∧ mA x)) (C' : CSt h' b bk s' G' Cp') (Y : CY h' bk) (C4 : CS4 h' s') (C5 : CS5 h' s' G') (T : CT h' t') (F : CF h' fd' ff' md') : JCo h' b bk s' G' Cp' t' fd' ff' md' x0 y0 hp u := by
  obtain ⟨c1, c2, c3, c4, c5, c6, c7, c8, c9, c10, c11⟩ := c
  obtain ⟨g1, gC', gI', gL', gR', gA', gO'⟩ := a
  refine ⟨C', Y, C4, C5, T, ⟨fun x q1 q2 q3 => ?_, fun x q => ?_⟩, F, ?_, ?_, ?_, fun q => ?_⟩
  · rw [(gA' x (by omega) fun w => a1 x ⟨Or.inl q2, w⟩).1]; exact c6.1 x q1 q2 q3
  · rw [gI' 3841 x (by omega) fun w => k3 x ⟨q, w⟩]; exact c6.2 x q
  · rw [gR' 3332 100 (by omega) r1]; exact c8
  · rw [gR' 3333 100 (by omega) r2]; exact c9
  · rw [gI' 3334 100 (by omega) k1]; exact c10
  · have q1 := c11 q
    have x1 : x0 = 183 ∨ x0 = 186 := hx
    unfold Scr at q1 ⊢
    rw [gI' 2306 x0 (by omega) fun w => k2 x0 ⟨by omega, w⟩, (gA' (x0 + 1) (by omega) fun w => a1 _ ⟨Or.inr (by omega), w⟩).1, (gA' (x0 + 2) (by omega) fun w => a1 _ ⟨Or.inr (by omega), w⟩).1]; exact q1
theorem j_way (i : JI h P Q Z) : ∃ bk s b v G Cp t, JBk h bk s b v G Cp t ∧ ∀ f r, f < bk 0 0 → r < bk 0 0 → JO d 21 106 [.int (nI f), .int (nI r)] h P Q Z := by
  obtain ⟨b, bk, s, G, Cp, v, t, fd, ff, md, sd, x0, y0, hp, u, i1, i2, i3, i4, i5, i6, i7⟩ := i
  refine ⟨bk, s, b, v, G, Cp, t, ⟨i1.1, i1.2.1, i1.2.2.1, i1.2.2.2.1, i2.1, i2.2.2.1, i2.2.2.2.1, i2.2.2.2.2.1, i3.2.1, i3.2.2.1, i3.2.2.2.1, i3.2.2.2.2.2.1, i4⟩, fun f r hf hr => ?_⟩
  obtain ⟨h1, a1, a2, a3, a4⟩ := c_way (d := d + 331) i1.1.1 i2.1 i1.2.1 i2.2.1 hf hr
  have s1 := a3.1
  have r1 := i3.rk (a2.rk (by decide) (by decide)) s1
  obtain ⟨h2, b1, b2, b3, b4, b5, b6⟩ := r_way (d := d + 336) s1 i1.1.1 i1.2.1 i1.2.2.2.1 r1.2.1 r1.2.2.1 r1.2.2.2.1 r1.2.2.2.2.1 hf hr
  have n1 : gN h1 = gN h := congrArg (fun p : Nat × Nat => p.1) a2.1
  have n2 : gS h1 = gS h := congrArg (fun p : Nat × Nat => p.2) a2.1
  have c1 : JCo h1 b bk s G Cp t fd ff md x0 y0 hp u := i2.gf (a2.gfk (fun _ q => q) (fun _ q => q)) i2.1.1.2 i1.2.2.2.2.2.1 (by decide) (fun x w => absurd w.2 (by decide)) (fun x w => absurd w.2 (by decide)) (by decide) (by decide) (fun x w => by have := w.2; simp only [List.mem_cons, List.not_mem_nil, or_false] at this; omega) a3 a4 (i2.2.2.1.fr a2 (by decide) (by decide) (by decide) rfl) (i2.2.2.2.1.fr a2 (by decide)) (i2.2.2.2.2.1.fr a2 (by decide) (by decide)) (i2.2.2.2.2.2.2.1.fr a2 (by decide))
  have r2 : JRf h2 v bk s t fd ff md sd hp u := by
    obtain ⟨c1, c2, c3, c4, c5, c6, c7, c8, c9, c10, c11, c12, c13⟩ := r1
    refine ⟨b3.sh c1, by rw [b3.I (by decide)]; exact c2, b5, b4, b6, c6.fr b3 (by decide) (by decide), c7.fr b3 (by decide), c8.fr b3 (by decide) (by decide), MRt.fr c9 b3 (by decide), c10.fr b3 (by decide), by rw [b3.I (by decide)]; exact c11, by rw [b3.I (by decide)]; exact c12, fun q => ?_⟩
    have c13 := c13 q
    unfold RPg AT T3 at c13 ⊢
    rw [b3.A (by decide), b3.A (by decide), b3.A (by decide), b3.A (by decide), b3.A (by decide), b3.A (by decide), b3.A (by decide), b3.A (by decide)]; exact c13
  exact JO.of a1 b1 b2 i1 c1 b3 (by decide) (by decide) r2 ((i4.keep a2 (by decide) (by decide)).keep b3 (by decide) (by decide)) (by omega) (by omega) (by omega)
end JIW
