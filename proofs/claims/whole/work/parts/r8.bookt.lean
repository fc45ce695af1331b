/-! ===== THE LAW: a book that is taken, joined but for the room ===== -/
section JJA
variable {d : Nat} {h h' h1 h2 : AH} {b v sd x0 y0 P Q Z : Nat} {bk : Bk} {s s' s'' : St} {G Cp G' Cp' : Nat → Nat → Nat} {t t' u : Tp} {fd ff md fd' ff' md' : Int32} {hp : Bool} {K X : List Nat}
theorem book_s (i1 : JPu bk s Cp v sd x0 y0 hp u) (i2 : JCo h b bk s G Cp t fd ff md x0 y0 hp u) (i3 : JRf h v bk s t fd ff md sd hp u) (i4 : MRe h h (zN s 2)) (z : (bookS t).1 = 0) : ∃ (w : Int32) (h1 h2 : AH) (G' Cp' : Nat → Nat → Nat), E (d + 340) 3 [.ref 100] h = some (some (.int w), h1) ∧ E (d + 340) 35 [.ref 189] h1 = some (some (.int w), h2) ∧ gI h2 3586 189 = nI 0 ∧ JPu (bookS t).2 sE0 Cp' (1 - v) sd x0 y0 false u ∧ JCo h2 (gN h) (bookS t).2 sE0 G' Cp' (0, t.2) (-1) (-1) (-1) x0 y0 false u ∧ JRf h2 (1 - v) (bookS t).2 sE0 (0, t.2) (-1) (-1) (-1) sd false u ∧ MRe h2 h2 0 ∧ gN h2 ≤ gN h + 17 + 3 * t.1 ∧ gS h2 ≤ gS h + 311 + 63 * t.1 ∧ Cp' 9 0 = Cp 9 0 ∧ Cp' 9 1 = Cp 9 1 := by
  have g := i2.1.1.2
  have hv := i1.2.2.2.1
  have hbf : (bookS t).1 < 100000 := by omega
  have hc0 : Cp 9 0 ≤ 410 ∧ Cp 9 1 ≤ 410 := ⟨i1.2.2.1 0 (by decide) (Or.inl (by decide)), i1.2.2.1 1 (by decide) (Or.inl (by decide))⟩
  obtain ⟨h1, a1, a2, a3, a4, a5, a6, -, a8⟩ := c_book (d := d + 326) i2.1 i2.2.2.2.2.2.1 i2.2.2.2.2.1 hc0 hbf
  obtain ⟨a, wx, cz, e34, F, eY, C4, G', Cp', C', cb, cb0, cb1⟩ := a8 z
  have rk := a.rk g (fun k q w => by unfold BgI at w; omega) (fun x q w => by omega)
  have r1 := i3.rk rk a3
  obtain ⟨h2, b1, b2, b3, -, -, b5⟩ := r_book (d := d + 333) r1.1 r1.2.2.2.2.2.2.1 r1.2.2.2.2.2.1 hv r1.2.1 r1.2.2.1 i1.1.1
  obtain ⟨b6, b7, -, rz, b9⟩ := b5 z
  have c1 : JCo h1 (gN h) (bookS t).2 sE0 G' Cp' (0, t.2) (-1) (-1) (-1) x0 y0 false u := by
    obtain ⟨e1, e2, e3, e4, e5, e6, e7, e8, e9, e10, e11⟩ := i2
    obtain ⟨g1, gC', gI', gL', gR', gA', gO'⟩ := a
    refine ⟨C', Or.inl eY, C4, fun i hi => absurd hi (Nat.not_lt_zero _), a2, ⟨fun x q1 q2 q3 => ?_, fun x q => ?_⟩, F, ?_, ?_, e34, fun q => by cases q⟩
    · rw [(gA' x (by omega) (by omega)).1]; exact e6.1 x q1 q2 q3
    · rw [gI' 3841 x (by omega) (by unfold BgI; omega)]; exact e6.2 x q
    · rw [gR' 3332 100 (by omega) (by unfold BgR; omega)]; exact e8
    · rw [gR' 3333 100 (by omega) (by unfold BgR; omega)]; exact e9
  have xk : ∀ x, x ∈ XBk ++ XZ → 194 ≤ x ∧ x ≤ 232 ∨ x = 255 ∨ x = 257 ∨ 282 ≤ x ∧ x ≤ 284 := fun x q => by
    rcases List.mem_append.mp q with q | q
    · exact Or.inl (xbk.mp q)
    · exact Or.inr ((by decide : ∀ x, x ∈ XZ → x = 255 ∨ x = 257 ∨ 282 ≤ x ∧ x ≤ 284) x q)
  have nX : ∀ x, x < 194 ∨ 232 < x ∧ x < 255 ∨ 284 < x ∨ 257 < x ∧ x < 282 → x ∉ XBk ++ XZ := fun x q w => by have := xk x w; omega
  obtain ⟨rs1, rs2, rs3, rs4⟩ := r_e0 rz
  have r2 : JRf h2 (1 - v) (bookS t).2 sE0 (0, t.2) (-1) (-1) (-1) sd false u := by
    obtain ⟨e1, e2, e3, e4, e5, e6, e7, e8, e9, e10, e11, e12, e13⟩ := r1
    obtain ⟨-, -, -, -, -, -, -, -, -, -, z1, z2, z3, z4, z5⟩ := rz
    exact ⟨b9.sh e1, b6, b7, ⟨rs1, rs2, rs3, rs4⟩, Or.inl z5, b3, e7.fr b9 (nX _ (by decide)), e8.fr b9 (nX _ (by decide)) (nX _ (by decide)), MRt.fr e9 b9 (nX _ (by decide)), ⟨z1, z2, z3⟩, by rw [b9.I (by decide)]; exact e11, z4, fun q => by cases q⟩
  have m0 : MRe h h1 (zN s 2) := by
    obtain ⟨ty, e1, e2, e3, e4, e5, m⟩ := i4
    exact ⟨ty, e1, e2, e3, e4, e5, m.rk rk⟩
  have m1 : MRe h1 h2 0 := m0.new a g (fun k q w => by unfold BgI at w; omega) (by omega) cz b9 (by decide) (nX _ (by decide)) rz
  have m2 : MRe h2 h2 0 := by
    obtain ⟨ty, e1, e2, e3, e4, e5, m⟩ := m1
    exact ⟨ty, e1, e2, e3, e4, e5, m.frC b9 (by decide) (fun x hx => nX x (by have := (by decide : ∀ x, x ∈ XMc → x < 194) x hx; omega))⟩
  have n1 : gN h2 = gN h1 := congrArg (fun p : Nat × Nat => p.1) b9.1
  have n2 : gS h2 = gS h1 := congrArg (fun p : Nat × Nat => p.2) b9.1
  have hx := i1.2.2.2.2.2.1
  exact ⟨_, h1, h2, G', Cp', a1, b1, b2, ⟨wx, WS.e0 _, cb, by omega, i1.2.2.2.2.1, hx, i1.2.2.2.2.2.2.1, i1.2.2.2.2.2.2.2.1, fun q => by cases q⟩, c1.fr b9 hx (by decide) (fun x q => by have := xk x q; omega), r2, m2, by omega, by omega, cb0, cb1⟩
theorem j_book (i : JI h P Q Z) : JO d 3 35 [] h P Q Z := by
  obtain ⟨b, bk, s, G, Cp, v, t, fd, ff, md, sd, x0, y0, hp, u, i1, i2, i3, i4, i5, i6, i7⟩ := i
  by_cases z : (bookS t).1 = 0
  · obtain ⟨w, h1, h2, G', Cp', a1, a2, a3, a4, a5, a6, a7, a8, a9, a10, a11⟩ := book_s (d := d) i1 i2 i3 i4 z
    have k1 := csm_cap i1.2.2.1
    have k2 := csm_low (Cp := Cp')
    have e2 : zN sE0 2 = 0 := rfl
    have e0 : zN sE0 0 = 0 := rfl
    refine ⟨w, h1, h2, a1, a2, a3, _, _, _, _, _, _, _, _, _, _, _, _, _, _, _, a4, a5, a6, by rw [e2]; exact a7, ?_, ?_, by rw [e0]; exact Nat.zero_le _⟩
    · rw [e2]; dsimp only; omega
    · rw [e2]; dsimp only; omega
  · exact j_book_f i1 i2 i3 i4 i5 i6 i7 z
end JJA
