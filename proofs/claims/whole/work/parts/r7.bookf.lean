/-! ===== THE LAW: a book that is refused, joined ===== -/
section JIZ
variable {d : Nat} {h h' h1 h2 : AH} {b v sd x0 y0 P Q Z : Nat} {bk : Bk} {s s' s'' : St} {G Cp G' Cp' : Nat → Nat → Nat} {t t' u : Tp} {fd ff md fd' ff' md' : Int32} {hp : Bool} {K X : List Nat}
theorem CSt.bkf (C : CSt h b bk s G Cp) (a : BkF h h') (hs' : Sh h') (w' : HW h') : CSt h' b bk s G Cp := by
  obtain ⟨c1, c2, c3, c4, c5, c6, c7, c8⟩ := C
  have g := c1.2
  have nI' : ∀ k, k ∈ kI → ¬ (3073 ≤ k ∧ k ≤ 3078 ∨ k = 519) := by decide
  have hl : ∀ j, j < 4 → G 7 j < gN h ∧ G 8 j < gN h := fun j hj => by
    have := (c4.2.2.1 j hj).2
    exact ⟨c2.lt this.1 (by decide), c2.lt this.2.2.1 (by decide)⟩
  refine ⟨hs', w', by rw [a.2.2.2.2.1 2048 156 (by omega) (by omega)]; exact c3, c4.g2 c2 a (fun k hk x hx q => ?_) (fun j hj => ⟨fun q => ?_, fun q => ?_, fun q => ?_⟩) (fun k hk x hx q => by omega) (fun x _ hx q => by omega), ?_, c6, fun r hr => ⟨(c7 r hr).1.up a.1.1, (c7 r hr).2⟩, fun r hr h0 => ?_⟩
  · rcases q with q | q
    · omega
    · exact nI' k hk q
  · have := (hl j hj).1; omega
  · have := (hl j hj).1; omega
  · have := (hl j hj).2; omega
  · obtain ⟨d1, d2, d3, d4⟩ := c5
    have kI' : ∀ k x, x < gN h → 1280 ≤ k → k ≤ 2052 → gI h' k x = gI h k x := fun k x hx q1 q2 => a.2.2.1 k x hx (by omega)
    refine ⟨by rw [kI' _ _ (by omega) (by decide) (by decide)]; exact d1, by rw [kI' _ _ (by omega) (by decide) (by decide)]; exact d2, d3, fun i hi => ?_⟩
    obtain ⟨e1, e2, e3⟩ := d4 i hi
    have k2 : ∀ k, 1280 ≤ k → k ≤ 2052 → gI h' k (G 4 i) = gI h k (G 4 i) := fun k => kI' k _ e2
    rw [(a.2.1 _ e2).1, k2 _ (by decide) (by decide), k2 _ (by decide) (by decide), k2 _ (by decide) (by decide), k2 _ (by decide) (by decide), k2 _ (by decide) (by decide), k2 _ (by decide) (by decide), k2 _ (by decide) (by decide), k2 _ (by decide) (by decide), k2 _ (by decide) (by decide), k2 _ (by decide) (by decide), k2 _ (by decide) (by decide), k2 _ (by decide) (by decide), k2 _ (by decide) (by decide), k2 _ (by decide) (by decide)]
    exact ⟨e1, Nat.lt_of_lt_of_le e2 a.1.1, e3⟩
  · have A := c8 r hr h0
    have l1 := c2.lt A.1 (by decide)
    have l2 := c2.lt A.2.2.1 (by decide)
    exact A.gf c2 a (by omega) (by omega) (by omega)
theorem j_book_f (i1 : JPu bk s Cp v sd x0 y0 hp u) (i2 : JCo h b bk s G Cp t fd ff md x0 y0 hp u) (i3 : JRf h v bk s t fd ff md sd hp u) (i4 : MRe h h (zN s 2)) (i5 : gS h + 63 * t.1 + 560 * zN s 2 + 4 * kcL Cp ≤ P + 4 * csm Cp 70) (i6 : gN h + 3 * t.1 + 140 * zN s 2 + kcL Cp ≤ Q + csm Cp 70) (i7 : zN s 0 ≤ Z) (z : (bookS t).1 ≠ 0) : JO d 3 35 [] h P Q Z := by
  have g := i2.1.1.2
  have hbf : (bookS t).1 < 100000 := by
    obtain ⟨-, -, -, -, q, -⟩ := r_book (d := d) i3.1 i3.2.2.2.2.2.2.1 i3.2.2.2.2.2.1 i1.2.2.2.1 i3.2.1 i3.2.2.1 i1.1.1
    exact q
  have hc0 : Cp 9 0 ≤ 410 ∧ Cp 9 1 ≤ 410 := ⟨i1.2.2.1 0 (by decide) (Or.inl (by decide)), i1.2.2.1 1 (by decide) (Or.inl (by decide))⟩
  obtain ⟨h1, a1, a2, a3, a4, a5, a6, a7, -⟩ := c_book (d := d + 326) i2.1 i2.2.2.2.2.2.1 i2.2.2.2.2.1 hc0 hbf
  have a := a7 z
  have rk := a.rk g (fun k q w => by omega) (fun x q w => by omega)
  have r1 := i3.rk rk a3
  obtain ⟨h2, b1, b2, b3, -, b5, -⟩ := r_book (d := d + 333) r1.1 r1.2.2.2.2.2.2.1 r1.2.2.2.2.2.1 i1.2.2.2.1 r1.2.1 r1.2.2.1 i1.1.1
  obtain ⟨b6, b7⟩ := b5 z
  have c1 : JCo h1 b bk s G Cp (0, t.2) fd ff md x0 y0 hp u := i2.gf a g i1.2.2.2.2.2.1 (by omega) (fun x w => by omega) (fun x w => by omega) (by omega) (by omega) (fun x w => by omega) (i2.1.bkf a a3 a4) (i2.2.1.gf a g (by omega) (by omega) (by omega) (by omega)) (i2.2.2.1.gf a g (by omega) (by omega) (by omega) rfl) (i2.2.2.2.1.gf a (fun j hj => (i2.1.2.2.2.2.1.2.2.2 j hj).2.1) (fun x q w => by omega) (fun x _ q w => by omega) rfl (fun _ _ => rfl) rfl rfl) a2 (i2.2.2.2.2.2.2.1.gf a g (fun k hk w => by have := (by decide : ∀ k, k ∈ [3335, 3336, 3337] → 3335 ≤ k) k hk; omega))
  have xk : ∀ x, x ∈ XBk → 194 ≤ x ∧ x ≤ 232 := fun x q => xbk.mp q
  have nX : ∀ x, x < 194 ∨ 232 < x → x ∉ XBk := fun x q w => by have := xk x w; omega
  have r2 : JRf h2 v bk s (0, t.2) fd ff md sd hp u := by
    obtain ⟨e1, e2, e3, e4, e5, e6, e7, e8, e9, e10, e11, e12, e13⟩ := r1
    refine ⟨b7.sh e1, by rw [b7.I (by decide)]; exact e2, b6, e4.fr b7 (by decide) (fun x q => by have := xk x q; omega), e5.fr b7 (by decide) (by decide) (nX _ (by decide)) (nX _ (by decide)), b3, e7.fr b7 (nX _ (by decide)), e8.fr b7 (nX _ (by decide)) (nX _ (by decide)), MRt.fr e9 b7 (nX _ (by decide)), e10.fr b7 (by decide), by rw [b7.I (by decide)]; exact e11, by rw [b7.I (by decide)]; exact e12, fun q => ?_⟩
    have e13 := e13 q
    unfold RPg AT T3 at e13 ⊢
    rw [b7.A (nX 274 (by decide)), b7.A (nX 275 (by decide)), b7.A (nX 276 (by decide)), b7.A (nX (276 + 1) (by decide)), b7.A (nX (276 + 2) (by decide)), b7.A (nX 279 (by decide)), b7.A (nX (279 + 1) (by decide)), b7.A (nX (279 + 2) (by decide))]; exact e13
  exact JO.of a1 b1 b2 i1 c1 b7 (by decide) (fun x q => by have := xk x q; omega) r2 ((i4.gk a g (fun k q w => by omega) (fun x q w => by omega) rk).keep b7 (by decide) (fun x q => by have := xk x q; omega)) (by dsimp only; omega) (by dsimp only; omega) (by omega)
end JIZ
