/-! ===== THE LAW: accept, joined ===== -/
section JIV
variable {d : Nat} {h h' h1 h2 : AH} {b v sd x0 y0 P Q Z : Nat} {bk : Bk} {s s' s'' : St} {G Cp G' Cp' : Nat → Nat → Nat} {t t' u : Tp} {fd ff md fd' ff' md' : Int32} {hp : Bool} {K X : List Nat}
theorem JRf.fra (c : JRf h v bk s t fd ff md sd hp u) (f : Fr K X h h') (hK : ∀ k, k ∈ [3597, 3695, 3696, 3644, 3645, 3653] → k ∉ K) (hX : ∀ x, x ∈ X → x ≠ 190 ∧ x ≠ 191 ∧ x ≠ 192 ∧ x ≠ 239 ∧ (x < 197 ∨ 232 < x ∧ x < 274 ∨ 281 < x)) (R : RS h' s') (Y : RY h' bk) (T : RT h' t') : JRf h' v bk s' t' fd ff md sd hp u := by
  obtain ⟨c1, c2, c3, c4, c5, c6, c7, c8, c9, c10, c11, c12, c13⟩ := c
  have nX : ∀ x, x = 190 ∨ x = 191 ∨ x = 192 ∨ x = 239 ∨ 197 ≤ x ∧ x ≤ 232 ∨ 274 ≤ x ∧ x ≤ 281 → x ∉ X := fun x q w => by have := hX x w; omega
  refine ⟨f.sh c1, by rw [f.I (hK 3597 (by decide))]; exact c2, c3.fr f (fun x hm => by have := hX x hm; omega), R, Y, T, c7.fr f (nX _ (by decide)), c8.fr f (nX _ (by decide)) (nX _ (by decide)), MRt.fr c9 f (nX _ (by decide)), c10.fr f (fun k hk => hK k ((by decide : ∀ k, k ∈ [3644, 3645, 3653] → k ∈ [3597, 3695, 3696, 3644, 3645, 3653]) k hk)), by rw [f.I (hK 3696 (by decide))]; exact c11, by rw [f.I (hK 3695 (by decide))]; exact c12, fun q => ?_⟩
  have c13 := c13 q
  unfold RPg AT T3 at c13 ⊢
  rw [f.A (nX 274 (by decide)), f.A (nX 275 (by decide)), f.A (nX 276 (by decide)), f.A (nX (276 + 1) (by decide)), f.A (nX (276 + 2) (by decide)), f.A (nX 279 (by decide)), f.A (nX (279 + 1) (by decide)), f.A (nX (279 + 2) (by decide))]; exact c13
theorem acA_q (bk : Bk) (s : St) (t : Tp) (sv f : Nat) (x : Int32) : sM (acA bk s t sv f x).2 = sM s ∧ zN s 2 ≤ zN (acA bk s t sv f x).2 2 ∧ zN (acA bk s t sv f x).2 2 ≤ zN s 2 + 1 ∧ zN (acA bk s t sv f x).2 0 = zN s 0 := by
  have rf : sM s = sM s ∧ zN s 2 ≤ zN s 2 ∧ zN s 2 ≤ zN s 2 + 1 ∧ zN s 0 = zN s 0 := ⟨rfl, Nat.le_refl _, Nat.le_succ _, rfl⟩
  unfold acA
  split
  · exact rf
  · cases adS bk t with
    | none => exact rf
    | some q =>
      dsimp only
      cases tkS bk sv x with
      | none => exact rf
      | some w =>
        dsimp only
        split
        · have z2 : zN (acS0 bk s sv w f (ix q.2.2.2) q.2.1 (prA bk sv (nI w) f (bk 9 (ix q.2.2.2)))) 2 = zN s 2 + 1 := (up1_s : up1 (zN s) 2 (zN s 2 + 1) 2 = zN s 2 + 1)
          have z0 : zN (acS0 bk s sv w f (ix q.2.2.2) q.2.1 (prA bk sv (nI w) f (bk 9 (ix q.2.2.2)))) 0 = zN s 0 := (up1_x (by decide) : up1 (zN s) 2 (zN s 2 + 1) 0 = zN s 0)
          obtain ⟨kq, k0⟩ : Kr (stH (acS0 bk s sv w f (ix q.2.2.2) q.2.1 (prA bk sv (nI w) f (bk 9 (ix q.2.2.2)))) f (sH s f ++ [zN s 2])) (acS bk s sv w f (ix q.2.2.2) q.2.1 (prA bk sv (nI w) f (bk 9 (ix q.2.2.2)))) := Kr.nt
          have e2 : zN (acS bk s sv w f (ix q.2.2.2) q.2.1 (prA bk sv (nI w) f (bk 9 (ix q.2.2.2)))) 2 = zN s 2 + 1 := kq.2.2.2.2.trans z2
          exact ⟨kq.2.2.2.1, by dsimp only; omega, by dsimp only; omega, k0.trans z0⟩
        · exact rf
theorem j_accept (i : JI h P Q Z) (x : Int32) : ∃ bk s b v G Cp t, JBk h bk s b v G Cp t ∧ ∀ sv f, sv < bk 0 2 → f < bk 0 0 → JO d 22 97 [.int (nI sv), .int x, .int (nI f)] h P Q Z := by
  obtain ⟨b, bk, s, G, Cp, v, t, fd, ff, md, sd, x0, y0, hp, u, i1, i2, i3, i4, i5, i6, i7⟩ := i
  refine ⟨bk, s, b, v, G, Cp, t, ⟨i1.1, i1.2.1, i1.2.2.1, i1.2.2.2.1, i2.1, i2.2.2.1, i2.2.2.2.1, i2.2.2.2.2.1, i3.2.1, i3.2.2.1, i3.2.2.2.1, i3.2.2.2.2.2.1, i4⟩, fun sv f hsv hf => ?_⟩
  have g := i2.1.1.2
  obtain ⟨h1, G', Cp', a1, a2, a3, a4, a5, a6, a7, a8, a9⟩ := c_accept (d := d + 330) i1.1.1 i1.1.2.1 i2.1 i1.2.1 i1.2.2.1 i2.2.2.2.2.2.1 i2.2.2.2.1 i2.2.2.2.2.1 hsv hf x
  have s1 := a2.1
  have kf : ∀ k, k ∈ 3073 :: KF → k < 1549 ∨ k = 3073 := by decide
  have F : GF (fun k x => gN h ≤ x ∨ k < 2053 ∧ (k < 1549 ∨ 1555 < k) ∨ k = 3073) (fun k x => gN h ≤ x ∨ k = 257) (fun _ => True) (fun x => gN h ≤ x ∨ 61 ≤ x ∧ x < 157) h h1 := a6.wk (fun k x q => by
    rcases q with q | q | q
    · exact Or.inl q
    · have := nKC k q; omega
    · have := kf k q; omega) (fun k x q => q) (fun _ q => q) (fun x q => by
    rcases q with q | q
    · exact Or.inl q
    · have := xf.mp q; omega)
  have rk := F.rk g (fun k q w => by omega) (fun x q w => by omega)
  have r1 := i3.rk rk s1
  obtain ⟨h2, b1, b2, b3, b4, b5⟩ := r_accept (d := d + 334) s1 i1.1.1 i1.1.2.1 i1.2.1 i1.2.2.2.1 r1.2.1 r1.2.2.1 r1.2.2.2.1 r1.2.2.2.2.2.1 hsv hf x
  have w1 := acA_w (t := t) i1.1.1 i1.1.2.1 i1.2.1 hsv hf x
  obtain ⟨eM, z1, z2, z0⟩ := acA_q bk s t sv f x
  obtain ⟨s', hs'⟩ : ∃ s', s' = (acA bk s t sv f x).2 := ⟨_, rfl⟩
  rw [← hs'] at a2 a3 a4 b4 w1 eM z1 z2 z0
  have c1 : JCo h1 b bk s' G' Cp' (0, t.2) fd ff md x0 y0 hp u := i2.gf F g i1.2.2.2.2.2.1 (by omega) (fun x w => by omega) (fun x w => by omega) (by omega) (by omega) (fun x w => by omega) a2 (i2.2.1.gf F g (by omega) (by omega) (by omega) (by omega)) (i2.2.2.1.gf F g (by omega) (by omega) (by omega) eM) a4 a5 (i2.2.2.2.2.2.2.1.gf F g (fun k hk w => by have := (by decide : ∀ k, k ∈ [3335, 3336, 3337] → 3335 ≤ k) k hk; omega))
  have m1 : MRe h1 h1 (zN s 2) := i4.gk F g (fun k q w => by omega) (fun x q w => by omega) rk
  have m2 : MRe h2 h2 (zN s' 2) := by
    obtain ⟨ty, a2, p, p2, mk, rf, m⟩ := m1.keep b3 (by decide) (by decide)
    exact ⟨ty, a2, p, p2, mk, rf, m.up z1⟩
  exact JO.of a1 b1 b2 ⟨i1.1, w1, a3, i1.2.2.2⟩ c1 b3 (by decide) (by decide) (r1.fra b3 (by decide) (by decide) b4 (r1.2.2.2.2.1.fr b3 (by decide) (by decide) (by decide) (by decide)) b5) m2 (by dsimp only; omega) (by dsimp only; omega) (by omega)
end JIV
