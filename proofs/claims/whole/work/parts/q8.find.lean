/-! ===== THE LAW: find, bar, gone, moved, joined ===== -/
section JGS
variable {d : Nat} {h h' h1 h2 : AH} {b v sd x0 y0 P Q Z : Nat} {bk : Bk} {s s' : St} {G Cp : Nat → Nat → Nat} {t t' u : Tp} {fd ff md : Int32} {hp : Bool} {K X : List Nat}
theorem CF.fr (F : CF h fd ff md) (f : Fr K X h h') (hK : ∀ k, k ∈ [3335, 3336, 3337] → k ∉ K) : CF h' fd ff md := by
  unfold CF at F ⊢
  rw [f.I (hK 3335 (by decide)), f.I (hK 3336 (by decide)), f.I (hK 3337 (by decide))]; exact F
theorem RF.fr (F : RF h fd ff md) (f : Fr K X h h') (hK : ∀ k, k ∈ [3644, 3645, 3653] → k ∉ K) : RF h' fd ff md := by
  unfold RF at F ⊢
  rw [f.I (hK 3644 (by decide)), f.I (hK 3645 (by decide)), f.I (hK 3653 (by decide))]; exact F
theorem MRt.fr (q : ∃ M, MRt h M) (f : Fr K X h h') (hX : 239 ∉ X) : ∃ M, MRt h' M := by
  obtain ⟨M, q⟩ := q
  exact ⟨M, fun j k hj hk => by rw [f.A hX]; exact q j k hj hk⟩
theorem RT.fr (T : RT h t) (f : Fr K X h h') (hK : 3590 ∉ K) (hX : 193 ∉ X) : RT h' t := by
  unfold RT at T ⊢
  rw [f.I hK, f.A hX]; exact T
theorem j_find (i : JI h P Q Z) : JO d 4 62 [] h P Q Z := by
  obtain ⟨b', bk, s, G, Cp, v, t, fd, ff, md, sd, x0, y0, hp, u, i1, i2, i3, i4, i5, i6, i7⟩ := i
  obtain ⟨h1, a1, a2, a3, a4⟩ := c_find (d := d + 332) (o := (fd, ff)) i2.1.1 i2.1.2.2.1 i1.1.1 i1.1.2.1 i2.1.2.2.2.1 i2.2.2.2.2.1 i2.2.2.2.2.2.2.1
  have s1 := a4.sh i2.1.1
  have r1 := i3.rk (a4.rk (by decide) (by decide)) s1
  obtain ⟨h2, b1, b2, b3, b4, b5⟩ := r_find (d := d + 335) (o := (fd, ff)) s1 i1.1.1 i1.1.2.1 r1.2.2.1 i1.2.2.2.1 r1.2.1 r1.2.2.2.2.2.1 r1.2.2.2.2.2.2.2.2.2.1
  have n1 : gN h1 = gN h := congrArg (fun p : Nat × Nat => p.1) a4.1
  have n2 : gS h1 = gS h := congrArg (fun p : Nat × Nat => p.2) a4.1
  exact JO.of a1 b1 b2 i1 (i2.frc a4 i1.2.2.2.2.2.1 (by decide) (by decide) (by decide) (by decide) a2 a3) b5 (by decide) (by decide) (r1.frr b5 (by decide) (by decide) b3 b4 (MRt.fr r1.2.2.2.2.2.2.2.2.1 b5 (by decide))) ((i4.keep a4 (by decide) (by decide)).keep b5 (by decide) (by decide)) (by dsimp only; omega) (by dsimp only; omega) (by omega)
theorem j_bar (i : JI h P Q Z) : ∃ bk s b v G Cp t, JBk h bk s b v G Cp t ∧ ∀ j k, j < zN s 2 → k < 33 → JO d 23 86 [.int (nI j), .int (nI k)] h P Q Z := by
  obtain ⟨b, bk, s, G, Cp, v, t, fd, ff, md, sd, x0, y0, hp, u, i1, i2, i3, i4, i5, i6, i7⟩ := i
  refine ⟨bk, s, b, v, G, Cp, t, ⟨i1.1, i1.2.1, i1.2.2.1, i1.2.2.2.1, i2.1, i2.2.2.1, i2.2.2.2.1, i2.2.2.2.2.1, i3.2.1, i3.2.2.1, i3.2.2.2.1, i3.2.2.2.2.2.1, i4⟩, fun j k hj hk => ?_⟩
  obtain ⟨T, a1, a2⟩ := c_bar (d := d + 336) i2.1 i1.2.1 i2.2.2.2.1 hj hk
  obtain ⟨M, q⟩ := i3.2.2.2.2.2.2.2.2.1
  obtain ⟨h2, M', W', b1, b2, b3, b4, b5⟩ := r_bar (d := d + 336) i3.1 i1.2.1 i1.1.1 i3.2.2.2.1.1 i3.2.2.2.2.2.2.2.1 q hj hk
  have wi := i1.2.1.2.2.2.1 j hj
  have z2 := i1.2.1.1
  have z3 := i1.1.1.1.2.2.1
  have eq := SolS.one sp7_d (fun p _ => sgB_lt (s := s) (i := j) (by omega) (by omega) (by omega) (by omega) p) a1 b1 (k / 3) (by omega)
  have e : brS W' k = brS T k := by
    unfold brS
    rw [eq]
  rw [e] at b2
  exact JO.of a2 b2 b3 i1 i2 b4 (by decide) (by decide) (i3.frr b4 (by decide) (by decide) (RT.fr i3.2.2.2.2.2.1 b4 (by decide) (by decide)) (RF.fr i3.2.2.2.2.2.2.2.2.2.1 b4 (by decide)) ⟨M', b5⟩) (i4.keep b4 (by decide) (by decide)) (by omega) (by omega) (by omega)
end JGS
