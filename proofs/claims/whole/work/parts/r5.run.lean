/-! ===== THE LAW: run, joined ===== -/
section JIX
variable {d : Nat} {h h' h1 h2 : AH} {b v sd x0 y0 P Q Z : Nat} {bk : Bk} {s s' s'' : St} {G Cp G' Cp' : Nat → Nat → Nat} {t t' u : Tp} {fd ff md fd' ff' md' : Int32} {hp : Bool} {K X : List Nat}
theorem nI_inj {a b : Nat} (ha : a < 2 ^ 31) (hb : b < 2 ^ 31) (e : nI a = nI b) : a = b := (nI_eq ha hb).mp e
theorem oI_inj {a b : Option Nat} (ha : ∀ q, a = some q → q < 60) (hb : ∀ q, b = some q → q < 60) (e : oI a = oI b) : a = b := by
  cases a with
  | none =>
    cases b with
    | none => rfl
    | some y =>
      have := ((oI_m1 hb).1).mp e.symm
      cases this
  | some x =>
    cases b with
    | none =>
      have := ((oI_m1 ha).1).mp e
      cases this
    | some y =>
      have h1 := ha x rfl
      have h2 := hb y rfl
      rw [nI_inj (by omega) (by omega) (show nI x = nI y from e)]
/-- the reference's rows fix the signs and the moved doors -/
theorem RS.sg (W : WB bk) (w : WS bk s) (w' : WS bk s') (R : RS h s) (R' : RS h' s') (f : Fr K X h h') (hK : 3688 ∉ K) (hX : ∀ x, x ∈ [242, 243, 245, 265, 266, 267, 268] → x ∉ X) (z : zN s' 2 = zN s 2) : (∀ i, i < zN s 2 → sgB s' i = sgB s i) ∧ sM s' = sM s := by
  have b2 := W.1.2.2.1
  have b1 := W.1.2.1
  constructor
  · intro i hi
    obtain ⟨a1, a2, -, a3, -⟩ := R.1.2.2.2.2 i hi
    obtain ⟨c1, c2, -, c3, -⟩ := R'.1.2.2.2.2 i (by omega)
    obtain ⟨d1, d2, d3, -, d4, -⟩ := w.2.2.2.1 i hi
    obtain ⟨e1, e2, e3, -, e4, -⟩ := w'.2.2.2.1 i (by omega)
    rw [f.A (hX 242 (by decide)), a1] at c1
    rw [f.A (hX 243 (by decide)), a2] at c2
    rw [f.A (hX 245 (by decide)), a3] at c3
    have f1 := nI_inj (by omega) (by omega) c1
    have f2 := nI_inj (by omega) (by omega) c2
    have f3 := nI_inj (by omega) (by omega) c3
    funext p
    unfold sgB
    rw [f1, f2, f3]
  · obtain ⟨-, -, -, r1, r2⟩ := R
    obtain ⟨-, -, -, q1, q2⟩ := R'
    obtain ⟨-, -, -, -, -, -, -, -, -, -, -, m1, -, m2⟩ := w
    obtain ⟨-, -, -, -, -, -, -, -, -, -, -, n1, -, n2⟩ := w'
    rw [f.I hK, r1] at q1
    have hl := nI_inj (by omega) (by omega) q1
    refine List.ext_getElem hl.symm fun k k1 k2 => ?_
    obtain ⟨a1, a2, a3, a4⟩ := r2 k k2
    obtain ⟨c1, c2, c3, c4⟩ := q2 k k1
    obtain ⟨u1, u2, u3, u4⟩ := m2 _ (List.getElem_mem k2)
    obtain ⟨v1, v2, v3, v4⟩ := n2 _ (List.getElem_mem k1)
    rw [f.A (hX 265 (by decide)), a1] at c1
    rw [f.A (hX 266 (by decide)), a2] at c2
    rw [f.A (hX 267 (by decide)), a3] at c3
    have g1 := nI_inj (by omega) (by omega) c1
    have g2 := nI_inj (by omega) (by omega) c2
    have g3 := oI_inj (fun q e => by
      obtain ⟨y, y1, y2⟩ := Option.map_eq_some_iff.mp e
      have := u4 y y1
      omega) (fun q e => by
      obtain ⟨y, y1, y2⟩ := Option.map_eq_some_iff.mp e
      have := v4 y y1
      omega) c3
    refine Prod.ext g1.symm (Prod.ext g2.symm ?_)
    cases ea : (sM s)[k].2.2 with
    | none =>
      rw [ea] at g3
      cases ec : (sM s')[k].2.2 with
      | none => rfl
      | some y => rw [ec] at g3; cases g3
    | some x =>
      rw [ea] at g3
      cases ec : (sM s')[k].2.2 with
      | none => rw [ec] at g3; cases g3
      | some y =>
        rw [ec] at g3
        have e1 : x.1 = y.1 := Option.some.inj g3
        have e2 := c4 y ec
        rw [f.A (hX 268 (by decide)), a4 x ea] at e2
        have l1 := u4 x ea
        have l2 := v4 y ec
        have e3 := nI_inj (by omega) (by omega) e2
        exact congrArg some (Prod.ext e1.symm e3.symm)
theorem j_run (i : JI h P Q Z) (o n : Int32) : JO d 15 151 [.int o, .int n] h P Q Z := by
  obtain ⟨b, bk, s, G, Cp, v, t, fd, ff, md, sd, x0, y0, hp, u, i1, i2, i3, i4, i5, i6, i7⟩ := i
  have g := i2.1.1.2
  obtain ⟨j1, j2, j3, j4, j5, j6, j7, j8, j9⟩ := i1
  have P0 : PSb h h b bk s G Cp := ⟨i2.1, j2, j3, i2.2.1, i3.2.2.2.1, i3.2.2.2.2.1⟩
  have ph := i2.2.2.2.2.2.2.2.2.2.1
  have pg := i3.2.2.2.2.2.2.2.2.2.2.2.1
  have sc := i2.2.2.2.2.2.2.2.2.2.2
  have rp := i3.2.2.2.2.2.2.2.2.2.2.2.2
  obtain ⟨w0, h1, g1, s1', G1, Cp1, a1, -, a3, -, -, -, -, -, a2, -⟩ := run_b (d := d + 10) j1.1 P0 i3.1 i3.2.2.1 j4 i3.2.1 ph pg j6 i2.2.2.2.2.2.2.2.1 i3.2.2.2.2.2.2.2.2.2.2.1 j5 (fun q => ⟨sc q, rp q, (j9 q).1, (j9 q).2⟩) i4 o n
  have kc : ∀ k, k ∈ KC ∨ 1545 ≤ k ∧ k ≤ 1555 ∨ k = 2059 ∨ k = 2060 → k < 2061 ∧ k ≠ 2055 := fun k q => by
    rcases q with q | q | q | q
    · have := nKC k q; omega
    · omega
    · omega
    · omega
  have rk := a2.rk g (fun k q w => by have := kc k w; omega) (fun x q w => by omega)
  have s1 : Sh h1 := a3.1.1
  have r1 := i3.rk rk s1
  have m0 : MRe h h1 (zN s 2) := by
    obtain ⟨ty, e1, e2, e3, e4, e5, m⟩ := i4
    exact ⟨ty, e1, e2, e3, e4, e5, m.rk rk⟩
  have P1 : PSb h h1 b bk s G Cp := ⟨i2.1, j2, j3, i2.2.1, r1.2.2.2.1, r1.2.2.2.2.1⟩
  obtain ⟨w, h1', h2, s', G', Cp', b1, b2, ⟨c1, c2, c3, c4, c5, c6⟩, b4, b5, z2, z0, b8, b9, b10, b11, b12⟩ := run_b (d := d + 10) j1.1 P1 s1 r1.2.2.1 j4 r1.2.1 ph r1.2.2.2.2.2.2.2.2.2.2.2.1 j6 i2.2.2.2.2.2.2.2.1 r1.2.2.2.2.2.2.2.2.2.2.1 j5 (fun q => ⟨sc q, r1.2.2.2.2.2.2.2.2.2.2.2.2 q, (j9 q).1, (j9 q).2⟩) m0 o n
  have e := a1.symm.trans b1
  have e1 : h1 = h1' := congrArg (fun q : Option Ot => (q.getD (none, h1)).2) e
  obtain rfl := e1
  obtain ⟨sg, eM⟩ := RS.sg j1.1 j2 c2 r1.2.2.2.1 c5 b10 (by decide) (by decide) z2
  obtain ⟨m1, m2, m3, m4⟩ := b4
  have m5 := kc_e m4
  have q1 : JCo h1 b bk s' G' Cp' t fd ff md x0 y0 hp u := i2.gf b9 g j6 (fun w => by have := kc _ w; omega) (fun x w => by have := kc _ w.2; omega) (fun x w => by have := kc _ w.2; omega) (by omega) (by omega) (fun x w => by omega) c1 c4 (i2.2.2.1.gf b9 g (fun w => by have := kc _ w; omega) (by omega) (by omega) eM) (i2.2.2.2.1.gf b9 (fun j hj => (i2.1.2.2.2.2.1.2.2.2 j hj).2.1) (fun x q w => by omega) (fun x _ q w => by omega) z2 sg (b5 4 (by decide)) (b5 17 (by decide))) (i2.2.2.2.2.1.gf b9 g (fun w => by have := kc _ w; omega) (by omega)) (i2.2.2.2.2.2.2.1.gf b9 g (fun k hk w => by have := kc _ w; have := (by decide : ∀ k, k ∈ [3335, 3336, 3337] → 3335 ≤ k) k hk; omega))
  refine JO.of b1 b2 b12 ⟨j1, c2, c3, j4, j5, j6, j7, j8, j9⟩ q1 b10 (by decide) (by decide) (r1.frs b10 (by decide) (by decide) c5 c6) ?_ (by rw [z2]; omega) (by rw [z2]; omega) (by rw [z0]; omega)
  obtain ⟨ty, e1, e2, e3, e4, e5, m⟩ := b8
  rw [z2]
  exact ⟨ty, e1, e2, e3, e4, e5, m.frC b10 (by decide) (by decide)⟩
end JIX
