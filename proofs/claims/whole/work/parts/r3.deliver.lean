/-! ===== THE LAW: deliver, joined ===== -/
section JIU
variable {d : Nat} {h h' h1 h2 : AH} {b v sd x0 y0 P Q Z : Nat} {bk : Bk} {s s' s'' : St} {G Cp G' Cp' : Nat → Nat → Nat} {t t' u : Tp} {fd ff md fd' ff' md' : Int32} {hp : Bool} {K X : List Nat}
def Kr (s s' : St) : Prop := Kq s s' ∧ zN s' 0 = zN s 0
theorem Kr.rf : Kr s s := ⟨Kq.rf, rfl⟩
theorem Kr.tr (a : Kr s s') (b : Kr s' s'') : Kr s s'' := ⟨a.1.tr b.1, b.2.trans a.2⟩
theorem Kr.nt {i w o : Nat} : Kr s (ntS bk s i w o) := ⟨Kq.nt, by
  unfold ntS
  split
  · exact stZ_10
  · rfl⟩
theorem Kr.I {k i w : Nat} (q : 4 ≤ k) : Kr s (stI s k i w) := ⟨Kq.I q, rfl⟩
theorem Kr.pp {i : Nat} {w : Option Nat} : Kr s (stP s i w) := ⟨⟨rfl, rfl, rfl, rfl, rfl⟩, rfl⟩
theorem Kr.dl {i f wh wt : Nat} : Kr s (dlS bk s i f wh wt) := ⟨Kq.dl, dlS_z.1⟩
theorem Kr.sa {i o : Nat} {to : Option (Nat × Nat)} : Kr s (saS bk s i to o) := by
  unfold saS
  cases to with
  | none => exact Kr.pp.tr Kr.nt
  | some q =>
    dsimp only
    split
    · exact ((Kr.pp.tr (Kr.I (by decide))).tr (Kr.I (by decide))).tr Kr.nt
    · exact Kr.pp.tr Kr.nt
theorem Kr.tsi {f wk i : Nat} {S : List (Nat × Nat)} : Kr s (tsI bk f wk s S i).1 := by
  unfold tsI
  cases iP s i with
  | none => exact Kr.rf
  | some p =>
    dsimp only
    split
    · cases mvI s p (iN s 4 i) with
      | some k => exact Kr.sa
      | none =>
        dsimp only
        cases fdF (pX bk p (iN s 4 i / 27), pY bk p (iN s 4 i / 27)) S 0 with
        | some k => exact Kr.rf
        | none =>
          dsimp only
          split
          · exact Kr.rf
          · exact Kr.rf
    · exact Kr.rf
theorem Kr.tsl {f wk : Nat} : ∀ (xs : List Nat) (s : St) (S : List (Nat × Nat)), Kr s (tsL bk f wk xs s S).1
  | [], _, _ => Kr.rf
  | i :: r, s, S => Kr.tsi.tr (Kr.tsl r _ _)
theorem Kr.dv {f : Nat} : ∀ (xs : List Nat) (s : St), Kr s (dvL bk f xs s)
  | [], _ => Kr.rf
  | i :: r, s => Kr.dl.tr (Kr.dv r _)
theorem Kr.gw {f n : Nat} {l : List Nat} {os : List (Option Nat)} {D : Nat → Nat → Nat} : ∀ (m a e : Nat) (s : St), Kr s (gwF bk f l os n D m a e s)
  | 0, _, _, _ => Kr.rf
  | m + 1, a, e, s => (Kr.dv _ _).tr (Kr.gw m _ _ _)
theorem Kr.wk {f wk : Nat} : Kr s (wkA bk s f wk).2 := by
  unfold wkA
  split
  · exact Kr.tsl _ _ _
  · exact (Kr.tsl _ _ _).tr (Kr.gw _ _ _ _)
theorem Kr.gb {f : Nat} : ∀ (m k n : Nat) (s : St), Kr s (gbF bk f m k n s).1
  | 0, _, _, _ => Kr.rf
  | m + 1, k, n, s => by
    unfold gbF
    split
    · exact Kr.dl.tr (Kr.gb m k (n + 1) _)
    · exact Kr.gb m (k + 1) n s
theorem Kr.dlv (x y : Int32) : Kr s (dlvA bk s x y).2 := by
  unfold dlvA
  cases hv x (bk 0 0) with
  | none => exact Kr.rf
  | some f =>
    dsimp only
    cases hv y 11 with
    | none => exact Kr.rf
    | some j =>
      dsimp only
      split
      · exact Kr.gb _ _ _ _
      · exact Kr.wk
theorem j_deliver (i : JI h P Q Z) (x y : Int32) : JO d 11 118 [.int x, .int y] h P Q Z := by
  obtain ⟨b, bk, s, G, Cp, v, t, fd, ff, md, sd, x0, y0, hp, u, i1, i2, i3, i4, i5, i6, i7⟩ := i
  have g := i2.1.1.2
  obtain ⟨h1, a1, a2, a3, w1, a4, a5, a6⟩ := c_deliver (d := d + 332) i1.1.1 i2.1 i2.2.2.1 i1.2.1 i1.2.2.1 x y
  have s1 := a2.1
  have kk : ∀ k, k ∈ KDc → k < 2065 ∧ (k < 1549 ∨ 1555 < k) ∧ k ≠ 2059 ∧ k ≠ 2060 := by decide
  have xx : ∀ x, x ∈ XDc → 171 ≤ x ∧ x ≤ 174 := by decide
  have rk := a6.rk g (fun k q w => by have := kk k w; omega) (fun x q w => by have := xx x w; omega)
  have r1 := i3.rk rk s1
  obtain ⟨h2, b1, b2, b3, b4⟩ := r_deliver0 (d := d + 335) i1.1.1 i1.2.2.2.1 s1 r1.2.1 r1.2.2.1 r1.2.2.2.1 i1.2.1 x y
  obtain ⟨kq, z0⟩ : Kr s (dlvA bk s x y).2 := Kr.dlv x y
  obtain ⟨s', hs'⟩ : ∃ s', s' = (dlvA bk s x y).2 := ⟨_, rfl⟩
  rw [← hs'] at a2 a3 w1 a4 b2 kq z0
  have z2 := kq.2.2.2.2
  have n1 : gN h1 = gN h := congrArg (fun p : Nat × Nat => p.1) a5
  have n2 : gS h1 = gS h := congrArg (fun p : Nat × Nat => p.2) a5
  have c1 : JCo h1 b bk s' G Cp t fd ff md x0 y0 hp u := i2.gf a6 g i1.2.2.2.2.2.1 (by decide) (fun x w => absurd w.2 (by decide)) (fun x w => absurd w.2 (by decide)) (by decide) (by decide) (fun x w => by have := xx x w.2; omega) a2 (i2.2.1.gf a6 g (by decide) (by decide) (by decide) (by decide)) a3 (i2.2.2.2.1.gf a6 (fun j hj => (i2.1.2.2.2.2.1.2.2.2 j hj).2.1) (fun x q w => by omega) (fun x _ q w => by have := xx x w; omega) z2 (fun j _ => kq.sg j) rfl rfl) (i2.2.2.2.2.1.gf a6 g (by decide) (by decide)) (i2.2.2.2.2.2.2.1.gf a6 g (by decide))
  exact JO.of a1 b1 b4 ⟨i1.1, w1, a4, i1.2.2.2⟩ c1 b3 (by decide) (by decide) (r1.frs b3 (by decide) (by decide) b2 (r1.2.2.2.2.1.fr b3 (by decide) (by decide) (by decide) (by decide))) (by rw [z2]; exact (i4.gk a6 g (fun k q w => by have := kk k w; omega) (fun x q w => by have := xx x w; omega) rk).keep b3 (by decide) (by decide)) (by rw [z2]; omega) (by rw [z2]; omega) (by rw [z0]; omega)
end JIU
