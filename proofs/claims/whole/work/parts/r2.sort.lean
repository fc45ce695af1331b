/-! ===== THE LAW: sort, tick, joined ===== -/
section JIT
variable {d : Nat} {h h' h1 h2 : AH} {b v sd x0 y0 P Q Z : Nat} {bk : Bk} {s s' s'' : St} {G Cp G' Cp' : Nat → Nat → Nat} {t t' u : Tp} {fd ff md fd' ff' md' : Int32} {hp : Bool} {K X : List Nat}
/-- an item's signs and the moved doors stay -/
def Kq (s s' : St) : Prop := iN s' 0 = iN s 0 ∧ iN s' 1 = iN s 1 ∧ iN s' 3 = iN s 3 ∧ sM s' = sM s ∧ zN s' 2 = zN s 2
theorem Kq.rf : Kq s s := ⟨rfl, rfl, rfl, rfl, rfl⟩
theorem Kq.tr (a : Kq s s') (b : Kq s' s'') : Kq s s'' := ⟨b.1.trans a.1, b.2.1.trans a.2.1, b.2.2.1.trans a.2.2.1, b.2.2.2.1.trans a.2.2.2.1, b.2.2.2.2.trans a.2.2.2.2⟩
theorem Kq.sg (a : Kq s s') (i : Nat) : sgB s' i = sgB s i := by
  obtain ⟨a1, a2, a3, -⟩ := a
  funext p
  unfold sgB
  rw [a1, a2, a3]
theorem Kq.I {k i v : Nat} (q : 4 ≤ k) : Kq s (stI s k i v) := ⟨up2_k (by omega), up2_k (by omega), up2_k (by omega), rfl, rfl⟩
theorem Kq.zz {k v : Nat} (q : k ≠ 2) : Kq s (stZ s k v) := ⟨rfl, rfl, rfl, rfl, (up1_x (fun w => q w.symm) : up1 (zN s) k v 2 = zN s 2)⟩
theorem Kq.nt {i w o : Nat} : Kq s (ntS bk s i w o) := by
  unfold ntS
  split
  · exact Kq.zz (by decide)
  · exact Kq.rf
theorem Kq.cm {i w o : Nat} {c : Option Nat} : Kq s (cmS s i w o c) := (((Kq.I (by decide)).tr (Kq.I (by decide))).tr (Kq.I (by decide)) : Kq s (stI (stI (stI s 5 i w) 6 i o) 8 i (zN s 0)))
theorem Kq.ib {i c : Nat} : Kq s (ibS bk s i c) := (Kq.cm : Kq (stG (stH s (bk 25 c) ((sH s (bk 25 c)).erase i)) c (sG s c ++ [i])) _).tr Kq.nt
theorem Kq.dl {i f wh wt : Nat} : Kq s (dlS bk s i f wh wt) := (Kq.cm : Kq (stH s f ((sH s f).erase i)) _).tr Kq.nt
theorem Kq.sr {f clk : Nat} : ∀ (m k n : Nat) (s : St), Kq s (srF bk f clk m k n s).1
  | 0, _, _, _ => Kq.rf
  | m + 1, k, n, s => by
    unfold srF
    split
    · exact Kq.sr m (k + 1) n s
    · exact Kq.ib.tr (Kq.sr m k (n + 1) _)
theorem Kq.so (x : Int32) : Kq s (soS bk s x).2 := by
  unfold soS
  split
  · exact Kq.rf
  · exact Kq.sr _ _ _ _
theorem Kq.dpJ {c i : Nat} : Kq s (dpJ bk c s i) := (Kq.cm.tr (Kq.I (by decide))).tr Kq.nt
theorem Kq.dpL {c : Nat} : ∀ (xs : List Nat) (s : St), Kq s (dpL bk c xs s)
  | [], _ => Kq.rf
  | i :: r, s => Kq.dpJ.tr (Kq.dpL r _)
theorem Kq.dp {c : Nat} : Kq s (dpS bk c s) := (Kq.dpL ((sG s c).take (bk 31 c)) s : Kq s _)
theorem Kq.go : ∀ (m c : Nat) (s : St), Kq s (goF bk m c s)
  | 0, _, _ => Kq.rf
  | m + 1, c, s => by
    have e : Kq s (gcS bk c s) := by
      unfold gcS
      split
      · exact Kq.dp
      · exact Kq.rf
    exact e.tr (Kq.go m (c + 1) _)
theorem Kq.sh {i o : Nat} : Kq s (shS bk s i o) := (Kq.cm : Kq (stH s o (sH s o ++ [i])) _).tr Kq.nt
theorem Kq.avL : ∀ (xs : List Nat) (s : St), Kq s (avL bk xs s)
  | [], _ => Kq.rf
  | i :: r, s => by
    have e : Kq s (if iN s 9 i = zN s 0 then shS bk s i (iN s 6 i) else s) := by
      split
      · exact Kq.sh
      · exact Kq.rf
    exact e.tr (Kq.avL r _)
theorem Kq.av : Kq s (avS bk s) := (Kq.avL (rid s) s : Kq s _)
theorem Kq.mn : Kq s (mnS bk s) := (Kq.zz (by decide)).tr (Kq.av.tr (Kq.go _ _ _))
theorem Kq.tmn : ∀ (n : Nat) (s : St), Kq s (tmnS bk n s)
  | 0, _ => Kq.rf
  | n + 1, _ => Kq.mn.tr (Kq.tmn n _)
theorem Kq.tk (x : Int32) : Kq s (tkA bk s x).2 := by
  unfold tkA
  split
  · exact Kq.tmn _ _
  · exact Kq.rf
theorem WS.tkw (W : WB bk) (w : WS bk s) (hz : zN s 0 + 3000 < 2 ^ 29) (x : Int32) : WS bk (tkA bk s x).2 ∧ zN (tkA bk s x).2 0 ≤ zN s 0 + 3000 := by
  unfold tkA
  rcases hv_c x (show 3001 < 2 ^ 31 by decide) with ⟨e, -⟩ | ⟨j, hj, rfl, e⟩
  · rw [e]; exact ⟨w, Nat.le_add_right _ _⟩
  · rw [e]
    obtain ⟨t1, t2, t3⟩ := WS.tk W j s w (by omega)
    exact ⟨t1, by show zN (tmnS bk j s) 0 ≤ _; omega⟩
/-- a reference's move that changes the office -/
theorem JRf.frs (c : JRf h v bk s t fd ff md sd hp u) (f : Fr K X h h') (hK : ∀ k, k ∈ [3597, 3590, 3695, 3696, 3644, 3645, 3653] → k ∉ K) (hX : ∀ x, x ∈ X → x ≠ 190 ∧ x ≠ 191 ∧ x ≠ 192 ∧ x ≠ 193 ∧ x ≠ 239 ∧ (x < 197 ∨ 232 < x ∧ x < 274 ∨ 281 < x)) (R : RS h' s') (Y : RY h' bk) : JRf h' v bk s' t fd ff md sd hp u := by
  obtain ⟨c1, c2, c3, c4, c5, c6, c7, c8, c9, c10, c11, c12, c13⟩ := c
  have nX : ∀ x, x = 190 ∨ x = 191 ∨ x = 192 ∨ x = 193 ∨ x = 239 ∨ 197 ≤ x ∧ x ≤ 232 ∨ 274 ≤ x ∧ x ≤ 281 → x ∉ X := fun x q w => by have := hX x w; omega
  refine ⟨f.sh c1, by rw [f.I (hK 3597 (by decide))]; exact c2, c3.fr f (fun x hm => by have := hX x hm; omega), R, Y, c6.fr f (hK _ (by decide)) (nX _ (by decide)), c7.fr f (nX _ (by decide)), c8.fr f (nX _ (by decide)) (nX _ (by decide)), MRt.fr c9 f (nX _ (by decide)), c10.fr f (fun k hk => hK k ((by decide : ∀ k, k ∈ [3644, 3645, 3653] → k ∈ [3597, 3590, 3695, 3696, 3644, 3645, 3653]) k hk)), by rw [f.I (hK 3696 (by decide))]; exact c11, by rw [f.I (hK 3695 (by decide))]; exact c12, fun q => ?_⟩
  have c13 := c13 q
  unfold RPg AT T3 at c13 ⊢
  rw [f.A (nX 274 (by decide)), f.A (nX 275 (by decide)), f.A (nX 276 (by decide)), f.A (nX (276 + 1) (by decide)), f.A (nX (276 + 2) (by decide)), f.A (nX 279 (by decide)), f.A (nX (279 + 1) (by decide)), f.A (nX (279 + 2) (by decide))]; exact c13
theorem nKC : ∀ k, k ∈ KC → k < 2053 ∧ (k < 1549 ∨ 1555 < k) := by decide
theorem j_tick (i : JI h P Q Z) (hz : Z + 3000 < 2 ^ 29) (x : Int32) : JO d 9 102 [.int x] h P Q Z := by
  obtain ⟨b, bk, s, G, Cp, v, t, fd, ff, md, sd, x0, y0, hp, u, i1, i2, i3, i4, i5, i6, i7⟩ := i
  have g := i2.1.1.2
  have hz' : zN s 0 + 3000 < 2 ^ 29 := by omega
  obtain ⟨h1, G', Cp', a1, a2, a3, a4, a5, a6⟩ := c_tick (d := d + 330) i1.1.1 hz' i2.1 i1.2.1 i1.2.2.1 x
  have s1 := a2.1
  have rk := a6.rk g (fun k q w => by have := nKC k w; omega) (fun x q w => w)
  have r1 := i3.rk rk s1
  obtain ⟨h2, b1, b2, b3, b4⟩ := r_tick0 (d := d + 336) i1.1.1 i1.2.2.2.1 hz' s1 r1.2.1 r1.2.2.1 r1.2.2.2.1 i1.2.1 x
  have kq : Kq s (tkA bk s x).2 := Kq.tk x
  obtain ⟨w1, w2⟩ := i1.2.1.tkw i1.1.1 hz' x
  obtain ⟨s', hs'⟩ : ∃ s', s' = (tkA bk s x).2 := ⟨_, rfl⟩
  rw [← hs'] at a2 a4 b2 kq w1 w2
  obtain ⟨m1, m2, m3, m4⟩ := a3
  have m5 := kc_e m4
  have z2 := kq.2.2.2.2
  have c1 : JCo h1 b bk s' G' Cp' t fd ff md x0 y0 hp u := i2.gf a6 g i1.2.2.2.2.2.1 (by decide) (fun x w => absurd w.2 (by decide)) (fun x w => absurd w.2 (by decide)) (by decide) (by decide) (fun x w => w.2) a2 (i2.2.1.gf a6 g (by decide) (by decide) (fun w => w) (fun w => w)) (i2.2.2.1.gf a6 g (by decide) (fun w => w) (fun w => w) kq.2.2.2.1) (i2.2.2.2.1.gf a6 (fun j hj => (i2.1.2.2.2.2.1.2.2.2 j hj).2.1) (fun x q w => by omega) (fun x _ q w => w) z2 (fun j _ => kq.sg j) (a5 4 (by decide)) (a5 17 (by decide))) (i2.2.2.2.2.1.gf a6 g (by decide) (fun w => w)) (i2.2.2.2.2.2.2.1.gf a6 g (by decide))
  exact JO.of a1 b1 b4 ⟨i1.1, w1, a4, i1.2.2.2⟩ c1 b3 (by decide) (by decide) (r1.frs b3 (by decide) (by decide) b2 (r1.2.2.2.2.1.fr b3 (by decide) (by decide) (by decide) (by decide))) (by rw [z2]; exact (i4.gk a6 g (fun k q w => by have := nKC k w; omega) (fun x q w => w) rk).keep b3 (by decide) (by decide)) (by rw [z2]; omega) (by rw [z2]; omega) (by omega)
theorem stZ_10 {w : Nat} : zN (stZ s 1 w) 0 = zN s 0 := (up1_x (by decide) : up1 (zN s) 1 w 0 = zN s 0)
theorem srF_z {f clk : Nat} : ∀ (m k n : Nat) (s : St), zN (srF bk f clk m k n s).1 0 = zN s 0
  | 0, _, _, _ => rfl
  | m + 1, k, n, s => by
    unfold srF
    split
    · exact srF_z m (k + 1) n s
    · rename_i c _
      rw [srF_z m k (n + 1)]
      show zN (ntS bk _ _ _ _) 0 = zN s 0
      unfold ntS
      split
      · exact stZ_10
      · rfl
theorem soS_z (x : Int32) : zN (soS bk s x).2 0 = zN s 0 := by
  unfold soS
  split
  · rfl
  · exact srF_z _ _ _ _
theorem j_sort (i : JI h P Q Z) (x : Int32) : JO d 10 109 [.int x] h P Q Z := by
  obtain ⟨b, bk, s, G, Cp, v, t, fd, ff, md, sd, x0, y0, hp, u, i1, i2, i3, i4, i5, i6, i7⟩ := i
  have g := i2.1.1.2
  obtain ⟨h1, G', Cp', a1, a2, w1, a3, a4, a5, a6, h0, a7, a8⟩ := c_sort (d := d + 330) i1.1.1 i2.1 i1.2.1 i1.2.2.1 i2.2.1 x
  have s1 := a2.1
  have a9 : GF (fun k _ => k ∈ KC ∨ k = 2059 ∨ k = 2060) (fun k _ => k = 257) (fun _ => True) (fun x => 168 ≤ x ∧ x ≤ 170) h h1 := (((a7.gfk (fun _ q => q) (fun _ q => q) : GFk [2059, 2060] [168, 169, 170] h h0).wk (fun k x q => Or.inr (by simpa using q)) (fun _ _ q => q) (fun _ q => q) (fun x q => by simp only [List.mem_cons, List.not_mem_nil, or_false] at q; omega)).trans (a8.wk (fun k x q => Or.inl q) (fun _ _ q => q) (fun _ q => q) (fun x q => q.elim)))
  have kk : ∀ k, k ∈ KC ∨ k = 2059 ∨ k = 2060 → k < 2061 ∧ (k < 1549 ∨ 1555 < k) ∧ k ≠ 2055 := fun k q => by
    rcases q with q | q | q
    · have := nKC k q; omega
    · omega
    · omega
  have rk := a9.rk g (fun k q w => by have := kk k w; omega) (fun x q w => by omega)
  have r1 := i3.rk rk s1
  obtain ⟨h2, b1, b2, b3, b4, b5, b6⟩ := r_sort0 (d := d + 335) s1 i1.1.1 i1.2.1 i1.2.2.2.1 r1.2.1 r1.2.2.1 r1.2.2.2.1 r1.2.2.2.2.1 x
  have kq : Kq s (soS bk s x).2 := Kq.so x
  have z0 := soS_z (bk := bk) (s := s) x
  obtain ⟨s', hs'⟩ : ∃ s', s' = (soS bk s x).2 := ⟨_, rfl⟩
  rw [← hs'] at a2 w1 a4 b3 kq z0
  obtain ⟨m1, m2, m3, m4⟩ := a3
  have m5 := kc_e m4
  have z2 := kq.2.2.2.2
  have c1 : JCo h1 b bk s' G' Cp' t fd ff md x0 y0 hp u := i2.gf a9 g i1.2.2.2.2.2.1 (by decide) (fun x w => absurd w.2 (by decide)) (fun x w => absurd w.2 (by decide)) (by decide) (by decide) (fun x w => by omega) a2 a6 (i2.2.2.1.gf a9 g (by decide) (by decide) (by decide) kq.2.2.2.1) (i2.2.2.2.1.gf a9 (fun j hj => (i2.1.2.2.2.2.1.2.2.2 j hj).2.1) (fun x q w => by omega) (fun x _ q w => by omega) z2 (fun j _ => kq.sg j) (a5 4 (by decide)) (a5 17 (by decide))) (i2.2.2.2.2.1.gf a9 g (by decide) (by decide)) (i2.2.2.2.2.2.2.1.gf a9 g (by decide))
  exact JO.of a1 b1 b6 ⟨i1.1, w1, a4, i1.2.2.2⟩ c1 b2 (by decide) (by decide) (r1.frs b2 (by decide) (by decide) b3 b5) (by rw [z2]; exact (i4.gk a9 g (fun k q w => by have := kk k w; omega) (fun x q w => by omega) rk).keep b2 (by decide) (by decide)) (by rw [z2]; omega) (by rw [z2]; omega) (by rw [z0]; omega)
end JIT
