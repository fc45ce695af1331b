/-! ===== THE LAW: feed, find, bar, joined ===== -/
section JFS
variable {d : Nat} {h h' h1 h2 : AH} {b v sd x0 y0 P Q Z P' Q' Z' : Nat} {bk : Bk} {s s' : St} {G Cp G' Cp' : Nat → Nat → Nat} {t t' u : Tp} {fd ff md fd' ff' md' : Int32} {hp : Bool} {K X K' X' : List Nat}
/-- a component's move that leaves the office alone -/
theorem JCo.frc (c : JCo h b bk s G Cp t fd ff md x0 y0 hp u) (f : Fr K X h h') (hx : scX x0) (hK : ∀ k, k ∈ [258, 518, 768, 769, 770, 771, 772, 773, 774, 1792, 1794, 1795, 1796, 2560, 2561, 2562, 2563, 2817, 2818, 2819, 2820, 2821, 2822, 2823, 2824] → k ∉ K) (hK2 : ∀ k, k ∈ K → (k < 1280 ∨ 1294 < k) ∧ k ≠ 2051 ∧ k ≠ 2052) (hK3 : ∀ k, k ∈ [2055, 2059, 2060, 2306, 3334, 3841] → k ∉ K) (hX : ∀ x, x ∈ X → 61 ≤ x ∧ x < 157) (T : CT h' t') (F : CF h' fd' ff' md') : JCo h' b bk s G Cp t' fd' ff' md' x0 y0 hp u := by
  obtain ⟨c1, c2, c3, c4, c5, c6, c7, c8, c9, c10, c11⟩ := c
  have nX : ∀ x, 157 ≤ x → x ∉ X := fun x q w => by have := hX x w; omega
  refine ⟨c1.fr f hK (fun x hm => by have := hX x hm; omega) (fun _ => rfl) (c1.2.2.2.2.1.fr f hK2), c2.fr f (hK3 _ (by decide)) (hK3 _ (by decide)) (nX _ (by decide)) (nX _ (by decide)), c3.fr f (hK3 _ (by decide)) (nX _ (by decide)) (nX _ (by decide)) rfl, c4.fr f (fun x hm => by have := hX x hm; omega), T, c6.fr f (hK3 _ (by decide)) (fun x hm => (hX x hm).1), F, by rw [f.2.2.2.1]; exact c8, by rw [f.2.2.2.1]; exact c9, by rw [f.I (hK3 3334 (by decide))]; exact c10, fun q => (c11 q).fr f (hK3 _ (by decide)) (nX _ (by rcases hx with q | q <;> (rw [q]; decide))) (nX _ (by rcases hx with q | q <;> (rw [q]; decide)))⟩
/-- both have moved: h to h1 the component, h1 to h2 the reference -/
theorem JO.of {y yr : Nat} {as : Vs} {w : Int32} (e1 : E (d + 340) y (.ref 100 :: as) h = some (some (.int w), h1)) (e2 : E (d + 340) yr (.ref 189 :: as) h1 = some (some (.int w), h2)) (z : gI h2 3586 189 = nI 0) (ip : JPu bk s' Cp' v sd x0 y0 hp u) (c : JCo h1 b bk s' G' Cp' t' fd ff md x0 y0 hp u) (f : Fr K X h1 h2) (hK : ∀ k, k ∈ K → 3584 ≤ k ∧ k < 3840) (hX : ∀ x, x ∈ X → 190 ≤ x ∧ x < 295) (r : JRf h2 v bk s' t' fd ff md sd hp u) (m : MRe h2 h2 (zN s' 2)) (rs : gS h1 + 63 * t'.1 + 560 * zN s' 2 + 4 * kcL Cp' ≤ P + 7000 + 4 * csm Cp' 70) (rn : gN h1 + 3 * t'.1 + 140 * zN s' 2 + kcL Cp' ≤ Q + 1000 + csm Cp' 70) (rz : zN s' 0 ≤ Z + 3000) : JO d y yr as h P Q Z := by
  have n1 : gN h2 = gN h1 := congrArg (fun p : Nat × Nat => p.1) f.1
  have n2 : gS h2 = gS h1 := congrArg (fun p : Nat × Nat => p.2) f.1
  exact ⟨w, h1, h2, e1, e2, z, b, bk, s', G', Cp', v, t', fd, ff, md, sd, x0, y0, hp, u, ip, c.fr f ip.2.2.2.2.2.1 hK hX, r, m, by rw [n2]; exact rs, by rw [n1]; exact rn, rz⟩
theorem tpB_le (x : Nat) (t : Tp) : (tpB x t).1 ≤ t.1 + 1 := by
  unfold tpB
  split
  · exact Nat.le_refl _
  · exact Nat.le_succ _
theorem tpW_le (x : Int64) : ∀ (n : Nat) (t : Tp), (tpW x n t).1 ≤ t.1 + n
  | 0, t => Nat.le_refl _
  | n + 1, t => by
    have a := tpW_le x n (tpB (ix (byR x (nI (8 * n)))) t)
    have b := tpB_le (ix (byR x (nI (8 * n)))) t
    have c : (tpW x (n + 1) t).1 ≤ (tpB (ix (byR x (nI (8 * n)))) t).1 + n := a
    omega
/-- a reference's move that leaves the office alone -/
theorem JRf.frr (c : JRf h v bk s t fd ff md sd hp u) (f : Fr K X h h') (hK : ∀ k, k ∈ [3597, 3654, 3677, 3678, 3667, 3676, 3688, 3679, 3680, 3695, 3696] → k ∉ K) (hX : ∀ x, x ∈ X → x ≠ 190 ∧ x ≠ 191 ∧ x ≠ 192 ∧ (x < 197 ∨ 232 < x ∧ x < 242 ∨ 268 < x ∧ x < 274 ∨ 281 < x)) (T : RT h' t') (F : RF h' fd' ff' md') (MM : ∃ M, MRt h' M) : JRf h' v bk s t' fd' ff' md' sd hp u := by
  obtain ⟨c1, c2, c3, c4, c5, c6, c7, c8, c9, c10, c11, c12, c13⟩ := c
  have nX : ∀ x, x = 190 ∨ x = 191 ∨ x = 192 ∨ 197 ≤ x ∧ x ≤ 232 ∨ 242 ≤ x ∧ x ≤ 268 ∨ 274 ≤ x ∧ x ≤ 281 → x ∉ X := fun x q w => by have := hX x w; omega
  refine ⟨f.sh c1, by rw [f.I (hK 3597 (by decide))]; exact c2, c3.fr f (fun x hm => by have := hX x hm; omega), c4.fr f (fun k hk => hK k ((by decide : ∀ k, k ∈ [3654, 3677, 3678, 3667, 3676, 3688] → k ∈ [3597, 3654, 3677, 3678, 3667, 3676, 3688, 3679, 3680, 3695, 3696]) k hk)) (fun x hm => by have := hX x hm; omega), c5.fr f (hK _ (by decide)) (hK _ (by decide)) (nX _ (by decide)) (nX _ (by decide)), T, c7.fr f (nX _ (by decide)), c8.fr f (nX _ (by decide)) (nX _ (by decide)), MM, F, by rw [f.I (hK 3696 (by decide))]; exact c11, by rw [f.I (hK 3695 (by decide))]; exact c12, fun q => ?_⟩
  have c13 := c13 q
  unfold RPg AT T3 at c13 ⊢
  rw [f.A (nX 274 (by decide)), f.A (nX 275 (by decide)), f.A (nX 276 (by decide)), f.A (nX (276 + 1) (by decide)), f.A (nX (276 + 2) (by decide)), f.A (nX 279 (by decide)), f.A (nX (279 + 1) (by decide)), f.A (nX (279 + 2) (by decide))]; exact c13
/-- what is in common of runs is kept -/
theorem MRe.keep {ni : Nat} (m : MRe h h ni) (f : Fr K X h h1) (hK : ∀ k, k ∈ [1549, 1553, 1554, 1555, 3718, 3719, 3720, 3721] → k ∉ K) (hX : ∀ x, x ∈ X → x < 176 ∨ 182 < x ∧ x < 282 ∨ 288 < x) : MRe h1 h1 ni := by
  obtain ⟨ty, a2, p, p2, mk, rf, m⟩ := m
  have nX : ∀ x, 176 ≤ x ∧ x ≤ 182 ∨ 282 ≤ x ∧ x ≤ 288 → x ∉ X := fun x q w => by have := hX x w; omega
  exact ⟨ty, a2, p, p2, mk, rf, (m.frR f (fun k hk => hK k ((by decide : ∀ k, k ∈ [3718, 3719, 3720, 3721] → k ∈ [1549, 1553, 1554, 1555, 3718, 3719, 3720, 3721]) k hk)) (fun x hx => nX x ((by decide : ∀ x, x ∈ [282, 283, 284, 285, 286, 287, 288] → 176 ≤ x ∧ x ≤ 182 ∨ 282 ≤ x ∧ x ≤ 288) x hx))).frC f (fun k hk => hK k ((by decide : ∀ k, k ∈ [1549, 1553, 1554, 1555] → k ∈ [1549, 1553, 1554, 1555, 3718, 3719, 3720, 3721]) k hk)) (fun x hx => nX x ((by decide : ∀ x, x ∈ XMc → 176 ≤ x ∧ x ≤ 182 ∨ 282 ≤ x ∧ x ≤ 288) x hx))⟩
theorem j_feed (i : JI h P Q Z) (a b c : Int64) : JO d 2 33 [.long a, .long b, .long c] h P Q Z := by
  obtain ⟨b', bk, s, G, Cp, v, t, fd, ff, md, sd, x0, y0, hp, u, i1, i2, i3, i4, i5, i6, i7⟩ := i
  obtain ⟨h1, a1, a2, a3⟩ := c_feed (d := d + 338) (a := a) (b := b) (c := c) i2.1.1 i2.2.2.2.2.1
  have s1 := a2.sh i2.1.1
  have r1 := i3.rk (a2.rk (by decide) (by decide)) s1
  obtain ⟨h2, b1, b2, b3, b4⟩ := r_feed0 (d := d + 338) (a := a) (b := b) (c := c) s1 r1.2.2.2.2.2.1
  have l1 := tpW_le a 8 t
  have l2 := tpW_le b 8 (tpW a 8 t)
  have l3 := tpW_le c 8 (tpW b 8 (tpW a 8 t))
  have n1 : gN h1 = gN h := congrArg (fun p : Nat × Nat => p.1) a2.1
  have n2 : gS h1 = gS h := congrArg (fun p : Nat × Nat => p.2) a2.1
  have F1 : CF h1 fd ff md := i2.2.2.2.2.2.2.1
    |> fun q => by unfold CF at q ⊢; rw [a2.I (by decide), a2.I (by decide), a2.I (by decide)]; exact q
  have F2 : RF h2 fd ff md := r1.2.2.2.2.2.2.2.2.2.1
    |> fun q => by unfold RF at q ⊢; rw [b2.I (by decide), b2.I (by decide), b2.I (by decide)]; exact q
  have M2 : ∃ M, MRt h2 M := by
    obtain ⟨M, q⟩ := r1.2.2.2.2.2.2.2.2.1
    exact ⟨M, fun j k hj hk => by rw [b2.A (by decide)]; exact q j k hj hk⟩
  exact JO.of a1 b1 b4 i1 (i2.frc a2 i1.2.2.2.2.2.1 (by decide) (by decide) (by decide) (by decide) a3 F1) b2 (by decide) (by decide) (r1.frr b2 (by decide) (by decide) b3 F2 M2) ((i4.keep a2 (by decide) (by decide)).keep b2 (by decide) (by decide)) (by omega) (by omega) (by omega)
end JFS
