/-! ===== THE LAW: gone, moved, way, joined ===== -/
section JHS
variable {d : Nat} {h h' h1 h2 : AH} {b v sd x0 y0 P Q Z : Nat} {bk : Bk} {s s' : St} {G Cp : Nat → Nat → Nat} {t t' u : Tp} {fd ff md : Int32} {hp : Bool} {K X : List Nat} {l : List (Nat × Nat × Option (Nat × Nat))}
theorem tmSt_m (s : St) (p dr : Nat) (to : Option (Nat × Nat)) : tmSt s p dr to = stM s (sM (tmSt s p dr to)) := by
  unfold tmSt
  cases tmL s p dr to <;> rfl
theorem gnS_m (bk : Bk) (s : St) (x y : Int32) : (gnS bk s x y).2 = stM s (sM (gnS bk s x y).2) := by
  unfold gnS
  cases hv x (bk 0 1) with
  | none => rfl
  | some p =>
    cases hv y 27000 with
    | none => rfl
    | some dr =>
      dsimp only
      by_cases q : 27 ≤ dr
      · rw [if_pos q]; exact tmSt_m s p dr none
      · rw [if_neg q]; rfl
theorem mvS_m (bk : Bk) (s : St) (t : Tp) (x y : Int32) : (mvS bk s t x y).2 = stM s (sM (mvS bk s t x y).2) := by
  unfold mvS
  cases hv x (bk 0 1) with
  | none => rfl
  | some p =>
    dsimp only
    by_cases q : adR bk t < nI 0
    · rw [if_pos q]; rfl
    rw [if_neg q]
    cases adS bk t with
    | none => rfl
    | some r =>
      dsimp only
      by_cases q2 : r.2.2.2 = x ∧ nI r.2.1 = y
      · rw [if_pos q2]; rfl
      rw [if_neg q2]
      cases hv y 27000 with
      | none => rfl
      | some dr =>
        dsimp only
        by_cases q3 : 27 ≤ dr
        · rw [if_pos q3]; exact tmSt_m s p dr _
        · rw [if_neg q3]; rfl
theorem JCo.frm (c : JCo h b bk s G Cp t fd ff md x0 y0 hp u) (f : Fr K X h h') (hx : scX x0) (hK : ∀ k, k ∈ [258, 518, 768, 769, 770, 771, 772, 773, 774, 1792, 1794, 1795, 1796, 2560, 2561, 2562, 2563, 2817, 2818, 2819, 2820, 2821, 2822, 2823, 2824] → k ∉ K) (hK2 : ∀ k, k ∈ K → (k < 1280 ∨ 1294 < k) ∧ k ≠ 2051 ∧ k ≠ 2052) (hK3 : ∀ k, k ∈ [2059, 2060, 2306, 3334, 3335, 3336, 3337, 3841] → k ∉ K) (hX : ∀ x, x ∈ X → 61 ≤ x ∧ x < 157 ∨ x = 166 ∨ x = 167) (T : CT h' t') (C4 : CS4 h' (stM s l)) : JCo h' b bk (stM s l) G Cp t' fd ff md x0 y0 hp u := by
  obtain ⟨c1, c2, c3, c4, c5, c6, c7, c8, c9, c10, c11⟩ := c
  have nX : ∀ x, 168 ≤ x → x ∉ X := fun x q w => by have := hX x w; omega
  refine ⟨c1.fr (s' := stM s l) f hK (fun x hm => by have := hX x hm; omega) (fun _ => rfl) (c1.2.2.2.2.1.fr f hK2), c2.fr f (hK3 _ (by decide)) (hK3 _ (by decide)) (nX _ (by decide)) (nX _ (by decide)), C4, c4.fr f (fun x hm => by have := hX x hm; omega), T, c6.fr f (hK3 _ (by decide)) (fun x hm => by have := hX x hm; omega), c7.fr f (fun k hk => hK3 k ((by decide : ∀ k, k ∈ [3335, 3336, 3337] → k ∈ [2059, 2060, 2306, 3334, 3335, 3336, 3337, 3841]) k hk)), by rw [f.2.2.2.1]; exact c8, by rw [f.2.2.2.1]; exact c9, by rw [f.I (hK3 3334 (by decide))]; exact c10, fun q => (c11 q).fr f (hK3 _ (by decide)) (nX _ (by rcases hx with q | q <;> (rw [q]; decide))) (nX _ (by rcases hx with q | q <;> (rw [q]; decide)))⟩
theorem JRf.frm (c : JRf h v bk s t fd ff md sd hp u) (f : Fr K X h h') (hK : ∀ k, k ∈ [3597, 3654, 3677, 3678, 3667, 3676, 3679, 3680, 3695, 3696, 3644, 3645, 3653] → k ∉ K) (hX : ∀ x, x ∈ X → x ≠ 190 ∧ x ≠ 191 ∧ x ≠ 192 ∧ x ≠ 239 ∧ (x < 197 ∨ 232 < x ∧ x < 242 ∨ 264 < x ∧ x < 274 ∨ 281 < x)) (T : RT h' t') (R4 : RS4 h' (stM s l)) : JRf h' v bk (stM s l) t' fd ff md sd hp u := by
  obtain ⟨c1, c2, c3, c4, c5, c6, c7, c8, c9, c10, c11, c12, c13⟩ := c
  have nX : ∀ x, x = 190 ∨ x = 191 ∨ x = 192 ∨ x = 239 ∨ 197 ≤ x ∧ x ≤ 232 ∨ 242 ≤ x ∧ x ≤ 264 ∨ 274 ≤ x ∧ x ≤ 281 → x ∉ X := fun x q w => by have := hX x w; omega
  have q1 : RS1 h' s := c4.1.fr f (fun k hk => hK k ((by decide : ∀ k, k ∈ [3654, 3677, 3678, 3667] → k ∈ [3597, 3654, 3677, 3678, 3667, 3676, 3679, 3680, 3695, 3696, 3644, 3645, 3653]) k hk)) (fun x hx => nX x ((by decide : ∀ x, x ∈ [242, 243, 244, 245, 246, 247, 248, 249, 250, 251, 252, 253] → x = 190 ∨ x = 191 ∨ x = 192 ∨ x = 239 ∨ 197 ≤ x ∧ x ≤ 232 ∨ 242 ≤ x ∧ x ≤ 264 ∨ 274 ≤ x ∧ x ≤ 281) x hx))
  have q2 : RS2 h' s := c4.2.1.fr f (fun x hx => nX x ((by decide : ∀ x, x ∈ [254, 255, 256, 257] → x = 190 ∨ x = 191 ∨ x = 192 ∨ x = 239 ∨ 197 ≤ x ∧ x ≤ 232 ∨ 242 ≤ x ∧ x ≤ 264 ∨ 274 ≤ x ∧ x ≤ 281) x hx))
  have q3 : RS3 h' s := c4.2.2.1.fr f (hK 3676 (by decide)) (fun x hx => nX x ((by decide : ∀ x, x ∈ [258, 259, 260, 261] → x = 190 ∨ x = 191 ∨ x = 192 ∨ x = 239 ∨ 197 ≤ x ∧ x ≤ 232 ∨ 242 ≤ x ∧ x ≤ 264 ∨ 274 ≤ x ∧ x ≤ 281) x hx))
  refine ⟨f.sh c1, by rw [f.I (hK 3597 (by decide))]; exact c2, c3.fr f (fun x hm => by have := hX x hm; omega), ⟨q1, q2, q3, R4⟩, c5.fr f (hK _ (by decide)) (hK _ (by decide)) (nX _ (by decide)) (nX _ (by decide)), T, c7.fr f (nX _ (by decide)), c8.fr f (nX _ (by decide)) (nX _ (by decide)), MRt.fr c9 f (nX _ (by decide)), c10.fr f (fun k hk => hK k ((by decide : ∀ k, k ∈ [3644, 3645, 3653] → k ∈ [3597, 3654, 3677, 3678, 3667, 3676, 3679, 3680, 3695, 3696, 3644, 3645, 3653]) k hk)), by rw [f.I (hK 3696 (by decide))]; exact c11, by rw [f.I (hK 3695 (by decide))]; exact c12, fun q => ?_⟩
  have c13 := c13 q
  unfold RPg AT T3 at c13 ⊢
  rw [f.A (nX 274 (by decide)), f.A (nX 275 (by decide)), f.A (nX 276 (by decide)), f.A (nX (276 + 1) (by decide)), f.A (nX (276 + 2) (by decide)), f.A (nX 279 (by decide)), f.A (nX (279 + 1) (by decide)), f.A (nX (279 + 2) (by decide))]; exact c13
theorem j_gone (i : JI h P Q Z) (x y : Int32) : JO d 13 117 [.int x, .int y] h P Q Z := by
  obtain ⟨b', bk, s, G, Cp, v, t, fd, ff, md, sd, x0, y0, hp, u, i1, i2, i3, i4, i5, i6, i7⟩ := i
  obtain ⟨h1, a1, a2, a3⟩ := c_gone (d := d + 337) i1.1.1 i2.1 i1.2.1 i2.2.2.1 x y
  have s1 := a2.sh i2.1.1
  have r1 := i3.rk (a2.rk (by decide) (by decide)) s1
  obtain ⟨h2, b1, b2, b3, b4⟩ := r_gone0 (d := d + 337) s1 i1.1.1 i1.2.1 i1.2.2.2.1 r1.2.1 r1.2.2.1 r1.2.2.2.1.2.2.2 x y
  have w' := gnS_w i1.2.1 x y i1.1.1
  have n1 : gN h1 = gN h := congrArg (fun p : Nat × Nat => p.1) a2.1
  have n2 : gS h1 = gS h := congrArg (fun p : Nat × Nat => p.2) a2.1
  obtain ⟨l, hl⟩ : ∃ l, (gnS bk s x y).2 = stM s l := ⟨_, gnS_m bk s x y⟩
  rw [hl] at a3 b3 w'
  exact JO.of a1 b1 b4 ⟨i1.1, w', i1.2.2⟩ (i2.frm a2 i1.2.2.2.2.2.1 (by decide) (by decide) (by decide) (by decide) (i2.2.2.2.2.1.fr a2 (by decide) (by decide)) a3) b2 (by decide) (by decide) (r1.frm b2 (by decide) (by decide) (RT.fr r1.2.2.2.2.2.1 b2 (by decide) (by decide)) b3) ((i4.keep a2 (by decide) (by decide)).keep b2 (by decide) (by decide)) (by show gS h1 + 63 * t.1 + 560 * zN s 2 + 4 * kcL Cp ≤ _; omega) (by show gN h1 + 3 * t.1 + 140 * zN s 2 + kcL Cp ≤ _; omega) (by show zN s 0 ≤ _; omega)
theorem j_moved (i : JI h P Q Z) (x y : Int32) : JO d 12 114 [.int x, .int y] h P Q Z := by
  obtain ⟨b', bk, s, G, Cp, v, t, fd, ff, md, sd, x0, y0, hp, u, i1, i2, i3, i4, i5, i6, i7⟩ := i
  obtain ⟨h1, a1, a2, a3, a4⟩ := c_moved (d := d + 332) i1.1.1 i1.1.2.1 i2.1 i1.2.1 i2.2.2.1 i2.2.2.2.2.1 x y
  have s1 := a2.sh i2.1.1
  have r1 := i3.rk (a2.rk (by decide) (by decide)) s1
  obtain ⟨h2, b1, b2, b3, b4, b5⟩ := r_moved (d := d + 335) s1 i1.1.1 i1.1.2.1 i1.2.1 i1.2.2.2.1 r1.2.1 r1.2.2.1 r1.2.2.2.1.2.2.2 r1.2.2.2.2.2.1 x y
  have w' := mvS_w (t := t) i1.2.1 x y i1.1.1 i1.1.2.1
  have n1 : gN h1 = gN h := congrArg (fun p : Nat × Nat => p.1) a2.1
  have n2 : gS h1 = gS h := congrArg (fun p : Nat × Nat => p.2) a2.1
  obtain ⟨l, hl⟩ : ∃ l, (mvS bk s t x y).2 = stM s l := ⟨_, mvS_m bk s t x y⟩
  rw [hl] at a3 b4 w'
  exact JO.of a1 b1 b2 ⟨i1.1, w', i1.2.2⟩ (i2.frm a2 i1.2.2.2.2.2.1 (by decide) (by decide) (by decide) (by decide) a4 a3) b3 (by decide) (by decide) (r1.frm b3 (by decide) (by decide) b5 b4) ((i4.keep a2 (by decide) (by decide)).keep b3 (by decide) (by decide)) (by show gS h1 + 63 * 0 + 560 * zN s 2 + 4 * kcL Cp ≤ _; omega) (by show gN h1 + 3 * 0 + 140 * zN s 2 + kcL Cp ≤ _; omega) (by show zN s 0 ≤ _; omega)
end JHS
