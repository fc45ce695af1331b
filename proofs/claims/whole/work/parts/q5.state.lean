/-! ===== THE LAW: what holds between two calls ===== -/
/-- the component's half: book's cell b, tape t, found fd ff, mended md, scripts x0 (in use) and y0, its tape u -/
def JCo (h : AH) (b : Nat) (bk : Bk) (s : St) (G Cp : Nat → Nat → Nat) (t : Tp) (fd ff md : Int32) (x0 y0 : Nat) (hp : Bool) (u : Tp) : Prop :=
  CSt h b bk s G Cp ∧ CY h bk ∧ CS4 h s ∧ CS5 h s G ∧ CT h t ∧ KS h ∧ CF h fd ff md ∧ gR h 3332 100 = some x0 ∧ gR h 3333 100 = some y0 ∧ gI h 3334 100 = nI (if hp = true then 1 else 0) ∧ (hp = true → Scr h x0 u)
/-- the reference's half: side v of books, side sd of codes -/
def JRf (h : AH) (v : Nat) (bk : Bk) (s : St) (t : Tp) (fd ff md : Int32) (sd : Nat) (hp : Bool) (u : Tp) : Prop :=
  Sh h ∧ gI h 3597 189 = nI v ∧ RB h v bk ∧ RS h s ∧ RY h bk ∧ RT h t ∧ KR h ∧ KP h ∧ (∃ M, MRt h M) ∧ RF h fd ff md ∧ gI h 3696 189 = nI sd ∧ gI h 3695 189 = nI (if hp = true then 1 else 0) ∧ (hp = true → RPg h u sd)
def JPu (bk : Bk) (s : St) (Cp : Nat → Nat → Nat) (v sd x0 y0 : Nat) (hp : Bool) (u : Tp) : Prop :=
  WX bk ∧ WS bk s ∧ capB bk s Cp ∧ v ≤ 1 ∧ sd ≤ 1 ∧ scX x0 ∧ scX y0 ∧ x0 ≠ y0 ∧ (hp = true → u.1 ≤ 4000 ∧ (pxR u).1 = 0)
/-- P slots, Q cells, the clock Z -/
def JI (h : AH) (P Q Z : Nat) : Prop := ∃ b bk s G Cp v t fd ff md sd x0 y0 hp u, JPu bk s Cp v sd x0 y0 hp u ∧ JCo h b bk s G Cp t fd ff md x0 y0 hp u ∧ JRf h v bk s t fd ff md sd hp u ∧ MRe h h (zN s 2) ∧ gS h + 63 * t.1 + 560 * zN s 2 + 4 * kcL Cp ≤ P + 4 * csm Cp 70 ∧ gN h + 3 * t.1 + 140 * zN s 2 + kcL Cp ≤ Q + csm Cp 70 ∧ zN s 0 ≤ Z
section JIS
variable {h h' : AH} {b v sd x0 y0 P Q Z : Nat} {bk : Bk} {s : St} {G Cp : Nat → Nat → Nat} {t u : Tp} {fd ff md : Int32} {hp : Bool} {K X : List Nat}
theorem JI.up {P' Q' Z' : Nat} (i : JI h P Q Z) (p : P ≤ P') (q : Q ≤ Q') (z : Z ≤ Z') : JI h P' Q' Z' := by
  obtain ⟨b, bk, s, G, Cp, v, t, fd, ff, md, sd, x0, y0, hp, u, i1, i2, i3, i4, i5, i6, i7⟩ := i
  exact ⟨b, bk, s, G, Cp, v, t, fd, ff, md, sd, x0, y0, hp, u, i1, i2, i3, i4, by omega, by omega, by omega⟩
theorem Scr.fr (a : Scr h x0 u) (f : Fr K X h h') (hK : 2306 ∉ K) (h1 : x0 + 1 ∉ X) (h2 : x0 + 2 ∉ X) : Scr h' x0 u := by
  unfold Scr at a ⊢
  rw [f.I hK, f.A h1, f.A h2]; exact a
/-- the reference's moves keep the component's half -/
theorem JCo.fr (c : JCo h b bk s G Cp t fd ff md x0 y0 hp u) (f : Fr K X h h') (hx : scX x0) (hK : ∀ k, k ∈ K → 3584 ≤ k ∧ k < 3840) (hX : ∀ x, x ∈ X → 190 ≤ x ∧ x < 295) : JCo h' b bk s G Cp t fd ff md x0 y0 hp u := by
  obtain ⟨c1, c2, c3, c4, c5, c6, c7, c8, c9, c10, c11⟩ := c
  have nK : ∀ k, k < 3584 ∨ 3840 ≤ k → k ∉ K := fun k q w => by have := hK k w; omega
  have nX : ∀ x, x < 190 ∨ 295 ≤ x → x ∉ X := fun x q w => by have := hX x w; omega
  refine ⟨c1.fr f (fun k hk => nK k (Or.inl ((by decide : ∀ k, k ∈ [258, 518, 768, 769, 770, 771, 772, 773, 774, 1792, 1794, 1795, 1796, 2560, 2561, 2562, 2563, 2817, 2818, 2819, 2820, 2821, 2822, 2823, 2824] → k < 3584) k hk))) (fun x hm => by have := hX x hm; omega) (fun _ => rfl) (c1.2.2.2.2.1.fr f fun k hm => by have := hK k hm; omega), c2.fr f (nK _ (by decide)) (nK _ (by decide)) (nX _ (by decide)) (nX _ (by decide)), c3.fr f (nK _ (by decide)) (nX _ (by decide)) (nX _ (by decide)) rfl, c4.fr f (fun x hm => by have := hX x hm; omega), c5.fr f (nK _ (by decide)) (nX _ (by decide)), c6.fr f (nK _ (by decide)) (fun x hm => by have := hX x hm; omega), ?_, ?_, ?_, ?_, ?_⟩
  · unfold CF at c7 ⊢
    rw [f.I (nK 3335 (by decide)), f.I (nK 3336 (by decide)), f.I (nK 3337 (by decide))]; exact c7
  · rw [f.2.2.2.1]; exact c8
  · rw [f.2.2.2.1]; exact c9
  · rw [f.I (nK 3334 (by decide))]; exact c10
  · exact fun q => (c11 q).fr f (nK _ (by decide)) (nX _ (by rcases hx with q | q <;> (rw [q]; decide))) (nX _ (by rcases hx with q | q <;> (rw [q]; decide)))
/-- the component's moves keep the reference's half -/
theorem JRf.rk (c : JRf h v bk s t fd ff md sd hp u) (f : RKp h h') (hs : Sh h') : JRf h' v bk s t fd ff md sd hp u := by
  obtain ⟨c1, c2, c3, c4, c5, c6, c7, c8, ⟨M, c9⟩, c10, c11, c12, c13⟩ := c
  exact ⟨hs, by rw [f.I 3597 (by decide)]; exact c2, c3.rk f, c4.rk f, c5.rk f, c6.rk f, c7.rk f, c8.rk f, ⟨M, c9.rk f⟩, c10.rk f, by rw [f.I 3696 (by decide)]; exact c11, by rw [f.I 3695 (by decide)]; exact c12, fun q => (c13 q).rk f⟩
/-- nothing is thrown: nothing else changes -/
theorem JRf.q (c : JRf h v bk s t fd ff md sd hp u) : JRf (sI h 3586 189 (nI 0)) v bk s t fd ff md sd hp u := by
  obtain ⟨c1, c2, c3, c4, c5, c6, c7, c8, ⟨M, c9⟩, c10, c11, c12, c13⟩ := c
  have f : Fr [3586] [] h (sI h 3586 189 (nI 0)) := Fr.rfl.sI (by decide)
  exact ⟨f.sh c1, by rw [f.I (by decide)]; exact c2, c3.fr f (by decide), c4.fr f (by decide) (by decide), c5.fr f (by decide) (by decide) (by decide) (by decide), c6, c7, c8, ⟨M, c9⟩, c10, by rw [f.I (by decide)]; exact c11, by rw [f.I (by decide)]; exact c12, c13⟩
theorem JI.q (i : JI h P Q Z) : JI (sI h 3586 189 (nI 0)) P Q Z := by
  obtain ⟨b, bk, s, G, Cp, v, t, fd, ff, md, sd, x0, y0, hp, u, i1, i2, i3, ⟨ty, a2, p, p2, mk, rf, i4⟩, i5, i6, i7⟩ := i
  have f : Fr [3586] [] h (sI h 3586 189 (nI 0)) := Fr.rfl.sI (by decide)
  exact ⟨b, bk, s, G, Cp, v, t, fd, ff, md, sd, x0, y0, hp, u, i1, i2.fr f i1.2.2.2.2.2.1 (by decide) (by decide), i3.q, ⟨ty, a2, p, p2, mk, rf, (i4.frR f (by decide) (fun _ _ => List.not_mem_nil)).frC f (by decide) (fun _ _ => List.not_mem_nil)⟩, i5, i6, i7⟩
/-- a call of both where nothing is thrown -/
def JO (d y yr : Nat) (as : Vs) (h : AH) (P Q Z : Nat) : Prop := ∃ (w : Int32) (h1 h2 : AH), E (d + 340) y (.ref 100 :: as) h = some (some (.int w), h1) ∧ E (d + 340) yr (.ref 189 :: as) h1 = some (some (.int w), h2) ∧ gI h2 3586 189 = nI 0 ∧ JI h2 (P + 7000) (Q + 1000) (Z + 3000)
theorem JI.o {d y yr : Nat} {as : Vs} {w : Int32} (i : JI h P Q Z) (e1 : E (d + 340) y (.ref 100 :: as) h = some (some (.int w), h)) (e2 : E (d + 340) yr (.ref 189 :: as) h = some (some (.int w), sI h 3586 189 (nI 0))) : JO d y yr as h P Q Z := ⟨w, h, _, e1, e2, gI_s, i.q.up (by omega) (by omega) (by omega)⟩
end JIS
