/-! ===== RUN: the two calls ===== -/
theorem lim_in {n : Int32} (n1 : ¬ n < nI 1) (n2 : ¬ nI 20000 < n) : ∃ l, 1 ≤ l ∧ l ≤ 20000 ∧ n = nI l := by
  rw [Int32.lt_iff_toInt_lt, nI_toInt (by decide)] at n1 n2
  exact ⟨n.toInt.toNat, by omega, by omega, Int32.toInt_inj.mp (by rw [nI_toInt (by omega)]; omega)⟩
theorem ME.un {t : Tp} {M M' : Nat} (a : ME t M) (b : ME t M') : M = M' := by
  have one : ∀ {M M' : Nat}, ME t M → ME t M' → ¬ M < M' := fun {M M'} a b h => b.2 M h a.1
  have h1 := one a b
  have h2 := one b a
  omega
section RUN
variable {d : Nat} {h h' g g' : AH} {b x0 v sd ni : Nat} {bk : Bk} {s : St} {G Cp : Nat → Nat → Nat} {t : Tp}
theorem CSt.s44 (C : CSt h b bk s G Cp) (x : Option Nat) : CSt (sR h 1544 175 x) b bk s G Cp := by
  obtain ⟨c1, c2, c3, c4, c5, c6⟩ := C
  have hs' : Sh (sR h 1544 175 x) := c1.sR (Or.inr rfl)
  have gf : GF (fun _ _ => False) (fun k _ => k = 1544) (fun _ => False) (fun _ => False) h (sR h 1544 175 x) := GF.sR rfl
  have k257 : gR (sR h 1544 175 x) 257 = gR h 257 := gR_k (by decide)
  refine ⟨hs', fun y hy => c2 y hy, by rw [gR_k (by decide)]; exact c3, c4.gf c2 gf (fun _ _ _ q => q) (fun j hj => ⟨fun q => q, fun q => absurd q (by decide), fun q => q⟩) (fun k hk x e => absurd hk (by rw [e]; decide)) (fun _ _ q => q), c5.gf (by have := c1.2; omega) gf (fun _ _ _ _ q => q) ⟨fun q => q, fun q => q⟩, ?_⟩
  obtain ⟨d1, d2, d3⟩ := c6
  refine ⟨d1, d2, fun r hr h0 => ?_⟩
  have := d3 r hr h0
  unfold Ar at this ⊢
  rw [k257]; exact this
/-- what changes in the component's run, its beginning included -/
abbrev GFn (h h' : AH) : Prop := GF (fun k _ => k ∈ KC ∨ 1545 ≤ k ∧ k ≤ 1555 ∨ k = 2059 ∨ k = 2060) (fun k _ => k = 257 ∨ k = 1544) (fun _ => True) (fun x => 168 ≤ x ∧ x ≤ 170 ∨ 176 ≤ x ∧ x ≤ 182) h h'
abbrev KRq : List Nat := [3586, 3678, 3679, 3680, 3717, 3718, 3719, 3720, 3721, 3723, 3724, 3725, 3726, 3731, 3732, 3733, 3734]
/-- what the two sides have in common between two runs (the places of the last run may differ: a book forgets them in the component only) -/
def MRw (h g : AH) (ni : Nat) (ty : Nat → Bool) (a2 p p2 mk rf : Nat) : Prop :=
  (∀ i, i < 10 → gB h 176 i = gB g 282 i) ∧ (∀ i, i < 4 → gA h 177 i = gA g 283 i ∧ itv ni (gA h 177 i)) ∧ (∀ i, i < 2000 → gB h 182 i = gB g 288 i) ∧ (∀ i, i < p → ty i = true → ∃ w, itv ni w ∧ gB h 182 i = w.toInt64) ∧ (p ≤ 2000 ∧ gI h 1553 175 = nI a2 ∧ gI g 3719 189 = nI a2 ∧ a2 ≤ 200000 ∧ gI h 1554 175 = nI p2 ∧ gI g 3718 189 = nI p2 ∧ p2 ≤ 200000 ∧ gI h 1555 175 = nI rf ∧ gI g 3721 189 = nI rf ∧ rf ≤ 4000) ∧ (∃ a1, a1 ≤ 20000 ∧ gI h 1549 175 = nI a1 ∧ gI g 3720 189 = nI a1) ∧
  (∀ t, t < 12 → TRr h g ty p mk t) ∧ ∀ t t', t < 12 → t' < 12 → gA h 178 t ≠ nI 0 → gA h 178 t' ≠ nI 0 → (gA h 181 t = gA h 181 t' ↔ gA g 284 t = gA g 284 t')
theorem MRl.w {ty : Nat → Bool} {a1 a2 p1 p2 mk rf : Nat} (m : MRl h g ni ty a1 a2 p1 p2 mk rf) : MRw h g ni ty a2 p1 p2 mk rf := by
  obtain ⟨m1, m2, m3, m4, ⟨q1, q2, q3, q4, q5, q6, q7, q8, q9, q10, q11, q12, q13, q14, q15, q16, q17⟩, m6, m7⟩ := m
  exact ⟨m1, m2, m3, m4, ⟨q9, q4, q5, q6, q10, q11, q12, q15, q16, q17⟩, ⟨a1, q3, q1, q2⟩, m6, m7⟩
theorem MRw.frC {K X : List Nat} {ty : Nat → Bool} {a2 p p2 mk rf : Nat} (m : MRw h g ni ty a2 p p2 mk rf) (f : Fr K X h h') (hK : ∀ k, k ∈ [1549, 1553, 1554, 1555] → k ∉ K) (hX : ∀ x, x ∈ XMc → x ∉ X) : MRw h' g ni ty a2 p p2 mk rf := by
  unfold MRw TRr at m ⊢
  rw [f.B (hX 176 (by decide)), f.A (hX 177 (by decide)), f.B (hX 182 (by decide)), f.A (hX 178 (by decide)), f.A (hX 179 (by decide)), f.A (hX 180 (by decide)), f.A (hX 181 (by decide)), f.I (hK 1549 (by decide)), f.I (hK 1553 (by decide)), f.I (hK 1554 (by decide)), f.I (hK 1555 (by decide))]
  exact m
theorem MRw.frR {K X : List Nat} {ty : Nat → Bool} {a2 p p2 mk rf : Nat} (m : MRw h g ni ty a2 p p2 mk rf) (f : Fr K X g g') (hK : ∀ k, k ∈ [3718, 3719, 3720, 3721] → k ∉ K) (hX : ∀ x, x ∈ [282, 283, 284, 285, 286, 287, 288] → x ∉ X) : MRw h g' ni ty a2 p p2 mk rf := by
  unfold MRw TRr at m ⊢
  rw [f.B (hX 282 (by decide)), f.A (hX 283 (by decide)), f.B (hX 288 (by decide)), f.A (hX 284 (by decide)), f.A (hX 285 (by decide)), f.A (hX 286 (by decide)), f.A (hX 287 (by decide)), f.I (hK 3718 (by decide)), f.I (hK 3719 (by decide)), f.I (hK 3720 (by decide)), f.I (hK 3721 (by decide))]
  exact m
abbrev MRe (h g : AH) (ni : Nat) : Prop := ∃ ty a2 p p2 mk rf, MRw h g ni ty a2 p p2 mk rf
theorem Fr.gfn {K X : List Nat} (f : Fr K X h h') (hK : ∀ k, k ∈ K → k ∈ KC ∨ 1545 ≤ k ∧ k ≤ 1555 ∨ k = 2059 ∨ k = 2060) (hX : ∀ x, x ∈ X → 168 ≤ x ∧ x ≤ 170 ∨ 176 ≤ x ∧ x ≤ 182) : GFn h h' := by
  obtain ⟨a1, a2, a3, a4, a5, a6, a7, a8, a9⟩ := f
  have e1 : gN h' = gN h := congrArg (fun p : Nat × Nat => p.1) a1
  have e2 : gS h' = gS h := congrArg (fun p : Nat × Nat => p.2) a1
  exact ⟨⟨by omega, by omega⟩, fun x _ => ⟨by rw [a2], by rw [a3]⟩, fun k x _ q => by rw [a6 k fun w => q (hK k w)], fun k x _ q => by rw [a7 k fun w => q (hK k w)], fun k x _ _ => by rw [a4], fun x _ q => ⟨by rw [a8 x fun w => q (hX x w)], by rw [a9 x fun w => q (hX x w)]⟩, fun x _ _ => by rw [a5]⟩
/-- the state on both sides -/
def PSb (h g : AH) (b : Nat) (bk : Bk) (s : St) (G Cp : Nat → Nat → Nat) : Prop := CSt h b bk s G Cp ∧ WS bk s ∧ capB bk s Cp ∧ CY h bk ∧ RS g s ∧ RY g bk
/-- run: the component from h on, the reference from g on -/
theorem run_b (W : WB bk) (P : PSb h g b bk s G Cp) (sg : Sh g) (B : RB g v bk) (hv : v ≤ 1) (e97 : gI g 3597 189 = nI v) {hp : Bool} (ph : gI h 3334 100 = nI (if hp = true then 1 else 0)) (pg : gI g 3695 189 = nI (if hp = true then 1 else 0)) (hx : scX x0) (e32 : gR h 3332 100 = some x0) (e96 : gI g 3696 189 = nI sd) (hsd : sd ≤ 1) (pr : hp = true → Scr h x0 t ∧ RPg g t sd ∧ t.1 ≤ 4000 ∧ (pxR t).1 = 0) (mm : MRe h g (zN s 2)) (o n : Int32) :
    ∃ w h' g' s' G' Cp', E (d + 330) 15 [.ref 100, .int o, .int n] h = some (some (.int w), h') ∧ E (d + 330) 151 [.ref 189, .int o, .int n] g = some (some (.int w), g') ∧ PSb h' g' b bk s' G' Cp' ∧ RM h Cp h' Cp' ∧ (∀ k, k ≠ 9 → G' k = G k) ∧ zN s' 2 = zN s 2 ∧ zN s' 0 = zN s 0 ∧ MRe h' g' (zN s 2) ∧ GFn h h' ∧ Fr KRq XRn g g' ∧ Sh g' ∧ gI g' 3586 189 = nI 0 := by
  obtain ⟨C, ws, cb, cy, rs, ry⟩ := P
  have hs := C.1
  have f0 : Fr KRq XRn g (sI g 3586 189 (nI 0)) := Fr.rfl.sI (by decide)
  have B0 : RB (sI g 3586 189 (nI 0)) v bk := B.fr f0 (by decide)
  have sg0 : Sh (sI g 3586 189 (nI 0)) := sg.sI
  have none_ : E (d + 330) 15 [.ref 100, .int o, .int n] h = some (some (.int (-1)), h) → E (d + 330) 151 [.ref 189, .int o, .int n] g = some (some (.int (-1)), sI g 3586 189 (nI 0)) → ∃ w h' g' s' G' Cp', E (d + 330) 15 [.ref 100, .int o, .int n] h = some (some (.int w), h') ∧ E (d + 330) 151 [.ref 189, .int o, .int n] g = some (some (.int w), g') ∧ PSb h' g' b bk s' G' Cp' ∧ RM h Cp h' Cp' ∧ (∀ k, k ≠ 9 → G' k = G k) ∧ zN s' 2 = zN s 2 ∧ zN s' 0 = zN s 0 ∧ MRe h' g' (zN s 2) ∧ GFn h h' ∧ Fr KRq XRn g g' ∧ Sh g' ∧ gI g' 3586 189 = nI 0 := fun e1 e2 => by
    obtain ⟨ty, a2, p, p2, mk, rf, m⟩ := mm
    have f1 : Fr [3586] [] g (sI g 3586 189 (nI 0)) := Fr.rfl.sI (by decide)
    exact ⟨-1, h, _, s, G, Cp, e1, e2, ⟨C, ws, cb, cy, rs.fr f1 (by decide) (fun _ q => absurd q List.not_mem_nil), ry.fr f1 (by decide) (by decide) List.not_mem_nil List.not_mem_nil⟩, RM.rfl rfl, fun _ _ => rfl, rfl, rfl, ⟨ty, a2, p, p2, mk, rf, m.frR f1 (by decide) (fun _ _ => List.not_mem_nil)⟩, GF.rfl, f0, sg0, gI_s⟩
  have eC : E (d + 330) 15 [.ref 100, .int o, .int n] h = (if gI h 3334 100 = nI 0 then some (some (.int (-1)), h) else (gR h 2048 156).bind fun y1 => ck (gC h y1) 2 <| cK (E (d + 329) 203 [.ref y1, .int o] h) (Q (d + 329) 15 18 [some (.ref 100), some (.int o), some (.int n)]) []) := t_15 hs _ _
  have eR : E (d + 330) 151 [.ref 189, .int o, .int n] g = (if gI g 3695 189 = nI 0 then some (some (.int (-1)), sI g 3586 189 (nI 0)) else cK (E (d + 329) 82 [.ref 189, .int o] (sI g 3586 189 (nI 0))) (Q (d + 329) 151 17 [some (.ref 189), some (.int o), some (.int n), none]) []) := t_151 sg _ _
  cases hp with
  | false =>
    refine none_ ?_ ?_
    · rw [eC, ph, if_pos (by decide)]
    · rw [eR, pg, if_pos (by decide)]
  | true =>
  obtain ⟨sc, rp, t4, px0⟩ := pr rfl
  have rh := (r_has (d := d + 328) sg0 W hv (show gI (sI g 3586 189 (nI 0)) 3597 189 = nI v by rw [gI_k (by decide)]; exact e97) B0 o).1
  rw [ph, if_neg (by decide), C.2.2.1, Option.bind_some, ck_ok C.2.2.2.1.1, (c_has (d := d + 327) hs W C.2.2.2.1 o).1, cK_v, t_15_18 hs] at eC
  rw [pg, if_neg (by decide), rh, cK_v, t_151_17 sg0] at eR
  have w16 := W.1.1
  rcases hv_c o (show bk 0 0 < 2 ^ 31 by omega) with ⟨eo, -⟩ | ⟨oo, ho, rfl, eo⟩
  · rw [hb1_n eo, if_pos rfl] at eC eR
    exact none_ eC eR
  rw [hb1_s eo, if_neg (by decide)] at eC eR
  by_cases n1 : n < nI 1
  · rw [if_pos n1] at eC eR
    exact none_ eC eR
  rw [if_neg n1] at eC eR
  by_cases n2 : nI 20000 < n
  · rw [if_pos n2] at eC eR
    exact none_ eC eR
  rw [if_neg n2] at eC eR
  obtain ⟨lim, hl1, hl, rfl⟩ := lim_in n1 n2
  rw [e32, Option.bind_some] at eC
  -- the component begins
  obtain ⟨h1, x1, x2, x3⟩ := c_mbeg (d := d + 326) hs
  have s1 := x2.sh hs
  obtain ⟨hC1, hCE⟩ : ∃ q, q = sI (sI (sR h1 1544 175 (some x0)) 1546 175 (nI oo)) 1550 175 (nI lim) := ⟨_, rfl⟩
  have C1 : CSt h1 b bk s G Cp := C.fr x2 (by decide) (by decide) (fun _ => rfl) (C.2.2.2.2.1.fr x2 (by decide))
  have C2 := C1.s44 (some x0)
  have fC : Fr [1546, 1550] [] (sR h1 1544 175 (some x0)) hC1 := by rw [hCE]; exact (Fr.rfl.sI (by decide)).sI (by decide)
  have C3 : CSt hC1 b bk s G Cp := C2.fr fC (by decide) (fun _ q => absurd q List.not_mem_nil) (fun _ => rfl) (C2.2.2.2.2.1.fr fC (by decide))
  have sC := C3.1
  have cA : gA hC1 = gA h1 := by rw [hCE]; rfl
  have cB : gB hC1 = gB h1 := by rw [hCE]; rfl
  have cI : ∀ k, k ≠ 1546 → k ≠ 1550 → gI hC1 k = gI h1 k := fun k q1 q2 => by rw [hCE, gI_k q2, gI_k q1]; rfl
  have cL : gL hC1 = gL h1 := by rw [hCE]; rfl
  have gn0 : GFn h hC1 := by
    have a1 : GFn h h1 := x2.gfn (by decide) (by decide)
    have a2 : GFn h1 (sR h1 1544 175 (some x0)) := GF.sR (Or.inr rfl)
    exact (a1.trans a2).trans (fC.gfn (by decide) (fun _ q => absurd q List.not_mem_nil))
  have e211 : E (d + 329) 211 [.ref 175, .ref x0, .int (nI oo), .int (nI lim)] h = Q (d + 328) 211 22 [some (.ref 175), none, none, none, some (.int (nI 0))] [] hC1 := by
    rw [t_211 hs, x1, cK_n, t_211_4 s1, ← hCE]
  -- the reference begins
  obtain ⟨g1, y1, y2, y3⟩ := r_fgRun (d := d + 328) sg0
  have sg1 := y2.sh sg0
  obtain ⟨hR1, hRE⟩ : ∃ q, q = sI (sI (sI (sI (sI (sI (sI (sI g1 3717 189 (nI 0)) 3720 189 (nI 0)) 3725 189 (nI lim)) 3726 189 (nI oo)) 3723 189 (nI 0)) 3731 189 (nI 0)) 3724 189 (nI 0)) 3732 189 (-1) := ⟨_, rfl⟩
  have fR1 : Fr [3717, 3720, 3725, 3726, 3723, 3731, 3724, 3732] [] g1 hR1 := by rw [hRE]; exact (((((((Fr.rfl.sI (by decide)).sI (by decide)).sI (by decide)).sI (by decide)).sI (by decide)).sI (by decide)).sI (by decide)).sI (by decide)
  have fR : Fr [3586, 3717, 3720, 3725, 3726, 3723, 3731, 3724, 3732] [282, 283, 284] g hR1 := (((Fr.rfl.sI (by decide) : Fr [3586] [] g (sI g 3586 189 (nI 0))).wk (by decide) (fun _ q => absurd q List.not_mem_nil)).trans (y2.wk (fun _ q => absurd q List.not_mem_nil) (fun _ q => q))).trans (fR1.wk (by decide) (fun _ q => absurd q List.not_mem_nil))
  have sR1 := fR.sh sg
  have e151 : cK (E (d + 329) 32 [.ref 189] (sI g 3586 189 (nI 0))) (Q (d + 329) 151 38 [some (.ref 189), some (.int (nI oo)), some (.int (nI lim)), none]) [] = Q (d + 329) 151 78 [some (.ref 189), none, none, none] [] hR1 := by
    rw [y1, cK_n, t_151_38 sg1, ← hRE]
  rw [e151] at eR
  rw [e211] at eC
  -- the two side by side
  obtain ⟨c, hcE⟩ : ∃ c : CXm, c = (t, bk, (fun i => if i = 0 then x0 else if i = 1 then b else if i = 2 then v else if i = 3 then oo else if i = 4 then lim else if i = 5 then sd else if i = 6 then zN s 2 else if i = 7 then zN s 0 else d + 309), G, Cp, hC1, hR1) := ⟨_, rfl⟩
  have n0 : kn c 0 = x0 := by rw [hcE]; rfl
  have n1' : kn c 1 = b := by rw [hcE]; rfl
  have n2' : kn c 2 = v := by rw [hcE]; rfl
  have n3 : kn c 3 = oo := by rw [hcE]; rfl
  have n4 : kn c 4 = lim := by rw [hcE]; rfl
  have n5 : kn c 5 = sd := by rw [hcE]; rfl
  have n6 : kn c 6 = zN s 2 := by rw [hcE]; rfl
  have n7 : kn c 7 = zN s 0 := by rw [hcE]; rfl
  have n8 : kn c 8 = d + 309 := by rw [hcE]; rfl
  have kT' : kT c = t := by rw [hcE]; rfl
  have kB' : kB c = bk := by rw [hcE]; rfl
  have kG' : kG c = G := by rw [hcE]; rfl
  have kC' : kC c = Cp := by rw [hcE]; rfl
  have hC' : hC c = hC1 := by rw [hcE]; rfl
  have hR' : hR c = hR1 := by rw [hcE]; rfl
  have scr1 : Scr hC1 x0 t := by
    obtain ⟨M, m1, m2, m3, m4⟩ := sc
    have a1 : gA h1 (x0 + 1) = gA h (x0 + 1) := x2.A (by rcases hx with q | q <;> (rw [q]; decide))
    have a2 : gA h1 (x0 + 2) = gA h (x0 + 2) := x2.A (by rcases hx with q | q <;> (rw [q]; decide))
    refine ⟨M, m1, m2, by rw [cI _ (by decide) (by decide), x2.I (by decide)]; exact m3, ?_⟩
    rw [cA, a1, a2]; exact m4
  have K : KXs c := by
    unfold KXs
    rw [n0, n2', n3, n4, n5, n7, kT', kB', hC', hR']
    refine ⟨sC, sR1, W, hx, scr1, ?_, ?_, ?_, ho, hl, ?_, hv, B.fr fR (by decide), ?_, ?_, ?_, hsd, ws.2.1, t4⟩
    · rw [hCE]; show gR (sR h1 1544 175 (some x0)) 1544 175 = _; rw [gR_s]
    · rw [hCE, gI_k (by decide), gI_s]
    · rw [hCE, gI_s]
    · rw [fR.I (by decide)]; exact e97
    · rw [hRE, gI_k (by decide), gI_k (by decide), gI_k (by decide), gI_k (by decide), gI_k (by decide), gI_s]
    · rw [hRE, gI_k (by decide), gI_k (by decide), gI_k (by decide), gI_k (by decide), gI_s]
    · rw [fR.I (by decide)]; exact e96
  have cyC : CY hC1 bk := by
    have := cy.fr x2 (by decide) (by decide) (by decide) (by decide)
    unfold CY at this ⊢
    rw [cI 2059 (by decide) (by decide), cI 2060 (by decide) (by decide), cA]; exact this
  have rsR := rs.fr fR (by decide) (by decide)
  have ryR := ry.fr fR (by decide) (by decide) (by decide) (by decide)
  have r : CRm c hC1 hR1 := by
    obtain ⟨ty, a2, p, p2, mk, rf, m1, m2, m3, m4, mn, -, m6, m7⟩ := mm
    obtain ⟨q9, q4, q5, q6, q10, q11, q12, q15, q16, q17⟩ := mn
    obtain ⟨z1, z2, z3, z4, z5, z6, z7, z8, z9⟩ := x3
    obtain ⟨w1, w2, w3⟩ := y3
    refine ⟨by rw [hC']; exact GF.rfl, by rw [hR']; exact Fr.rfl, ⟨s, G, Cp, by rw [n1', kB']; exact C3, by rw [kB']; exact ws, by rw [kB']; exact cb, by rw [kB']; exact cyC, rsR, by rw [kB']; exact ryR, by rw [hC', kC']; exact RM.rfl rfl, by rw [kG']; exact fun _ _ => rfl, n6.symm, n7.symm⟩, ty, 0, a2, 0, p2, 0, rf, Nat.zero_le _, fun i hi => ?_, fun i hi => ⟨?_, ?_⟩, fun i hi => ?_, fun i hi => absurd hi (Nat.not_lt_zero _), ⟨?_, ?_, Nat.zero_le _, ?_, ?_, q6, ?_, ?_, Nat.zero_le _, ?_, ?_, q12, ?_, Nat.le_refl _, ?_, ?_, q17⟩, fun i hi => Or.inl ⟨?_, ?_⟩, fun i j hi hj e => absurd (by rw [cA]; exact z3 i hi) e⟩
    · rw [cB, z1 i hi, fR1.B List.not_mem_nil, w1 i hi]
    · rw [cA, z2 i hi, fR1.A List.not_mem_nil, w2 i hi]
    · rw [cA, z2 i hi]; exact Or.inl rfl
    · rw [cB, x2.B (by decide), fR.B (by decide)]; exact m3 i hi
    · rw [cI _ (by decide) (by decide)]; exact z7
    · rw [hRE, gI_k (by decide), gI_k (by decide), gI_k (by decide), gI_k (by decide), gI_k (by decide), gI_k (by decide), gI_s]
    · rw [cI _ (by decide) (by decide), x2.I (by decide)]; exact q4
    · rw [fR.I (by decide)]; exact q5
    · rw [cI _ (by decide) (by decide)]; exact z8
    · rw [hRE, gI_k (by decide), gI_k (by decide), gI_k (by decide), gI_k (by decide), gI_k (by decide), gI_k (by decide), gI_k (by decide), gI_s]
    · rw [cI _ (by decide) (by decide), x2.I (by decide)]; exact q10
    · rw [fR.I (by decide)]; exact q11
    · rw [cI _ (by decide) (by decide)]; exact z9
    · rw [cI _ (by decide) (by decide), x2.I (by decide)]; exact q15
    · rw [fR.I (by decide)]; exact q16
    · rw [cA]; exact z3 i hi
    · rw [fR1.A List.not_mem_nil]; exact w3 i hi
  obtain ⟨z1, z2, z3, z4, z5, z6, z7, z8, z9⟩ := x3
  have G0 : Gs c 0 0 0 0 hC1 hR1 := ⟨r, by rw [cI _ (by decide) (by decide)]; exact z5, by rw [cI _ (by decide) (by decide)]; exact z4, by rw [hRE, gI_k (by decide), gI_s], by rw [hRE, gI_k (by decide), gI_k (by decide), gI_k (by decide), gI_s], by rw [hRE, gI_k (by decide), gI_k (by decide), gI_s], by rw [hRE, gI_s]⟩
  obtain ⟨M, m1, m2, m3, m4⟩ := id scr1
  obtain ⟨L, Y, O, v1, v2, v3, v4, v5, v6, v7⟩ := rp
  have AT' : AT hR1 (4400 * sd) (L ++ [(nI 44, nI 0)]) := fun i hi => by rw [fR.A (by decide), fR.A (by decide)]; exact v3 i hi
  have T1 : T3 hR1 276 (820 * sd) Y := fun i hi => by rw [fR.A (by decide), fR.A (by decide), fR.A (by decide)]; exact v4 i hi
  have T2 : T3 hR1 279 (700 * sd) O := fun i hi => by rw [fR.A (by decide), fR.A (by decide), fR.A (by decide)]; exact v5 i hi
  obtain ⟨w, hc', hr', u1, u2, u3⟩ := top_13 (c := c) (M := M) (n := d + 318) K (by rw [kT']; exact m1) (by omega) (fun hc i => by
    obtain ⟨⟨M', l1, l2, l3, l4⟩, -⟩ := i.scr K
    rw [kT'] at l1
    rw [l3, ME.un l1 m1]) (by omega) (6 * t.1 + 3) 0 (pxR t).2 0 0 0 L Y O 0 (by rw [kT', n5]; exact v1) hC1 hR1 0 (by rw [hR', n5]; exact AT') ⟨by rw [hR', n5]; exact T1, by rw [hR', n5]; exact T2, by omega, by omega⟩ (by omega) (Nat.zero_le _) (Nat.le_refl _) G0
  have sH := u3.shC
  have sRr := u3.shR K
  obtain ⟨gm, fm, ⟨s', G', Cp', P1, P2, P3, P4, P5, P6, P7, P8, P9, P10⟩, ty, a1, a2, p1, p2, mk, rf, m0, mE⟩ := u3
  rw [n1', kB'] at P1
  rw [kB'] at P2 P3 P4 P6
  rw [hC', kC'] at P7
  rw [kG'] at P8
  rw [n6] at P9 mE
  rw [n7] at P10
  rw [hC'] at gm
  rw [hR'] at fm
  unfold LPm at u2
  rw [n8] at u2
  have N1 : hC1.1 = h.1 := by rw [hCE]; exact x2.1
  refine ⟨w, hc', hr', s', G', Cp', ?_, ?_, ⟨P1, P2, P3, P4, P5, P6⟩, (RM.rfl N1).trans P7, P8, P9, P10, ⟨ty, a2, p1, p2, mk, rf, mE.w⟩, gn0.trans (gm.wk (fun k x q => ?_) (fun k x q => Or.inl q) (fun _ q => q) (fun _ q => q)), (fR.wk (by decide) (by decide)).trans (fm.wk (by decide) (fun _ q => q)), sRr, ?_⟩
  · rw [eC, u1, cK_v, t_15_48 sH]
  · rw [eR]; exact u2
  · rcases q with q | q | q | q
    · exact Or.inl q
    · refine Or.inr (Or.inl ?_)
      simp only [List.mem_cons, List.not_mem_nil, or_false] at q
      omega
    · exact Or.inr (Or.inr (Or.inl q))
    · exact Or.inr (Or.inr (Or.inr q))
  · rw [fm.I (by decide), fR1.I (by decide), y2.I List.not_mem_nil, gI_s]
end RUN
