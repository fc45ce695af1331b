/-! ===== AN ITEM'S SIGNS ARE MADE (component) ===== -/
section NWM
variable {h : AH} {n k : Nat}
theorem nwM_C {x : Nat} (e : x < gN h) : gC (nwM h n k) x = gC h x ∧ gK (nwM h n k) x = gK h x ∧ gA (nwM h n k) x = gA h x ∧ gB (nwM h n k) x = gB h x ∧ gO (nwM h n k) x = gO h x := by
  refine ⟨?_, ?_, ?_, ?_, ?_⟩
  · show (if x = gN h then 66 else if gN h < x ∧ x < gN h + (1 + n) then 60 else gC h x) = _
    rw [if_neg (by omega), if_neg (by omega)]
  · show (if x = gN h then n else if gN h < x ∧ x < gN h + (1 + n) then k else gK h x) = _
    rw [if_neg (by omega), if_neg (by omega)]
  · show (if gN h ≤ x ∧ x < gN h + (1 + n) then fun _ => 0 else gA h x) = _
    rw [if_neg (by omega)]
  · show (if gN h ≤ x ∧ x < gN h + (1 + n) then fun _ => 0 else gB h x) = _
    rw [if_neg (by omega)]
  · show (if x = gN h then (fun i => if i < n then some (gN h + 1 + i) else none) else if gN h < x ∧ x < gN h + (1 + n) then fun _ => none else gO h x) = _
    rw [if_neg (by omega), if_neg (by omega)]
theorem nwM_I {j x : Nat} (e : x < gN h) : gI (nwM h n k) j x = gI h j x ∧ gL (nwM h n k) j x = gL h j x ∧ gR (nwM h n k) j x = gR h j x := by
  refine ⟨?_, ?_, ?_⟩
  · show (if gN h ≤ x ∧ x < gN h + (1 + n) then 0 else gI h j x) = _
    rw [if_neg (by omega)]
  · show (if gN h ≤ x ∧ x < gN h + (1 + n) then 0 else gL h j x) = _
    rw [if_neg (by omega)]
  · show (if gN h ≤ x ∧ x < gN h + (1 + n) then none else gR h j x) = _
    rw [if_neg (by omega)]
theorem NFr.nwM {h0 : AH} {N : Nat} (a : NFr N h0 h) : NFr N h0 (nwM h n k) := by
  refine a.trans ⟨⟨Nat.le_add_right _ _, Nat.le_add_right _ _⟩, fun x hx => ⟨(nwM_C hx).1, (nwM_C hx).2.1⟩, fun j x hx _ => (nwM_I hx).1, fun j x hx _ => (nwM_I hx).2.1, fun j x hx _ => (nwM_I hx).2.2, fun x hx _ => ⟨(nwM_C hx).2.2.1, (nwM_C hx).2.2.2.1⟩, fun x hx _ => (nwM_C hx).2.2.2.2⟩
theorem Sh.nwM (a : Sh h) : Sh (nwM h n k) := by
  have g := a.2
  refine ⟨HH.mk ?_ ?_ ?_ ?_, Nat.le_trans a.2 (Nat.le_add_right _ _)⟩
  · funext x
    by_cases e : x < gN h
    · have w := congrFun a.c x
      unfold cX at w ⊢
      rw [(nwM_C e).1]; exact w
    · unfold cX; rw [inS_ge (by omega)]; rfl
  · funext x
    by_cases e : x < gN h
    · have w := congrFun a.k x
      unfold kX at w ⊢
      rw [(nwM_C e).2.1]; exact w
    · unfold kX; rw [inS_ge (by omega)]; rfl
  · funext j x
    by_cases e : x < gN h
    · have w := congrFun (congrFun a.r j) x
      unfold rX at w ⊢
      rw [(nwM_I e).2.2]; exact w
    · unfold rX; rw [inS_ge (by omega)]; rfl
  · funext x i
    by_cases e : x < gN h
    · have w := congrFun (congrFun a.o x) i
      unfold oX at w ⊢
      rw [(nwM_C e).2.2.2.2]; exact w
    · unfold oX
      rw [show Nat.beq x 107 = false from by cases hb : Nat.beq x 107 with | false => rfl | true => have := Nat.eq_of_beq_eq_true hb; omega]
      rfl
theorem HW.nwM (w : HW h) : HW (nwM h n k) := fun x hx => by
  have hx : gN h + (1 + n) ≤ x := hx
  show (if x = gN h then 66 else if gN h < x ∧ x < gN h + (1 + n) then 60 else gC h x) = _
  rw [if_neg (by omega), if_neg (by omega)]; exact w x (by omega)
theorem LnC.nw (g : 296 ≤ gN h) : LnC (Jvm.Pilot.CPostRoomLaw_law_r9321_2ac549.nwM h 4 5) (gN h) := by
  refine ⟨g, if_pos rfl, if_pos rfl, fun j hj => ⟨?_, ?_, ?_⟩⟩
  · show (if gN h = gN h then (fun i => if i < 4 then some (gN h + 1 + i) else none) else if gN h < gN h ∧ gN h < gN h + (1 + 4) then fun _ => none else gO h (gN h)) j = _
    rw [if_pos rfl]
    exact if_pos hj
  · show (if gN h + 1 + j = gN h then 66 else if gN h < gN h + 1 + j ∧ gN h + 1 + j < gN h + (1 + 4) then 60 else gC h (gN h + 1 + j)) = 60
    rw [if_neg (by omega), if_pos (by omega)]
  · show (if gN h + 1 + j = gN h then 4 else if gN h < gN h + 1 + j ∧ gN h + 1 + j < gN h + (1 + 4) then 5 else gK h (gN h + 1 + j)) = 5
    rw [if_neg (by omega), if_pos (by omega)]
end NWM
theorem KS.nf {h h' : AH} {N : Nat} (K : KS h) (a : NFr N h h') (hN : 61 ≤ N) (g : 61 ≤ gN h) : KS h' := ⟨fun x q1 q2 q3 => by rw [(a.2.2.2.2.2.1 x (by omega) (by omega)).1]; exact K.1 x q1 q2 q3, fun x hx => by rw [a.2.2.1 3841 x (by omega) (by omega)]; exact K.2 x hx⟩
theorem Fr.nf' {X : List Nat} {h h' : AH} {N : Nat} (f : Fr [] X h h') (q : ∀ x, x ∈ X → N ≤ x) : NFr N h h' := by
  obtain ⟨f1, f2, f3, f4, f5, f6, f7, f8, f9⟩ := f
  exact ⟨⟨by rw [show gN h' = gN h from congrArg Prod.fst f1]; exact Nat.le_refl _, by rw [show gS h' = gS h from congrArg Prod.snd f1]; exact Nat.le_refl _⟩, fun x _ => ⟨by rw [f2], by rw [f3]⟩, fun k x _ _ => by rw [f6 k List.not_mem_nil], fun k x _ _ => by rw [f7 k List.not_mem_nil], fun k x _ _ => by rw [f4], fun x _ w => ⟨f8 x fun m => w (q x m), f9 x fun m => w (q x m)⟩, fun x _ _ => by rw [f5]⟩
section SSG
variable {d : Nat} {h : AH} {x y : Nat} {S : Nat → Nat}
/-- setSigns -/
theorem c_setS (hs : Sh h) (w : HW h) (K : KS h) {sv num wt cd : Nat} (hx : gC h x = 5) (hr : gR h 1285 x = some y) (hy : 296 ≤ y) (hc : gC h y = 60) (hk : gK h y = 11) (h0 : ∀ p, p < 11 → gA h y p = 0) (h1 : gI h 1281 x = nI sv) (h2 : gI h 1280 x = nI num) (h3 : gI h 1282 x = nI wt) (l1 : sv < 64) (l2 : num < 4096) (l3 : wt ≤ 4000) (l4 : cd ≤ 999)
    (e0 : S 0 = sv) (e1 : S 1 = cd / 64) (e2 : S 2 = cd % 64) (e3 : S 3 = num / 64) (e4 : S 4 = num % 64) (e5 : S 5 = wt / 64) (e6 : S 6 = wt % 64) (e7 : ∀ p, 7 ≤ p → S p = 0) : ∃ h' T, E (d + 4) 272 [.ref x, .int (nI cd)] h = some (none, h') ∧ NFr y h h' ∧ (∀ z, z ≠ y → z < gN h → gA h' z = gA h z ∧ gB h' z = gB h z) ∧ (∀ k z, z < gN h → gI h' k z = gI h k z ∧ gL h' k z = gL h k z ∧ gR h' k z = gR h k z) ∧ Sh h' ∧ HW h' ∧ gN h' = gN h + 6 ∧ gS h' = gS h + 28 ∧ SolS sp7 4 S T ∧ SA h' y T := by
  have g296 := hs.2
  have yN : y < gN h := w.lt hc (by decide)
  have xN : x < gN h := w.lt hx (by decide)
  have hS : ∀ p, p < 11 → S p < 64 := fun p hp => by
    have : p = 0 ∨ p = 1 ∨ p = 2 ∨ p = 3 ∨ p = 4 ∨ p = 5 ∨ p = 6 ∨ 7 ≤ p := by omega
    rcases this with q | q | q | q | q | q | q | q
    · rw [q, e0]; exact l1
    · rw [q, e1]; omega
    · rw [q, e2]; omega
    · rw [q, e3]; omega
    · rw [q, e4]; omega
    · rw [q, e5]; omega
    · rw [q, e6]; omega
    · rw [e7 p q]; decide
  obtain ⟨u0, u0E⟩ : ∃ u, u = sA (sA (sA (sA (sA (sA (sA h y 0 (nI sv)) y 1 (nI (cd / 64))) y 2 (nI (cd % 64))) y 3 (nI (num / 64))) y 4 (nI (num % 64))) y 5 (nI (wt / 64))) y 6 (nI (wt % 64)) := ⟨_, rfl⟩
  have F0 : Fr [] [y] h u0 := by
    rw [u0E]
    exact ((((((Fr.rfl.sA (List.mem_singleton.mpr rfl)).sA (List.mem_singleton.mpr rfl)).sA (List.mem_singleton.mpr rfl)).sA (List.mem_singleton.mpr rfl)).sA (List.mem_singleton.mpr rfl)).sA (List.mem_singleton.mpr rfl)).sA (List.mem_singleton.mpr rfl)
  have A0 : ∀ p, p < 11 → gA u0 y p = nI (S p) := fun p hp => by
    rw [u0E, gA_s, gA_s, gA_s, gA_s, gA_s, gA_s, gA_s]
    have : p = 0 ∨ p = 1 ∨ p = 2 ∨ p = 3 ∨ p = 4 ∨ p = 5 ∨ p = 6 ∨ 7 ≤ p := by omega
    rcases this with q | q | q | q | q | q | q | q
    · subst q; rw [up1_x (by decide), up1_x (by decide), up1_x (by decide), up1_x (by decide), up1_x (by decide), up1_x (by decide), up1_s, e0]
    · subst q; rw [up1_x (by decide), up1_x (by decide), up1_x (by decide), up1_x (by decide), up1_x (by decide), up1_s, e1]
    · subst q; rw [up1_x (by decide), up1_x (by decide), up1_x (by decide), up1_x (by decide), up1_s, e2]
    · subst q; rw [up1_x (by decide), up1_x (by decide), up1_x (by decide), up1_s, e3]
    · subst q; rw [up1_x (by decide), up1_x (by decide), up1_s, e4]
    · subst q; rw [up1_x (by decide), up1_s, e5]
    · subst q; rw [up1_s, e6]
    · rw [up1_x (by omega), up1_x (by omega), up1_x (by omega), up1_x (by omega), up1_x (by omega), up1_x (by omega), up1_x (by omega), e7 p q, h0 p hp]; rfl
  have s0 : Sh u0 := F0.sh hs
  have w0 : HW u0 := F0.hw w
  have n0 : gN u0 = gN h := F0.ct.1
  obtain ⟨z1, z1E⟩ : ∃ z, z = gN h := ⟨_, rfl⟩
  -- the row of spots
  obtain ⟨u1, u1E⟩ : ∃ u, u = sA (sA (sA (sA (nwA u0 60 4) z1 0 (nI 7)) z1 1 (nI 8)) z1 2 (nI 9)) z1 3 (nI 10) := ⟨_, rfl⟩
  have sN : Sh (nwA u0 60 4) := s0.nw
  have F1 : Fr [] [z1] (nwA u0 60 4) u1 := by
    rw [u1E]
    exact (((Fr.rfl.sA (List.mem_singleton.mpr rfl)).sA (List.mem_singleton.mpr rfl)).sA (List.mem_singleton.mpr rfl)).sA (List.mem_singleton.mpr rfl)
  have s1 := F1.sh sN
  have w1 : HW u1 := F1.hw (HW.nw w0)
  have n1 : gN u1 = gN h + 1 := by rw [F1.ct.1]; show gN u0 + 1 = _; omega
  have c1 : gC u1 z1 = 60 := by rw [F1.2.1, z1E, ← n0]; exact nw_C0
  have k1 : gK u1 z1 = 4 := by rw [F1.2.2.1, z1E, ← n0]; exact nw_K0
  have P1 : ∀ k, k < 4 → gA u1 z1 k = nI (sp7 k) := fun k hk => by
    rw [u1E, gA_s, gA_s, gA_s, gA_s]
    have : k = 0 ∨ k = 1 ∨ k = 2 ∨ k = 3 := by omega
    rcases this with q | q | q | q <;> subst q
    · rw [up1_x (by decide), up1_x (by decide), up1_x (by decide), up1_s]; rfl
    · rw [up1_x (by decide), up1_x (by decide), up1_s]; rfl
    · rw [up1_x (by decide), up1_s]; rfl
    · rw [up1_s]; rfl
  have N1 : NFr y h u1 := (Fr.nf' F0 (fun q hq => by rw [List.mem_singleton] at hq; omega)).trans ((NFr.nw (NFr.rfl (N := y) (h := u0)) (c := 60) (k := 4) (n := 4)).trans (Fr.nf' F1 (fun q hq => by rw [List.mem_singleton] at hq; omega)))
  have N2 : NFr y h (nwM u1 4 5) := N1.nwM
  have s2 : Sh (nwM u1 4 5) := s1.nwM
  have w2 : HW (nwM u1 4 5) := HW.nwM w1
  have yu : y < gN u1 := by omega
  have A2 : SA (nwM u1 4 5) y S := by
    refine ⟨by rw [(N2.2.1 y yN).1]; exact hc, by rw [(N2.2.1 y yN).2]; exact hk, hy, fun p hp => ?_⟩
    rw [(nwM_C yu).2.2.1, F1.A (by rw [List.mem_singleton]; omega), show gA (nwA u0 60 4) y = gA u0 y from nw_A (by omega)]
    exact A0 p hp
  have P2 : SPA (nwM u1 4 5) z1 4 4 sp7 := ⟨by rw [(nwM_C (by omega)).1]; exact c1, by rw [(nwM_C (by omega)).2.1]; exact k1, Nat.le_refl _, by decide, by omega, fun k hk => by rw [(nwM_C (by omega)).2.2.1]; exact P1 k hk⟩
  obtain ⟨h', v, q1, q2, q3⟩ := c_solve (d := d) (x0 := y) (x1 := z1) (z := gN u1) (n := 4) (K := 4) (S := S) sp7_d hS yu (by omega) (by omega) s2 (K.nf N2 (by omega) (by omega)) (LnC.nw (by omega)) A2 P2
  have zz : ∀ q, q ∈ y :: Xz (gN u1) → y ≤ q := fun q hq => by
    simp only [Xz, List.mem_cons, List.not_mem_nil, or_false] at hq; omega
  have zz2 : ∀ q, q ∈ y :: Xz (gN u1) → q = y ∨ gN h ≤ q := fun q hq => by
    simp only [Xz, List.mem_cons, List.not_mem_nil, or_false] at hq; omega
  obtain ⟨W0, hW0⟩ := SolS.ex sp7_d hS
  have t5 : gR u1 1285 x = some y := by
    rw [F1.2.2.2.1, show gR (nwA u0 60 4) 1285 x = gR u0 1285 x from nw_R (by omega), F0.2.2.2.1]; exact hr
  have cx1 : gC u1 x = 5 := by rw [F1.2.1, show gC (nwA u0 60 4) x = gC u0 x from nw_C (by omega), F0.2.1]; exact hx
  have cz0 : gC (nwA u0 60 4) z1 = 60 := by rw [z1E, ← n0]; exact nw_C0
  have kz0 : gK (nwA u0 60 4) z1 = 4 := by rw [z1E, ← n0]; exact nw_K0
  have eE : E (d + 4) 272 [.ref x, .int (nI cd)] h = cK (E (d + 3) 246 [.ref y, .ref z1, .int (nI 4), .ref (gN u1)] (nwM u1 4 5)) (Q (d + 3) 272 122 [some (.ref x), klV (some (.int (nI cd))), some (.ref z1)]) [] := by
    rw [t_272 hs, ck_ok hx, hr, Option.bind_some, ck_ok hx, cw_ok hc (by omega), hk, gd_nI (by decide) (by decide), ck_ok hx, Option.bind_some, dz_ok (by decide), cw_ok hc (by omega), hk, gd_nI (by decide) (by decide), ck_ok hx, Option.bind_some, dz_ok (by decide), cw_ok hc (by omega), hk, gd_nI (by decide) (by decide), ck_ok hx, Option.bind_some, ck_ok hx, dz_ok (by decide), cw_ok hc (by omega), hk, gd_nI (by decide) (by decide), ck_ok hx, Option.bind_some, ck_ok hx, dz_ok (by decide), cw_ok hc (by omega), hk, gd_nI (by decide) (by decide), ck_ok hx, Option.bind_some, ck_ok hx, dz_ok (by decide), cw_ok hc (by omega), hk, gd_nI (by decide) (by decide), ck_ok hx, Option.bind_some, ck_ok hx, dz_ok (by decide), cw_ok hc (by omega), hk, gd_nI (by decide) (by decide), h1, h2, h3, pk_remN (by omega) (by decide) (by decide), pk_remN (by omega) (by decide) (by decide), pk_remN (by omega) (by decide) (by decide), pk_div (by omega) (by decide) (by decide), pk_div (by omega) (by decide) (by decide), pk_div (by omega) (by decide) (by decide), ← u0E, ← z1E]
    rw [t_272_86 sN, cw_ok cz0 (by omega), kz0, gd_nI (by decide) (by decide), cw_ok cz0 (by omega), gd_nI (by decide) (by decide), cw_ok cz0 (by omega), gd_nI (by decide) (by decide), cw_ok cz0 (by omega), gd_nI (by decide) (by decide), ← u1E]
    have a1 : ck (gC (nwA u0 60 4) x) 5 = ck (gC u1 x) 5 := by rw [F1.2.1]
    have a2 : gR (nwA u0 60 4) 1285 x = gR u1 1285 x := by rw [F1.2.2.2.1]
    rw [a1, ck_ok cx1, a2, t5, Option.bind_some, t_272_119 s2, show gN (nwA u0 60 4) = gN u1 from F1.ct.1.symm]
  rcases q3 with ⟨q4, T, q5, q6⟩ | ⟨-, q4, -⟩
  · refine ⟨h', T, ?_, N2.trans (Fr.nf' q2 zz), fun z hz1 hz2 => ?_, fun k z hz => ?_, q2.sh s2, q2.hw w2, ?_, ?_, q5, q6⟩
    · rw [eE, q1, cK_v, t_272_122 (q2.sh s2)]
    · have nm : z ∉ y :: Xz (gN u1) := fun hm => by have := zz2 z hm; omega
      rw [q2.A nm, q2.B nm, (nwM_C (by omega)).2.2.1, (nwM_C (by omega)).2.2.2.1, F1.A (by rw [List.mem_singleton]; omega), F1.B (by rw [List.mem_singleton]; omega)]
      exact ⟨(nw_A (by omega)).trans (F0.A (by rw [List.mem_singleton]; omega)), (up1_x (f := gB u0) (by omega)).trans (F0.B (by rw [List.mem_singleton]; omega))⟩
    · rw [q2.I List.not_mem_nil, q2.L List.not_mem_nil, q2.2.2.2.1, (nwM_I (by omega)).1, (nwM_I (by omega)).2.1, (nwM_I (by omega)).2.2, F1.I List.not_mem_nil, F1.L List.not_mem_nil, F1.2.2.2.1]
      exact ⟨(nw_I (by omega)).trans (by rw [F0.I List.not_mem_nil]), (nw_L (by omega)).trans (by rw [F0.L List.not_mem_nil]), (nw_R (by omega)).trans (by rw [F0.2.2.2.1])⟩
    · rw [q2.ct.1]; show gN u1 + (1 + 4) = _; omega
    · rw [q2.ct.2]; show gS u1 + (4 + 4 * 5) = _; rw [F1.ct.2]; show gS u0 + 4 + 24 = _; rw [F0.ct.2]
  · exact absurd hW0 (q4 W0)
end SSG
