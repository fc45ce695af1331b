/-! ===== accept AS A CALL (component) ===== -/
section WAC
variable {bk : Bk} {s : St} {t : Tp}
theorem lX_of {l : Nat → List Nat} {o i : Nat} {x : Nat} : x ∈ up1 l o (l o ++ [i]) o ↔ x ∈ l o ∨ x = i := by
  rw [up1_s, List.mem_append, List.mem_singleton]
theorem WS.ac (W : WB bk) (w : WS bk s) {sv wt f p dr : Nat} {pr : Int32} (hS : sv < bk 0 2) (hw1 : 1 ≤ wt) (hw2 : wt ≤ 4000) (hf : f < bk 0 0) (hp : p < bk 0 1) (hd1 : 27 ≤ dr) (hd2 : dr < 27000) (hz : zN s 2 < 200) : WS bk (acS bk s sv wt f p dr pr) := by
  unfold acS
  refine WS.nt ?_ _ _ _
  obtain ⟨w1, w2, w3, w4, w5, w6, w7, w8, w9, w10, w11, w12, w13, w14⟩ := w
  have wb9 := (W.2.2.2.1 p hp).2.2.1
  have wbo := W.2.1 _ wb9
  have aN : ∀ k i, i ≠ zN s 2 → acN bk s sv wt f p dr k i = iN s k i := fun k i q => if_neg q
  have aZ : ∀ k, acN bk s sv wt f p dr k (zN s 2) = (match k with
    | 0 => sv
    | 1 => wt
    | 2 => f
    | 3 => bk 2 (bk 9 p)
    | 4 => dr
    | 6 => f
    | 8 => zN s 0
    | _ => 0) := fun k => if_pos rfl
  refine ⟨show zN s 2 + 1 ≤ 200 by omega, w2, w3, fun i hi => ?_, fun o => ?_, fun c => ?_, ?_, fun tr htr => ?_, w9, fun i hi h5 => ?_, fun i hi h5 => ?_, w12, w13, w14⟩
  · have hi : i < zN s 2 + 1 := hi
    show acN bk s sv wt f p dr 0 i < _ ∧ 1 ≤ acN bk s sv wt f p dr 1 i ∧ acN bk s sv wt f p dr 1 i ≤ 4000 ∧ acN bk s sv wt f p dr 2 i < _ ∧ acN bk s sv wt f p dr 3 i ≤ 999 ∧ 27 ≤ acN bk s sv wt f p dr 4 i ∧ acN bk s sv wt f p dr 4 i < 27000 ∧ acN bk s sv wt f p dr 5 i ≤ 4 ∧ acN bk s sv wt f p dr 6 i < _ ∧ acN bk s sv wt f p dr 7 i ≤ 2 ∧ acN bk s sv wt f p dr 8 i ≤ zN s 0 ∧ (∀ q, up1 (iP s) (zN s 2) (some p) i = some q → q < bk 0 1) ∧ ∀ c, up1 (iC s) (zN s 2) none i = some c → c < bk 0 3
    by_cases q : i = zN s 2
    · subst q
      rw [aZ, aZ, aZ, aZ, aZ, aZ, aZ, aZ, aZ, up1_s, up1_s]
      exact ⟨hS, hw1, hw2, hf, wbo.2.2.2.1, hd1, hd2, Nat.zero_le _, hf, Nat.zero_le _, Nat.le_refl _, fun q hq => by cases hq; exact hp, fun c hc => by cases hc⟩
    · rw [aN _ _ q, aN _ _ q, aN _ _ q, aN _ _ q, aN _ _ q, aN _ _ q, aN _ _ q, aN _ _ q, aN _ _ q, up1_x q, up1_x q]
      exact w4 i (by omega)
  · obtain ⟨n1, n2⟩ := w5 o
    show (up1 (sH s) f (sH s f ++ [zN s 2]) o).Nodup ∧ ∀ i, i ∈ up1 (sH s) f (sH s f ++ [zN s 2]) o ↔ i < zN s 2 + 1 ∧ acN bk s sv wt f p dr 5 i = 0 ∧ acN bk s sv wt f p dr 6 i = o
    have nz : zN s 2 ∉ sH s o := fun q => by have := ((n2 _).mp q).1; omega
    by_cases q : o = f
    · subst q
      refine ⟨?_, fun i => ?_⟩
      · rw [up1_s]
        exact List.nodup_append.mpr ⟨n1, List.nodup_cons.mpr ⟨List.not_mem_nil, List.nodup_nil⟩, fun a ha b' hb' e => nz (by rw [List.mem_singleton] at hb'; rw [← hb', ← e]; exact ha)⟩
      · rw [lX_of]
        by_cases z : i = zN s 2
        · subst z
          rw [aZ, aZ]
          exact ⟨fun _ => ⟨by omega, rfl, rfl⟩, fun _ => Or.inr rfl⟩
        · rw [aN _ _ z, aN _ _ z, n2 i]
          constructor
          · rintro (h | h)
            · exact ⟨by omega, h.2⟩
            · exact absurd h z
          · rintro ⟨h1, h2⟩; exact Or.inl ⟨by omega, h2⟩
    · rw [up1_x q]
      refine ⟨n1, fun i => ?_⟩
      rw [n2 i]
      by_cases z : i = zN s 2
      · subst z
        rw [aZ, aZ]
        exact ⟨fun h => by omega, fun h => absurd h.2.2.symm q⟩
      · rw [aN _ _ z, aN _ _ z]
        exact ⟨fun h => ⟨by omega, h.2⟩, fun h => ⟨by omega, h.2⟩⟩
  · obtain ⟨n1, n2⟩ := w6 c
    refine ⟨n1, fun i => ?_⟩
    show i ∈ sG s c ↔ i < zN s 2 + 1 ∧ acN bk s sv wt f p dr 5 i = 1 ∧ up1 (iC s) (zN s 2) none i = some c
    rw [n2 i]
    by_cases z : i = zN s 2
    · subst z
      rw [aZ, up1_s]
      exact ⟨fun h => by omega, fun h => by cases h.2.2⟩
    · rw [aN _ _ z, up1_x z]
      exact ⟨fun h => ⟨by omega, h.2⟩, fun h => ⟨by omega, h.2⟩⟩
  · obtain ⟨n1, n2⟩ := w7
    refine ⟨n1, fun i => ?_⟩
    show i ∈ rid s ↔ i < zN s 2 + 1 ∧ acN bk s sv wt f p dr 5 i = 2
    rw [n2 i]
    by_cases z : i = zN s 2
    · subst z
      rw [aZ]
      exact ⟨fun h => by omega, fun h => absurd (show (0 : Nat) = 2 from h.2) (by decide)⟩
    · rw [aN _ _ z]
      exact ⟨fun h => ⟨by omega, h.2⟩, fun h => ⟨by omega, h.2⟩⟩
  · obtain ⟨a1, a2, a3, a4, a5, a6⟩ := w8 tr htr
    refine ⟨a1, a2, a3, a4, a5, fun i hi => ?_⟩
    have hr : i ∈ rid s := List.mem_flatMap.mpr ⟨tr, htr, hi⟩
    have lt := ((w7.2 i).mp hr).1
    have ne : i ≠ zN s 2 := by omega
    show up1 (iC s) (zN s 2) none i = some tr.1 ∧ acN bk s sv wt f p dr 9 i = tr.2.1 ∧ acN bk s sv wt f p dr 6 i = bk 26 tr.1
    rw [up1_x ne, aN _ _ ne, aN _ _ ne]
    exact a6 i hi
  · have hi : i < zN s 2 + 1 := hi
    have h5 : acN bk s sv wt f p dr 5 i = 1 := h5
    show ∃ c, up1 (iC s) (zN s 2) none i = some c ∧ c < bk 0 3 ∧ acN bk s sv wt f p dr 6 i = bk 25 c
    by_cases z : i = zN s 2
    · subst z
      rw [aZ] at h5
      exact absurd (show (0 : Nat) = 1 from h5) (by decide)
    · rw [aN _ _ z] at h5 ⊢
      rw [up1_x z]; exact w10 i (by omega) h5
  · have hi : i < zN s 2 + 1 := hi
    have h5 : acN bk s sv wt f p dr 5 i = 0 ∨ 3 ≤ acN bk s sv wt f p dr 5 i := h5
    show up1 (iC s) (zN s 2) none i = none
    by_cases z : i = zN s 2
    · rw [z, up1_s]
    · rw [aN _ _ z] at h5
      rw [up1_x z]; exact w11 i (by omega) h5
theorem ns_f {ws : List (List Nat)} {cw : Option Nat} {n K : Nat} : ∀ (k p : Nat) (st : Nat × Int32), k + p = K → (st.2 = -1 ∨ st.2 = -2 ∨ ∃ q, q < K ∧ st.2 = nI q ∧ fpN bk ws cw n q < 4) → st.1 ≤ 4 → ((nsL bk ws cw n k p st).2 = -1 ∨ (nsL bk ws cw n k p st).2 = -2 ∨ ∃ q, q < K ∧ (nsL bk ws cw n k p st).2 = nI q ∧ fpN bk ws cw n q < 4)
  | 0, p, st, e, h, _ => h
  | k + 1, p, st, e, h, h4 => by
    unfold nsL
    refine ns_f k (p + 1) _ (by omega) ?_ ?_
    · split
      · exact Or.inr (Or.inr ⟨p, by omega, rfl, by rename_i q; omega⟩)
      · split
        · exact Or.inr (Or.inl rfl)
        · exact h
    · split
      · rename_i q; show fpN bk ws cw n p ≤ 4; omega
      · split
        · exact h4
        · exact h4
/-- what an address may be -/
theorem ad_f (W : WB bk) (N : WN bk) : (adR bk t = -1 ∨ adR bk t = -2) ∨ ∃ p D F v, adS bk t = some (v, D, F, nI p) ∧ adR bk t = nI p ∧ p < bk 0 1 ∧ 27 ≤ D ∧ D < 27000 := by
  unfold adR adS
  by_cases q : 80 < t.1 ∨ (wdS bk t).length < 3
  · rw [if_pos q]; exact Or.inl (Or.inl rfl)
  · rw [if_neg q]
    have V := wd_b (t := t) N
    have e0 := gtD (ws := wdS bk t) (i := 0) (by omega)
    have hwd : ∀ i, i < ((wdS bk t).getD 0 []).length → ((wdS bk t).getD 0 []).getD i 0 < 37 := fun i hi => (V.cd e0 hi).2
    cases e : doS ((wdS bk t).getD 0 []) with
    | none => exact Or.inl (Or.inl rfl)
    | some vl =>
      obtain ⟨v, l⟩ := vl
      have vb := do_b hwd e
      dsimp only
      rcases ns_f (bk := bk) (ws := wdS bk t) (cw := fcL (wdS bk t) ((wdS bk t).length - 2) 2) (n := v) (K := bk 0 1) (bk 0 1) 0 (4, -1) rfl (Or.inl rfl) (Nat.le_refl _) with z | z | ⟨p, z1, z2, z3⟩
      · exact Or.inl (Or.inl z)
      · exact Or.inl (Or.inr z)
      · refine Or.inr ⟨p, 27 * v + l, (nsL bk (wdS bk t) (fcL (wdS bk t) ((wdS bk t).length - 2) 2) v (bk 0 1) 0 (4, -1)).1, v, ?_, z2, z1, ?_, by omega⟩
        · rw [← z2]
        · have : ftB bk p v = true := by
            cases hb : ftB bk p v with
            | true => rfl
            | false =>
              unfold fpN at z3
              rw [hb, if_neg (by decide)] at z3
              omega
          unfold ftB at this
          have := of_decide_eq_true this
          have := (W.2.2.2.1 p z1).2.2.2.2.1
          omega
end WAC
/-- accept: the answer, the state behind it -/
def acA (bk : Bk) (s : St) (t : Tp) (sv f : Nat) (x : Int32) : Int32 × St := if adR bk t < nI 0 then (adR bk t, s) else match adS bk t with
  | none => (-1, s)
  | some q => match tkS bk sv x with
    | none => (-3, s)
    | some w => if zN s 2 < 200 then (nI (zN s 2), acS bk s sv w f (ix q.2.2.2) q.2.1 (prA bk sv (nI w) f (bk 9 (ix q.2.2.2)))) else (-4, s)
theorem acA_w {bk : Bk} {s : St} {t : Tp} (W : WB bk) (N : WN bk) (w : WS bk s) {sv f : Nat} (hS : sv < bk 0 2) (hf : f < bk 0 0) (x : Int32) : WS bk (acA bk s t sv f x).2 := by
  unfold acA
  by_cases q : adR bk t < nI 0
  · rw [if_pos q]; exact w
  · rw [if_neg q]
    rcases ad_f (t := t) W N with (e | e) | ⟨p, D, F, v, e1, e2, e3, e4, e5⟩
    · rw [e] at q; exact absurd (by decide) q
    · rw [e] at q; exact absurd (by decide) q
    · rw [e1]
      have wm := (W.2.2.2.2.1 sv hS).2.2.1
      rcases tkS_c W hS x with ⟨e, -⟩ | ⟨wt, h1, h2, -, e⟩
      · rw [e]; exact w
      · rw [e]
        dsimp only
        by_cases z : zN s 2 < 200
        · rw [if_pos z, ix_nI (by have := W.1.2.1; omega)]
          exact WS.ac W w hS h1 (by omega) hf e3 e4 e5 z
        · rw [if_neg z]; exact w
abbrev AcG (N : Nat) (h h' : AH) : Prop := GF (fun k x => N ≤ x ∨ k ∈ KC ∨ k ∈ 3073 :: KF) (fun k x => N ≤ x ∨ k = 257) (fun _ => True) (fun x => N ≤ x ∨ x ∈ XF) h h'
section CAC
variable {d : Nat} {h : AH} {b : Nat} {bk : Bk} {G Cp : Nat → Nat → Nat} {s : St} {t : Tp}
theorem Fr.acg {K X : List Nat} {h h' : AH} {N : Nat} (f : Fr K X h h') (hK : K ⊆ 3073 :: KF) (hX : X ⊆ XF) : AcG N h h' := by
  obtain ⟨f1, f2, f3, f4, f5, f6, f7, f8, f9⟩ := f
  exact ⟨⟨by rw [show gN h' = gN h from congrArg Prod.fst f1]; exact Nat.le_refl _, by rw [show gS h' = gS h from congrArg Prod.snd f1]; exact Nat.le_refl _⟩, fun x _ => ⟨by rw [f2], by rw [f3]⟩, fun k x _ q => by rw [f6 k fun m => q (Or.inr (Or.inr (hK m)))], fun k x _ q => by rw [f7 k fun m => q (Or.inr (Or.inr (hK m)))], fun k x _ _ => by rw [f4], fun x _ w => ⟨f8 x fun m => w (Or.inr (hX m)), f9 x fun m => w (Or.inr (hX m))⟩, fun x _ _ => by rw [f5]⟩
theorem CS5.fr {K X : List Nat} {h h' : AH} (C5 : CS5 h s G) (f : Fr K X h h') (hX : ∀ x, x ∈ X → x < 296) : CS5 h' s G := fun i hi => by
  obtain ⟨d1, d2, T, d3, d4, d5, d6, d7⟩ := C5 i hi
  have nx : G 17 i ∉ X := fun m => by have := hX _ m; omega
  exact ⟨by rw [f.2.2.2.1]; exact d1, by rw [f.ct.1]; exact d2, T, d3, by rw [f.2.1]; exact d4, by rw [f.2.2.1]; exact d5, d6, by rw [f.A nx]; exact d7⟩
theorem c_accept (W : WB bk) (N : WN bk) (C : CSt h b bk s G Cp) (w : WS bk s) (hcb : capB bk s Cp) (K : KS h) (C5 : CS5 h s G) (T : CT h t) {sv f : Nat} (hS : sv < bk 0 2) (hf : f < bk 0 0) (x : Int32) : ∃ h' G' Cp', E (d + 10) 22 [.ref 100, .int (nI sv), .int x, .int (nI f)] h = some (some (.int (acA bk s t sv f x).1), h') ∧ CSt h' b bk (acA bk s t sv f x).2 G' Cp' ∧ capB bk (acA bk s t sv f x).2 Cp' ∧ CS5 h' (acA bk s t sv f x).2 G' ∧ CT h' (0, t.2) ∧ AcG (gN h) h h' ∧ gS h' + 4 * csm Cp 70 ≤ gS h + 54 + 4 * csm Cp' 70 ∧ gN h' + csm Cp 70 ≤ gN h + 8 + csm Cp' 70 ∧ csm Cp 70 ≤ csm Cp' 70 ∧ kcL Cp' = kcL Cp := by
  have hs := C.1
  have wb0 := W.1.1
  have wb1 := W.1.2.1
  have wb2 := W.1.2.2.1
  obtain ⟨h1, a1, a2, a3, a4⟩ := c_takeA (d := d + 2) hs C.2.2.1 W N C.2.2.2.1 T
  have s1 := a3.sh hs
  have C1 : CSt h1 b bk s G Cp := C.fr a3 (by decide) (fun x hx => by have := xf.mp hx; omega) (fun _ => rfl) (C.2.2.2.2.1.fr a3 (by decide))
  have K1 : KS h1 := K.fr a3 (by decide) (fun x hx => by have := xf.mp hx; omega)
  have C51 := C5.fr a3 (fun x hx => by have := xf.mp hx; omega)
  have F1 : AcG (gN h) h h1 := a3.acg (fun _ q => q) (fun _ q => q)
  have B1 := C1.2.2.2.1
  have hb1 := C1.2.2.1
  have ct := a3.ct
  obtain ⟨pv2, qv2⟩ := B1.2.2.1 2 (by decide)
  have bs := B1.2.2.2.2.2.2.1 sv hS
  have e0 : E (d + 10) 22 [.ref 100, .int (nI sv), .int x, .int (nI f)] h = if adR bk t < nI 0 then some (some (.int (adR bk t)), h1) else cK (E (d + 9) 221 [.ref (G 2 sv), .int x] h1) (Q (d + 9) 22 67 [some (.ref 100), some (.int (nI sv)), some (.int x), some (.int (nI f)), some (.int (adR bk t)), some (.ref b)]) [] := by
    rw [t_22 hs, a1, cK_v, t_22_4 s1, hb1, Option.bind_some, ck_ok B1.1, (c_has s1 W B1 _).2.2.1, cK_v, t_22_21 s1, hb1_s (hv_N hS (by omega)), if_neg (by decide), ck_ok B1.1, (c_has s1 W B1 _).1, cK_v, t_22_30 s1, hb1_s (hv_N hf (by omega)), if_neg (by decide), ck_ok B1.1, pv2, Option.bind_some, ck_ok qv2.1, al_get s1 qv2 hS, cK_v, t_22_60 s1, ck_ok bs.1, ck_ok bs.1]
  rw [e0]
  have same : ∀ v : Int32, ∃ h' G' Cp', some (some (Value.int v), h1) = some (some (Value.int v), h') ∧ CSt h' b bk s G' Cp' ∧ capB bk s Cp' ∧ CS5 h' s G' ∧ CT h' (0, t.2) ∧ AcG (gN h) h h' ∧ gS h' + 4 * csm Cp 70 ≤ gS h + 54 + 4 * csm Cp' 70 ∧ gN h' + csm Cp 70 ≤ gN h + 8 + csm Cp' 70 ∧ csm Cp 70 ≤ csm Cp' 70 ∧ kcL Cp' = kcL Cp := fun v => ⟨h1, G, Cp, rfl, C1, hcb, C51, a2, F1, by omega, by omega, Nat.le_refl _, rfl⟩
  by_cases q : adR bk t < nI 0
  · have e : acA bk s t sv f x = (adR bk t, s) := if_pos q
    rw [if_pos q, e]; exact same _
  · rw [if_neg q]
    rcases ad_f (t := t) W N with (e | e) | ⟨p, D, F, v, e1, e2, e3, e4, e5⟩
    · rw [e] at q; exact absurd (by decide) q
    · rw [e] at q; exact absurd (by decide) q
    have wm := (W.2.2.2.2.1 sv hS).2.2.1
    have A1 := C1.2.2.2.2.2.2.2 0 (Or.inl (by decide)) (Or.inl (by decide))
    have lX0 : (lX s 0).length = zN s 2 := List.length_range
    rw [lX0] at A1
    have A1 : Ar h1 164 (la G 0) (lc Cp 0) (zN s 2) (fun k => G 4 ((lX s 0).getD k 0)) := A1
    have wz := w.1
    have g30 := (a4 v D F _ e1).1
    rcases tkS_c W hS x with ⟨e, q2 | ⟨q2, r⟩⟩ | ⟨wt, h1', h2', rfl, e⟩
    · have ee : acA bk s t sv f x = (-3, s) := by unfold acA; rw [if_neg q, e1, e]
      rw [ee, t_221 s1, if_pos q2, cK_v, t_22_67 s1, if_pos rfl]; exact same _
    · have ee : acA bk s t sv f x = (-3, s) := by unfold acA; rw [if_neg q, e1, e]
      rw [ee, t_221 s1, if_neg q2, ck_ok bs.1, bs.2.2.2.1, if_pos r, cK_v, t_22_67 s1, if_pos rfl]; exact same _
    · rw [t_221 s1, if_neg (nI_nlt h1' (by omega)), ck_ok bs.1, bs.2.2.2.1, if_neg (nI_nlt h2' (by omega)), cK_v, t_22_67 s1, if_neg (by decide), al_size s1 A1, cK_v, t_22_83 s1]
      by_cases z : zN s 2 < 200
      · have ee : acA bk s t sv f (nI wt) = (nI (zN s 2), acS bk s sv wt f p D (prA bk sv (nI wt) f (bk 9 p))) := by
          unfold acA; rw [if_neg q, e1, e]; dsimp only; rw [if_pos z, ix_nI (by omega)]
        obtain ⟨h', G', Cp', b1, b2, b3, b4, b5, b6, b7, b8⟩ := c_takeIn (d := d) (dr := D) W C1 w hcb K1 C51 hS h1' (by omega) hf e3 z
        rw [ee, if_pos (nI_lt z (by decide)), e2, g30, b1, cK_v, t_22_111 b2.1]
        rw [ct.1] at b5
        have F2 : AcG (gN h) h h' := F1.trans (GF.wk b5 (fun k x q => by rcases q with q | q; exact Or.inl q; exact Or.inr (Or.inl q)) (fun k x q => q) (fun _ _ => trivial) (fun x q => Or.inl q))
        refine ⟨h', G', Cp', rfl, b2, b3, b4, ?_, F2, by omega, by omega, b8⟩
        have g := s1.2
        exact ⟨by rw [b5.2.2.1 3073 101 (by omega) (by intro q; rcases q with q | q; omega; exact absurd q (by decide))]; exact a2.1, Nat.zero_le _, fun i hi => absurd hi (Nat.not_lt_zero _)⟩
      · have ee : acA bk s t sv f (nI wt) = (-4, s) := by unfold acA; rw [if_neg q, e1, e]; dsimp only; rw [if_neg z]
        rw [ee, if_neg (nI_nlt (by omega) (by omega))]; exact same _
end CAC
