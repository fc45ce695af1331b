/-! ===== WAYS: all first coaches ===== -/
/-- the better of what is kept and a new arrival by coach c -/
def kp (b : Option Nat) (c : Nat) (x : Option (Nat × Nat)) : Option (Nat × Nat) := match b with
  | none => x
  | some t => match x with
    | none => some (t, c)
    | some (t', c') => if t < t' then some (t, c) else some (t', c')
noncomputable def btC (bk : Bk) (c clk o : Nat) : Option Nat := btT bk (bk 26 c) (tbC bk c clk + bk 30 c) (clk + 20160) o
/-- the coaches c .., n of them, that go from f: the best way to o -/
noncomputable def wy1 (bk : Bk) (f clk o : Nat) : Nat → Nat → Option (Nat × Nat) → Option (Nat × Nat)
  | 0, _, x => x
  | n + 1, c, x => wy1 bk f clk o n (c + 1) (if bk 25 c = f then kp (btC bk c clk o) c x else x)
/-- the way from f to o: when it comes, the coach that it begins with -/
noncomputable def wyS (bk : Bk) (f clk o : Nat) : Option (Nat × Nat) := if o = f then none else wy1 bk f clk o (bk 0 3) 0 none
def wT (x : Option (Nat × Nat)) : Nat := match x with
  | some (t, _) => t
  | none => 2147483647
def wC (x : Option (Nat × Nat)) : Int32 := match x with
  | some (_, c) => nI c
  | none => -1
def CV (h : AH) (V : Nat → Option (Nat × Nat)) : Prop := ∀ o, o < 16 → gA h 168 o = nI (wT (V o)) ∧ gA h 169 o = wC (V o)
def bdV (M : Nat) (V : Nat → Option (Nat × Nat)) : Prop := ∀ o t c, V o = some (t, c) → t ≤ M
theorem kp_bd {M c : Nat} {b : Option Nat} {x : Option (Nat × Nat)} (hb : ∀ t, b = some t → t ≤ M) (hx : ∀ t c, x = some (t, c) → t ≤ M) : ∀ t c', kp b c x = some (t, c') → t ≤ M := fun t c' e => by
  unfold kp at e
  cases b with
  | none => exact hx t c' e
  | some t1 =>
    cases x with
    | none => cases e; exact hb _ rfl
    | some p =>
      obtain ⟨t2, c2⟩ := p
      dsimp only at e
      split at e
      · cases e; exact hb _ rfl
      · cases e; exact hx _ _ rfl
theorem btC_le {bk : Bk} {c clk o t : Nat} (e : btC bk c clk o = some t) : t ≤ clk + 20160 := (btT_sp e).1
section CW2
variable {d : Nat} {b : Nat} {bk : Bk} {G Cp : Nat → Nat → Nat}
/-- keepEarlier -/
theorem keep_lp {clk c : Nat} (hk : clk < 2 ^ 29) (hc : c < 2 ^ 31) {L : Nat → Option Nat} {B : Nat → Option Nat} (hB : ∀ o, B o = (match L o with
    | some t => if t ≤ clk + 20160 then some t else none
    | none => none)) (bd : bdL (clk + 20160 + 5880) L) : ∀ (m i : Nat) (h : AH) (V : Nat → Option (Nat × Nat)), i + m = 16 → Sh h → gI h 2051 156 = nI clk → CL h L → CV h V → bdV (clk + 20160) V →
    ∃ h', Q d 307 2 [some (.ref 156), some (.int (nI c)), some (.int (nI i))] [] h = some (none, h') ∧ Fr [] [168, 169] h h' ∧ CV h' (fun o => if i ≤ o ∧ o < 16 then kp (B o) c (V o) else V o)
  | 0, i, h, V, e, hs, hclk, HL, HV, bv => ⟨h, by rw [t_307_2 hs, if_neg (nI_nlt (by omega) (by omega))], Fr.rfl, fun o ho => by dsimp only; rw [if_neg (by omega)]; exact HV o ho⟩
  | m + 1, i, h, V, e, hs, hclk, HL, HV, bv => by
    have l1 := lvl_lt (show clk + 20160 + 5880 < 2 ^ 30 by omega) bd i
    have l2 : wT (V i) < 2 ^ 31 := by
      unfold wT
      cases hv : V i with
      | none => decide
      | some p =>
        obtain ⟨t, c1⟩ := p
        have := bv i t c1 hv
        show t < _
        omega
    have g : ∀ x, gd (nI i) 16 x = x := fun x => gd_nI (by omega) (by decide)
    rw [t_307_2 hs, if_pos (nI_lt (by omega) (by decide))]
    simp only [g, ix_nI (show i < 2 ^ 31 by omega), HL i (by omega), (HV i (by omega)).1, hclk, nI_add]
    have ih := keep_lp hk hc hB bd m (i + 1)
    have skip : kp (B i) c (V i) = V i → ∃ h', Q d 307 2 [some (.ref 156), some (.int (nI c)), some (.int (nI (i + 1)))] [] h = some (none, h') ∧ Fr [] [168, 169] h h' ∧ CV h' (fun o => if i ≤ o ∧ o < 16 then kp (B o) c (V o) else V o) := fun q => by
      obtain ⟨h', a1, a2, a3⟩ := ih h V (by omega) hs hclk HL HV bv
      refine ⟨h', a1, a2, fun o ho => ?_⟩
      have := a3 o ho
      dsimp only at this ⊢
      by_cases q1 : o = i
      · rw [q1] at this ⊢
        rw [if_neg (by omega)] at this
        rw [if_pos (by omega), q]; exact this
      · by_cases q2 : i + 1 ≤ o ∧ o < 16
        · rw [if_pos q2] at this
          rw [if_pos (by omega)]; exact this
        · rw [if_neg q2] at this
          rw [if_neg (by omega)]; exact this
    by_cases e1 : lv (L i) < wT (V i)
    · rw [if_pos (nI_lt e1 l2)]
      by_cases e2 : clk + 20160 < lv (L i)
      · rw [if_pos (nI_lt e2 l1)]
        refine skip ?_
        have : B i = none := by
          rw [hB]
          cases hL : L i with
          | none => rfl
          | some t =>
            rw [hL] at e2
            exact if_neg (show ¬ t ≤ clk + 20160 from by have : clk + 20160 < t := e2; omega)
        rw [this]; rfl
      · rw [if_neg (nI_nlt (by omega) (by omega))]
        cases hL : L i with
        | none => rw [hL] at e2; exact absurd (show clk + 20160 < 2147483647 by omega) e2
        | some t =>
          rw [hL] at e1 e2
          have e3 : t ≤ clk + 20160 := by have : ¬ clk + 20160 < t := e2; omega
          have hBi : B i = some t := by rw [hB, hL]; exact if_pos e3
          have hkp : kp (B i) c (V i) = some (t, c) := by
            rw [hBi]
            cases hv : V i with
            | none => rfl
            | some p =>
              obtain ⟨t', c'⟩ := p
              rw [hv] at e1
              exact if_pos (show t < t' from e1)
          have f1 : Fr [] [168, 169] h (sA (sA h 168 i (nI (lv (some t)))) 169 i (nI c)) := (Fr.rfl.sA (by decide)).sA (by decide)
          have V' : CV (sA (sA h 168 i (nI (lv (some t)))) 169 i (nI c)) (up1 V i (some (t, c))) := fun o ho => by
            show up2 (gA h) 168 i (nI t) 168 o = _ ∧ up2 (gA h) 169 i (nI c) 169 o = _
            by_cases q : o = i
            · rw [q, up2_s, up2_s, up1_s]; exact ⟨rfl, rfl⟩
            · rw [up2_x q, up2_x q, up1_x q]; exact HV o ho
          obtain ⟨h', a1, a2, a3⟩ := ih (sA (sA h 168 i (nI (lv (some t)))) 169 i (nI c)) (up1 V i (some (t, c))) (by omega) hs.sA.sA hclk HL V' (fun o t1 c1 q => by
            by_cases q1 : o = i
            · rw [q1, up1_s] at q; cases q; exact e3
            · rw [up1_x q1] at q; exact bv o t1 c1 q)
          refine ⟨h', a1, f1.trans a2, fun o ho => ?_⟩
          have := a3 o ho
          dsimp only at this ⊢
          by_cases q1 : o = i
          · rw [q1] at this ⊢
            rw [if_neg (by omega), up1_s] at this
            rw [if_pos (by omega), hkp]; exact this
          · rw [up1_x q1] at this
            by_cases q2 : i + 1 ≤ o ∧ o < 16
            · rw [if_pos q2] at this
              rw [if_pos (by omega)]; exact this
            · rw [if_neg q2] at this
              rw [if_neg (by omega)]; exact this
    · rw [if_neg (nI_nlt (by omega) (by omega))]
      refine skip ?_
      cases hb : B i with
      | none => rfl
      | some t =>
        have hL : L i = some t := by
          rw [hB] at hb
          cases hL : L i with
          | none => rw [hL] at hb; cases hb
          | some t1 =>
            rw [hL] at hb
            dsimp only at hb
            split at hb
            · exact hb
            · cases hb
        have ht := bd i t hL
        rw [hL] at e1
        cases hv : V i with
        | none => rw [hv] at e1; exact absurd (show t < 2147483647 by omega) e1
        | some p =>
          obtain ⟨t', c'⟩ := p
          rw [hv] at e1
          exact if_neg (show ¬ t < t' from e1)
/-- workOutWays, the coaches c .. -/
theorem work_c (W : WB bk) {clk f : Nat} (hk : clk < 2 ^ 29) (hf : f < 16) : ∀ (n c : Nat) (h : AH) (V : Nat → Option (Nat × Nat)), c + n = bk 0 3 → Sh h → gR h 2048 156 = some b → CB h b bk G Cp → gI h 2051 156 = nI clk → CV h V → bdV (clk + 20160) V →
    ∃ h', Q (d + 6) 253 52 [some (.ref 156), some (.int (nI f)), some (.int (nI c))] [] h = some (none, h') ∧ Fr [] fxW h h' ∧ ∀ o, o < 16 → (o ≠ f → gA h' 168 o = nI (wT (wy1 bk f clk o n c (V o)))) ∧ gA h' 169 o = wC (if o = f then none else wy1 bk f clk o n c (V o))
  | 0, c, h, V, e, hs, hb, B, hclk, HV, bv => by
    obtain ⟨c6, c7⟩ := B.2.2.1 3 (by decide)
    have w3 := W.1.2.2.2.1
    refine ⟨sA h 169 f (-1), ?_, Fr.rfl.sA (by decide), fun o ho => ⟨fun q => (HV o ho).1, ?_⟩⟩
    · rw [t_253_52 hs, hb, Option.bind_some, ck_ok B.1, c6, Option.bind_some, ck_ok c7.1, al_size hs c7, cK_v, t_253_63 hs, if_neg (nI_nlt (by omega) (by omega)), gd_nI hf (by decide), ix_nI (by omega)]
    · show up2 (gA h) 169 f (-1) 169 o = _
      by_cases q : o = f
      · rw [q, up2_s, if_pos rfl]; rfl
      · rw [up2_x q, if_neg q]; exact (HV o ho).2
  | n + 1, c, h, V, e, hs, hb, B, hclk, HV, bv => by
    have hc : c < bk 0 3 := by omega
    obtain ⟨c6, c7⟩ := B.2.2.1 3 (by decide)
    have w3 := W.1.2.2.2.1
    have w0 := W.1.1
    have q1 := (W.2.2.2.2.2 c hc).1
    obtain ⟨d1, d2, -⟩ := B.2.2.2.2.2.2.2 c hc
    rw [t_253_52 hs, hb, Option.bind_some, ck_ok B.1, c6, Option.bind_some, ck_ok c7.1, al_size hs c7, cK_v, t_253_63 hs, if_pos (nI_lt (by omega) (by omega)), hb, Option.bind_some, ck_ok B.1, c6, Option.bind_some, ck_ok c7.1, al_get hs c7 hc, cK_v, t_253_77 hs, ck_ok d1, ck_ok d1, d2]
    simp only [show (nI (bk 25 c) = nI f) = (bk 25 c = f) from propext (nI_eq (by omega) (by omega))]
    by_cases e1 : bk 25 c = f
    · obtain ⟨h1, L, a1, a2, a3, a4, a5, a6⟩ := ride_ok (d := d + 1) W hk hc hs hb B hclk
      have hs1 := a2.sh hs
      have HV1 : CV h1 V := fun o ho => by rw [a2.A (by decide), a2.A (by decide)]; exact HV o ho
      have hclk1 : gI h1 2051 156 = nI clk := by rw [a2.I (by decide)]; exact hclk
      obtain ⟨h2, b1, b2, b3⟩ := keep_lp (d := d + 5) (c := c) hk (by omega) (B := btC bk c clk) (fun o => btT_set a4 a5) a6 16 0 h1 V (by omega) hs1 hclk1 a3 HV1 bv
      have hs2 := b2.sh hs1
      have f2 : Fr [] fxW h h2 := (a2.wk (by decide) (by decide)).trans (b2.wk (by decide) (by decide))
      obtain ⟨h3, x1, x2, x3⟩ := work_c W hk hf n (c + 1) h2 (fun o => if 0 ≤ o ∧ o < 16 then kp (btC bk c clk o) c (V o) else V o) (by omega) hs2 (by rw [f2.2.2.2.1]; exact hb) (B.w (f2.wk (by decide) (by decide))) (by rw [f2.I (by decide)]; exact hclk) b3 (fun o t c1 q => by
        dsimp only at q
        by_cases q1 : 0 ≤ o ∧ o < 16
        · rw [if_pos q1] at q
          exact kp_bd (fun t w => btC_le w) (fun t c w => bv o t c w) t c1 q
        · rw [if_neg q1] at q; exact bv o t c1 q)
      refine ⟨h3, ?_, f2.trans x2, fun o ho => ?_⟩
      · rw [if_pos e1, hb, Option.bind_some, ck_ok B.1, c6, Option.bind_some, ck_ok c7.1, al_get hs c7 hc, cK_v, t_253_99 hs, ck_ok d1, ck_ok (show gC h 156 = 8 from ShC hs (by decide)), a1, cK_n, t_253_105 hs1, t_307 hs1, b1, cK_n, t_253_110 hs2, nI_add]
        exact x1
      · have := x3 o ho
        rw [if_pos (show 0 ≤ o ∧ o < 16 by omega)] at this
        unfold wy1
        rw [if_pos e1]; exact this
    · obtain ⟨h3, x1, x2, x3⟩ := work_c W hk hf n (c + 1) h V (by omega) hs hb B hclk HV bv
      refine ⟨h3, ?_, x2, fun o ho => ?_⟩
      · rw [if_neg e1, t_253_110 hs, nI_add]; exact x1
      · have := x3 o ho
        unfold wy1
        rw [if_neg e1]; exact this
/-- the component's ways: kept for an office and a minute -/
def CY (h : AH) (bk : Bk) : Prop := gI h 2059 156 = -1 ∨ ∃ f t, f < bk 0 0 ∧ t < 2 ^ 29 ∧ gI h 2059 156 = nI f ∧ gI h 2060 156 = nI t ∧ ∀ o, o < 16 → (o ≠ f → gA h 168 o = nI (wT (wyS bk f t o))) ∧ gA h 169 o = wC (wyS bk f t o)
theorem c_ways (W : WB bk) {clk f : Nat} (hk : clk < 2 ^ 29) (hf : f < bk 0 0) {h : AH} (hs : Sh h) (hb : gR h 2048 156 = some b) (B : CB h b bk G Cp) (hclk : gI h 2051 156 = nI clk) (Y : CY h bk) :
    ∃ h', E (d + 7) 253 [.ref 156, .int (nI f)] h = some (none, h') ∧ Fr frW fxW h h' ∧ CY h' bk ∧ ∀ o, o < 16 → (o ≠ f → gA h' 168 o = nI (wT (wyS bk f clk o))) ∧ gA h' 169 o = wC (wyS bk f clk o) := by
  have w0 := W.1.1
  have go : ∃ h', cK (E (d + 6) 241 [.ref 168, .int (nI 2147483647)] (sI (sI h 2059 156 (nI f)) 2060 156 (gI h 2051 156))) (Q (d + 6) 253 42 [some (.ref 156), some (.int (nI f)), none]) [] = some (none, h') ∧ Fr frW fxW h h' ∧ CY h' bk ∧ ∀ o, o < 16 → (o ≠ f → gA h' 168 o = nI (wT (wyS bk f clk o))) ∧ gA h' 169 o = wC (wyS bk f clk o) := by
    rw [hclk]
    have f0 : Fr frW fxW h (sI (sI h 2059 156 (nI f)) 2060 156 (nI clk)) := (Fr.rfl.sI (by decide)).sI (by decide)
    obtain ⟨h1, a1, a2, a3⟩ := fill_ok (d := d + 5) (v := nI 2147483647) (hs.sI.sI (k := 2060) (x := 156) (v := nI clk) : Sh (sI (sI h 2059 156 (nI f)) 2060 156 (nI clk))) (n := 16) (by decide) (show 100 ≤ 168 by decide) (ShC hs (by decide)) (ShK hs (by decide))
    have hs1 := a2.sh hs.sI.sI
    obtain ⟨h2, b1, b2, b3⟩ := fill_ok (d := d + 5) (v := -1) hs1 (n := 16) (by decide) (show 100 ≤ 169 by decide) (ShC hs1 (by decide)) (ShK hs1 (by decide))
    have hs2 := b2.sh hs1
    have f2 : Fr frW fxW h h2 := (f0.trans (a2.wk (by decide) (by decide))).trans (b2.wk (by decide) (by decide))
    obtain ⟨h3, x1, x2, x3⟩ := work_c (d := d) (f := f) W hk (by omega) (bk 0 3) 0 h2 (fun _ => none) (by omega) hs2 (by rw [f2.2.2.2.1]; exact hb) (B.w f2) (by rw [f2.I (by decide)]; exact hclk) (fun o ho => ⟨by rw [b2.A (by decide), a3 o ho]; rfl, by rw [b3 o ho]; rfl⟩) (fun o t c q => by cases q)
    have fin : ∀ o, o < 16 → (o ≠ f → gA h3 168 o = nI (wT (wyS bk f clk o))) ∧ gA h3 169 o = wC (wyS bk f clk o) := fun o ho => by
      obtain ⟨p1, p2⟩ := x3 o ho
      unfold wyS
      exact ⟨fun q => by rw [if_neg q]; exact p1 q, p2⟩
    have y1 : gI h3 2059 156 = nI f := by rw [x2.I (by decide), b2.I (by decide), a2.I (by decide)]; rfl
    have y2 : gI h3 2060 156 = nI clk := by rw [x2.I (by decide), b2.I (by decide), a2.I (by decide)]; rfl
    refine ⟨h3, ?_, f2.trans (x2.wk (by decide) (by decide)), Or.inr ⟨f, clk, hf, hk, y1, y2, fin⟩, fin⟩
    rw [a1, cK_n, t_253_42 hs1, b1, cK_n, t_253_50 hs2]
    exact x1
  rw [t_253 hs]
  by_cases e1 : gI h 2059 156 = nI f
  · rw [if_pos e1]
    by_cases e2 : gI h 2060 156 = gI h 2051 156
    · rw [if_pos e2]
      refine ⟨h, rfl, Fr.rfl, Y, ?_⟩
      rcases Y with y | ⟨f', t', y1, y2, y3, y4, y5⟩
      · rw [y] at e1
        exact absurd e1.symm (by
          have : ∀ j, j < 16 → ¬ nI j = -1 := by decide
          exact this f (by omega))
      · rw [y3] at e1
        rw [y4, hclk] at e2
        have q1 : f' = f := (nI_eq (by omega) (by omega)).mp e1
        have q2 : t' = clk := (nI_eq (by omega) (by omega)).mp e2
        subst q1; subst q2
        exact y5
    · rw [if_neg e2]; exact go
  · rw [if_neg e1]; exact go
end CW2
