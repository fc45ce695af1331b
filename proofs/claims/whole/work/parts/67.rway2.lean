/-! ===== WAYS: the reference, all first coaches ===== -/
def wR (clk : Nat) (x : Option (Nat × Nat)) : Nat := match x with
  | some (t, _) => t
  | none => clk + 20161
def RV (h : AH) (clk n : Nat) (V : Nat → Option (Nat × Nat)) : Prop := ∀ o, o < n → gA h 263 o = nI (wR clk (V o)) ∧ gA h 262 o = wC (V o)
section RW2
variable {d : Nat} {bk : Bk} {v : Nat}
/-- the offices behind a first coach c -/
theorem fw_o (W : WB bk) {clk c f : Nat} (hk : clk < 2 ^ 29) (hv : v ≤ 1) (hf : f < bk 0 0) (hc : c < 2 ^ 31) {L : Nat → Option Nat} {B : Nat → Option Nat} (hB : ∀ o, B o = (match L o with
    | some t => if t ≤ clk + 20160 then some t else none
    | none => none)) (bd : bdR clk L) : ∀ (m i : Nat) (h : AH) (V : Nat → Option (Nat × Nat)), i + m = bk 0 0 → Sh h → gI h 3597 189 = nI v → RB h v bk → RL h L → RV h clk (bk 0 0) V → bdV (clk + 20160) V →
    ∃ h', Q d 107 111 [some (.ref 189), some (.int (nI f)), some (.int (nI c)), some (.int (nI i))] [] h = Q d 107 70 [some (.ref 189), some (.int (nI f)), some (.int (nI (c + 1))), none] [] h' ∧ Fr [] [262, 263] h h' ∧ RV h' clk (bk 0 0) (fun o => if i ≤ o ∧ o ≠ f then kp (B o) c (V o) else V o)
  | 0, i, h, V, e, hs, hN, RBh, HL, HV, bv => by
    have w0 := W.1.1
    refine ⟨h, ?_, Fr.rfl, fun o ho => by dsimp only; rw [if_neg (by omega)]; exact HV o ho⟩
    rw [t_107_111 hs, hN, gd_nI (by omega) (by decide), ix_nI (by omega), RBh.1.1, if_neg (nI_nlt (by omega) (by omega)), nI_add]
  | m + 1, i, h, V, e, hs, hN, RBh, HL, HV, bv => by
    have w0 := W.1.1
    obtain ⟨l1, l4⟩ := lr_lt hk bd i
    have l2 : wR clk (V i) < 2 ^ 31 := by
      unfold wR
      cases hv : V i with
      | none => show clk + 20161 < _; omega
      | some p =>
        obtain ⟨t, c1⟩ := p
        have := bv i t c1 hv
        show t < _
        omega
    have g : ∀ x, gd (nI i) 16 x = x := fun x => gd_nI (by omega) (by decide)
    rw [t_107_111 hs, hN, gd_nI (by omega) (by decide), ix_nI (by omega), RBh.1.1, if_pos (nI_lt (by omega) (by omega))]
    simp only [g, ix_nI (show i < 2 ^ 31 by omega), HL i (by omega), (HV i (by omega)).1, nI_add, show (nI i = nI f) = (i = f) from propext (nI_eq (by omega) (by omega))]
    have ih := fw_o W hk hv hf hc hB bd m (i + 1)
    have skip : (i ≠ f → kp (B i) c (V i) = V i) → ∃ h', Q d 107 111 [some (.ref 189), some (.int (nI f)), some (.int (nI c)), some (.int (nI (i + 1)))] [] h = Q d 107 70 [some (.ref 189), some (.int (nI f)), some (.int (nI (c + 1))), none] [] h' ∧ Fr [] [262, 263] h h' ∧ RV h' clk (bk 0 0) (fun o => if i ≤ o ∧ o ≠ f then kp (B o) c (V o) else V o) := fun q => by
      obtain ⟨h', a1, a2, a3⟩ := ih h V (by omega) hs hN RBh HL HV bv
      refine ⟨h', a1, a2, fun o ho => ?_⟩
      have := a3 o ho
      dsimp only at this ⊢
      by_cases q1 : o = i
      · rw [q1] at this ⊢
        rw [if_neg (by omega)] at this
        by_cases q3 : i = f
        · rw [if_neg (by omega)]; exact this
        · rw [if_pos (by omega), q q3]; exact this
      · by_cases q2 : i + 1 ≤ o ∧ o ≠ f
        · rw [if_pos q2] at this
          rw [if_pos (by omega)]; exact this
        · rw [if_neg q2] at this
          rw [if_neg (by omega)]; exact this
    by_cases e0 : i = f
    · rw [if_pos e0]
      exact skip fun q => absurd e0 q
    · rw [if_neg e0]
      by_cases e1 : lr (L i) < wR clk (V i)
      · rw [if_pos (nI_lt e1 l2)]
        have hle : wR clk (V i) ≤ clk + 20161 := by
          unfold wR
          cases hv : V i with
          | none => exact Nat.le_refl _
          | some p =>
            obtain ⟨t, c1⟩ := p
            have := bv i t c1 hv
            show t ≤ _
            omega
        cases hL : L i with
        | none => rw [hL] at e1; exact absurd (show 2000000000 < wR clk (V i) from e1) (by omega)
        | some t =>
          rw [hL] at e1
          have e3 : t ≤ clk + 20160 := by have : t < wR clk (V i) := e1; omega
          have hBi : B i = some t := by rw [hB, hL]; exact if_pos e3
          have hkp : kp (B i) c (V i) = some (t, c) := by
            rw [hBi]
            cases hv : V i with
            | none => rfl
            | some p =>
              obtain ⟨t', c'⟩ := p
              rw [hv] at e1
              exact if_pos (show t < t' from e1)
          have f1 : Fr [] [262, 263] h (sA (sA h 263 i (nI (lr (some t)))) 262 i (nI c)) := (Fr.rfl.sA (by decide)).sA (by decide)
          have V' : RV (sA (sA h 263 i (nI (lr (some t)))) 262 i (nI c)) clk (bk 0 0) (up1 V i (some (t, c))) := fun o ho => by
            show up2 (gA h) 263 i (nI t) 263 o = _ ∧ up2 (gA h) 262 i (nI c) 262 o = _
            by_cases q : o = i
            · rw [q, up2_s, up2_s, up1_s]; exact ⟨rfl, rfl⟩
            · rw [up2_x q, up2_x q, up1_x q]; exact HV o ho
          obtain ⟨h', a1, a2, a3⟩ := ih (sA (sA h 263 i (nI (lr (some t)))) 262 i (nI c)) (up1 V i (some (t, c))) (by omega) hs.sA.sA hN (RBh.fr f1 (by decide)) HL V' (fun o t1 c1 q => by
            by_cases q1 : o = i
            · rw [q1, up1_s] at q; cases q; exact e3
            · rw [up1_x q1] at q; exact bv o t1 c1 q)
          refine ⟨h', a1, f1.trans a2, fun o ho => ?_⟩
          have := a3 o ho
          dsimp only at this ⊢
          by_cases q1 : o = i
          · rw [q1] at this ⊢
            rw [if_neg (by omega), up1_s] at this
            rw [if_pos (by omega), hkp]; exact this
          · rw [up1_x q1] at this
            by_cases q2 : i + 1 ≤ o ∧ o ≠ f
            · rw [if_pos q2] at this
              rw [if_pos (by omega)]; exact this
            · rw [if_neg q2] at this
              rw [if_neg (by omega)]; exact this
      · rw [if_neg (nI_nlt (by omega) (by omega))]
        refine skip fun _ => ?_
        cases hb : B i with
        | none => rfl
        | some t =>
          have hL : L i = some t ∧ t ≤ clk + 20160 := by
            rw [hB] at hb
            cases hL : L i with
            | none => rw [hL] at hb; cases hb
            | some t1 =>
              rw [hL] at hb
              dsimp only at hb
              split at hb
              · cases hb; exact ⟨rfl, by assumption⟩
              · cases hb
          rw [hL.1] at e1
          cases hv : V i with
          | none => rw [hv] at e1; exact absurd (show t < clk + 20161 by omega) e1
          | some p =>
            obtain ⟨t', c'⟩ := p
            rw [hv] at e1
            exact if_neg (show ¬ t < t' from e1)
/-- the coaches c .. -/
theorem fw_c (W : WB bk) {clk f : Nat} (hk : clk < 2 ^ 29) (hv : v ≤ 1) (hf : f < bk 0 0) : ∀ (n c : Nat) (h : AH) (V : Nat → Option (Nat × Nat)), c + n = bk 0 3 → Sh h → gI h 3597 189 = nI v → RB h v bk → gI h 3677 189 = nI clk → RV h clk (bk 0 0) V → bdV (clk + 20160) V → V f = none →
    ∃ h', Q (d + 2) 107 70 [some (.ref 189), some (.int (nI f)), some (.int (nI c)), none] [] h = some (none, h') ∧ Fr [] [262, 263, 264] h h' ∧ RV h' clk (bk 0 0) (fun o => if o = f then none else wy1 bk f clk o n c (V o))
  | 0, c, h, V, e, hs, hN, B, hclk, HV, bv, hVf => by
    have w3 := W.1.2.2.2.1
    refine ⟨h, ?_, Fr.rfl, fun o ho => ?_⟩
    · rw [t_107_70 hs, hN, gd_nI (by omega) (by decide), ix_nI (by omega), B.1.2.2.2.1, if_neg (nI_nlt (by omega) (by omega))]
    · dsimp only
      by_cases q : o = f
      · rw [if_pos q, q]
        have := HV f hf
        rw [hVf] at this; exact this
      · rw [if_neg q]; exact HV o ho
  | n + 1, c, h, V, e, hs, hN, B, hclk, HV, bv, hVf => by
    have hc : c < bk 0 3 := by omega
    have w3 := W.1.2.2.2.1
    have w0 := W.1.1
    have q1 := (W.2.2.2.2.2 c hc).1
    have d1 := (B.2.2.2.2.2 c hc).1
    rw [t_107_70 hs, hN, gd_nI (by omega) (by decide), ix_nI (by omega), B.1.2.2.2.1, if_pos (nI_lt (by omega) (by omega)), pk_mul, nI_add, gd_nI (by omega) (by decide), ix_nI (by omega), d1]
    simp only [show (nI (bk 25 c) = nI f) = (bk 25 c = f) from propext (nI_eq (by omega) (by omega))]
    by_cases e1 : bk 25 c = f
    · obtain ⟨h1, L, a1, a2, a3, a4, a5, a6⟩ := goon_ok (d := d) W hk hv hc hs hN B hclk
      have hs1 := a2.sh hs
      have HV1 : RV h1 clk (bk 0 0) V := fun o ho => by rw [a2.A (by decide), a2.A (by decide)]; exact HV o ho
      have hN1 : gI h1 3597 189 = nI v := by rw [a2.I (by decide)]; exact hN
      have B1 : RB h1 v bk := B.fr a2 (by decide)
      obtain ⟨h2, b1, b2, b3⟩ := fw_o (d := d + 2) (c := c) W hk hv hf (by omega) (B := btC bk c clk) (fun o => btT_set a4 ((a5.lo (T' := clk + 20160) (by omega)).set W)) a6 (bk 0 0) 0 h1 V (by omega) hs1 hN1 B1 a3 HV1 bv
      have hs2 := b2.sh hs1
      have f2 : Fr [] [262, 263, 264] h h2 := (a2.wk (by decide) (by decide)).trans (b2.wk (by decide) (by decide))
      obtain ⟨h3, x1, x2, x3⟩ := fw_c W hk hv hf n (c + 1) h2 (fun o => if 0 ≤ o ∧ o ≠ f then kp (btC bk c clk o) c (V o) else V o) (by omega) hs2 (by rw [f2.I (by decide)]; exact hN) (B.fr f2 (by decide)) (by rw [f2.I (by decide)]; exact hclk) b3 (fun o t c1 q => by
        dsimp only at q
        by_cases q1 : 0 ≤ o ∧ o ≠ f
        · rw [if_pos q1] at q
          exact kp_bd (fun t w => btC_le w) (fun t c w => bv o t c w) t c1 q
        · rw [if_neg q1] at q; exact bv o t c1 q) (by rw [if_neg (by omega)]; exact hVf)
      refine ⟨h3, ?_, f2.trans x2, fun o ho => ?_⟩
      · rw [if_pos e1, a1, cK_n, t_107_109 hs1, b1]
        exact x1
      · have := x3 o ho
        dsimp only at this ⊢
        by_cases q : o = f
        · rw [if_pos q] at this ⊢; exact this
        · rw [if_neg q, if_pos (show 0 ≤ o ∧ o ≠ f by omega)] at this
          rw [if_neg q]
          unfold wy1
          rw [if_pos e1]; exact this
    · obtain ⟨h3, x1, x2, x3⟩ := fw_c W hk hv hf n (c + 1) h V (by omega) hs hN B hclk HV bv hVf
      refine ⟨h3, ?_, x2, fun o ho => ?_⟩
      · rw [if_neg e1, nI_add]; exact x1
      · have := x3 o ho
        dsimp only at this ⊢
        unfold wy1
        rw [if_neg e1]; exact this
theorem fw_i {clk f : Nat} : ∀ (m i : Nat) (h : AH), i + m = 16 → Sh h → gI h 3677 189 = nI clk → (∀ j, j < i → gA h 263 j = nI (clk + 20161) ∧ gA h 262 j = -1) →
    ∃ h', Q d 107 35 [some (.ref 189), some (.int (nI f)), some (.int (nI i)), none] [] h = Q d 107 70 [some (.ref 189), some (.int (nI f)), some (.int (nI 0)), none] [] h' ∧ Fr [] [262, 263] h h' ∧ ∀ j, j < 16 → gA h' 263 j = nI (clk + 20161) ∧ gA h' 262 j = -1
  | 0, i, h, e, hs, hclk, H => ⟨h, by rw [t_107_35 hs, if_neg (nI_nlt (by omega) (by omega))], Fr.rfl, fun j hj => H j (by omega)⟩
  | m + 1, i, h, e, hs, hclk, H => by
    rw [t_107_35 hs, if_pos (nI_lt (by omega) (by decide)), gd_nI (by omega) (by decide), gd_nI (by omega) (by decide), hclk, nI_add, nI_add, ix_nI (by omega)]
    obtain ⟨h', a1, a2, a3⟩ := fw_i m (i + 1) (sA (sA h 262 i (-1)) 263 i (nI (clk + 20161))) (by omega) hs.sA.sA hclk (fun j hj => by
      show up2 (gA h) 263 i _ 263 j = _ ∧ up2 (gA h) 262 i _ 262 j = _
      by_cases q : j = i
      · rw [q, up2_s, up2_s]; exact ⟨rfl, rfl⟩
      · rw [up2_x q, up2_x q]; exact H j (by omega))
    exact ⟨h', a1, ((Fr.rfl.sA (by decide)).sA (by decide)).trans a2, a3⟩
/-- the reference's ways: kept for an office and a minute -/
def RY (h : AH) (bk : Bk) : Prop := gI h 3679 189 = -1 ∨ ∃ f t, f < bk 0 0 ∧ t < 2 ^ 29 ∧ gI h 3679 189 = nI f ∧ gI h 3680 189 = nI t ∧ RV h t (bk 0 0) (wyS bk f t)
theorem r_ways (W : WB bk) {clk f : Nat} (hk : clk < 2 ^ 29) (hv : v ≤ 1) (hf : f < bk 0 0) {h : AH} (hs : Sh h) (hN : gI h 3597 189 = nI v) (B : RB h v bk) (hclk : gI h 3677 189 = nI clk) (Y : RY h bk) :
    ∃ h', E (d + 3) 107 [.ref 189, .int (nI f)] h = some (none, h') ∧ Fr [3679, 3680] [262, 263, 264] h h' ∧ RY h' bk ∧ RV h' clk (bk 0 0) (wyS bk f clk) := by
  have w0 := W.1.1
  have go : ∃ h', Q (d + 2) 107 35 [some (.ref 189), some (.int (nI f)), some (.int (nI 0)), none] [] (sI (sI h 3679 189 (nI f)) 3680 189 (gI h 3677 189)) = some (none, h') ∧ Fr [3679, 3680] [262, 263, 264] h h' ∧ RY h' bk ∧ RV h' clk (bk 0 0) (wyS bk f clk) := by
    rw [hclk]
    have f0 : Fr [3679, 3680] [262, 263, 264] h (sI (sI h 3679 189 (nI f)) 3680 189 (nI clk)) := (Fr.rfl.sI (by decide)).sI (by decide)
    obtain ⟨h1, a1, a2, a3⟩ := fw_i (d := d + 2) (clk := clk) (f := f) 16 0 (sI (sI h 3679 189 (nI f)) 3680 189 (nI clk)) (by omega) hs.sI.sI hclk (fun j hj => by omega)
    have hs1 := a2.sh hs.sI.sI
    have f1 : Fr [3679, 3680] [262, 263, 264] h h1 := f0.trans (a2.wk (by decide) (by decide))
    obtain ⟨h2, x1, x2, x3⟩ := fw_c (d := d) (f := f) W hk hv hf (bk 0 3) 0 h1 (fun _ => none) (by omega) hs1 (by rw [f1.I (by decide)]; exact hN) (B.fr f1 (by decide)) (by rw [f1.I (by decide)]; exact hclk) (fun o ho => a3 o (by omega)) (fun o t c q => by cases q) rfl
    have y1 : gI h2 3679 189 = nI f := by rw [x2.I (by decide), a2.I (by decide)]; rfl
    have y2 : gI h2 3680 189 = nI clk := by rw [x2.I (by decide), a2.I (by decide)]; rfl
    exact ⟨h2, a1.trans x1, f1.trans (x2.wk (by decide) (by decide)), Or.inr ⟨f, clk, hf, hk, y1, y2, x3⟩, x3⟩
  rw [t_107 hs]
  by_cases e1 : gI h 3679 189 = nI f
  · rw [if_pos e1]
    by_cases e2 : gI h 3680 189 = gI h 3677 189
    · rw [if_pos e2]
      refine ⟨h, rfl, Fr.rfl, Y, ?_⟩
      rcases Y with y | ⟨f', t', y1, y2, y3, y4, y5⟩
      · rw [y] at e1
        exact absurd e1.symm (by
          have : ∀ j, j < 16 → ¬ nI j = -1 := by decide
          exact this f (by omega))
      · rw [y3] at e1
        rw [y4, hclk] at e2
        have q1 : f' = f := (nI_eq (by omega) (by omega)).mp e1
        have q2 : t' = clk := (nI_eq (by omega) (by omega)).mp e2
        subst q1; subst q2
        exact y5
    · rw [if_neg e2]; exact go
  · rw [if_neg e1]; exact go
end RW2
