/-! ===== WAYS, AS THE COMPONENT REACHES THEM ===== -/
/-- Arrays.fill of an int array -/
theorem fill_lp {d x n : Nat} {v : Int32} (hn : n < 2 ^ 31) (hx : 100 ≤ x) : ∀ (m i : Nat) (h : AH), i + m = n → Sh h → gC h x = 60 → gK h x = n → ∃ h', Q d 241 5 [some (.ref x), some (.int v), some (.int (nI i)), some (.int (nI n))] [] h = some (none, h') ∧ Fr [] [x] h h' ∧ (∀ j, i ≤ j → j < n → gA h' x j = v) ∧ ∀ j, j < i → gA h' x j = gA h x j
  | 0, i, h, e, hs, hc, hk => ⟨h, by rw [t_241_5 hs, if_neg (nI_nlt (by omega) (by omega))], Fr.rfl, fun j h1 h2 => by omega, fun _ _ => rfl⟩
  | m + 1, i, h, e, hs, hc, hk => by
    rw [t_241_5 hs, if_pos (nI_lt (by omega) (by omega)), cw_ok hc hx, hk, gd_nI (by omega) (by omega), nI_add, ix_nI (by omega)]
    obtain ⟨h', a1, a2, a3, a4⟩ := fill_lp hn hx m (i + 1) (sA h x i v) (by omega) hs.sA hc hk
    refine ⟨h', a1, (Fr.rfl.sA (List.mem_singleton.mpr rfl)).trans a2, fun j h1 h2 => ?_, fun j hj => ?_⟩
    · by_cases q : j = i
      · rw [q, a4 i (by omega)]; exact up2_s
      · exact a3 j (by omega) h2
    · rw [a4 j (by omega)]; exact up2_x (by omega)
theorem fill_ok {d x n : Nat} {v : Int32} {h : AH} (hs : Sh h) (hn : n < 2 ^ 31) (hx : 100 ≤ x) (hc : gC h x = 60) (hk : gK h x = n) : ∃ h', E (d + 1) 241 [.ref x, .int v] h = some (none, h') ∧ Fr [] [x] h h' ∧ ∀ j, j < n → gA h' x j = v := by
  obtain ⟨h', a1, a2, a3, -⟩ := fill_lp (d := d) (v := v) hn hx n 0 h (by omega) hs hc hk
  exact ⟨h', by rw [t_241 hs, if_pos (by rw [hc]; decide), hk]; exact a1, a2, fun j hj => a3 j (by omega) hj⟩
theorem ShC {h : AH} (hs : Sh h) {x : Nat} (hx : inS x = true) : gC h x = cS x := by
  have := congrFun hs.c x
  unfold cX at this
  rw [hx] at this
  exact this.symm
theorem ShK {h : AH} (hs : Sh h) {x : Nat} (hx : (inS x && !(Nat.beq x 63 || Nat.beq x 64)) = true) : gK h x = kS x := by
  have := congrFun hs.k x
  unfold kX at this
  rw [hx] at this
  exact this.symm
/-- a label as a number -/
def lv (x : Option Nat) : Nat := x.getD 2147483647
def CL (h : AH) (L : Nat → Option Nat) : Prop := ∀ o, o < 16 → gA h 170 o = nI (lv (L o))
def bdL (M : Nat) (L : Nat → Option Nat) : Prop := ∀ o t, L o = some t → t ≤ M
theorem lvl_lt {L : Nat → Option Nat} {M : Nat} (hM : M < 2 ^ 30) (b : bdL M L) (o : Nat) : lv (L o) < 2 ^ 31 := by
  unfold lv
  cases h : L o with
  | none => decide
  | some t => have := b o t h; show t < _; omega
theorem rlx_no {bk : Bk} {T c : Nat} {L : Nat → Option Nat} (hT : T < 2 ^ 30) (h : T < lv (L (bk 25 c))) : rlx bk T c L = L := by
  unfold rlx
  cases h1 : L (bk 25 c) with
  | none => rfl
  | some t =>
    rw [h1] at h
    exact if_neg (show ¬ t ≤ T from by have : T < t := h; omega)
theorem rlx_yes {bk : Bk} {T c t : Nat} {L : Nat → Option Nat} (h1 : L (bk 25 c) = some t) (hT : t ≤ T) (hb : tbC bk c t + bk 30 c < 2147483647) : (∀ o, lv (rlx bk T c L o) = if o = bk 26 c then min (lv (L (bk 26 c))) (tbC bk c t + bk 30 c) else lv (L o)) ∧ (¬ tbC bk c t + bk 30 c < lv (L (bk 26 c)) → rlx bk T c L = L) := by
  unfold rlx
  rw [h1]
  dsimp only
  rw [if_pos hT]
  cases h2 : L (bk 26 c) with
  | none =>
    refine ⟨fun o => ?_, fun q => absurd hb q⟩
    dsimp only
    by_cases ho : o = bk 26 c
    · rw [if_pos ho, ho, up1_s]
      show tbC bk c t + bk 30 c = min 2147483647 _
      omega
    · rw [if_neg ho, up1_x ho]
  | some t' =>
    dsimp only
    by_cases h3 : tbC bk c t + bk 30 c < t'
    · rw [if_pos h3]
      refine ⟨fun o => ?_, fun q => absurd h3 q⟩
      by_cases ho : o = bk 26 c
      · rw [if_pos ho, ho, up1_s]
        show tbC bk c t + bk 30 c = min t' _
        omega
      · rw [if_neg ho, up1_x ho]
    · rw [if_neg h3]
      refine ⟨fun o => ?_, fun _ => rfl⟩
      by_cases ho : o = bk 26 c
      · rw [if_pos ho, ho, h2]
        show t' = min t' _
        omega
      · rw [if_neg ho]
theorem rlx_bd {bk : Bk} (W : WB bk) {T c : Nat} {L : Nat → Option Nat} (hc : c < bk 0 3) (b : bdL (T + 5880) L) : bdL (T + 5880) (rlx bk T c L) := fun o u hu => by
  have w := W.2.2.2.2.2 c hc
  unfold rlx at hu
  cases h1 : L (bk 25 c) with
  | none => rw [h1] at hu; exact b o u hu
  | some t =>
    have g := tbC_le W (t := t) hc
    rw [h1] at hu
    dsimp only at hu
    by_cases hT : t ≤ T
    · rw [if_pos hT] at hu
      have key : up1 L (bk 26 c) (some (tbC bk c t + bk 30 c)) o = some u → u ≤ T + 5880 := fun q => by
        by_cases ho : o = bk 26 c
        · rw [ho, up1_s] at q; cases q; omega
        · rw [up1_x ho] at q; exact b o u q
      cases h2 : L (bk 26 c) with
      | none => rw [h2] at hu; exact key hu
      | some t' =>
        rw [h2] at hu
        dsimp only at hu
        by_cases h3 : tbC bk c t + bk 30 c < t'
        · rw [if_pos h3] at hu; exact key hu
        · rw [if_neg h3] at hu; exact b o u hu
    · rw [if_neg hT] at hu; exact b o u hu
section CW
variable {d : Nat} {b : Nat} {bk : Bk} {G Cp : Nat → Nat → Nat}
abbrev frW : List Nat := [2059, 2060]
abbrev fxW : List Nat := [168, 169, 170]
theorem CB.w {h h' : AH} (B : CB h b bk G Cp) (f : Fr frW fxW h h') : CB h' b bk G Cp := B.fr f (by decide) (by decide)
/-- the coaches of a round -/
theorem ride_c (W : WB bk) {clk r : Nat} (hk : clk < 2 ^ 29) (hr : r < 16) : ∀ (n c : Nat) (h : AH) (L : Nat → Option Nat) (x : Nat), c + n = bk 0 3 → x ≤ 1 → Sh h → gR h 2048 156 = some b → CB h b bk G Cp → gI h 2051 156 = nI clk → CL h L → bdL (clk + 20160 + 5880) L →
    ∃ h' x', Q (d + 4) 306 50 [some (.ref 156), none, some (.int (nI x)), some (.int (nI r)), some (.int (nI c)), none, none] [] h = Q (d + 4) 306 35 [some (.ref 156), none, some (.int (nI x')), some (.int (nI (r + 1))), none, none, none] [] h' ∧ Fr [] [170] h h' ∧ CL h' (rnd bk (clk + 20160) n c L) ∧ x' ≤ 1 ∧ (x' = 0 → rnd bk (clk + 20160) n c L = L ∧ x = 0)
  | 0, c, h, L, x, e, hx, hs, hb, B, hclk, HL, bd => by
    obtain ⟨c6, c7⟩ := B.2.2.1 3 (by decide)
    have w3 := W.1.2.2.2.1
    refine ⟨h, x, ?_, Fr.rfl, HL, hx, fun q => ⟨rfl, q⟩⟩
    rw [t_306_50 hs, hb, Option.bind_some, ck_ok B.1, c6, Option.bind_some, ck_ok c7.1, al_size hs c7, cK_v, t_306_62 hs, if_neg (nI_nlt (by omega) (by omega)), nI_add]
  | n + 1, c, h, L, x, e, hx, hs, hb, B, hclk, HL, bd => by
    have hc : c < bk 0 3 := by omega
    obtain ⟨c6, c7⟩ := B.2.2.1 3 (by decide)
    have w3 := W.1.2.2.2.1
    have w0 := W.1.1
    obtain ⟨q1, q2, q3, q4, q5, q6, q7, q8, q9, q10⟩ := W.2.2.2.2.2 c hc
    obtain ⟨d1, d2, d3, d4, d5, d6, d7, d8, d9⟩ := B.2.2.2.2.2.2.2 c hc
    have lf := lvl_lt (show clk + 20160 + 5880 < 2 ^ 30 by omega) bd (bk 25 c)
    have lt := lvl_lt (show clk + 20160 + 5880 < 2 ^ 30 by omega) bd (bk 26 c)
    rw [t_306_50 hs, hb, Option.bind_some, ck_ok B.1, c6, Option.bind_some, ck_ok c7.1, al_size hs c7, cK_v, t_306_62 hs, if_pos (nI_lt (by omega) (by omega)), hb, Option.bind_some, ck_ok B.1, c6, Option.bind_some, ck_ok c7.1, al_get hs c7 hc, cK_v,
      t_306_77 hs, ck_ok d1, ck_ok d1, d2, gd_nI (by omega) (by decide), hclk, nI_add, ix_nI (by omega), HL _ (by omega)]
    by_cases hT : clk + 20160 < lv (L (bk 25 c))
    · rw [if_pos (nI_lt hT lf), nI_add]
      have e0 := rlx_no (bk := bk) (c := c) (show clk + 20160 < 2 ^ 30 by omega) hT
      have ih := ride_c W hk hr n (c + 1) h L x (by omega) hx hs hb B hclk HL bd
      unfold rnd
      rw [e0]; exact ih
    · rw [if_neg (nI_nlt (by omega) (by omega))]
      cases hL : L (bk 25 c) with
      | none => rw [hL] at hT; exact absurd (show clk + 20160 < 2147483647 by omega) hT
      | some t =>
        rw [hL] at hT
        have hT2 : t ≤ clk + 20160 := by have : ¬ clk + 20160 < t := hT; omega
        have g := tbC_le W (t := t) hc
        obtain ⟨v1, v2⟩ := rlx_yes (bk := bk) (T := clk + 20160) hL hT2 (by omega)
        rw [show lv (some t) = t from rfl, ck_ok d1, gd_nI (by omega) (by decide), ck_ok d1, c_time hs W B hc (by omega), cK_v, t_306_118 hs, ck_ok d1, ck_ok d1, d3, gd_nI (by omega) (by decide), d7, nI_add, ix_nI (by omega), HL _ (by omega)]
        by_cases hm : tbC bk c t + bk 30 c < lv (L (bk 26 c))
        · rw [if_pos (nI_lt hm lt), ck_ok d1, gd_nI (by omega) (by decide), nI_add]
          have f1 : Fr [] [170] h (sA h 170 (bk 26 c) (nI (tbC bk c t + bk 30 c))) := Fr.rfl.sA (by decide)
          have HL' : CL (sA h 170 (bk 26 c) (nI (tbC bk c t + bk 30 c))) (rlx bk (clk + 20160) c L) := fun o ho => by
            rw [v1 o]
            show up2 (gA h) 170 (bk 26 c) _ 170 o = _
            by_cases q : o = bk 26 c
            · rw [if_pos q, q, up2_s, Nat.min_eq_right (Nat.le_of_lt hm)]
            · rw [if_neg q, up2_x q]; exact HL o ho
          obtain ⟨h', x', a1, a2, a3, a4, a5⟩ := ride_c W hk hr n (c + 1) _ (rlx bk (clk + 20160) c L) 1 (by omega) (by omega) hs.sA hb (B.w (f1.wk (by decide) (by decide))) hclk HL' (rlx_bd W hc bd)
          refine ⟨h', x', a1, f1.trans a2, a3, a4, fun q => ?_⟩
          exact absurd (a5 q).2 (by decide)
        · rw [if_neg (nI_nlt (by omega) (by omega)), nI_add]
          have ih := ride_c W hk hr n (c + 1) h L x (by omega) hx hs hb B hclk HL bd
          unfold rnd
          rw [v2 hm]; exact ih
theorem rnd_bd (W : WB bk) {T : Nat} : ∀ (n c : Nat) (L : Nat → Option Nat), c + n ≤ bk 0 3 → bdL (T + 5880) L → bdL (T + 5880) (rnd bk T n c L)
  | 0, _, _, _, b => b
  | n + 1, c, L, h, b => rnd_bd W n (c + 1) _ (by omega) (rlx_bd W (by omega) b)
/-- the rounds -/
theorem ride_r (W : WB bk) {clk s t0 : Nat} (hk : clk < 2 ^ 29) (hs16 : s < 16) {L0 : Nat → Option Nat} (S0 : LSnd bk s t0 L0) (h0 : ∃ x, L0 s = some x ∧ x ≤ t0) : ∀ (m r : Nat) (h : AH) (x : Nat), r + m = 16 → x ≤ 1 → (x = 0 → LFix bk s t0 (clk + 20160) (itR bk (clk + 20160) r L0)) → Sh h → gR h 2048 156 = some b → CB h b bk G Cp → gI h 2051 156 = nI clk → CL h (itR bk (clk + 20160) r L0) → bdL (clk + 20160 + 5880) (itR bk (clk + 20160) r L0) →
    ∃ h' L', Q (d + 4) 306 35 [some (.ref 156), none, some (.int (nI x)), some (.int (nI r)), none, none, none] [] h = some (none, h') ∧ Fr [] [170] h h' ∧ CL h' L' ∧ LSnd bk s t0 L' ∧ LSet bk s t0 (clk + 20160) L' ∧ bdL (clk + 20160 + 5880) L'
  | 0, r, h, x, e, hx, hx0, hs, hb, B, hclk, HL, bd => by
    refine ⟨h, _, ?_, Fr.rfl, HL, itR_snd _ _ S0, itR_16 W hs16 h0 (by omega), bd⟩
    rw [t_306_35 hs, if_neg (nI_nlt (by omega) (by omega))]
  | m + 1, r, h, x, e, hx, hx0, hs, hb, B, hclk, HL, bd => by
    rw [t_306_35 hs, if_pos (nI_lt (by omega) (by decide))]
    by_cases h1 : x = 0
    · refine ⟨h, _, ?_, Fr.rfl, HL, itR_snd _ _ S0, (hx0 h1).set W, bd⟩
      rw [h1, if_pos rfl]
    · rw [if_neg (show ¬ nI x = nI 0 from nI_ne0 (by omega) (by omega))]
      obtain ⟨h1, x', a1, a2, a3, a4, a5⟩ := ride_c (d := d) W hk (show r < 16 by omega) (bk 0 3) 0 h _ 0 (by omega) (by omega) hs hb B hclk HL bd
      have hb1 : gR h1 2048 156 = some b := by rw [a2.2.2.2.1]; exact hb
      have hclk1 : gI h1 2051 156 = nI clk := by rw [a2.I (by decide)]; exact hclk
      obtain ⟨h2, L', b1, b2, b3⟩ := ride_r W hk hs16 S0 h0 m (r + 1) h1 x' (by omega) a4 (fun q => by
        have e0 := (a5 q).1
        have hS : ∃ x, itR bk (clk + 20160) r L0 s = some x ∧ x ≤ t0 := by
          obtain ⟨x, p1, p2⟩ := h0
          obtain ⟨t, p3, p4⟩ := itR_le (bk := bk) (T := clk + 20160) r L0 s x p1
          exact ⟨t, p3, by omega⟩
        have := rnd_fix W hS e0
        show LFix bk s t0 (clk + 20160) (rnd bk (clk + 20160) (bk 0 3) 0 (itR bk (clk + 20160) r L0))
        rw [e0]; exact this) (a2.sh hs) hb1 (B.w (a2.wk (by decide) (by decide))) hclk1 a3 (rnd_bd W _ _ _ (by omega) bd)
      exact ⟨h2, L', by rw [a1]; exact b1, a2.trans b2, b3⟩
/-- the first coach c0 is taken -/
theorem ride_ok (W : WB bk) {clk c0 : Nat} (hk : clk < 2 ^ 29) (hc : c0 < bk 0 3) {h : AH} (hs : Sh h) (hb : gR h 2048 156 = some b) (B : CB h b bk G Cp) (hclk : gI h 2051 156 = nI clk) :
    ∃ h' L', E (d + 5) 306 [.ref 156, .ref (G 3 c0)] h = some (none, h') ∧ Fr [] [170] h h' ∧ CL h' L' ∧ LSnd bk (bk 26 c0) (tbC bk c0 clk + bk 30 c0) L' ∧ LSet bk (bk 26 c0) (tbC bk c0 clk + bk 30 c0) (clk + 20160) L' ∧ bdL (clk + 20160 + 5880) L' := by
  obtain ⟨q1, q2, q3, q4, q5, q6, q7, q8, q9, q10⟩ := W.2.2.2.2.2 c0 hc
  have w0 := W.1.1
  have g := tbC_le W (t := clk) hc
  obtain ⟨h1, a1, a2, a3⟩ := fill_ok (d := d + 3) (v := nI 2147483647) hs (n := 16) (by decide) (show 100 ≤ 170 by decide) (ShC hs (by decide)) (ShK hs (by decide))
  have hs1 := a2.sh hs
  have B1 : CB h1 b bk G Cp := B.w (a2.wk (by decide) (by decide))
  have hb1 : gR h1 2048 156 = some b := by rw [a2.2.2.2.1]; exact hb
  have hclk1 : gI h1 2051 156 = nI clk := by rw [a2.I (by decide)]; exact hclk
  obtain ⟨d1, d2, d3, d4, d5, d6, d7, d8, d9⟩ := B1.2.2.2.2.2.2.2 c0 hc
  have L0 : CL (sA h1 170 (bk 26 c0) (nI (tbC bk c0 clk + bk 30 c0))) (up1 (fun _ => none) (bk 26 c0) (some (tbC bk c0 clk + bk 30 c0))) := fun o ho => by
    show up2 (gA h1) 170 (bk 26 c0) _ 170 o = _
    by_cases q : o = bk 26 c0
    · rw [q, up2_s, up1_s]; rfl
    · rw [up2_x q, up1_x q, a3 o ho]; rfl
  have f2 : Fr [] [170] h1 (sA h1 170 (bk 26 c0) (nI (tbC bk c0 clk + bk 30 c0))) := Fr.rfl.sA (by decide)
  obtain ⟨h2, L', b1, b2, b3⟩ := ride_r (d := d) (s := bk 26 c0) (t0 := tbC bk c0 clk + bk 30 c0) W hk (by omega) (L0 := up1 (fun _ => none) (bk 26 c0) (some (tbC bk c0 clk + bk 30 c0))) (fun o t ht => by
      by_cases q : o = bk 26 c0
      · rw [q, up1_s] at ht; cases ht; rw [q]; exact ⟨[], rfl⟩
      · rw [up1_x q] at ht; cases ht) ⟨_, up1_s, Nat.le_refl _⟩ 16 0 (sA h1 170 (bk 26 c0) (nI (tbC bk c0 clk + bk 30 c0))) 1 (by omega) (by omega) (fun q => by omega) hs1.sA hb1 (B1.w (f2.wk (by decide) (by decide))) hclk1 L0 (fun o t ht => by
      change up1 (fun _ => none) (bk 26 c0) (some (tbC bk c0 clk + bk 30 c0)) o = some t at ht
      by_cases q : o = bk 26 c0
      · rw [q, up1_s] at ht; cases ht; omega
      · rw [up1_x q] at ht; cases ht)
  refine ⟨h2, L', ?_, (a2.trans f2).trans b2, b3⟩
  rw [t_306 hs, a1, cK_n, t_306_9 hs1, ck_ok d1, ck_ok d1, d3, hclk1, c_time hs1 W B1 hc (by omega), cK_v, t_306_25 hs1, ck_ok d1, cw_ok (show gC h1 170 = 60 from ShC hs1 (by decide)) (by decide), show gK h1 170 = 16 from ShK hs1 (by decide), gd_nI (by omega) (by decide), ix_nI (by omega), d7, nI_add]
  exact b1
end CW
