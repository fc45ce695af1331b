/-! ===== WAYS, AS THE REFERENCE REACHES THEM ===== -/
def lr (x : Option Nat) : Nat := x.getD 2000000000
def RL (h : AH) (L : Nat → Option Nat) : Prop := ∀ o, o < 16 → gA h 264 o = nI (lr (L o))
/-- how many labels there are -/
def ctL (L : Nat → Option Nat) : Nat := cn (fun o => L o ≠ none) 16
def bdR (clk : Nat) (L : Nat → Option Nat) : Prop := ∀ o t, L o = some t → t ≤ clk + 5880 * ctL L
theorem cn_congr (p q : Nat → Prop) [DecidablePred p] [DecidablePred q] : ∀ n, (∀ x, x < n → (p x ↔ q x)) → cn p n = cn q n
  | 0, _ => rfl
  | n + 1, h => by
    unfold cn
    rw [cn_congr p q n fun x hx => h x (by omega)]
    by_cases e : p n
    · rw [if_pos e, if_pos ((h n (by omega)).mp e)]
    · rw [if_neg e, if_neg fun w => e ((h n (by omega)).mpr w)]
theorem cn_new {L : Nat → Option Nat} {x v : Nat} (h : L x = none) : ∀ n, x < n → cn (fun o => up1 L x (some v) o ≠ none) n = cn (fun o => L o ≠ none) n + 1
  | 0, hx => by omega
  | n + 1, hx => by
    unfold cn
    by_cases e : x = n
    · subst e
      rw [cn_congr (fun o => up1 L x (some v) o ≠ none) (fun o => L o ≠ none) x fun y hy => by rw [up1_x (by omega)]]
      rw [if_pos (by rw [up1_s]; exact Option.some_ne_none _), if_neg (by rw [h]; exact fun w => w rfl)]
    · rw [cn_new h n (by omega)]
      have : up1 L x (some v) n = L n := up1_x (by omega)
      simp only [this]
      omega
theorem cn_old {L : Nat → Option Nat} {x v t : Nat} (h : L x = some t) (n : Nat) : cn (fun o => up1 L x (some v) o ≠ none) n = cn (fun o => L o ≠ none) n := cn_congr _ _ n fun y _ => by
  by_cases e : y = x
  · rw [e, up1_s, h]; exact ⟨fun _ => Option.some_ne_none _, fun _ => Option.some_ne_none _⟩
  · rw [up1_x e]
theorem ctL_le (L : Nat → Option Nat) : ctL L ≤ 16 := cn_le _ 16
theorem bdR_lt {clk : Nat} {L : Nat → Option Nat} (b : bdR clk L) {o t : Nat} (h : L o = some t) : t ≤ clk + 94080 := by
  have := b o t h
  have := ctL_le L
  omega
/-- the sum of the labels -/
def smL (L : Nat → Option Nat) : Nat → Nat
  | 0 => 0
  | n + 1 => smL L n + lr (L n)
theorem smL_up {L : Nat → Option Nat} {x v : Nat} (h : v < lr (L x)) : ∀ n, smL (up1 L x (some v)) n ≤ smL L n ∧ (x < n → smL (up1 L x (some v)) n < smL L n)
  | 0 => ⟨Nat.le_refl _, fun q => by omega⟩
  | n + 1 => by
    obtain ⟨a, b⟩ := smL_up h n
    unfold smL
    by_cases e : n = x
    · have e2 : lr (up1 L x (some v) n) = v := by rw [e, up1_s]; rfl
      rw [e2]
      rw [e] at a ⊢
      exact ⟨by omega, fun _ => by omega⟩
    · rw [up1_x e]
      exact ⟨by omega, fun q => by have := b (by omega); omega⟩
theorem rlx_r {bk : Bk} (W : WB bk) {clk c t : Nat} {L : Nat → Option Nat} (hc : c < bk 0 3) (hk : clk < 2 ^ 29) (h1 : L (bk 25 c) = some t) (b : bdR clk L) : (∀ o, lr (rlx bk 1000000000 c L o) = if o = bk 26 c then min (lr (L (bk 26 c))) (tbC bk c t + bk 30 c) else lr (L o)) ∧ (¬ tbC bk c t + bk 30 c < lr (L (bk 26 c)) → rlx bk 1000000000 c L = L) ∧ (tbC bk c t + bk 30 c < lr (L (bk 26 c)) → smL (rlx bk 1000000000 c L) 16 < smL L 16) ∧ bdR clk (rlx bk 1000000000 c L) := by
  have w := W.2.2.2.2.2 c hc
  have w0 := W.1.1
  have g := tbC_le W (t := t) hc
  have hb := bdR_lt b h1
  have hb2 := b _ _ h1
  have e0 : rlx bk 1000000000 c L = (match L (bk 26 c) with
    | some t' => if tbC bk c t + bk 30 c < t' then up1 L (bk 26 c) (some (tbC bk c t + bk 30 c)) else L
    | none => up1 L (bk 26 c) (some (tbC bk c t + bk 30 c))) := by
    unfold rlx
    rw [h1]
    dsimp only
    rw [if_pos (by omega)]
    cases L (bk 26 c) <;> rfl
  have up : tbC bk c t + bk 30 c < lr (L (bk 26 c)) → (∀ o, lr (up1 L (bk 26 c) (some (tbC bk c t + bk 30 c)) o) = if o = bk 26 c then min (lr (L (bk 26 c))) (tbC bk c t + bk 30 c) else lr (L o)) := fun q o => by
    by_cases ho : o = bk 26 c
    · rw [if_pos ho, ho, up1_s]
      show tbC bk c t + bk 30 c = _
      omega
    · rw [if_neg ho, up1_x ho]
  rw [e0]
  cases h2 : L (bk 26 c) with
  | none =>
    dsimp only
    rw [h2] at up
    refine ⟨up (show _ < 2000000000 by omega), fun q => absurd (show _ < 2000000000 by omega) q, fun q => (smL_up (by rw [h2]; exact q) 16).2 (by omega), fun o u hu => ?_⟩
    have e1 : ctL (up1 L (bk 26 c) (some (tbC bk c t + bk 30 c))) = ctL L + 1 := cn_new h2 16 (by omega)
    rw [e1]
    by_cases ho : o = bk 26 c
    · rw [ho, up1_s] at hu; cases hu; omega
    · rw [up1_x ho] at hu
      have := b o u hu
      omega
  | some t' =>
    dsimp only
    rw [h2] at up
    by_cases h3 : tbC bk c t + bk 30 c < t'
    · rw [if_pos h3]
      refine ⟨up h3, fun q => absurd h3 q, fun q => (smL_up (by rw [h2]; exact q) 16).2 (by omega), fun o u hu => ?_⟩
      have e1 : ctL (up1 L (bk 26 c) (some (tbC bk c t + bk 30 c))) = ctL L := cn_old h2 16
      rw [e1]
      by_cases ho : o = bk 26 c
      · rw [ho, up1_s] at hu; cases hu
        have := b _ _ h2
        omega
      · rw [up1_x ho] at hu; exact b o u hu
    · rw [if_neg h3]
      refine ⟨fun o => ?_, fun _ => rfl, fun q => absurd q h3, b⟩
      by_cases ho : o = bk 26 c
      · rw [if_pos ho, ho, h2]
        show t' = min t' _
        omega
      · rw [if_neg ho]
theorem lr_lt {clk : Nat} {L : Nat → Option Nat} (hk : clk < 2 ^ 29) (b : bdR clk L) (o : Nat) : lr (L o) < 2 ^ 31 ∧ (lr (L o) = 2000000000 ↔ L o = none) := by
  cases h : L o with
  | none => exact ⟨by decide, ⟨fun _ => rfl, fun _ => rfl⟩⟩
  | some t =>
    have := bdR_lt b h
    refine ⟨show t < _ by omega, ⟨fun q => ?_, fun q => by cases q⟩⟩
    have : t = 2000000000 := q
    omega
section RW
variable {d : Nat} {bk : Bk} {v : Nat}
/-- the coaches of a round -/
theorem goon_c (W : WB bk) {clk : Nat} (hk : clk < 2 ^ 29) (hv : v ≤ 1) : ∀ (n c : Nat) (h : AH) (L : Nat → Option Nat) (x : Nat), c + n = bk 0 3 → x ≤ 1 → Sh h → gI h 3597 189 = nI v → RB h v bk → RL h L → bdR clk L →
    ∃ h' x', Q (d + 1) 108 76 [some (.ref 189), none, some (.int (nI x)), some (.int (nI c)), none, none] [] h = Q (d + 1) 108 68 [some (.ref 189), none, some (.int (nI x')), none, none, none] [] h' ∧ Fr [] [264] h h' ∧ RL h' (rnd bk 1000000000 n c L) ∧ bdR clk (rnd bk 1000000000 n c L) ∧ x' ≤ 1 ∧ (x' = 0 → rnd bk 1000000000 n c L = L ∧ x = 0) ∧ (x' = 1 → x = 1 ∨ smL (rnd bk 1000000000 n c L) 16 < smL L 16) ∧ smL (rnd bk 1000000000 n c L) 16 ≤ smL L 16
  | 0, c, h, L, x, e, hx, hs, hN, B, HL, bd => by
    have w3 := W.1.2.2.2.1
    refine ⟨h, x, ?_, Fr.rfl, HL, bd, hx, fun q => ⟨rfl, q⟩, fun q => Or.inl q, Nat.le_refl _⟩
    rw [t_108_76 hs, hN, gd_nI (by omega) (by decide), ix_nI (by omega), B.1.2.2.2.1, if_neg (nI_nlt (by omega) (by omega))]
  | n + 1, c, h, L, x, e, hx, hs, hN, B, HL, bd => by
    have hc : c < bk 0 3 := by omega
    have w3 := W.1.2.2.2.1
    have w0 := W.1.1
    obtain ⟨q1, q2, q3, q4, q5, q6, q7, q8, q9, q10⟩ := W.2.2.2.2.2 c hc
    obtain ⟨d1, d2, d3, d4, d5, d6, d7⟩ := B.2.2.2.2.2 c hc
    obtain ⟨l1, l2⟩ := lr_lt hk bd (bk 25 c)
    obtain ⟨l3, l4⟩ := lr_lt hk bd (bk 26 c)
    rw [t_108_76 hs, hN, gd_nI (by omega) (by decide), ix_nI (by omega), B.1.2.2.2.1, if_pos (nI_lt (by omega) (by omega)), pk_mul, nI_add, gd_nI (by omega) (by decide), ix_nI (by omega), d1, gd_nI (by omega) (by decide), ix_nI (by omega), HL _ (by omega)]
    simp only [show (nI (lr (L (bk 25 c))) = nI 2000000000) = (L (bk 25 c) = none) from propext ((nI_eq l1 (by decide)).trans l2)]
    cases hL : L (bk 25 c) with
    | none =>
      rw [if_pos rfl, nI_add]
      have e0 : rlx bk 1000000000 c L = L := by unfold rlx; rw [hL]
      have ih := goon_c W hk hv n (c + 1) h L x (by omega) hx hs hN B HL bd
      unfold rnd
      rw [e0]; exact ih
    | some t =>
      have hb := bdR_lt bd hL
      have g := tbC_le W (t := t) hc
      obtain ⟨v1, v2, v3, v4⟩ := rlx_r W hc hk hL bd
      rw [if_neg (Option.some_ne_none _), gd_nI (by omega) (by decide), gd_nI (by omega) (by decide), show lr (some t) = t from rfl, r_goes hs W hv hN B hc (by omega), cK_v, t_108_138 hs, gd_nI (by omega) (by decide), gd_nI (by omega) (by decide), ix_nI (by omega), d2, gd_nI (by omega) (by decide), d6, nI_add, ix_nI (by omega), HL _ (by omega)]
      by_cases hm : tbC bk c t + bk 30 c < lr (L (bk 26 c))
      · rw [if_pos (nI_lt hm l3), gd_nI (by omega) (by decide), gd_nI (by omega) (by decide), nI_add]
        have f1 : Fr [] [264] h (sA h 264 (bk 26 c) (nI (tbC bk c t + bk 30 c))) := Fr.rfl.sA (by decide)
        have HL' : RL (sA h 264 (bk 26 c) (nI (tbC bk c t + bk 30 c))) (rlx bk 1000000000 c L) := fun o ho => by
          rw [v1 o]
          show up2 (gA h) 264 (bk 26 c) _ 264 o = _
          by_cases q : o = bk 26 c
          · rw [if_pos q, q, up2_s, show min (lr (L (bk 26 c))) (tbC bk c t + bk 30 c) = tbC bk c t + bk 30 c from by omega]
          · rw [if_neg q, up2_x q]; exact HL o ho
        obtain ⟨h', x', a1, a2, a3, a4, a5, a6, a7, a8⟩ := goon_c W hk hv n (c + 1) _ (rlx bk 1000000000 c L) 1 (by omega) (by omega) hs.sA hN (B.fr f1 (by decide)) HL' v4
        have s3 := v3 hm
        refine ⟨h', x', a1, f1.trans a2, a3, a4, a5, fun q => ?_, fun q => Or.inr ?_, ?_⟩
        · have := (a6 q).2
          omega
        · show smL (rnd bk 1000000000 n (c + 1) (rlx bk 1000000000 c L)) 16 < _
          omega
        · show smL (rnd bk 1000000000 n (c + 1) (rlx bk 1000000000 c L)) 16 ≤ _
          omega
      · rw [if_neg (nI_nlt (by omega) (by omega)), nI_add]
        have ih := goon_c W hk hv n (c + 1) h L x (by omega) hx hs hN B HL bd
        unfold rnd
        rw [v2 hm]; exact ih
theorem LFix.lo {s t0 T T' : Nat} {L : Nat → Option Nat} (F : LFix bk s t0 T L) (h : T' ≤ T) : LFix bk s t0 T' L := ⟨F.1, fun c hc t ht hT => F.2 c hc t ht (by omega)⟩
/-- the rounds -/
theorem goon_r (W : WB bk) {clk s t0 : Nat} (hk : clk < 2 ^ 29) (hv : v ≤ 1) : ∀ (m : Nat) (h : AH) (L : Nat → Option Nat) (x : Nat), smL L 16 < m → x ≤ 1 → LSnd bk s t0 L → (∃ y, L s = some y ∧ y ≤ t0) → (x = 0 → LFix bk s t0 1000000000 L) → Sh h → gI h 3597 189 = nI v → RB h v bk → RL h L → bdR clk L →
    ∃ h' L', Q (d + 1) 108 68 [some (.ref 189), none, some (.int (nI x)), none, none, none] [] h = some (none, h') ∧ Fr [] [264] h h' ∧ RL h' L' ∧ LSnd bk s t0 L' ∧ LFix bk s t0 1000000000 L' ∧ bdR clk L'
  | 0, h, L, x, hm, _, _, _, _, _, _, _, _, _ => by omega
  | m + 1, h, L, x, hm, hx, S, h0, hx0, hs, hN, B, HL, bd => by
    rw [t_108_68 hs]
    by_cases e : x = 0
    · rw [e, if_pos rfl]
      exact ⟨h, L, rfl, Fr.rfl, HL, S, hx0 e, bd⟩
    · rw [if_neg (show ¬ nI x = nI 0 from nI_ne0 (by omega) (by omega))]
      obtain ⟨h1, x', a1, a2, a3, a4, a5, a6, a7, a8⟩ := goon_c (d := d) W hk hv (bk 0 3) 0 h L 0 (by omega) (by omega) hs hN B HL bd
      have S1 : LSnd bk s t0 (rnd bk 1000000000 (bk 0 3) 0 L) := rnd_snd _ _ _ (by omega) S
      have h1' : ∃ y, rnd bk 1000000000 (bk 0 3) 0 L s = some y ∧ y ≤ t0 := by
        obtain ⟨y, p1, p2⟩ := h0
        obtain ⟨t, p3, p4⟩ := rnd_le (bk := bk) (T := 1000000000) (bk 0 3) 0 L s y p1
        exact ⟨t, p3, by omega⟩
      by_cases e2 : x' = 0
      · have e3 := (a6 e2).1
        have F : LFix bk s t0 1000000000 (rnd bk 1000000000 (bk 0 3) 0 L) := by rw [e3]; exact rnd_fix W h0 e3
        rw [a1, e2, t_108_68 (a2.sh hs), if_pos rfl]
        exact ⟨h1, _, rfl, a2, a3, S1, F, a4⟩
      · have s3 := (a7 (by omega)).resolve_left (by decide)
        obtain ⟨h2, L', b1, b2, b3⟩ := goon_r W hk hv m h1 _ x' (by omega) a5 S1 h1' (fun q => absurd q e2) (a2.sh hs) (by rw [a2.I (by decide)]; exact hN) (B.fr a2 (by decide)) a3 a4
        exact ⟨h2, L', by rw [a1]; exact b1, a2.trans b2, b3⟩
/-- the labels are cleared -/
theorem goon_i {c0 : Nat} (hv : v ≤ 1) : ∀ (m i : Nat) (h : AH), i + m = 16 → Sh h → (∀ j, j < i → gA h 264 j = nI 2000000000) →
    ∃ h', Q d 108 2 [some (.ref 189), some (.int (nI c0)), some (.int (nI i)), none, none, none] [] h = Q d 108 2 [some (.ref 189), some (.int (nI c0)), some (.int (nI 16)), none, none, none] [] h' ∧ Fr [] [264] h h' ∧ ∀ j, j < 16 → gA h' 264 j = nI 2000000000
  | 0, i, h, e, hs, H => by
    have : i = 16 := by omega
    subst this
    exact ⟨h, rfl, Fr.rfl, H⟩
  | m + 1, i, h, e, hs, H => by
    rw [t_108_2 hs, if_pos (nI_lt (by omega) (by decide)), gd_nI (by omega) (by decide), nI_add, ix_nI (by omega)]
    obtain ⟨h', a1, a2, a3⟩ := goon_i (c0 := c0) hv m (i + 1) (sA h 264 i (nI 2000000000)) (by omega) hs.sA (fun j hj => by
      show up2 (gA h) 264 i _ 264 j = _
      by_cases q : j = i
      · rw [q, up2_s]
      · rw [up2_x q]; exact H j (by omega))
    exact ⟨h', a1, (Fr.rfl.sA (by decide)).trans a2, a3⟩
theorem goon_ok (W : WB bk) {clk c0 : Nat} (hk : clk < 2 ^ 29) (hv : v ≤ 1) (hc : c0 < bk 0 3) {h : AH} (hs : Sh h) (hN : gI h 3597 189 = nI v) (B : RB h v bk) (hclk : gI h 3677 189 = nI clk) :
    ∃ h' L', E (d + 2) 108 [.ref 189, .int (nI c0)] h = some (none, h') ∧ Fr [] [264] h h' ∧ RL h' L' ∧ LSnd bk (bk 26 c0) (tbC bk c0 clk + bk 30 c0) L' ∧ LFix bk (bk 26 c0) (tbC bk c0 clk + bk 30 c0) 1000000000 L' ∧ bdR clk L' := by
  obtain ⟨q1, q2, q3, q4, q5, q6, q7, q8, q9, q10⟩ := W.2.2.2.2.2 c0 hc
  have w0 := W.1.1
  have w3 := W.1.2.2.2.1
  have g := tbC_le W (t := clk) hc
  obtain ⟨h1, a1, a2, a3⟩ := goon_i (d := d + 1) (c0 := c0) hv 16 0 h (by omega) hs (fun j hj => by omega)
  have hs1 := a2.sh hs
  have B1 : RB h1 v bk := B.fr a2 (by decide)
  have hN1 : gI h1 3597 189 = nI v := by rw [a2.I (by decide)]; exact hN
  have hclk1 : gI h1 3677 189 = nI clk := by rw [a2.I (by decide)]; exact hclk
  obtain ⟨d1, d2, d3, d4, d5, d6, d7⟩ := B1.2.2.2.2.2 c0 hc
  have f2 : Fr [] [264] h1 (sA h1 264 (bk 26 c0) (nI (tbC bk c0 clk + bk 30 c0))) := Fr.rfl.sA (by decide)
  obtain ⟨h2, L', b1, b2, b3⟩ := goon_r (d := d) (s := bk 26 c0) (t0 := tbC bk c0 clk + bk 30 c0) W hk hv (smL (up1 (fun _ => none) (bk 26 c0) (some (tbC bk c0 clk + bk 30 c0))) 16 + 1) (sA h1 264 (bk 26 c0) (nI (tbC bk c0 clk + bk 30 c0))) (up1 (fun _ => none) (bk 26 c0) (some (tbC bk c0 clk + bk 30 c0))) 1 (by omega) (by omega) (fun o t ht => by
      by_cases q : o = bk 26 c0
      · rw [q, up1_s] at ht; cases ht; rw [q]; exact ⟨[], rfl⟩
      · rw [up1_x q] at ht; cases ht) ⟨_, up1_s, Nat.le_refl _⟩ (fun q => by omega) hs1.sA hN1 (B1.fr f2 (by decide)) (fun o ho => by
      show up2 (gA h1) 264 (bk 26 c0) _ 264 o = _
      by_cases q : o = bk 26 c0
      · rw [q, up2_s, up1_s]; rfl
      · rw [up2_x q, up1_x q, a3 o ho]; rfl) (fun o t ht => by
      have e1 : ctL (up1 (fun _ => none) (bk 26 c0) (some (tbC bk c0 clk + bk 30 c0))) = ctL (fun _ => none) + 1 := cn_new rfl 16 (by omega)
      rw [e1]
      by_cases q : o = bk 26 c0
      · rw [q, up1_s] at ht; cases ht; omega
      · rw [up1_x q] at ht; cases ht)
  refine ⟨h2, L', ?_, (a2.trans f2).trans b2, b3⟩
  rw [t_108 hs, a1, t_108_2 hs1, if_neg (nI_nlt (by decide) (by decide)), hN1, pk_mul, nI_add, gd_nI (by omega) (by decide), ix_nI (by omega), d2, hclk1, r_goes hs1 W hv hN1 B1 hc (by omega), cK_v, t_108_50 hs1, hN1, pk_mul, nI_add, gd_nI (by omega) (by decide), cw_ok (show gC h1 264 = 60 from ShC hs1 (by decide)) (by decide), show gK h1 264 = 16 from ShK hs1 (by decide), gd_nI (by omega) (by decide), ix_nI (by omega), ix_nI (by omega), d6, nI_add]
  exact b1
end RW
