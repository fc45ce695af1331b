/-! ===== WALKS: the component reckons ===== -/
def cI (n a : Nat) : Nat := if a = 8 then n else a
def CP (h : AH) (bk : Bk) (f : Nat) (S : List (Nat × Nat)) : Prop := gI h 2064 156 = nI S.length ∧ ∀ a, gdA S.length a → gA h 172 (cI S.length a) = sC (qX bk f S a) ∧ gA h 173 (cI S.length a) = sC (qY bk f S a)
/-- what is reckoned of sets below N -/
def LRk (h : AH) (n : Nat) (D : Nat → Nat → Nat) (N : Nat) : Prop := ∀ set, set < N → ∀ a, a < n → set.testBit a = false → gA h 174 (8 * set + a) = nI (wkW n D set a)
theorem cI_b {n a : Nat} (hn : n ≤ 8) (ha : gdA n a) : cI n a ≤ 8 := by
  unfold gdA at ha
  unfold cI
  split <;> omega
theorem bt_ne : ∀ s, s < 256 → ∀ b, b < 8 → s.testBit b = true → (s - 2 ^ b).testBit b = false := by decide +kernel
theorem CP.fr {K X : List Nat} {h h' : AH} {bk : Bk} {f : Nat} {S : List (Nat × Nat)} (R : CP h bk f S) (fr : Fr K X h h') (h1 : 2064 ∉ K) (h2 : 172 ∉ X) (h3 : 173 ∉ X) : CP h' bk f S := by
  unfold CP at R ⊢
  rw [fr.I h1, fr.A h2, fr.A h3]; exact R
section WC3
variable {d : Nat} {bk : Bk} {f : Nat} {S : List (Nat × Nat)}
theorem c_btw {h : AH} (hs : Sh h) (W : WB bk) (hf : f < bk 0 0) (hS : SB S) (R : CP h bk f S) {a b : Nat} (ha : gdA S.length a) (hb : gdA S.length b) : E (d + 2) 313 [.ref 156, .int (nI (cI S.length a)), .int (nI (cI S.length b))] h = some (some (.int (nI (dsS bk f S a b))), h) := by
  have h8 := hS.1
  have a9 := cI_b h8 ha
  have b9 := cI_b h8 hb
  obtain ⟨a1, a2⟩ := R.2 a ha
  obtain ⟨b1, b2⟩ := R.2 b hb
  obtain ⟨c1, c2⟩ := qXY_b W hf hS a
  obtain ⟨e1, e2⟩ := qXY_b W hf hS b
  have s1 : sC (qX bk f S a) - sC (qX bk f S b) = nI (qX bk f S a) - nI (qX bk f S b) := by unfold sC; grind
  have s2 : sC (qY bk f S a) - sC (qY bk f S b) = nI (qY bk f S a) - nI (qY bk f S b) := by unfold sC; grind
  rw [t_313 hs, gd_nI (by omega) (by decide), gd_nI (by omega) (by decide), ix_nI (by omega), ix_nI (by omega), a1, b1, s1, m_abs hs (by omega) (by omega), cK_v, t_313_16 hs, gd_nI (by omega) (by decide), gd_nI (by omega) (by decide), ix_nI (by omega), ix_nI (by omega), a2, b2, s2, m_abs hs (by omega) (by omega), cK_v, t_313_32 hs, nI_add, dsS_q]
theorem cI_lt {n b : Nat} (hn : n ≤ 8) (hb : b < n) : cI n b = b := if_neg (by omega)
theorem cI_8 {n : Nat} : cI n 8 = n := if_pos rfl
theorem c_restBy {h : AH} (hs : Sh h) (W : WB bk) (hf : f < bk 0 0) (hS : SB S) (R : CP h bk f S) {N set a b : Nat} (L : LRk h S.length (dsS bk f S) N) (hN : set ≤ N) (hset : set < 2 ^ S.length) (ha : gdA S.length a) (hb : b < S.length) (tb : set.testBit b = true) : E (d + 3) 315 [.ref 156, .int (nI (cI S.length a)), .int (nI b), .int (nI set)] h = some (some (.int (nI (dsS bk f S a b + wkW S.length (dsS bk f S) (set - 2 ^ b) b))), h) := by
  have h8 := hS.1
  have h9 := two8 h8
  have le := tb_le tb
  have hp : 0 < 2 ^ b := Nat.two_pow_pos b
  have cb := c_btw (d := d) hs W hf hS R ha (Or.inl hb)
  rw [cI_lt h8 hb] at cb
  have l1 := L (set - 2 ^ b) (by omega) b hb (bt_ne set (by omega) b (by omega) tb)
  rw [t_315 hs, cb, cK_v, t_315_6 hs, bt_sh b (by omega), bt_an set (by omega) b (by omega) tb, pk_mul, nI_add, gd_nI (by omega) (by decide), ix_nI (by omega), show (set - 2 ^ b) * 8 + b = 8 * (set - 2 ^ b) + b from by omega, l1, nI_add]
theorem lf_lp {h : AH} (hs : Sh h) (W : WB bk) (hf : f < bk 0 0) (hS : SB S) (R : CP h bk f S) {N set a : Nat} (L : LRk h S.length (dsS bk f S) N) (hN : set ≤ N) (hset : set < 2 ^ S.length) (ha : gdA S.length a) : ∀ (m b x : Nat), b + m = S.length → x < 2 ^ 31 →
    Q (d + 3) 314 6 [some (.ref 156), some (.int (nI (cI S.length a))), some (.int (nI set)), some (.int (nI x)), some (.int (nI b))] [] h = some (some (.int (nI (mnF (fun b => set.testBit b) (fun b => dsS bk f S a b + wkW S.length (dsS bk f S) (set - 2 ^ b) b) m b x))), h)
  | 0, b, x, e, hx => by
    have h8 := hS.1
    rw [t_314_6 hs, R.1, if_neg (nI_nlt (by omega) (by omega))]
    rfl
  | m + 1, b, x, e, hx => by
    have h8 := hS.1
    have h9 := two8 h8
    have hb : b < S.length := by omega
    rw [t_314_6 hs, R.1, if_pos (nI_lt hb (by omega)), bt_N set (by omega) b (by omega)]
    unfold mnF
    cases hq : set.testBit b with
    | false =>
      rw [if_pos (show (if false = true then nI 1 else nI 0) = nI 0 from rfl), nI_add, if_neg (by decide)]
      exact lf_lp hs W hf hS R L hN hset ha m (b + 1) x (by omega) hx
    | true =>
      have h2 : 0 < 2 ^ b := Nat.two_pow_pos b
      have h3 := tb_le hq
      have hw := wkW_b (D := dsS bk f S) h8 (dsS_b W hf hS) (set - 2 ^ b) (set - 2 ^ b) b (Nat.le_refl _) (by omega)
      have hw2 : 10000 * (set - 2 ^ b + 1) ≤ 10000 * 256 := Nat.mul_le_mul_left _ (by omega)
      have hd := dsS_b W hf hS a b
      rw [if_neg (show ¬ (if true = true then nI 1 else nI 0) = nI 0 by decide), c_restBy hs W hf hS R L hN hset ha hb hq, cK_v, t_314_33 hs, m_min hs hx (by omega), cK_v, t_314_36 hs, nI_add, if_pos rfl]
      exact lf_lp hs W hf hS R L hN hset ha m (b + 1) _ (by omega) (by omega)
theorem c_least {h : AH} (hs : Sh h) (W : WB bk) (hf : f < bk 0 0) (hS : SB S) (R : CP h bk f S) {N set a : Nat} (L : LRk h S.length (dsS bk f S) N) (hN : set ≤ N) (hset : set < 2 ^ S.length) (h0 : set ≠ 0) (ha : gdA S.length a) : E (d + 4) 314 [.ref 156, .int (nI (cI S.length a)), .int (nI set)] h = some (some (.int (nI (wkW S.length (dsS bk f S) set a))), h) := by
  rw [t_314 hs, lf_lp hs W hf hS R L hN hset ha S.length 0 2147483647 (by omega) (by decide), wkW_s hS.1 (dsS_b W hf hS) hset h0 (by decide)]
theorem wo_a (W : WB bk) (hf : f < bk 0 0) (hS : SB S) {set : Nat} (hset : set < 2 ^ S.length) : ∀ (m a : Nat) (h : AH), a + m = S.length → Sh h → CP h bk f S → LRk h S.length (dsS bk f S) set → (∀ a', a' < a → set.testBit a' = false → gA h 174 (8 * set + a') = nI (wkW S.length (dsS bk f S) set a')) →
    ∃ h', Q (d + 4) 261 14 [some (.ref 156), some (.int (nI set)), some (.int (nI a))] [] h = Q (d + 4) 261 2 [some (.ref 156), some (.int (nI (set + 1))), none] [] h' ∧ Fr [] [174] h h' ∧ LRk h' S.length (dsS bk f S) (set + 1)
  | 0, a, h, e, hs, R, L, U => by
    have h8 := hS.1
    refine ⟨h, ?_, Fr.rfl, fun st hst a' ha' tb => ?_⟩
    · rw [t_261_14 hs, R.1, if_neg (nI_nlt (by omega) (by omega)), nI_add]
    · by_cases q : st = set
      · subst q
        exact U a' (by omega) tb
      · exact L st (by omega) a' ha' tb
  | m + 1, a, h, e, hs, R, L, U => by
    have h8 := hS.1
    have h9 := two8 h8
    have ha : a < S.length := by omega
    have ga : gdA S.length a := Or.inl ha
    rw [t_261_14 hs, R.1, if_pos (nI_lt ha (by omega)), bt_N set (by omega) a (by omega)]
    simp only [show (nI set = nI 0) = (set = 0) from propext (nI_eq (by omega) (by decide))]
    cases hq : set.testBit a with
    | true =>
      obtain ⟨h', b1, b2, b3⟩ := wo_a W hf hS hset m (a + 1) h (by omega) hs R L (fun a' h1 h2 => by
        by_cases q : a' = a
        · rw [q, hq] at h2; cases h2
        · exact U a' (by omega) h2)
      rw [if_neg (show ¬ (if true = true then nI 1 else nI 0) = nI 0 by decide), nI_add]
      exact ⟨h', b1, b2, b3⟩
    | false =>
      rw [if_pos (show (if false = true then nI 1 else nI 0) = nI 0 from rfl)]
      have cb := c_btw (d := d + 2) hs W hf hS R ga (Or.inr rfl)
      rw [cI_lt h8 ha, cI_8] at cb
      have f1 : Fr [] [174] h (sA h 174 (8 * set + a) (nI (wkW S.length (dsS bk f S) set a))) := Fr.rfl.sA (by decide)
      have ev : ∀ j, j ≠ 8 * set + a → gA (sA h 174 (8 * set + a) (nI (wkW S.length (dsS bk f S) set a))) 174 j = gA h 174 j := fun j hj => (up2_x hj : up2 (gA h) 174 (8 * set + a) _ 174 j = _)
      have es : gA (sA h 174 (8 * set + a) (nI (wkW S.length (dsS bk f S) set a))) 174 (8 * set + a) = nI (wkW S.length (dsS bk f S) set a) := (up2_s : up2 (gA h) 174 (8 * set + a) _ 174 _ = _)
      obtain ⟨h', b1, b2, b3⟩ := wo_a W hf hS hset m (a + 1) _ (by omega) (f1.sh hs) (R.fr f1 (by decide) (by decide) (by decide)) (fun st hst a' ha' tb => by
        rw [ev _ (by omega)]; exact L st hst a' ha' tb) (fun a' h1 h2 => by
        by_cases q : a' = a
        · subst q
          exact es
        · rw [ev _ (by omega)]; exact U a' (by omega) h2)
      refine ⟨h', ?_, f1.trans b2, b3⟩
      by_cases q : set = 0
      · rw [if_pos q, cb, cK_v, t_261_53 hs, t_261_62 hs, cw_ok (show gC h 174 = 60 from ShC hs (by decide)) (by decide), show gK h 174 = 2048 from ShK hs (by decide), pk_mul, nI_add, gd_nI (by omega) (by decide), ix_nI (by omega), nI_add, show set * 8 + a = 8 * set + a from by omega]
        rw [wkW_eq, if_pos q] at b1
        exact b1
      · have cl := c_least (d := d) hs W hf hS R L (Nat.le_refl _) hset q ga
        rw [cI_lt h8 ha] at cl
        rw [if_neg q, cl, cK_v, t_261_62 hs, cw_ok (show gC h 174 = 60 from ShC hs (by decide)) (by decide), show gK h 174 = 2048 from ShK hs (by decide), pk_mul, nI_add, gd_nI (by omega) (by decide), ix_nI (by omega), nI_add, show set * 8 + a = 8 * set + a from by omega]
        exact b1
theorem wo_s (W : WB bk) (hf : f < bk 0 0) (hS : SB S) : ∀ (m set : Nat) (h : AH), set + m = 2 ^ S.length → Sh h → CP h bk f S → LRk h S.length (dsS bk f S) set →
    ∃ h', Q (d + 4) 261 2 [some (.ref 156), some (.int (nI set)), none] [] h = some (none, h') ∧ Fr [] [174] h h' ∧ LRk h' S.length (dsS bk f S) (2 ^ S.length)
  | 0, set, h, e, hs, R, L => by
    have h8 := hS.1
    have h9 := two8 h8
    refine ⟨h, ?_, Fr.rfl, by rw [← e]; exact L⟩
    rw [t_261_2 hs, R.1, bt_sh _ h8, if_neg (nI_nlt (by omega) (by omega))]
  | m + 1, set, h, e, hs, R, L => by
    have h8 := hS.1
    have h9 := two8 h8
    obtain ⟨h1, a1, a2, a3⟩ := wo_a (d := d) W hf hS (set := set) (by omega) S.length 0 h (by omega) hs R L (fun a' q => by omega)
    obtain ⟨h2, b1, b2, b3⟩ := wo_s W hf hS m (set + 1) h1 (by omega) (a2.sh hs) (R.fr a2 (by decide) (by decide) (by decide)) a3
    refine ⟨h2, ?_, a2.trans b2, b3⟩
    rw [t_261_2 hs, R.1, bt_sh _ h8, if_pos (nI_lt (by omega) (by omega)), a1]
    exact b1
theorem c_nx {h : AH} (hs : Sh h) (W : WB bk) (hf : f < bk 0 0) (hS : SB S) (R : CP h bk f S) {set a y : Nat} {z x6 : Int32} (L : LRk h S.length (dsS bk f S) (2 ^ S.length)) (hset : set < 2 ^ S.length) (ha : gdA S.length a) : ∀ (m b : Nat), b + m = S.length → nxF S.length (dsS bk f S) set a m b < S.length →
    Q (d + 4) 262 50 [some (.ref 156), some (.ref y), some (.int (nI f)), some (.int (nI set)), some (.int z), some (.int (nI (cI S.length a))), some (.int x6), some (.int (nI (wkW S.length (dsS bk f S) set a))), some (.int (nI b))] [] h = cK (E (d + 4) 316 [.ref 156, .int (nI (nxF S.length (dsS bk f S) set a m b)), .ref y, .int (nI f)] h) (Q (d + 4) 262 96 [some (.ref 156), some (.ref y), some (.int (nI f)), some (.int (nI set)), some (.int z), none, some (.int x6), none, some (.int (nI (nxF S.length (dsS bk f S) set a m b)))]) []
  | 0, b, e, hn => by
    have : nxF S.length (dsS bk f S) set a 0 b = b := rfl
    omega
  | m + 1, b, e, hn => by
    have h8 := hS.1
    have h9 := two8 h8
    have hb : b < S.length := by omega
    rw [t_262_50 hs, R.1, if_pos (nI_lt hb (by omega)), bt_N set (by omega) b (by omega)]
    unfold nxF at hn ⊢
    cases hq : set.testBit b with
    | false =>
      rw [hq] at hn
      rw [if_neg (fun w => by cases w.1)] at hn
      rw [if_pos (show (if false = true then nI 1 else nI 0) = nI 0 from rfl), nI_add]
      simp only [Bool.false_eq_true, false_and, if_false]
      exact c_nx hs W hf hS R L hset ha m (b + 1) (by omega) hn
    | true =>
      rw [hq] at hn
      have h2 : 0 < 2 ^ b := Nat.two_pow_pos b
      have h3 := tb_le hq
      have w1 := wkW_b (D := dsS bk f S) h8 (dsS_b W hf hS) (set - 2 ^ b) (set - 2 ^ b) b (Nat.le_refl _) (by omega)
      have w1' : 10000 * (set - 2 ^ b + 1) ≤ 10000 * 256 := Nat.mul_le_mul_left _ (by omega)
      have w2 := wkW_b (D := dsS bk f S) h8 (dsS_b W hf hS) set set a (Nat.le_refl _) hset
      have w2' : 10000 * (set + 1) ≤ 10000 * 256 := Nat.mul_le_mul_left _ (by omega)
      have hd := dsS_b W hf hS a b
      rw [if_neg (show ¬ (if true = true then nI 1 else nI 0) = nI 0 by decide), c_restBy hs W hf hS R L (by omega) hset ha hb hq, cK_v, t_262_77 hs, nI_add]
      simp only [show (nI (dsS bk f S a b + wkW S.length (dsS bk f S) (set - 2 ^ b) b) = nI (wkW S.length (dsS bk f S) set a)) = (dsS bk f S a b + wkW S.length (dsS bk f S) (set - 2 ^ b) b = wkW S.length (dsS bk f S) set a) from propext (nI_eq (by omega) (by omega))]
      by_cases q2 : dsS bk f S a b + wkW S.length (dsS bk f S) (set - 2 ^ b) b = wkW S.length (dsS bk f S) set a
      · simp only [if_pos q2, q2, and_self, if_true]
      · rw [if_neg fun w => q2 w.2] at hn
        simp only [q2, and_false, if_false]
        exact c_nx hs W hf hS R L hset ha m (b + 1) (by omega) hn
end WC3
