/-! ===== WALKS: the reference reckons ===== -/
def qX (bk : Bk) (f : Nat) (S : List (Nat × Nat)) (a : Nat) : Nat := if a = 8 then bk 3 f + 1000 else (S.getD a (0, 0)).1
def qY (bk : Bk) (f : Nat) (S : List (Nat × Nat)) (a : Nat) : Nat := if a = 8 then bk 4 f + 1000 else (S.getD a (0, 0)).2
def gdA (n a : Nat) : Prop := a < n ∨ a = 8
theorem qXY_b {bk : Bk} (W : WB bk) {f : Nat} (hf : f < bk 0 0) {S : List (Nat × Nat)} (hS : SB S) (a : Nat) : qX bk f S a ≤ 3000 ∧ qY bk f S a ≤ 3000 := by
  obtain ⟨-, -, -, -, w5, w6⟩ := W.2.1 f hf
  unfold qX qY
  by_cases q : a = 8
  · rw [if_pos q, if_pos q]; omega
  · rw [if_neg q, if_neg q]
    by_cases h : a < S.length
    · have : S.getD a (0, 0) = S[a] := by rw [List.getD_eq_getElem?_getD, List.getElem?_eq_getElem h]; rfl
      rw [this]; exact hS.2 _ (List.getElem_mem h)
    · have : S.getD a (0, 0) = (0, 0) := by rw [List.getD_eq_getElem?_getD, List.getElem?_eq_none (by omega)]; rfl
      rw [this]; exact ⟨Nat.zero_le _, Nat.zero_le _⟩
theorem dsS_q {bk : Bk} {f : Nat} {S : List (Nat × Nat)} {a b : Nat} : dsS bk f S a b = dfN (qX bk f S a) (qX bk f S b) + dfN (qY bk f S a) (qY bk f S b) := rfl
theorem dfN_b {a b m : Nat} (ha : a ≤ m) (hb : b ≤ m) : dfN a b ≤ m := by unfold dfN; split <;> omega
theorem dsS_b {bk : Bk} (W : WB bk) {f : Nat} (hf : f < bk 0 0) {S : List (Nat × Nat)} (hS : SB S) (a b : Nat) : dsS bk f S a b ≤ 10000 := by
  obtain ⟨a1, a2⟩ := qXY_b W hf hS a
  obtain ⟨b1, b2⟩ := qXY_b W hf hS b
  rw [dsS_q]
  have := dfN_b a1 b1
  have := dfN_b a2 b2
  omega
/-- the reference's places of stops and office -/
def RP (h : AH) (bk : Bk) (f : Nat) (S : List (Nat × Nat)) : Prop := gI h 3691 189 = nI S.length ∧ ∀ a, gdA S.length a → gA h 269 a = sC (qX bk f S a) ∧ gA h 270 a = sC (qY bk f S a)
theorem RP.fr {K X : List Nat} {h h' : AH} {bk : Bk} {f : Nat} {S : List (Nat × Nat)} (R : RP h bk f S) (fr : Fr K X h h') (h1 : 3691 ∉ K) (h2 : 269 ∉ X) (h3 : 270 ∉ X) : RP h' bk f S := by
  unfold RP at R ⊢
  rw [fr.I h1, fr.A h2, fr.A h3]; exact R
/-- what is reckoned of sets below N -/
def TG (h : AH) (n : Nat) (D : Nat → Nat → Nat) (N : Nat) : Prop := ∀ set, set < N → ∀ a, gdA n a → gA h 273 (9 * (2 ^ n - 1 - set) + a) = nI (wkW n D set a)
section WK4
variable {d : Nat} {bk : Bk} {f : Nat} {S : List (Nat × Nat)}
theorem r_awS {h : AH} (hs : Sh h) {a b : Nat} (ha : a ≤ 4000) (hb : b ≤ 4000) : E (d + 1) 77 [.int (sC a), .int (sC b)] h = some (some (.int (nI (dfN a b))), h) := by
  rw [t_77 hs]
  simp only [show (sC a < sC b) = (a < b) from propext (sC_lt ha hb)]
  unfold dfN
  have e1 : sC b - sC a = nI b - nI a := by unfold sC; grind
  have e2 : sC a - sC b = nI a - nI b := by unfold sC; grind
  by_cases q : a < b
  · rw [if_pos q, if_pos (by omega), e1, pk_sub (by omega)]
  · rw [if_neg q, e2, pk_sub (by omega)]
    by_cases q2 : a ≤ b
    · rw [show a = b from by omega]; split <;> rfl
    · rw [if_neg (by omega)]
theorem r_btw {h : AH} (hs : Sh h) (W : WB bk) (hf : f < bk 0 0) (hS : SB S) (R : RP h bk f S) {a b : Nat} (ha : gdA S.length a) (hb : gdA S.length b) : E (d + 2) 126 [.ref 189, .int (nI a), .int (nI b)] h = some (some (.int (nI (dsS bk f S a b))), h) := by
  have h8 := hS.1
  have a9 : a < 9 := by unfold gdA at ha; omega
  have b9 : b < 9 := by unfold gdA at hb; omega
  obtain ⟨a1, a2⟩ := R.2 a ha
  obtain ⟨b1, b2⟩ := R.2 b hb
  obtain ⟨c1, c2⟩ := qXY_b W hf hS a
  obtain ⟨e1, e2⟩ := qXY_b W hf hS b
  rw [t_126 hs, gd_nI (by omega) (by decide), gd_nI (by omega) (by decide), ix_nI (by omega), ix_nI (by omega), a1, b1, r_awS hs (by omega) (by omega), cK_v, t_126_15 hs, gd_nI (by omega) (by decide), gd_nI (by omega) (by decide), ix_nI (by omega), ix_nI (by omega), a2, b2, r_awS hs (by omega) (by omega), cK_v, t_126_30 hs, nI_add, dsS_q]
/-- any place -/
theorem r_btx {h : AH} (hs : Sh h) {a b : Nat} (ha : a < 9) (hb : b < 9) : ∃ y, E (d + 2) 126 [.ref 189, .int (nI a), .int (nI b)] h = some (some (.int y), h) := by
  have aw : ∀ x0 x1 : Int32, ∃ y, E (d + 1) 77 [.int x0, .int x1] h = some (some (.int y), h) := fun x0 x1 => by
    rw [t_77 hs]
    split
    · exact ⟨_, rfl⟩
    · exact ⟨_, rfl⟩
  obtain ⟨y1, e1⟩ := aw (gA h 269 a) (gA h 269 b)
  obtain ⟨y2, e2⟩ := aw (gA h 270 a) (gA h 270 b)
  refine ⟨y1 + y2, ?_⟩
  rw [t_126 hs, gd_nI (by omega) (by decide), gd_nI (by omega) (by decide), ix_nI (by omega), ix_nI (by omega), e1, cK_v, t_126_15 hs, gd_nI (by omega) (by decide), gd_nI (by omega) (by decide), ix_nI (by omega), ix_nI (by omega), e2, cK_v, t_126_30 hs]
theorem cmpl {n set : Nat} (hn : n ≤ 8) (hs : set < 2 ^ n) {b : Nat} (hb : b < n) : ((nI (2 ^ n - 1 - set) >>> (nI b &&& 31)) &&& nI 1 = if set.testBit b then nI 0 else nI 1) ∧ (set.testBit b = true → nI (2 ^ n - 1 - set) ||| (nI 1 <<< (nI b &&& 31)) = nI (2 ^ n - 1 - (set - 2 ^ b))) := by
  have h8 := two8 hn
  obtain ⟨c1, c2⟩ := bt_cp n hn set hs b hb
  refine ⟨?_, fun q => ?_⟩
  · rw [bt_N _ (by omega) b (by omega), c1]
    cases set.testBit b <;> rfl
  · rw [bt_sh b (by omega), bt_or _ (by omega) b (by omega), c2 q]
/-- the least over the stops that are left -/
theorem rk_b (W : WB bk) (hf : f < bk 0 0) (hS : SB S) {set a : Nat} (hset : set < 2 ^ S.length) (ha : gdA S.length a) {h : AH} (hs : Sh h) (R : RP h bk f S) (T : TG h S.length (dsS bk f S) set) {xa : Int32} : ∀ (m b x : Nat), b + m = S.length → x ≤ 2000000000 →
    Q (d + 2) 125 91 [some (.ref 189), none, some (.int xa), some (.int (nI (2 ^ S.length - 1 - set))), some (.int (nI a)), some (.int (nI x)), some (.int (nI b))] [] h = Q (d + 2) 125 60 [some (.ref 189), none, some (.int xa), some (.int (nI (2 ^ S.length - 1 - set))), some (.int (nI (a + 1))), none, none] [] (sA h 273 (9 * (2 ^ S.length - 1 - set) + a) (nI (mnF (fun b => set.testBit b) (fun b => dsS bk f S a b + wkW S.length (dsS bk f S) (set - 2 ^ b) b) m b x)))
  | 0, b, x, e, hx => by
    have h8 := hS.1
    have h9 := two8 h8
    have a9 : a < 9 := by unfold gdA at ha; omega
    rw [t_125_91 hs, R.1, if_neg (nI_nlt (by omega) (by omega)), pk_mul, nI_add, gd_nI (by omega) (by decide), ix_nI (by omega), nI_add]
    rfl
  | m + 1, b, x, e, hx => by
    have h8 := hS.1
    have h9 := two8 h8
    have a9 : a < 9 := by unfold gdA at ha; omega
    have hb : b < S.length := by omega
    obtain ⟨c1, c2⟩ := cmpl h8 hset hb
    rw [t_125_91 hs, R.1, if_pos (nI_lt hb (by omega)), c1]
    unfold mnF
    cases hq : set.testBit b with
    | false =>
      rw [if_neg (by decide), nI_add, if_neg (by decide)]
      exact rk_b W hf hS hset ha hs R T m (b + 1) x (by omega) hx
    | true =>
      have h2 : 0 < 2 ^ b := Nat.two_pow_pos b
      have h3 := tb_le hq
      have ht := T (set - 2 ^ b) (by omega) b (Or.inl hb)
      have hw := wkW_b (D := dsS bk f S) h8 (dsS_b W hf hS) (set - 2 ^ b) (set - 2 ^ b) b (Nat.le_refl _) (by omega)
      have hw2 : 10000 * (set - 2 ^ b + 1) ≤ 10000 * 256 := Nat.mul_le_mul_left _ (by omega)
      have hd := dsS_b W hf hS a b
      rw [if_pos rfl, if_pos rfl, r_btw hs W hf hS R ha (Or.inl hb), cK_v, t_125_119 hs, c2 hq, pk_mul, nI_add, gd_nI (by omega) (by decide), ix_nI (by omega), ht, nI_add, r_least hs (by omega) (by omega), cK_v, t_125_140 hs, nI_add, if_pos rfl]
      exact rk_b W hf hS hset ha hs R T m (b + 1) _ (by omega) (by omega)
/-- the same of a place that is none: whatever comes of it -/
theorem rk_x (hS : SB S) {set a : Nat} (hset : set < 2 ^ S.length) (ha : a < 9) {h : AH} (hs : Sh h) (R : RP h bk f S) {xa : Int32} : ∀ (m b : Nat) (x : Int32), b + m = S.length → ∃ y,
    Q (d + 2) 125 91 [some (.ref 189), none, some (.int xa), some (.int (nI (2 ^ S.length - 1 - set))), some (.int (nI a)), some (.int x), some (.int (nI b))] [] h = Q (d + 2) 125 60 [some (.ref 189), none, some (.int xa), some (.int (nI (2 ^ S.length - 1 - set))), some (.int (nI (a + 1))), none, none] [] (sA h 273 (9 * (2 ^ S.length - 1 - set) + a) y)
  | 0, b, x, e => by
    have h8 := hS.1
    have h9 := two8 h8
    refine ⟨x, ?_⟩
    rw [t_125_91 hs, R.1, if_neg (nI_nlt (by omega) (by omega)), pk_mul, nI_add, gd_nI (by omega) (by decide), ix_nI (by omega), nI_add]
  | m + 1, b, x, e => by
    have h8 := hS.1
    have h9 := two8 h8
    have hb : b < S.length := by omega
    obtain ⟨c1, c2⟩ := cmpl h8 hset hb
    rw [t_125_91 hs, R.1, if_pos (nI_lt hb (by omega)), c1]
    cases hq : set.testBit b with
    | false =>
      rw [if_neg (by decide), nI_add]
      exact rk_x hS hset ha hs R m (b + 1) x (by omega)
    | true =>
      have h2 : 0 < 2 ^ b := Nat.two_pow_pos b
      have h3 := tb_le hq
      obtain ⟨y, ey⟩ := r_btx (d := d) hs ha (show b < 9 by omega)
      have lst : ∀ x0 x1 : Int32, ∃ z, E (d + 2) 78 [.int x0, .int x1] h = some (some (.int z), h) := fun x0 x1 => by
        rw [t_78 hs]
        split
        · exact ⟨_, rfl⟩
        · exact ⟨_, rfl⟩
      obtain ⟨z, ez⟩ := lst x (y + gA h 273 (9 * (2 ^ S.length - 1 - (set - 2 ^ b)) + b))
      rw [if_pos rfl, if_pos rfl, ey, cK_v, t_125_119 hs, c2 hq, pk_mul, nI_add, gd_nI (by omega) (by decide), ix_nI (by omega), ez, cK_v, t_125_140 hs, nI_add]
      exact rk_x hS hset ha hs R m (b + 1) z (by omega)
/-- one set, all places -/
theorem rk_a (W : WB bk) (hf : f < bk 0 0) (hS : SB S) {set : Nat} (hset : set < 2 ^ S.length) : ∀ (m a : Nat) (h : AH), a + m = 9 → Sh h → RP h bk f S → TG h S.length (dsS bk f S) set → (∀ a', a' < a → gdA S.length a' → gA h 273 (9 * (2 ^ S.length - 1 - set) + a') = nI (wkW S.length (dsS bk f S) set a')) →
    ∃ h', Q (d + 2) 125 60 [some (.ref 189), none, some (.int (nI (2 ^ S.length - 1))), some (.int (nI (2 ^ S.length - 1 - set))), some (.int (nI a)), none, none] [] h = Q (d + 2) 125 53 [some (.ref 189), none, some (.int (nI (2 ^ S.length - 1))), some (.int (nI (2 ^ S.length - 1 - set) + (-1))), none, none, none] [] h' ∧ Fr [] [273] h h' ∧ TG h' S.length (dsS bk f S) (set + 1)
  | 0, a, h, e, hs, R, T, U => by
    refine ⟨h, ?_, Fr.rfl, fun st hst a' ha' => ?_⟩
    · rw [t_125_60 hs, if_neg (nI_nlt (by omega) (by omega))]
    · by_cases q : st = set
      · rw [q]; exact U a' (by unfold gdA at ha'; have := hS.1; omega) ha'
      · exact T st (by omega) a' ha'
  | m + 1, a, h, e, hs, R, T, U => by
    have h8 := hS.1
    have h9 := two8 h8
    have a9 : a < 9 := by omega
    -- what is written
    have wr : ∃ y, Q (d + 2) 125 60 [some (.ref 189), none, some (.int (nI (2 ^ S.length - 1))), some (.int (nI (2 ^ S.length - 1 - set))), some (.int (nI a)), none, none] [] h = Q (d + 2) 125 60 [some (.ref 189), none, some (.int (nI (2 ^ S.length - 1))), some (.int (nI (2 ^ S.length - 1 - set))), some (.int (nI (a + 1))), none, none] [] (sA h 273 (9 * (2 ^ S.length - 1 - set) + a) y) ∧ (gdA S.length a → y = nI (wkW S.length (dsS bk f S) set a)) := by
      rw [t_125_60 hs, if_pos (nI_lt a9 (by omega))]
      simp only [show (nI (2 ^ S.length - 1 - set) = nI (2 ^ S.length - 1)) = (2 ^ S.length - 1 - set = 2 ^ S.length - 1) from propext (nI_eq (by omega) (by omega))]
      have hpos : 0 < 2 ^ S.length := Nat.two_pow_pos _
      by_cases ga : gdA S.length a
      · by_cases q : set = 0
        · have hd := dsS_b W hf hS a 8
          rw [if_pos (by omega), r_btw hs W hf hS R ga (Or.inr rfl), cK_v, t_125_80 hs, rk_b W hf hS hset ga hs R T S.length 0 _ (by omega) (by omega)]
          refine ⟨_, rfl, fun _ => ?_⟩
          rw [wkW_eq, if_pos q]
          have : ∀ (m b x : Nat), mnF (fun b => set.testBit b) (fun b => dsS bk f S a b + wkW S.length (dsS bk f S) (set - 2 ^ b) b) m b x = x := fun m => by
            induction m with
            | zero => intro b x; rfl
            | succ m ih =>
              intro b x
              unfold mnF
              rw [ih, q, Nat.zero_testBit]; rfl
          rw [this]
        · rw [if_neg (by omega), rk_b W hf hS hset ga hs R T S.length 0 2000000000 (by omega) (Nat.le_refl _)]
          refine ⟨_, rfl, fun _ => ?_⟩
          rw [wkW_s h8 (dsS_b W hf hS) hset q (Nat.le_refl _)]
      · by_cases q : set = 0
        · obtain ⟨y, ey⟩ := r_btx (d := d) hs a9 (show 8 < 9 by decide)
          obtain ⟨z, ez⟩ := rk_x (d := d) hS hset a9 hs R (xa := nI (2 ^ S.length - 1)) S.length 0 y (by omega)
          rw [if_pos (by omega), ey, cK_v, t_125_80 hs, ez]
          exact ⟨z, rfl, fun w => absurd w ga⟩
        · obtain ⟨z, ez⟩ := rk_x (d := d) hS hset a9 hs R (xa := nI (2 ^ S.length - 1)) S.length 0 (nI 2000000000) (by omega)
          rw [if_neg (by omega), ez]
          exact ⟨z, rfl, fun w => absurd w ga⟩
    obtain ⟨y, e1, e2⟩ := wr
    have f1 : Fr [] [273] h (sA h 273 (9 * (2 ^ S.length - 1 - set) + a) y) := Fr.rfl.sA (by decide)
    have ev : ∀ j, j ≠ 9 * (2 ^ S.length - 1 - set) + a → gA (sA h 273 (9 * (2 ^ S.length - 1 - set) + a) y) 273 j = gA h 273 j := fun j hj => (up2_x hj : up2 (gA h) 273 (9 * (2 ^ S.length - 1 - set) + a) y 273 j = _)
    have es : gA (sA h 273 (9 * (2 ^ S.length - 1 - set) + a) y) 273 (9 * (2 ^ S.length - 1 - set) + a) = y := (up2_s : up2 (gA h) 273 (9 * (2 ^ S.length - 1 - set) + a) y 273 _ = _)
    obtain ⟨h', b1, b2, b3⟩ := rk_a W hf hS hset m (a + 1) _ (by omega) (f1.sh hs) (R.fr f1 (by decide) (by decide) (by decide)) (fun st hst a' ha' => by
      have : a' < 9 := by unfold gdA at ha'; omega
      rw [ev _ (by omega)]; exact T st hst a' ha') (fun a' h1 h2 => by
      by_cases q : a' = a
      · subst q
        rw [es]; exact e2 h2
      · rw [ev _ (by omega)]; exact U a' (by omega) h2)
    exact ⟨h', e1.trans b1, f1.trans b2, b3⟩
theorem rk_s (W : WB bk) (hf : f < bk 0 0) (hS : SB S) : ∀ (m set : Nat) (h : AH), set + m = 2 ^ S.length → Sh h → RP h bk f S → TG h S.length (dsS bk f S) set →
    ∃ h', Q (d + 2) 125 53 [some (.ref 189), none, some (.int (nI (2 ^ S.length - 1))), some (.int (nI (2 ^ S.length - set) + (-1))), none, none, none] [] h = some (none, h') ∧ Fr [] [273] h h' ∧ TG h' S.length (dsS bk f S) (2 ^ S.length)
  | 0, set, h, e, hs, R, T => by
    refine ⟨h, ?_, Fr.rfl, by rw [← e]; exact T⟩
    rw [t_125_53 hs, show 2 ^ S.length - set = 0 from by omega, if_pos (by decide)]
  | m + 1, set, h, e, hs, R, T => by
    have h8 := hS.1
    have h9 := two8 h8
    obtain ⟨h1, a1, a2, a3⟩ := rk_a (d := d) W hf hS (set := set) (by omega) 9 0 h (by omega) hs R T (fun a' q => by omega)
    obtain ⟨h2, b1, b2, b3⟩ := rk_s W hf hS m (set + 1) h1 (by omega) (a2.sh hs) (R.fr a2 (by decide) (by decide) (by decide)) a3
    refine ⟨h2, ?_, a2.trans b2, b3⟩
    have e1 : nI (2 ^ S.length - set) + (-1) = nI (2 ^ S.length - 1 - set) := by
      rw [show 2 ^ S.length - set = (2 ^ S.length - 1 - set) + 1 from by omega, m1]
    rw [show 2 ^ S.length - (set + 1) = 2 ^ S.length - 1 - set from by omega] at b1
    rw [e1, t_125_53 hs, if_neg (nI_nlt (by omega) (by omega)), a1]
    exact b1
theorem r_reckon (W : WB bk) {v : Nat} (hv' : v ≤ 1) (hf : f < bk 0 0) (hS : SB S) {h : AH} (hs : Sh h) (hN : gI h 3597 189 = nI v) (B : RB h v bk) (R : RSt h S) : ∃ h', E (d + 3) 125 [.ref 189, .int (nI f)] h = some (none, h') ∧ Fr [] [269, 270, 273] h h' ∧ RP h' bk f S ∧ TG h' S.length (dsS bk f S) (2 ^ S.length) := by
  have w0 := W.1.1
  have h8 := hS.1
  have h9 := two8 h8
  obtain ⟨-, -, b3, b4⟩ := B.2.1 f hf
  have hpos : 0 < 2 ^ S.length := Nat.two_pow_pos _
  have f0 : Fr [] [269, 270] h (sA (sA h 269 8 (nI (bk 3 f))) 270 8 (nI (bk 4 f))) := (Fr.rfl.sA (by decide)).sA (by decide)
  have R0 : RP (sA (sA h 269 8 (nI (bk 3 f))) 270 8 (nI (bk 4 f))) bk f S := by
    refine ⟨R.1, fun a ha => ?_⟩
    show up2 (up2 (gA h) 269 8 (nI (bk 3 f))) 270 8 (nI (bk 4 f)) 269 a = _ ∧ up2 (up2 (gA h) 269 8 (nI (bk 3 f))) 270 8 (nI (bk 4 f)) 270 a = _
    rw [up2_k (by decide), up2_r, up2_r, up2_k (by decide)]
    unfold qX qY
    by_cases q : a = 8
    · rw [q, up1_s, up1_s, if_pos rfl, if_pos rfl]
      exact ⟨sC_o, sC_o⟩
    · have ha : a < S.length := by unfold gdA at ha; omega
      have : S.getD a (0, 0) = S[a] := by rw [List.getD_eq_getElem?_getD, List.getElem?_eq_getElem ha]; rfl
      rw [up1_x q, up1_x q, if_neg q, if_neg q, this]
      exact R.2 a ha
  obtain ⟨h1, a1, a2, a3⟩ := rk_s (d := d) W hf hS (2 ^ S.length) 0 _ (by omega) (f0.sh hs) R0 (fun st hst => by omega)
  refine ⟨h1, ?_, (f0.wk (by decide) (by decide)).trans (a2.wk (by decide) (by decide)), R0.fr a2 (by decide) (by decide) (by decide), a3⟩
  have e1 : nI (2 ^ S.length) - nI 1 = nI (2 ^ S.length - 1) := pk_sub hpos
  have e2 : nI (2 ^ S.length - 0) + (-1) = nI (2 ^ S.length - 1) := by
    rw [show 2 ^ S.length - 0 = (2 ^ S.length - 1) + 1 from by omega, m1]
  rw [e2] at a1
  rw [t_125 hs, hN, pk_mul, nI_add, gd_nI (by omega) (by decide), gd_nI (by omega) (by decide), ix_nI (by omega), b3, b4, R.1, bt_sh _ h8, e1]
  exact a1
end WK4
