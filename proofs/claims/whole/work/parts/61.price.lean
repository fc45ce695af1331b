/-! ===== PRICES ===== -/
/-- what a rule makes of a sum -/
def rlS (kd a pt ov w : Nat) (z : Int32) (p : Int64) : Int64 :=
  if kd = 0 then p + (nI a).toInt64 else
  if kd = 1 then (if ov < w then p + (nI a).toInt64 * ((nI w - nI ov + nI pt - nI 1) / nI pt).toInt64 else p) else
  if kd = 2 then (if z = nI pt then p + (nI a).toInt64 else p) else
  if kd = 3 then (if nI 1 < z then p + (nI a).toInt64 * (z - nI 1).toInt64 else p) else
  if kd = 4 then (if a = 0 then p else (p + (nI a).toInt64 - 1) / (nI a).toInt64 * (nI a).toInt64) else
  if kd = 5 then (if lg_cmp p (nI a).toInt64 < nI 0 then (nI a).toInt64 else p) else
  p - p * (nI a).toInt64 / 100
def prF (bk : Bk) (s w : Nat) (z : Int32) : Nat → Nat → Int64 → Int64
  | 0, _, p => p
  | n + 1, k, p => prF bk s w z n (k + 1) (rlS (bk 21 (8 * s + k)) (bk 22 (8 * s + k)) (bk 23 (8 * s + k)) (bk 24 (8 * s + k)) w z p)
def prC (p : Int64) : Int32 := if nI 0 < lg_cmp p 1000000 then nI 1000000 else p.toInt32
/-- the price of a weight at a service in a zone -/
def prS (bk : Bk) (s w : Nat) (z : Int32) : Int32 := prC (prF bk s w z (bk 20 s) 0 0)
theorem a64_0 {a : Nat} (h : a ≤ 9999) : (nI a).toInt64 = lN a := nI_l (by omega)
theorem c_gt (x y : Int64) : (nI 0 < lg_cmp x y) = (y < x) := propext (lg_cmp_gt x y)
theorem c_lt (x y : Int64) : (lg_cmp x y < nI 0) = (x < y) := propext (lg_cmp_lt x y)
theorem c_eq (x y : Int64) : (lg_cmp x y = nI 0) = (x = y) := propext (lg_cmp_eq x y)
theorem cmp0 {a : Nat} (h : a ≤ 9999) : (nI 0 < lg_cmp (nI a).toInt64 0) = (¬ a = 0) ∧ (lg_cmp (nI a).toInt64 0 = nI 0) = (a = 0) ∧ (¬ a = 0 → ¬ (nI a).toInt64 = 0) := by
  rw [c_gt, c_eq, nI_l (by omega)]
  have h1 : (lN a = lN 0) ↔ a = 0 := lN_eq (by omega) (by decide)
  have h2 : (lN 0 < lN a) ↔ 0 < a := lN_lt (by decide) (by omega)
  exact ⟨propext (h2.trans Nat.pos_iff_ne_zero), propext h1, fun e q => e (h1.mp q)⟩
section PRC
variable {d : Nat} {h : AH} {b : Nat} {bk : Bk} {G Cp : Nat → Nat → Nat}
theorem c_rule (hs : Sh h) (W : WB bk) (B : CB h b bk G Cp) {s k w : Nat} (hS : s < bk 0 2) (hk : k < bk 20 s) (hw : w ≤ 4000) (z : Int32) (p : Int64) :
    E (d + 2) 346 [.ref (G 2 s), .int (nI k), .long p, .int (nI w), .int z] h = some (some (.long (rlS (bk 21 (8 * s + k)) (bk 22 (8 * s + k)) (bk 23 (8 * s + k)) (bk 24 (8 * s + k)) w z p)), h) := by
  obtain ⟨-, -, -, -, -, -, c, -⟩ := B
  obtain ⟨c1, c2, c3, c4, c5, c6, c7⟩ := c s hS
  obtain ⟨k1, k2, k3, k4⟩ := c7 k hk
  obtain ⟨-, -, -, -, w1, -⟩ := W
  obtain ⟨w2, w3, w4, w5, w6⟩ := w1 s hS
  obtain ⟨w7, w8, w9, w10, w11⟩ := w6 k hk
  have g : ∀ x, gd (nI k) 8 x = x := fun x => gd_nI (by omega) (by decide)
  have f0 := c6 0 (by decide)
  have f1 := c6 1 (by decide)
  have f2 := c6 2 (by decide)
  have f3 := c6 3 (by decide)
  simp only [Nat.add_zero] at f0 f1 f2 f3
  rw [t_346 hs]
  simp only [ck_ok c1, f0.1, f1.1, f2.1, f3.1, Option.bind_some, ck_ok f0.2.1, ck_ok f1.2.1, ck_ok f2.2.1, ck_ok f3.2.1, f0.2.2.1, f1.2.2.1, f2.2.2.1, f3.2.2.1, g, ix_nI (show k < 2 ^ 31 by omega), k1, k2]
  generalize bk 21 (8 * s + k) = kd at *
  generalize bk 22 (8 * s + k) = a at *
  generalize bk 23 (8 * s + k) = pt at *
  generalize bk 24 (8 * s + k) = ov at *
  have q : ∀ j, j < 7 → (nI kd = nI j) = (kd = j) := fun j hj => propext (nI_eq (by omega) (by omega))
  simp only [q 0 (by decide), q 1 (by decide), q 2 (by decide), q 3 (by decide), q 4 (by decide), q 5 (by decide)]
  unfold rlS
  by_cases e0 : kd = 0
  · simp only [if_pos e0]
  by_cases e1 : kd = 1
  · simp only [if_neg e0, if_pos e1, k3 (Or.inl e1), k4 e1]
    simp only [show (nI ov < nI w) = (ov < w) from propext (nI_ltI (by omega) (by omega)), show (nI 0 < nI pt) = (0 < pt) from propext (nI_ltI (by omega) (by omega))]
    by_cases e : ov < w
    · have : 0 < pt := w11 e1
      rw [if_pos e, if_pos e, if_pos this, dz_ok (nI_ne0 this (by omega))]
    · rw [if_neg e, if_neg e]
  by_cases e2 : kd = 2
  · simp only [if_neg e0, if_neg e1, if_pos e2, k3 (Or.inr e2)]
    split <;> rfl
  by_cases e3 : kd = 3
  · simp only [if_neg e0, if_neg e1, if_neg e2, if_pos e3]
    split <;> rfl
  by_cases e4 : kd = 4
  · simp only [if_neg e0, if_neg e1, if_neg e2, if_neg e3, if_pos e4, (cmp0 w8).1]
    by_cases e : a = 0
    · rw [if_neg (by simp [e]), if_pos e]
    · rw [if_pos e, if_neg e, dZ_ok ((cmp0 w8).2.2 e)]
  by_cases e5 : kd = 5
  · simp only [if_neg e0, if_neg e1, if_neg e2, if_neg e3, if_neg e4, if_pos e5]
    rw [t_376 hs]
    split
    · rw [cK_v, t_346_184 hs]
    · rw [cK_v, t_346_184 hs]
  · simp only [if_neg e0, if_neg e1, if_neg e2, if_neg e3, if_neg e4, if_neg e5]
    rw [dZ_ok (by decide)]
theorem c_prF (hs : Sh h) (W : WB bk) (B : CB h b bk G Cp) {s w : Nat} (hS : s < bk 0 2) (hw : w ≤ 4000) (z : Int32) : ∀ (n k : Nat) (p : Int64), k + n = bk 20 s →
    Q (d + 2) 270 5 [some (.ref (G 2 s)), some (.int (nI w)), some (.int z), some (.long p), none, some (.int (nI k))] [] h = some (some (.int (prC (prF bk s w z n k p))), h)
  | 0, k, p, e => by
    have c := (B.2.2.2.2.2.2.1 s hS)
    rw [t_270_5 hs, ck_ok c.1, c.2.2.2.2.1, if_neg (nI_nlt (by omega) (by have := (W.2.2.2.2.1 s hS).2.2.2.1; omega))]
    unfold prC prF
    split <;> rfl
  | n + 1, k, p, e => by
    have c := (B.2.2.2.2.2.2.1 s hS)
    rw [t_270_5 hs, ck_ok c.1, c.2.2.2.2.1, if_pos (nI_lt (by omega) (by have := (W.2.2.2.2.1 s hS).2.2.2.1; omega)), ck_ok c.1, c_rule hs W B hS (by omega) hw, cK_v, t_270_23 hs, nI_add]
    exact c_prF hs W B hS hw z n (k + 1) _ (by omega)
theorem c_prS (hs : Sh h) (W : WB bk) (B : CB h b bk G Cp) {s w : Nat} (hS : s < bk 0 2) (hw : w ≤ 4000) (z : Int32) :
    E (d + 3) 270 [.ref (G 2 s), .int (nI w), .int z] h = some (some (.int (prS bk s w z)), h) := by
  rw [t_270 hs]
  exact c_prF hs W B hS hw z (bk 20 s) 0 0 (by omega)
theorem r_prF (hs : Sh h) (W : WB bk) {v : Nat} (hv : v ≤ 1) (B : RB h v bk) {s w : Nat} (hS : s < bk 0 2) (hw : w ≤ 4000) {z : Nat} (hz : z ≤ 9) : ∀ (n k : Nat) (p : Int64), k + n = bk 20 s →
    Q d 85 17 [some (.ref 189), none, some (.int (nI w)), some (.int (nI z)), some (.int (nI (8 * v + s))), some (.long p), none, some (.int (nI k)), none, none, none, none] [] h = some (some (.int (prC (prF bk s w (nI z) n k p))), h)
  | 0, k, p, e => by
    obtain ⟨-, -, -, -, c, -⟩ := B
    obtain ⟨c1, c2, c3, c4, c5⟩ := c s hS
    obtain ⟨⟨-, -, v1, -⟩, -, -, -, w1, -⟩ := W
    obtain ⟨w2, w3, w4, w5, w6⟩ := w1 s hS
    rw [t_85_17 hs, gd_nI (by omega) (by decide), ix_nI (by omega), c4, if_neg (nI_nlt (by omega) (by omega))]
    unfold prC prF
    split <;> rfl
  | n + 1, k, p, e => by
    have ih := r_prF hs W hv B hS hw hz n (k + 1)
    obtain ⟨-, -, -, -, c, -⟩ := B
    obtain ⟨c1, c2, c3, c4, c5⟩ := c s hS
    obtain ⟨⟨-, -, v1, -⟩, -, -, -, w1, -⟩ := W
    obtain ⟨w2, w3, w4, w5, w6⟩ := w1 s hS
    obtain ⟨w7, w8, w9, w10, w11⟩ := w6 k (by omega)
    obtain ⟨k1, k2, k3, k4⟩ := c5 k (by omega)
    rw [t_85_17 hs, gd_nI (by omega) (by decide), ix_nI (by omega), c4, if_pos (nI_lt (by omega) (by omega)), pk_mul, nI_add]
    have g : ∀ x, gd (nI (8 * (8 * v + s) + k)) 128 x = x := fun x => gd_nI (by omega) (by decide)
    simp only [g, ix_nI (show 8 * (8 * v + s) + k < 2 ^ 31 by omega), k1, k2, nI_add]
    unfold prF
    generalize bk 21 (8 * s + k) = kd at *
    generalize bk 22 (8 * s + k) = a at *
    generalize bk 23 (8 * s + k) = pt at *
    generalize bk 24 (8 * s + k) = ov at *
    have q : ∀ j, 20 ≤ j → j < 27 → (nI (rkR kd) = nI j) = (rkR kd = j) := fun j h1 h2 => propext (nI_eq (by unfold rkR; split <;> omega) (by omega))
    simp only [q 20 (by decide) (by decide), q 21 (by decide) (by decide), q 22 (by decide) (by decide), q 23 (by decide) (by decide), q 24 (by decide) (by decide), q 25 (by decide) (by decide), q 26 (by decide) (by decide)]
    have hk : kd = 0 ∨ kd = 1 ∨ kd = 2 ∨ kd = 3 ∨ kd = 4 ∨ kd = 5 ∨ kd = 6 := by omega
    have r0 : rkR 0 = 20 := rfl
    have r1 : rkR 1 = 21 := rfl
    have r2 : rkR 2 = 23 := rfl
    have r3 : rkR 3 = 24 := rfl
    have r4 : rkR 4 = 25 := rfl
    have r5 : rkR 5 = 26 := rfl
    have r6 : rkR 6 = 27 := rfl
    have a0 : p + 0 = p := Int64.add_zero p
    have m : k + 1 + n = bk 20 s := by omega
    rcases hk with rfl | rfl | rfl | rfl | rfl | rfl | rfl
    · simp only [r0, rlS, Nat.reduceEqDiff, reduceIte]
      exact ih _ m
    · have e1 := k3 rfl
      simp only [r1, rlS, e1.1, e1.2, Nat.reduceEqDiff, reduceIte, a0]
      have c : (nI 0 < nI w - nI ov) = (ov < w) := by
        refine propext ⟨fun q => Decidable.byContradiction fun q2 => ?_, fun q => ?_⟩
        · by_cases e : w = ov
          · subst e
            rw [pk_sub (Nat.le_refl _), Nat.sub_self] at q
            exact absurd q (by decide)
          · exact Int32.lt_asymm q (pk_sneg (by omega) (by omega))
        · rw [pk_sub (by omega)]
          exact nI_lt (by omega) (by omega)
      simp only [c]
      by_cases e : ov < w
      · rw [if_pos e, if_pos e, dz_ok (nI_ne0 (w11 rfl) (by omega))]
        exact ih _ m
      · rw [if_neg e, if_neg e]
        exact ih _ m
    · have e1 := k4 rfl
      simp only [r2, rlS, e1, Nat.reduceEqDiff, reduceIte, a0, c_eq]
      have c : ((nI z).toInt64 = (nI pt).toInt64) = (nI z = nI pt) := by
        rw [nI_l (by omega), nI_l (by omega)]
        exact propext ((lN_eq (by omega) (by omega)).trans (nI_eq (by omega) (by omega)).symm)
      simp only [c]
      by_cases e : nI z = nI pt
      · rw [if_pos e, if_pos e]
        exact ih _ m
      · rw [if_neg e, if_neg e]
        exact ih _ m
    · simp only [r3, rlS, Nat.reduceEqDiff, reduceIte, a0]
      by_cases e : nI 1 < nI z
      · rw [if_pos e, if_pos e]
        exact ih _ m
      · rw [if_neg e, if_neg e]
        exact ih _ m
    · simp only [r4, rlS, Nat.reduceEqDiff, reduceIte, (cmp0 w8).2.1]
      by_cases e : a = 0
      · rw [if_pos e, if_pos e]
        exact ih _ m
      · rw [if_neg e, if_neg e, dZ_ok ((cmp0 w8).2.2 e)]
        exact ih _ m
    · simp only [r5, rlS, Nat.reduceEqDiff, reduceIte]
      by_cases e : lg_cmp p (nI a).toInt64 < nI 0
      · rw [if_pos e, if_pos e]
        exact ih _ m
      · rw [if_neg e, if_neg e]
        exact ih _ m
    · simp only [r6, rlS, Nat.reduceEqDiff, reduceIte]
      rw [dZ_ok (by decide)]
      exact ih _ m
/-- the zone of two offices -/
def dfN (a b : Nat) : Nat := if a < b then b - a else a - b
def znS (bk : Bk) (f t : Nat) : Nat := if f = t then 0 else min 9 (1 + (dfN (bk 3 f) (bk 3 t) + dfN (bk 4 f) (bk 4 t)) / 100)
theorem r_away (hs : Sh h) {a b : Nat} (ha : a < 2 ^ 31) (hb : b < 2 ^ 31) : E (d + 1) 77 [.int (nI a), .int (nI b)] h = some (some (.int (nI (dfN a b))), h) := by
  rw [t_77 hs]
  unfold dfN
  by_cases e : a < b
  · rw [if_pos (nI_lt e hb), if_pos e, pk_sub (by omega)]
  · rw [if_neg (nI_nlt (by omega) ha), if_neg e, pk_sub (by omega)]
theorem r_zone (hs : Sh h) (W : WB bk) {v : Nat} (hv : v ≤ 1) (hN : gI h 3597 189 = nI v) (B : RB h v bk) {f t : Nat} (hf : f < bk 0 0) (ht : t < bk 0 0) : E (d + 2) 84 [.ref 189, .int (nI f), .int (nI t)] h = some (some (.int (nI (znS bk f t))), h) := by
  obtain ⟨⟨v0, -⟩, w0, -⟩ := W
  obtain ⟨-, b0, -⟩ := B
  obtain ⟨-, -, f3, f4⟩ := b0 f hf
  obtain ⟨-, -, t3, t4⟩ := b0 t ht
  have wf := w0 f hf
  have wt := w0 t ht
  rw [t_84 hs, hN, pk_mul, nI_add, nI_add, gd_nI (by omega) (by decide), gd_nI (by omega) (by decide), ix_nI (by omega), ix_nI (by omega), f3, t3, r_away hs (by omega) (by omega), cK_v,
    t_84_37 hs, gd_nI (by omega) (by decide), gd_nI (by omega) (by decide), ix_nI (by omega), ix_nI (by omega), f4, t4, r_away hs (by omega) (by omega), cK_v, t_84_53 hs]
  have q1 : dfN (bk 3 f) (bk 3 t) ≤ 999 := by unfold dfN; split <;> omega
  have q2 : dfN (bk 4 f) (bk 4 t) ≤ 999 := by unfold dfN; split <;> omega
  unfold znS
  simp only [nI_add, dz_ok (show ¬ nI 100 = 0 by decide), show (nI f = nI t) = (f = t) from propext (nI_eq (by omega) (by omega))]
  have q3 : dfN (bk 3 f) (bk 3 t) + dfN (bk 4 f) (bk 4 t) ≤ 1998 := by omega
  generalize dfN (bk 3 f) (bk 3 t) + dfN (bk 4 f) (bk 4 t) = x at *
  by_cases e : f = t
  · rw [if_pos e, if_pos e]
  · rw [if_neg e, if_neg e]
    rw [show nI x / nI 100 = nI (x / 100) from pk_div (by omega) (by decide) (by decide)]
    by_cases e8 : 8 < x / 100
    · rw [if_pos (nI_lt e8 (by omega)), show min 9 (1 + x / 100) = 9 from by omega]
    · rw [if_neg (nI_nlt (by omega) (by omega)), nI_add, show min 9 (1 + x / 100) = x / 100 + 1 from by omega]
theorem m_abs (hs : Sh h) {a b : Nat} (ha : a < 2 ^ 30) (hb : b < 2 ^ 30) : E (d + 1) 345 [.int (nI a - nI b)] h = some (some (.int (nI (dfN a b))), h) := by
  rw [t_345 hs]
  unfold dfN
  by_cases e : a < b
  · rw [if_pos (show nI a - nI b < nI 0 from pk_sneg hb e), if_pos e]
    rw [show -(nI a - nI b) = nI b - nI a from Int32.neg_sub, pk_sub (by omega)]
  · rw [pk_sub (by omega), if_neg (nI_nlt (by omega) (by omega)), if_neg e]
theorem m_min (hs : Sh h) {a b : Nat} (ha : a < 2 ^ 31) (hb : b < 2 ^ 31) : E (d + 1) 302 [.int (nI a), .int (nI b)] h = some (some (.int (nI (min a b))), h) := by
  rw [t_302 hs]
  by_cases e : b < a
  · rw [if_pos (nI_lt e ha), show min a b = b from by omega]
  · rw [if_neg (nI_nlt (by omega) hb), show min a b = a from by omega]
theorem c_zone (hs : Sh h) (W : WB bk) (B : CB h b bk G Cp) {f t : Nat} (hf : f < bk 0 0) (ht : t < bk 0 0) : E (d + 4) 269 [.ref b, .int (nI f), .int (nI t)] h = some (some (.int (nI (znS bk f t))), h) := by
  obtain ⟨⟨v0, -⟩, w0, -⟩ := W
  obtain ⟨c1, -, c3, -, c5, -⟩ := B
  obtain ⟨c6, c7⟩ := c3 0 (by decide)
  have wf := w0 f hf
  have wt := w0 t ht
  obtain ⟨f1, -, -, f3, f4, -⟩ := c5 f hf
  obtain ⟨t1, -, -, t3, t4, -⟩ := c5 t ht
  unfold znS
  rw [t_269 hs]
  simp only [show (nI f = nI t) = (f = t) from propext (nI_eq (by omega) (by omega))]
  by_cases e : f = t
  · rw [if_pos e, if_pos e]
  · have q1 : dfN (bk 3 f) (bk 3 t) ≤ 999 := by unfold dfN; split <;> omega
    have q2 : dfN (bk 4 f) (bk 4 t) ≤ 999 := by unfold dfN; split <;> omega
    rw [if_neg e, if_neg e, ck_ok c1, c6, Option.bind_some, ck_ok c7.1, al_get hs c7 hf, cK_v, t_269_15 hs, ck_ok f1, ck_ok c1, c6, Option.bind_some, ck_ok c7.1, al_get hs c7 ht, cK_v, t_269_27 hs, ck_ok t1, ck_ok f1, ck_ok t1, f3, t3, m_abs hs (by omega) (by omega), cK_v,
      t_269_48 hs, ck_ok f1, ck_ok t1, f4, t4, m_abs hs (by omega) (by omega), cK_v, t_269_61 hs, dz_ok (by decide), nI_add, pk_div (by omega) (by decide) (by decide), nI_add, m_min hs (by omega) (by omega), cK_v, t_269_69 hs]
end PRC
