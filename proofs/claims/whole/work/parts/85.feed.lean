/-! ===== FEED ===== -/
def byR (w : Int64) (s : Int32) : Int32 := ((w >>> (s.toInt64 &&& 63)).toInt32) &&& (nI 255)
def byC (w : Int64) (s : Int32) : Int32 := (((w.toUInt64 >>> (s.toInt64.toUInt64 &&& Int64.toUInt64 63)).toInt64).toInt32) &&& (nI 255)
theorem byC_eq (w : Int64) (k : Nat) (hk : k < 57) : byC w (nI k) = byR w (nI k) := by
  unfold byC byR
  have e1 : ∀ k, k < 57 → ((nI k).toInt64 &&& 63).toBitVec.smod 64#64 = BitVec.ofNat 64 k := by decide +kernel
  have e2 : ∀ k, k < 57 → ((BitVec.signExtend 64 (nI k).toBitVec).toNat &&& 63) % 64 = k := by decide +kernel
  apply Int32.toBitVec_inj.1
  apply BitVec.eq_of_getLsbD_eq
  intro i hi
  simp only [Int32.toBitVec_and, BitVec.getLsbD_and]
  by_cases h8 : i < 8
  · congr 1
    have e3 := e1 k hk
    simp at e3
    simp
    rw [e2 k hk, e3]
    simp only [BitVec.getLsbD_signExtend, BitVec.getLsbD_ushiftRight, BitVec.getLsbD_sshiftRight, BitVec.toNat_ofNat]
    rw [Nat.mod_eq_of_lt (by omega : k < 2 ^ 64), if_pos (by omega), if_pos (by omega)]
    simp only [hi, show ¬ (64 ≤ i) from by omega, decide_true, decide_false, Bool.not_false, Bool.true_and]
    rw [if_pos (by omega)]
  · have : (nI 255).toBitVec.getLsbD i = false := by
      show (BitVec.ofNat 32 255).getLsbD i = false
      rw [BitVec.getLsbD_ofNat]
      have : Nat.testBit 255 i = false := Nat.testBit_lt_two_pow (by calc 255 < 2 ^ 8 := by decide
            _ ≤ 2 ^ i := Nat.pow_le_pow_right (by decide) (by omega))
      rw [this, Bool.and_false]
    rw [this, Bool.and_false, Bool.and_false]
theorem byR_N (w : Int64) (s : Int32) : ∃ b : Nat, b < 256 ∧ byR w s = nI b := pk_andE _ (m := nI 255) 8 (by decide)
/-- a tape: how long, its signs -/
abbrev Tp : Type := Nat × (Nat → Nat)
def tpB (b : Nat) (t : Tp) : Tp := if (b = 10 ∨ 32 ≤ b ∧ b ≤ 126) ∧ t.1 < 4000 then (t.1 + 1, up1 t.2 t.1 b) else t
/-- the bytes of a long, the highest first -/
def tpW (w : Int64) : Nat → Tp → Tp
  | 0, t => t
  | j + 1, t => tpW w j (tpB (ix (byR w (nI (8 * j)))) t)
def RT (h : AH) (t : Tp) : Prop := gI h 3590 189 = nI t.1 ∧ t.1 ≤ 4000 ∧ ∀ i, i < t.1 → gA h 193 i = nI (t.2 i) ∧ (t.2 i = 10 ∨ 32 ≤ t.2 i ∧ t.2 i ≤ 126)
def CT (h : AH) (t : Tp) : Prop := gI h 3073 101 = nI t.1 ∧ t.1 ≤ 4000 ∧ ∀ i, i < t.1 → gA h 102 i = nI (t.2 i) ∧ (t.2 i = 10 ∨ 32 ≤ t.2 i ∧ t.2 i ≤ 126)
theorem m8 (a : Nat) : nI (8 * (a + 1)) + (-8) = nI (8 * a) := by
  rw [show 8 * (a + 1) = 8 * a + 8 from by omega, ← nI_add, Int32.add_assoc, show nI 8 + (-8) = 0 from by decide, Int32.add_zero]
section FD
variable {d : Nat}
theorem lay1 {w : Int64} {s : Int32} {h : AH} {t : Tp} (hs : Sh h) (h0 : ¬ s < nI 0) (T : RT h t) :
    ∃ h', Q d 34 3 [some (.ref 189), some (.long w), none, some (.int s), none] [] h = Q d 34 3 [some (.ref 189), some (.long w), none, some (.int (s + (-8))), none] [] h' ∧ Fr [3590] [193] h h' ∧ RT h' (tpB (ix (byR w s)) t) := by
  obtain ⟨T1, T2, T3⟩ := T
  obtain ⟨b, hb, e⟩ := byR_N w s
  have e' : ((w >>> (s.toInt64 &&& 63)).toInt32) &&& (nI 255) = nI b := e
  rw [t_34_3 hs, if_neg h0, e, ix_nI (by omega), e', T1]
  simp only [show (nI b = nI 10) = (b = 10) from propext (nI_eq (by omega) (by decide)), show (nI b < nI 32) = (b < 32) from propext (nI_ltI (by omega) (by decide)), show (nI 126 < nI b) = (126 < b) from propext (nI_ltI (by decide) (by omega)), show (nI t.1 < nI 4000) = (t.1 < 4000) from propext (nI_ltI (by omega) (by decide))]
  unfold tpB
  by_cases hc : (b = 10 ∨ 32 ≤ b ∧ b ≤ 126) ∧ t.1 < 4000
  · rw [if_pos hc]
    have g : ∀ x, gd (nI t.1) 4000 x = x := fun x => gd_nI hc.2 (by decide)
    refine ⟨sI (sA h 193 (ix (nI t.1)) (nI b)) 3590 189 (nI t.1 + nI 1), ?_, (Fr.rfl.sA (by decide)).sI (by decide), ?_⟩
    · simp only [g, if_pos hc.2]
      by_cases h1 : b = 10
      · rw [if_pos h1]
      · rw [if_neg h1, if_neg (by omega), if_neg (by omega)]
    · refine ⟨nI_add _ _, by dsimp only; omega, fun i hi => ?_⟩
      rw [ix_nI (by omega)]
      show up2 (gA h) 193 t.1 (nI b) 193 i = nI (up1 t.2 t.1 b i) ∧ _
      by_cases hi2 : i = t.1
      · rw [hi2, up2_s]
        show nI b = nI (up1 t.2 t.1 b t.1) ∧ (up1 t.2 t.1 b t.1 = 10 ∨ 32 ≤ up1 t.2 t.1 b t.1 ∧ up1 t.2 t.1 b t.1 ≤ 126)
        rw [up1_s]; exact ⟨rfl, hc.1⟩
      · have hi : i < t.1 + 1 := hi
        show up2 (gA h) 193 t.1 (nI b) 193 i = nI (up1 t.2 t.1 b i) ∧ (up1 t.2 t.1 b i = 10 ∨ 32 ≤ up1 t.2 t.1 b i ∧ up1 t.2 t.1 b i ≤ 126)
        rw [up2_x hi2, up1_x hi2]; exact T3 i (by omega)
  · rw [if_neg hc]
    refine ⟨h, ?_, Fr.rfl, T1, T2, T3⟩
    by_cases h4 : t.1 < 4000
    · by_cases h1 : b = 10
      · exact absurd ⟨Or.inl h1, h4⟩ hc
      · rw [if_neg h1]
        by_cases h2 : b < 32
        · rw [if_pos h2]
        · rw [if_neg h2, if_pos (by omega)]
    · simp only [if_neg h4]
      by_cases h1 : b = 10
      · rw [if_pos h1]
      · rw [if_neg h1]
        split
        · rfl
        · split <;> rfl
theorem lay_lp {w : Int64} : ∀ (j : Nat) (h : AH) (t : Tp), j ≤ 7 → Sh h → RT h t → ∃ h', Q d 34 3 [some (.ref 189), some (.long w), none, some (.int (nI (8 * j))), none] [] h = some (none, h') ∧ Fr [3590] [193] h h' ∧ RT h' (tpW w (j + 1) t)
  | 0, h, t, hj, hs, T => by
    obtain ⟨h1, a1, a2, a3⟩ := lay1 (d := d) (w := w) (s := nI (8 * 0)) hs (by decide) T
    refine ⟨h1, ?_, a2, a3⟩
    rw [a1, t_34_3 (a2.sh hs), if_pos (by decide)]
  | j + 1, h, t, hj, hs, T => by
    obtain ⟨h1, a1, a2, a3⟩ := lay1 (d := d) (w := w) (s := nI (8 * (j + 1))) hs (nI_nlt (by omega) (by omega)) T
    rw [m8] at a1
    obtain ⟨h2, b1, b2, b3⟩ := lay_lp j h1 _ (by omega) (a2.sh hs) a3
    exact ⟨h2, a1.trans b1, a2.trans b2, b3⟩
theorem r_lay {w : Int64} {h : AH} {t : Tp} (hs : Sh h) (T : RT h t) : ∃ h', E (d + 1) 34 [.ref 189, .long w] h = some (none, h') ∧ Fr [3590] [193] h h' ∧ RT h' (tpW w 8 t) := by
  obtain ⟨h1, a1, a2, a3⟩ := lay_lp (d := d) (w := w) 7 h t (by omega) hs T
  exact ⟨h1, by rw [t_34 hs]; exact a1, a2, a3⟩
theorem r_feed {a b c : Int64} {h : AH} {t : Tp} (hs : Sh h) (T : RT h t) : ∃ h', E (d + 2) 33 [.ref 189, .long a, .long b, .long c] h = some (some (.int (nI (tpW c 8 (tpW b 8 (tpW a 8 t))).1)), h') ∧ Fr [3586, 3590] [193] h h' ∧ RT h' (tpW c 8 (tpW b 8 (tpW a 8 t))) := by
  have T0 : RT (sI h 3586 189 (nI 0)) t := T
  obtain ⟨h1, a1, a2, a3⟩ := r_lay (d := d) (w := a) (h := sI h 3586 189 (nI 0)) hs.sI T0
  have hs1 := a2.sh hs.sI
  obtain ⟨h2, b1, b2, b3⟩ := r_lay (d := d) (w := b) hs1 a3
  have hs2 := b2.sh hs1
  obtain ⟨h3, c1, c2, c3⟩ := r_lay (d := d) (w := c) hs2 b3
  refine ⟨h3, ?_, (((Fr.rfl.sI (by decide) : Fr [3586, 3590] [193] h (sI h 3586 189 (nI 0))).trans (a2.wk (by decide) (by decide))).trans (b2.wk (by decide) (by decide))).trans (c2.wk (by decide) (by decide)), c3⟩
  rw [t_33 hs, a1, cK_n, t_33_10 hs1, b1, cK_n, t_33_15 hs2, c1, cK_n, t_33_21 (c2.sh hs2), c3.1]
theorem chr_N : ∀ b, b < 256 → nrA 62 (((nI b).toUInt32 % 65536).toInt32) = nI b := by decide +kernel
theorem app1 {w : Int64} {k : Nat} {h : AH} {t : Tp} (hk : k < 57) (hs : Sh h) (T : CT h t) :
    ∃ h', Q d 192 3 [some (.ref 101), some (.long w), none, some (.int (nI k)), none] [] h = Q d 192 3 [some (.ref 101), some (.long w), none, some (.int (nI k + (-8))), none] [] h' ∧ Fr [3073] [102] h h' ∧ CT h' (tpB (ix (byR w (nI k))) t) := by
  obtain ⟨T1, T2, T3⟩ := T
  obtain ⟨b, hb, e⟩ := byR_N w (nI k)
  have e' : (((w.toUInt64 >>> ((nI k).toInt64.toUInt64 &&& Int64.toUInt64 63)).toInt64).toInt32) &&& (nI 255) = nI b := (byC_eq w k hk).trans e
  rw [t_192_3 hs, if_neg (nI_nlt (by omega) (by omega)), e, ix_nI (by omega), e', T1, chr_N b hb]
  simp only [show (nI b = nI 10) = (b = 10) from propext (nI_eq (by omega) (by decide)), show (nI b < nI 32) = (b < 32) from propext (nI_ltI (by omega) (by decide)), show (nI 126 < nI b) = (126 < b) from propext (nI_ltI (by decide) (by omega)), show (nI t.1 < nI 4000) = (t.1 < 4000) from propext (nI_ltI (by omega) (by decide))]
  unfold tpB
  by_cases hc : (b = 10 ∨ 32 ≤ b ∧ b ≤ 126) ∧ t.1 < 4000
  · rw [if_pos hc]
    have g : ∀ x, gd (nI t.1) 4000 x = x := fun x => gd_nI hc.2 (by decide)
    refine ⟨sI (sA h 102 (ix (nI t.1)) (nI b)) 3073 101 (nI t.1 + nI 1), ?_, (Fr.rfl.sA (by decide)).sI (by decide), ?_⟩
    · simp only [g, if_pos hc.2]
      by_cases h1 : b = 10
      · rw [if_pos h1]
      · rw [if_neg h1, if_neg (by omega), if_neg (by omega)]
    · refine ⟨nI_add _ _, by dsimp only; omega, fun i hi => ?_⟩
      rw [ix_nI (by omega)]
      show up2 (gA h) 102 t.1 (nI b) 102 i = nI (up1 t.2 t.1 b i) ∧ (up1 t.2 t.1 b i = 10 ∨ 32 ≤ up1 t.2 t.1 b i ∧ up1 t.2 t.1 b i ≤ 126)
      by_cases hi2 : i = t.1
      · rw [hi2, up2_s, up1_s]; exact ⟨rfl, hc.1⟩
      · have hi : i < t.1 + 1 := hi
        rw [up2_x hi2, up1_x hi2]; exact T3 i (by omega)
  · rw [if_neg hc]
    refine ⟨h, ?_, Fr.rfl, T1, T2, T3⟩
    by_cases h4 : t.1 < 4000
    · rw [if_pos h4]
      by_cases h1 : b = 10
      · exact absurd ⟨Or.inl h1, h4⟩ hc
      · rw [if_neg h1]
        by_cases h2 : b < 32
        · rw [if_pos h2]
        · rw [if_neg h2, if_pos (by omega)]
    · rw [if_neg h4]
theorem app_lp {w : Int64} : ∀ (j : Nat) (h : AH) (t : Tp), j ≤ 7 → Sh h → CT h t → ∃ h', Q d 192 3 [some (.ref 101), some (.long w), none, some (.int (nI (8 * j))), none] [] h = some (none, h') ∧ Fr [3073] [102] h h' ∧ CT h' (tpW w (j + 1) t)
  | 0, h, t, hj, hs, T => by
    obtain ⟨h1, a1, a2, a3⟩ := app1 (d := d) (w := w) (k := 8 * 0) (by omega) hs T
    refine ⟨h1, ?_, a2, a3⟩
    rw [a1, t_192_3 (a2.sh hs), if_pos (by decide)]
  | j + 1, h, t, hj, hs, T => by
    obtain ⟨h1, a1, a2, a3⟩ := app1 (d := d) (w := w) (k := 8 * (j + 1)) (by omega) hs T
    rw [m8] at a1
    obtain ⟨h2, b1, b2, b3⟩ := app_lp j h1 _ (by omega) (a2.sh hs) a3
    exact ⟨h2, a1.trans b1, a2.trans b2, b3⟩
theorem c_app {w : Int64} {h : AH} {t : Tp} (hs : Sh h) (T : CT h t) : ∃ h', E (d + 1) 192 [.ref 101, .long w] h = some (none, h') ∧ Fr [3073] [102] h h' ∧ CT h' (tpW w 8 t) := by
  obtain ⟨h1, a1, a2, a3⟩ := app_lp (d := d) (w := w) 7 h t (by omega) hs T
  exact ⟨h1, by rw [t_192 hs]; exact a1, a2, a3⟩
theorem c_feed {a b c : Int64} {h : AH} {t : Tp} (hs : Sh h) (T : CT h t) : ∃ h', E (d + 2) 2 [.ref 100, .long a, .long b, .long c] h = some (some (.int (nI (tpW c 8 (tpW b 8 (tpW a 8 t))).1)), h') ∧ Fr [3073] [102] h h' ∧ CT h' (tpW c 8 (tpW b 8 (tpW a 8 t))) := by
  obtain ⟨h1, a1, a2, a3⟩ := c_app (d := d) (w := a) hs T
  have hs1 := a2.sh hs
  obtain ⟨h2, b1, b2, b3⟩ := c_app (d := d) (w := b) hs1 a3
  have hs2 := b2.sh hs1
  obtain ⟨h3, c1, c2, c3⟩ := c_app (d := d) (w := c) hs2 b3
  refine ⟨h3, ?_, (a2.trans b2).trans c2, c3⟩
  rw [t_2 hs, a1, cK_n, t_2_8 hs1, b1, cK_n, t_2_16 hs2, c1, cK_n, t_2_25 (c2.sh hs2), c3.1]
end FD
