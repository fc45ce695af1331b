/-! ===== WHEN COACHES GO ===== -/
/-- the first minute behind t in which a coach (first, every, last) goes -/
def tbS (f e l t : Nat) : Nat := if t % 1440 < f then t - t % 1440 + f else if t % 1440 + e - (t % 1440 - f) % e ≤ l then t - t % 1440 + (t % 1440 + e - (t % 1440 - f) % e) else t - t % 1440 + 1440 + f
theorem tbS_gt {f e l t : Nat} (he : 1 ≤ e) (hl : l ≤ 1439) (hf : f ≤ l) : t < tbS f e l t := by
  unfold tbS
  have := Nat.mod_lt t (show 1440 > 0 by decide)
  have h3 := Nat.mod_lt (t % 1440 - f) he
  have h4 := Nat.mod_le t 1440
  split
  · omega
  · split <;> omega
theorem tbS_le {f e l t : Nat} (he : 1 ≤ e) (hl : l ≤ 1439) (hf : f ≤ l) : tbS f e l t ≤ t + 2880 := by
  unfold tbS
  have := Nat.mod_lt t (show 1440 > 0 by decide)
  have h4 := Nat.mod_le t 1440
  split
  · omega
  · split <;> omega
/-- as the reference reckons it -/
theorem tbS_go {f e l t : Nat} (he : 1 ≤ e) (hl : l ≤ 1439) (hf : f ≤ l) : (if (t + 1) % 1440 ≤ f then 1440 * ((t + 1) / 1440) + f else if f + ((t + 1) % 1440 - f + e - 1) / e * e ≤ l then 1440 * ((t + 1) / 1440) + (f + ((t + 1) % 1440 - f + e - 1) / e * e) else 1440 * ((t + 1) / 1440 + 1) + f) = tbS f e l t := by
  unfold tbS
  have hm := Nat.mod_lt t (show 1440 > 0 by decide)
  have hd := Nat.div_add_mod t 1440
  by_cases h9 : t % 1440 = 1439
  · have a1 : (t + 1) % 1440 = 0 := by omega
    have a2 : 1440 * ((t + 1) / 1440) = t - t % 1440 + 1440 := by omega
    have h3 := Nat.mod_lt (t % 1440 - f) he
    rw [a1, a2, if_pos (Nat.zero_le _), if_neg (by omega), if_neg (by omega)]
  · have a1 : (t + 1) % 1440 = t % 1440 + 1 := by omega
    have a2 : (t + 1) / 1440 = t / 1440 := by omega
    rw [a1, a2]
    by_cases hf2 : t % 1440 < f
    · rw [if_pos (by omega), if_pos hf2]; omega
    · rw [if_neg (by omega), if_neg hf2]
      have e1 : (t % 1440 + 1 - f + e - 1) / e = (t % 1440 - f) / e + 1 := by
        rw [show t % 1440 + 1 - f + e - 1 = (t % 1440 - f) + e from by omega]
        exact Nat.add_div_right _ he
      have e2 := Nat.div_add_mod (t % 1440 - f) e
      have e3 : f + ((t % 1440 - f) / e + 1) * e = t % 1440 + e - (t % 1440 - f) % e := by
        rw [Nat.add_mul, Nat.one_mul, Nat.mul_comm]
        have := Nat.mod_lt (t % 1440 - f) he
        omega
      rw [e1, e3]
      split
      · omega
      · omega
theorem mod_s {x e : Nat} (he : 1 ≤ e) : (x % e + 1 < e ∧ (x + 1) % e = x % e + 1) ∨ (x % e + 1 = e ∧ (x + 1) % e = 0) := by
  have h1 := Nat.div_add_mod x e
  have h2 := Nat.mod_lt x he
  by_cases h : x % e + 1 < e
  · refine Or.inl ⟨h, ?_⟩
    rw [show x + 1 = e * (x / e) + (x % e + 1) from by omega, Nat.mul_add_mod, Nat.mod_eq_of_lt h]
  · have h3 : x % e + 1 = e := by omega
    refine Or.inr ⟨h3, ?_⟩
    rw [show x + 1 = e * (x / e) + (x % e + 1) from by omega, h3, Nat.mul_add_mod, Nat.mod_self]
/-- nothing goes in between -/
theorem tbS_step {f e l t : Nat} (he : 1 ≤ e) (hl : l ≤ 1439) (hf : f ≤ l) (h : tbS f e l t ≠ t + 1) : tbS f e l (t + 1) = tbS f e l t := by
  unfold tbS at *
  have hm := Nat.mod_lt t (show 1440 > 0 by decide)
  have h4 := Nat.mod_le t 1440
  have hr := Nat.mod_lt (t % 1440 - f) he
  rcases mod_s (x := t) (show 1 ≤ 1440 by decide) with ⟨a1, a2⟩ | ⟨a1, a2⟩
  · rw [a2]
    have e0 : t + 1 - (t % 1440 + 1) = t - t % 1440 := by omega
    rw [e0]
    by_cases hq : t % 1440 < f
    · rw [if_pos hq] at h ⊢
      rw [if_pos (by omega)]
    · rw [if_neg hq] at h ⊢
      rw [if_neg (show ¬ t % 1440 + 1 < f by omega)]
      rw [show t % 1440 + 1 - f = (t % 1440 - f) + 1 from by omega]
      rcases mod_s (x := t % 1440 - f) he with ⟨b1, b2⟩ | ⟨b1, b2⟩
      · rw [b2, show t % 1440 + 1 + e - ((t % 1440 - f) % e + 1) = t % 1440 + e - (t % 1440 - f) % e from by omega]
      · rw [b2]
        by_cases hn : t % 1440 + e - (t % 1440 - f) % e ≤ l
        · rw [if_pos hn] at h; omega
        · rw [if_neg hn, if_neg (by omega)]
  · rw [a2]
    have e1 : ¬ t % 1440 < f := by omega
    have e2 : ¬ t % 1440 + e - (t % 1440 - f) % e ≤ l := by omega
    rw [if_neg e1, if_neg e2] at h ⊢
    rw [if_pos (by omega)]
    omega
theorem tbS_mono {f e l : Nat} (he : 1 ≤ e) (hl : l ≤ 1439) (hf : f ≤ l) {s t : Nat} (h : s ≤ t) : tbS f e l s ≤ tbS f e l t := by
  induction h with
  | refl => exact Nat.le_refl _
  | @step m hm ih =>
    by_cases q : tbS f e l m = m + 1
    · have := tbS_gt (t := m + 1) he hl hf
      show _ ≤ tbS f e l (m + 1)
      omega
    · show _ ≤ tbS f e l (m + 1)
      rw [tbS_step he hl hf q]; exact ih
section TIM
variable {d : Nat} {h : AH} {b : Nat} {bk : Bk} {G Cp : Nat → Nat → Nat}
theorem pk_remN {a e : Nat} (ha : a < 2 ^ 31) (h0 : 0 < e) (he : e < 2 ^ 31) : nI a - nI a / nI e * nI e = nI (a % e) := pk_rem ha h0 he
def tbC (bk : Bk) (c t : Nat) : Nat := tbS (bk 27 c) (bk 28 c) (bk 29 c) t
theorem c_time (hs : Sh h) (W : WB bk) (B : CB h b bk G Cp) {c t : Nat} (hc : c < bk 0 3) (ht : t < 2 ^ 30) : E (d + 1) 304 [.ref (G 3 c), .int (nI t)] h = some (some (.int (nI (tbC bk c t))), h) := by
  obtain ⟨-, -, -, -, -, w⟩ := W
  obtain ⟨-, -, w3, w4, w5, w6, -⟩ := w c hc
  obtain ⟨-, -, -, -, -, -, -, cc⟩ := B
  obtain ⟨c1, -, -, c4, c5, c6, -⟩ := cc c hc
  have hm := Nat.mod_lt t (show 1440 > 0 by decide)
  have h4 := Nat.mod_le t 1440
  have h3 := Nat.mod_lt (t % 1440 - bk 27 c) (show bk 28 c > 0 by omega)
  rw [t_304 hs]
  simp only [dz_ok (show ¬ nI 1440 = 0 by decide), ck_ok c1, c4, c5, c6, pk_remN (show t < 2 ^ 31 by omega) (show 0 < 1440 by decide) (show 1440 < 2 ^ 31 by decide), pk_sub h4, nI_add]
  unfold tbC tbS
  by_cases e1 : t % 1440 < bk 27 c
  · rw [if_pos (nI_lt e1 (by omega)), if_pos e1]
  · rw [if_neg (nI_nlt (by omega) (by omega)), if_neg e1, if_pos (nI_lt (by omega) (by omega)), dz_ok (nI_ne0 (by omega) (by omega)), pk_sub (by omega), pk_remN (by omega) (by omega) (by omega), pk_sub (by omega), nI_add]
    by_cases e2 : t % 1440 + bk 28 c - (t % 1440 - bk 27 c) % bk 28 c ≤ bk 29 c
    · rw [if_neg (nI_nlt (by omega) (by omega)), if_pos e2]
    · rw [if_pos (nI_lt (by omega) (by omega)), if_neg e2]
theorem c_goesAt (hs : Sh h) (W : WB bk) (B : CB h b bk G Cp) {c t : Nat} (hc : c < bk 0 3) (ht : t + 1 < 2 ^ 30) : E (d + 1) 305 [.ref (G 3 c), .int (nI (t + 1))] h = some (some (.int (if tbC bk c t = t + 1 then nI 1 else nI 0)), h) := by
  obtain ⟨-, -, -, -, -, w⟩ := W
  obtain ⟨-, -, w3, w4, w5, w6, -⟩ := w c hc
  obtain ⟨-, -, -, -, -, -, -, cc⟩ := B
  obtain ⟨c1, -, -, c4, c5, c6, -⟩ := cc c hc
  have hm := Nat.mod_lt (t + 1) (show 1440 > 0 by decide)
  have h4 := Nat.mod_le (t + 1) 1440
  have h3 := Nat.mod_lt ((t + 1) % 1440 - bk 27 c) (show bk 28 c > 0 by omega)
  rw [t_305 hs]
  simp only [dz_ok (show ¬ nI 1440 = 0 by decide), ck_ok c1, c4, c5, c6, pk_remN (show t + 1 < 2 ^ 31 by omega) (show 0 < 1440 by decide) (show 1440 < 2 ^ 31 by decide)]
  have key := tbS_go (t := t) w5 w4 w3
  unfold tbC
  rw [← key]
  have e0 := Nat.div_add_mod (t + 1) 1440
  by_cases e1 : (t + 1) % 1440 < bk 27 c
  · rw [if_pos (nI_lt e1 (by omega)), if_pos (show (t + 1) % 1440 ≤ bk 27 c by omega), if_neg (by omega)]
  · rw [if_neg (nI_nlt (by omega) (by omega))]
    by_cases e2 : bk 29 c < (t + 1) % 1440
    · rw [if_pos (nI_lt e2 (by omega)), if_neg]
      rw [if_neg (show ¬ (t + 1) % 1440 ≤ bk 27 c by omega)]
      split <;> omega
    · rw [if_neg (nI_nlt (by omega) (by omega)), if_pos (nI_lt (by omega) (by omega)), dz_ok (nI_ne0 (by omega) (by omega)), pk_sub (by omega), pk_remN (by omega) (by omega) (by omega)]
      have e5 := Nat.div_add_mod ((t + 1) % 1440 - bk 27 c) (bk 28 c)
      by_cases e3 : ((t + 1) % 1440 - bk 27 c) % bk 28 c = 0
      · rw [e3, if_pos rfl, if_pos]
        by_cases e4 : (t + 1) % 1440 ≤ bk 27 c
        · rw [if_pos e4]; omega
        · rw [if_neg e4]
          have q : ((t + 1) % 1440 - bk 27 c + bk 28 c - 1) / bk 28 c = ((t + 1) % 1440 - bk 27 c) / bk 28 c := by
            rw [e3] at e5
            rw [show (t + 1) % 1440 - bk 27 c + bk 28 c - 1 = (bk 28 c - 1) + bk 28 c * (((t + 1) % 1440 - bk 27 c) / bk 28 c) from by omega]
            rw [Nat.add_mul_div_left _ _ (by omega), Nat.div_eq_of_lt (by omega), Nat.zero_add]
          rw [q, Nat.mul_comm (((t + 1) % 1440 - bk 27 c) / bk 28 c)]
          rw [if_pos (by omega)]; omega
      · rw [if_neg (show ¬ nI (((t + 1) % 1440 - bk 27 c) % bk 28 c) = nI 0 from nI_ne0 (by omega) (by omega)), if_neg]
        by_cases e4 : (t + 1) % 1440 ≤ bk 27 c
        · exact absurd (by rw [show (t + 1) % 1440 - bk 27 c = 0 from by omega]; exact Nat.zero_mod _) e3
        · rw [if_neg e4]
          have q : ((t + 1) % 1440 - bk 27 c + bk 28 c - 1) / bk 28 c = ((t + 1) % 1440 - bk 27 c) / bk 28 c + 1 := by
            rw [show (t + 1) % 1440 - bk 27 c + bk 28 c - 1 = (((t + 1) % 1440 - bk 27 c) % bk 28 c - 1) + bk 28 c * (((t + 1) % 1440 - bk 27 c) / bk 28 c + 1) from by rw [Nat.mul_add]; omega]
            rw [Nat.add_mul_div_left _ _ (by omega), Nat.div_eq_of_lt (by omega), Nat.zero_add]
          rw [q, Nat.mul_comm, Nat.mul_add]
          split <;> omega
theorem r_goes (hs : Sh h) (W : WB bk) {v : Nat} (hv : v ≤ 1) (hN : gI h 3597 189 = nI v) (B : RB h v bk) {c t : Nat} (hc : c < bk 0 3) (ht : t < 2 ^ 30) : E (d + 1) 104 [.ref 189, .int (nI c), .int (nI t)] h = some (some (.int (nI (tbC bk c t))), h) := by
  obtain ⟨⟨-, -, -, v3, -⟩, -, -, -, -, w⟩ := W
  obtain ⟨-, -, w3, w4, w5, w6, -⟩ := w c hc
  obtain ⟨-, -, -, -, -, cc⟩ := B
  obtain ⟨-, -, c3, c4, c5, -⟩ := cc c hc
  have hm := Nat.mod_lt (t + 1) (show 1440 > 0 by decide)
  have g : ∀ x, gd (nI (40 * v + c)) 80 x = x := fun x => gd_nI (by omega) (by decide)
  rw [t_104 hs]
  simp only [dz_ok (show ¬ nI 1440 = 0 by decide), hN, pk_mul, nI_add, g, ix_nI (show 40 * v + c < 2 ^ 31 by omega), c3, c4, c5, pk_remN (show t + 1 < 2 ^ 31 by omega) (show 0 < 1440 by decide) (show 1440 < 2 ^ 31 by decide), dz_ok (nI_ne0 (show 0 < bk 28 c by omega) (by omega))]
  simp only [pk_div (show t + 1 < 2 ^ 31 by omega) (show 0 < 1440 by decide) (show 1440 < 2 ^ 31 by decide), pk_mul, nI_add]
  unfold tbC
  rw [← tbS_go (t := t) w5 w4 w3]
  by_cases e1 : (t + 1) % 1440 ≤ bk 27 c
  · rw [if_neg (nI_nlt e1 (by omega)), if_pos e1]
  · have q0 : ((t + 1) % 1440 - bk 27 c + bk 28 c - 1) / bk 28 c ≤ (t + 1) % 1440 - bk 27 c + bk 28 c - 1 := Nat.div_le_self _ _
    have q1 : ((t + 1) % 1440 - bk 27 c + bk 28 c - 1) / bk 28 c * bk 28 c ≤ (t + 1) % 1440 - bk 27 c + bk 28 c - 1 := Nat.div_mul_le_self _ _
    rw [if_pos (nI_lt (by omega) (by omega)), if_neg e1, pk_sub (by omega), nI_add, pk_sub (by omega), pk_div (by omega) (by omega) (by omega), pk_mul, nI_add]
    by_cases e2 : bk 27 c + ((t + 1) % 1440 - bk 27 c + bk 28 c - 1) / bk 28 c * bk 28 c ≤ bk 29 c
    · rw [if_neg (nI_nlt e2 (by omega)), if_pos e2, nI_add]
    · rw [if_pos (nI_lt (by omega) (by omega)), if_neg e2]
end TIM
