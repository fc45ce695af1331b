/-! ===== PROGRAMMES: tries and ons have room: how long tokens are ===== -/
theorem rn_n {t : Tp} {m : Nat} : ∀ (k a : Nat), rnB t m k a < a + k → ¬ m ≤ tcd (t.2 (rnB t m k a))
  | 0, a, q => absurd q (by rw [rnB]; omega)
  | k + 1, a, q => by
    rw [rnB] at q ⊢
    by_cases w : m ≤ tcd (t.2 a)
    · rw [if_pos w] at q ⊢
      exact rn_n k (a + 1) (by omega)
    · rw [if_neg w]; exact w
section TLN
variable {t : Tp} {k : Nat}
theorem tkP_s : tkP t k ≤ tS t k ∧ tkP t (k + 1) = tE t k ∧ tE t k ≤ t.1 ∧ (tK t k ≠ 0 → tS t k < tE t k) := by
  have b := tok_b (t := t) (tkP_b (t := t) k)
  exact ⟨b.1, rfl, b.2.2.1, b.2.2.2.2⟩
theorem tkP_1 (h : lk t k ≠ 0) : tkP t k + 1 ≤ tkP t (k + 1) := by
  obtain ⟨a, b, -, c⟩ := tkP_s (t := t) (k := k)
  have := c fun z => h (lk_0.mpr z)
  omega
/-- a word of more than m letters -/
theorem tkP_w {m : Nat} (h : tK t k = 2) (hv : 37 ^ m ≤ tV t k) : tkP t k + m + 1 ≤ tkP t (k + 1) := by
  obtain ⟨a, b, -, c⟩ := tkP_s (t := t) (k := k)
  obtain ⟨y1, -, -, y4⟩ := tok_n h
  have sb : ∀ x, x ∈ sl (tcS t) (tS t k) (tE t k - tS t k) → x < 37 := by
    have go : ∀ (n a : Nat) (x : Nat), x ∈ sl (tcS t) a n → x < 37 := by
      intro n
      induction n with
      | zero => intro a x hx; cases hx
      | succ n ih =>
        intro a x hx
        rcases List.mem_cons.mp hx with q | q
        · rw [q]; exact tcd_b
        · exact ih _ _ q
    exact go _ _
  have lt := pk_b _ 0 0 (by decide) sb
  rw [sl_l, ← y1, Nat.zero_add] at lt
  have : m < tE t k - tS t k := by
    by_cases q : m < tE t k - tS t k
    · exact q
    · have := Nat.pow_le_pow_right (n := 37) (by decide) (show tE t k - tS t k ≤ m by omega)
      omega
  omega
/-- a number token begins with a digit, within the text -/
theorem tok_d (h : tK t k = 3) : 27 ≤ tcS t (tS t k) ∧ tS t k < t.1 := by
  have sg : ∀ c, c ∈ sgL → c ≠ 3 := by decide
  unfold tK tok tokB at h
  unfold tS tok tokB
  generalize skB t (t.1 - tkP t k) (tkP t k) = b at h ⊢
  by_cases q1 : t.1 ≤ b
  · rw [if_pos q1] at h; exact absurd h (by dsimp only; decide)
  rw [if_neg q1] at h ⊢
  by_cases q2 : tcS t b = 0
  · rw [if_pos q2] at h
    exfalso
    dsimp only at h
    by_cases q3 : t.2 b ∈ sgL
    · rw [if_pos q3] at h; exact sg _ q3 h
    · rw [if_neg q3] at h; exact absurd h (by decide)
  rw [if_neg q2] at h ⊢
  by_cases q3 : 27 ≤ tcS t b
  · rw [if_pos q3]
    unfold tokR
    rw [if_pos rfl]
    exact ⟨q3, show b < t.1 by omega⟩
  · rw [if_neg q3] at h
    exfalso
    unfold tokR at h
    rw [if_neg (by decide)] at h
    dsimp only at h
    revert h
    split <;> intro h <;> exact absurd h (by decide)
/-- a name ends where no letter and no digit follows -/
theorem tok_x (h : tK t k = 2) (h2 : tE t k < t.1) : ¬ 1 ≤ tcS t (tE t k) := by
  have sg : ∀ c, c ∈ sgL → c ≠ 2 := by decide
  unfold tK tok tokB at h
  unfold tE tok tokB at h2 ⊢
  generalize skB t (t.1 - tkP t k) (tkP t k) = b at h h2 ⊢
  by_cases q1 : t.1 ≤ b
  · rw [if_pos q1] at h; exact absurd h (by dsimp only; decide)
  rw [if_neg q1] at h h2 ⊢
  by_cases q2 : tcS t b = 0
  · rw [if_pos q2] at h
    exfalso
    dsimp only at h
    by_cases q3 : t.2 b ∈ sgL
    · rw [if_pos q3] at h; exact sg _ q3 h
    · rw [if_neg q3] at h; exact absurd h (by decide)
  rw [if_neg q2] at h h2 ⊢
  by_cases q3 : 27 ≤ tcS t b
  · rw [if_pos q3] at h
    exfalso
    unfold tokR at h
    rw [if_pos rfl] at h
    dsimp only at h
    revert h
    split <;> intro h <;> exact absurd h (by decide)
  · rw [if_neg q3] at h2 ⊢
    unfold tokR at h2 ⊢
    rw [if_neg (by decide)] at h2 ⊢
    have h2 : rnB t 1 (t.1 - b) b < t.1 := h2
    exact rn_n (t := t) (m := 1) (t.1 - b) b (by omega)
theorem tkP_on (h : lk t k = 141) (h3 : lk t (k + 1) = 3) : tkP t k + 4 ≤ tkP t (k + 2) := by
  obtain ⟨q, e⟩ := (lk_wd (t := t) (k := k) (j := 13) (by decide)).mp h
  have w := tkP_w (m := 1) q (by rw [e]; decide +kernel)
  have q3 := lk_3 h3
  obtain ⟨d1, d2⟩ := tok_d q3
  obtain ⟨a, b, c, e1⟩ := tkP_s (t := t) (k := k)
  obtain ⟨a', b', c', e1'⟩ := tkP_s (t := t) (k := k + 1)
  have lt := e1' (by omega)
  have : tE t k ≠ tS t (k + 1) := fun z => by
    have := tok_x q (by omega)
    rw [z] at this
    omega
  have b' : tkP t (k + 2) = tE t (k + 1) := b'
  omega
theorem tkP_try (h : lk t k = 140) : tkP t k + 3 ≤ tkP t (k + 1) := by
  obtain ⟨q, e⟩ := (lk_wd (t := t) (k := k) (j := 12) (by decide)).mp h
  have := tkP_w (m := 2) q (by rw [e]; decide +kernel)
  omega
theorem tkP_4 {M : Nat} (h4 : t.1 ≤ 4000) : tkP t k ≤ 4000 := Nat.le_trans (tkP_b k) h4
/-- the tables have room: s more characters are owed -/
def IBs (t : Tp) (s k d y o : Nat) : Prop := 5 * y ≤ tkP t k + d + s ∧ 6 * o ≤ tkP t k + d + s
theorem IBs.r {s d y o : Nat} (h4 : t.1 ≤ 4000) (i : IBs t s k d y o) (hd : d ≤ 20) (hs : s ≤ 10) : y < 820 ∧ o < 700 := by
  have := tkP_4 (M := 0) (k := k) h4
  unfold IBs at i; omega
end TLN
