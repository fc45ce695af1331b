/-! ===== PROGRAMMES: the reference writes units and items ===== -/
/-- the place of word w among the words of programmes -/
def wix (w : Nat) : Nat := if w = 9 then 17 else if w ≤ 18 then w + 13 else if w ≤ 50 then w - 34 else if w ≤ 61 then w - 33 else w - 30
theorem wix_ok : ∀ w, w < 74 → (w = 9 ∨ 16 ≤ w ∧ w ≤ 18 ∨ 34 ≤ w) → wix w < 44 ∧ wLn.getD (wix w) 0 = w := by decide
section RUN
variable {t : Tp} {M B N d k n c : Nat} {r : Nat × Nat} {h : AH}
theorem hw_1 {w : Nat} (S : SRs h t M k 0 c d B) (hw : w < 74) (hx : w = 9 ∨ 16 ≤ w ∧ w ≤ 18 ∨ 34 ≤ w) (hn : 2 ≤ n) (q : lk t k = 128 + wix w) : ∃ h', E n 55 [.ref 189, .int (nI w)] h = some (some (.int (nI 1)), h') ∧ RSp h h' t M c d B [] (k + 1) 0 := by
  obtain ⟨a, b⟩ := wix_ok w hw hx
  obtain ⟨h', e1, e2, e3⟩ := r_hw S a b hn
  rw [if_pos q] at e3
  rw [if_pos ⟨rfl, q⟩] at e1
  exact ⟨h', e1, e2, e3⟩
theorem hw_0 {w f : Nat} (S : SRs h t M k f c d B) (hw : w < 74) (hx : w = 9 ∨ 16 ≤ w ∧ w ≤ 18 ∨ 34 ≤ w) (hn : 2 ≤ n) (q : ¬ (f = 0 ∧ lk t k = 128 + wix w)) : ∃ h', E n 55 [.ref 189, .int (nI w)] h = some (some (.int (nI 0)), h') ∧ RSp h h' t M c d B [] k f := by
  obtain ⟨a, b⟩ := wix_ok w hw hx
  obtain ⟨h', e1, e2, e3⟩ := r_hw S a b hn
  rw [if_neg q] at e1
  refine ⟨h', e1, e2, ?_⟩
  by_cases z : f = 0
  · rw [if_neg (fun y => q ⟨z, y⟩)] at e3; exact e3
  · exact e3.any z k
/-- one of a row of words: none of them -/
theorem r_56n {a b f : Nat} (hb : b < 74) (hv : ∀ w, a ≤ w → w ≤ b → w = 9 ∨ 16 ≤ w ∧ w ≤ 18 ∨ 34 ≤ w) (hn : 2 ≤ n) (hc : c ≤ 4400) (hno : ∀ w, a ≤ w → w ≤ b → ¬ (f = 0 ∧ lk t k = 128 + wix w)) : ∀ (m x3 : Nat) (h : AH), x3 + m = b + 1 → a ≤ x3 → SRs h t M k f c d B → ∃ h', Q n 56 2 [some (.ref 189), some (.int (nI a)), some (.int (nI b)), some (.int (nI x3))] [] h = some (some (.int (nI 0)), h') ∧ RSp h h' t M c d B [] k (if f = 0 then fX t 1 k else f)
  | 0, x3, h, e, ha, S => by
    obtain ⟨h1, a1, a2, a3⟩ := r_wr S (x := 1) (n := n) (by decide) (by decide) (by omega)
    rw [t_56_2 S.1, if_pos (nI_lt (by omega) (by omega)), a1, cK_n, t_56_30 a3.1]
    exact ⟨h1, rfl, RSp.mk a2 (by decide) a3⟩
  | m + 1, x3, h, e, ha, S => by
    obtain ⟨h1, a1, a2⟩ := hw_0 S (w := x3) (n := n) (by omega) (hv _ ha (by omega)) hn (hno _ ha (by omega))
    rw [t_56_2 S.1, if_neg (nI_nlt (by omega) (by omega)), a1, cK_v, t_56_12 a2.2.1, if_pos rfl, nI_add]
    obtain ⟨h2, b1, b2⟩ := r_56n hb hv hn hc hno m (x3 + 1) h1 (by omega) (by omega) a2.2
    exact ⟨h2, b1, a2.nl b2 hc⟩
theorem r_56y {a b w0 : Nat} (hb : b < 74) (h0 : a ≤ w0 ∧ w0 ≤ b) (hv : ∀ w, a ≤ w → w ≤ b → w = 9 ∨ 16 ≤ w ∧ w ≤ 18 ∨ 34 ≤ w) (hn : 2 ≤ n) (hc : c ≤ 4400) (q : lk t k = 128 + wix w0) : ∀ (m x3 : Nat) (h : AH), x3 + m = w0 → a ≤ x3 → SRs h t M k 0 c d B → ∃ h', Q n 56 2 [some (.ref 189), some (.int (nI a)), some (.int (nI b)), some (.int (nI x3))] [] h = some (some (.int (nI (w0 - a))), h') ∧ RSp h h' t M c d B [] (k + 1) 0
  | 0, x3, h, e, ha, S => by
    have e : x3 = w0 := e
    subst e
    obtain ⟨h1, a1, a2⟩ := hw_1 S (w := x3) (n := n) (by omega) (hv _ ha (by omega)) hn q
    rw [t_56_2 S.1, if_neg (nI_nlt (by omega) (by omega)), a1, cK_v, t_56_12 a2.2.1, if_neg (by decide), pk_sub ha]
    exact ⟨h1, rfl, a2⟩
  | m + 1, x3, h, e, ha, S => by
    have ne : ¬ (0 = 0 ∧ lk t k = 128 + wix x3) := fun z => by
      have z := z.2
      rw [q] at z
      have i1 := (wix_ok x3 (by omega) (hv _ ha (by omega))).2
      have i2 := (wix_ok w0 (by omega) (hv _ (by omega) (by omega))).2
      rw [show wix x3 = wix w0 by omega, i2] at i1
      omega
    obtain ⟨h1, a1, a2⟩ := hw_0 S (w := x3) (n := n) (by omega) (hv _ ha (by omega)) hn ne
    rw [t_56_2 S.1, if_neg (nI_nlt (by omega) (by omega)), a1, cK_v, t_56_12 a2.2.1, if_pos rfl, nI_add]
    obtain ⟨h2, b1, b2⟩ := r_56y hb h0 hv hn hc q m (x3 + 1) h1 (by omega) (by omega) a2.2
    exact ⟨h2, b1, a2.nl b2 hc⟩
theorem r_56 {a b w0 : Nat} (S : SRs h t M k 0 c d B) (hb : b < 74) (h0 : a ≤ w0 ∧ w0 ≤ b) (hv : ∀ w, a ≤ w → w ≤ b → w = 9 ∨ 16 ≤ w ∧ w ≤ 18 ∨ 34 ≤ w) (hn : 3 ≤ n) (hc : c ≤ 4400) (q : lk t k = 128 + wix w0) : ∃ h', E n 56 [.ref 189, .int (nI a), .int (nI b)] h = some (some (.int (nI (w0 - a))), h') ∧ RSp h h' t M c d B [] (k + 1) 0 := by
  obtain ⟨m, rfl⟩ : ∃ m, n = m + 1 := ⟨n - 1, by omega⟩
  rw [t_56 S.1]
  exact r_56y hb h0 hv (by omega) hc q (w0 - a) a h (by omega) (Nat.le_refl _) S
theorem RPo.one {P : Nat → Cds → Prop} {h h1 : AH} {be c d tl k : Nat} {r : Nat × Nat} (a : RSp h h1 t M c d B [] k 0) (z : r = (0, k)) (hb : be ≤ k) (hk : k ≤ M) (hP : P k []) : RPo P (some (none, h1)) h t M be c d B r tl := by
  subst z
  exact ⟨h1, [], rfl, a, fun _ => ⟨hP, hb, hk⟩, fun y => absurd rfl y⟩
theorem pr_141 (ih : PRH t M B N) (h4 : M ≤ 4000) (e : (if lk t k = 143 ∨ lk t k = 144 then px t N 10 (d + 1) (k + 1) else if 146 ≤ lk t k ∧ lk t k ≤ 150 then px t N 9 (d + 1) (k + 1) else some (0, k + 1)) = some r) (S : SRs h t M k 0 c (d + 1) B) (hc : c ≤ k) (hk : k ≤ M) (hd : d < 20) (hn : 12 + 7 * (20 - d) ≤ n) (q : 143 ≤ lk t k ∧ lk t k ≤ 153 ∧ lk t k ≠ 145) : RPo (CE1 t (CE t N) 8 d k) (E n 141 [.ref 189] h) h t M k c (d + 1) B r (8 * (21 - d)) := by
  obtain ⟨m, rfl⟩ : ∃ m, n = m + 1 := ⟨n - 1, by omega⟩
  have lm := S.me.lk (k := k) (by omega)
  have st : ∀ w0, 49 ≤ w0 ∧ w0 ≤ 58 → lk t k = 128 + wix w0 → ∃ h1, cK (E m 56 [.ref 189, .int (nI 49), .int (nI 58)] h) (Q m 141 10 [some (.ref 189), none, none]) [.int (nI 49)] = Q m 141 10 [some (.ref 189), none, none] [.int (nI (w0 - 49)), .int (nI 49)] h1 ∧ RSp h h1 t M c (d + 1) B [] (k + 1) 0 := fun w0 h0 hq => by
    obtain ⟨h1, a1, a2⟩ := r_56 S (a := 49) (b := 58) (n := m) (by decide) h0 (fun w _ _ => by omega) (by omega) (by omega) hq
    exact ⟨h1, by rw [a1, cK_v], a2⟩
  rw [t_141 S.1]
  have cs : lk t k = 143 ∨ lk t k = 144 ∨ lk t k = 146 ∨ lk t k = 147 ∨ lk t k = 148 ∨ lk t k = 149 ∨ lk t k = 150 ∨ lk t k = 151 ∨ lk t k = 152 ∨ lk t k = 153 := by omega
  rcases cs with q | q | q | q | q | q | q | q | q | q
  · obtain ⟨h1, a1, a2⟩ := st 49 (by decide) (by rw [q]; decide)
    rw [if_pos (by omega)] at e
    rw [a1, t_141_10 a2.2.1, show nI 49 + nI (49 - 49) = nI 49 from by rw [nI_add]]
    rw [if_pos rfl]
    refine RPo.pre a2 (by omega) (RPo.st (F := True) h4 (by omega) ((ih 10 (d + 1) (k + 1) r m h1 c e a2.2 (by omega) lm (by omega) (by show 16 + 7 * (20 - (d + 1)) ≤ m; omega)).2.2.2.2.2.2.2.1 rfl) (rr r) (by show 8 * (21 - (d + 1)) + 1 ≤ 400; omega) (fun z2 _ le2 h2 L2 p2 b2 S2 => ?_) (fun z2 h2 c2 S2 b2 => ?_))
    · rw [t_141_28 S2.1, if_pos rfl]
      exact o_em S2 (by omega) h4 le2 (by omega) (by omega) z2 rfl (fun v h' S' => t_141_46 S'.1 _ _ _ _) (Or.inr (Or.inr (Or.inr (Or.inr (Or.inl ⟨by omega, L2, p2, by rw [q]⟩)))))
    · rw [t_141_28 S2.1, if_pos rfl]
      exact x_em S2 h4 b2 (by show 8 * (21 - (d + 1)) + 1 + 1 ≤ 8 * (21 - d); omega) (by omega) (by omega) (fun v h' S' => t_141_46 S'.1 _ _ _ _)
  · obtain ⟨h1, a1, a2⟩ := st 50 (by decide) (by rw [q]; decide)
    rw [if_pos (by omega)] at e
    rw [a1, t_141_10 a2.2.1, show nI 49 + nI (50 - 49) = nI 50 from by rw [nI_add]]
    rw [if_neg (by decide), if_pos rfl]
    refine RPo.pre a2 (by omega) (RPo.st (F := True) h4 (by omega) ((ih 10 (d + 1) (k + 1) r m h1 c e a2.2 (by omega) lm (by omega) (by show 16 + 7 * (20 - (d + 1)) ≤ m; omega)).2.2.2.2.2.2.2.1 rfl) (rr r) (by show 8 * (21 - (d + 1)) + 1 ≤ 400; omega) (fun z2 _ le2 h2 L2 p2 b2 S2 => ?_) (fun z2 h2 c2 S2 b2 => ?_))
    · rw [t_141_28 S2.1, if_neg (by decide)]
      exact o_em S2 (by omega) h4 le2 (by omega) (by omega) z2 rfl (fun v h' S' => t_141_46 S'.1 _ _ _ _) (Or.inr (Or.inr (Or.inr (Or.inr (Or.inl ⟨by omega, L2, p2, by rw [q]⟩)))))
    · rw [t_141_28 S2.1, if_neg (by decide)]
      exact x_em S2 h4 b2 (by show 8 * (21 - (d + 1)) + 1 + 1 ≤ 8 * (21 - d); omega) (by omega) (by omega) (fun v h' S' => t_141_46 S'.1 _ _ _ _)
  · obtain ⟨h1, a1, a2⟩ := st 51 (by decide) (by rw [q]; decide)
    rw [if_neg (by omega), if_pos (by omega)] at e
    rw [a1, t_141_10 a2.2.1, show nI 49 + nI (51 - 49) = nI 51 from by rw [nI_add], if_neg (by decide), if_neg (by decide), if_neg (by decide)]
    refine RPo.pre a2 (by omega) (RPo.st (F := True) h4 (by omega) ((ih 9 (d + 1) (k + 1) r m h1 c e a2.2 (by omega) lm (by omega) (by show 15 + 7 * (20 - (d + 1)) ≤ m; omega)).2.2.2.2.2.2.1 rfl) (rr r) (by show 8 * (21 - (d + 1)) ≤ 400; omega) (fun z2 _ le2 h2 L2 p2 b2 S2 => ?_) (fun z2 h2 c2 S2 b2 => ?_))
    · rw [t_141_60 S2.1, if_pos rfl]
      exact o_em S2 (by omega) h4 le2 (by omega) (by omega) z2 rfl (fun v h' S' => t_141_111 S'.1 _ _ _ _) (Or.inr (Or.inr (Or.inr (Or.inr (Or.inr (Or.inr (Or.inl ⟨by omega, L2, p2, by rw [q]⟩)))))))
    · rw [t_141_60 S2.1, if_pos rfl]
      exact x_em S2 h4 b2 (by show 8 * (21 - (d + 1)) + 1 ≤ 8 * (21 - d); omega) (by omega) (by omega) (fun v h' S' => t_141_111 S'.1 _ _ _ _)
  · obtain ⟨h1, a1, a2⟩ := st 52 (by decide) (by rw [q]; decide)
    rw [if_neg (by omega), if_pos (by omega)] at e
    rw [a1, t_141_10 a2.2.1, show nI 49 + nI (52 - 49) = nI 52 from by rw [nI_add], if_neg (by decide), if_neg (by decide), if_neg (by decide)]
    refine RPo.pre a2 (by omega) (RPo.st (F := True) h4 (by omega) ((ih 9 (d + 1) (k + 1) r m h1 c e a2.2 (by omega) lm (by omega) (by show 15 + 7 * (20 - (d + 1)) ≤ m; omega)).2.2.2.2.2.2.1 rfl) (rr r) (by show 8 * (21 - (d + 1)) ≤ 400; omega) (fun z2 _ le2 h2 L2 p2 b2 S2 => ?_) (fun z2 h2 c2 S2 b2 => ?_))
    · rw [t_141_60 S2.1, if_neg (by decide), if_pos rfl]
      exact o_em S2 (by omega) h4 le2 (by omega) (by omega) z2 rfl (fun v h' S' => t_141_111 S'.1 _ _ _ _) (Or.inr (Or.inr (Or.inr (Or.inr (Or.inr (Or.inr (Or.inl ⟨by omega, L2, p2, by rw [q]⟩)))))))
    · rw [t_141_60 S2.1, if_neg (by decide), if_pos rfl]
      exact x_em S2 h4 b2 (by show 8 * (21 - (d + 1)) + 1 ≤ 8 * (21 - d); omega) (by omega) (by omega) (fun v h' S' => t_141_111 S'.1 _ _ _ _)
  · obtain ⟨h1, a1, a2⟩ := st 53 (by decide) (by rw [q]; decide)
    rw [if_neg (by omega), if_pos (by omega)] at e
    rw [a1, t_141_10 a2.2.1, show nI 49 + nI (53 - 49) = nI 53 from by rw [nI_add], if_neg (by decide), if_neg (by decide), if_neg (by decide)]
    refine RPo.pre a2 (by omega) (RPo.st (F := True) h4 (by omega) ((ih 9 (d + 1) (k + 1) r m h1 c e a2.2 (by omega) lm (by omega) (by show 15 + 7 * (20 - (d + 1)) ≤ m; omega)).2.2.2.2.2.2.1 rfl) (rr r) (by show 8 * (21 - (d + 1)) ≤ 400; omega) (fun z2 _ le2 h2 L2 p2 b2 S2 => ?_) (fun z2 h2 c2 S2 b2 => ?_))
    · rw [t_141_60 S2.1, if_neg (by decide), if_neg (by decide), if_pos rfl]
      exact o_em S2 (by omega) h4 le2 (by omega) (by omega) z2 rfl (fun v h' S' => t_141_111 S'.1 _ _ _ _) (Or.inr (Or.inr (Or.inr (Or.inr (Or.inr (Or.inr (Or.inl ⟨by omega, L2, p2, by rw [q]⟩)))))))
    · rw [t_141_60 S2.1, if_neg (by decide), if_neg (by decide), if_pos rfl]
      exact x_em S2 h4 b2 (by show 8 * (21 - (d + 1)) + 1 ≤ 8 * (21 - d); omega) (by omega) (by omega) (fun v h' S' => t_141_111 S'.1 _ _ _ _)
  · obtain ⟨h1, a1, a2⟩ := st 54 (by decide) (by rw [q]; decide)
    rw [if_neg (by omega), if_pos (by omega)] at e
    rw [a1, t_141_10 a2.2.1, show nI 49 + nI (54 - 49) = nI 54 from by rw [nI_add], if_neg (by decide), if_neg (by decide), if_neg (by decide)]
    refine RPo.pre a2 (by omega) (RPo.st (F := True) h4 (by omega) ((ih 9 (d + 1) (k + 1) r m h1 c e a2.2 (by omega) lm (by omega) (by show 15 + 7 * (20 - (d + 1)) ≤ m; omega)).2.2.2.2.2.2.1 rfl) (rr r) (by show 8 * (21 - (d + 1)) ≤ 400; omega) (fun z2 _ le2 h2 L2 p2 b2 S2 => ?_) (fun z2 h2 c2 S2 b2 => ?_))
    · rw [t_141_60 S2.1, if_neg (by decide), if_neg (by decide), if_neg (by decide), if_pos rfl]
      exact o_em S2 (by omega) h4 le2 (by omega) (by omega) z2 rfl (fun v h' S' => t_141_111 S'.1 _ _ _ _) (Or.inr (Or.inr (Or.inr (Or.inr (Or.inr (Or.inr (Or.inl ⟨by omega, L2, p2, by rw [q]⟩)))))))
    · rw [t_141_60 S2.1, if_neg (by decide), if_neg (by decide), if_neg (by decide), if_pos rfl]
      exact x_em S2 h4 b2 (by show 8 * (21 - (d + 1)) + 1 ≤ 8 * (21 - d); omega) (by omega) (by omega) (fun v h' S' => t_141_111 S'.1 _ _ _ _)
  · obtain ⟨h1, a1, a2⟩ := st 55 (by decide) (by rw [q]; decide)
    rw [if_neg (by omega), if_pos (by omega)] at e
    rw [a1, t_141_10 a2.2.1, show nI 49 + nI (55 - 49) = nI 55 from by rw [nI_add], if_neg (by decide), if_neg (by decide), if_neg (by decide)]
    refine RPo.pre a2 (by omega) (RPo.st (F := True) h4 (by omega) ((ih 9 (d + 1) (k + 1) r m h1 c e a2.2 (by omega) lm (by omega) (by show 15 + 7 * (20 - (d + 1)) ≤ m; omega)).2.2.2.2.2.2.1 rfl) (rr r) (by show 8 * (21 - (d + 1)) ≤ 400; omega) (fun z2 _ le2 h2 L2 p2 b2 S2 => ?_) (fun z2 h2 c2 S2 b2 => ?_))
    · rw [t_141_60 S2.1, if_neg (by decide), if_neg (by decide), if_neg (by decide), if_neg (by decide)]
      exact o_em S2 (by omega) h4 le2 (by omega) (by omega) z2 rfl (fun v h' S' => t_141_111 S'.1 _ _ _ _) (Or.inr (Or.inr (Or.inr (Or.inr (Or.inr (Or.inr (Or.inl ⟨by omega, L2, p2, by rw [q]⟩)))))))
    · rw [t_141_60 S2.1, if_neg (by decide), if_neg (by decide), if_neg (by decide), if_neg (by decide)]
      exact x_em S2 h4 b2 (by show 8 * (21 - (d + 1)) + 1 ≤ 8 * (21 - d); omega) (by omega) (by omega) (fun v h' S' => t_141_111 S'.1 _ _ _ _)
  · obtain ⟨h1, a1, a2⟩ := st 56 (by decide) (by rw [q]; decide)
    rw [if_neg (by omega), if_neg (by omega)] at e
    cases e
    rw [a1, t_141_10 a2.2.1, show nI 49 + nI (56 - 49) = nI 56 from by rw [nI_add], if_neg (by decide), if_neg (by decide), if_pos (by decide), if_pos rfl]
    have S1 : SRs h1 t M (k + 1) 0 c (d + 1) B := a2.2
    exact RPo.pre a2 (by omega) (o_em S1 (by omega) h4 lm (by omega) (by omega) rfl rfl (fun v h' S' => t_141_144 S'.1 _ _ _ _) (Or.inr (Or.inr (Or.inr (Or.inr (Or.inr (Or.inr (Or.inr (⟨by omega, rfl, by rw [q]⟩)))))))))
  · obtain ⟨h1, a1, a2⟩ := st 57 (by decide) (by rw [q]; decide)
    rw [if_neg (by omega), if_neg (by omega)] at e
    cases e
    rw [a1, t_141_10 a2.2.1, show nI 49 + nI (57 - 49) = nI 57 from by rw [nI_add], if_neg (by decide), if_neg (by decide), if_pos (by decide), if_neg (by decide), if_pos rfl]
    have S1 : SRs h1 t M (k + 1) 0 c (d + 1) B := a2.2
    exact RPo.pre a2 (by omega) (o_em S1 (by omega) h4 lm (by omega) (by omega) rfl rfl (fun v h' S' => t_141_144 S'.1 _ _ _ _) (Or.inr (Or.inr (Or.inr (Or.inr (Or.inr (Or.inr (Or.inr (⟨by omega, rfl, by rw [q]⟩)))))))))
  · obtain ⟨h1, a1, a2⟩ := st 58 (by decide) (by rw [q]; decide)
    rw [if_neg (by omega), if_neg (by omega)] at e
    cases e
    rw [a1, t_141_10 a2.2.1, show nI 49 + nI (58 - 49) = nI 58 from by rw [nI_add], if_neg (by decide), if_neg (by decide), if_pos (by decide), if_neg (by decide), if_neg (by decide)]
    have S1 : SRs h1 t M (k + 1) 0 c (d + 1) B := a2.2
    exact RPo.pre a2 (by omega) (o_em S1 (by omega) h4 lm (by omega) (by omega) rfl rfl (fun v h' S' => t_141_144 S'.1 _ _ _ _) (Or.inr (Or.inr (Or.inr (Or.inr (Or.inr (Or.inr (Or.inr (⟨by omega, rfl, by rw [q]⟩)))))))))
theorem pr_138 (ih : PRH t M B N) (h4 : M ≤ 4000) (e : (if lk t k = 40 then sq (px t N 3 (d + 1) (k + 1)) fun k => tk1 t 41 k else if lk t k = 45 then px t N 8 (d + 1) (k + 1) else if lk t k = 143 ∨ lk t k = 144 then px t N 10 (d + 1) (k + 1) else if lk t k = 145 then px t N 11 (d + 1) (k + 1) else if 146 ≤ lk t k ∧ lk t k ≤ 150 then px t N 9 (d + 1) (k + 1) else some (0, k + 1)) = some r) (S : SRs h t M k 0 c (d + 1) B) (hc : c ≤ k) (hk : k ≤ M) (hd : d < 20) (hn : 13 + 7 * (20 - d) ≤ n) (u : lk t k = 3 ∨ lk t k = 4 ∨ lk t k = 40 ∨ lk t k = 45 ∨ 143 ≤ lk t k ∧ lk t k ≤ 153) : RPo (CE1 t (CE t N) 8 d k) (E n 138 [.ref 189] h) h t M k c (d + 1) B r (8 * (21 - d)) := by
  obtain ⟨m, rfl⟩ : ∃ m, n = m + 1 := ⟨n - 1, by omega⟩
  have lm := S.me.lk (k := k) (by omega)
  obtain ⟨u1, u2, u3⟩ := r_up S (by omega)
  rw [t_138 S.1, r_R S (Or.inl ⟨rfl, rfl, rfl⟩) (by omega), cK_v, t_138_8 S.1]
  have f173 : ∀ (h' : AH), Sh h' → Q m 138 173 [none, none, none] [] h' = some (none, h') := fun h' s => t_138_173 s
  by_cases q4 : lk t k = 4
  · have lb : lkV t k < 100 := by
      obtain ⟨g1, g2⟩ := lk_rg (t := t) (k := k) (v := 4) (a := 18) (m := 9) (Or.inl ⟨rfl, rfl, rfl⟩)
      have := g1.mp q4
      rw [g2 q4]; omega
    rw [if_neg (by omega), if_neg (by omega), if_neg (by omega), if_neg (by omega), if_neg (by omega)] at e
    cases e
    rw [if_pos (show 0 = 0 ∧ lk t k = 4 from ⟨rfl, q4⟩), if_neg (nI_nlt (Nat.zero_le _) (by omega)), u1, nI_add]
    exact RPo.pre ⟨u2, u3⟩ (by omega) (o_em u3 (by omega) h4 lm (by omega) (by omega) rfl rfl (fun v h' S' => by rw [t_138_29 S'.1, f173 h' S'.1]) (Or.inr (Or.inl ⟨q4, rfl, rfl⟩)))
  rw [if_neg (show ¬ (0 = 0 ∧ lk t k = 4) from fun z => q4 z.2), if_pos (by decide)]
  obtain ⟨e1, e2, e3, e4⟩ := S.2.2.1.at rfl
  rw [e1, gd_nI (by omega) (by decide), ix_nI (by omega), e4.1]
  by_cases q3 : lk t k = 3
  · rw [if_neg (by omega), if_neg (by omega), if_neg (by omega), if_neg (by omega), if_neg (by omega)] at e
    cases e
    rw [if_pos (by rw [rk_1.2.1.mpr (lk_n3.mp q3)]), gd_nI (by omega) (by decide), e4.2.2 (by have := lk_n3.mp q3; omega), lN_i]
    refine RPo.em S (by omega) (by omega) fun h1 S1 => ?_
    obtain ⟨v1, v2, v3⟩ := r_up S1 (by omega)
    rw [t_138_61 S1.1, v1, nI_add, f173 _ v3.1]
    exact RPo.one ⟨v2, v3⟩ rfl (by omega) lm (Or.inl ⟨q3, rfl, rfl⟩)
  rw [if_neg (fun z => q3 (lk_n3.mpr (rk_1.2.1.mp ((nI_eq (by have := (rk_1 (x := tK t k)).2.2.2.2; omega) (by decide)).mp z))))]
  by_cases q40 : lk t k = 40
  · rw [if_pos q40] at e
    rw [g_1 S (by decide) (by decide) (by omega) q40, cK_v, t_138_81 S.1, if_neg (by decide), u1, nI_add]
    obtain ⟨r1, x1, c1⟩ := sq_s e
    refine RPo.pre ⟨u2, u3⟩ (by omega) (RPo.st h4 (by omega) ((ih 3 (d + 1) (k + 1) r1 m _ c x1 u3 (by omega) lm (by omega) (by show 18 + 7 * (20 - (d + 1)) ≤ m; omega)).1 rfl) c1 (by show 8 * (21 - (d + 1)) + 3 ≤ 400; omega) (fun z2 f le2 h2 L2 p2 b2 S2 => ?_) (fun z2 h2 c2 S2 b2 => ?_))
    · rw [t_138_98 S2.1]
      refine RPo.fin ((o_tk S2 (by omega) le2 (by decide) (by decide) (by omega) f).wk (fun _ L p => ?_) (by omega) (Nat.le_refl _)) (fun h' hs' => by rw [t_138_104 hs', f173 h' hs'])
      obtain ⟨y1, y2, y3⟩ := p
      subst y3
      exact Or.inr (Or.inr (Or.inl ⟨q40, r1.2, by rw [List.append_nil]; exact p2, y1, y2⟩))
    · rw [t_138_98 S2.1]
      have tl3 : tlR 3 (d + 1) = 8 * (21 - (d + 1)) + 3 := rfl
      obtain ⟨h3, a1, a2⟩ := d_61 S2 z2 (x := 41) (by decide) (by decide) (n := m) (by omega)
      exact x_st (T := 8 * (21 - (d + 1)) + 3) h4 a1 a2 (by show c2 + 0 ≤ _; omega) (by omega) (x_id (T := tlR 3 (d + 1)) a2.2 (by rw [t_138_104 a2.2.1, f173 _ a2.2.1]) (by show c2 + 0 ≤ _; omega) (by omega))
  rw [if_neg q40] at e
  rw [g_0 S (by decide) (by decide) (by omega) (fun z => q40 z.2), cK_v, t_138_81 S.1, if_pos rfl]
  by_cases q45 : lk t k = 45
  · rw [if_pos q45] at e
    rw [g_1 S (by decide) (by decide) (by omega) q45, cK_v, t_138_113 S.1, if_neg (by decide), u1, nI_add]
    refine RPo.pre ⟨u2, u3⟩ (by omega) (RPo.st (F := True) h4 (by omega) ((ih 8 (d + 1) (k + 1) r m _ c e u3 (by omega) lm (by omega) (by show 15 + 7 * (20 - (d + 1)) ≤ m; omega)).2.2.2.2.2.1 rfl) (rr r) (by show 8 * (21 - (d + 1)) ≤ 400; omega) (fun z2 f le2 h2 L2 p2 b2 S2 => ?_) (fun z2 h2 c2 S2 b2 => ?_))
    · rw [t_138_130 S2.1]
      exact o_em S2 (by omega) h4 le2 (by omega) (by omega) z2 rfl (fun v h' S' => by rw [t_138_137 S'.1, f173 _ S'.1]) (Or.inr (Or.inr (Or.inr (Or.inl ⟨q45, L2, p2, rfl⟩))))
    · rw [t_138_130 S2.1]
      exact x_em S2 h4 b2 (by show 8 * (21 - (d + 1)) + 1 ≤ 8 * (21 - d); omega) (by omega) (by omega) (fun v h' S' => by rw [t_138_137 S'.1, f173 _ S'.1])
  rw [if_neg q45] at e
  rw [g_0 S (by decide) (by decide) (by omega) (fun z => q45 z.2), cK_v, t_138_113 S.1, if_pos rfl]
  by_cases q145 : lk t k = 145
  · rw [if_neg (by omega), if_pos q145] at e
    obtain ⟨h1, a1, a2⟩ := hw_1 S (w := 9) (n := m) (by decide) (Or.inl rfl) (by omega) (by rw [q145]; decide)
    rw [a1, cK_v, t_138_147 a2.2.1, if_neg (by decide)]
    obtain ⟨h2, b1, b2, b3⟩ := (ih 11 (d + 1) (k + 1) r m h1 c e a2.2 (by omega) lm (by omega) (by show 19 + 7 * (20 - (d + 1)) ≤ m; omega)).2.2.2.2.2.2.2.2 rfl
    rw [b1, cK_n, t_138_154 b2]
    refine RPo.pre a2 (by omega) (RPo.st (F := True) h4 (by omega) b3 (rr r) (by show 8 * (21 - (d + 1)) + 3 ≤ 400; omega) (fun z2 f le2 h2 L2 p2 b2 S2 => ?_) (fun z2 h2 c2 S2 b2 => ?_))
    · rw [t_138_158 S2.1]
      exact o_em S2 (by omega) h4 le2 (by omega) (by omega) z2 rfl (fun v h' S' => by rw [t_138_165 S'.1, f173 _ S'.1]) (Or.inr (Or.inr (Or.inr (Or.inr (Or.inr (Or.inl ⟨q145, L2, p2, rfl⟩))))))
    · rw [t_138_158 S2.1]
      exact x_em S2 h4 b2 (by show 8 * (21 - (d + 1)) + 3 + 1 ≤ 8 * (21 - d); omega) (by omega) (by omega) (fun v h' S' => by rw [t_138_165 S'.1, f173 _ S'.1])
  have e : (if lk t k = 143 ∨ lk t k = 144 then px t N 10 (d + 1) (k + 1) else if 146 ≤ lk t k ∧ lk t k ≤ 150 then px t N 9 (d + 1) (k + 1) else some (0, k + 1)) = some r := by
    rw [if_neg q145] at e; exact e
  obtain ⟨h1, a1, a2⟩ := hw_0 S (w := 9) (n := m) (by decide) (Or.inl rfl) (by omega) (fun z => q145 z.2)
  rw [a1, cK_v, t_138_147 a2.2.1, if_pos rfl]
  exact RPo.pre a2 (by omega) (RPo.fin (pr_141 ih h4 e a2.2 hc hk hd (by omega) (by omega)) f173)
theorem pr_8 (ih : PRH t M B N) (h4 : M ≤ 4000) (e : px t (N + 1) 8 d k = some r) (S : SRs h t M k 0 c d B) (hc : c ≤ k) (hk : k ≤ M) (hd : d ≤ 20) (hn : ndQ 8 d ≤ n) : RPo (CE1 t (CE t N) 8 d k) (E n 134 [.ref 189] h) h t M k c d B r (tlR 8 d) := by
  have hn : 15 + 7 * (20 - d) ≤ n := hn
  have tl8 : tlR 8 d = 8 * (21 - d) := rfl
  obtain ⟨m, rfl⟩ : ∃ m, n = m + 1 := ⟨n - 1, by omega⟩
  have e : pxU t (px t N) d k = some r := e
  unfold pxU at e
  rw [t_134 S.1, r_135 S (by omega), cK_v, t_134_5 S.1, ck_ok S.1.c189]
  have bad : ∀ (b x : Nat), b ≤ 1 → x ≠ 0 → r = (fX t x k, 0) → (if 0 = 0 then (if b = 0 then fX t 1 k else if d = 20 then fX t 5 k else 0) else 0) = fX t x k → RPo (CE1 t (CE t N) 8 d k) (cK (E m 137 [.ref 189, .int (nI b)] h) (Q m 134 8 [some (.ref 189)]) []) h t M k c d B r (tlR 8 d) := fun b x hb hx hr hf => by
    obtain ⟨h1, a1, a2⟩ := r_137 S hd (n := m) (by omega) hb
    rw [hf] at a2
    have S1 : SRs h1 t M k (fX t x k) c (d + 1) B := a2.2
    obtain ⟨h2, e2, b2⟩ := q_dn S1
    rw [a1, cK_n, t_134_8 S1.1, if_neg (f_n0 S1 (fX_0 hx)), t_134_19 S1.1, ← e2, hr]
    exact ⟨h2, [], rfl, (a2.nl b2 (by omega)).any (fX_0 hx) 0, fun z => absurd z (fX_0 hx), fun _ => by show c + 0 ≤ _; omega⟩
  by_cases u : lk t k = 3 ∨ lk t k = 4 ∨ lk t k = 40 ∨ lk t k = 45 ∨ 143 ≤ lk t k ∧ lk t k ≤ 153
  · rw [if_neg (fun z => z u)] at e
    rw [if_pos ⟨rfl, u⟩]
    by_cases q20 : 20 ≤ d
    · rw [if_pos q20] at e
      exact bad 1 5 (by decide) (by decide) (Option.some.inj e).symm (by rw [if_pos rfl, if_neg (by decide), if_pos (by omega)])
    rw [if_neg q20] at e
    obtain ⟨h1, a1, a2⟩ := r_137 S hd (n := m) (by omega) (b := 1) (by decide)
    rw [if_pos rfl, if_neg (by decide), if_neg (by omega)] at a2
    have S1 : SRs h1 t M k 0 c (d + 1) B := a2.2
    rw [a1, cK_n, t_134_8 S1.1, S1.2.2.1.2.1, if_pos rfl]
    exact RPo.pre a2 (by omega) (RPo.dn h4 (by omega) hc (pr_138 ih h4 e S1 hc hk (by omega) (by omega) u) (fun h' hs' => t_134_19 hs'))
  · rw [if_pos u] at e
    rw [if_neg (fun z => u z.2)]
    exact bad 0 1 (by decide) (by decide) (Option.some.inj e).symm (by rw [if_pos rfl, if_pos rfl])
theorem pr_143 (ih : PRH t M B N) (h4 : M ≤ 4000) (e : (if lk t k = 5 ∨ lk t k = 154 then some (0, k + 1) else if lk t k = 155 then px t N 8 (d + 1) (k + 1) else if lk t k = 156 then px t N 11 (d + 1) (k + 1) else px t N 9 (d + 1) (k + 1)) = some r) (S : SRs h t M k 0 c (d + 1) B) (hc : c ≤ k) (hk : k ≤ M) (hd : d < 20) (hn : 13 + 7 * (20 - d) ≤ n) (u : lk t k = 5 ∨ 154 ≤ lk t k ∧ lk t k ≤ 159) : RPo (CE1 t (CE t N) 9 d k) (E n 143 [.ref 189, .int (if 0 = 0 ∧ lk t k = 5 then nI (lkV t k) else -1)] h) h t M k c (d + 1) B r (8 * (21 - d)) := by
  obtain ⟨m, rfl⟩ : ∃ m, n = m + 1 := ⟨n - 1, by omega⟩
  have lm := S.me.lk (k := k) (by omega)
  obtain ⟨u1, u2, u3⟩ := r_up S (by omega)
  rw [t_143 S.1]
  by_cases q5 : lk t k = 5
  · have lb : lkV t k < 100 := by
      obtain ⟨g1, g2⟩ := lk_rg (t := t) (k := k) (v := 5) (a := 24) (m := 3) (Or.inr ⟨rfl, rfl, rfl⟩)
      have := g1.mp q5
      rw [g2 q5]; omega
    rw [if_pos (by omega)] at e
    cases e
    rw [if_pos (show 0 = 0 ∧ lk t k = 5 from ⟨rfl, q5⟩), if_neg (nI_nlt (Nat.zero_le _) (by omega)), u1, nI_add]
    exact RPo.pre ⟨u2, u3⟩ (by omega) (o_em u3 (by omega) h4 lm (by omega) (by omega) rfl rfl (fun v h' S' => t_143_20 S'.1 _ _ _ _ _) (Or.inl ⟨q5, rfl, rfl⟩))
  rw [if_neg (show ¬ (0 = 0 ∧ lk t k = 5) from fun z => q5 z.2), if_pos (by decide)]
  by_cases q54 : lk t k = 154
  · rw [if_pos (by omega)] at e
    cases e
    obtain ⟨h1, a1, a2⟩ := hw_1 S (w := 59) (n := m) (by decide) (by omega) (by omega) (by rw [q54]; decide)
    have S1 : SRs h1 t M (k + 1) 0 c (d + 1) B := a2.2
    rw [a1, cK_v, t_143_30 a2.2.1, if_neg (by decide)]
    exact RPo.pre a2 (by omega) (o_em S1 (by omega) h4 lm (by omega) (by omega) rfl rfl (fun v h' S' => t_143_39 S'.1 _ _ _ _ _) (Or.inr (Or.inl ⟨q54, rfl, rfl⟩)))
  rw [if_neg (by omega)] at e
  obtain ⟨g1, a1, a2⟩ := hw_0 S (w := 59) (n := m) (by decide) (by omega) (by omega) (fun z => q54 z.2)
  have S1 : SRs g1 t M k 0 c (d + 1) B := a2.2
  rw [a1, cK_v, t_143_30 S1.1, if_pos rfl]
  refine RPo.pre a2 (by omega) ?_
  by_cases q55 : lk t k = 155
  · rw [if_pos q55] at e
    obtain ⟨h1, a1, a2⟩ := hw_1 S1 (w := 60) (n := m) (by decide) (by omega) (by omega) (by rw [q55]; decide)
    rw [a1, cK_v, t_143_49 a2.2.1, if_neg (by decide)]
    refine RPo.pre a2 (by omega) (RPo.st (F := True) h4 (by omega) ((ih 8 (d + 1) (k + 1) r m _ c e a2.2 (by omega) lm (by omega) (by show 15 + 7 * (20 - (d + 1)) ≤ m; omega)).2.2.2.2.2.1 rfl) (rr r) (by show 8 * (21 - (d + 1)) ≤ 400; omega) (fun z2 f le2 h2 L2 p2 b2 S2 => ?_) (fun z2 h2 c2 S2 b2 => ?_))
    · rw [t_143_56 S2.1]
      exact o_em S2 (by omega) h4 le2 (by omega) (by omega) z2 rfl (fun v h' S' => t_143_63 S'.1 _ _ _ _ _) (Or.inr (Or.inr (Or.inl ⟨q55, L2, p2, rfl⟩)))
    · rw [t_143_56 S2.1]
      exact x_em S2 h4 b2 (by show 8 * (21 - (d + 1)) + 1 ≤ 8 * (21 - d); omega) (by omega) (by omega) (fun v h' S' => t_143_63 S'.1 _ _ _ _ _)
  rw [if_neg q55] at e
  obtain ⟨g2, a1, a2⟩ := hw_0 S1 (w := 60) (n := m) (by decide) (by omega) (by omega) (fun z => q55 z.2)
  have S2 : SRs g2 t M k 0 c (d + 1) B := a2.2
  rw [a1, cK_v, t_143_49 S2.1, if_pos rfl]
  refine RPo.pre a2 (by omega) ?_
  by_cases q56 : lk t k = 156
  · rw [if_pos q56] at e
    obtain ⟨h1, a1, a2⟩ := hw_1 S2 (w := 61) (n := m) (by decide) (by omega) (by omega) (by rw [q56]; decide)
    rw [a1, cK_v, t_143_73 a2.2.1, if_neg (by decide)]
    obtain ⟨h2, b1, b2, b3⟩ := (ih 11 (d + 1) (k + 1) r m h1 c e a2.2 (by omega) lm (by omega) (by show 19 + 7 * (20 - (d + 1)) ≤ m; omega)).2.2.2.2.2.2.2.2 rfl
    rw [b1, cK_n, t_143_80 b2]
    refine RPo.pre a2 (by omega) (RPo.st (F := True) h4 (by omega) b3 (rr r) (by show 8 * (21 - (d + 1)) + 3 ≤ 400; omega) (fun z2 f le2 h2 L2 p2 b2 S2 => ?_) (fun z2 h2 c2 S2 b2 => ?_))
    · rw [t_143_84 S2.1]
      exact o_em S2 (by omega) h4 le2 (by omega) (by omega) z2 rfl (fun v h' S' => t_143_91 S'.1 _ _ _ _ _) (Or.inr (Or.inr (Or.inr (Or.inl ⟨q56, L2, p2, rfl⟩))))
    · rw [t_143_84 S2.1]
      exact x_em S2 h4 b2 (by show 8 * (21 - (d + 1)) + 3 + 1 ≤ 8 * (21 - d); omega) (by omega) (by omega) (fun v h' S' => t_143_91 S'.1 _ _ _ _ _)
  rw [if_neg q56] at e
  obtain ⟨g3, a1, a2⟩ := hw_0 S2 (w := 61) (n := m) (by decide) (by omega) (by omega) (fun z => q56 z.2)
  have S3 : SRs g3 t M k 0 c (d + 1) B := a2.2
  rw [a1, cK_v, t_143_73 S3.1, if_pos rfl]
  refine RPo.pre a2 (by omega) ?_
  obtain ⟨w0, w1, w2⟩ : ∃ w0, (16 ≤ w0 ∧ w0 ≤ 18) ∧ lk t k = w0 + 141 := ⟨lk t k - 141, by omega, by omega⟩
  obtain ⟨h1, a1, a2⟩ := r_56 S3 (a := 16) (b := 18) (w0 := w0) (n := m) (by decide) w1 (fun w _ _ => by omega) (by omega) (by omega) (by unfold wix; rw [if_neg (by omega), if_pos (by omega), w2]; omega)
  rw [a1, cK_v, t_143_103 a2.2.1]
  refine RPo.pre a2 (by omega) (RPo.st (F := True) h4 (by omega) ((ih 9 (d + 1) (k + 1) r m _ c e a2.2 (by omega) lm (by omega) (by show 15 + 7 * (20 - (d + 1)) ≤ m; omega)).2.2.2.2.2.2.1 rfl) (rr r) (by show 8 * (21 - (d + 1)) ≤ 400; omega) (fun z2 f le2 h2 L2 p2 b2 S2 => ?_) (fun z2 h2 c2 S2 b2 => ?_))
  · rw [t_143_108 S2.1]
    exact o_em S2 (by omega) h4 le2 (by omega) (by omega) z2 rfl (fun v h' S' => t_143_115 S'.1 _ _ _ _ _) (Or.inr (Or.inr (Or.inr (Or.inr ⟨by omega, L2, p2, by rw [w2, show w0 + 141 - 157 = w0 - 16 by omega]⟩))))
  · rw [t_143_108 S2.1]
    exact x_em S2 h4 b2 (by show 8 * (21 - (d + 1)) + 1 ≤ 8 * (21 - d); omega) (by omega) (by omega) (fun v h' S' => t_143_115 S'.1 _ _ _ _ _)
theorem pr_9 (ih : PRH t M B N) (h4 : M ≤ 4000) (e : px t (N + 1) 9 d k = some r) (S : SRs h t M k 0 c d B) (hc : c ≤ k) (hk : k ≤ M) (hd : d ≤ 20) (hn : ndQ 9 d ≤ n) : RPo (CE1 t (CE t N) 9 d k) (E n 142 [.ref 189] h) h t M k c d B r (tlR 9 d) := by
  have hn : 15 + 7 * (20 - d) ≤ n := hn
  have tl9 : tlR 9 d = 8 * (21 - d) := rfl
  obtain ⟨m, rfl⟩ : ∃ m, n = m + 1 := ⟨n - 1, by omega⟩
  have e : pxI t (px t N) d k = some r := e
  unfold pxI at e
  have bad : ∀ (b x : Nat) (y : Int32), b ≤ 1 → x ≠ 0 → r = (fX t x k, 0) → (if 0 = 0 then (if b = 0 then fX t 1 k else if d = 20 then fX t 5 k else 0) else 0) = fX t x k → RPo (CE1 t (CE t N) 9 d k) (cK (E m 137 [.ref 189, .int (nI b)] h) (Q m 142 77 [some (.ref 189), some (.int y), some (.int (nI b))]) []) h t M k c d B r (tlR 9 d) := fun b x y hb hx hr hf => by
    obtain ⟨h1, a1, a2⟩ := r_137 S hd (n := m) (by omega) hb
    rw [hf] at a2
    have S1 : SRs h1 t M k (fX t x k) c (d + 1) B := a2.2
    obtain ⟨h2, e2, b2⟩ := q_dn S1
    rw [a1, cK_n, t_142_77 S1.1, if_neg (f_n0 S1 (fX_0 hx)), t_142_89 S1.1, ← e2, hr]
    exact ⟨h2, [], rfl, (a2.nl b2 (by omega)).any (fX_0 hx) 0, fun z => absurd z (fX_0 hx), fun _ => by show c + 0 ≤ _; omega⟩
  have good : lk t k = 5 ∨ 154 ≤ lk t k ∧ lk t k ≤ 159 → RPo (CE1 t (CE t N) 9 d k) (cK (E m 137 [.ref 189, .int (nI 1)] h) (Q m 142 77 [some (.ref 189), some (.int (if 0 = 0 ∧ lk t k = 5 then nI (lkV t k) else -1)), some (.int (nI 1))]) []) h t M k c d B r (tlR 9 d) := fun u => by
    rw [if_neg (fun z => z u)] at e
    by_cases q20 : 20 ≤ d
    · rw [if_pos q20] at e
      exact bad 1 5 _ (by decide) (by decide) (Option.some.inj e).symm (by rw [if_pos rfl, if_neg (by decide), if_pos (by omega)])
    rw [if_neg q20] at e
    obtain ⟨h1, a1, a2⟩ := r_137 S hd (n := m) (by omega) (b := 1) (by decide)
    rw [if_pos rfl, if_neg (by decide), if_neg (by omega)] at a2
    have S1 : SRs h1 t M k 0 c (d + 1) B := a2.2
    rw [a1, cK_n, t_142_77 S1.1, S1.2.2.1.2.1, if_pos (rfl : nI 0 = nI 0)]
    exact RPo.pre a2 (by omega) (RPo.dn h4 (by omega) hc (pr_143 ih h4 e S1 hc hk (by omega) (by omega) u) (fun h' hs' => t_142_89 hs'))
  rw [t_142 S.1, r_R S (Or.inr ⟨rfl, rfl, rfl⟩) (by omega), cK_v, t_142_7 S.1]
  by_cases q5 : lk t k = 5
  · have lb : lkV t k < 100 := by
      obtain ⟨g1, g2⟩ := lk_rg (t := t) (k := k) (v := 5) (a := 24) (m := 3) (Or.inr ⟨rfl, rfl, rfl⟩)
      have := g1.mp q5
      rw [g2 q5]; omega
    rw [if_neg (by rw [if_pos (show 0 = 0 ∧ lk t k = 5 from ⟨rfl, q5⟩)]; exact nI_nlt (Nat.zero_le _) (by omega))]
    exact good (Or.inl q5)
  rw [if_pos (by rw [if_neg (show ¬ (0 = 0 ∧ lk t k = 5) from fun z => q5 z.2)]; decide)]
  by_cases q154 : lk t k = 154
  · rw [r_W S (j := 26) (w := 59) (by decide) (by decide) (by omega), b1 (show 0 = 0 ∧ lk t k = 128 + 26 from ⟨rfl, q154⟩), cK_v, t_142_18 S.1, if_neg (by decide)]
    exact good (by omega)
  rw [r_W S (j := 26) (w := 59) (by decide) (by decide) (by omega), b0 (show ¬ (0 = 0 ∧ lk t k = 128 + 26) from fun z => q154 z.2), cK_v, t_142_18 S.1, if_pos (rfl : nI 0 = nI 0)]
  by_cases q155 : lk t k = 155
  · rw [r_W S (j := 27) (w := 60) (by decide) (by decide) (by omega), b1 (show 0 = 0 ∧ lk t k = 128 + 27 from ⟨rfl, q155⟩), cK_v, t_142_27 S.1, if_neg (by decide)]
    exact good (by omega)
  rw [r_W S (j := 27) (w := 60) (by decide) (by decide) (by omega), b0 (show ¬ (0 = 0 ∧ lk t k = 128 + 27) from fun z => q155 z.2), cK_v, t_142_27 S.1, if_pos (rfl : nI 0 = nI 0)]
  by_cases q156 : lk t k = 156
  · rw [r_W S (j := 28) (w := 61) (by decide) (by decide) (by omega), b1 (show 0 = 0 ∧ lk t k = 128 + 28 from ⟨rfl, q156⟩), cK_v, t_142_36 S.1, if_neg (by decide)]
    exact good (by omega)
  rw [r_W S (j := 28) (w := 61) (by decide) (by decide) (by omega), b0 (show ¬ (0 = 0 ∧ lk t k = 128 + 28) from fun z => q156 z.2), cK_v, t_142_36 S.1, if_pos (rfl : nI 0 = nI 0)]
  by_cases q157 : lk t k = 157
  · rw [r_W S (j := 29) (w := 16) (by decide) (by decide) (by omega), b1 (show 0 = 0 ∧ lk t k = 128 + 29 from ⟨rfl, q157⟩), cK_v, t_142_45 S.1, if_neg (by decide)]
    exact good (by omega)
  rw [r_W S (j := 29) (w := 16) (by decide) (by decide) (by omega), b0 (show ¬ (0 = 0 ∧ lk t k = 128 + 29) from fun z => q157 z.2), cK_v, t_142_45 S.1, if_pos (rfl : nI 0 = nI 0)]
  by_cases q158 : lk t k = 158
  · rw [r_W S (j := 30) (w := 17) (by decide) (by decide) (by omega), b1 (show 0 = 0 ∧ lk t k = 128 + 30 from ⟨rfl, q158⟩), cK_v, t_142_54 S.1, if_neg (by decide)]
    exact good (by omega)
  rw [r_W S (j := 30) (w := 17) (by decide) (by decide) (by omega), b0 (show ¬ (0 = 0 ∧ lk t k = 128 + 30) from fun z => q158 z.2), cK_v, t_142_54 S.1, if_pos (rfl : nI 0 = nI 0)]
  by_cases q159 : lk t k = 159
  · rw [r_W S (j := 31) (w := 18) (by decide) (by decide) (by omega), b1 (show 0 = 0 ∧ lk t k = 128 + 31 from ⟨rfl, q159⟩), cK_v, t_142_63 S.1, if_neg (by decide)]
    exact good (by omega)
  rw [r_W S (j := 31) (w := 18) (by decide) (by decide) (by omega), b0 (show ¬ (0 = 0 ∧ lk t k = 128 + 31) from fun z => q159 z.2), cK_v, t_142_63 S.1, if_pos (rfl : nI 0 = nI 0)]
  rw [if_pos (by omega)] at e
  exact bad 0 1 _ (by decide) (by decide) (Option.some.inj e).symm (by rw [if_pos rfl, if_pos rfl])
theorem prh (h4 : M ≤ 4000) : ∀ N, PRH t M B N
  | 0 => fun tag d k r n h c e => by cases e
  | N + 1 => fun tag d k r n h c e S hc hk hd hn => by
    have ih : PRH t M B N := prh h4 N
    have mk : ∀ {tag : Nat} (e : px t (N + 1) tag d k = some r) {o : Option Ot} {h : AH} {tl : Nat}, RPo (CE1 t (CE t N) tag d k) o h t M k c d B r tl → RPo (CE t (N + 1) tag d k) o h t M k c d B r tl := fun {tag} e {o h tl} a => a.wk (fun z L p => ⟨by rw [e]; exact congrArg some (Prod.ext z rfl), p⟩) (Nat.le_refl _) (Nat.le_refl _)
    exact ⟨(fun z => by subst z; exact mk e (pr_3 ih h4 e S hc hk hd hn)), (fun z => by subst z; exact mk e (pr_4 ih h4 e S hc hk hd hn)), (fun z => by subst z; exact mk e (pr_5 ih h4 e S hc hk hd hn)), (fun z => by subst z; exact mk e (pr_6 ih h4 e S hc hk hd hn)), (fun z => by subst z; exact mk e (pr_7 ih h4 e S hc hk hd hn)), (fun z => by subst z; exact mk e (pr_8 ih h4 e S hc hk hd hn)), (fun z => by subst z; exact mk e (pr_9 ih h4 e S hc hk hd hn)), (fun z => by subst z; exact mk e (pr_10 ih h4 e S hc hk hd hn)), (fun z => by
      subst z
      obtain ⟨h1, a1, a2, a3⟩ := pr_11 ih h4 e S hc hk hd hn
      exact ⟨h1, a1, a2, mk e a3⟩)⟩
end RUN
