/-! ===== PROGRAMMES: the reference writes expressions, level by level ===== -/
section RLV
variable {t : Tp} {M B N d k n c : Nat} {r : Nat × Nat} {h : AH}
theorem g_0 {x f : Nat} (S : SRs h t M k f c d B) (h6 : 6 ≤ x) (h2 : x < 128) (hn : 1 ≤ n) (q : ¬ (f = 0 ∧ lk t k = x)) : E n 58 [.ref 189, .int (nI x)] h = some (some (.int (nI 0)), h) := by rw [r_G S h6 h2 hn, if_neg q]
theorem g_1 {x : Nat} (S : SRs h t M k 0 c d B) (h6 : 6 ≤ x) (h2 : x < 128) (hn : 1 ≤ n) (q : lk t k = x) : E n 58 [.ref 189, .int (nI x)] h = some (some (.int (nI 1)), h) := by rw [r_G S h6 h2 hn, if_pos ⟨rfl, q⟩]
theorem pr_3 (ih : PRH t M B N) (h4 : M ≤ 4000) (e : px t (N + 1) 3 d k = some r) (S : SRs h t M k 0 c d B) (hc : c ≤ k) (hk : k ≤ M) (hd : d ≤ 20) (hn : ndQ 3 d ≤ n) : RPo (CE1 t (CE t N) 3 d k) (E n 131 [.ref 189] h) h t M k c d B r (tlR 3 d) := by
  have hn : 18 + 7 * (20 - d) ≤ n := hn
  obtain ⟨m, rfl⟩ : ∃ m, n = m + 1 := ⟨n - 1, by omega⟩
  have e : (sq (px t N 4 d k) fun k => if lk t k = 60 ∨ lk t k = 61 then px t N 4 d (k + 1) else some (0, k)) = some r := e
  rw [t_131 S.1]
  obtain ⟨r1, e1, c1⟩ := sq_s e
  refine RPo.st h4 hc ((ih 4 d k r1 m h c e1 S hc hk hd (by show 17 + 7 * (20 - d) ≤ m; omega)).2.1 rfl) c1 (by show 8 * (21 - d) + 2 ≤ 400; omega) (fun z f le h1 L1 p1 b1 S1 => ?_) (fun z h1 c2 S1 b => ?_)
  · have g58 : ∀ x, lk t r1.2 = x → 6 ≤ x → x < 128 → E m 58 [.ref 189, .int (nI x)] h1 = some (some (.int (nI 1)), h1) := fun x q a b => g_1 S1 a b (by omega) q
    have n58 : ∀ x, lk t r1.2 ≠ x → 6 ≤ x → x < 128 → E m 58 [.ref 189, .int (nI x)] h1 = some (some (.int (nI 0)), h1) := fun x q a b => g_0 S1 a b (by omega) (fun w => q w.2)
    have rest : ∀ s : Nat, (lk t r1.2 = 60 ∧ s = 1 ∨ lk t r1.2 = 61 ∧ s = 0) → RPo (fun k' L2 => CE1 t (CE t N) 3 d k k' (L1 ++ L2)) (cK (E m 132 [.ref 189] (sI h1 3595 189 ((gI h1 3595 189) + (nI 1)))) (Q m 131 38 [some (.ref 189), some (.int (nI s)), none]) []) h1 t M (k + L1.length) (c + L1.length) d B r (tlR 3 d) := fun s hs => by
      rw [if_pos (by omega)] at f
      obtain ⟨u1, u2, u3⟩ := r_up S1 (by omega)
      rw [u1, nI_add]
      have lm := S1.me.lk (k := r1.2) (by omega)
      refine RPo.pre ⟨u2, u3⟩ (by omega) (RPo.st (F := True) h4 (by omega) ((ih 4 d (r1.2 + 1) r m _ (c + L1.length) f u3 (by omega) lm hd (by show 17 + 7 * (20 - d) ≤ m; omega)).2.1 rfl) (rr r) (by show 8 * (21 - d) + 2 ≤ 400; omega) (fun z2 _ le2 h2 L2 p2 b2 S2 => ?_) (fun z2 h2 c2 S2 b2 => ?_))
      · have hP : ∀ y : Int32, y = (if lk t r1.2 = 60 then nI 12 else nI 13) → CE1 t (CE t N) 3 d k r.2 (L1 ++ (L2 ++ [(y, nI 0)])) := fun y hy => ⟨r1.2, L1, p1, Or.inl ⟨by omega, L2, p2, by rw [hy]⟩⟩
        rcases hs with ⟨q, rfl⟩ | ⟨q, rfl⟩
        · rw [t_131_38 S2.1, if_neg (by decide)]
          exact o_em S2 (by omega) h4 le2 (by omega) (by omega) z2 rfl (fun v h' S' => t_131_54 S'.1 _ _ _ _) (hP _ (by rw [if_pos q]))
        · rw [t_131_38 S2.1, if_pos rfl]
          exact o_em S2 (by omega) h4 le2 (by omega) (by omega) z2 rfl (fun v h' S' => t_131_54 S'.1 _ _ _ _) (hP _ (by rw [if_neg (by omega)]))
      · rw [t_131_38 S2.1]
        have tl : (8 * (21 - d) + 2) + 1 ≤ tlR 3 d := by show _ ≤ 8 * (21 - d) + 3; omega
        have tl2 : tlR 3 d ≤ 400 := by show 8 * (21 - d) + 3 ≤ 400; omega
        by_cases y : nI s = nI 0
        · rw [if_pos y]; exact x_em S2 h4 b2 tl tl2 (by omega) (fun v h' S' => t_131_54 S'.1 _ _ _ _)
        · rw [if_neg y]; exact x_em S2 h4 b2 tl tl2 (by omega) (fun v h' S' => t_131_54 S'.1 _ _ _ _)
    rw [t_131_4 S1.1]
    by_cases q : lk t r1.2 = 60
    · rw [g58 60 q (by decide) (by decide), cK_v, t_131_10 S1.1, if_neg (by decide)]
      exact rest 1 (Or.inl ⟨q, rfl⟩)
    · rw [n58 60 q (by decide) (by decide), cK_v, t_131_10 S1.1, if_pos rfl]
      by_cases q2 : lk t r1.2 = 61
      · rw [g58 61 q2 (by decide) (by decide), cK_v, t_131_21 S1.1, if_neg (by decide)]
        exact rest 0 (Or.inr ⟨q2, rfl⟩)
      · rw [n58 61 q2 (by decide) (by decide), cK_v, t_131_21 S1.1, if_pos rfl]
        rw [if_neg (by omega)] at f
        cases f
        exact ⟨h1, [], rfl, RSp.rf S1, fun _ => ⟨⟨r1.2, L1, p1, Or.inr ⟨by omega, rfl, List.append_nil _⟩⟩, by show k + L1.length + 0 ≤ _; omega, le⟩, fun y => absurd rfl y⟩
  · refine x_id S1 ?_ b (by show 8 * (21 - d) + 2 ≤ 8 * (21 - d) + 3; omega)
    rw [t_131_4 S1.1, g_0 S1 (by decide) (by decide) (by omega) (fun w => z w.1), cK_v, t_131_10 S1.1, if_pos rfl, g_0 S1 (by decide) (by decide) (by omega) (fun w => z w.1), cK_v, t_131_21 S1.1, if_pos rfl]
theorem x_132 {f : Nat} (S1 : SRs h t M k f c d B) (z : f ≠ 0) (hn : 1 ≤ n) : Q n 132 4 [some (.ref 189), none, none] [] h = some (none, h) := by
  rw [t_132_4 S1.1, g_0 S1 (by decide) (by decide) hn (fun w => z w.1), cK_v, t_132_10 S1.1, if_pos rfl, g_0 S1 (by decide) (by decide) hn (fun w => z w.1), cK_v, t_132_19 S1.1, if_pos rfl]
theorem x_133 {f : Nat} (S1 : SRs h t M k f c d B) (z : f ≠ 0) (hn : 1 ≤ n) : Q n 133 4 [some (.ref 189), none, none] [] h = some (none, h) := by
  rw [t_133_4 S1.1, g_0 S1 (by decide) (by decide) hn (fun w => z w.1), cK_v, t_133_10 S1.1, if_pos rfl, g_0 S1 (by decide) (by decide) hn (fun w => z w.1), cK_v, t_133_19 S1.1, if_pos rfl, g_0 S1 (by decide) (by decide) hn (fun w => z w.1), cK_v, t_133_28 S1.1, if_pos rfl]
theorem pr_4 (ih : PRH t M B N) (h4 : M ≤ 4000) (e : px t (N + 1) 4 d k = some r) (S : SRs h t M k 0 c d B) (hc : c ≤ k) (hk : k ≤ M) (hd : d ≤ 20) (hn : ndQ 4 d ≤ n) : RPo (CE1 t (CE t N) 4 d k) (E n 132 [.ref 189] h) h t M k c d B r (tlR 4 d) := by
  have hn : 17 + 7 * (20 - d) ≤ n := hn
  obtain ⟨m, rfl⟩ : ∃ m, n = m + 1 := ⟨n - 1, by omega⟩
  have e : (sq (px t N 6 d k) fun k => px t N 5 d k) = some r := e
  rw [t_132 S.1]
  obtain ⟨r1, e1, c1⟩ := sq_s e
  refine RPo.st h4 hc ((ih 6 d k r1 m h c e1 S hc hk hd (by show 16 + 7 * (20 - d) ≤ m; omega)).2.2.2.1 rfl) c1 (by show 8 * (21 - d) + 1 ≤ 400; omega) (fun z f le h1 L1 p1 b1 S1 => ?_) (fun z h1 c2 S1 b => ?_)
  · exact ((ih 5 d r1.2 r m h1 (c + L1.length) f S1 (by omega) le hd (by show 16 + 7 * (20 - d) ≤ m; omega)).2.2.1 rfl).wk (fun _ L2 p2 => ⟨r1.2, L1, L2, p1, p2, rfl⟩) (by omega) (Nat.le_refl _)
  · exact x_id S1 (x_132 S1 z (by omega)) b (by show 8 * (21 - d) + 1 ≤ 8 * (21 - d) + 2; omega)
theorem pr_6 (ih : PRH t M B N) (h4 : M ≤ 4000) (e : px t (N + 1) 6 d k = some r) (S : SRs h t M k 0 c d B) (hc : c ≤ k) (hk : k ≤ M) (hd : d ≤ 20) (hn : ndQ 6 d ≤ n) : RPo (CE1 t (CE t N) 6 d k) (E n 133 [.ref 189] h) h t M k c d B r (tlR 6 d) := by
  have hn : 16 + 7 * (20 - d) ≤ n := hn
  obtain ⟨m, rfl⟩ : ∃ m, n = m + 1 := ⟨n - 1, by omega⟩
  have e : (sq (px t N 8 d k) fun k => px t N 7 d k) = some r := e
  rw [t_133 S.1]
  obtain ⟨r1, e1, c1⟩ := sq_s e
  refine RPo.st h4 hc ((ih 8 d k r1 m h c e1 S hc hk hd (by show 15 + 7 * (20 - d) ≤ m; omega)).2.2.2.2.2.1 rfl) c1 (by show 8 * (21 - d) ≤ 400; omega) (fun z f le h1 L1 p1 b1 S1 => ?_) (fun z h1 c2 S1 b => ?_)
  · exact ((ih 7 d r1.2 r m h1 (c + L1.length) f S1 (by omega) le hd (by show 15 + 7 * (20 - d) ≤ m; omega)).2.2.2.2.1 rfl).wk (fun _ L2 p2 => ⟨r1.2, L1, L2, p1, p2, rfl⟩) (by omega) (Nat.le_refl _)
  · exact x_id S1 (x_133 S1 z (by omega)) b (by show 8 * (21 - d) ≤ 8 * (21 - d) + 1; omega)
theorem pr_5 (ih : PRH t M B N) (h4 : M ≤ 4000) (e : px t (N + 1) 5 d k = some r) (S : SRs h t M k 0 c d B) (hc : c ≤ k) (hk : k ≤ M) (hd : d ≤ 20) (hn : ndQ 5 d ≤ n) : RPo (CE1 t (CE t N) 5 d k) (Q n 132 4 [some (.ref 189), none, none] [] h) h t M k c d B r (tlR 5 d) := by
  have hn : 16 + 7 * (20 - d) ≤ n := hn
  have e : (if lk t k = 43 ∨ lk t k = 45 then sq (px t N 6 d (k + 1)) fun k => px t N 5 d k else some (0, k)) = some r := e
  have rest : ∀ x : Int32, (lk t k = 43 ∧ x = nI 7 ∨ lk t k = 45 ∧ x = nI 8) → RPo (CE1 t (CE t N) 5 d k) (cK (E n 133 [.ref 189] (sI h 3595 189 ((gI h 3595 189) + (nI 1)))) (Q n 132 53 [some (.ref 189), some (.int x), none]) []) h t M k c d B r (tlR 5 d) := fun x hx => by
    rw [if_pos (by omega)] at e
    obtain ⟨u1, u2, u3⟩ := r_up S (by omega)
    rw [u1, nI_add]
    have lm := S.me.lk (k := k) (by omega)
    obtain ⟨r1, e1, c1⟩ := sq_s e
    refine RPo.pre ⟨u2, u3⟩ (by omega) (RPo.st h4 (by omega) ((ih 6 d (k + 1) r1 n _ c e1 u3 (by omega) lm hd (by show 16 + 7 * (20 - d) ≤ n; omega)).2.2.2.1 rfl) c1 (by show 8 * (21 - d) + 1 ≤ 400; omega) (fun z f le h1 L1 p1 b1 S1 => ?_) (fun z h1 c2 S1 b => ?_))
    · rw [t_132_53 S1.1]
      refine RPo.em S1 (by omega) (by omega) fun h2 S2 => ?_
      rw [t_132_59 S2.1]
      refine ((ih 5 d r1.2 r n h2 (c + L1.length + 1) f S2 (by omega) le hd (by show 16 + 7 * (20 - d) ≤ n; omega)).2.2.1 rfl).wk (fun _ L2 p2 => ?_) (by omega) (Nat.le_refl _)
      refine Or.inl ⟨by omega, r1.2, L1, L2, p1, p2, ?_⟩
      rcases hx with ⟨q, y⟩ | ⟨q, y⟩
      · rw [if_pos q, y]
      · rw [if_neg (by omega), y]
    · rw [t_132_53 S1.1]
      exact x_em S1 h4 b (by show 8 * (21 - d) + 1 + 1 ≤ 8 * (21 - d) + 2; omega) (by show 8 * (21 - d) + 2 ≤ 400; omega) (by omega) (fun v h' S' => by rw [t_132_59 S'.1]; exact x_132 S' z (by omega))
  rw [t_132_4 S.1]
  by_cases q : lk t k = 43
  · rw [g_1 S (by decide) (by decide) (by omega) q, cK_v, t_132_10 S.1, if_neg (by decide), g_1 S (by decide) (by decide) (by omega) q, cK_v, t_132_28 S.1, if_neg (by decide)]
    exact rest _ (Or.inl ⟨q, rfl⟩)
  · rw [g_0 S (by decide) (by decide) (by omega) (fun w => q w.2), cK_v, t_132_10 S.1, if_pos rfl]
    by_cases q2 : lk t k = 45
    · rw [g_1 S (by decide) (by decide) (by omega) q2, cK_v, t_132_19 S.1, if_neg (by decide), g_0 S (by decide) (by decide) (by omega) (fun w => q w.2), cK_v, t_132_28 S.1, if_pos rfl]
      exact rest _ (Or.inr ⟨q2, rfl⟩)
    · rw [g_0 S (by decide) (by decide) (by omega) (fun w => q2 w.2), cK_v, t_132_19 S.1, if_pos rfl]
      rw [if_neg (by omega)] at e
      cases e
      exact ⟨h, [], rfl, RSp.rf S, fun _ => ⟨Or.inr ⟨by omega, rfl, rfl⟩, Nat.le_refl _, hk⟩, fun y => absurd rfl y⟩
theorem pr_7 (ih : PRH t M B N) (h4 : M ≤ 4000) (e : px t (N + 1) 7 d k = some r) (S : SRs h t M k 0 c d B) (hc : c ≤ k) (hk : k ≤ M) (hd : d ≤ 20) (hn : ndQ 7 d ≤ n) : RPo (CE1 t (CE t N) 7 d k) (Q n 133 4 [some (.ref 189), none, none] [] h) h t M k c d B r (tlR 7 d) := by
  have hn : 15 + 7 * (20 - d) ≤ n := hn
  have e : (if lk t k = 42 ∨ lk t k = 47 ∨ lk t k = 37 then sq (px t N 8 d (k + 1)) fun k => px t N 7 d k else some (0, k)) = some r := e
  have rest : ∀ x : Int32, (lk t k = 42 ∧ x = nI 9 ∨ lk t k = 47 ∧ x = nI 10 ∨ lk t k = 37 ∧ x = nI 11) → RPo (CE1 t (CE t N) 7 d k) (cK (E n 134 [.ref 189] (sI h 3595 189 ((gI h 3595 189) + (nI 1)))) (Q n 133 76 [some (.ref 189), some (.int x), none]) []) h t M k c d B r (tlR 7 d) := fun x hx => by
    rw [if_pos (by omega)] at e
    obtain ⟨u1, u2, u3⟩ := r_up S (by omega)
    rw [u1, nI_add]
    have lm := S.me.lk (k := k) (by omega)
    obtain ⟨r1, e1, c1⟩ := sq_s e
    refine RPo.pre ⟨u2, u3⟩ (by omega) (RPo.st h4 (by omega) ((ih 8 d (k + 1) r1 n _ c e1 u3 (by omega) lm hd (by show 15 + 7 * (20 - d) ≤ n; omega)).2.2.2.2.2.1 rfl) c1 (by show 8 * (21 - d) ≤ 400; omega) (fun z f le h1 L1 p1 b1 S1 => ?_) (fun z h1 c2 S1 b => ?_))
    · rw [t_133_76 S1.1]
      refine RPo.em S1 (by omega) (by omega) fun h2 S2 => ?_
      rw [t_133_82 S2.1]
      refine ((ih 7 d r1.2 r n h2 (c + L1.length + 1) f S2 (by omega) le hd (by show 15 + 7 * (20 - d) ≤ n; omega)).2.2.2.2.1 rfl).wk (fun _ L2 p2 => ?_) (by omega) (Nat.le_refl _)
      refine Or.inl ⟨by omega, r1.2, L1, L2, p1, p2, ?_⟩
      rcases hx with ⟨q, y⟩ | ⟨q, y⟩ | ⟨q, y⟩
      · rw [if_pos q, y]
      · rw [if_neg (by omega), if_pos q, y]
      · rw [if_neg (by omega), if_neg (by omega), y]
    · rw [t_133_76 S1.1]
      exact x_em S1 h4 b (by show 8 * (21 - d) + 1 ≤ 8 * (21 - d) + 1; omega) (by show 8 * (21 - d) + 1 ≤ 400; omega) (by omega) (fun v h' S' => by rw [t_133_82 S'.1]; exact x_133 S' z (by omega))
  rw [t_133_4 S.1]
  by_cases q : lk t k = 42
  · rw [g_1 S (by decide) (by decide) (by omega) q, cK_v, t_133_10 S.1, if_neg (by decide), g_1 S (by decide) (by decide) (by omega) q, cK_v, t_133_37 S.1, if_neg (by decide)]
    exact rest _ (Or.inl ⟨q, rfl⟩)
  · rw [g_0 S (by decide) (by decide) (by omega) (fun w => q w.2), cK_v, t_133_10 S.1, if_pos rfl]
    by_cases q2 : lk t k = 47
    · rw [g_1 S (by decide) (by decide) (by omega) q2, cK_v, t_133_19 S.1, if_neg (by decide), g_0 S (by decide) (by decide) (by omega) (fun w => q w.2), cK_v, t_133_37 S.1, if_pos rfl, g_1 S (by decide) (by decide) (by omega) q2, cK_v, t_133_51 S.1, if_neg (by decide)]
      exact rest _ (Or.inr (Or.inl ⟨q2, rfl⟩))
    · rw [g_0 S (by decide) (by decide) (by omega) (fun w => q2 w.2), cK_v, t_133_19 S.1, if_pos rfl]
      by_cases q3 : lk t k = 37
      · rw [g_1 S (by decide) (by decide) (by omega) q3, cK_v, t_133_28 S.1, if_neg (by decide), g_0 S (by decide) (by decide) (by omega) (fun w => q w.2), cK_v, t_133_37 S.1, if_pos rfl, g_0 S (by decide) (by decide) (by omega) (fun w => q2 w.2), cK_v, t_133_51 S.1, if_pos rfl]
        exact rest _ (Or.inr (Or.inr ⟨q3, rfl⟩))
      · rw [g_0 S (by decide) (by decide) (by omega) (fun w => q3 w.2), cK_v, t_133_28 S.1, if_pos rfl]
        rw [if_neg (by omega)] at e
        cases e
        exact ⟨h, [], rfl, RSp.rf S, fun _ => ⟨Or.inr ⟨by omega, rfl, rfl⟩, Nat.le_refl _, hk⟩, fun y => absurd rfl y⟩
theorem pr_10 (ih : PRH t M B N) (h4 : M ≤ 4000) (e : px t (N + 1) 10 d k = some r) (S : SRs h t M k 0 c d B) (hc : c ≤ k) (hk : k ≤ M) (hd : d ≤ 20) (hn : ndQ 10 d ≤ n) : RPo (CE1 t (CE t N) 10 d k) (E n 139 [.ref 189] h) h t M k c d B r (tlR 10 d) := by
  have hn : 16 + 7 * (20 - d) ≤ n := hn
  obtain ⟨m, rfl⟩ : ∃ m, n = m + 1 := ⟨n - 1, by omega⟩
  have e : (sq (tk1 t 64 k) fun k => px t N 8 d k) = some r := e
  rw [t_139 S.1]
  obtain ⟨r1, e1, c1⟩ := sq_s e
  refine RPo.st h4 hc (o_tk (tl := 0) S hc hk (by decide) (by decide) (by omega) e1) c1 (by decide) (fun z f le h1 L1 p1 b1 S1 => ?_) (fun z h1 c2 S1 b => ?_)
  · obtain ⟨q, p2, p3⟩ := p1
    subst p3
    rw [p2] at f S1 le
    have b0 : c + ([] : Cds).length = c := rfl
    rw [b0] at S1 ⊢
    rw [t_139_6 S1.1]
    refine RPo.st (F := True) h4 (by omega) ((ih 8 d (k + 1) r m h1 c f S1 (by omega) le hd (by show 15 + 7 * (20 - d) ≤ m; omega)).2.2.2.2.2.1 rfl) (rr r) (by show 8 * (21 - d) ≤ 400; omega) (fun z2 _ le2 h2 L2 p2 b2 S2 => ?_) (fun z2 h2 c2 S2 b2 => ?_)
    · rw [t_139_10 S2.1]
      exact o_em S2 (by omega) h4 le2 (by omega) (by show k + 0 + L2.length + 1 ≤ r.2; omega) z2 rfl (fun v h' S' => t_139_17 S'.1 _ _ _) ⟨q, L2, p2, rfl⟩
    · rw [t_139_10 S2.1]
      exact x_em S2 h4 b2 (by show 8 * (21 - d) + 1 ≤ 8 * (21 - d) + 1; omega) (by show 8 * (21 - d) + 1 ≤ 400; omega) (by omega) (fun v h' S' => t_139_17 S'.1 _ _ _)
  · rw [t_139_6 S1.1]
    obtain ⟨h2, a1, a2⟩ := d_134 S1 z (by omega) hd (n := m) (by omega)
    refine x_st (T := 0) h4 a1 a2 (by show c2 + 0 ≤ _; omega) (by decide) ?_
    rw [t_139_10 a2.2.1]
    exact x_em (T := 0) a2.2 h4 (by show c2 + 0 ≤ _; omega) (by show 0 + 1 ≤ 8 * (21 - d) + 1; omega) (by show 8 * (21 - d) + 1 ≤ 400; omega) (by omega) (fun v h' S' => t_139_17 S'.1 _ _ _)
/-- [ expression ] -/
theorem pr_140 (ih : PRH t M B N) (h4 : M ≤ 4000) (e : (sq (tk1 t 91 k) fun k => sq (px t N 3 d k) fun k => tk1 t 93 k) = some r) (S : SRs h t M k 0 c d B) (hc : c ≤ k) (hk : k ≤ M) (hd : d ≤ 20) (hn : 19 + 7 * (20 - d) ≤ n) : RPo (fun k' L => ∃ k2, lk t k = 91 ∧ CE t N 3 d (k + 1) k2 L ∧ lk t k2 = 93 ∧ k' = k2 + 1) (E n 140 [.ref 189] h) h t M k c d B r (tlR 3 d) := by
  obtain ⟨m, rfl⟩ : ∃ m, n = m + 1 := ⟨n - 1, by omega⟩
  rw [t_140 S.1]
  obtain ⟨r1, e1, c1⟩ := sq_s e
  refine RPo.st h4 hc (o_tk (tl := 0) S hc hk (by decide) (by decide) (by omega) e1) c1 (by decide) (fun z f le h1 L1 p1 b1 S1 => ?_) (fun z h1 c2 S1 b => ?_)
  · obtain ⟨q, p2, p3⟩ := p1
    subst p3
    rw [p2] at f S1 le
    have b0 : c + ([] : Cds).length = c := rfl
    rw [b0] at S1 ⊢
    rw [t_140_6 S1.1]
    obtain ⟨r2, e2, c2⟩ := sq_s f
    refine RPo.st h4 (by omega) ((ih 3 d (k + 1) r2 m h1 c e2 S1 (by omega) le hd (by show 18 + 7 * (20 - d) ≤ m; omega)).1 rfl) c2 (by show 8 * (21 - d) + 3 ≤ 400; omega) (fun z2 f le2 h2 L2 p2 b2 S2 => ?_) (fun z2 h2 c2 S2 b2 => ?_)
    · rw [t_140_10 S2.1]
      refine RPo.fin ((o_tk S2 (by omega) le2 (by decide) (by decide) (by omega) f).wk (fun _ L p => ?_) (by show k + 0 + L2.length ≤ _; omega) (Nat.le_refl _)) (fun h' hs' => t_140_16 hs' _)
      obtain ⟨y1, y2, y3⟩ := p
      subst y3
      exact ⟨r2.2, q, by rw [List.nil_append, List.append_nil]; exact p2, y1, y2⟩
    · rw [t_140_10 S2.1]
      obtain ⟨h3, a1, a2⟩ := d_61 S2 z2 (x := 93) (by decide) (by decide) (n := m) (by omega)
      have tl3 : tlR 3 d = 8 * (21 - d) + 3 := rfl
      exact x_st (T := 8 * (21 - d) + 3) h4 a1 a2 (by show c2 + 0 ≤ _; omega) (by omega) (x_id (T := tlR 3 d) a2.2 (t_140_16 a2.2.1 _) (by show c2 + 0 ≤ _; omega) (Nat.le_refl _))
  · rw [t_140_6 S1.1]
    obtain ⟨h2, a1, a2⟩ := d_131 S1 z (by omega) hd (n := m) (by omega)
    have a3 : SRs h2 t M r1.2 r1.1 c2 d B := a2.2
    refine x_st (T := 0) h4 a1 a2 (by show _ + 0 ≤ _; omega) (by decide) ?_
    rw [t_140_10 a3.1]
    obtain ⟨h3, a1, a4⟩ := d_61 a3 z (x := 93) (by decide) (by decide) (n := m) (by omega)
    exact x_st (T := 0) h4 a1 a4 (by show _ + 0 ≤ _; omega) (by decide) (x_id a4.2 (t_140_16 a4.2.1 _) (by show _ + 0 + 0 ≤ _; omega) (Nat.zero_le _))
theorem pr_11 (ih : PRH t M B N) (h4 : M ≤ 4000) (e : px t (N + 1) 11 d k = some r) (S : SRs h t M k 0 c d B) (hc : c ≤ k) (hk : k ≤ M) (hd : d ≤ 20) (hn : ndQ 11 d ≤ n) : ∃ h1, E n 139 [.ref 189] h = some (none, h1) ∧ Sh h1 ∧ RPo (CE1 t (CE t N) 11 d k) (E n 140 [.ref 189] h1) h t M k c d B r (tlR 11 d) := by
  have hn : 19 + 7 * (20 - d) ≤ n := hn
  have e : (sq (px t N 10 d k) fun k => sq (tk1 t 91 k) fun k => sq (px t N 3 d k) fun k => tk1 t 93 k) = some r := e
  obtain ⟨r1, e1, c1⟩ := sq_s e
  obtain ⟨h1, L1, a1, a2, a3, a4⟩ := (ih 10 d k r1 n h c e1 S hc hk hd (by show 16 + 7 * (20 - d) ≤ n; omega)).2.2.2.2.2.2.2.1 rfl
  refine ⟨h1, a1, a2.2.1, ?_⟩
  have := RPo.st (K := fun _ g => E n 140 [.ref 189] g) (P := CE1 t (CE t N) 11 d k) (be := k) (d := d) (tl := tlR 11 d) (r := r) h4 hc ⟨h1, L1, a1, a2, a3, a4⟩ c1 (by show 8 * (21 - d) + 1 ≤ 400; omega) (fun z f le h1 L1 p1 b1 S1 => ?_) (fun z h1 c2 S1 b => ?_)
  · rw [a1, cK_n] at this; exact this
  · refine (pr_140 ih h4 f S1 (by omega) le hd hn).wk (fun _ L p => ?_) (by omega) (by show 8 * (21 - d) + 3 ≤ 8 * (21 - d) + 3; omega)
    obtain ⟨k2, y1, y2, y3, y4⟩ := p
    exact ⟨r1.2, L1, k2, L, p1, y1, y2, y3, y4, rfl⟩
  · obtain ⟨h2, a1, a2⟩ := d_140 S1 z (by have : tlR 10 d = 8 * (21 - d) + 1 := rfl; omega) hd (n := n) (by omega)
    exact ⟨h2, [], a1, a2, by have : tlR 10 d = 8 * (21 - d) + 1 := rfl; have : tlR 11 d = 8 * (21 - d) + 3 := rfl; show c2 + 0 ≤ _; omega⟩
end RLV
