/-! ===== EQUATIONS ARE SOLVED (component) ===== -/
theorem x64 : ∀ a, a < 64 → ∀ b, b < 64 → nI a ^^^ nI b = nI (a ^^^ b) := by decide +kernel
theorem tm_a : ∀ p, p < 64 → (nI p) <<< ((nI 1) &&& 31) = nI (2 * p) ∧ (nI (2 * p)) ^^^ (nI 67) = nI ((2 * p) ^^^ 67) ∧ mZ p < 64 := by decide +kernel
theorem tm_b : ∀ b, b < 64 → ∀ i, i < 6 → ((nI b) >>> ((nI i) &&& 31)) &&& (nI 1) = nI ((b >>> i) % 2) := by decide +kernel
theorem k60 : ∀ m, m < 63 → kA 60 m = nI (pw m) := by decide +kernel
theorem gi_at : ∀ a, a < 64 → a ≠ 0 → ∃ j, j < 63 ∧ pw j = a ∧ gi a = pw ((63 - j) % 63) := by decide +kernel
theorem KS.pw {h : AH} (a : KS h) {m : Nat} (hm : m < 63) : gA h 60 m = nI (Jvm.Pilot.CPostRoomLaw_law_r9321_2ac549.pw m) := by
  rw [a.1 60 (by decide) (by decide) (Or.inr rfl)]; exact k60 m hm
section TMS
variable {d : Nat} {h : AH}
theorem c_tmlp (hs : Sh h) {a b : Nat} (ha : a < 64) (hb : b < 64) : ∀ (i p : Nat), i < 6 → p < 64 → Q d 355 4 [some (.int (nI a)), some (.int (nI b)), some (.int (nI p)), some (.int (nI i))] [] h = some (some (.int (nI (gmR a b (i + 1) p))), h)
  | i, p, hi, hp => by
    obtain ⟨s1, s2, s3⟩ := tm_a p hp
    have go : ∀ p', p' < 64 → Q d 355 4 [some (.int (nI a)), some (.int (nI b)), some (.int (nI p')), some (.int (nI i + (-1)))] [] h = some (some (.int (nI (gmR a b i p'))), h) := fun p' hp' => by
      match i, hi with
      | 0, _ => rw [t_355_4 hs, if_pos (by decide)]; rfl
      | i + 1, hi => rw [pk_m1]; exact c_tmlp hs ha hb i p' (by omega) hp'
    rw [t_355_4 hs, if_neg (nI_nlt (by omega) (by omega)), s1, tm_b b hb i hi, s2]
    simp only [show (nI (2 * p) < nI 64) = (2 * p < 64) from propext (nI_ltI (by omega) (by decide)), show (nI ((b >>> i) % 2) = nI 0) = ((b >>> i) % 2 = 0) from propext (nI_eq (by omega) (by decide))]
    have u : gmR a b (i + 1) p = gmR a b i (if (b >>> i) % 2 = 1 then mZ p ^^^ a else mZ p) := rfl
    rw [u]
    unfold mZ at s3 ⊢
    by_cases q : 2 * p < 64
    · rw [if_neg (by omega)] at s3
      rw [if_pos q, if_neg (show ¬ 64 ≤ 2 * p by omega)]
      by_cases w : (b >>> i) % 2 = 0
      · rw [if_pos w, if_neg (by omega)]; exact go _ s3
      · rw [if_neg w, if_pos (by omega), x64 _ q a ha]; exact go _ (xor64 q ha)
    · rw [if_pos (by omega)] at s3
      rw [if_neg q, if_pos (show 64 ≤ 2 * p by omega)]
      by_cases w : (b >>> i) % 2 = 0
      · rw [if_pos w, if_neg (by omega)]; exact go _ s3
      · rw [if_neg w, if_pos (by omega), x64 _ s3 a ha]; exact go _ (xor64 s3 ha)
theorem c_mulT (hs : Sh h) {a b : Nat} (ha : a < 64) (hb : b < 64) : E (d + 1) 355 [.int (nI a), .int (nI b)] h = some (some (.int (nI (gm a b))), h) := by
  rw [t_355 hs]; exact c_tmlp hs ha hb 5 0 (by decide) (by decide)
theorem c_invlp (hs : Sh h) (K : KS h) {a j : Nat} (ha : a < 64) (hj : j < 63) (e : pw j = a) : ∀ (r i : Nat), r + i = j → Q d 356 2 [some (.int (nI a)), some (.int (nI i))] [] h = some (some (.int (nI (pw ((63 - j) % 63)))), h)
  | 0, i, q => by
    have : i = j := by omega
    subst this
    rw [t_356_2 hs, if_pos (nI_lt hj (by decide)), gd_nI hj (by decide), ix_nI (by omega), K.pw hj, if_pos (by rw [e]), dz_ok (by decide), pk_sub (by omega), pk_remN (by omega) (by decide) (by decide), gd_nI (Nat.mod_lt _ (by decide)) (by decide), ix_nI (by omega), K.pw (Nat.mod_lt _ (by decide))]
  | r + 1, i, q => by
    have hne : pw i ≠ pw j := fun w => by
      have : ∀ i, i < 63 → ∀ j, j < 63 → pw i = pw j → i = j := by decide +kernel
      have := this i (by omega) j hj w
      omega
    have b1 := (pw_lt (i := i)).1
    have b2 := (pw_lt (i := j)).1
    rw [t_356_2 hs, if_pos (nI_lt (by omega) (by decide)), gd_nI (by omega) (by decide), ix_nI (by omega), K.pw (by omega), if_neg (by rw [← e, nI_eq (by omega) (by omega)]; exact hne), nI_add]
    exact c_invlp hs K ha hj e r (i + 1) (by omega)
theorem c_inv (hs : Sh h) (K : KS h) {a : Nat} (ha : a < 64) (h0 : a ≠ 0) : E (d + 1) 356 [.int (nI a)] h = some (some (.int (nI (gi a))), h) := by
  obtain ⟨j, j1, j2, j3⟩ := gi_at a ha h0
  rw [t_356 hs, c_invlp hs K ha j1 j2 j 0 (by omega), j3]
end TMS
/-- the lines' cells -/
def LnC (h : AH) (z : Nat) : Prop := 296 ≤ z ∧ gC h z = 66 ∧ gK h z = 4 ∧ ∀ j, j < 4 → gO h z j = some (z + 1 + j) ∧ gC h (z + 1 + j) = 60 ∧ gK h (z + 1 + j) = 5
abbrev Xz (z : Nat) : List Nat := [z + 1, z + 1 + 1, z + 1 + 2, z + 1 + 3]
theorem xz_m {z j : Nat} (hj : j < 4) : z + 1 + j ∈ Xz z := by
  have : j = 0 ∨ j = 1 ∨ j = 2 ∨ j = 3 := by omega
  rcases this with q | q | q | q <;> subst q <;> simp
theorem LnC.fr {K X : List Nat} {h h' : AH} {z : Nat} (L : LnC h z) (f : Fr K X h h') : LnC h' z := by
  unfold LnC at L ⊢
  rw [f.2.1, f.2.2.1, f.2.2.2.2.1]; exact L
/-- what the lines hold -/
def Mt (h : AH) (z n : Nat) (M : Nat → Nat → Nat) : Prop := ∀ j k, j < 4 → k ≤ n → gA h (z + 1 + j) k = nI (M j k)
theorem Mt.cg {h : AH} {z n : Nat} {M M' : Nat → Nat → Nat} (a : Mt h z n M) (e : ∀ j k, j < 4 → k ≤ n → M' j k = M j k) : Mt h z n M' := fun j k hj hk => by rw [e j k hj hk]; exact a j k hj hk
theorem Mt.set {h : AH} {z n j0 k0 v : Nat} {M : Nat → Nat → Nat} (a : Mt h z n M) : Mt (sA h (z + 1 + j0) k0 (nI v)) z n (fun j k => if j = j0 ∧ k = k0 then v else M j k) := fun j k hj hk => by
  dsimp only
  by_cases q : j = j0
  · subst q
    rw [gA_s]
    by_cases w : k = k0
    · subst w; rw [up1_s, if_pos ⟨rfl, rfl⟩]
    · rw [up1_x w, if_neg fun e => w e.2]; exact a j k hj hk
  · rw [gA_k (by omega), if_neg fun e => q e.1]; exact a j k hj hk
section CLC
variable {d : Nat} {z n i : Nat}
/-- the line itself -/
theorem cc_l1 {p : Nat} (hi : i < n) (hn : n ≤ 4) (hp : p < 64) : ∀ (r k : Nat) {h : AH} {M : Nat → Nat → Nat}, r + k = n + 1 → i ≤ k → Sh h → LnC h z → Mt h z n M → (∀ j k, j < 4 → k ≤ n → M j k < 64) → ∃ h', Q (d + 1) 301 23 [some (.ref z), some (.int (nI i)), some (.int (nI n)), some (.ref (z + 1 + i)), some (.int (nI p)), some (.int (nI k)), none, none] [] h = Q (d + 1) 301 51 [some (.ref z), some (.int (nI i)), some (.int (nI n)), some (.ref (z + 1 + i)), none, some (.int (nI 0)), none, none] [] h' ∧ Fr [] (Xz z) h h' ∧ Mt h' z n (fun j k' => if j = i ∧ k ≤ k' then gm (M j k') p else M j k')
  | 0, k, h, M, e, hk, hs, L, T, B => by
    refine ⟨h, ?_, Fr.rfl, T.cg fun j k' _ hk' => if_neg (by omega)⟩
    rw [t_301_23 hs, if_pos (nI_lt (by omega) (by omega))]
  | r + 1, k, h, M, e, hk, hs, L, T, B => by
    obtain ⟨l1, l2, l3, l4⟩ := L
    obtain ⟨m1, m2, m3⟩ := l4 i (by omega)
    have hs1 : Sh (sA h (z + 1 + i) k (nI (gm (M i k) p))) := hs.sA
    have f1 : Fr [] (Xz z) h (sA h (z + 1 + i) k (nI (gm (M i k) p))) := Fr.rfl.sA (xz_m (by omega))
    have B1 : ∀ j k', j < 4 → k' ≤ n → (if j = i ∧ k' = k then gm (M i k) p else M j k') < 64 := fun j k' hj hk' => by
      split
      · exact gm_lt (B i k (by omega) (by omega)) hp
      · exact B j k' hj hk'
    obtain ⟨h', a1, a2, a3⟩ := cc_l1 hi hn hp r (k + 1) (by omega) (by omega) hs1 (LnC.fr ⟨l1, l2, l3, l4⟩ f1) T.set B1
    refine ⟨h', ?_, f1.trans a2, a3.cg fun j k' hj hk' => ?_⟩
    · rw [t_301_23 hs, if_neg (nI_nlt (by omega) (by omega)), ck_ok m2, m3, gd_nI (by omega) (by decide), ix_nI (by omega), T i k (by omega) (by omega), c_mulT hs (B i k (by omega) (by omega)) hp, cK_v, t_301_41 hs, cw_ok m2 (by omega), m3, gd_nI (by omega) (by decide), ix_nI (by omega), nI_add]
      exact a1
    · by_cases q : j = i
      · subst q
        by_cases w : k = k'
        · subst w
          rw [if_pos ⟨rfl, Nat.le_refl _⟩, if_neg (by omega), if_pos ⟨rfl, rfl⟩]
        · by_cases v : k ≤ k'
          · rw [if_pos ⟨rfl, v⟩, if_pos ⟨rfl, by omega⟩, if_neg (by omega)]
          · rw [if_neg (by omega), if_neg (by omega), if_neg (by omega)]
      · rw [if_neg fun e => q e.1, if_neg fun e => q e.1, if_neg fun e => q e.1]
/-- another line -/
theorem cc_l2 {f j : Nat} (hi : i < n) (hn : n ≤ 4) (hf : f < 64) (hj4 : j < 4) (hji : j ≠ i) : ∀ (r k : Nat) {h : AH} {M : Nat → Nat → Nat}, r + k = n + 1 → i ≤ k → Sh h → LnC h z → Mt h z n M → (∀ j k, j < 4 → k ≤ n → M j k < 64) → ∃ h', Q (d + 1) 301 68 [some (.ref z), some (.int (nI i)), some (.int (nI n)), some (.ref (z + 1 + i)), none, some (.int (nI j)), some (.int (nI f)), some (.int (nI k))] [] h = Q (d + 1) 301 51 [some (.ref z), some (.int (nI i)), some (.int (nI n)), some (.ref (z + 1 + i)), none, some (.int (nI (j + 1))), none, none] [] h' ∧ Fr [] (Xz z) h h' ∧ Mt h' z n (fun j' k' => if j' = j ∧ k ≤ k' then M j' k' ^^^ gm (M i k') f else M j' k')
  | 0, k, h, M, e, hk, hs, L, T, B => by
    refine ⟨h, ?_, Fr.rfl, T.cg fun j k' _ hk' => if_neg (by omega)⟩
    rw [t_301_68 hs, if_neg (by rw [nI_eq (by omega) (by omega)]; exact hji), if_pos (nI_lt (by omega) (by omega)), nI_add]
  | r + 1, k, h, M, e, hk, hs, L, T, B => by
    obtain ⟨l1, l2, l3, l4⟩ := L
    obtain ⟨m1, m2, m3⟩ := l4 i (by omega)
    obtain ⟨o1, o2, o3⟩ := l4 j hj4
    have bg := gm_lt (B i k (by omega) (by omega)) hf
    have hs1 : Sh (sA h (z + 1 + j) k (nI (M j k ^^^ gm (M i k) f))) := hs.sA
    have f1 : Fr [] (Xz z) h (sA h (z + 1 + j) k (nI (M j k ^^^ gm (M i k) f))) := Fr.rfl.sA (xz_m hj4)
    have B1 : ∀ j' k', j' < 4 → k' ≤ n → (if j' = j ∧ k' = k then M j k ^^^ gm (M i k) f else M j' k') < 64 := fun j' k' hj hk' => by
      split
      · exact xor64 (B j k hj4 (by omega)) bg
      · exact B j' k' hj hk'
    obtain ⟨h', a1, a2, a3⟩ := cc_l2 hi hn hf hj4 hji r (k + 1) (by omega) (by omega) hs1 (LnC.fr ⟨l1, l2, l3, l4⟩ f1) T.set B1
    refine ⟨h', ?_, f1.trans a2, a3.cg fun j' k' hj' hk' => ?_⟩
    · rw [t_301_68 hs, if_neg (by rw [nI_eq (by omega) (by omega)]; exact hji), if_neg (nI_nlt (by omega) (by omega)), ck_ok l2, l3, gd_nI hj4 (by decide), ix_nI (by omega), o1, Option.bind_some, ck_ok o2, o3, gd_nI (by omega) (by decide), ck_ok m2, m3, gd_nI (by omega) (by decide), ix_nI (by omega), T i k (by omega) (by omega), T j k hj4 (by omega), c_mulT hs (B i k (by omega) (by omega)) hf, cK_v, t_301_97 hs, cw_ok o2 (by omega), o3, gd_nI (by omega) (by decide), ix_nI (by omega), x64 _ (B j k hj4 (by omega)) _ bg, nI_add]
      exact a1
    · by_cases q : j' = j
      · subst q
        by_cases w : k = k'
        · subst w
          rw [if_pos ⟨rfl, Nat.le_refl _⟩, if_neg (by omega), if_pos ⟨rfl, rfl⟩]
        · by_cases v : k ≤ k'
          · rw [if_pos ⟨rfl, v⟩, if_pos ⟨rfl, by omega⟩, if_neg (by omega), if_neg (by omega)]
          · rw [if_neg (by omega), if_neg (by omega), if_neg (by omega)]
      · rw [if_neg fun e => q e.1, if_neg fun e => q e.1, if_neg fun e => q e.1]
theorem cc_l3 (hi : i < n) (hn : n ≤ 4) : ∀ (r j : Nat) {h : AH} {M : Nat → Nat → Nat}, r + j = 4 → Sh h → LnC h z → Mt h z n M → (∀ j k, j < 4 → k ≤ n → M j k < 64) → ∃ h', Q (d + 1) 301 51 [some (.ref z), some (.int (nI i)), some (.int (nI n)), some (.ref (z + 1 + i)), none, some (.int (nI j)), none, none] [] h = some (some (.int (nI 1)), h') ∧ Fr [] (Xz z) h h' ∧ Mt h' z n (fun j' k' => if j ≤ j' ∧ j' ≠ i ∧ i ≤ k' then M j' k' ^^^ gm (M i k') (M j' i) else M j' k')
  | 0, j, h, M, e, hs, L, T, B => by
    refine ⟨h, ?_, Fr.rfl, T.cg fun j' k' _ hk' => if_neg (by omega)⟩
    rw [t_301_51 hs, if_neg (nI_nlt (by omega) (by omega))]
  | r + 1, j, h, M, e, hs, L, T, B => by
    obtain ⟨l1, l2, l3, l4⟩ := L
    obtain ⟨o1, o2, o3⟩ := l4 j (by omega)
    have e0 : Q (d + 1) 301 51 [some (.ref z), some (.int (nI i)), some (.int (nI n)), some (.ref (z + 1 + i)), none, some (.int (nI j)), none, none] [] h = Q (d + 1) 301 68 [some (.ref z), some (.int (nI i)), some (.int (nI n)), some (.ref (z + 1 + i)), none, some (.int (nI j)), some (.int (nI (M j i))), some (.int (nI i))] [] h := by
      rw [t_301_51 hs, if_pos (nI_lt (by omega) (by decide)), ck_ok l2, l3, gd_nI (by omega) (by decide), ix_nI (by omega), o1, Option.bind_some, ck_ok o2, o3, gd_nI (by omega) (by decide), ix_nI (by omega), T j i (by omega) (by omega)]
    rw [e0]
    by_cases q : j = i
    · obtain ⟨h', a1, a2, a3⟩ := cc_l3 hi hn r (j + 1) (by omega) hs ⟨l1, l2, l3, l4⟩ T B
      refine ⟨h', ?_, a2, a3.cg fun j' k' hj' hk' => ?_⟩
      · rw [t_301_68 hs, if_pos (by rw [q]), nI_add]; exact a1
      · by_cases w : j ≤ j' ∧ j' ≠ i ∧ i ≤ k'
        · rw [if_pos w, if_pos (by omega)]
        · rw [if_neg w, if_neg (by omega)]
    · obtain ⟨h1, b1, b2, b3⟩ := cc_l2 (d := d) hi hn (B j i (by omega) (by omega)) (by omega) q (n + 1 - i) i (by omega) (Nat.le_refl _) hs ⟨l1, l2, l3, l4⟩ T B
      have B1 : ∀ j' k', j' < 4 → k' ≤ n → (if j' = j ∧ i ≤ k' then M j' k' ^^^ gm (M i k') (M j i) else M j' k') < 64 := fun j' k' hj hk' => by
        split
        · exact xor64 (B j' k' hj hk') (gm_lt (B i k' (by omega) hk') (B j i (by omega) (by omega)))
        · exact B j' k' hj hk'
      obtain ⟨h', a1, a2, a3⟩ := cc_l3 hi hn r (j + 1) (by omega) (b2.sh hs) (LnC.fr ⟨l1, l2, l3, l4⟩ b2) b3 B1
      refine ⟨h', b1.trans a1, b2.trans a2, a3.cg fun j' k' hj' hk' => ?_⟩
      rw [if_neg (show ¬ (i = j ∧ i ≤ k') by omega)]
      by_cases w : j' = j
      · subst w
        rw [if_neg (show ¬ (j' + 1 ≤ j' ∧ j' ≠ i ∧ i ≤ k') by omega)]
        by_cases v : i ≤ k'
        · rw [if_pos ⟨Nat.le_refl _, q, v⟩, if_pos ⟨rfl, v⟩]
        · rw [if_neg (by omega), if_neg (by omega)]
      · rw [if_neg (show ¬ (j' = j ∧ i ≤ k') by omega), if_neg (show ¬ (j' = j ∧ i ≤ i) by omega)]
        by_cases v : j ≤ j' ∧ j' ≠ i ∧ i ≤ k'
        · rw [if_pos v, if_pos (by omega)]
        · rw [if_neg v, if_neg (by omega)]
/-- a column is cleared -/
theorem c_clr (hi : i < n) (hn : n ≤ 4) {h : AH} {M : Nat → Nat → Nat} (hs : Sh h) (K : KS h) (L : LnC h z) (T : Mt h z n M) (B : ∀ j k, j < 4 → k ≤ n → M j k < 64) (pv : M i i ≠ 0) (z0 : ∀ k, k < i → M i k = 0) : ∃ h', E (d + 2) 301 [.ref z, .int (nI i), .int (nI n)] h = some (some (.int (nI 1)), h') ∧ Fr [] (Xz z) h h' ∧ Mt h' z n (clr M i) := by
  obtain ⟨l1, l2, l3, l4⟩ := L
  obtain ⟨o1, o2, o3⟩ := l4 i (by omega)
  have bi := B i i (by omega) (by omega)
  obtain ⟨g1, g2⟩ := gi_s _ bi
  obtain ⟨h1, a1, a2, a3⟩ := cc_l1 (d := d) hi hn g1 (n + 1 - i) i (by omega) (Nat.le_refl _) hs ⟨l1, l2, l3, l4⟩ T B
  have B1 : ∀ j k, j < 4 → k ≤ n → (if j = i ∧ i ≤ k then gm (M j k) (gi (M i i)) else M j k) < 64 := fun j k hj hk => by
    split
    · exact gm_lt (B j k hj hk) g1
    · exact B j k hj hk
  obtain ⟨h2, b1, b2, b3⟩ := cc_l3 (d := d) hi hn 4 0 rfl (a2.sh hs) (LnC.fr ⟨l1, l2, l3, l4⟩ a2) a3 B1
  refine ⟨h2, ?_, a2.trans b2, b3.cg fun j k hj hk => ?_⟩
  · rw [t_301 hs, ck_ok l2, l3, gd_nI (by omega) (by decide), ix_nI (by omega), o1, Option.bind_some, ck_ok o2, o3, gd_nI (by omega) (by decide), T i i (by omega) (by omega), if_neg (by rw [nI_eq (by omega) (by decide)]; exact pv), ck_ok o2, gd_nI (by omega) (by decide), c_inv hs K bi pv, cK_v, t_301_18 hs, a1]
    exact b1
  · unfold clr
    by_cases q : j = i
    · subst q
      rw [if_pos rfl, if_neg (show ¬ (0 ≤ j ∧ j ≠ j ∧ j ≤ k) by omega)]
      by_cases w : j ≤ k
      · rw [if_pos ⟨rfl, w⟩]
      · rw [if_neg (by omega), z0 k (by omega), (gm_z _ g1).2.1]
    · rw [if_neg q, if_neg (show ¬ (j = i ∧ i ≤ k) by omega), if_neg (show ¬ (j = i ∧ i ≤ i) by omega)]
      by_cases w : i ≤ k
      · rw [if_pos ⟨Nat.zero_le _, q, w⟩, if_pos ⟨rfl, w⟩]
      · rw [if_neg (by omega), z0 k (by omega), (gm_z _ g1).2.1, (gm_z _ (B j i hj (by omega))).2.1, Nat.xor_zero]
end CLC
