/-! ===== SIGNS ARE MADE GOOD (component: solve) ===== -/
def hrn (S : Nat → Nat) (x : Nat) : Nat → Nat
  | 0 => 0
  | m + 1 => gm (hrn S x m) x ^^^ S m
theorem hrn_s {S : Nat → Nat} {e : Nat} : ∀ m, (∀ p, p < m → S p < 64) → hrn S (pw e) m = Sx (fun p => gm (S p) (pw (e * (m - 1 - p)))) m ∧ hrn S (pw e) m < 64
  | 0, _ => ⟨rfl, show 0 < 64 by decide⟩
  | m + 1, h => by
    obtain ⟨a, b⟩ := hrn_s (e := e) m fun p q => h p (by omega)
    have hm := h m (by omega)
    refine ⟨?_, xor64 (gm_lt b pw_lt.1) hm⟩
    show gm (hrn S (pw e) m) (pw e) ^^^ S m = Sx (fun p => gm (S p) (pw (e * (m + 1 - 1 - p)))) m ^^^ gm (S m) (pw (e * (m + 1 - 1 - m)))
    rw [a, show m + 1 - 1 - m = 0 by omega, Nat.mul_zero, show pw 0 = 1 from rfl, (gm_z _ hm).2.2.1, ← Sx_m pw_lt.1 m fun k hk => gm_lt (h k (by omega)) pw_lt.1]
    congr 1
    refine Sx_cg m fun p hp => ?_
    rw [gm_as (h p (by omega)) pw_lt.1 pw_lt.1, pw_mul]
    congr 2
    rw [show m + 1 - 1 - p = (m - 1 - p) + 1 by omega, Nat.mul_add, Nat.mul_one]
theorem hrn_v {S : Nat → Nat} {j : Nat} (h : ∀ p, p < 11 → S p < 64) : hrn S (pw (j + 1)) 11 = vsS S j := (hrn_s 11 h).1
/-- rows of signs and of spots -/
def SA (h : AH) (x : Nat) (S : Nat → Nat) : Prop := gC h x = 60 ∧ gK h x = 11 ∧ 296 ≤ x ∧ ∀ p, p < 11 → gA h x p = nI (S p)
def SPA (h : AH) (x K n : Nat) (sp : Nat → Nat) : Prop := gC h x = 60 ∧ gK h x = K ∧ n ≤ K ∧ K < 1000 ∧ 296 ≤ x ∧ ∀ k, k < n → gA h x k = nI (sp k)
theorem SA.fr {X : List Nat} {h h' : AH} {x : Nat} {S : Nat → Nat} (a : SA h x S) (f : Fr [] X h h') (q : x ∉ X) : SA h' x S := by
  unfold SA at a ⊢; rw [f.2.1, f.2.2.1, f.A q]; exact a
theorem SPA.fr {X : List Nat} {h h' : AH} {x K n : Nat} {sp : Nat → Nat} (a : SPA h x K n sp) (f : Fr [] X h h') (q : x ∉ X) : SPA h' x K n sp := by
  unfold SPA at a ⊢; rw [f.2.1, f.2.2.1, f.A q]; exact a
theorem xz_n {x z : Nat} (h : x < z) : x ∉ Xz z := fun m => by
  simp only [Xz, List.mem_cons, List.not_mem_nil, or_false] at m
  omega
section CSO
variable {d : Nat} {x0 x1 z n K : Nat} {S sp : Nat → Nat}
theorem c_val {h : AH} (hs : Sh h) (A : SA h x0 S) (hS : ∀ p, p < 11 → S p < 64) {x : Nat} (hx : x < 64) (hh : ∀ m, m ≤ 11 → hrn S x m < 64) : ∀ (r m : Nat), r + m = 11 → Q (d + 1) 300 4 [some (.ref x0), some (.int (nI x)), some (.int (nI (hrn S x m))), some (.int (nI m))] [] h = some (some (.int (nI (hrn S x 11))), h)
  | 0, m, e => by
    have : m = 11 := by omega
    subst this
    rw [t_300_4 hs, if_neg (by decide)]
  | r + 1, m, e => by
    have hm : m < 11 := by omega
    obtain ⟨a1, a2, a3, a4⟩ := A
    have := c_val hs ⟨a1, a2, a3, a4⟩ hS hx hh r (m + 1) (by omega)
    rw [t_300_4 hs, if_pos (nI_lt hm (by decide)), c_mulT hs (hh m (by omega)) hx, cK_v, t_300_15 hs, ck_ok a1, a2, gd_nI hm (by decide), ix_nI (by omega), a4 m hm, x64 _ (gm_lt (hh m (by omega)) hx) _ (hS m hm), nI_add]
    exact this
theorem c_valAt {h : AH} (hs : Sh h) (A : SA h x0 S) (hS : ∀ p, p < 11 → S p < 64) {j : Nat} : E (d + 2) 300 [.ref x0, .int (nI (pw (j + 1)))] h = some (some (.int (nI (vsS S j))), h) := by
  have hh : ∀ m, m ≤ 11 → hrn S (pw (j + 1)) m < 64 := fun m hm => (hrn_s m fun p q => hS p (by omega)).2
  rw [t_300 hs, ← hrn_v hS]
  exact c_val (d := d) hs A hS pw_lt.1 hh 11 0 rfl
/-- rows ahead, places ahead are written -/
def MPd (h : AH) (z n : Nat) (sp S : Nat → Nat) (j i : Nat) : Prop := ∀ j' k, (j' < j ∨ j' = j ∧ k < i) → j' < 4 → k ≤ n → gA h (z + 1 + j') k = nI (M0s sp S n n j' k)
theorem cs_f1 (D : SD sp n) (hS : ∀ p, p < 11 → S p < 64) (hx0 : x0 < z) (hx1 : x1 < z) {j : Nat} (hj : j < 4) : ∀ (r i : Nat) {h : AH}, r + i = n → Sh h → KS h → LnC h z → SA h x0 S → SPA h x1 K n sp → MPd h z n sp S j i → ∃ h', Q (d + 2) 246 12 [some (.ref x0), some (.ref x1), some (.int (nI n)), some (.ref z), some (.int (nI j)), some (.int (nI i))] [] h = Q (d + 2) 246 3 [some (.ref x0), some (.ref x1), some (.int (nI n)), some (.ref z), some (.int (nI (j + 1))), none] [] h' ∧ Fr [] (Xz z) h h' ∧ MPd h' z n sp S (j + 1) 0
  | 0, i, h, e, hs, KK, L, A, P, T => by
    obtain ⟨l1, l2, l3, l4⟩ := L
    obtain ⟨o1, o2, o3⟩ := l4 j hj
    have i_n : i = n := by omega
    subst i_n
    have n4 := D.1
    have f1 : Fr [] (Xz z) h (sA h (z + 1 + j) i (nI (vsS S j))) := Fr.rfl.sA (xz_m hj)
    refine ⟨_, ?_, f1, fun j' k q hj' hk => ?_⟩
    · rw [t_246_12 hs, if_neg (nI_nlt (Nat.le_refl _) (by omega)), ck_ok l2, l3, gd_nI hj (by decide), ix_nI (by omega), o1, Option.bind_some, nI_add, gd_nI (by omega) (by decide), ix_nI (by omega), KK.pw (by omega), c_valAt hs A hS, cK_v, t_246_67 hs, cw_ok o2 (by omega), o3, gd_nI (by omega) (by decide), ix_nI (by omega), nI_add]
    · by_cases w : j' = j
      · subst w
        rw [gA_s]
        by_cases v : k = i
        · subst v
          rw [up1_s]
          unfold M0s
          rw [if_neg (by omega), if_pos rfl]
        · rw [up1_x v]; exact T j' k (by omega) hj' hk
      · rw [gA_k (by omega)]; exact T j' k (by omega) hj' hk
  | r + 1, i, h, e, hs, KK, L, A, P, T => by
    have L' := L
    have P' := P
    obtain ⟨l1, l2, l3, l4⟩ := L
    obtain ⟨o1, o2, o3⟩ := l4 j hj
    obtain ⟨p1, p2, p3, p4, p5, p6⟩ := P
    have n4 := D.1
    have s11 := D.2.1 i (by omega)
    have f1 : Fr [] (Xz z) h (sA h (z + 1 + j) i (nI (pw ((j + 1) * (10 - sp i))))) := Fr.rfl.sA (xz_m hj)
    have T1 : MPd (sA h (z + 1 + j) i (nI (pw ((j + 1) * (10 - sp i))))) z n sp S j (i + 1) := fun j' k q hj' hk => by
      by_cases w : j' = j
      · subst w
        rw [gA_s]
        by_cases v : k = i
        · subst v
          rw [up1_s]
          unfold M0s
          rw [if_pos (by omega)]
        · rw [up1_x v]; exact T j' k (by omega) hj' hk
      · rw [gA_k (by omega)]; exact T j' k (by omega) hj' hk
    obtain ⟨h', a1, a2, a3⟩ := cs_f1 D hS hx0 hx1 hj r (i + 1) (by omega) (f1.sh hs) (KK.fr f1 (by decide) fun x hx => by simp only [Xz, List.mem_cons, List.not_mem_nil, or_false] at hx; omega) (L'.fr f1) (A.fr f1 (xz_n hx0)) (P'.fr f1 (xz_n hx1)) T1
    refine ⟨h', ?_, f1.trans a2, a3⟩
    have m40 : (j + 1) * (10 - sp i) ≤ 40 := Nat.le_trans (Nat.mul_le_mul (by omega) (Nat.sub_le _ _)) (by decide : 4 * 10 ≤ 40)
    rw [t_246_12 hs, if_pos (nI_lt (by omega) (by omega)), ck_ok l2, l3, gd_nI hj (by decide), ix_nI (by omega), o1, Option.bind_some, ck_ok p1, p2, gd_nI (by omega) (by omega), dz_ok (by decide), ix_nI (by omega), p6 i (by omega), nI_add, pk_sub (by omega), pk_mul, pk_remN (by omega) (by decide) (by decide), gd_nI (Nat.mod_lt _ (by decide)) (by decide), ix_nI (by omega), KK.pw (Nat.mod_lt _ (by decide)), pw_m, cw_ok o2 (by omega), o3, gd_nI (by omega) (by decide), nI_add]
    exact a1
theorem cs_f2 (D : SD sp n) (hS : ∀ p, p < 11 → S p < 64) (hx0 : x0 < z) (hx1 : x1 < z) : ∀ (r j : Nat) {h : AH}, r + j = 4 → Sh h → KS h → LnC h z → SA h x0 S → SPA h x1 K n sp → MPd h z n sp S j 0 → ∃ h', Q (d + 2) 246 3 [some (.ref x0), some (.ref x1), some (.int (nI n)), some (.ref z), some (.int (nI j)), none] [] h = Q (d + 2) 246 77 [some (.ref x0), some (.ref x1), some (.int (nI n)), some (.ref z), some (.int (nI 0)), none] [] h' ∧ Fr [] (Xz z) h h' ∧ Mt h' z n (M0s sp S n n)
  | 0, j, h, e, hs, KK, L, A, P, T => by
    refine ⟨h, ?_, Fr.rfl, fun j' k hj hk => T j' k (by omega) hj hk⟩
    rw [t_246_3 hs, if_neg (nI_nlt (by omega) (by omega))]
  | r + 1, j, h, e, hs, KK, L, A, P, T => by
    obtain ⟨h1, b1, b2, b3⟩ := cs_f1 (d := d) D hS hx0 hx1 (show j < 4 by omega) n 0 (by omega) hs KK L A P T
    have xx : ∀ x, x ∈ Xz z → 61 ≤ x := fun x hx => by have := L.1; simp only [Xz, List.mem_cons, List.not_mem_nil, or_false] at hx; omega
    obtain ⟨h', a1, a2, a3⟩ := cs_f2 D hS hx0 hx1 r (j + 1) (by omega) (b2.sh hs) (KK.fr b2 (by decide) xx) (L.fr b2) (A.fr b2 (xz_n hx0)) (P.fr b2 (xz_n hx1)) b3
    refine ⟨h', ?_, b2.trans a2, a3⟩
    rw [t_246_3 hs, if_pos (nI_lt (by omega) (by decide)), b1, a1]
theorem cs_cols (D : SD sp n) {M0 : Nat → Nat → Nat} : ∀ (r i : Nat) {h : AH} {M : Nat → Nat → Nat}, r + i = n → Sh h → KS h → LnC h z → Mt h z n M → Ei (fun k => pw (10 - sp k)) n n i M0 M → ∃ h' M', Q (d + 2) 246 77 [some (.ref x0), some (.ref x1), some (.int (nI n)), some (.ref z), some (.int (nI i)), none] [] h = Q (d + 2) 246 104 [some (.ref x0), some (.ref x1), some (.int (nI n)), some (.ref z), some (.int (nI n)), none] [] h' ∧ Fr [] (Xz z) h h' ∧ Mt h' z n M' ∧ Ei (fun k => pw (10 - sp k)) n n n M0 M'
  | 0, i, h, M, e, hs, KK, L, T, I => by
    have i_n : i = n := by omega
    subst i_n
    refine ⟨h, M, ?_, Fr.rfl, T, I⟩
    rw [t_246_77 hs, if_neg (nI_nlt (Nat.le_refl _) (by have := D.1; omega))]
  | r + 1, i, h, M, e, hs, KK, L, T, I => by
    have n4 := D.1
    have hi : i < n := by omega
    obtain ⟨h1, b1, b2, b3⟩ := c_clr (d := d) hi n4 hs KK L T (fun j k hj hk => I.1 j k hj (by omega)) (I.piv D.xd hi n4) (fun k hk => by rw [I.2.1 k i hk (by omega), if_neg (by omega)])
    have xx : ∀ x, x ∈ Xz z → 61 ≤ x := fun x hx => by have := L.1; simp only [Xz, List.mem_cons, List.not_mem_nil, or_false] at hx; omega
    obtain ⟨h', M', a1, a2, a3, a4⟩ := cs_cols D r (i + 1) (by omega) (b2.sh hs) (KK.fr b2 (by decide) xx) (L.fr b2) b3 (I.step D.xd hi n4 fun _ _ _ _ => rfl)
    refine ⟨h', M', ?_, b2.trans a2, a3, a4⟩
    rw [t_246_77 hs, if_pos (nI_lt hi (by omega)), b1, cK_v, t_246_90 (b2.sh hs), if_neg (by decide), nI_add]
    exact a1
theorem cs_chk {M : Nat → Nat → Nat} {h : AH} (hs : Sh h) (hn : n ≤ 4) (L : LnC h z) (T : Mt h z n M) (B : ∀ j, j < 4 → M j n < 64) : ∀ (r j : Nat), r + j = 4 → ((∀ j', j ≤ j' → j' < 4 → M j' n = 0) → Q (d + 2) 246 104 [some (.ref x0), some (.ref x1), some (.int (nI n)), some (.ref z), some (.int (nI j)), none] [] h = Q (d + 2) 246 130 [some (.ref x0), some (.ref x1), some (.int (nI n)), some (.ref z), some (.int (nI 0)), none] [] h) ∧ ((¬ ∀ j', j ≤ j' → j' < 4 → M j' n = 0) → Q (d + 2) 246 104 [some (.ref x0), some (.ref x1), some (.int (nI n)), some (.ref z), some (.int (nI j)), none] [] h = some (some (.int (nI 0)), h))
  | 0, j, e => ⟨fun _ => by rw [t_246_104 hs, if_neg (nI_nlt (by omega) (by omega))], fun q => absurd (fun j' h1 h2 => by omega) q⟩
  | r + 1, j, e => by
    obtain ⟨l1, l2, l3, l4⟩ := L
    obtain ⟨o1, o2, o3⟩ := l4 j (by omega)
    obtain ⟨i1, i2⟩ := cs_chk hs hn ⟨l1, l2, l3, l4⟩ T B r (j + 1) (by omega)
    have bj := B j (by omega)
    have st : Q (d + 2) 246 104 [some (.ref x0), some (.ref x1), some (.int (nI n)), some (.ref z), some (.int (nI j)), none] [] h = if M j n = 0 then Q (d + 2) 246 104 [some (.ref x0), some (.ref x1), some (.int (nI n)), some (.ref z), some (.int (nI (j + 1))), none] [] h else some (some (.int (nI 0)), h) := by
      rw [t_246_104 hs, if_pos (nI_lt (by omega) (by decide)), ck_ok l2, l3, gd_nI (by omega) (by decide), ix_nI (by omega), o1, Option.bind_some, ck_ok o2, o3, gd_nI (by omega) (by decide), ix_nI (by omega), T j n (by omega) (Nat.le_refl _), nI_add]
      simp only [show (nI (M j n) = nI 0) = (M j n = 0) from propext (nI_eq (by omega) (by decide))]
    rw [st]
    by_cases w : M j n = 0
    · rw [if_pos w]
      refine ⟨fun q => i1 fun j' h1 h2 => q j' (by omega) h2, fun q => i2 fun q' => q fun j' h1 h2 => ?_⟩
      by_cases v : j' = j
      · rw [v]; exact w
      · exact q' j' (by omega) h2
    · rw [if_neg w]
      exact ⟨fun q => absurd (q j (Nat.le_refl _) (by omega)) w, fun _ => rfl⟩
theorem cs_put (D : SD sp n) {M : Nat → Nat → Nat} (hx0 : x0 < z) (hx01 : x0 ≠ x1) (B : ∀ j, j < 4 → M j n < 64) (hS : ∀ p, p < 11 → S p < 64) : ∀ (r k : Nat) {h : AH}, r + k = n → Sh h → LnC h z → Mt h z n M → SA h x0 (fun p => S p ^^^ dl sp (fun k => M k n) k p) → SPA h x1 K n sp → ∃ h', Q (d + 2) 246 130 [some (.ref x0), some (.ref x1), some (.int (nI n)), some (.ref z), some (.int (nI k)), none] [] h = some (some (.int (nI 1)), h') ∧ Fr [] [x0] h h' ∧ SA h' x0 (fun p => S p ^^^ dl sp (fun k => M k n) n p)
  | 0, k, h, e, hs, L, T, A, P => by
    have i_n : k = n := by omega
    subst i_n
    refine ⟨h, ?_, Fr.rfl, A⟩
    rw [t_246_130 hs, if_neg (nI_nlt (Nat.le_refl _) (by have := D.1; omega))]
  | r + 1, k, h, e, hs, L, T, A, P => by
    have L' := L
    have P' := P
    obtain ⟨l1, l2, l3, l4⟩ := L
    obtain ⟨p1, p2, p3, p4, p5, p6⟩ := P
    obtain ⟨a1, a2, a3, a4⟩ := A
    have n4 := D.1
    obtain ⟨o1, o2, o3⟩ := l4 k (by omega)
    have s11 := D.2.1 k (by omega)
    have bk := B k (by omega)
    have bd : ∀ p, dl sp (fun k => M k n) k p < 64 := fun p => dl_lt fun k' hk' => B k' (by omega)
    have f1 : Fr [] [x0] h (sA h x0 (sp k) (nI ((S (sp k) ^^^ dl sp (fun k => M k n) k (sp k)) ^^^ M k n))) := Fr.rfl.sA (List.mem_singleton.mpr rfl)
    have A1 : SA (sA h x0 (sp k) (nI ((S (sp k) ^^^ dl sp (fun k => M k n) k (sp k)) ^^^ M k n))) x0 (fun p => S p ^^^ dl sp (fun k => M k n) (k + 1) p) := ⟨a1, a2, a3, fun p hp => by
      rw [gA_s]
      have u : dl sp (fun k => M k n) (k + 1) p = dl sp (fun k => M k n) k p ^^^ (if p = sp k then M k n else 0) := rfl
      dsimp only
      rw [u]
      by_cases w : p = sp k
      · rw [w, up1_s, if_pos rfl, Nat.xor_assoc]
      · rw [up1_x w, if_neg w, Nat.xor_zero]; exact a4 p hp⟩
    obtain ⟨h', b1, b2, b3⟩ := cs_put D hx0 hx01 B hS r (k + 1) (by omega) (f1.sh hs) (L'.fr f1) (fun j' k' hj hk => by rw [f1.A (by rw [List.mem_singleton]; omega)]; exact T j' k' hj hk) A1 (P'.fr f1 (by rw [List.mem_singleton]; exact fun w => hx01 w.symm))
    refine ⟨h', ?_, f1.trans b2, b3⟩
    rw [t_246_130 hs, if_pos (nI_lt (by omega) (by omega)), ck_ok p1, p2, gd_nI (by omega) (by omega), ix_nI (by omega), p6 k (by omega), ck_ok a1, a2, gd_nI s11 (by decide), ck_ok l2, l3, gd_nI (by omega) (by decide), o1, Option.bind_some, ck_ok o2, o3, gd_nI (by omega) (by decide), cw_ok a1 (by omega), gd_nI s11 (by decide), ix_nI (by omega), ix_nI (by omega), a4 _ s11, T k n (by omega) (Nat.le_refl _), x64 _ (xor64 (hS _ s11) (bd _)) _ bk, nI_add]
    exact b1
/-- solve: the signs are good behind it, or no change of these spots makes them good -/
theorem c_solve {h : AH} (D : SD sp n) (hS : ∀ p, p < 11 → S p < 64) (hx0 : x0 < z) (hx1 : x1 < z) (hx01 : x0 ≠ x1) (hs : Sh h) (KK : KS h) (L : LnC h z) (A : SA h x0 S) (P : SPA h x1 K n sp) : ∃ h' v, E (d + 3) 246 [.ref x0, .ref x1, .int (nI n), .ref z] h = some (some (.int (nI v)), h') ∧ Fr [] (x0 :: Xz z) h h' ∧ (v = 1 ∧ (∃ T, SolS sp n S T ∧ SA h' x0 T) ∨ v = 0 ∧ (∀ T, ¬ SolS sp n S T) ∧ SA h' x0 S) := by
  have n4 := D.1
  have xx : ∀ x, x ∈ Xz z → 61 ≤ x := fun x hx => by have := L.1; simp only [Xz, List.mem_cons, List.not_mem_nil, or_false] at hx; omega
  have hM : ∀ j k, j < 4 → k < n → M0s sp S n n j k = pw ((j + 1) * (10 - sp k)) := fun j k _ hk => if_pos hk
  have hR : ∀ j, j < 4 → M0s sp S n n j n = vsS S j := fun j _ => by unfold M0s; rw [if_neg (by omega), if_pos rfl]
  obtain ⟨h1, a1, a2, a3⟩ := cs_f2 (d := d) D hS hx0 hx1 4 0 rfl hs KK L A P (fun j' k q => by omega)
  have hs1 := a2.sh hs
  obtain ⟨h2, M, b1, b2, b3, b4⟩ := cs_cols (d := d) (x0 := x0) (x1 := x1) D n 0 (by omega) hs1 (KK.fr a2 (by decide) xx) (L.fr a2) a3 (Ei.spt D hS hM hR)
  have hs2 := b2.sh hs1
  have f2 := a2.trans b2
  have BM : ∀ j, j < 4 → M j n < 64 := fun j hj => b4.1 j n hj (Or.inr rfl)
  obtain ⟨c1, c2⟩ := cs_chk (d := d) (x0 := x0) (x1 := x1) hs2 n4 (L.fr f2) b3 BM (4 - n) n (by omega)
  obtain ⟨s1, s2⟩ := Ei.sol D hS hM hR b4
  have A2 := A.fr f2 (xz_n hx0)
  have e0 : E (d + 3) 246 [.ref x0, .ref x1, .int (nI n), .ref z] h = Q (d + 2) 246 104 [some (.ref x0), some (.ref x1), some (.int (nI n)), some (.ref z), some (.int (nI n)), none] [] h2 := by
    rw [t_246 hs, a1, b1]
  by_cases q : ∀ j', n ≤ j' → j' < 4 → M j' n = 0
  · obtain ⟨h3, d1, d2, d3⟩ := cs_put (d := d) (K := K) (S := S) D hx0 hx01 BM hS n 0 (by omega) hs2 (L.fr f2) b3 (by
      show SA h2 x0 (fun p => S p ^^^ 0)
      simp only [Nat.xor_zero]
      exact A2) (P.fr f2 (xz_n hx1))
    refine ⟨h3, 1, by rw [e0, c1 q, d1], (f2.wk (fun _ q => q) (fun x q => List.mem_cons_of_mem _ q)).trans (d2.wk (fun _ q => q) (fun x q => by rw [List.mem_singleton] at q; rw [q]; exact List.mem_cons_self)), Or.inl ⟨rfl, _, s1 q, d3⟩⟩
  · refine ⟨h2, 0, by rw [e0, c2 q], f2.wk (fun _ q => q) (fun x q => List.mem_cons_of_mem _ q), Or.inr ⟨rfl, fun T hT => q (s2 T hT).1, A2⟩⟩
end CSO
