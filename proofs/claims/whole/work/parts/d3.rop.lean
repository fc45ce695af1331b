/-! ===== WHAT THE REFERENCE'S STEPS AMONG THE TOKENS COME TO ===== -/
def kwL : List Nat := [0, 1051720676, 36035504, 1355937207, 347, 20687, 283582, 329128, 755, 57, 5, 14, 23, 19, 1166843, 49130383257, 842538932, 1112293531, 1722105685577, 679747, 103383, 254753, 790116, 1338036, 8269, 793, 22745289, 4904, 6383766, 11726208, 10492707, 609928, 37549136, 15769678, 660270, 227825, 964262, 22701, 16490, 36229369, 2782, 1257895406, 990358, 339, 270401, 43523697, 28071, 569, 93001221, 16627, 983628, 172647, 1604747592, 570026, 716895, 352, 660401, 412740, 1025867, 730200, 36021578, 483455, 1421705446, 5042231, 36075056, 1333313667, 475802, 23269171, 439315597, 11342540310, 17887854, 31173940503, 41154860666, 63717910366368]
def kw (w : Nat) : Nat := kwL.getD w 0
theorem kw_b : ∀ w, w < 74 → kw w < 37 ^ 12 := by decide +kernel
/-- the reference's words -/
def KR (h : AH) : Prop := ∀ w, w < 74 → gB h 190 w = lN (kw w)
theorem KR.fr {K X : List Nat} {h h' : AH} (a : KR h) (f : Fr K X h h') (hX : 190 ∉ X) : KR h' := fun w hw => by rw [f.B hX]; exact a w hw
abbrev isW (t : Tp) (k v : Nat) : Prop := tK t k = 2 ∧ tV t k = v
def st (f c : Nat) : Nat := if f = 0 then c else f
theorem st_0 {f c : Nat} : st f c = 0 ↔ f = 0 ∧ c = 0 := by unfold st; split <;> omega
/-- the first fault -/
def ff : List Nat → Nat
  | [] => 0
  | a :: l => if a = 0 then ff l else a
theorem st_ff : ∀ (l : List Nat) (c : Nat), st (ff l) c = ff (l ++ [c])
  | [], c => by unfold st ff ff; split <;> simp_all [ff]
  | a :: l, c => by
    show st (if a = 0 then ff l else a) c = if a = 0 then ff (l ++ [c]) else a
    by_cases q : a = 0
    · rw [if_pos q, if_pos q]; exact st_ff l c
    · rw [if_neg q, if_neg q]; unfold st; rw [if_neg q]
def fX (t : Tp) (c k : Nat) : Nat := c + 16 * tS t k
def fW (t : Tp) (k v : Nat) : Nat := if isW t k v then 0 else fX t 1 k
def fN (t : Tp) (k lo hi : Nat) : Nat := if tK t k ≠ 3 then fX t 1 k else if tV t k < lo ∨ hi < tV t k then fX t 4 k else 0
def fS (t : Tp) (k c : Nat) : Nat := if tK t k = c then 0 else fX t 1 k
def fM (t : Tp) (k : Nat) (nm : Nat → Nat) (m : Nat) : Nat := if tK t k ≠ 2 then fX t 1 k else if (List.range m).any (fun i => decide (nm i = tV t k)) then fX t 3 k else 0
/-- the last of m that is named so -/
def ofL (nm : Nat → Nat) (v : Nat) : Nat → Option Nat
  | 0 => none
  | n + 1 => if nm n = v then some n else ofL nm v n
def fO (t : Tp) (k : Nat) (nm : Nat → Nat) (m : Nat) : Nat := if tK t k ≠ 2 then fX t 1 k else if ofL nm (tV t k) m = none then fX t 2 k else 0
/-- the first of n words from w on -/
def ow (t : Tp) (k w : Nat) : Nat → Nat → Option Nat
  | 0, _ => none
  | n + 1, i => if isW t k (kw (w + i)) then some i else ow t k w n (i + 1)
def f1 (t : Tp) (k w n : Nat) : Nat := if ow t k w n 0 = none then fX t 1 k else 0
theorem ow_b {t : Tp} {k w i : Nat} : ∀ (n j : Nat), ow t k w n j = some i → j ≤ i ∧ i < j + n ∧ isW t k (kw (w + i))
  | 0, j, e => by cases e
  | n + 1, j, e => by
    rw [ow] at e
    by_cases q : isW t k (kw (w + j))
    · rw [if_pos q] at e; cases e; exact ⟨by omega, by omega, q⟩
    · rw [if_neg q] at e
      obtain ⟨a, b, c⟩ := ow_b n (j + 1) e
      exact ⟨by omega, by omega, c⟩
/-- where the reference is among the tokens, and its fault -/
def RQ (h : AH) (t : Tp) (M k f : Nat) : Prop := RKs h t M ∧ gI h 3596 189 = nI f ∧ f < 100000 ∧ ∃ a, gI h 3595 189 = nI a ∧ a ≤ M ∧ (f = 0 → a = k)
section ROP
variable {d : Nat} {h h' : AH} {t : Tp} {M k f : Nat}
theorem RKs.fr {K X : List Nat} (R : RKs h t M) (fr : Fr K X h h') (h1 : 194 ∉ X) (h2 : 195 ∉ X) (h3 : 196 ∉ X) : RKs h' t M := by
  unfold RKs RK1 at R ⊢
  rw [fr.A h1, fr.A h2, fr.B h3]; exact R
theorem RQ.fr {K X : List Nat} (R : RQ h t M k f) (fr : Fr K X h h') (h0 : 3595 ∉ K) (h4 : 3596 ∉ K) (h1 : 194 ∉ X) (h2 : 195 ∉ X) (h3 : 196 ∉ X) : RQ h' t M k f := by
  obtain ⟨a, b, c⟩ := R
  unfold RQ
  rw [fr.I h0, fr.I h4]
  exact ⟨a.fr fr h1 h2 h3, b, c⟩
theorem RQ.at (R : RQ h t M k f) (hf : f = 0) : gI h 3595 189 = nI k ∧ k ≤ M ∧ M ≤ 4000 ∧ RK1 h t k := by
  obtain ⟨⟨a1, a2, a3, a4, a5⟩, -, -, a, b1, b2, b3⟩ := R
  obtain rfl := b3 hf
  exact ⟨b1, b2, by omega, a5 _ b2⟩
theorem RQ.le (R : RQ h t M k f) : ∃ a, gI h 3595 189 = nI a ∧ a ≤ M ∧ a ≤ 4000 := by
  obtain ⟨⟨a1, a2, a3, a4, a5⟩, -, -, a, b1, b2, b3⟩ := R
  exact ⟨a, b1, b2, by omega⟩
theorem RQ.lt (R : RQ h t M k f) (hf : f = 0) (q : tK t k ≠ 0) : k < M := by
  obtain ⟨e1, e2, e3, e4⟩ := R.at hf
  obtain ⟨⟨a1, a2, a3, a4, a5⟩, -⟩ := R
  by_cases w : k = M
  · rw [w] at q; exact absurd a3 q
  · omega
theorem tS_4 (R : RQ h t M k f) {j : Nat} : tS t j ≤ 4000 := by
  obtain ⟨⟨a1, a2, -⟩, -⟩ := R
  have := (tS_b (t := t) (k := j)).1
  omega
theorem rk_1 : ∀ {x : Nat}, (rkd x = 1 ↔ x = 2) ∧ (rkd x = 2 ↔ x = 3) ∧ (rkd x = 0 ↔ x = 0) ∧ (rkd x = 3 ↔ 4 ≤ x) ∧ rkd x ≤ 4 := by
  intro x; unfold rkd; (repeat' split) <;> omega
theorem tV_b : (tK t k = 2 → tV t k < 37 ^ 12) ∧ (tK t k = 3 → tV t k < 10 ^ 9) ∧ (4 ≤ tK t k → tV t k = tK t k ∧ tK t k < 128) := by
  have dg : ∀ (l : List Nat) (a m : Nat), a < 10 ^ m → (∀ x, x ∈ l → x < 37) → dgN a l < 10 ^ (m + l.length) := fun l => by
    induction l with
    | nil => intro a m h _; exact h
    | cons x l ih =>
      intro a m h hx
      have := hx x List.mem_cons_self
      have e : 10 * a + (x - 27) < 10 ^ (m + 1) := by rw [Nat.pow_succ]; omega
      have := ih (10 * a + (x - 27)) (m + 1) e fun y hy => hx y (List.mem_cons_of_mem _ hy)
      rw [List.length_cons, show m + (l.length + 1) = m + 1 + l.length from by omega]; exact this
  have rg : ∀ m b e, (m = 27 ∨ m = 1) → ((tokR m t b e).1 = 2 → (tokR m t b e).2.1 < 37 ^ 12) ∧ ((tokR m t b e).1 = 3 → (tokR m t b e).2.1 < 10 ^ 9) ∧ ¬ 4 ≤ (tokR m t b e).1 := fun m b e hm => by
    have sb : ∀ x, x ∈ sl (tcS t) b (e - b) → x < 37 := sl_m (P := fun x => x < 37) _ _ fun i _ _ => tcd_b
    unfold tokR
    by_cases q : m = 27
    · rw [if_pos q]
      by_cases w : 9 < e - b
      · rw [if_pos w]; exact ⟨fun z => absurd z (by dsimp only; decide), fun z => absurd z (by dsimp only; decide), by dsimp only; decide⟩
      · rw [if_neg w]
        refine ⟨fun z => absurd z (by dsimp only; decide), fun _ => ?_, by dsimp only; decide⟩
        have := dg _ 0 0 (by decide) sb
        rw [sl_l] at this
        exact Nat.lt_of_lt_of_le this (Nat.pow_le_pow_right (by decide) (by omega))
    · rw [if_neg q]
      by_cases w : 12 < e - b
      · rw [if_pos w]; exact ⟨fun z => absurd z (by dsimp only; decide), fun z => absurd z (by dsimp only; decide), by dsimp only; decide⟩
      · rw [if_neg w]
        refine ⟨fun _ => ?_, fun z => absurd z (by dsimp only; decide), by dsimp only; decide⟩
        have := pk_b _ 0 0 (by decide) sb
        rw [sl_l] at this
        exact Nat.lt_of_lt_of_le this (Nat.pow_le_pow_right (by decide) (by omega))
  unfold tK tV tok tokB
  generalize skB t (t.1 - tkP t k) (tkP t k) = b
  by_cases q : t.1 ≤ b
  · rw [if_pos q]; exact ⟨fun z => absurd z (by dsimp only; decide), fun z => absurd z (by dsimp only; decide), fun z => absurd z (by dsimp only; decide)⟩
  · rw [if_neg q]
    by_cases q1 : tcS t b = 0
    · rw [if_pos q1]
      by_cases q3 : t.2 b ∈ sgL
      · rw [if_pos q3]
        have ne : ∀ c, c ∈ sgL → c ≠ 2 ∧ c ≠ 3 ∧ c < 128 := by decide
        exact ⟨fun z => absurd z (ne _ q3).1, fun z => absurd z (ne _ q3).2.1, fun _ => ⟨rfl, (ne _ q3).2.2⟩⟩
      · rw [if_neg q3]; exact ⟨fun z => absurd z (by dsimp only; decide), fun z => absurd z (by dsimp only; decide), fun z => absurd z (by dsimp only; decide)⟩
    · rw [if_neg q1]
      by_cases q2 : 27 ≤ tcS t b
      · rw [if_pos q2]; have := rg 27 b (rnB t 27 (t.1 - b) b) (Or.inl rfl); exact ⟨this.1, this.2.1, fun z => absurd z this.2.2⟩
      · rw [if_neg q2]; have := rg 1 b (rnB t 1 (t.1 - b) b) (Or.inr rfl); exact ⟨this.1, this.2.1, fun z => absurd z this.2.2⟩
theorem cmp_N {a b : Nat} (ha : a < 2 ^ 63) (hb : b < 2 ^ 63) : (lg_cmp (lN a) (lN b) < nI 0 ↔ a < b) ∧ (nI 0 < lg_cmp (lN a) (lN b) ↔ b < a) := by
  unfold lg_cmp
  have a1 := pk_lLT (a := b) (b := a) hb ha
  have a2 := pk_lEQ (a := a) (b := b) ha hb
  by_cases z1 : b < a
  · rw [if_pos (a1.mpr z1)]
    exact ⟨⟨fun w => absurd w (by decide), fun w => by omega⟩, ⟨fun _ => z1, fun _ => by decide⟩⟩
  · rw [if_neg fun w => z1 (a1.mp w)]
    by_cases z2 : a = b
    · rw [if_pos (a2.mpr z2)]
      exact ⟨⟨fun w => absurd w (by decide), fun w => by omega⟩, ⟨fun w => absurd w (by decide), fun w => by omega⟩⟩
    · rw [if_neg fun w => z2 (a2.mp w)]
      exact ⟨⟨fun _ => by omega, fun _ => by decide⟩, ⟨fun w => absurd w (by decide), fun w => by omega⟩⟩
theorem b1 {P : Prop} [Decidable P] (p : P) : (if P then 1 else 0) = 1 := if_pos p
theorem b0 {P : Prop} [Decidable P] (p : ¬ P) : (if P then 1 else 0) = 0 := if_neg p
theorem r_wrong (hs : Sh h) (R : RQ h t M k f) {c : Nat} (hc : c ≤ 9) (h0 : 0 < c) : ∃ h', E (d + 1) 48 [.ref 189, .int (nI c)] h = some (none, h') ∧ Fr [3596] [] h h' ∧ RQ h' t M k (st f (fX t c k)) := by
  by_cases q : f = 0
  · obtain ⟨e1, e2, e3, e4⟩ := R.at q
    have hS := tS_4 R (j := k)
    have hf : Fr [3596] [] h (sI h 3596 189 (nI (fX t c k))) := Fr.rfl.sI (by decide)
    refine ⟨_, ?_, hf, ?_⟩
    · rw [t_48 hs, R.2.1, q, if_pos rfl, e1, gd_nI (by omega) (by decide), ix_nI (by omega), e4.2.1, pk_mul, nI_add]; rfl
    · have : st f (fX t c k) = fX t c k := if_pos q
      refine ⟨R.1.fr hf (by decide) (by decide) (by decide), by rw [this]; exact gI_s, by rw [this]; unfold fX; omega, k, by rw [gI_k (by decide)]; exact e1, e2, fun _ => rfl⟩
  · refine ⟨h, ?_, Fr.rfl, ?_⟩
    · rw [t_48 hs, R.2.1, if_neg fun w => q ((nI_eq (by have := R.2.2.1; omega) (by decide)).mp w)]
    · have : st f (fX t c k) = f := if_neg q
      rw [this]; exact R
theorem r_isW (hs : Sh h) (K : KR h) (R : RQ h t M k f) {w : Nat} (hw : w < 74) : E (d + 1) 45 [.ref 189, .int (nI w)] h = some (some (.int (nI (if f = 0 ∧ isW t k (kw w) then 1 else 0))), h) := by
  rw [t_45 hs, R.2.1]
  by_cases q : f = 0
  · obtain ⟨e1, e2, e3, e4⟩ := R.at q
    rw [if_pos (by rw [q]), e1, gd_nI (by omega) (by decide), ix_nI (by omega), e4.1]
    by_cases q1 : tK t k = 2
    · have vb := (tV_b (t := t) (k := k)).1 q1
      have kb := kw_b w hw
      rw [if_pos (by rw [rk_1.1.mpr q1]), gd_nI (by omega) (by decide), gd_nI (by omega) (by decide), ix_nI (by omega), e4.2.2 (by omega), K w hw]
      simp only [l_eq (lt37 vb (by decide)) (lt37 kb (by decide))]
      by_cases q2 : tV t k = kw w
      · rw [if_pos q2, if_pos ⟨q, q1, q2⟩]
      · rw [if_neg q2, if_neg fun z => q2 z.2.2]
    · rw [if_neg fun z => q1 (rk_1.1.mp ((nI_eq (by have := (rk_1 (x := tK t k)).2.2.2.2; omega) (by decide)).mp z)), if_neg fun z => q1 z.2.1]
  · rw [if_neg fun w => q ((nI_eq (by have := R.2.2.1; omega) (by decide)).mp w), if_neg fun z => q z.1]
theorem r_isA (hs : Sh h) (R : RQ h t M k f) {c : Nat} (hc : 4 ≤ c) (hc2 : c < 128) : E (d + 1) 58 [.ref 189, .int (nI c)] h = some (some (.int (nI (if f = 0 ∧ tK t k = c then 1 else 0))), h) := by
  rw [t_58 hs, R.2.1]
  by_cases q : f = 0
  · obtain ⟨e1, e2, e3, e4⟩ := R.at q
    rw [if_pos (by rw [q]), e1, gd_nI (by omega) (by decide), ix_nI (by omega), e4.1]
    by_cases q1 : 4 ≤ tK t k
    · obtain ⟨v1, v2⟩ := (tV_b (t := t) (k := k)).2.2 q1
      rw [if_pos (by rw [rk_1.2.2.2.1.mpr q1]), gd_nI (by omega) (by decide), e4.2.2 (by omega), nI_l (by omega), v1]
      simp only [l_eq (show tK t k < 2 ^ 63 by omega) (show c < 2 ^ 63 by omega)]
      by_cases q2 : tK t k = c
      · rw [if_pos q2, if_pos ⟨q, q2⟩]
      · rw [if_neg q2, if_neg fun z => q2 z.2]
    · rw [if_neg fun z => q1 (rk_1.2.2.2.1.mp ((nI_eq (by have := (rk_1 (x := tK t k)).2.2.2.2; omega) (by decide)).mp z)), if_neg fun z => q1 (by omega)]
  · rw [if_neg fun w => q ((nI_eq (by have := R.2.2.1; omega) (by decide)).mp w), if_neg fun z => q z.1]
/-- one token on -/
theorem RQ.up (R : RQ h t M k f) (hf : f = 0) (q : tK t k ≠ 0) : RQ (sI h 3595 189 (nI (k + 1))) t M (k + 1) f := by
  have lt := R.lt hf q
  have fr : Fr [3595] [] h (sI h 3595 189 (nI (k + 1))) := Fr.rfl.sI (by decide)
  exact ⟨R.1.fr fr (by decide) (by decide) (by decide), by rw [gI_k (by decide)]; exact R.2.1, R.2.2.1, k + 1, gI_s, lt, fun _ => rfl⟩
theorem RQ.any (R : RQ h t M k f) (hf : f ≠ 0) (j : Nat) : RQ h t M j f := by
  obtain ⟨a, b, c, x, y, z, w⟩ := R
  exact ⟨a, b, c, x, y, z, fun q => absurd q hf⟩
theorem r_tW (hs : Sh h) (K : KR h) (R : RQ h t M k f) {w : Nat} (hw : w < 74) : ∃ h', E (d + 2) 53 [.ref 189, .int (nI w)] h = some (none, h') ∧ Fr [3595, 3596] [] h h' ∧ RQ h' t M (k + 1) (st f (fW t k (kw w))) := by
  rw [t_53 hs, r_isW hs K R hw, cK_v, t_53_5 hs]
  by_cases q : f = 0 ∧ isW t k (kw w)
  · obtain ⟨q1, q2⟩ := id q
    have e : st f (fW t k (kw w)) = f := by unfold st fW; rw [if_pos q2, q1]; rfl
    have U := R.up q1 (by rw [q2.1]; decide)
    rw [b1 q, if_neg (by decide), (R.at q1).1, nI_add, t_53_26 hs.sI, e]
    exact ⟨_, rfl, Fr.rfl.sI (by decide), U⟩
  · obtain ⟨h', a1, a2, a3⟩ := r_wrong (d := d) hs R (c := 1) (by decide) (by decide)
    rw [b0 q, if_pos rfl, a1, cK_n, t_53_26 (a2.sh hs)]
    refine ⟨h', rfl, a2.wk (by decide) (by decide), ?_⟩
    have e : st f (fW t k (kw w)) = st f (fX t 1 k) := by
      unfold st fW
      by_cases z : f = 0
      · rw [if_pos z, if_pos z, if_neg fun y => q ⟨z, y⟩]
      · rw [if_neg z, if_neg z]
    rw [e]
    exact a3.any (by unfold st fX; split <;> omega) _
theorem r_tS (hs : Sh h) (R : RQ h t M k f) {c : Nat} (hc : 4 ≤ c) (hc2 : c < 128) : ∃ h', E (d + 2) 61 [.ref 189, .int (nI c)] h = some (none, h') ∧ Fr [3595, 3596] [] h h' ∧ RQ h' t M (k + 1) (st f (fS t k c)) := by
  rw [t_61 hs, r_isA hs R hc hc2, cK_v, t_61_5 hs]
  by_cases q : f = 0 ∧ tK t k = c
  · obtain ⟨q1, q2⟩ := id q
    have e : st f (fS t k c) = f := by unfold st fS; rw [if_pos q2, q1]; rfl
    have U := R.up q1 (by omega)
    rw [b1 q, if_neg (by decide), (R.at q1).1, nI_add, t_61_26 hs.sI, e]
    exact ⟨_, rfl, Fr.rfl.sI (by decide), U⟩
  · obtain ⟨h', a1, a2, a3⟩ := r_wrong (d := d) hs R (c := 1) (by decide) (by decide)
    rw [b0 q, if_pos rfl, a1, cK_n, t_61_26 (a2.sh hs)]
    refine ⟨h', rfl, a2.wk (by decide) (by decide), ?_⟩
    have e : st f (fS t k c) = st f (fX t 1 k) := by
      unfold st fS
      by_cases z : f = 0
      · rw [if_pos z, if_pos z, if_neg fun y => q ⟨z, y⟩]
      · rw [if_neg z, if_neg z]
    rw [e]
    exact a3.any (by unfold st fX; split <;> omega) _
theorem r_hW (hs : Sh h) (K : KR h) (R : RQ h t M k f) {w : Nat} (hw : w < 74) : ∃ h', E (d + 2) 55 [.ref 189, .int (nI w)] h = some (some (.int (nI (if f = 0 ∧ isW t k (kw w) then 1 else 0))), h') ∧ Fr [3595, 3596] [] h h' ∧ RQ h' t M (if isW t k (kw w) then k + 1 else k) f := by
  rw [t_55 hs, r_isW hs K R hw, cK_v, t_55_5 hs]
  by_cases q : f = 0 ∧ isW t k (kw w)
  · obtain ⟨q1, q2⟩ := id q
    have U := R.up q1 (by rw [q2.1]; decide)
    rw [b1 q, if_neg (by decide), if_pos (by decide), (R.at q1).1, nI_add, if_pos q2]
    exact ⟨_, rfl, Fr.rfl.sI (by decide), U⟩
  · rw [b0 q, if_pos rfl, if_pos (by decide)]
    obtain ⟨a, e1, e2, e3⟩ := R.le
    rw [e1, nI_add, Nat.add_zero]
    have fr : Fr [3595] [] h (sI h 3595 189 (nI a)) := Fr.rfl.sI (by decide)
    refine ⟨_, rfl, Fr.rfl.sI (by decide), R.1.fr fr (by decide) (by decide) (by decide), by rw [gI_k (by decide)]; exact R.2.1, R.2.2.1, a, gI_s, e2, fun z => ?_⟩
    rw [if_neg fun y => q ⟨z, y⟩]
    have := (R.at z).1
    rw [e1] at this
    exact (nI_eq (by omega) (by have := (R.at z).2.1; have := (R.at z).2.2.1; omega)).mp this
theorem r_tN (hs : Sh h) (R : RQ h t M k f) {lo hi : Nat} {x1 x2 : Int32} (e1 : f = 0 → x1 = nI lo ∧ lo < 100000) (e2 : x2 = nI hi) (hh : hi < 100000) : ∃ h' v, E (d + 2) 50 [.ref 189, .int x1, .int x2] h = some (some (.int v), h') ∧ Fr [3595, 3596] [] h h' ∧ RQ h' t M (k + 1) (st f (fN t k lo hi)) ∧ (st f (fN t k lo hi) = 0 → v = nI (tV t k)) := by
  by_cases q : f = 0
  · obtain ⟨y1, y2⟩ := e1 q
    obtain ⟨c1, c2, c3, c4⟩ := R.at q
    have sE : ∀ c, st f c = c := fun c => if_pos q
    rw [t_50 hs, R.2.1, if_neg (show ¬ nI 0 < nI f by rw [q]; decide), c1, gd_nI (by omega) (by decide), ix_nI (by omega), c4.1, sE]
    have bad : ∀ c, 0 < c → c ≤ 9 → fN t k lo hi = fX t c k → ∀ (F : Vs → AH → Option Ot), (∀ g, Sh g → F [] g = some (some (.int (nI 0)), g)) → ∃ h' v, cK (E (d + 1) 48 [.ref 189, .int (nI c)] h) F [] = some (some (.int v), h') ∧ Fr [3595, 3596] [] h h' ∧ RQ h' t M (k + 1) (fN t k lo hi) ∧ (fN t k lo hi = 0 → v = nI (tV t k)) := fun c p1 p2 p3 F hF => by
      obtain ⟨h', a1, a2, a3⟩ := r_wrong (d := d) hs R (c := c) p2 p1
      rw [sE] at a3
      rw [a1, cK_n, hF h' (a2.sh hs), p3]
      have nz : fX t c k ≠ 0 := by unfold fX; omega
      exact ⟨h', _, rfl, a2.wk (by decide) (by decide), a3.any nz _, fun z => absurd z nz⟩
    by_cases q1 : tK t k = 3
    · have vb := (tV_b (t := t) (k := k)).2.1 q1
      have lx : ∀ n : Nat, n < 100000 → (lg_cmp (lN (tV t k)) (nI n).toInt64 < nI 0 ↔ tV t k < n) ∧ (nI 0 < lg_cmp (lN (tV t k)) (nI n).toInt64 ↔ n < tV t k) := fun n hn => by
        rw [nI_l (by omega)]
        exact cmp_N (by omega) (by omega)
      rw [if_pos (by rw [rk_1.2.1.mpr q1]), gd_nI (by omega) (by decide), c4.2.2 (by omega), y1, e2]
      by_cases q2 : tV t k < lo
      · rw [if_pos ((lx lo y2).1.mpr q2)]
        exact bad 4 (by decide) (by decide) (by unfold fN; rw [if_neg (by rw [q1]; decide), if_pos (Or.inl q2)]) (Q (d + 1) 50 64 [some (.ref 189), none, none]) (fun g hg => t_50_64 hg _ _ _)
      · rw [if_neg fun w => q2 ((lx lo y2).1.mp w), gd_nI (by omega) (by decide)]
        by_cases q3 : hi < tV t k
        · rw [if_pos ((lx hi hh).2.mpr q3)]
          exact bad 4 (by decide) (by decide) (by unfold fN; rw [if_neg (by rw [q1]; decide), if_pos (Or.inr q3)]) (Q (d + 1) 50 64 [some (.ref 189), none, none]) (fun g hg => t_50_64 hg _ _ _)
        · have e0 : fN t k lo hi = 0 := by unfold fN; rw [if_neg (by rw [q1]; decide), if_neg (by omega)]
          have U := R.up q (by rw [q1]; decide)
          rw [if_neg fun w => q3 ((lx hi hh).2.mp w), nI_add, pk_sub (by omega), Nat.add_sub_cancel, gd_nI (by omega) (by decide), ix_nI (by omega), c4.2.2 (by omega), lN_i, e0]
          rw [q] at U
          exact ⟨_, _, rfl, Fr.rfl.sI (by decide), U, fun _ => rfl⟩
    · rw [if_neg fun z => q1 (rk_1.2.1.mp ((nI_eq (by have := (rk_1 (x := tK t k)).2.2.2.2; omega) (by decide)).mp z))]
      exact bad 1 (by decide) (by decide) (by unfold fN; rw [if_pos q1]) (Q (d + 1) 50 27 [some (.ref 189), some (.int x1), some (.int x2)]) (fun g hg => t_50_27 hg _ _ _)
  · have sE : st f (fN t k lo hi) = f := if_neg q
    refine ⟨h, nI 0, ?_, Fr.rfl, ?_, fun z => absurd (sE ▸ z) q⟩
    · rw [t_50 hs, R.2.1, if_pos (nI_lt (by omega) (by have := R.2.2.1; omega))]
    · rw [sE]; exact R.any q _
theorem any_b {nm : Nat → Nat} {v m : Nat} : (List.range m).any (fun i => decide (nm i = v)) = true ↔ ∃ i, i < m ∧ nm i = v := by
  rw [List.any_eq_true]
  constructor
  · rintro ⟨i, h1, h2⟩; exact ⟨i, List.mem_range.mp h1, of_decide_eq_true h2⟩
  · rintro ⟨i, h1, h2⟩; exact ⟨i, List.mem_range.mpr h1, decide_eq_true h2⟩
def dpF (t : Tp) (k : Nat) (nm : Nat → Nat) (m i : Nat) : Nat := if (List.range m).any (fun j => decide (i ≤ j ∧ nm j = tV t k)) = true then fX t 3 k else 0
theorem dp_t {nm : Nat → Nat} {m i : Nat} (q : ∃ j, i ≤ j ∧ j < m ∧ nm j = tV t k) : dpF t k nm m i = fX t 3 k := by
  obtain ⟨j, a, b, c⟩ := q
  exact if_pos (List.any_eq_true.mpr ⟨j, List.mem_range.mpr b, decide_eq_true ⟨a, c⟩⟩)
theorem dp_f {nm : Nat → Nat} {m i : Nat} (q : ¬ ∃ j, i ≤ j ∧ j < m ∧ nm j = tV t k) : dpF t k nm m i = 0 := if_neg fun w => q (by
  obtain ⟨j, a, b⟩ := List.any_eq_true.mp w
  exact ⟨j, (of_decide_eq_true b).1, List.mem_range.mp a, (of_decide_eq_true b).2⟩)
/-- looking whether a name was told: a fault at the first that is the same -/
theorem r_dup {x fr m : Nat} {nm : Nat → Nat} {Kx : Nat} (q2 : tK t k = 2) (hx : ∀ g, Sh g → gC g x = 61 ∧ gK g x = Kx) (hK : fr + m ≤ Kx ∧ Kx ≤ 1000) (nb : ∀ i, i < m → nm i < 2 ^ 63) (hk : k < M) : ∀ (n i : Nat) (f : Nat) {h : AH}, Sh h → RQ h t M k f → gI h 3595 189 = nI k → n + i = m → (∀ i, i < m → gB h x (fr + i) = lN (nm i)) → ∃ h', Q (d + 1) 49 32 [some (.ref 189), some (.ref x), some (.int (nI fr)), some (.int (nI m)), some (.int (nI i))] [] h = some (some (.long (lN (tV t k))), h') ∧ Fr [3595, 3596] [] h h' ∧ RQ h' t M (k + 1) (st f (dpF t k nm m i)) := by
  intro n
  induction n with
  | zero =>
    intro i f h hs R eA e gn
    have M4 := R.1.1; have M5 := R.1.2.1
    have c4 := R.1.2.2.2.2 k (by omega)
    have z : ¬ ∃ j, i ≤ j ∧ j < m ∧ nm j = tV t k := by rintro ⟨j, a, b, c⟩; omega
    have fr' : Fr [3595] [] h (sI h 3595 189 (nI (k + 1))) := Fr.rfl.sI (by decide)
    rw [t_49_32 hs, if_neg (nI_nlt (by omega) (by omega)), eA, nI_add, pk_sub (by omega), Nat.add_sub_cancel, gd_nI (by omega) (by decide), ix_nI (by omega), c4.2.2 (by omega), dp_f z]
    refine ⟨_, rfl, Fr.rfl.sI (by decide), R.1.fr fr' (by decide) (by decide) (by decide), ?_, ?_, k + 1, gI_s, hk, fun _ => rfl⟩
    · rw [gI_k (by decide), R.2.1]; unfold st; split <;> simp_all
    · have := R.2.2.1; unfold st; split <;> omega
  | succ n ih =>
    intro i f h hs R eA e gn
    have M4 := R.1.1; have M5 := R.1.2.1
    have c4 := R.1.2.2.2.2 k (by omega)
    have vb := (tV_b (t := t) (k := k)).1 q2
    rw [t_49_32 hs, if_pos (nI_lt (by omega) (by omega)), ck_ok (hx h hs).1, (hx h hs).2, nI_add, gd_nI (by omega) (by omega), eA, gd_nI (by omega) (by decide), ix_nI (by omega), ix_nI (by omega), gn i (by omega), c4.2.2 (by omega)]
    simp only [l_eq (nb i (by omega)) (lt37 vb (by decide))]
    by_cases q : nm i = tV t k
    · obtain ⟨h1, a1, a2, a3⟩ := r_wrong (d := d) hs R (c := 3) (by decide) (by decide)
      have fX0 : fX t 3 k ≠ 0 := by unfold fX; omega
      rw [if_pos q, a1, cK_n, t_49_62 (a2.sh hs), nI_add]
      obtain ⟨h2, b1, b2, b3⟩ := ih (i + 1) _ (a2.sh hs) a3 (by rw [a2.I (by decide)]; exact eA) (by omega) (fun j hj => by rw [a2.B List.not_mem_nil]; exact gn j hj)
      refine ⟨h2, b1, (a2.wk (by decide) (by decide)).trans b2, ?_⟩
      rw [dp_t ⟨i, Nat.le_refl _, by omega, q⟩]
      have e3 : ∀ c, st (st f (fX t 3 k)) c = st f (fX t 3 k) := fun c => by unfold st; split <;> simp_all
      rw [e3] at b3; exact b3
    · rw [if_neg q, t_49_62 hs, nI_add]
      obtain ⟨h2, b1, b2, b3⟩ := ih (i + 1) f hs R eA (by omega) gn
      refine ⟨h2, b1, b2, ?_⟩
      have e3 : (∃ j, i ≤ j ∧ j < m ∧ nm j = tV t k) ↔ ∃ j, i + 1 ≤ j ∧ j < m ∧ nm j = tV t k := by
        constructor
        · rintro ⟨j, x1, x2, x3⟩
          by_cases w : j = i
          · rw [w] at x3; exact absurd x3 q
          · exact ⟨j, by omega, x2, x3⟩
        · rintro ⟨j, x1, x2, x3⟩; exact ⟨j, by omega, x2, x3⟩
      have e4 : dpF t k nm m i = dpF t k nm m (i + 1) := by
        by_cases w : ∃ j, i ≤ j ∧ j < m ∧ nm j = tV t k
        · rw [dp_t w, dp_t (e3.mp w)]
        · rw [dp_f w, dp_f fun y => w (e3.mpr y)]
      rw [e4]; exact b3
theorem r_tM (hs : Sh h) (R : RQ h t M k f) {x fr m : Nat} {nm : Nat → Nat} {Kx : Nat} {x2 x3 : Int32} (hx : ∀ g, Sh g → gC g x = 61 ∧ gK g x = Kx) (y2 : x2 = nI fr) (y3 : x3 = nI m) (hK : fr + m ≤ Kx ∧ Kx ≤ 1000) (nb : ∀ i, i < m → nm i < 2 ^ 63) (gn : ∀ i, i < m → gB h x (fr + i) = lN (nm i)) : ∃ h' v, E (d + 2) 49 [.ref 189, .ref x, .int x2, .int x3] h = some (some (.long v), h') ∧ Fr [3595, 3596] [] h h' ∧ RQ h' t M (k + 1) (st f (fM t k nm m)) ∧ (st f (fM t k nm m) = 0 → v = lN (tV t k)) := by
  rw [y2, y3]
  by_cases q : f = 0
  · obtain ⟨c1, c2, c3, c4⟩ := R.at q
    have sE : ∀ c, st f c = c := fun c => if_pos q
    rw [t_49 hs, R.2.1, if_neg (show ¬ nI 0 < nI f by rw [q]; decide), c1, gd_nI (by omega) (by decide), ix_nI (by omega), c4.1]
    by_cases q1 : tK t k = 2
    · obtain ⟨h', a1, a2, a3⟩ := r_dup (d := d) (M := M) (k := k) (x := x) (fr := fr) (m := m) (nm := nm) q1 hx hK nb (R.lt q (by rw [q1]; decide)) m 0 f hs R c1 rfl gn
      rw [if_pos (by rw [rk_1.1.mpr q1])]
      refine ⟨h', _, a1, a2, ?_, fun _ => rfl⟩
      have e : fM t k nm m = dpF t k nm m 0 := by
        unfold fM
        rw [if_neg (by rw [q1]; decide)]
        by_cases w : ∃ j, 0 ≤ j ∧ j < m ∧ nm j = tV t k
        · rw [dp_t w, if_pos (any_b.mpr (by obtain ⟨j, _, b, c⟩ := w; exact ⟨j, b, c⟩))]
        · rw [dp_f w, if_neg fun y => w (by obtain ⟨j, b, c⟩ := any_b.mp y; exact ⟨j, Nat.zero_le _, b, c⟩)]
      rw [e]; exact a3
    · obtain ⟨h', a1, a2, a3⟩ := r_wrong (d := d) hs R (c := 1) (by decide) (by decide)
      have e : fM t k nm m = fX t 1 k := by unfold fM; rw [if_pos q1]
      have nz : fX t 1 k ≠ 0 := by unfold fX; omega
      rw [if_neg fun z => q1 (rk_1.1.mp ((nI_eq (by have := (rk_1 (x := tK t k)).2.2.2.2; omega) (by decide)).mp z)), a1, cK_n, t_49_27 (a2.sh hs), e]
      exact ⟨h', _, rfl, a2.wk (by decide) (by decide), a3.any (by rw [sE]; exact nz) _, fun z => absurd ((sE _).symm.trans z) nz⟩
  · have sE : st f (fM t k nm m) = f := if_neg q
    refine ⟨h, 0, ?_, Fr.rfl, ?_, fun z => absurd (sE ▸ z) q⟩
    · rw [t_49 hs, R.2.1, if_pos (nI_lt (by omega) (by have := R.2.2.1; omega))]
    · rw [sE]; exact R.any q _
theorem ofL_b {nm : Nat → Nat} {v i : Nat} : ∀ n, ofL nm v n = some i → i < n ∧ nm i = v
  | 0, e => by cases e
  | n + 1, e => by
    rw [ofL] at e
    by_cases q : nm n = v
    · rw [if_pos q] at e; cases e; exact ⟨by omega, q⟩
    · rw [if_neg q] at e; have := ofL_b n e; exact ⟨by omega, this.2⟩
theorem ofL_n {nm : Nat → Nat} {v : Nat} : ∀ n, ofL nm v n = none → ∀ i, i < n → nm i ≠ v
  | 0, _, i, hi => absurd hi (by omega)
  | n + 1, e, i, hi => by
    rw [ofL] at e
    by_cases q : nm n = v
    · rw [if_pos q] at e; cases e
    · rw [if_neg q] at e
      by_cases w : i = n
      · rw [w]; exact q
      · exact ofL_n n e i (by omega)
/-- the reference's offices of the book that is read: names -/
theorem r_tOl {w m : Nat} {nm : Nat → Nat} (hs : Sh h) (hw : w ≤ 1) (hm : m ≤ 16) (hk : k ≤ 4000) (q1 : tK t k = 2) (eA : gI h 3595 189 = nI k) (e4 : gB h 196 k = lN (tV t k)) (en : gI h 3598 189 = nI w) (ec : gA h 197 w = nI m) (nb : ∀ i, i < m → nm i < 2 ^ 63) (gn : ∀ i, i < m → gB h 198 (16 * w + i) = lN (nm i)) : ∀ (n i : Nat), n + i = m → Q (d + 1) 54 33 [some (.ref 189), some (.int (oI (ofL nm (tV t k) i))), some (.int (nI i))] [] h = Q (d + 1) 54 33 [some (.ref 189), some (.int (oI (ofL nm (tV t k) m))), some (.int (nI m))] [] h := by
  intro n
  have vb := (tV_b (t := t) (k := k)).1 q1
  induction n with
  | zero => intro i e; rw [show i = m from by omega]
  | succ n ih =>
    intro i e
    rw [← ih (i + 1) (by omega), t_54_33 hs, en, gd_nI (by omega) (by decide), ix_nI (by omega), ec, if_pos (nI_lt (by omega) (by omega)), pk_mul, nI_add, gd_nI (by omega) (by decide), eA, gd_nI (by omega) (by decide), ix_nI (by omega), ix_nI (by omega), gn i (by omega), e4, nI_add, ofL]
    simp only [l_eq (nb i (by omega)) (lt37 vb (by decide))]
    by_cases q : nm i = tV t k
    · rw [if_pos q, if_pos q]; rfl
    · rw [if_neg q, if_neg q]
theorem r_tO {w m : Nat} {nm : Nat → Nat} (hs : Sh h) (R : RQ h t M k f) (hw : w ≤ 1) (hm : m ≤ 16) (en : gI h 3598 189 = nI w) (ec : gA h 197 w = nI m) (nb : ∀ i, i < m → nm i < 2 ^ 63) (gn : ∀ i, i < m → gB h 198 (16 * w + i) = lN (nm i)) : ∃ h' v, E (d + 2) 54 [.ref 189] h = some (some (.int v), h') ∧ Fr [3595, 3596] [] h h' ∧ RQ h' t M (k + 1) (st f (fO t k nm m)) ∧ (st f (fO t k nm m) = 0 → v = oI (ofL nm (tV t k) m)) := by
  by_cases q : f = 0
  · obtain ⟨c1, c2, c3, c4⟩ := R.at q
    have sE : ∀ c, st f c = c := fun c => if_pos q
    rw [t_54 hs, R.2.1, if_neg (show ¬ nI 0 < nI f by rw [q]; decide), c1, gd_nI (by omega) (by decide), ix_nI (by omega), c4.1]
    by_cases q1 : tK t k = 2
    · have lp := r_tOl (d := d) hs hw hm (by omega) q1 c1 (c4.2.2 (by omega)) en ec nb gn m 0 rfl
      rw [if_pos (by rw [rk_1.1.mpr q1])]
      rw [show oI (ofL nm (tV t k) 0) = -1 from rfl] at lp
      rw [lp, t_54_33 hs, en, gd_nI (by omega) (by decide), ix_nI (by omega), ec, if_neg (nI_nlt (Nat.le_refl _) (by omega))]
      have U := R.up q (by rw [q1]; decide)
      cases e : ofL nm (tV t k) m with
      | none =>
        obtain ⟨h', a1, a2, a3⟩ := r_wrong (d := d) hs R (c := 2) (by decide) (by decide)
        have eo : fO t k nm m = fX t 2 k := by unfold fO; rw [if_neg (by rw [q1]; decide), if_pos e]
        have nz : fX t 2 k ≠ 0 := by unfold fX; omega
        obtain ⟨a, b1, b2, b3⟩ := a3.le
        rw [if_pos (show oI none < nI 0 by decide), a1, cK_n, t_54_94 (a2.sh hs), a2.I (show 3595 ∉ [3596] by decide), c1, nI_add, eo]
        have lt := R.lt q (by rw [q1]; decide)
        have fr' : Fr [3595] [] h' (sI h' 3595 189 (nI (k + 1))) := Fr.rfl.sI (by decide)
        refine ⟨_, _, rfl, (a2.wk (by decide) (by decide)).sI (by decide), ⟨a3.1.fr fr' (by decide) (by decide) (by decide), by rw [gI_k (by decide)]; exact a3.2.1, a3.2.2.1, k + 1, gI_s, lt, fun _ => rfl⟩, fun z => absurd ((sE _).symm.trans z) nz⟩
      | some i =>
        have hb := ofL_b m e
        have eo : fO t k nm m = 0 := by unfold fO; rw [if_neg (by rw [q1]; decide), if_neg (by rw [e]; simp)]
        rw [if_neg (show ¬ oI (some i) < nI 0 from nI_nlt (by omega) (by omega)), t_54_94 hs, c1, nI_add, eo]
        refine ⟨_, _, rfl, Fr.rfl.sI (by decide), by rw [sE]; rw [q] at U; exact U, fun _ => rfl⟩
    · obtain ⟨h', a1, a2, a3⟩ := r_wrong (d := d) hs R (c := 1) (by decide) (by decide)
      have e : fO t k nm m = fX t 1 k := by unfold fO; rw [if_pos q1]
      have nz : fX t 1 k ≠ 0 := by unfold fX; omega
      rw [if_neg fun z => q1 (rk_1.1.mp ((nI_eq (by have := (rk_1 (x := tK t k)).2.2.2.2; omega) (by decide)).mp z)), a1, cK_n, t_54_27 (a2.sh hs), e]
      exact ⟨h', _, rfl, a2.wk (by decide) (by decide), a3.any (by rw [sE]; exact nz) _, fun z => absurd ((sE _).symm.trans z) nz⟩
  · have sE : st f (fO t k nm m) = f := if_neg q
    refine ⟨h, nI 0, ?_, Fr.rfl, ?_, fun z => absurd (sE ▸ z) q⟩
    · rw [t_54 hs, R.2.1, if_pos (nI_lt (by omega) (by have := R.2.2.1; omega))]
    · rw [sE]; exact R.any q _
theorem r_one {w : Nat} : ∀ (n i : Nat) {h : AH}, Sh h → KR h → RQ h t M k f → 0 < n → w + i + n ≤ 74 → ∃ h' v, Q (d + 2) 56 2 [some (.ref 189), some (.int (nI w)), some (.int (nI (w + i + n - 1))), some (.int (nI (w + i)))] [] h = some (some (.int v), h') ∧ Fr [3595, 3596] [] h h' ∧ RQ h' t M (k + 1) (st f (if ow t k w n i = none then fX t 1 k else 0)) ∧ (st f (if ow t k w n i = none then fX t 1 k else 0) = 0 → v = oI (ow t k w n i)) := by
  intro n
  induction n with
  | zero => intro i h hs K R h0; omega
  | succ n ih =>
    intro i h hs K R h0 hb
    obtain ⟨h1, a1, a2, a3⟩ := r_hW (d := d) hs K R (w := w + i) (by omega)
    rw [t_56_2 hs, if_neg (nI_nlt (by omega) (by omega)), a1, cK_v, t_56_12 (a2.sh hs), ow]
    by_cases q : f = 0 ∧ isW t k (kw (w + i))
    · rw [b1 q, if_neg (by decide), if_pos q.2, pk_sub (by omega)]
      rw [if_pos q.2] at a3
      have e : st f (if (some i : Option Nat) = none then fX t 1 k else 0) = f := by unfold st; rw [q.1]; simp
      exact ⟨h1, _, rfl, a2, by rw [e]; exact a3, fun _ => by rw [show w + i - w = i from by omega]; rfl⟩
    · rw [b0 q, if_pos rfl, nI_add]
      by_cases hn : n = 0
      · subst hn
        have sh1 := a2.sh hs
        obtain ⟨h2, c1, c2, c3⟩ := r_wrong (d := d + 1) sh1 a3 (c := 1) (by decide) (by decide)
        rw [t_56_2 sh1, if_pos (nI_lt (by omega) (by omega)), c1, cK_n, t_56_30 (c2.sh sh1)]
        refine ⟨h2, _, rfl, a2.trans (c2.wk (by decide) (by decide)), ?_, ?_⟩
        · by_cases z : f = 0
          · have nw : ¬ isW t k (kw (w + i)) := fun y => q ⟨z, y⟩
            rw [if_neg nw] at c3
            rw [if_neg nw, ow, if_pos rfl]
            exact c3.any (by unfold st fX; split <;> omega) _
          · have e1 : ∀ c, st f c = f := fun c => if_neg z
            rw [e1]; rw [e1] at c3; exact c3.any z _
        · intro y
          by_cases z : f = 0
          · have nw : ¬ isW t k (kw (w + i)) := fun y => q ⟨z, y⟩
            rw [if_neg nw, ow, if_pos rfl] at y
            exact absurd y (by unfold st fX; split <;> omega)
          · exact absurd y (by unfold st; rw [if_neg z]; exact z)
      · have ee : w + i + (n + 1) - 1 = w + (i + 1) + n - 1 := by omega
        by_cases z : f = 0
        · have nw : ¬ isW t k (kw (w + i)) := fun y => q ⟨z, y⟩
          rw [if_neg nw] at a3
          obtain ⟨h2, v, c1, c2, c3⟩ := ih (i + 1) (a2.sh hs) (K.fr a2 (by decide)) a3 (by omega) (by omega)
          rw [if_neg nw, ee, show w + i + 1 = w + (i + 1) from by omega]
          exact ⟨h2, v, c1, a2.trans c2, c3⟩
        · obtain ⟨h2, v, c1, c2, c3, c4⟩ := ih (i + 1) (a2.sh hs) (K.fr a2 (by decide)) (a3.any z k) (by omega) (by omega)
          have e1 : ∀ c, st f c = f := fun c => if_neg z
          rw [ee, show w + i + 1 = w + (i + 1) from by omega]
          rw [e1] at c3
          exact ⟨h2, v, c1, a2.trans c2, by rw [e1]; exact c3, fun y => absurd (e1 _ ▸ y) z⟩
theorem r_1of (hs : Sh h) (K : KR h) (R : RQ h t M k f) {w n : Nat} {x1 x2 : Int32} (hn : 0 < n) (hb : w + n ≤ 74) (y1 : x1 = nI w) (y2 : x2 = nI (w + n - 1)) : ∃ h' v, E (d + 3) 56 [.ref 189, .int x1, .int x2] h = some (some (.int v), h') ∧ Fr [3595, 3596] [] h h' ∧ RQ h' t M (k + 1) (st f (f1 t k w n)) ∧ (st f (f1 t k w n) = 0 → v = oI (ow t k w n 0)) := by
  rw [y1, y2, t_56 hs]
  exact r_one (d := d) n 0 hs K R hn hb
theorem r_beg (hs : Sh h) (R : RQ h t M k 0) (q0 : tK t k ≠ 0) {P : Prop} [Decidable P] : ∃ h', E (d + 2) 47 [.ref 189, .int (nI (if P then 1 else 0))] h = some (none, h') ∧ Fr [3595, 3596] [] h h' ∧ RQ h' t M (k + 1) (if P then fX t 5 k else 0) := by
  have lt := R.lt rfl q0
  rw [t_47 hs]
  by_cases q : P
  · obtain ⟨h1, a1, a2, a3⟩ := r_wrong (d := d) hs R (c := 5) (by decide) (by decide)
    have e : st 0 (fX t 5 k) = fX t 5 k := rfl
    rw [e] at a3
    have fr' : Fr [3595] [] h1 (sI h1 3595 189 (nI (k + 1))) := Fr.rfl.sI (by decide)
    rw [b1 q, if_neg (by decide), a1, cK_n, t_47_9 (a2.sh hs), a2.I (show 3595 ∉ [3596] by decide), (R.at rfl).1, nI_add, if_pos q]
    exact ⟨_, rfl, (a2.wk (by decide) (by decide)).sI (by decide), a3.1.fr fr' (by decide) (by decide) (by decide), by rw [gI_k (by decide)]; exact a3.2.1, a3.2.2.1, k + 1, gI_s, lt, fun _ => rfl⟩
  · rw [b0 q, if_pos rfl, t_47_9 hs, (R.at rfl).1, nI_add, if_neg q]
    exact ⟨_, rfl, Fr.rfl.sI (by decide), R.up rfl q0⟩
end ROP
