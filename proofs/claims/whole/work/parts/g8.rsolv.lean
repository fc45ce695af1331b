/-! ===== SIGNS ARE MADE GOOD (reference: solve) ===== -/
/-- the tables of powers and degrees -/
def KP (h : AH) : Prop := (∀ i, i < 126 → gA h 191 i = nI (pw i)) ∧ ∀ i, i < 63 → gA h 192 (pw i) = nI i
theorem KP.fr {K X : List Nat} {h h' : AH} (a : KP h) (f : Fr K X h h') (h1 : 191 ∉ X) (h2 : 192 ∉ X) : KP h' := by
  unfold KP at a ⊢; rw [f.A h1, f.A h2]; exact a
theorem sA_id {h : AH} {x i : Nat} {v : Int32} (e : gA h x i = v) : sA h x i v = h := by
  subst e
  have : up2 (gA h) x i (gA h x i) = gA h := by
    funext k j
    by_cases q : k = x
    · subst q
      by_cases w : j = i
      · subst w; exact up2_s
      · exact up2_x w
    · exact congrFun (up2_k q) j
  show (h.1, gC h, gK h, gI h, gL h, gR h, up2 (gA h) x i (gA h x i), gB h, gO h) = h
  rw [this]; rfl
/-- the table of sums -/
def MRt (h : AH) (M : Nat → Nat → Nat) : Prop := ∀ j k, j < 4 → k < 5 → gA h 239 (5 * j + k) = nI (M j k) ∧ M j k < 64
theorem MRt.cg {h : AH} {M M' : Nat → Nat → Nat} (a : MRt h M) (e : ∀ j k, j < 4 → k < 5 → M' j k = M j k) : MRt h M' := fun j k hj hk => by rw [e j k hj hk]; exact a j k hj hk
theorem MRt.set {h : AH} {M : Nat → Nat → Nat} {j0 k0 v : Nat} (a : MRt h M) (hk0 : k0 < 5) (hv : v < 64) : MRt (sA h 239 (5 * j0 + k0) (nI v)) (fun j k => if j = j0 ∧ k = k0 then v else M j k) := fun j k hj hk => by
  dsimp only
  rw [gA_s]
  by_cases q : j = j0 ∧ k = k0
  · rw [q.1, q.2, up1_s, if_pos ⟨rfl, rfl⟩]; exact ⟨rfl, hv⟩
  · rw [up1_x (by omega), if_neg q]; exact a j k hj hk
section RSO
variable {d : Nat} {n m : Nat} {S sp : Nat → Nat}
theorem r_prod {h : AH} (hs : Sh h) (K : KP h) {a b : Nat} (ha : a < 64) (hb : b < 64) : E (d + 1) 89 [.ref 189, .int (nI a), .int (nI b)] h = some (some (.int (nI (gm a b))), h) := by
  rw [t_89 hs]
  simp only [show (nI a = nI 0) = (a = 0) from propext (nI_eq (by omega) (by decide)), show (nI b = nI 0) = (b = 0) from propext (nI_eq (by omega) (by decide))]
  rcases pw_lg a ha with rfl | ⟨i, hi, rfl⟩
  · rw [if_pos rfl, (gm_z b hb).2.1]
  rcases pw_lg b hb with rfl | ⟨j, hj, rfl⟩
  · rw [if_neg pw_lt.2, if_pos rfl, (gm_z _ ha).1]
  rw [if_neg pw_lt.2, if_neg pw_lt.2, gd_nI ha (by decide), gd_nI hb (by decide), ix_nI (by omega), ix_nI (by omega), K.2 i hi, K.2 j hj, nI_add, gd_nI (by omega) (by decide), ix_nI (by omega), K.1 _ (by omega), pw_mul]
theorem r_quot {h : AH} (hs : Sh h) (K : KP h) {a b : Nat} (ha : a < 64) (hb : b < 64) (h0 : b ≠ 0) : E (d + 1) 91 [.ref 189, .int (nI a), .int (nI b)] h = some (some (.int (nI (gm a (gi b)))), h) := by
  rw [t_91 hs]
  simp only [show (nI a = nI 0) = (a = 0) from propext (nI_eq (by omega) (by decide))]
  obtain ⟨j, j1, j2, j3⟩ := gi_at b hb h0
  rcases pw_lg a ha with rfl | ⟨i, hi, rfl⟩
  · rw [if_pos rfl, (gm_z _ (gi_s b hb).1).2.1]
  subst j2
  rw [if_neg pw_lt.2, gd_nI ha (by decide), gd_nI hb (by decide), ix_nI (by omega), ix_nI (by omega), K.2 i hi, K.2 j j1, nI_add, pk_sub (by omega), gd_nI (by omega) (by decide), ix_nI (by omega), K.1 _ (by omega), j3, pw_m, pw_mul, show i + 63 - j = i + (63 - j) by omega]
/-- line m changes places with itself -/
theorem rc_sw {h : AH} (hs : Sh h) {M : Nat → Nat → Nat} (T : MRt h M) (hm : m < 4) : ∀ (r k : Nat), r + k = 5 → Q (d + 1) 90 35 [some (.ref 189), some (.int (nI m)), some (.int (nI m)), some (.int (nI k)), none, none, none] [] h = Q (d + 1) 90 104 [some (.ref 189), some (.int (nI m)), none, some (.int (nI (M m m))), some (.int (nI 0)), none, none] [] h
  | 0, k, e => by
    rw [t_90_35 hs, if_neg (nI_nlt (by omega) (by omega)), pk_mul, nI_add, gd_nI (by omega) (by decide), ix_nI (by omega), (T m m hm (by omega)).1]
  | r + 1, k, e => by
    have := rc_sw hs T hm r (k + 1) (by omega)
    rw [t_90_35 hs, if_pos (nI_lt (by omega) (by decide)), pk_mul, nI_add, gd_nI (by omega) (by decide), gd_nI (by omega) (by decide), gd_nI (by omega) (by decide), gd_nI (by omega) (by decide), ix_nI (by omega), sA_id rfl, sA_id rfl, nI_add]
    exact this
theorem rc_q {p : Nat} (hm : m < 4) (hp : p < 64) (h0 : p ≠ 0) : ∀ (r k : Nat) {h : AH} {M : Nat → Nat → Nat}, r + k = 5 → Sh h → KP h → MRt h M → ∃ h', Q (d + 1) 90 104 [some (.ref 189), some (.int (nI m)), none, some (.int (nI p)), some (.int (nI k)), none, none] [] h = Q (d + 1) 90 146 [some (.ref 189), some (.int (nI m)), none, none, some (.int (nI 0)), none, none] [] h' ∧ Fr [] [239] h h' ∧ MRt h' (fun j k' => if j = m ∧ k ≤ k' then gm (M j k') (gi p) else M j k')
  | 0, k, h, M, e, hs, K, T => by
    refine ⟨h, ?_, Fr.rfl, T.cg fun j k' _ hk' => if_neg (by omega)⟩
    rw [t_90_104 hs, if_neg (nI_nlt (by omega) (by omega))]
  | r + 1, k, h, M, e, hs, K, T => by
    obtain ⟨t1, t2⟩ := T m k hm (by omega)
    have bg := gm_lt t2 (gi_s p hp).1
    have f1 : Fr [] [239] h (sA h 239 (5 * m + k) (nI (gm (M m k) (gi p)))) := Fr.rfl.sA (by decide)
    obtain ⟨h', a1, a2, a3⟩ := rc_q hm hp h0 r (k + 1) (by omega) (f1.sh hs) (K.fr f1 (by decide) (by decide)) (T.set (by omega) bg)
    refine ⟨h', ?_, f1.trans a2, a3.cg fun j k' hj hk' => ?_⟩
    · rw [t_90_104 hs, if_pos (nI_lt (by omega) (by decide)), pk_mul, nI_add, gd_nI (by omega) (by decide), ix_nI (by omega), t1, r_quot hs K t2 hp h0, cK_v, t_90_136 hs, cw_ok (show gC h 239 = 60 from ShC hs (by decide)) (by decide), show gK h 239 = 20 from ShK hs (by decide), gd_nI (show 5 * m + k < 20 by omega) (by decide), ix_nI (by omega), nI_add]
      exact a1
    · by_cases q : j = m
      · subst q
        by_cases w : k = k'
        · subst w
          rw [if_pos ⟨rfl, Nat.le_refl _⟩, if_neg (by omega), if_pos ⟨rfl, rfl⟩]
        · by_cases v : k ≤ k'
          · rw [if_pos ⟨rfl, v⟩, if_pos ⟨rfl, by omega⟩, if_neg (by omega)]
          · rw [if_neg (by omega), if_neg (by omega), if_neg (by omega)]
      · rw [if_neg fun e => q e.1, if_neg fun e => q e.1, if_neg fun e => q e.1]
theorem rc_l {f j : Nat} (hm : m < 4) (hf : f < 64) (hj4 : j < 4) (hf0 : j = m → f = 0) : ∀ (r k : Nat) {h : AH} {M : Nat → Nat → Nat}, r + k = 5 → Sh h → KP h → MRt h M → ∃ h', Q (d + 1) 90 178 [some (.ref 189), some (.int (nI m)), none, none, some (.int (nI j)), some (.int (nI f)), some (.int (nI k))] [] h = Q (d + 1) 90 146 [some (.ref 189), some (.int (nI m)), none, none, some (.int (nI (j + 1))), none, none] [] h' ∧ Fr [] [239] h h' ∧ MRt h' (fun j' k' => if j' = j ∧ k ≤ k' then M j' k' ^^^ gm (M m k') f else M j' k')
  | 0, k, h, M, e, hs, K, T => by
    refine ⟨h, ?_, Fr.rfl, T.cg fun j k' _ hk' => if_neg (by omega)⟩
    rw [t_90_178 hs, if_neg (nI_nlt (by omega) (by omega)), nI_add]
  | r + 1, k, h, M, e, hs, K, T => by
    obtain ⟨t1, t2⟩ := T m k hm (by omega)
    obtain ⟨u1, u2⟩ := T j k hj4 (by omega)
    have bg := gm_lt t2 hf
    have f1 : Fr [] [239] h (sA h 239 (5 * j + k) (nI (M j k ^^^ gm (M m k) f))) := Fr.rfl.sA (by decide)
    obtain ⟨h', a1, a2, a3⟩ := rc_l hm hf hj4 hf0 r (k + 1) (by omega) (f1.sh hs) (K.fr f1 (by decide) (by decide)) (T.set (by omega) (xor64 u2 bg))
    refine ⟨h', ?_, f1.trans a2, a3.cg fun j' k' hj' hk' => ?_⟩
    · rw [t_90_178 hs, if_pos (nI_lt (by omega) (by decide)), pk_mul, nI_add, gd_nI (by omega) (by decide), pk_mul, nI_add, gd_nI (by omega) (by decide), ix_nI (by omega), t1, r_prod hs K hf t2, cK_v, t_90_224 hs, cw_ok (show gC h 239 = 60 from ShC hs (by decide)) (by decide), show gK h 239 = 20 from ShK hs (by decide), gd_nI (show 5 * j + k < 20 by omega) (by decide), ix_nI (by omega), u1, gm_c hf t2, x64 _ u2 _ bg, nI_add]
      exact a1
    · by_cases q : j' = j
      · subst q
        by_cases w : k = k'
        · subst w
          rw [if_pos ⟨rfl, Nat.le_refl _⟩, if_neg (by omega), if_pos ⟨rfl, rfl⟩]
        · by_cases v : k ≤ k'
          · by_cases z : j' = m
            · have f0 := hf0 z
              subst f0
              rw [if_pos ⟨rfl, v⟩, if_pos ⟨rfl, by omega⟩, if_neg (by omega), if_neg (by omega), (gm_z _ (T m k' hm hk').2).1]
            · rw [if_pos ⟨rfl, v⟩, if_pos ⟨rfl, by omega⟩, if_neg (by omega), if_neg (by omega)]
          · rw [if_neg (by omega), if_neg (by omega), if_neg (by omega)]
      · rw [if_neg fun e => q e.1, if_neg fun e => q e.1, if_neg fun e => q e.1]
theorem rc_o (hm : m < 4) : ∀ (r j : Nat) {h : AH} {M : Nat → Nat → Nat}, r + j = 4 → Sh h → KP h → MRt h M → ∃ h', Q (d + 1) 90 146 [some (.ref 189), some (.int (nI m)), none, none, some (.int (nI j)), none, none] [] h = some (some (.int (nI 1)), h') ∧ Fr [] [239] h h' ∧ MRt h' (fun j' k' => if j ≤ j' ∧ j' ≠ m then M j' k' ^^^ gm (M m k') (M j' m) else M j' k')
  | 0, j, h, M, e, hs, K, T => by
    refine ⟨h, ?_, Fr.rfl, T.cg fun j' k' _ hk' => if_neg (by omega)⟩
    rw [t_90_146 hs, if_neg (nI_nlt (by omega) (by omega))]
  | r + 1, j, h, M, e, hs, K, T => by
    have hj4 : j < 4 := by omega
    obtain ⟨u1, u2⟩ := T j m hj4 (by omega)
    have step : ∃ h1, Q (d + 1) 90 146 [some (.ref 189), some (.int (nI m)), none, none, some (.int (nI j)), none, none] [] h = Q (d + 1) 90 146 [some (.ref 189), some (.int (nI m)), none, none, some (.int (nI (j + 1))), none, none] [] h1 ∧ Fr [] [239] h h1 ∧ MRt h1 (fun j' k' => if j' = j ∧ j' ≠ m then M j' k' ^^^ gm (M m k') (M j' m) else M j' k') := by
      by_cases q : j = m
      · obtain ⟨h1, b1, b2, b3⟩ := rc_l (d := d) (f := 0) hm (by decide) hj4 (fun _ => rfl) 5 0 rfl hs K T
        refine ⟨h1, ?_, b2, b3.cg fun j' k' hj' hk' => ?_⟩
        · rw [t_90_146 hs, if_pos (nI_lt hj4 (by decide)), if_pos (by rw [q])]; exact b1
        · rw [if_neg (by omega)]
          by_cases w : j' = j
          · rw [if_pos ⟨w, Nat.zero_le _⟩, (gm_z _ (T m k' hm hk').2).1, Nat.xor_zero]
          · rw [if_neg fun e => w e.1]
      · obtain ⟨h1, b1, b2, b3⟩ := rc_l (d := d) (f := M j m) hm u2 hj4 (fun w => absurd w q) 5 0 rfl hs K T
        refine ⟨h1, ?_, b2, b3.cg fun j' k' hj' hk' => ?_⟩
        · rw [t_90_146 hs, if_pos (nI_lt hj4 (by decide)), if_neg (by rw [nI_eq (by omega) (by omega)]; exact q), pk_mul, nI_add, gd_nI (by omega) (by decide), ix_nI (by omega), u1]; exact b1
        · by_cases w : j' = j
          · subst w; rw [if_pos ⟨rfl, q⟩, if_pos ⟨rfl, Nat.zero_le _⟩]
          · rw [if_neg fun e => w e.1, if_neg fun e => w e.1]
    obtain ⟨h1, b1, b2, b3⟩ := step
    obtain ⟨h', a1, a2, a3⟩ := rc_o hm r (j + 1) (by omega) (b2.sh hs) (K.fr b2 (by decide) (by decide)) b3
    refine ⟨h', b1.trans a1, b2.trans a2, a3.cg fun j' k' hj' hk' => ?_⟩
    rw [if_neg (show ¬ (m = j ∧ m ≠ m) by omega)]
    by_cases w : j' = j
    · subst w
      rw [if_neg (show ¬ (j' + 1 ≤ j' ∧ j' ≠ m) by omega)]
      by_cases v : j' ≠ m
      · rw [if_pos ⟨Nat.le_refl _, v⟩, if_pos ⟨rfl, v⟩]
      · rw [if_neg fun e => v e.2, if_neg fun e => v e.2]
    · rw [if_neg (show ¬ (j' = j ∧ j' ≠ m) by omega)]
      by_cases v : j ≤ j' ∧ j' ≠ m
      · rw [if_pos v, if_pos (by omega), if_neg (show ¬ (j' = j ∧ j' ≠ m) by omega)]
      · rw [if_neg v, if_neg (by omega)]
theorem r_clr {h : AH} {M : Nat → Nat → Nat} (hm : m < 4) (hs : Sh h) (K : KP h) (T : MRt h M) (pv : M m m ≠ 0) : ∃ h', E (d + 2) 90 [.ref 189, .int (nI m)] h = some (some (.int (nI 1)), h') ∧ Fr [] [239] h h' ∧ MRt h' (clr M m) := by
  obtain ⟨u1, u2⟩ := T m m hm (by omega)
  obtain ⟨h1, a1, a2, a3⟩ := rc_q (d := d) hm u2 pv 5 0 rfl hs K T
  obtain ⟨h2, b1, b2, b3⟩ := rc_o (d := d) hm 4 0 rfl (a2.sh hs) (K.fr a2 (by decide) (by decide)) a3
  refine ⟨h2, ?_, a2.trans b2, b3.cg fun j k hj hk => ?_⟩
  · rw [t_90 hs, t_90_2 hs, if_pos (nI_lt hm (by decide)), pk_mul, nI_add, gd_nI (by omega) (by decide), ix_nI (by omega), u1, if_neg (by rw [nI_eq (by omega) (by decide)]; exact pv), if_neg (by rw [nI_eq (by omega) (by decide)]; omega), rc_sw hs T hm 5 0 rfl, a1, b1]
  · unfold clr
    by_cases q : j = m
    · subst q
      rw [if_pos rfl, if_neg (show ¬ (0 ≤ j ∧ j ≠ j) by omega), if_pos ⟨rfl, Nat.zero_le _⟩]
    · rw [if_neg q, if_pos ⟨Nat.zero_le _, q⟩, if_neg (show ¬ (j = m ∧ 0 ≤ k) by omega), if_neg (show ¬ (j = m ∧ 0 ≤ m) by omega), if_pos ⟨rfl, Nat.zero_le _⟩]
/-- no spot -/
def knB (sp : Nat → Nat) (p : Nat) : Nat → Bool
  | 0 => true
  | m + 1 => knB sp p m && !(Nat.beq (sp m) p)
theorem knB_t {sp : Nat → Nat} {p : Nat} : ∀ n, knB sp p n = true ↔ ∀ k, k < n → p ≠ sp k
  | 0 => ⟨fun _ k hk => absurd hk (Nat.not_lt_zero _), fun _ => rfl⟩
  | n + 1 => by
    unfold knB
    rw [Bool.and_eq_true, knB_t n]
    constructor
    · rintro ⟨a, b⟩ k hk w
      by_cases q : k = n
      · subst q
        rw [w, Nat.beq_refl] at b
        exact absurd b (by decide)
      · exact a k (by omega) w
    · intro a
      refine ⟨fun k hk => a k (by omega), ?_⟩
      cases hb : Nat.beq (sp n) p with
      | false => rfl
      | true => exact absurd (Nat.eq_of_beq_eq_true hb).symm (a n (by omega))
def zrS (sp S : Nat → Nat) (n p : Nat) : Nat := bif knB sp p n then S p else 0
theorem SolS.zr {T : Nat → Nat} : SolS sp n (zrS sp S n) T ↔ SolS sp n S T := by
  unfold SolS
  have : ∀ p, (∀ k, k < n → p ≠ sp k) → zrS sp S n p = S p := fun p h => by unfold zrS; rw [(knB_t n).mpr h]; rfl
  constructor
  · rintro ⟨a, b, c⟩; exact ⟨a, fun p hp hk => by rw [b p hp hk, this p hk], c⟩
  · rintro ⟨a, b, c⟩; exact ⟨a, fun p hp hk => by rw [b p hp hk, this p hk], c⟩
/-- the unknown signs, the known ones -/
def RU (h : AH) (n : Nat) (sp : Nat → Nat) : Prop := gI h 3649 189 = nI n ∧ ∀ k, k < n → gA h 238 k = nI (sp k)
def RW (h : AH) (n : Nat) (sp S : Nat → Nat) : Prop := ∀ p, p < 11 → (∀ k, k < n → p ≠ sp k) → gA h 237 p = nI (S p)
theorem rs_kn {h : AH} (hs : Sh h) (D : SD sp n) (U : RU h n sp) {x1 x2 : Int32} {p : Nat} (hp : p < 11) : ∀ (r k : Nat), r + k = n → Q (d + 1) 88 23 [some (.ref 189), some (.int x1), some (.int x2), some (.int (nI p)), some (.int (bif knB sp p k then nI 1 else nI 0)), some (.int (nI k))] [] h = Q (d + 1) 88 23 [some (.ref 189), some (.int x1), some (.int x2), some (.int (nI p)), some (.int (bif knB sp p n then nI 1 else nI 0)), some (.int (nI n))] [] h
  | 0, k, e => by rw [show k = n by omega]
  | r + 1, k, e => by
    have n4 := D.1
    have sk := D.2.1 k (by omega)
    have := rs_kn hs D U (x1 := x1) (x2 := x2) hp r (k + 1) (by omega)
    rw [← this, t_88_23 hs, U.1, if_pos (nI_lt (by omega) (by omega)), nI_add]
    show _ = Q (d + 1) 88 23 [some (.ref 189), some (.int x1), some (.int x2), some (.int (nI p)), some (.int (bif knB sp p k && !(Nat.beq (sp k) p) then nI 1 else nI 0)), some (.int (nI (k + 1)))] [] h
    cases hb : knB sp p k with
    | false => rw [if_pos (show (bif false then nI 1 else nI 0) = nI 0 from rfl)]; rfl
    | true =>
      rw [if_neg (show ¬ (bif true then nI 1 else nI 0) = nI 0 by decide), gd_nI (by omega) (by decide), ix_nI (by omega), U.2 k (by omega)]
      simp only [show (nI (sp k) = nI p) = (sp k = p) from propext (nI_eq (by omega) (by omega))]
      cases hc : Nat.beq (sp k) p with
      | false => rw [if_neg fun w => by rw [w, Nat.beq_refl] at hc; exact absurd hc (by decide)]; rfl
      | true => rw [if_pos (Nat.eq_of_beq_eq_true hc)]; rfl
theorem rs_sum {h : AH} (hs : Sh h) (K : KP h) (D : SD sp n) (U : RU h n sp) (Rw : RW h n sp S) (hS : ∀ p, p < 11 → zrS sp S n p < 64) {j : Nat} (hj : j < 4) : ∀ (r p : Nat), r + p = 11 → Q (d + 1) 88 11 [some (.ref 189), some (.int (nI j)), some (.int (nI (Sx (fun p => gm (zrS sp S n p) (pw ((j + 1) * (10 - p)))) p))), some (.int (nI p)), none, none] [] h = Q (d + 1) 88 107 [some (.ref 189), some (.int (nI j)), some (.int (nI (vsS (zrS sp S n) j))), some (.int (nI 0)), none, none] [] h
  | 0, p, e => by
    have : p = 11 := by omega
    subst this
    rw [t_88_11 hs, if_neg (by decide)]; rfl
  | r + 1, p, e => by
    have n4 := D.1
    have hp : p < 11 := by omega
    have ih := rs_sum hs K D U Rw hS hj r (p + 1) (by omega)
    have m40 : (j + 1) * (10 - p) ≤ 40 := Nat.le_trans (Nat.mul_le_mul (by omega) (Nat.sub_le _ _)) (by decide : 4 * 10 ≤ 40)
    have bs : Sx (fun p => gm (zrS sp S n p) (pw ((j + 1) * (10 - p)))) p < 64 := Sx_lt p fun k hk => gm_lt (hS k (by omega)) pw_lt.1
    have kn := rs_kn (d := d) (n := n) hs D U (x1 := nI j) (x2 := nI (Sx (fun p => gm (zrS sp S n p) (pw ((j + 1) * (10 - p)))) p)) hp n 0 (by omega)
    rw [t_88_11 hs, if_pos (nI_lt hp (by decide))]
    have kn : Q (d + 1) 88 23 [some (.ref 189), some (.int (nI j)), some (.int (nI (Sx (fun p => gm (zrS sp S n p) (pw ((j + 1) * (10 - p)))) p))), some (.int (nI p)), some (.int (nI 1)), some (.int (nI 0))] [] h = _ := kn
    rw [kn, t_88_23 hs, U.1, if_neg (nI_nlt (Nat.le_refl _) (by omega)), ← ih]
    show _ = Q (d + 1) 88 11 [some (.ref 189), some (.int (nI j)), some (.int (nI (Sx (fun p => gm (zrS sp S n p) (pw ((j + 1) * (10 - p)))) p ^^^ gm (zrS sp S n p) (pw ((j + 1) * (10 - p)))))), some (.int (nI (p + 1))), none, none] [] h
    cases hb : knB sp p n with
    | false =>
      have z : zrS sp S n p = 0 := by unfold zrS; rw [hb]; rfl
      rw [if_pos (show (bif false then nI 1 else nI 0) = nI 0 from rfl), z, (gm_z _ pw_lt.1).2.1, Nat.xor_zero, nI_add]
    | true =>
      have z : zrS sp S n p = S p := by unfold zrS; rw [hb]; rfl
      have bp := hS p hp
      rw [z] at bp
      rw [if_neg (show ¬ (bif true then nI 1 else nI 0) = nI 0 by decide), gd_nI hp (by decide), dz_ok (by decide), nI_add, pk_sub (by omega), pk_mul, pk_remN (by omega) (by decide) (by decide), gd_nI (by have := Nat.mod_lt ((j + 1) * (10 - p)) (show 0 < 63 by decide); omega) (by decide), ix_nI (by omega), ix_nI (by have := Nat.mod_lt ((j + 1) * (10 - p)) (show 0 < 63 by decide); omega), Rw p hp ((knB_t n).mp hb), K.1 _ (by have := Nat.mod_lt ((j + 1) * (10 - p)) (show 0 < 63 by decide); omega), pw_m, r_prod hs K bp pw_lt.1, cK_v, t_88_93 hs, z, x64 _ bs _ (gm_lt bp pw_lt.1), nI_add]
theorem rs_row (D : SD sp n) {j v : Nat} (hj : j < 4) (hv : v < 64) : ∀ (r k : Nat) {h : AH} {M : Nat → Nat → Nat}, r + k = n → Sh h → KP h → RU h n sp → MRt h M → ∃ h', Q (d + 1) 88 107 [some (.ref 189), some (.int (nI j)), some (.int (nI v)), some (.int (nI k)), none, none] [] h = Q (d + 1) 88 2 [some (.ref 189), some (.int (nI (j + 1))), none, none, none, none] [] h' ∧ Fr [] [239] h h' ∧ MRt h' (fun j' k' => if j' = j ∧ k ≤ k' ∧ k' < n then pw ((j + 1) * (10 - sp k')) else if j' = j ∧ k' = 4 then v else M j' k')
  | 0, k, h, M, e, hs, K, U, T => by
    have n4 := D.1
    refine ⟨sA h 239 (5 * j + 4) (nI v), ?_, Fr.rfl.sA (by decide), (T.set (j0 := j) (k0 := 4) (by decide) hv).cg fun j' k' hj' hk' => ?_⟩
    · rw [t_88_107 hs, U.1, if_neg (nI_nlt (by omega) (by omega)), pk_mul, nI_add, gd_nI (by omega) (by decide), ix_nI (by omega), nI_add]
    · rw [if_neg (show ¬ (j' = j ∧ k ≤ k' ∧ k' < n) by omega)]
  | r + 1, k, h, M, e, hs, K, U, T => by
    have n4 := D.1
    have sk := D.2.1 k (by omega)
    have m40 : (j + 1) * (10 - sp k) ≤ 40 := Nat.le_trans (Nat.mul_le_mul (by omega) (Nat.sub_le _ _)) (by decide : 4 * 10 ≤ 40)
    have ml := Nat.mod_lt ((j + 1) * (10 - sp k)) (show 0 < 63 by decide)
    have f1 : Fr [] [239] h (sA h 239 (5 * j + k) (nI (pw ((j + 1) * (10 - sp k))))) := Fr.rfl.sA (by decide)
    obtain ⟨h', a1, a2, a3⟩ := rs_row D hj hv r (k + 1) (by omega) (f1.sh hs) (K.fr f1 (by decide) (by decide)) ⟨U.1, fun k hk => by rw [f1.A (by decide)]; exact U.2 k hk⟩ (T.set (j0 := j) (k0 := k) (by omega) pw_lt.1)
    refine ⟨h', ?_, f1.trans a2, a3.cg fun j' k' hj' hk' => ?_⟩
    · rw [t_88_107 hs, U.1, if_pos (nI_lt (by omega) (by omega)), gd_nI (by omega) (by decide), dz_ok (by decide), ix_nI (show k < 2 ^ 31 by omega), U.2 k (by omega), nI_add, pk_sub (by omega), pk_mul, pk_remN (by omega) (by decide) (by decide), gd_nI (by omega) (by decide), pk_mul, nI_add, gd_nI (by omega) (by decide), ix_nI (by omega), ix_nI (by omega), K.1 _ (by omega), pw_m, nI_add]
      exact a1
    · by_cases q : j' = j ∧ k ≤ k' ∧ k' < n
      · rw [if_pos q]
        obtain ⟨q1, q2, q3⟩ := q
        subst q1
        by_cases w : k' = k
        · subst w
          rw [if_neg (by omega), if_neg (by omega), if_pos ⟨rfl, rfl⟩]
        · rw [if_pos (by omega)]
      · rw [if_neg q, if_neg (show ¬ (j' = j ∧ k + 1 ≤ k' ∧ k' < n) by omega)]
        by_cases w : j' = j ∧ k' = 4
        · rw [if_pos w, if_pos w]
        · rw [if_neg w, if_neg w, if_neg (by omega)]
theorem rs_fill (D : SD sp n) (hS : ∀ p, p < 11 → zrS sp S n p < 64) : ∀ (r j : Nat) {h : AH} {M : Nat → Nat → Nat}, r + j = 4 → Sh h → KP h → RU h n sp → RW h n sp S → MRt h M → (∀ j' k, j' < j → k < n ∨ k = 4 → M j' k = M0s sp (zrS sp S n) n 4 j' k) → ∃ h' M', Q (d + 1) 88 2 [some (.ref 189), some (.int (nI j)), none, none, none, none] [] h = Q (d + 1) 88 171 [some (.ref 189), some (.int (nI 0)), none, none, none, none] [] h' ∧ Fr [] [239] h h' ∧ MRt h' M' ∧ ∀ j k, j < 4 → k < n ∨ k = 4 → M' j k = M0s sp (zrS sp S n) n 4 j k
  | 0, j, h, M, e, hs, K, U, Rw, T, I => by
    refine ⟨h, M, ?_, Fr.rfl, T, fun j' k hj hk => I j' k (by omega) hk⟩
    rw [t_88_2 hs, if_neg (nI_nlt (by omega) (by omega))]
  | r + 1, j, h, M, e, hs, K, U, Rw, T, I => by
    have n4 := D.1
    have hj : j < 4 := by omega
    obtain ⟨h1, a1, a2, a3⟩ := rs_row (d := d) D hj (Vs_lt hS (j := j)) n 0 (by omega) hs K U T
    have e1 := rs_sum (d := d) hs K D U Rw hS hj 11 0 rfl
    obtain ⟨h2, M2, b1, b2, b3, b4⟩ := rs_fill D hS r (j + 1) (by omega) (a2.sh hs) (K.fr a2 (by decide) (by decide)) ⟨by rw [a2.I (by decide)]; exact U.1, fun k hk => by rw [a2.A (by decide)]; exact U.2 k hk⟩ (fun p hp hk => by rw [a2.A (by decide)]; exact Rw p hp hk) a3 (fun j' k hj' hk => by
      unfold M0s
      by_cases q : j' = j
      · subst q
        by_cases w : k < n
        · rw [if_pos ⟨rfl, Nat.zero_le _, w⟩, if_pos w]
        · rw [if_neg (by omega), if_pos (by omega), if_neg w, if_pos (by omega)]
      · rw [if_neg (by omega), if_neg (by omega)]
        have := I j' k (by omega) hk
        unfold M0s at this
        exact this)
    refine ⟨h2, M2, ?_, a2.trans b2, b3, b4⟩
    rw [t_88_2 hs, if_pos (nI_lt hj (by decide))]
    exact e1.trans (a1.trans b1)
theorem rs_cols (D : SD sp n) {M0 : Nat → Nat → Nat} : ∀ (r i : Nat) {h : AH} {M : Nat → Nat → Nat}, r + i = n → Sh h → KP h → gI h 3649 189 = nI n → MRt h M → Ei (fun k => pw (10 - sp k)) n 4 i M0 M → ∃ h' M', Q (d + 2) 88 171 [some (.ref 189), some (.int (nI i)), none, none, none, none] [] h = Q (d + 2) 88 200 [some (.ref 189), some (.int (nI n)), none, none, none, none] [] h' ∧ Fr [] [239] h h' ∧ MRt h' M' ∧ Ei (fun k => pw (10 - sp k)) n 4 n M0 M'
  | 0, i, h, M, e, hs, K, U, T, I => by
    have i_n : i = n := by omega
    subst i_n
    refine ⟨h, M, ?_, Fr.rfl, T, I⟩
    rw [t_88_171 hs, U, if_neg (nI_nlt (Nat.le_refl _) (by have := D.1; omega))]
  | r + 1, i, h, M, e, hs, K, U, T, I => by
    have n4 := D.1
    have hi : i < n := by omega
    obtain ⟨h1, b1, b2, b3⟩ := r_clr (d := d) (show i < 4 by omega) hs K T (I.piv D.xd hi n4)
    obtain ⟨h', M', a1, a2, a3, a4⟩ := rs_cols D r (i + 1) (by omega) (b2.sh hs) (K.fr b2 (by decide) (by decide)) (by rw [b2.I (by decide)]; exact U) b3 (I.step D.xd hi n4 fun _ _ _ _ => rfl)
    refine ⟨h', M', ?_, b2.trans a2, a3, a4⟩
    rw [t_88_171 hs, U, if_pos (nI_lt hi (by omega)), b1, cK_v, t_88_184 (b2.sh hs), if_neg (by decide), nI_add]
    exact a1
theorem rs_chk {M : Nat → Nat → Nat} {h : AH} (hs : Sh h) (hn : n ≤ 4) (T : MRt h M) : ∀ (r j : Nat), r + j = 4 → ((∀ j', j ≤ j' → j' < 4 → M j' 4 = 0) → Q (d + 2) 88 200 [some (.ref 189), some (.int (nI j)), none, none, none, none] [] h = Q (d + 2) 88 228 [some (.ref 189), some (.int (nI 0)), none, none, none, none] [] h) ∧ ((¬ ∀ j', j ≤ j' → j' < 4 → M j' 4 = 0) → Q (d + 2) 88 200 [some (.ref 189), some (.int (nI j)), none, none, none, none] [] h = some (some (.int (nI 0)), h))
  | 0, j, e => ⟨fun _ => by rw [t_88_200 hs, if_neg (nI_nlt (by omega) (by omega))], fun q => absurd (fun j' h1 h2 => by omega) q⟩
  | r + 1, j, e => by
    obtain ⟨i1, i2⟩ := rs_chk hs hn T r (j + 1) (by omega)
    obtain ⟨t1, t2⟩ := T j 4 (by omega) (by decide)
    have st : Q (d + 2) 88 200 [some (.ref 189), some (.int (nI j)), none, none, none, none] [] h = if M j 4 = 0 then Q (d + 2) 88 200 [some (.ref 189), some (.int (nI (j + 1))), none, none, none, none] [] h else some (some (.int (nI 0)), h) := by
      rw [t_88_200 hs, if_pos (nI_lt (by omega) (by decide)), pk_mul, nI_add, gd_nI (by omega) (by decide), ix_nI (by omega), t1, nI_add]
      simp only [show (nI (M j 4) = nI 0) = (M j 4 = 0) from propext (nI_eq (by omega) (by decide))]
    rw [st]
    by_cases w : M j 4 = 0
    · rw [if_pos w]
      refine ⟨fun q => i1 fun j' h1 h2 => q j' (by omega) h2, fun q => i2 fun q' => q fun j' h1 h2 => ?_⟩
      by_cases v : j' = j
      · rw [v]; exact w
      · exact q' j' (by omega) h2
    · rw [if_neg w]
      exact ⟨fun q => absurd (q j (Nat.le_refl _) (by omega)) w, fun _ => rfl⟩
theorem rs_put (D : SD sp n) {M : Nat → Nat → Nat} (hS : ∀ p, p < 11 → zrS sp S n p < 64) : ∀ (r k : Nat) {h : AH}, r + k = n → Sh h → RU h n sp → MRt h M → (∀ p, p < 11 → (∀ k', k' < n → k ≤ k' → p ≠ sp k') → gA h 237 p = nI (zrS sp S n p ^^^ dl sp (fun k => M k 4) k p)) → ∃ h', Q (d + 2) 88 228 [some (.ref 189), some (.int (nI k)), none, none, none, none] [] h = some (some (.int (nI 1)), h') ∧ Fr [] [237] h h' ∧ ∀ p, p < 11 → gA h' 237 p = nI (zrS sp S n p ^^^ dl sp (fun k => M k 4) n p)
  | 0, k, h, e, hs, U, T, A => by
    have i_n : k = n := by omega
    subst i_n
    refine ⟨h, ?_, Fr.rfl, fun p hp => A p hp fun k' h1 h2 => by omega⟩
    rw [t_88_228 hs, U.1, if_neg (nI_nlt (Nat.le_refl _) (by have := D.1; omega))]
  | r + 1, k, h, e, hs, U, T, A => by
    have n4 := D.1
    have sk := D.2.1 k (by omega)
    obtain ⟨t1, t2⟩ := T k 4 (by omega) (by decide)
    have f1 : Fr [] [237] h (sA h 237 (sp k) (nI (M k 4))) := Fr.rfl.sA (by decide)
    obtain ⟨h', b1, b2, b3⟩ := rs_put D hS r (k + 1) (by omega) (f1.sh hs) ⟨U.1, fun k hk => by rw [f1.A (by decide)]; exact U.2 k hk⟩ (fun j k hj hk => by rw [f1.A (by decide)]; exact T j k hj hk) (fun p hp hk => by
      have u : dl sp (fun k => M k 4) (k + 1) p = dl sp (fun k => M k 4) k p ^^^ (if p = sp k then M k 4 else 0) := rfl
      rw [gA_s, u]
      by_cases w : p = sp k
      · have z1 : dl sp (fun k => M k 4) k p = 0 := dl_off k fun k' hk' q => by
          have := D.2.2 k' k (by omega) (by omega) (q.symm.trans w)
          omega
        have z2 : zrS sp S n p = 0 := by
          unfold zrS
          cases hb : knB sp p n with
          | false => rfl
          | true => exact absurd w ((knB_t n).mp hb k (by omega))
        rw [w, up1_s, if_pos rfl, ← w, z1, z2, Nat.zero_xor, Nat.zero_xor]
      · rw [up1_x w, if_neg w, Nat.xor_zero]
        refine A p hp fun k' h1 h2 => ?_
        by_cases v : k' = k
        · rw [v]; exact w
        · exact hk k' h1 (by omega))
    refine ⟨h', ?_, f1.trans b2, b3⟩
    rw [t_88_228 hs, U.1, if_pos (nI_lt (by omega) (by omega)), gd_nI (by omega) (by decide), pk_mul, nI_add, gd_nI (by omega) (by decide), ix_nI (show k < 2 ^ 31 by omega), U.2 k (by omega), gd_nI sk (by decide), ix_nI (by omega), ix_nI (by omega), t1, nI_add]
    exact b1
/-- solve (reference) -/
theorem r_solve {h : AH} {M : Nat → Nat → Nat} (hs : Sh h) (K : KP h) (D : SD sp n) (U : RU h n sp) (Rw : RW h n sp S) (hS : ∀ p, p < 11 → (∀ k, k < n → p ≠ sp k) → S p < 64) (T : MRt h M) : ∃ h' v M', E (d + 3) 88 [.ref 189] h = some (some (.int (nI v)), h') ∧ Fr [] [237, 239] h h' ∧ MRt h' M' ∧ (v = 1 ∧ (∃ W, SolS sp n S W ∧ ∀ p, p < 11 → gA h' 237 p = nI (W p)) ∨ v = 0 ∧ (∀ W, ¬ SolS sp n S W) ∧ gA h' 237 = gA h 237) := by
  have n4 := D.1
  have hZ : ∀ p, p < 11 → zrS sp S n p < 64 := fun p hp => by
    unfold zrS
    cases hb : knB sp p n with
    | false => show 0 < 64; decide
    | true => exact hS p hp ((knB_t n).mp hb)
  have hM : ∀ j k, j < 4 → k < n → M0s sp (zrS sp S n) n 4 j k = pw ((j + 1) * (10 - sp k)) := fun j k _ hk => if_pos hk
  have hR : ∀ j, j < 4 → M0s sp (zrS sp S n) n 4 j 4 = vsS (zrS sp S n) j := fun j _ => by unfold M0s; rw [if_neg (by omega), if_pos rfl]
  obtain ⟨h1, M1, a1, a2, a3, a4⟩ := rs_fill (d := d + 1) D hZ 4 0 rfl hs K U Rw T (fun j' k q => absurd q (Nat.not_lt_zero _))
  have hs1 := a2.sh hs
  have I0 : Ei (fun k => pw (10 - sp k)) n 4 0 M1 M1 := Ei.spt D hZ (fun j k hj hk => by rw [a4 j k hj (Or.inl hk)]; exact hM j k hj hk) (fun j hj => by rw [a4 j 4 hj (Or.inr rfl)]; exact hR j hj)
  obtain ⟨h2, M2, b1, b2, b3, b4⟩ := rs_cols (d := d) D n 0 (by omega) hs1 (K.fr a2 (by decide) (by decide)) (by rw [a2.I (by decide)]; exact U.1) a3 I0
  have hs2 := b2.sh hs1
  have f2 := a2.trans b2
  obtain ⟨c1, c2⟩ := rs_chk (d := d) hs2 n4 b3 (4 - n) n (by omega)
  obtain ⟨s1, s2⟩ := Ei.sol D hZ (fun j k hj hk => by rw [a4 j k hj (Or.inl hk)]; exact hM j k hj hk) (fun j hj => by rw [a4 j 4 hj (Or.inr rfl)]; exact hR j hj) b4
  have e0 : E (d + 3) 88 [.ref 189] h = Q (d + 2) 88 200 [some (.ref 189), some (.int (nI n)), none, none, none, none] [] h2 := by
    rw [t_88 hs, a1, b1]
  by_cases q : ∀ j', n ≤ j' → j' < 4 → M2 j' 4 = 0
  · obtain ⟨h3, d1, d2, d3⟩ := rs_put (d := d) D hZ n 0 (by omega) hs2 ⟨by rw [f2.I (by decide)]; exact U.1, fun k hk => by rw [f2.A (by decide)]; exact U.2 k hk⟩ b3 (fun p hp hk => by
      have nk : ∀ k, k < n → p ≠ sp k := fun k h1 => hk k h1 (Nat.zero_le _)
      have z : zrS sp S n p = S p := by unfold zrS; rw [(knB_t n).mpr nk]; rfl
      rw [f2.A (by decide), Rw p hp nk, z]
      show _ = nI (S p ^^^ 0)
      rw [Nat.xor_zero])
    refine ⟨h3, 1, M2, by rw [e0, c1 q, d1], (f2.wk (fun _ q => q) (by decide)).trans (d2.wk (fun _ q => q) (by decide)), fun j k hj hk => by rw [d2.A (by decide)]; exact b3 j k hj hk, Or.inl ⟨rfl, _, SolS.zr.mp (s1 q), d3⟩⟩
  · refine ⟨h2, 0, M2, by rw [e0, c2 q], f2.wk (fun _ q => q) (by decide), b3, Or.inr ⟨rfl, fun W hW => q (s2 W (SolS.zr.mpr hW)).1, f2.A (by decide)⟩⟩
end RSO
