/-! ===== RUN: statements on both sides: slide ===== -/
section SLJ
variable {c : CXm} {M N d k k' D T p n a t u f z kk : Nat} {hc hr h h0 h1 hc' hr' : AH} {L : Cds} {w l la lb lm : Int64} {x : Int32} {st : St} {G Cp : Nat → Nat → Nat} {W : Nat → Int64}
theorem r_167b (q : PSt c hc hr st G Cp) (r : CRm c hc hr) (K : KXs c) (hs : Sh hr') (fr : Fr [3723, 3724, 3733] [288, 294] hr hr') (h9 : 9 ≤ kk) (hk : kk ≤ 12) (px : itv (kn c 6) x) (hn : 3 ≤ n) : E n 167 [.ref 189, .int (nI kk), .int x] hr' = some (some (.int (nI (if fitV (kB c) st kk x = true then 1 else 0))), hr') := by
  obtain ⟨m, rfl⟩ : ∃ m, n = m + 1 := ⟨n - 1, by omega⟩
  obtain ⟨b1, b2, b3, b4⟩ := q.rb r K
  have b1' := b1.fr fr (by decide)
  have b2' : gI hr' 3597 189 = nI (kn c 2) := by rw [fr.I (by decide)]; exact b2
  have R1 : RS1 hr' st := (q.2.2.2.2.1.fr fr (by decide) (by decide)).1
  have w2 : kn c 6 ≤ 200 := by have := q.2.1.1; have := q.2.2.2.2.2.2.2.2.1; omega
  rw [t_167 hs]
  rcases px.u w2 with ⟨x0, x1⟩ | ⟨i, hi, xi, x1, -⟩
  · rw [if_pos x1, x0, fit_n, if_pos rfl]
  · rw [if_neg x1, xi, fit_i (by omega)]
    by_cases k9 : kk = 9
    · rw [if_pos (by rw [k9]), if_pos k9, if_pos rfl]
    · have hz := q.2.2.2.2.2.2.2.2.1
      rw [if_neg (fun z => k9 ((nI_eq (by omega) (by decide)).mp z)), if_neg k9, pk_sub (by omega), r_168 hs K.2.2.1 b3 b2' b1' R1 q.2.1.i (by omega) (by omega) (by omega), cK_v, t_167_19 hs]
      cases ofS (kB c) st i (kk - 10) <;> simp <;> decide
/-- the first of m that does not fit -/
def fstN (F : Nat → Bool) (m J : Nat) : Prop := J ≤ m ∧ (∀ i, i < J → F i = true) ∧ (J < m → F J = false)
theorem fstN_u {F : Nat → Bool} {m J J' : Nat} (a : fstN F m J) (b : fstN F m J') : J = J' := by
  have one : ∀ {J J' : Nat}, fstN F m J → fstN F m J' → ¬ J < J' := fun {J J'} a b h => by
    have h1 := a.2.2 (by have := b.1; omega)
    have h2 := b.2.1 J h
    rw [h1] at h2; cases h2
  have h1 := one a b
  have h2 := one b a
  omega
def fitW (bk : Bk) (s : St) (k : Nat) (W : Nat → Int64) (i : Nat) : Bool := if k < 9 then true else fitV bk s k (W i).toInt32
theorem c_slp (q : PSt c hc hr st G Cp) (Wb : WB (kB c)) (hk : 10 ≤ kk ∧ kk ≤ 12) {F B m' : Nat} (hF : F + m' ≤ 2000) (hW : ∀ i, i < m' → W i = gB hc 182 (F + i) ∧ ∃ x, itv (kn c 6) x ∧ W i = x.toInt64) (hn : 4 ≤ n) : ∀ m j, j + m = m' → (∀ i, i < j → fitW (kB c) st kk W i = true) → ∃ J, fstN (fitW (kB c) st kk W) m' J ∧ Q n 372 13 [some (.ref 175), some (.int (nI F)), some (.int (nI B)), some (.int (nI m')), some (.int (nI kk)), some (.int (nI j))] [] hc = (if J < m' then Q n 372 34 [some (.ref 175), some (.int (nI F)), some (.int (nI B)), some (.int (nI m')), some (.int (nI kk)), some (.int (nI J))] [.int (nI 0)] hc else Q n 372 13 [some (.ref 175), some (.int (nI F)), some (.int (nI B)), some (.int (nI m')), some (.int (nI kk)), some (.int (nI m'))] [] hc)
  | 0, j, e, hj => by
    obtain rfl : j = m' := by omega
    exact ⟨j, ⟨Nat.le_refl _, hj, fun z => absurd z (Nat.lt_irrefl _)⟩, by rw [if_neg (Nat.lt_irrefl _)]⟩
  | m + 1, j, e, hj => by
    have s := q.1.1
    obtain ⟨w1, x, w2, w3⟩ := hW j (by omega)
    have fe : fitW (kB c) st kk W j = fitV (kB c) st kk x := by unfold fitW; rw [if_neg (by omega), w3, i3264]
    have eC := c_370 (n := n) q Wb (kk := kk) (by omega) hk.2 w2 hn
    by_cases y : fitV (kB c) st kk x = true
    · obtain ⟨J, e1, e2⟩ := c_slp q Wb hk hF hW hn m (j + 1) (by omega) (fun i hi => by
        by_cases z : i = j
        · rw [z, fe]; exact y
        · exact hj i (by omega))
      refine ⟨J, e1, ?_⟩
      rw [← e2, t_372_13 s, if_pos (nI_lt (by omega) (by omega)), nI_add, gd_nI (by omega) (by decide), ix_nI (by omega), ← w1, w3, eC, cK_v, t_372_34 s, y, if_pos rfl, if_neg (by decide), nI_add]
    · have y' : fitV (kB c) st kk x = false := by cases h : fitV (kB c) st kk x with | true => exact absurd h y | false => rfl
      refine ⟨j, ⟨by omega, hj, fun _ => by rw [fe]; exact y'⟩, ?_⟩
      rw [if_pos (by omega), t_372_13 s, if_pos (nI_lt (by omega) (by omega)), nI_add, gd_nI (by omega) (by decide), ix_nI (by omega), ← w1, w3, eC, cK_v, y']
      rfl
/-- the reference takes a copy -/
theorem r_tk {S m' qt : Nat} {lt : Int64} {x5 : Int32} {lf : Int64} (hS : S + m' ≤ 2000) (hq : qt < 13) {ft : Nat} (hf : nI ft + lf.toInt32 = nI S) : ∀ m j (h : AH), j + m = m' → Sh h → gA h 286 qt = nI ft → ∃ h', Q n 169 200 [some (.ref 189), none, none, some (.long lt), none, some (.int x5), some (.long lf), none, some (.int (nI qt)), none, none, some (.int (nI m')), some (.int (nI j))] [] h = Q n 169 242 [some (.ref 189), none, none, some (.long lt), none, some (.int x5), none, none, none, none, none, some (.int (nI m')), some (.int (nI 0))] [] h' ∧ Fr [] [294] h h' ∧ (∀ i, gB h' 294 i = if j ≤ i ∧ i < m' then gB h 288 (S + i) else gB h 294 i)
  | 0, j, h, e, hs, e1 => by
    refine ⟨h, ?_, Fr.rfl, fun i => by rw [if_neg (by omega)]⟩
    rw [t_169_200 hs, if_neg (nI_nlt (by omega) (by omega))]
  | m + 1, j, h, e, hs, e1 => by
    have fb : Fr [] [294] h (sB h 294 j (gB h 288 (S + j))) := Fr.rfl.sB (by decide)
    obtain ⟨h', a1, a2, a3⟩ := r_tk hS hq hf m (j + 1) (sB h 294 j (gB h 288 (S + j))) (by omega) hs.sB (by rw [fb.A (by decide)]; exact e1)
    refine ⟨h', ?_, fb.trans a2, fun i => ?_⟩
    · rw [t_169_200 hs, if_pos (nI_lt (by omega) (by omega)), gd_nI hq (by decide), ix_nI (by omega), e1, hf, nI_add, gd_nI (by omega) (by decide), gd_nI (by omega) (by decide), ix_nI (by omega), ix_nI (by omega), nI_add]
      exact a1
    · rw [a3, gB_s]
      unfold up1
      rw [show gB (sB h 294 j (gB h 288 (S + j))) 288 = gB h 288 from fb.B (by decide)]
      by_cases q : i = j
      · rw [if_neg (by omega), if_pos q, if_pos (by omega), q]
      · rw [if_neg q]
        by_cases q2 : j + 1 ≤ i ∧ i < m'
        · rw [if_pos q2, if_pos (by omega)]
        · rw [if_neg q2, if_neg (by omega)]
/-- and lays it down -/
theorem r_lyd (q : PSt c hc hr st G Cp) (r : CRm c hc hr) (K : KXs c) {B m' kk qu fu : Nat} (hk : 1 ≤ kk ∧ kk ≤ 12) (hB : B + m' ≤ 2000) (hq : qu < 13) {lt : Int64} (hf : nI fu + lt.toInt32 = nI B) (hW : ∀ i, i < m' → 9 ≤ kk → ∃ x, itv (kn c 6) x ∧ W i = x.toInt64) (hn : 3 ≤ n) : ∀ m j (h : AH), j + m = m' → Fr [3723, 3724, 3733] [288, 294] hr h → gI h 3733 189 = nI 0 → gA h 285 qu = nI kk → gA h 286 qu = nI fu → (∀ i, i < m' → gB h 294 i = W i) → (∀ i, i < j → fitW (kB c) st kk W i = true) → ∃ J h', fstN (fitW (kB c) st kk W) m' J ∧ j ≤ J ∧ Q n 169 242 [some (.ref 189), none, none, some (.long lt), none, some (.int (nI qu)), none, none, none, none, none, some (.int (nI m')), some (.int (nI j))] [] h = some (none, h') ∧ Fr [3733] [288] h h' ∧ gI h' 3733 189 = (if J < m' then nI 5 else nI 0) ∧ ∀ i, gB h' 288 i = if B + j ≤ i ∧ i < B + J then W (i - B) else gB h 288 i
  | 0, j, h, e, fr, c0, e5, e6, hw, hj => by
    obtain rfl : j = m' := by omega
    have hs := fr.sh (r.shR K)
    refine ⟨j, h, ⟨Nat.le_refl _, hj, fun z => absurd z (Nat.lt_irrefl _)⟩, Nat.le_refl _, ?_, Fr.rfl, by rw [if_neg (Nat.lt_irrefl _)]; exact c0, fun i => by rw [if_neg (by omega)]⟩
    rw [t_169_242 hs, if_neg (nI_nlt (by omega) (by omega))]
  | m + 1, j, h, e, fr, c0, e5, e6, hw, hj => by
    have hs := fr.sh (r.shR K)
    have fb : Fr [] [288] h (sB h 288 (B + j) (W j)) := Fr.rfl.sB (by decide)
    have ok : fitW (kB c) st kk W j = true → (∃ J h', fstN (fitW (kB c) st kk W) m' J ∧ j ≤ J ∧ Q n 169 242 [some (.ref 189), none, none, some (.long lt), none, some (.int (nI qu)), none, none, none, none, none, some (.int (nI m')), some (.int (nI (j + 1)))] [] (sB h 288 (B + j) (W j)) = some (none, h') ∧ Fr [3733] [288] h h' ∧ gI h' 3733 189 = (if J < m' then nI 5 else nI 0) ∧ ∀ i, gB h' 288 i = if B + j ≤ i ∧ i < B + J then W (i - B) else gB h 288 i) := fun y => by
      obtain ⟨J, h', a1, a2, a3, a4, a5, a6⟩ := r_lyd q r K hk hB hq hf hW hn m (j + 1) (sB h 288 (B + j) (W j)) (by omega) (fr.trans (fb.wk (fun _ q => absurd q List.not_mem_nil) (by decide))) (by rw [fb.I List.not_mem_nil]; exact c0) (by rw [fb.A (by decide)]; exact e5) (by rw [fb.A (by decide)]; exact e6) (fun i hi => by rw [fb.B (by decide)]; exact hw i hi) (fun i hi => by
        by_cases z : i = j
        · rw [z]; exact y
        · exact hj i (by omega))
      refine ⟨J, h', a1, by omega, a3, (fb.wk (fun _ q => absurd q List.not_mem_nil) (fun _ q => q)).trans a4, a5, fun i => ?_⟩
      rw [a6, gB_s]
      unfold up1
      by_cases z : i = B + j
      · rw [if_neg (by omega), if_pos z, if_pos (by omega), show i - B = j by omega]
      · rw [if_neg z]
        by_cases z2 : B + (j + 1) ≤ i ∧ i < B + J
        · rw [if_pos z2, if_pos (by omega)]
        · rw [if_neg z2, if_neg (by omega)]
    rw [t_169_242 hs, if_pos (nI_lt (by omega) (by omega)), if_pos c0, gd_nI hq (by decide), ix_nI (by omega), e5, r_164 hs (by omega) hk.2, cK_v, t_169_266 hs]
    by_cases k9 : 9 ≤ kk
    · obtain ⟨x, x1, x2⟩ := hW j (by omega) k9
      have fe : fitW (kB c) st kk W j = fitV (kB c) st kk x := by unfold fitW; rw [if_neg (by omega), x2, i3264]
      have e67 := r_167b (n := n) (x := x) (hr' := h) q r K hs fr k9 hk.2 x1 hn
      rw [if_pos k9, if_neg (by decide), gd_nI hq (by decide), gd_nI (by omega) (by decide), ix_nI (by omega), ix_nI (by omega), e5, hw j (by omega), x2, i3264, e67, cK_v, t_169_288 hs]
      cases y : fitV (kB c) st kk x with
      | true =>
        rw [if_pos rfl, if_neg (by decide), gd_nI hq (by decide), gd_nI (by omega) (by decide), ix_nI (by omega), ix_nI (by omega), e6, hf, nI_add, gd_nI (by omega) (by decide), ix_nI (by omega), nI_add, hw j (by omega)]
        exact ok (by rw [fe]; exact y)
      | false =>
        have s1 : Sh (sI h 3733 189 (nI 5)) := hs.sI
        refine ⟨j, sI h 3733 189 (nI 5), ⟨by omega, hj, fun _ => by rw [fe]; exact y⟩, Nat.le_refl _, ?_, Fr.rfl.sI (by decide), by rw [if_pos (by omega), gI_s], fun i => by rw [if_neg (by omega)]; rfl⟩
        rw [if_pos (show nI (if false = true then 1 else 0) = nI 0 by decide), rm_refuse hs (by omega) c0, cK_n, t_169_296 s1, nI_add, t_169_242 s1]
        by_cases z : nI (j + 1) < nI m'
        · rw [if_pos z, if_neg (by rw [gI_s]; decide)]
        · rw [if_neg z]
    · rw [if_neg k9, if_pos rfl, gd_nI hq (by decide), gd_nI (by omega) (by decide), ix_nI (by omega), ix_nI (by omega), e6, hf, nI_add, gd_nI (by omega) (by decide), ix_nI (by omega), nI_add, hw j (by omega)]
      exact ok (by unfold fitW; rw [if_pos (by omega)])
end SLJ
