/-! ===== PROGRAMMES: the reference writes codes ===== -/
abbrev Cds : Type := List (Int32 × Int32)
/-- the codes L stand from place p on -/
def AT (h : AH) (p : Nat) (L : Cds) : Prop := ∀ i, i < L.length → gA h 274 (p + i) = (L.getD i (0, 0)).1 ∧ gA h 275 (p + i) = (L.getD i (0, 0)).2
theorem AT.nil {h : AH} {p : Nat} : AT h p [] := fun i hi => absurd hi (Nat.not_lt_zero _)
theorem gd_app (L1 L2 : Cds) (i : Nat) : (L1 ++ L2).getD i (0, 0) = if i < L1.length then L1.getD i (0, 0) else L2.getD (i - L1.length) (0, 0) := by
  by_cases q : i < L1.length
  · rw [if_pos q, List.getD_eq_getElem?_getD, List.getElem?_append_left q, ← List.getD_eq_getElem?_getD]
  · rw [if_neg q, List.getD_eq_getElem?_getD, List.getElem?_append_right (by omega), ← List.getD_eq_getElem?_getD]
theorem AT_app {h : AH} {p : Nat} {L1 L2 : Cds} : AT h p (L1 ++ L2) ↔ AT h p L1 ∧ AT h (p + L1.length) L2 := by
  constructor
  · intro a
    refine ⟨fun i hi => ?_, fun i hi => ?_⟩
    · have := a i (by rw [List.length_append]; omega)
      rw [gd_app, if_pos hi] at this; exact this
    · have := a (L1.length + i) (by rw [List.length_append]; omega)
      rw [gd_app, if_neg (by omega), show L1.length + i - L1.length = i by omega, show p + (L1.length + i) = p + L1.length + i by omega] at this
      exact this
  · rintro ⟨a, b⟩ i hi
    rw [List.length_append] at hi
    rw [gd_app]
    by_cases q : i < L1.length
    · rw [if_pos q]; exact a i q
    · rw [if_neg q]
      have := b (i - L1.length) (by omega)
      rw [show p + L1.length + (i - L1.length) = p + i by omega] at this
      exact this
theorem AT_one {h : AH} {p : Nat} {x y : Int32} : AT h p [(x, y)] ↔ gA h 274 p = x ∧ gA h 275 p = y := by
  constructor
  · intro a; exact a 0 Nat.one_pos
  · rintro ⟨a, b⟩ i hi
    have : i = 0 := by
      have : i < 1 := hi
      omega
    subst this; exact ⟨a, b⟩
abbrev KPr : List Nat := [3595, 3596, 3697, 3708]
/-- what writing codes changes: from place B + c on -/
def PW (h h' : AH) (B c : Nat) (L : Cds) : Prop := Fr KPr [274, 275] h h' ∧ (∀ i, i < B + c ∨ B + 4400 ≤ i → gA h' 274 i = gA h 274 i ∧ gA h' 275 i = gA h 275 i) ∧ AT h' (B + c) L
theorem PW.of {h h' : AH} {B c : Nat} {K : List Nat} (f : Fr K [] h h') (hK : ∀ k, k ∈ K → k ∈ KPr) : PW h h' B c [] := ⟨f.wk hK (fun x q => absurd q List.not_mem_nil), fun i _ => by rw [f.A List.not_mem_nil, f.A List.not_mem_nil]; exact ⟨rfl, rfl⟩, AT.nil⟩
theorem PW.tr {h h1 h2 : AH} {B c : Nat} {L1 L2 : Cds} (a : PW h h1 B c L1) (b : PW h1 h2 B (c + L1.length) L2) (hb : c + L1.length ≤ 4400) : PW h h2 B c (L1 ++ L2) := by
  obtain ⟨a1, a2, a3⟩ := a
  obtain ⟨b1, b2, b3⟩ := b
  refine ⟨a1.trans b1, fun i hi => ?_, AT_app.mpr ⟨fun i hi => ?_, ?_⟩⟩
  · obtain ⟨x1, x2⟩ := b2 i (by omega)
    obtain ⟨y1, y2⟩ := a2 i hi
    exact ⟨x1.trans y1, x2.trans y2⟩
  · obtain ⟨x1, x2⟩ := b2 (B + c + i) (by omega)
    rw [x1, x2]; exact a3 i hi
  · rw [show B + c + L1.length = B + (c + L1.length) by omega]; exact b3
/-- the reference stands at token k with the fault f; c codes are written; the depth is d -/
def SRs (h : AH) (t : Tp) (M k f c d B : Nat) : Prop := Sh h ∧ KR h ∧ RQ h t M k f ∧ gI h 3697 189 = nI c ∧ gI h 3698 189 = nI B ∧ gI h 3708 189 = nI d ∧ (B = 0 ∨ B = 4400)
section SRO
variable {h h' : AH} {t : Tp} {M k f c d B n : Nat}
theorem SRs.mv (S : SRs h t M k f c d B) (fr : Fr [3595, 3596] [] h h') {k' f' : Nat} (R : RQ h' t M k' f') : SRs h' t M k' f' c d B := by
  obtain ⟨s1, s2, s3, s4, s5, s6, s7⟩ := S
  exact ⟨fr.sh s1, s2.fr fr (by decide), R, by rw [fr.I (by decide)]; exact s4, by rw [fr.I (by decide)]; exact s5, by rw [fr.I (by decide)]; exact s6, s7⟩
theorem SRs.any (S : SRs h t M k f c d B) (hf : f ≠ 0) (j : Nat) : SRs h t M j f c d B := by
  obtain ⟨s1, s2, s3, s4⟩ := S
  exact ⟨s1, s2, s3.any hf j, s4⟩
/-- the depth changes -/
theorem SRs.dp (S : SRs h t M k f c d B) (d' : Nat) : SRs (sI h 3708 189 (nI d')) t M k f c d' B ∧ PW h (sI h 3708 189 (nI d')) B c [] := by
  obtain ⟨s1, s2, s3, s4, s5, s6, s7⟩ := S
  have fr : Fr [3708] [] h (sI h 3708 189 (nI d')) := Fr.rfl.sI (by decide)
  exact ⟨⟨s1.sI, s2.fr fr (by decide), s3.fr fr (by decide) (by decide) (by decide) (by decide) (by decide), by rw [gI_k (by decide)]; exact s4, by rw [gI_k (by decide)]; exact s5, gI_s, s7⟩, PW.of fr (by decide)⟩
/-- one code -/
theorem r_emit (S : SRs h t M k f c d B) (hc : c < 4400) (hn : 1 ≤ n) (x1 x2 : Int32) : ∃ h', E n 130 [.ref 189, .int x1, .int x2] h = some (some (.int (nI c)), h') ∧ PW h h' B c [(x1, x2)] ∧ SRs h' t M k f (c + 1) d B := by
  obtain ⟨m, rfl⟩ : ∃ m, n = m + 1 := ⟨n - 1, by omega⟩
  obtain ⟨s1, s2, s3, s4, s5, s6, s7⟩ := S
  have fr : Fr [3697] [274, 275] h (sI (sA (sA h 274 (B + c) x1) 275 (B + c) x2) 3697 189 (nI (c + 1))) := ((Fr.rfl.sA (by decide)).sA (by decide)).sI (by decide)
  refine ⟨sI (sA (sA h 274 (B + c) x1) 275 (B + c) x2) 3697 189 (nI (c + 1)), ?_, ⟨fr.wk (by decide) (by decide), fun i hi => ?_, AT_one.mpr ⟨?_, ?_⟩⟩, fr.sh s1, s2.fr fr (by decide), s3.fr fr (by decide) (by decide) (by decide) (by decide) (by decide), gI_s, by rw [gI_k (by decide)]; exact s5, by rw [gI_k (by decide)]; exact s6, s7⟩
  · rw [t_130 s1, s4, s5, nI_add, gd_nI (by omega) (by decide), gd_nI (by omega) (by decide), ix_nI (by omega), nI_add, pk_sub (by omega), show c + 1 - 1 = c by omega]
  · refine ⟨?_, ?_⟩
    · show gA (sA (sA h 274 (B + c) x1) 275 (B + c) x2) 274 i = _
      rw [gA_k (by decide), gA_s, up1_x (by omega)]
    · show gA (sA (sA h 274 (B + c) x1) 275 (B + c) x2) 275 i = _
      rw [gA_s, up1_x (by omega), gA_k (by decide)]
  · show gA (sA (sA h 274 (B + c) x1) 275 (B + c) x2) 274 (B + c) = _
    rw [gA_k (by decide), gA_s, up1_s]
  · show gA (sA (sA h 274 (B + c) x1) 275 (B + c) x2) 275 (B + c) = _
    rw [gA_s, up1_s]
/-- a sign is taken -/
theorem r_sig (S : SRs h t M k f c d B) {x : Nat} (h6 : 6 ≤ x) (h2 : x < 128) (hn : 2 ≤ n) : ∃ h', E n 61 [.ref 189, .int (nI x)] h = some (none, h') ∧ Fr [3595, 3596] [] h h' ∧ SRs h' t M (k + 1) (if f = 0 then (if lk t k = x then 0 else fX t 1 k) else f) c d B := by
  obtain ⟨m, rfl⟩ : ∃ m, n = m + 2 := ⟨n - 2, by omega⟩
  obtain ⟨h', a1, a2, a3⟩ := r_tS (d := m) S.1 S.2.2.1 (c := x) (by omega) h2
  refine ⟨h', a1, a2, S.mv a2 ?_⟩
  have e : (if f = 0 then (if lk t k = x then 0 else fX t 1 k) else f) = st f (fS t k x) := by
    unfold st fS
    simp only [lk_sg (t := t) (k := k) h6 h2]
  rw [e]; exact a3
/-- a fault is told -/
theorem r_wr (S : SRs h t M k f c d B) {x : Nat} (hx : x ≤ 9) (h0 : 0 < x) (hn : 1 ≤ n) : ∃ h', E n 48 [.ref 189, .int (nI x)] h = some (none, h') ∧ Fr [3595, 3596] [] h h' ∧ SRs h' t M k (if f = 0 then fX t x k else f) c d B := by
  obtain ⟨m, rfl⟩ : ∃ m, n = m + 1 := ⟨n - 1, by omega⟩
  obtain ⟨h', a1, a2, a3⟩ := r_wrong (d := m) S.1 S.2.2.1 hx h0
  exact ⟨h', a1, a2.wk (by decide) (by decide), S.mv (a2.wk (by decide) (by decide)) a3⟩
/-- one token on -/
theorem r_up (S : SRs h t M k 0 c d B) (q : lk t k ≠ 0) : gI h 3595 189 = nI k ∧ PW h (sI h 3595 189 (nI (k + 1))) B c [] ∧ SRs (sI h 3595 189 (nI (k + 1))) t M (k + 1) 0 c d B := by
  have fr : Fr [3595] [] h (sI h 3595 189 (nI (k + 1))) := Fr.rfl.sI (by decide)
  exact ⟨(S.2.2.1.at rfl).1, PW.of fr (by decide), S.mv (fr.wk (by decide) (by decide)) (S.2.2.1.up rfl fun z => q (lk_0.mpr z))⟩
theorem r_W (S : SRs h t M k f c d B) {j w : Nat} (hj : j < 44) (hw : wLn.getD j 0 = w) (hn : 1 ≤ n) : E n 45 [.ref 189, .int (nI w)] h = some (some (.int (nI (if f = 0 ∧ lk t k = 128 + j then 1 else 0))), h) := by
  obtain ⟨m, rfl⟩ : ∃ m, n = m + 1 := ⟨n - 1, by omega⟩
  exact r_isL S.1 S.2.1 S.2.2.1 hj hw
theorem r_G (S : SRs h t M k f c d B) {x : Nat} (h6 : 6 ≤ x) (h2 : x < 128) (hn : 1 ≤ n) : E n 58 [.ref 189, .int (nI x)] h = some (some (.int (nI (if f = 0 ∧ lk t k = x then 1 else 0))), h) := by
  obtain ⟨m, rfl⟩ : ∃ m, n = m + 1 := ⟨n - 1, by omega⟩
  exact r_isG S.1 S.2.2.1 h6 h2
theorem r_R (S : SRs h t M k f c d B) {a m v : Nat} (hv : v = 4 ∧ a = 18 ∧ m = 9 ∨ v = 5 ∧ a = 24 ∧ m = 3) (hn : 1 ≤ n) : E n 136 [.ref 189, .int (nI a), .int (nI m)] h = some (some (.int (if f = 0 ∧ lk t k = v then nI (lkV t k) else -1)), h) := by
  obtain ⟨m, rfl⟩ : ∃ m, n = m + 1 := ⟨n - 1, by omega⟩
  exact r_reg S.1 S.2.2.1 hv
/-- a word, and on if it is there -/
theorem r_hw (S : SRs h t M k f c d B) {j w : Nat} (hj : j < 44) (hw : wLn.getD j 0 = w) (hn : 2 ≤ n) : ∃ h', E n 55 [.ref 189, .int (nI w)] h = some (some (.int (nI (if f = 0 ∧ lk t k = 128 + j then 1 else 0))), h') ∧ PW h h' B c [] ∧ SRs h' t M (if lk t k = 128 + j then k + 1 else k) f c d B := by
  obtain ⟨m, rfl⟩ : ∃ m, n = m + 2 := ⟨n - 2, by omega⟩
  have wb : ∀ j, j < 44 → wLn.getD j 0 < 74 := by decide
  obtain ⟨h', a1, a2, a3⟩ := r_hW (d := m) S.1 S.2.1 S.2.2.1 (w := w) (by rw [← hw]; exact wb j hj)
  rw [← hw] at a1 a3
  simp only [← lk_wd (t := t) (k := k) hj] at a1 a3
  rw [← hw]
  exact ⟨h', a1, PW.of a2 (by decide), S.mv a2 a3⟩
end SRO
