/-! ===== RUN: statements on both sides: steps, jumps; what is told of blocks ===== -/
section STP
variable {c : CXm} {M N d k k' k1 D p n m a : Nat} {hc hr hc1 hr1 : AH} {L L1 L2 : Cds}
/-- a step begins -/
theorem b_stp (K : KXs c) (g : Gs c D 0 p k hc hr) (h4 : p < 4400) {y : Int32} (A : AT (hR c) (4400 * kn c 5 + p) [(nI 38, y)]) (hn : 1 ≤ n) :
    (∃ hc' hr', E n 329 [.ref 175] hc = some (some (.int (nI 1)), hc') ∧ LPm c hr = LPm c hr' ∧ Gs c D 0 (p + 1) k hc' hr' ∧ HF D hr hr' ∧ Fr [1549, 1553] [] hc hc' ∧ ix (gI hc' 1549 175) = ix (gI hc 1549 175) + 1 ∧ ix (gI hc' 1549 175) ≤ kn c 4) ∨
    ∃ hc', E n 329 [.ref 175] hc = some (some (.int (nI 0)), hc') ∧ Dd c D hc' hr := by
  have sr := g.sR K
  have sf : Sh (fet hr p) := fet_fr.sh sr
  have ff : Fr [3724, 3733] [] hr (fet hr p) := fet_fr
  have rf : CRm c hc (fet hr p) := g.1.frR (ff.wk (by decide) (fun _ q => absurd q List.not_mem_nil))
  rcases stp_b (n := n) (m := kn c 8 + 18) K rf (by rw [ff.I (by decide)]; exact g.2.2.2.2.2.2) hn (by omega) with ⟨hc', h1, y1, y2, y3, y4, y5, y6, y7⟩ | ⟨hc', h1, y1, y2, y3, y4, y5, y6, y7⟩
  · have t1 := y3.shR K
    have eR : E (kn c 8 + 20) 152 [.ref 189, .int (nI 38), .int y] (fet hr p) = some (none, h1) := by
      rw [o_152d sf (by decide), t_153 sf, if_pos rfl, y2, cK_v, t_153_44 t1, cK_n, t_152_12 t1, t_152_65 t1]
    have fo : Fr [3724, 3733, 3719, 3720] [] hr h1 := (ff.wk (by decide) (fun _ q => q)).trans (y5.wk (by decide) (fun _ q => q))
    refine Or.inl ⟨hc', h1, y1, LP_ok K g h4 A eR t1 (by rw [y5.I (by decide)]; exact fet_c), ⟨y3, by rw [y4.I (by decide)]; exact g.2.1, by rw [y4.I (by decide)]; exact g.2.2.1, by rw [y5.I (by decide)]; exact fet_p, by rw [y5.I (by decide)]; exact g.fT, by rw [fo.I (by decide)]; exact g.2.2.2.2.2.1, by rw [fo.I (by decide)]; exact g.2.2.2.2.2.2⟩, HF.st fo (by decide) (by rw [y3.sts, g.1.sts]; omega), y4, y6, y7⟩
  · have t1 := y3.shR K
    have eR : E (kn c 8 + 20) 152 [.ref 189, .int (nI 38), .int y] (fet hr p) = some (none, h1) := by
      rw [o_152d sf (by decide), t_153 sf, if_pos rfl, y2, cK_v, t_153_44 t1, cK_n, t_152_12 t1, t_152_65 t1]
    refine Or.inr ⟨hc', y1, 10, y6, by decide, by decide, h1, y3, Or.inr ⟨Or.inl rfl, ?_⟩⟩
    rw [LP_go g.1 K g.2.2.2.2.2.2 g.2.2.2.1 h4 A]
    show cK (E (kn c 8 + 20) 152 [.ref 189, .int (nI 38), .int y] (fet hr p)) _ [] = _
    rw [eR, LP_nx t1 (by rw [y5.I (by decide)]; exact fet_c), LP_end t1 (by decide) y7]
/-- a jump -/
theorem b_jmp (K : KXs c) (g : Gs c D 0 p k hc hr) (h4 : p < 4400) (A : AT (hR c) (4400 * kn c 5 + p) [(nI 39, nI a)]) : ∃ hr', LPm c hr = LPm c hr' ∧ Gs c D 0 a k hc hr' ∧ HF D hr hr' := by
  have sr := g.sR K
  have sf : Sh (fet hr p) := fet_fr.sh sr
  obtain ⟨h1, hE⟩ : ∃ h1, h1 = sI (fet hr p) 3724 189 (nI a) := ⟨_, rfl⟩
  have f1 : Fr [3724, 3733] [] hr h1 := by rw [hE]; exact fet_fr.sI (by decide)
  have s1 := f1.sh sr
  have eR : E (kn c 8 + 20) 152 [.ref 189, .int (nI 39), .int (nI a)] (fet hr p) = some (none, h1) := by
    rw [o_152d sf (by decide), t_153 sf, if_neg (by decide), if_pos rfl, ← hE, cK_n, t_152_12 s1, t_152_65 s1]
  exact ⟨h1, LP_ok K g h4 A eR s1 (by rw [hE, gI_k (by decide)]; exact fet_c), ⟨g.1.frR (f1.wk (by decide) (fun _ q => absurd q List.not_mem_nil)), g.2.1, g.2.2.1, by rw [hE, gI_s], by rw [f1.I (by decide)]; exact g.2.2.2.2.1, by rw [f1.I (by decide)]; exact g.2.2.2.2.2.1, by rw [f1.I (by decide)]; exact g.2.2.2.2.2.2⟩, HF.of f1 (by decide)⟩
/-- a jump unless -/
theorem b_unl (K : KXs c) {x : Int64} (g : Gs c D 1 p k hc hr) (v : gB hr 289 0 = x) (h4 : p < 4400) (A : AT (hR c) (4400 * kn c 5 + p) [(nI 40, nI a)]) : ∃ hr', LPm c hr = LPm c hr' ∧ Gs c D 0 (if x = 0 then a else p + 1) k hc hr' ∧ HF D hr hr' := by
  have sr := g.sR K
  have sf : Sh (fet hr p) := fet_fr.sh sr
  obtain ⟨h0, hE0⟩ : ∃ h0, h0 = sI (fet hr p) 3723 189 (nI 0) := ⟨_, rfl⟩
  have f0 : Fr [3723, 3724, 3733] [] hr h0 := by rw [hE0]; exact (fet_fr.wk (by decide) (fun _ q => q)).sI (by decide)
  have s0 := f0.sh sr
  have q0 : gI h0 3724 189 = nI (p + 1) := by rw [hE0, gI_k (by decide)]; exact fet_p
  obtain ⟨h1, hE⟩ : ∃ h1, h1 = sI h0 3724 189 (nI (if x = 0 then a else p + 1)) := ⟨_, rfl⟩
  have f1 : Fr [3723, 3724, 3733] [] hr h1 := by rw [hE]; exact f0.sI (by decide)
  have s1 := f1.sh sr
  have eR : E (kn c 8 + 20) 152 [.ref 189, .int (nI 40), .int (nI a)] (fet hr p) = some (none, h1) := by
    rw [o_152d sf (by decide), t_153 sf, if_neg (by decide), if_neg (by decide), if_pos rfl, rm_pop sf (by omega) (show gI (fet hr p) 3723 189 = nI (0 + 1) from g.fT) (by decide), cK_v, gB_fet, v, ← hE0, t_153_61 s0]
    simp only [c_eq]
    by_cases z : x = 0
    · rw [if_pos z] at hE
      rw [if_pos z, ck_ok (k189 s0), ← hE, cK_n, t_152_12 s1, t_152_65 s1]
    · rw [if_neg z] at hE
      rw [if_neg z, ck_ok (k189 s0), q0, ← hE, cK_n, t_152_12 s1, t_152_65 s1]
  exact ⟨h1, LP_ok K g h4 A eR s1 (by rw [hE, gI_k (by decide), hE0, gI_k (by decide)]; exact fet_c), ⟨g.1.frR (f1.wk (by decide) (fun _ q => absurd q List.not_mem_nil)), g.2.1, g.2.2.1, by rw [hE, gI_s], by rw [hE, gI_k (by decide), hE0, gI_s], by rw [f1.I (by decide)]; exact g.2.2.2.2.2.1, by rw [f1.I (by decide)]; exact g.2.2.2.2.2.2⟩, HF.of f1 (by decide)⟩
/-- what a block comes to: the component stands behind it in any case -/
def StB (c : CXm) (q : Option Ot) (hc hr : AH) (D p k : Nat) : Prop := ∃ hc', q = some (none, hc') ∧ gI hc' 1545 175 = nI k ∧ ((stp1 hc hc' ∧ ∃ hr', LPm c hr = LPm c hr' ∧ Gs c D 0 p k hc' hr' ∧ HF D hr hr') ∨ Dd c D hc' hr)
theorem StB.pre {q : Option Ot} {hc0 hr0 : AH} (a : StB c q hc hr D p k) (b : stp1 hc0 hc) (e : LPm c hr0 = LPm c hr) (hf : HF D hr0 hr) : StB c q hc0 hr0 D p k := by
  obtain ⟨hc', a1, a0, a3⟩ := a
  refine ⟨hc', a1, a0, ?_⟩
  rcases a3 with ⟨a2, hr', b1, b2, b3⟩ | b1
  · exact Or.inl ⟨b.tr a2, hr', e.trans b1, b2, hf.tr b3⟩
  · exact Or.inr (b1.pre e hf)
/-- the places of tries and ons -/
def TBl (c : CXm) (y o : Nat) (Y O : C3) : Prop := T3 (hR c) 276 (820 * kn c 5 + y) Y ∧ T3 (hR c) 279 (700 * kn c 5 + o) O ∧ y + Y.length ≤ 820 ∧ o + O.length ≤ 700
theorem TBl.l {y o : Nat} {Y1 Y2 O1 O2 : C3} (t : TBl c y o (Y1 ++ Y2) (O1 ++ O2)) : TBl c y o Y1 O1 := by
  obtain ⟨a, b, e, f⟩ := t
  rw [List.length_append] at e f
  exact ⟨(T3_app.mp a).1, (T3_app.mp b).1, by omega, by omega⟩
theorem TBl.r {y o : Nat} {Y1 Y2 O1 O2 : C3} (t : TBl c y o (Y1 ++ Y2) (O1 ++ O2)) : TBl c (y + Y1.length) (o + O1.length) Y2 O2 := by
  obtain ⟨a, b, e, f⟩ := t
  rw [List.length_append] at e f
  exact ⟨by rw [← Nat.add_assoc]; exact (T3_app.mp a).2, by rw [← Nat.add_assoc]; exact (T3_app.mp b).2, by omega, by omega⟩
/-- nothing that the run may do reaches the tables of codes, tries, ons -/
theorem CRm.tA (r : CRm c hc hr) {x : Nat} (h1 : 274 ≤ x) (h2 : x ≤ 281) : gA hr x = gA (hR c) x := r.2.1.A (by simp only [List.mem_cons, List.not_mem_nil, or_false]; omega)
/-- from place x of the ons on, r is the first for e -/
def Fnd (c : CXm) (x : Int32) (e : Nat) (r : Int32) : Prop := ∀ h, Sh h → gA h 279 = gA (hR c) 279 → gA h 281 = gA (hR c) 281 → Q 0 158 7 [some (.ref 189), none, some (.int (nI e)), some (.int x)] [] h = some (some (.int r), h)
/-- the reference as on a begins -/
def hXo (h : AH) (D e : Nat) (w : Int64) (a : Nat) : AH := sI (sB (sA h 291 D (nI 1)) 282 9 (if e = 9 then w else (nI e).toInt64)) 3724 189 (gA h 280 a)
/-- what is told of rows of statements -/
def STm (c : CXm) (M N : Nat) : Prop := ∀ (tag d k k' T p y o : Nat) (L : Cds) (Y O : C3) (fi : Int32), CSx (kT c) (1 - kn c 5) N tag d k k' T p y o L Y O fi → ∀ (hc hr : AH) (D n : Nat), AT (hR c) (4400 * kn c 5 + p) L → TBl c y o Y O → p + L.length ≤ 4300 → D ≤ d + (if tag = 2 then 1 else 0) → d ≤ 20 → k ≤ M → 30 + 13 * (20 - d) ≤ n →
  (tag = 1 → Gs c D 0 p k hc hr → StO c (E (n + 10) 266 [.ref 175, .int (nI d)] hc) hc hr D (p + L.length) k') ∧
  (tag = 2 → Gs c D 0 p k hc hr → StB c (E n 373 [.ref 175, .int (nI d)] hc) hc hr D (p + L.length) k') ∧
  (tag = 0 → ∀ dd j, d = dd + 1 → j ≤ k → Gs c D 0 p k hc hr → StB c (Q (n + 10) 373 39 [some (.ref 175), some (.int (nI dd)), some (.int (nI k')), some (.int (nI 1)), some (.int (nI j))] [] hc) hc hr D (p + L.length) (k' + 1)) ∧
  (tag = 12 → ∀ (j e : Nat) (w : Int64), 1 ≤ e → e ≤ 9 → j ≤ k → CRm c hc hr → gI hc 1547 175 = nI e → gI hc 1545 175 = nI k → (e = 9 → w = gL hc 1548 175) → gI hr 3731 189 = nI (D + 1) → gI hr 3732 189 = -1 → gI hr 3723 189 = nI 0 →
    ∃ hc', Q n 343 30 [some (.ref 175), some (.int (nI d)), some (.int (nI e)), some (.int (nI 1)), some (.int (nI j)), none] [] hc = cK (E n 328 [.ref 175] hc') (Q n 343 139 [some (.ref 175), some (.int (nI d)), none, none, none, none]) [] ∧ gI hc' 1545 175 = nI k' ∧
      ((Fr [1545] [] hc hc' ∧ Fnd c fi e (-1)) ∨ ∃ a, a < 1400 ∧ Fnd c fi e (nI a) ∧ ((stp1 hc hc' ∧ ∃ hr2 p2, LPm c (hXo hr D e w a) = LPm c hr2 ∧ Gs c (D + 1) 0 p2 k' hc' hr2 ∧ HF (D + 1) (hXo hr D e w a) hr2 ∧ AT (hR c) (4400 * kn c 5 + p2) [(nI 42, nI T)] ∧ p2 < 4300) ∨ Dd c (D + 1) hc' (hXo hr D e w a))))
end STP
