/-! ===== RUN: the two machines side by side ===== -/
/-- tape, book, numbers (0 the script's cell, 1 the book's, 2 the reference's side of books, 3 the office, 4 the limit, 5 the side of codes, 6 items, 7 the clock, 8 depth), G and Cp as it began, the two heaps as it began -/
abbrev CXm : Type := Tp × Bk × (Nat → Nat) × (Nat → Nat → Nat) × (Nat → Nat → Nat) × AH × AH
def kT (c : CXm) : Tp := c.1
def kB (c : CXm) : Bk := c.2.1
def kn (c : CXm) : Nat → Nat := c.2.2.1
def kG (c : CXm) : Nat → Nat → Nat := c.2.2.2.1
def kC (c : CXm) : Nat → Nat → Nat := c.2.2.2.2.1
def hC (c : CXm) : AH := c.2.2.2.2.2.1
def hR (c : CXm) : AH := c.2.2.2.2.2.2
abbrev KMc : List Nat := [1545, 1547, 1548, 1549, 1551, 1552, 1553, 1554, 1555]
abbrev XMc : List Nat := [176, 177, 178, 179, 180, 181, 182]
abbrev KMr : List Nat := [3717, 3718, 3719, 3720, 3721, 3723, 3724, 3731, 3732, 3733, 3734]
abbrev XMr : List Nat := [282, 283, 284, 285, 286, 287, 288, 289, 290, 291, 292, 293, 294]
abbrev KRn : List Nat := [3678, 3679, 3680, 3717, 3718, 3719, 3720, 3721, 3723, 3724, 3731, 3732, 3733, 3734]
abbrev XRn : List Nat := [248, 249, 250, 253, 254, 255, 256, 257, 262, 263, 264, 282, 283, 284, 285, 286, 287, 288, 289, 290, 291, 292, 293, 294]
/-- what the component changes in a run -/
abbrev GFm (h h' : AH) : Prop := GF (fun k _ => k ∈ KC ∨ k ∈ KMc ∨ k = 2059 ∨ k = 2060) (fun k _ => k = 257) (fun _ => True) (fun x => 168 ≤ x ∧ x ≤ 170 ∨ 176 ≤ x ∧ x ≤ 182) h h'
def itv (n : Nat) (w : Int32) : Prop := w = -1 ∨ ∃ i, i < n ∧ w = nI i
/-- a tray on both sides; ty: which places are of items; p places in all; mk makes -/
def TRr (hc hr : AH) (ty : Nat → Bool) (p mk t : Nat) : Prop := gA hc 178 t = nI 0 ∧ gA hr 284 t = -1 ∨ ∃ k f z m q, 1 ≤ k ∧ k ≤ 12 ∧ gA hc 178 t = nI k ∧ gA hc 179 t = nI f ∧ gA hc 180 t = nI z ∧ gA hc 181 t = nI m ∧ gA hr 284 t = nI q ∧ q < 13 ∧ gA hr 285 q = nI k ∧ gA hr 286 q = nI f ∧ gA hr 287 q = nI z ∧ f + z ≤ p ∧ m < mk ∧ ∀ j, j < z → ty (f + j) = decide (9 ≤ k)
/-- the counts: steps of the run, of all, places of the run, of all, makes, refusals -/
def MRn (hc hr : AH) (a1 a2 p1 p2 mk rf : Nat) : Prop := gI hc 1549 175 = nI a1 ∧ gI hr 3720 189 = nI a1 ∧ a1 ≤ 20000 ∧ gI hc 1553 175 = nI a2 ∧ gI hr 3719 189 = nI a2 ∧ a2 ≤ 200000 ∧ gI hc 1551 175 = nI p1 ∧ gI hr 3717 189 = nI p1 ∧ p1 ≤ 2000 ∧ gI hc 1554 175 = nI p2 ∧ gI hr 3718 189 = nI p2 ∧ p2 ≤ 200000 ∧ gI hc 1552 175 = nI mk ∧ mk ≤ a1 ∧ gI hc 1555 175 = nI rf ∧ gI hr 3721 189 = nI rf ∧ rf ≤ 4000
def MRl (hc hr : AH) (ni : Nat) (ty : Nat → Bool) (a1 a2 p1 p2 mk rf : Nat) : Prop :=
  (∀ i, i < 10 → gB hc 176 i = gB hr 282 i) ∧ (∀ i, i < 4 → gA hc 177 i = gA hr 283 i ∧ itv ni (gA hc 177 i)) ∧ (∀ i, i < 2000 → gB hc 182 i = gB hr 288 i) ∧ (∀ i, i < p1 → ty i = true → ∃ w, itv ni w ∧ gB hc 182 i = w.toInt64) ∧ MRn hc hr a1 a2 p1 p2 mk rf ∧
  (∀ t, t < 12 → TRr hc hr ty p1 mk t) ∧ ∀ t t', t < 12 → t' < 12 → gA hc 178 t ≠ nI 0 → gA hc 178 t' ≠ nI 0 → (gA hc 181 t = gA hc 181 t' ↔ gA hr 284 t = gA hr 284 t')
/-- the office's state, on both sides -/
def PSt (c : CXm) (hc hr : AH) (s : St) (G Cp : Nat → Nat → Nat) : Prop := CSt hc (kn c 1) (kB c) s G Cp ∧ WS (kB c) s ∧ capB (kB c) s Cp ∧ CY hc (kB c) ∧ RS hr s ∧ RY hr (kB c) ∧ RM (hC c) (kC c) hc Cp ∧ (∀ k, k ≠ 9 → G k = kG c k) ∧ zN s 2 = kn c 6 ∧ zN s 0 = kn c 7
def CRm (c : CXm) (hc hr : AH) : Prop := GFm (hC c) hc ∧ Fr KRn XRn (hR c) hr ∧ (∃ s G Cp, PSt c hc hr s G Cp) ∧ ∃ ty a1 a2 p1 p2 mk rf, a1 ≤ kn c 4 ∧ MRl hc hr (kn c 6) ty a1 a2 p1 p2 mk rf
/-- what holds as it begins -/
def KXs (c : CXm) : Prop := Sh (hC c) ∧ Sh (hR c) ∧ WB (kB c) ∧ scX (kn c 0) ∧ Scr (hC c) (kn c 0) (kT c) ∧ gR (hC c) 1544 175 = some (kn c 0) ∧ gI (hC c) 1546 175 = nI (kn c 3) ∧ gI (hC c) 1550 175 = nI (kn c 4) ∧ kn c 3 < kB c 0 0 ∧ kn c 4 ≤ 20000 ∧ gI (hR c) 3597 189 = nI (kn c 2) ∧ kn c 2 ≤ 1 ∧ RB (hR c) (kn c 2) (kB c) ∧ gI (hR c) 3725 189 = nI (kn c 4) ∧ gI (hR c) 3726 189 = nI (kn c 3) ∧ gI (hR c) 3696 189 = nI (kn c 5) ∧ kn c 5 ≤ 1 ∧ kn c 7 < 2 ^ 29 ∧ (kT c).1 ≤ 4000
/-- the reference's loop; the reference as a refusal comes -/
noncomputable def LPm (c : CXm) (h : AH) : Option Ot := Q (kn c 8 + 20) 151 78 [some (.ref 189), none, none, none] [] h
def LPq (c : CXm) (hr : AH) (e : Nat) (w : Int64) (hr' : AH) : Prop := ∀ h2, Sh h2 → gI h2 3733 189 = gI hr' 3733 189 → E 2 157 [.ref 189, .int (nI e), .long w] hr' = some (none, h2) → LPm c hr = LPm c h2
/-- the handlers below D are what they were; the steps have not become fewer -/
def HF (D : Nat) (h h' : AH) : Prop := ix (gI h 3720 189) ≤ ix (gI h' 3720 189) ∧ ∀ j, j < D → gA h' 290 j = gA h 290 j ∧ gA h' 291 j = gA h 291 j ∧ gA h' 292 j = gA h 292 j ∧ gB h' 293 j = gB h 293 j
theorem HF.rf {D : Nat} {h : AH} : HF D h h := ⟨Nat.le_refl _, fun _ _ => ⟨rfl, rfl, rfl, rfl⟩⟩
theorem HF.tr {D : Nat} {h h1 h2 : AH} (a : HF D h h1) (b : HF D h1 h2) : HF D h h2 := ⟨Nat.le_trans a.1 b.1, fun j hj => by
  obtain ⟨a1, a2, a3, a4⟩ := a.2 j hj
  obtain ⟨b1, b2, b3, b4⟩ := b.2 j hj
  exact ⟨b1.trans a1, b2.trans a2, b3.trans a3, b4.trans a4⟩⟩
theorem HF.lo {D D' : Nat} {h h1 : AH} (a : HF D h h1) (q : D' ≤ D) : HF D' h h1 := ⟨a.1, fun j hj => a.2 j (by omega)⟩
theorem HF.st {K X : List Nat} {D : Nat} {h h1 : AH} (f : Fr K X h h1) (q : 290 ∉ X ∧ 291 ∉ X ∧ 292 ∉ X ∧ 293 ∉ X) (le : ix (gI h 3720 189) ≤ ix (gI h1 3720 189)) : HF D h h1 := ⟨le, fun j _ => by
  rw [f.A q.1, f.A q.2.1, f.A q.2.2.1, f.B q.2.2.2]; exact ⟨rfl, rfl, rfl, rfl⟩⟩
theorem HF.of {K X : List Nat} {D : Nat} {h h1 : AH} (f : Fr K X h h1) (q : 3720 ∉ K ∧ 290 ∉ X ∧ 291 ∉ X ∧ 292 ∉ X ∧ 293 ∉ X) : HF D h h1 := HF.st f q.2 (by rw [f.I q.1]; exact Nat.le_refl _)
/-- both stand: no refusal; the component at token k, the reference at code p, its pile has T values, D tries are open -/
def Gs (c : CXm) (D T p k : Nat) (hc hr : AH) : Prop := CRm c hc hr ∧ gI hc 1547 175 = nI 0 ∧ gI hc 1545 175 = nI k ∧ gI hr 3724 189 = nI p ∧ gI hr 3723 189 = nI T ∧ gI hr 3731 189 = nI D ∧ gI hr 3732 189 = -1
/-- the run's steps have not become fewer -/
def stp1 (h h' : AH) : Prop := ix (gI h 1549 175) ≤ ix (gI h' 1549 175)
/-- something has ended it: e; the reference comes to the same, from hr on -/
def Dd (c : CXm) (D : Nat) (hc' hr : AH) : Prop := ∃ e, gI hc' 1547 175 = nI e ∧ 1 ≤ e ∧ e ≤ 12 ∧ ∃ hr', CRm c hc' hr' ∧
  ((e ≤ 9 ∨ e = 12) ∧ (∃ w, LPq c hr (if e = 12 then 20 else e) w hr' ∧ (e = 9 → w = gL hc' 1548 175) ∧ gI hr' 3731 189 = nI D ∧ HF D hr hr' ∧ gI hr' 3723 189 = nI 0 ∧ gI hr' 3732 189 = -1) ∨ (e = 10 ∨ e = 11) ∧ LPm c hr = some (some (.int (nI e)), hr'))
theorem Dd.pre {c : CXm} {D : Nat} {hc' hr hr0 : AH} (a : Dd c D hc' hr) (e : LPm c hr0 = LPm c hr) (f : HF D hr0 hr) : Dd c D hc' hr0 := by
  obtain ⟨x, x1, x2, x3, hr', x4, x5⟩ := a
  refine ⟨x, x1, x2, x3, hr', x4, ?_⟩
  rcases x5 with ⟨y1, w, y2, y3, y4, y5, y6⟩ | ⟨y1, y2⟩
  · exact Or.inl ⟨y1, w, fun h2 q0 q1 q => e.trans (y2 h2 q0 q1 q), y3, y4, f.tr y5, y6⟩
  · exact Or.inr ⟨y1, e.trans y2⟩
section MCH
variable {c : CXm} {hc hr hc' hr' : AH} {K X : List Nat}
theorem MRl.frC {ni a1 a2 p1 p2 mk rf : Nat} {ty : Nat → Bool} (m : MRl hc hr ni ty a1 a2 p1 p2 mk rf) (f : Fr K X hc hc') (hK : ∀ k, k ∈ [1549, 1551, 1552, 1553, 1554, 1555] → k ∉ K) (hX : ∀ x, x ∈ XMc → x ∉ X) : MRl hc' hr ni ty a1 a2 p1 p2 mk rf := by
  unfold MRl MRn TRr at m ⊢
  rw [f.B (hX 176 (by decide)), f.A (hX 177 (by decide)), f.A (hX 178 (by decide)), f.A (hX 179 (by decide)), f.A (hX 180 (by decide)), f.A (hX 181 (by decide)), f.B (hX 182 (by decide)), f.I (hK 1549 (by decide)), f.I (hK 1551 (by decide)), f.I (hK 1552 (by decide)), f.I (hK 1553 (by decide)), f.I (hK 1554 (by decide)), f.I (hK 1555 (by decide))]
  exact m
theorem MRl.frR {ni a1 a2 p1 p2 mk rf : Nat} {ty : Nat → Bool} (m : MRl hc hr ni ty a1 a2 p1 p2 mk rf) (f : Fr K X hr hr') (hK : ∀ k, k ∈ [3717, 3718, 3719, 3720, 3721] → k ∉ K) (hX : ∀ x, x ∈ [282, 283, 284, 285, 286, 287, 288] → x ∉ X) : MRl hc hr' ni ty a1 a2 p1 p2 mk rf := by
  unfold MRl MRn TRr at m ⊢
  rw [f.B (hX 282 (by decide)), f.A (hX 283 (by decide)), f.A (hX 284 (by decide)), f.A (hX 285 (by decide)), f.A (hX 286 (by decide)), f.A (hX 287 (by decide)), f.B (hX 288 (by decide)), f.I (hK 3717 (by decide)), f.I (hK 3718 (by decide)), f.I (hK 3719 (by decide)), f.I (hK 3720 (by decide)), f.I (hK 3721 (by decide))]
  exact m
theorem CY.fr {bk : Bk} (Y : CY hc bk) (f : Fr K X hc hc') (h1 : 2059 ∉ K) (h2 : 2060 ∉ K) (h3 : 168 ∉ X) (h4 : 169 ∉ X) : CY hc' bk := by
  unfold CY at Y ⊢
  rw [f.I h1, f.I h2, f.A h3, f.A h4]; exact Y
theorem RY.fr {bk : Bk} (Y : RY hr bk) (f : Fr K X hr hr') (h1 : 3679 ∉ K) (h2 : 3680 ∉ K) (h3 : 262 ∉ X) (h4 : 263 ∉ X) : RY hr' bk := by
  unfold RY RV at Y ⊢
  rw [f.I h1, f.I h2, f.A h3, f.A h4]; exact Y
theorem Fr.gfm (f : Fr K X hc hc') (hK : ∀ k, k ∈ K → k ∈ KC ∨ k ∈ KMc ∨ k = 2059 ∨ k = 2060) (hX : ∀ x, x ∈ X → 168 ≤ x ∧ x ≤ 170 ∨ 176 ≤ x ∧ x ≤ 182) : GFm hc hc' := by
  obtain ⟨a1, a2, a3, a4, a5, a6, a7, a8, a9⟩ := f
  have e1 : gN hc' = gN hc := congrArg (fun p : Nat × Nat => p.1) a1
  have e2 : gS hc' = gS hc := congrArg (fun p : Nat × Nat => p.2) a1
  exact ⟨⟨by omega, by omega⟩, fun x _ => ⟨by rw [a2], by rw [a3]⟩, fun k x _ q => by rw [a6 k fun w => q (hK k w)], fun k x _ q => by rw [a7 k fun w => q (hK k w)], fun k x _ _ => by rw [a4], fun x _ q => ⟨by rw [a8 x fun w => q (hX x w)], by rw [a9 x fun w => q (hX x w)]⟩, fun x _ _ => by rw [a5]⟩
/-- the machine's own words change: the office's state is what it was -/
theorem PSt.frC {s : St} {G Cp : Nat → Nat → Nat} (p : PSt c hc hr s G Cp) (f : Fr KMc XMc hc hc') : PSt c hc' hr s G Cp := by
  obtain ⟨p1, p2, p3, p4, p5, p6, p7, p8⟩ := p
  refine ⟨p1.fr f (by decide) (by decide) (fun _ => rfl) (p1.2.2.2.2.1.fr f (by decide)), p2, p3, p4.fr f (by decide) (by decide) (by decide) (by decide), p5, p6, p7.trans (RM.rfl f.1), p8⟩
theorem PSt.frR {s : St} {G Cp : Nat → Nat → Nat} (p : PSt c hc hr s G Cp) (f : Fr KMr XMr hr hr') : PSt c hc hr' s G Cp := by
  obtain ⟨p1, p2, p3, p4, p5, p6, p7, p8⟩ := p
  exact ⟨p1, p2, p3, p4, p5.fr f (by decide) (by decide), p6.fr f (by decide) (by decide) (by decide) (by decide), p7, p8⟩
/-- words that the relation does not speak of -/
theorem CRm.frC (r : CRm c hc hr) (f : Fr [1545, 1547, 1548] [] hc hc') : CRm c hc' hr := by
  obtain ⟨r1, r2, ⟨s, G, Cp, r3⟩, ty, a1, a2, p1, p2, mk, rf, m0, m⟩ := r
  exact ⟨r1.trans (f.gfm (by decide) (fun x q => absurd q List.not_mem_nil)), r2, ⟨s, G, Cp, r3.frC (f.wk (by decide) (fun x q => absurd q List.not_mem_nil))⟩, ty, a1, a2, p1, p2, mk, rf, m0, m.frC f (by decide) (fun x _ => List.not_mem_nil)⟩
abbrev KRo : List Nat := [3723, 3724, 3731, 3732, 3733, 3734]
abbrev XRo : List Nat := [289, 290, 291, 292, 293, 294]
theorem CRm.frR (r : CRm c hc hr) (f : Fr KRo XRo hr hr') : CRm c hc hr' := by
  obtain ⟨r1, r2, ⟨s, G, Cp, r3⟩, ty, a1, a2, p1, p2, mk, rf, m0, m⟩ := r
  exact ⟨r1, r2.trans (f.wk (by decide) (by decide)), ⟨s, G, Cp, r3.frR (f.wk (by decide) (by decide))⟩, ty, a1, a2, p1, p2, mk, rf, m0, m.frR f (by decide) (by decide)⟩
theorem CRm.shC (r : CRm c hc hr) : Sh hc := by
  obtain ⟨-, -, ⟨s, G, Cp, r3⟩, -⟩ := r
  exact r3.1.1
theorem CRm.shR (r : CRm c hc hr) (k : KXs c) : Sh hr := r.2.1.sh k.2.1
/-- dead: only the place changes -/
theorem Dd.frC {D : Nat} (a : Dd c D hc hr) (f : Fr [1545] [] hc hc') : Dd c D hc' hr := by
  obtain ⟨x, x1, x2, x3, hr', x4, x5⟩ := a
  refine ⟨x, by rw [f.I (by decide)]; exact x1, x2, x3, hr', x4.frC (f.wk (by decide) (fun _ q => q)), ?_⟩
  rcases x5 with ⟨y1, w, y2, y3, y6⟩ | y
  · exact Or.inl ⟨y1, w, y2, fun z => by rw [f.L (by decide)]; exact y3 z, y6⟩
  · exact Or.inr y
theorem Dd.ne {D : Nat} (a : Dd c D hc hr) : gI hc 1547 175 ≠ nI 0 := by
  obtain ⟨x, x1, x2, x3, -⟩ := a
  rw [x1]; exact fun z => by have := (nI_eq (a := x) (b := 0) (by omega) (by decide)).mp z; omega
theorem Dd.shC {D : Nat} (a : Dd c D hc hr) : Sh hc := by
  obtain ⟨x, x1, x2, x3, hr', x4, x5⟩ := a
  exact x4.shC
theorem Gs.atC {D T p k k' : Nat} (g : Gs c D T p k hc hr) : Gs c D T p k' (sI hc 1545 175 (nI k')) hr := by
  obtain ⟨g1, g2, g3, g4, g5, g6, g7⟩ := g
  exact ⟨g1.frC (Fr.rfl.sI (by decide)), by rw [gI_k (by decide)]; exact g2, gI_s, g4, g5, g6, g7⟩
theorem stp1.rf : stp1 hc hc := Nat.le_refl _
theorem stp1.tr {h h1 h2 : AH} (a : stp1 h h1) (b : stp1 h1 h2) : stp1 h h2 := Nat.le_trans a b
theorem stp1.of (f : Fr K X hc hc') (h : 1549 ∉ K) : stp1 hc hc' := by unfold stp1; rw [f.I h]; exact Nat.le_refl _
/-- the steps, on both sides -/
theorem CRm.sts (r : CRm c hc hr) : gI hr 3720 189 = gI hc 1549 175 := by
  obtain ⟨r1, r2, r3, ty, a1, a2, p1, p2, mk, rf, m0, mm⟩ := r
  rw [mm.2.2.2.2.1.1, mm.2.2.2.2.1.2.1]
end MCH
