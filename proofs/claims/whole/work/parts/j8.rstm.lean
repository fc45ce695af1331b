/-! ===== PROGRAMMES: the reference writes statements: what stands where ===== -/
abbrev C3 : Type := List (Int32 × Int32 × Int32)
/-- the rows L stand in the arrays x, x + 1, x + 2 from place p on -/
def T3 (h : AH) (x p : Nat) (L : C3) : Prop := ∀ i, i < L.length → gA h x (p + i) = (L.getD i (0, 0, 0)).1 ∧ gA h (x + 1) (p + i) = (L.getD i (0, 0, 0)).2.1 ∧ gA h (x + 2) (p + i) = (L.getD i (0, 0, 0)).2.2
theorem T3.nil {h : AH} {x p : Nat} : T3 h x p [] := fun i hi => absurd hi (Nat.not_lt_zero _)
theorem g3_app (L1 L2 : C3) (i : Nat) : (L1 ++ L2).getD i (0, 0, 0) = if i < L1.length then L1.getD i (0, 0, 0) else L2.getD (i - L1.length) (0, 0, 0) := by
  by_cases q : i < L1.length
  · rw [if_pos q, List.getD_eq_getElem?_getD, List.getElem?_append_left q, ← List.getD_eq_getElem?_getD]
  · rw [if_neg q, List.getD_eq_getElem?_getD, List.getElem?_append_right (by omega), ← List.getD_eq_getElem?_getD]
theorem T3_app {h : AH} {x p : Nat} {L1 L2 : C3} : T3 h x p (L1 ++ L2) ↔ T3 h x p L1 ∧ T3 h x (p + L1.length) L2 := by
  constructor
  · intro a
    refine ⟨fun i hi => ?_, fun i hi => ?_⟩
    · have := a i (by rw [List.length_append]; omega)
      rw [g3_app, if_pos hi] at this; exact this
    · have := a (L1.length + i) (by rw [List.length_append]; omega)
      rw [g3_app, if_neg (by omega), show L1.length + i - L1.length = i by omega, show p + (L1.length + i) = p + L1.length + i by omega] at this
      exact this
  · rintro ⟨a, b⟩ i hi
    rw [List.length_append] at hi
    rw [g3_app]
    by_cases q : i < L1.length
    · rw [if_pos q]; exact a i q
    · rw [if_neg q]
      have := b (i - L1.length) (by omega)
      rw [show p + L1.length + (i - L1.length) = p + i by omega] at this
      exact this
theorem T3_one {h : AH} {x p : Nat} {a b c : Int32} : T3 h x p [(a, b, c)] ↔ gA h x p = a ∧ gA h (x + 1) p = b ∧ gA h (x + 2) p = c := by
  constructor
  · intro a; exact a 0 Nat.one_pos
  · rintro ⟨a, b⟩ i hi
    have : i = 0 := by
      have : i < 1 := hi
      omega
    subst this; exact ⟨a, b⟩
abbrev KPt : List Nat := [3595, 3596, 3697, 3708, 3701, 3702]
abbrev XPt : List Nat := [274, 275, 276, 277, 278, 279, 280, 281]
def FRg (mA : Nat → Nat → Prop) (h h' : AH) : Prop := Fr KPt XPt h h' ∧ ∀ x, 274 ≤ x → x ≤ 281 → ∀ i, ¬ mA x i → gA h' x i = gA h x i
theorem FRg.trans {mA : Nat → Nat → Prop} {h h1 h2 : AH} (a : FRg mA h h1) (b : FRg mA h1 h2) : FRg mA h h2 := ⟨a.1.trans b.1, fun x h1 h2 i q => (b.2 x h1 h2 i q).trans (a.2 x h1 h2 i q)⟩
theorem FRg.wk {mA mB : Nat → Nat → Prop} {h h1 : AH} (a : FRg mA h h1) (q : ∀ x i, mA x i → mB x i) : FRg mB h h1 := ⟨a.1, fun x h1 h2 i z => a.2 x h1 h2 i fun y => z (q x i y)⟩
theorem FRg.rf {mA : Nat → Nat → Prop} {h : AH} : FRg mA h h := ⟨Fr.rfl, fun _ _ _ _ _ => rfl⟩
theorem FRg.sA {mA : Nat → Nat → Prop} {h : AH} {x i : Nat} {v : Int32} (hx : x ∈ XPt) (q : mA x i) : FRg mA h (sA h x i v) := ⟨Fr.rfl.sA hx, fun y h1 h2 j z => by
  by_cases e : y = x
  · subst e
    rw [gA_s, up1_x (by intro w; subst w; exact z q)]
  · rw [gA_k e]⟩
theorem FRg.of {mA : Nat → Nat → Prop} {h h' : AH} {K : List Nat} (f : Fr K [] h h') (hK : ∀ k, k ∈ K → k ∈ KPt) : FRg mA h h' := ⟨f.wk hK (fun x q => absurd q List.not_mem_nil), fun x _ _ i _ => by rw [f.A List.not_mem_nil]⟩
/-- what may change: codes from c on, tries from y on, ons from o on, on the side sd -/
def mTs (sd c y o x i : Nat) : Prop := (x ≤ 275 ∧ 4400 * (1 - sd) + c ≤ i ∧ i < 4400 * (1 - sd) + 4400) ∨ (276 ≤ x ∧ x ≤ 278 ∧ 820 * (1 - sd) + y ≤ i ∧ i < 820 * (1 - sd) + 820) ∨ (279 ≤ x ∧ 700 * (1 - sd) + o ≤ i ∧ i < 700 * (1 - sd) + 700)
theorem mTs.up {sd c y o c' y' o' x i : Nat} (a : mTs sd c' y' o' x i) (hc : c ≤ c') (hy : y ≤ y') (ho : o ≤ o') : mTs sd c y o x i := by
  unfold mTs at a ⊢; omega
def SRt (h : AH) (t : Tp) (M k f c y o d sd : Nat) : Prop := SRs h t M k f c d (4400 * (1 - sd)) ∧ gI h 3701 189 = nI y ∧ gI h 3702 189 = nI o ∧ gI h 3696 189 = nI sd ∧ sd ≤ 1
section SRT
variable {h h1 h' : AH} {t : Tp} {M k f c y o d sd n : Nat}
theorem SRt.any (S : SRt h t M k f c y o d sd) (hf : f ≠ 0) (j : Nat) : SRt h t M j f c y o d sd := ⟨S.1.any hf j, S.2⟩
theorem SRt.kp (S : SRt h t M k f c y o d sd) {K X : List Nat} (fr : Fr K X h h') (hK : 3701 ∉ K ∧ 3702 ∉ K ∧ 3696 ∉ K) {k' f' c' d' : Nat} (S' : SRs h' t M k' f' c' d' (4400 * (1 - sd))) : SRt h' t M k' f' c' y o d' sd := ⟨S', by rw [fr.I hK.1]; exact S.2.1, by rw [fr.I hK.2.1]; exact S.2.2.1, by rw [fr.I hK.2.2]; exact S.2.2.2.1, S.2.2.2.2⟩
theorem kp3 : 3701 ∉ KPr ∧ 3702 ∉ KPr ∧ 3696 ∉ KPr := by decide
theorem SRt.ty (S : SRt h t M k f c y o d sd) : (nI 820) * ((nI 1) - (gI h 3696 189)) + (gI h 3701 189) = nI (820 * (1 - sd) + y) := by
  rw [S.2.2.2.1, S.2.1, pk_sub S.2.2.2.2, pk_mul, nI_add]
theorem SRt.on (S : SRt h t M k f c y o d sd) : (nI 700) * ((nI 1) - (gI h 3696 189)) + (gI h 3702 189) = nI (700 * (1 - sd) + o) := by
  rw [S.2.2.2.1, S.2.2.1, pk_sub S.2.2.2.2, pk_mul, nI_add]
/-- what writes codes only, among statements -/
theorem PW.fg {L : Cds} (S : SRt h t M k f c y o d sd) (a : PW h h' (4400 * (1 - sd)) c L) : FRg (mTs sd c y o) h h' := by
  refine ⟨a.1.wk (by decide) (by decide), fun x h1 h2 i q => ?_⟩
  by_cases e : x = 274 ∨ x = 275
  · have := a.2.1 i (by unfold mTs at q; omega)
    rcases e with e | e <;> subst e
    · exact this.1
    · exact this.2
  · rw [a.1.A (by simp only [List.mem_cons, List.not_mem_nil, or_false]; omega)]
/-- places that may change besides: they lie ahead -/
def exA (ex : Nat → Nat → Prop) (sd c y o : Nat) : Prop := ∀ x i, ex x i → (x ≤ 275 → i < 4400 * (1 - sd) + c) ∧ (276 ≤ x → x ≤ 278 → i < 820 * (1 - sd) + y) ∧ (279 ≤ x → i < 700 * (1 - sd) + o)
theorem exA.up {ex : Nat → Nat → Prop} {c' y' o' : Nat} (a : exA ex sd c y o) (hc : c ≤ c') (hy : y ≤ y') (ho : o ≤ o') : exA ex sd c' y' o' := fun x i q => by
  obtain ⟨a1, a2, a3⟩ := a x i q
  exact ⟨fun z => by have := a1 z; omega, fun z z2 => by have := a2 z z2; omega, fun z => by have := a3 z; omega⟩
def exN : Nat → Nat → Prop := fun _ _ => False
theorem exA.none : exA exN sd c y o := fun _ _ q => q.elim
/-- from h on: a statement's codes, tries, ons -/
def RTs (ex : Nat → Nat → Prop) (Ps : Nat → Cds → C3 → C3 → AH → Prop) (q : Option Ot) (h : AH) (t : Tp) (M be c y o d sd : Nat) (r : Nat × Nat) (tl : Nat) : Prop := ∃ h', q = some (none, h') ∧ FRg (fun x i => mTs sd c y o x i ∨ ex x i) h h' ∧
  (r.1 = 0 → ∃ L Y O, Ps r.2 L Y O h' ∧ be + L.length ≤ r.2 ∧ r.2 ≤ M ∧ AT h' (4400 * (1 - sd) + c) L ∧ T3 h' 276 (820 * (1 - sd) + y) Y ∧ T3 h' 279 (700 * (1 - sd) + o) O ∧ SRt h' t M r.2 0 (c + L.length) (y + Y.length) (o + O.length) d sd) ∧
  (r.1 ≠ 0 → ∃ c' y' o', c ≤ c' ∧ y ≤ y' ∧ o ≤ o' ∧ c' ≤ M + tl ∧ SRt h' t M r.2 r.1 c' y' o' d sd)
theorem RPo.rt {P : Nat → Cds → Prop} {q : Option Ot} {be d' tl : Nat} {r : Nat × Nat} (S : SRt h t M k f c y o d sd) (a : RPo P q h t M be c d' (4400 * (1 - sd)) r tl) : RTs exN (fun k' L Y O _ => P k' L ∧ Y = [] ∧ O = []) q h t M be c y o d' sd r tl := by
  obtain ⟨h', L, a1, a2, a3, a4⟩ := a
  have S' := S.kp a2.1.1 kp3 a2.2
  refine ⟨h', a1, (PW.fg S a2.1).wk fun x i q => Or.inl q, fun z => ⟨L, [], [], ⟨(a3 z).1, rfl, rfl⟩, (a3 z).2.1, (a3 z).2.2, a2.1.2.2, T3.nil, T3.nil, ?_⟩, fun z => ⟨c + L.length, y, o, by omega, Nat.le_refl _, Nat.le_refl _, a4 z, S'⟩⟩
  rw [z] at S'; exact S'
theorem AT.fg {mA : Nat → Nat → Prop} {p : Nat} {L : Cds} (a : AT h p L) (g : FRg mA h h') (q : ∀ i, i < L.length → ¬ mA 274 (p + i) ∧ ¬ mA 275 (p + i)) : AT h' p L := fun i hi => by
  rw [g.2 274 (by decide) (by decide) _ (q i hi).1, g.2 275 (by decide) (by decide) _ (q i hi).2]; exact a i hi
theorem T3.fg {mA : Nat → Nat → Prop} {x p : Nat} {L : C3} (a : T3 h x p L) (g : FRg mA h h') (hx : 274 ≤ x ∧ x ≤ 279) (q : ∀ i, i < L.length → ¬ mA x (p + i) ∧ ¬ mA (x + 1) (p + i) ∧ ¬ mA (x + 2) (p + i)) : T3 h' x p L := fun i hi => by
  rw [g.2 x (by omega) (by omega) _ (q i hi).1, g.2 (x + 1) (by omega) (by omega) _ (q i hi).2.1, g.2 (x + 2) (by omega) (by omega) _ (q i hi).2.2]; exact a i hi
theorem AT.kp {ex : Nat → Nat → Prop} {L : Cds} {y' o' : Nat} (a : AT h (4400 * (1 - sd) + c) L) (hx : exA ex sd c y o) (g : FRg (fun x i => mTs sd (c + L.length) y' o' x i ∨ ex x i) h h') : AT h' (4400 * (1 - sd) + c) L := a.fg g fun i hi => ⟨fun z => by
  rcases z with z | z
  · unfold mTs at z; omega
  · have := (hx _ _ z).1 (by decide); omega, fun z => by
  rcases z with z | z
  · unfold mTs at z; omega
  · have := (hx _ _ z).1 (by decide); omega⟩
theorem T3.kpy {ex : Nat → Nat → Prop} {L : C3} {c' o' : Nat} (a : T3 h 276 (820 * (1 - sd) + y) L) (hx : exA ex sd c y o) (g : FRg (fun x i => mTs sd c' (y + L.length) o' x i ∨ ex x i) h h') : T3 h' 276 (820 * (1 - sd) + y) L := by
  have no : ∀ x i, 276 ≤ x → x ≤ 278 → i < L.length → ¬ (mTs sd c' (y + L.length) o' x (820 * (1 - sd) + y + i) ∨ ex x (820 * (1 - sd) + y + i)) := fun x i h1 h2 hi z => by
    rcases z with z | z
    · unfold mTs at z; omega
    · have := (hx _ _ z).2.1 h1 h2; omega
  exact a.fg g (by decide) fun i hi => ⟨no _ _ (by decide) (by decide) hi, no _ _ (by decide) (by decide) hi, no _ _ (by decide) (by decide) hi⟩
theorem T3.kpo {ex : Nat → Nat → Prop} {L : C3} {c' y' : Nat} (a : T3 h 279 (700 * (1 - sd) + o) L) (hx : exA ex sd c y o) (g : FRg (fun x i => mTs sd c' y' (o + L.length) x i ∨ ex x i) h h') : T3 h' 279 (700 * (1 - sd) + o) L := by
  have no : ∀ x i, 279 ≤ x → i < L.length → ¬ (mTs sd c' y' (o + L.length) x (700 * (1 - sd) + o + i) ∨ ex x (700 * (1 - sd) + o + i)) := fun x i h1 hi z => by
    rcases z with z | z
    · unfold mTs at z; omega
    · have := (hx _ _ z).2.2 h1; omega
  exact a.fg g (by decide) fun i hi => ⟨no _ _ (by decide) hi, no _ _ (by decide) hi, no _ _ (by decide) hi⟩
theorem RTs.wk {ex ex' : Nat → Nat → Prop} {P P' : Nat → Cds → C3 → C3 → AH → Prop} {q : Option Ot} {be be' tl tl' : Nat} {r : Nat × Nat} (a : RTs ex P q h t M be c y o d sd r tl) (hP : r.1 = 0 → ∀ L Y O h', FRg (fun x i => mTs sd c y o x i ∨ ex x i) h h' → P r.2 L Y O h' → P' r.2 L Y O h') (hb : be' ≤ be) (ht : tl ≤ tl') (hx : ∀ x i, ex x i → ex' x i) : RTs ex' P' q h t M be' c y o d sd r tl' := by
  obtain ⟨h', a1, a2, a3, a4⟩ := a
  refine ⟨h', a1, a2.wk fun x i q => q.imp (fun z => z) (hx x i), fun z => ?_, fun z => ?_⟩
  · obtain ⟨L, Y, O, b1, b2, b3⟩ := a3 z
    exact ⟨L, Y, O, hP z _ _ _ _ a2 b1, by omega, b3⟩
  · obtain ⟨c', y', o', b1, b2, b3, b4, b5⟩ := a4 z
    exact ⟨c', y', o', b1, b2, b3, by omega, b5⟩
/-- what a dead step comes to -/
def XTs (ex : Nat → Nat → Prop) (q : Option Ot) (h : AH) (t : Tp) (M k f c y o d sd tl : Nat) : Prop := ∃ h2 c2 y2 o2, q = some (none, h2) ∧ FRg (fun x i => mTs sd c y o x i ∨ ex x i) h h2 ∧ c ≤ c2 ∧ y ≤ y2 ∧ o ≤ o2 ∧ c2 ≤ M + tl ∧ SRt h2 t M k f c2 y2 o2 d sd
theorem XTs.of {ex : Nat → Nat → Prop} {L : Cds} {tl d1 : Nat} {q : Option Ot} (S : SRt h t M k f c y o d1 sd) (e : q = some (none, h')) (a : RSp h h' t M c d (4400 * (1 - sd)) L k f) (hc : c + L.length ≤ M + tl) : XTs ex q h t M k f c y o d sd tl := ⟨h', c + L.length, y, o, e, (PW.fg S a.1).wk fun x i q => Or.inl q, by omega, Nat.le_refl _, Nat.le_refl _, hc, S.kp a.1.1 kp3 a.2⟩
theorem fu {ex : Nat → Nat → Prop} {c' y' o' : Nat} {h1 h2 : AH} (g : FRg (fun x i => mTs sd c' y' o' x i ∨ ex x i) h1 h2) (hc : c ≤ c') (hy : y ≤ y') (ho : o ≤ o') : FRg (fun x i => mTs sd c y o x i ∨ ex x i) h1 h2 := g.wk fun x i q => q.imp (fun z => z.up hc hy ho) fun z => z
theorem RTs.st {ex : Nat → Nat → Prop} {P1 P : Nat → Cds → C3 → C3 → AH → Prop} {o1 : Option Ot} {K : Vs → AH → Option Ot} {k1 be d1 tl1 tl : Nat} {r1 r : Nat × Nat} {F : Prop} (hx : exA ex sd c y o) (hc : c ≤ k1) (p : RTs ex P1 o1 h t M k1 c y o d1 sd r1 tl1) (e : r1.1 = 0 ∧ F ∨ r1.1 ≠ 0 ∧ r = r1)
    (live : r1.1 = 0 → F → r1.2 ≤ M → ∀ h1 L1 Y1 O1, P1 r1.2 L1 Y1 O1 h1 → FRg (fun x i => mTs sd c y o x i ∨ ex x i) h h1 → k1 + L1.length ≤ r1.2 → SRt h1 t M r1.2 0 (c + L1.length) (y + Y1.length) (o + O1.length) d1 sd → RTs ex (fun k' L2 Y2 O2 h' => P k' (L1 ++ L2) (Y1 ++ Y2) (O1 ++ O2) h') (K [] h1) h1 t M (be + L1.length) (c + L1.length) (y + Y1.length) (o + O1.length) d sd r tl)
    (dead : r1.1 ≠ 0 → ∀ h1 c1 y1 o1, SRt h1 t M r1.2 r1.1 c1 y1 o1 d1 sd → c1 ≤ M + tl1 → XTs ex (K [] h1) h1 t M r1.2 r1.1 c1 y1 o1 d sd tl) : RTs ex P (cK o1 K []) h t M be c y o d sd r tl := by
  obtain ⟨h1, a1, a2, a3, a4⟩ := p
  rw [a1, cK_n]
  rcases e with ⟨z, hF⟩ | ⟨z, e⟩
  · obtain ⟨L1, Y1, O1, b1, b2, b3, b4, b5, b6, S1⟩ := a3 z
    obtain ⟨h2, g1, g2, g3, g4⟩ := live z hF b3 h1 L1 Y1 O1 b1 a2 b2 S1
    refine ⟨h2, g1, a2.trans (fu g2 (by omega) (by omega) (by omega)), fun w => ?_, fun w => ?_⟩
    · obtain ⟨L2, Y2, O2, x1, x2, x3, x4, x5, x6, x7⟩ := g3 w
      refine ⟨L1 ++ L2, Y1 ++ Y2, O1 ++ O2, x1, by rw [List.length_append]; omega, x3, AT_app.mpr ⟨b4.kp hx g2, by rw [Nat.add_assoc]; exact x4⟩, T3_app.mpr ⟨b5.kpy hx g2, by rw [Nat.add_assoc]; exact x5⟩, T3_app.mpr ⟨b6.kpo hx g2, by rw [Nat.add_assoc]; exact x6⟩, ?_⟩
      rw [List.length_append, List.length_append, List.length_append, ← Nat.add_assoc, ← Nat.add_assoc, ← Nat.add_assoc]; exact x7
    · obtain ⟨c', y', o', x1, x2, x3, x4, x5⟩ := g4 w
      exact ⟨c', y', o', by omega, by omega, by omega, x4, x5⟩
  · subst e
    obtain ⟨c1, y1, o1, x1, x2, x3, x4, S1⟩ := a4 z
    obtain ⟨h2, c2, y2, o2, g1, g2, g3, g4, g5, g6, g7⟩ := dead z h1 c1 y1 o1 S1 x4
    exact ⟨h2, g1, a2.trans (fu g2 x1 x2 x3), fun w => absurd w z, fun _ => ⟨c2, y2, o2, by omega, by omega, by omega, g6, g7⟩⟩
/-- the same, if the first part writes codes only -/
theorem RTs.se {ex : Nat → Nat → Prop} {P1 : Nat → Cds → Prop} {P : Nat → Cds → C3 → C3 → AH → Prop} {o1 : Option Ot} {K : Vs → AH → Option Ot} {k1 be d1 tl1 tl : Nat} {r1 r : Nat × Nat} {F : Prop} (S : SRt h t M k 0 c y o d1 sd) (hx : exA ex sd c y o) (hc : c ≤ k1) (p : RPo P1 o1 h t M k1 c d1 (4400 * (1 - sd)) r1 tl1) (e : r1.1 = 0 ∧ F ∨ r1.1 ≠ 0 ∧ r = r1)
    (live : r1.1 = 0 → F → r1.2 ≤ M → ∀ h1 L1, P1 r1.2 L1 → k1 + L1.length ≤ r1.2 → SRt h1 t M r1.2 0 (c + L1.length) y o d1 sd → RTs ex (fun k' L2 Y2 O2 h' => P k' (L1 ++ L2) Y2 O2 h') (K [] h1) h1 t M (be + L1.length) (c + L1.length) y o d sd r tl)
    (dead : r1.1 ≠ 0 → ∀ h1 c1, SRt h1 t M r1.2 r1.1 c1 y o d1 sd → c1 ≤ M + tl1 → XTs ex (K [] h1) h1 t M r1.2 r1.1 c1 y o d sd tl) : RTs ex P (cK o1 K []) h t M be c y o d sd r tl := by
  obtain ⟨h1, L1, a1, a2, a3, a4⟩ := p
  have S1 := S.kp a2.1.1 kp3 a2.2
  have f1 : FRg (fun x i => mTs sd c y o x i ∨ ex x i) h h1 := (PW.fg S a2.1).wk fun x i q => Or.inl q
  rw [a1, cK_n]
  rcases e with ⟨z, hF⟩ | ⟨z, e⟩
  · obtain ⟨b1, b2, b3⟩ := a3 z
    rw [z] at S1
    obtain ⟨h2, g1, g2, g3, g4⟩ := live z hF b3 h1 L1 b1 b2 S1
    refine ⟨h2, g1, f1.trans (fu g2 (by omega) (Nat.le_refl _) (Nat.le_refl _)), fun w => ?_, fun w => ?_⟩
    · obtain ⟨L2, Y2, O2, x1, x2, x3, x4, x5, x6, x7⟩ := g3 w
      refine ⟨L1 ++ L2, Y2, O2, x1, by rw [List.length_append]; omega, x3, AT_app.mpr ⟨AT.kp a2.1.2.2 hx g2, by rw [Nat.add_assoc]; exact x4⟩, x5, x6, ?_⟩
      rw [List.length_append, ← Nat.add_assoc]; exact x7
    · obtain ⟨c', y', o', x1, x2, x3, x4, x5⟩ := g4 w
      exact ⟨c', y', o', by omega, by omega, by omega, x4, x5⟩
  · subst e
    obtain ⟨h2, c2, y2, o2, g1, g2, g3, g4, g5, g6, g7⟩ := dead z h1 _ S1 (a4 z)
    exact ⟨h2, g1, f1.trans (fu g2 (by omega) (Nat.le_refl _) (Nat.le_refl _)), fun w => absurd w z, fun _ => ⟨c2, y2, o2, by omega, by omega, by omega, g6, g7⟩⟩
/-- a code whose value may be changed, then the rest -/
theorem RTs.pt {ex : Nat → Nat → Prop} {P : Nat → Cds → C3 → C3 → AH → Prop} {K : Vs → AH → Option Ot} {be d' tl : Nat} {r : Nat × Nat} {x z : Int32} (S : SRt h t M k 0 c y o d' sd) (hx : exA ex sd c y o) (hc : c < 4400) (hn : 1 ≤ n) (nx : ∀ h1, SRt h1 t M k 0 (c + 1) y o d' sd → gA h1 275 (4400 * (1 - sd) + c) = z → RTs (fun a i => ex a i ∨ a = 275 ∧ i = 4400 * (1 - sd) + c) (fun k' L2 Y2 O2 h' => P k' ([(x, gA h' 275 (4400 * (1 - sd) + c))] ++ L2) Y2 O2 h') (K [.int (nI c)] h1) h1 t M (be + 1) (c + 1) y o d sd r tl) : RTs ex P (cK (E n 130 [.ref 189, .int x, .int z] h) K []) h t M be c y o d sd r tl := by
  obtain ⟨h1, a1, a2, a3⟩ := r_emit S.1 hc hn x z
  have S1 := S.kp a2.1 kp3 a3
  have f1 : FRg (fun x i => mTs sd c y o x i ∨ ex x i) h h1 := (PW.fg S a2).wk fun x i q => Or.inl q
  obtain ⟨z1, z2⟩ := AT_one.mp a2.2.2
  obtain ⟨h2, g1, g2, g3, g4⟩ := nx h1 S1 z2
  have g2' : FRg (fun x i => mTs sd c y o x i ∨ ex x i) h1 h2 := g2.wk fun a i q => by
    rcases q with q | q | ⟨q1, q2⟩
    · exact Or.inl (q.up (by omega) (Nat.le_refl _) (Nat.le_refl _))
    · exact Or.inr q
    · subst q1; subst q2
      refine Or.inl (Or.inl ⟨by decide, by omega, by omega⟩)
  refine ⟨h2, by rw [a1, cK_v]; exact g1, f1.trans g2', fun w => ?_, fun w => ?_⟩
  · obtain ⟨L2, Y2, O2, x1, x2, x3, x4, x5, x6, x7⟩ := g3 w
    refine ⟨[(x, gA h2 275 (4400 * (1 - sd) + c))] ++ L2, Y2, O2, x1, by rw [List.length_append, List.length_singleton]; omega, x3, AT_app.mpr ⟨AT_one.mpr ⟨?_, rfl⟩, by rw [Nat.add_assoc]; exact x4⟩, x5, x6, ?_⟩
    · rw [g2.2 274 (by decide) (by decide) _ (fun q => ?_)]
      · exact z1
      · rcases q with q | q | ⟨q, -⟩
        · unfold mTs at q; omega
        · have := (hx _ _ q).1 (by decide); omega
        · exact absurd q (by decide)
    · rw [List.length_append, List.length_singleton, ← Nat.add_assoc]; exact x7
  · obtain ⟨c', y', o', x1, x2, x3, x4, x5⟩ := g4 w
    exact ⟨c', y', o', by omega, x2, x3, x4, x5⟩
/-- a code, then the rest -/
theorem RTs.em {ex : Nat → Nat → Prop} {P : Nat → Cds → C3 → C3 → AH → Prop} {K : Vs → AH → Option Ot} {be d' tl : Nat} {r : Nat × Nat} {x z : Int32} (S : SRt h t M k 0 c y o d' sd) (hx : exA ex sd c y o) (hc : c < 4400) (hn : 1 ≤ n) (nx : ∀ h1, SRt h1 t M k 0 (c + 1) y o d' sd → RTs ex (fun k' L2 Y2 O2 h' => P k' ([(x, z)] ++ L2) Y2 O2 h') (K [.int (nI c)] h1) h1 t M (be + 1) (c + 1) y o d sd r tl) : RTs ex P (cK (E n 130 [.ref 189, .int x, .int z] h) K []) h t M be c y o d sd r tl := RTs.pt S hx hc hn fun h1 S1 e => (nx h1 S1).wk (fun _ L Y O h' g p => by
  rw [g.2 275 (by decide) (by decide) _ (fun q => ?_), e]
  · exact p
  · rcases q with q | q
    · unfold mTs at q; omega
    · have := (hx _ _ q).1 (by decide); omega) (Nat.le_refl _) (Nat.le_refl _) (fun _ _ q => Or.inl q)
theorem XTs.st {ex : Nat → Nat → Prop} {o1 : Option Ot} {K : Vs → AH → Option Ot} {d1 tl1 tl : Nat} (p : XTs ex o1 h t M k f c y o d1 sd tl1) (nx : ∀ h1 c1 y1 o1, SRt h1 t M k f c1 y1 o1 d1 sd → c1 ≤ M + tl1 → XTs ex (K [] h1) h1 t M k f c1 y1 o1 d sd tl) : XTs ex (cK o1 K []) h t M k f c y o d sd tl := by
  obtain ⟨h1, c1, y1, o1, a1, a2, a3, a4, a5, a6, a7⟩ := p
  obtain ⟨h2, c2, y2, o2, g1, g2, g3, g4, g5, g6, g7⟩ := nx h1 c1 y1 o1 a7 a6
  exact ⟨h2, c2, y2, o2, by rw [a1, cK_n]; exact g1, a2.trans (fu g2 a3 a4 a5), by omega, by omega, by omega, g6, g7⟩
theorem XTs.em {ex : Nat → Nat → Prop} {K : Vs → AH → Option Ot} {d' T tl : Nat} {x z : Int32} (S : SRt h t M k f c y o d' sd) (hc : c ≤ M + T) (hT : M + T < 4400) (hn : 1 ≤ n) (nx : ∀ v h1, SRt h1 t M k f (c + 1) y o d' sd → XTs ex (K [.int v] h1) h1 t M k f (c + 1) y o d sd tl) : XTs ex (cK (E n 130 [.ref 189, .int x, .int z] h) K []) h t M k f c y o d sd tl := by
  obtain ⟨h1, a1, a2, a3⟩ := r_emit S.1 (by omega) hn x z
  have S1 := S.kp a2.1 kp3 a3
  obtain ⟨h2, c2, y2, o2, g1, g2, g3, g4, g5, g6, g7⟩ := nx (nI c) h1 S1
  exact ⟨h2, c2, y2, o2, by rw [a1, cK_v]; exact g1, ((PW.fg S a2).wk fun x i q => Or.inl q).trans (fu g2 (by omega) (Nat.le_refl _) (Nat.le_refl _)), by omega, g4, g5, g6, g7⟩
theorem XTs.id {ex : Nat → Nat → Prop} {tl : Nat} {q : Option Ot} (S : SRt h t M k f c y o d sd) (e : q = some (none, h)) (hc : c ≤ M + tl) : XTs ex q h t M k f c y o d sd tl := ⟨h, c, y, o, e, FRg.rf, Nat.le_refl _, Nat.le_refl _, Nat.le_refl _, hc, S⟩
/-- ahead of the rest -/
theorem RTs.pre {ex : Nat → Nat → Prop} {P : Nat → Cds → C3 → C3 → AH → Prop} {q : Option Ot} {be d1 d2 tl k' f' : Nat} {r : Nat × Nat} (S : SRt h t M k f c y o d2 sd) (a : RSp h h1 t M c d1 (4400 * (1 - sd)) [] k' f') (p : SRt h1 t M k' f' c y o d1 sd → RTs ex P q h1 t M be c y o d sd r tl) : RTs ex P q h t M be c y o d sd r tl := by
  obtain ⟨h2, g1, g2, g3, g4⟩ := p (S.kp a.1.1 kp3 a.2)
  exact ⟨h2, g1, ((PW.fg S a.1).wk fun x i q => Or.inl q).trans g2, g3, g4⟩
theorem XTs.pre {ex : Nat → Nat → Prop} {q : Option Ot} {d1 d2 tl k' : Nat} (S : SRt h t M k f c y o d2 sd) (a : RSp h h1 t M c d1 (4400 * (1 - sd)) [] k' f) (p : SRt h1 t M k' f c y o d1 sd → XTs ex q h1 t M k' f c y o d sd tl) : XTs ex q h t M k' f c y o d sd tl := by
  obtain ⟨h2, c2, y2, o2, g1, g2, g3, g4, g5, g6, g7⟩ := p (S.kp a.1.1 kp3 a.2)
  exact ⟨h2, c2, y2, o2, g1, ((PW.fg S a.1).wk fun x i q => Or.inl q).trans g2, g3, g4, g5, g6, g7⟩
end SRT
