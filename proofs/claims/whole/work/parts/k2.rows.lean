/-! ===== PROGRAMMES: the reference writes statements ===== -/
def tlT (tag d : Nat) : Nat := match tag with
  | 2 => 10 * (21 - d)
  | 12 => 10 * (21 - d) + 2
  | _ => 10 * (21 - d) + 8
def ndT (tag d : Nat) : Nat := match tag with
  | 2 => 20 + 10 * (20 - d)
  | 12 => 21 + 10 * (20 - d)
  | _ => 24 + 10 * (20 - d)
/-- what is told of a row of statements -/
abbrev PSr (t : Tp) (sd N tag d k T c y o : Nat) : Nat → Cds → C3 → C3 → AH → Prop := fun k' L Y O _ => CSx t sd N tag d k k' T c y o L Y O 0 ∧ IBs t 0 k' d (y + Y.length) (o + O.length)
abbrev PS1 (t : Tp) (sd N tag d k T c y o : Nat) : Nat → Cds → C3 → C3 → AH → Prop := fun k' L Y O _ => CSg t sd (CE t N) (CSx t sd N) tag d k k' T c y o L Y O 0 ∧ IBs t 0 k' d (y + Y.length) (o + O.length)
/-- the place that names the next on: of try T, if p is none, else of on p -/
def slX (p : Option Nat) : Nat := match p with | none => 276 | some _ => 281
def slI (T : Nat) (p : Option Nat) : Nat := match p with | none => T | some i => i
def slV (p : Option Nat) : Int32 := match p with | none => -1 | some i => nI i
def PSH (t : Tp) (M sd N : Nat) : Prop := ∀ (tag d k : Nat) (r : Nat × Nat) (n : Nat) (h : AH) (c y o : Nat), px t N tag d k = some r → SRt h t M k 0 c y o d sd → c ≤ k + 1 → k ≤ M → d ≤ 20 → ndT tag d ≤ n →
  (tag = 1 → c ≤ k → IBs t 0 k d y o → RTs exN (PSr t sd N 1 d k 0 c y o) (E n 128 [.ref 189] h) h t M k c y o d sd r (tlT 1 d)) ∧
  (tag = 2 → IBs t 2 k d y o → RTs exN (PSr t sd N 2 d k 0 c y o) (E n 144 [.ref 189] h) h t M (k + 2) c y o d sd r (tlT 2 d)) ∧
  (tag = 0 → c ≤ k → IBs t 0 k d y o → ∃ h', Q n 144 16 [some (.ref 189)] [] h = cK (E n 61 [.ref 189, .int (nI 125)] h') (Q n 144 45 [some (.ref 189)]) [] ∧ RTs exN (PSr t sd N 0 d k 0 c y o) (some (none, h')) h t M k c y o d sd r (tlT 0 d)) ∧
  (tag = 12 → c ≤ k → IBs t 0 k d y o → ∀ T p, T < 820 * (1 - sd) + y → (∀ i, p = some i → i < 700 * (1 - sd) + o) → gA h (slX p) (slI T p) = -1 → ∃ h' x', Q n 147 63 [some (.ref 189), some (.int (nI T)), none, some (.int (slV p))] [] h = Q n 147 69 [some (.ref 189), some (.int (nI T)), none, some (.int x')] [.int (nI 0)] h' ∧ RTs (fun x i => x = slX p ∧ i = slI T p) (fun k' L Y O h' => CSx t sd N 12 d k k' T c y o L Y O (gA h' (slX p) (slI T p)) ∧ IBs t 0 k' d (y + Y.length) (o + O.length)) (some (none, h')) h t M k c y o d sd r (tlT 12 d)) ∧
  (tag = 13 → d = 0 → c ≤ k → IBs t 0 k d y o → ∃ h', Q n 127 47 [some (.ref 189), none] [] h = Q n 127 47 [some (.ref 189), none] [] h' ∧ RTs exN (PSr t sd N 13 d k 0 c y o) (some (none, h')) h t M k c y o d sd r (tlT 13 d))
section STL
variable {t : Tp} {M N d k n c y o sd : Nat} {r : Nat × Nat} {h : AH}
theorem RTs.nul {P : Nat → Cds → C3 → C3 → AH → Prop} {be tl k' : Nat} (S : SRt h t M k' 0 c y o d sd) (hb : be ≤ k') (hk : k' ≤ M) (hP : P k' [] [] [] h) : RTs exN P (some (none, h)) h t M be c y o d sd (0, k') tl :=
  ⟨h, rfl, FRg.rf, fun _ => ⟨[], [], [], hP, hb, hk, AT.nil, T3.nil, T3.nil, S⟩, fun z => absurd rfl z⟩
/-- two parts, one after another, the first told in full -/
theorem RTs.cat {ex : Nat → Nat → Prop} {P : Nat → Cds → C3 → C3 → AH → Prop} {h1 : AH} {q2 : Option Ot} {be tl : Nat} {L1 : Cds} {Y1 O1 : C3} (hx : exA ex sd c y o) (a2 : FRg (fun x i => mTs sd c y o x i ∨ ex x i) h h1) (b4 : AT h1 (4400 * (1 - sd) + c) L1) (b5 : T3 h1 276 (820 * (1 - sd) + y) Y1) (b6 : T3 h1 279 (700 * (1 - sd) + o) O1) (p : RTs ex (fun k' L2 Y2 O2 h' => P k' (L1 ++ L2) (Y1 ++ Y2) (O1 ++ O2) h') q2 h1 t M (be + L1.length) (c + L1.length) (y + Y1.length) (o + O1.length) d sd r tl) : RTs ex P q2 h t M be c y o d sd r tl := by
  obtain ⟨h2, g1, g2, g3, g4⟩ := p
  refine ⟨h2, g1, a2.trans (fu g2 (by omega) (by omega) (by omega)), fun w => ?_, fun w => ?_⟩
  · obtain ⟨L2, Y2, O2, x1, x2, x3, x4, x5, x6, x7⟩ := g3 w
    refine ⟨L1 ++ L2, Y1 ++ Y2, O1 ++ O2, x1, by rw [List.length_append]; omega, x3, AT_app.mpr ⟨b4.kp hx g2, by rw [Nat.add_assoc]; exact x4⟩, T3_app.mpr ⟨b5.kpy hx g2, by rw [Nat.add_assoc]; exact x5⟩, T3_app.mpr ⟨b6.kpo hx g2, by rw [Nat.add_assoc]; exact x6⟩, ?_⟩
    rw [List.length_append, List.length_append, List.length_append, ← Nat.add_assoc, ← Nat.add_assoc, ← Nat.add_assoc]; exact x7
  · obtain ⟨c', y', o', x1, x2, x3, x4, x5⟩ := g4 w
    exact ⟨c', y', o', by omega, by omega, by omega, x4, x5⟩
theorem RTs.q {ex : Nat → Nat → Prop} {P : Nat → Cds → C3 → C3 → AH → Prop} {q1 : Option Ot} {be tl : Nat} (p : RTs ex P q1 h t M be c y o d sd r tl) : ∃ h1, q1 = some (none, h1) ∧ RTs ex P (some (none, h1)) h t M be c y o d sd r tl := by
  obtain ⟨h1, a1, a2⟩ := p
  exact ⟨h1, a1, ⟨h1, rfl, a2⟩⟩
theorem RTs.all {ex : Nat → Nat → Prop} {P : Nat → Cds → C3 → C3 → AH → Prop} {h1 : AH} {be tl : Nat} (p : RTs ex P (some (none, h1)) h t M be c y o d sd r tl) (z : r.1 = 0) : FRg (fun x i => mTs sd c y o x i ∨ ex x i) h h1 ∧ ∃ L Y O, P r.2 L Y O h1 ∧ be + L.length ≤ r.2 ∧ r.2 ≤ M ∧ AT h1 (4400 * (1 - sd) + c) L ∧ T3 h1 276 (820 * (1 - sd) + y) Y ∧ T3 h1 279 (700 * (1 - sd) + o) O ∧ SRt h1 t M r.2 0 (c + L.length) (y + Y.length) (o + O.length) d sd := by
  obtain ⟨g, a1, a2, a3, a4⟩ := p
  have e : h1 = g := by injection a1 with e; exact congrArg Prod.snd e
  subst e
  exact ⟨a2, a3 z⟩
/-- after a fault: it stands -/
theorem RTs.bad {ex : Nat → Nat → Prop} {P : Nat → Cds → C3 → C3 → AH → Prop} {h1 : AH} {be tl : Nat} (p : RTs ex P (some (none, h1)) h t M be c y o d sd r tl) (z : r.1 ≠ 0) : ∃ c' y' o', SRt h1 t M r.2 r.1 c' y' o' d sd := by
  obtain ⟨g, a1, a2, a3, a4⟩ := p
  have e : h1 = g := by injection a1 with e; exact congrArg Prod.snd e
  subst e
  obtain ⟨c', y', o', -, -, -, -, S⟩ := a4 z
  exact ⟨c', y', o', S⟩
theorem RTs.shh {ex : Nat → Nat → Prop} {P : Nat → Cds → C3 → C3 → AH → Prop} {h1 : AH} {be tl : Nat} (p : RTs ex P (some (none, h1)) h t M be c y o d sd r tl) : ∃ c' y' o', SRt h1 t M r.2 r.1 c' y' o' d sd := by
  by_cases z : r.1 = 0
  · obtain ⟨g, a1, a2, a3, a4⟩ := p
    have e : h1 = g := by injection a1 with e; exact congrArg Prod.snd e
    subst e
    obtain ⟨L, Y, O, -, -, -, -, -, -, S⟩ := a3 z
    rw [z]
    exact ⟨_, _, _, S⟩
  · exact p.bad z
theorem f_0 {f : Nat} (S : SRt h t M k f c y o d sd) (hf : f = 0) : gI h 3596 189 = nI 0 := by rw [S.1.2.2.1.2.1, hf]
theorem ps_0 (ih : PSH t M sd N) (e : px t (N + 1) 0 d k = some r) (S : SRt h t M k 0 c y o d sd) (hc : c ≤ k) (hk : k ≤ M) (hd : d ≤ 20) (hn : ndT 0 d ≤ n) (I : IBs t 0 k d y o) : ∃ h', Q n 144 16 [some (.ref 189)] [] h = cK (E n 61 [.ref 189, .int (nI 125)] h') (Q n 144 45 [some (.ref 189)]) [] ∧ RTs exN (PS1 t sd N 0 d k 0 c y o) (some (none, h')) h t M k c y o d sd r (tlT 0 d) := by
  have hn0 : 24 + 10 * (20 - d) ≤ n := hn
  have e : (if lk t k = 125 then some (0, k) else sq (px t N 1 d k) fun k => px t N 0 d k) = some r := e
  rw [t_144_16 S.1.1, if_pos (f_0 S rfl)]
  by_cases q : lk t k = 125
  · rw [if_pos q] at e
    cases e
    rw [g_1 S.1 (by decide) (by decide) (by omega) q, cK_v, t_144_29 S.1.1, if_neg (by decide)]
    exact ⟨h, rfl, RTs.nul S (Nat.le_refl _) hk ⟨Or.inl ⟨q, rfl, rfl, rfl, rfl⟩, I⟩⟩
  rw [if_neg q] at e
  obtain ⟨r1, e1, c1⟩ := sq_s e
  obtain ⟨h1, a1, p⟩ := ((ih 1 d k r1 n h c y o e1 S (by omega) hk hd (by show 24 + 10 * (20 - d) ≤ n; omega)).1 rfl hc I).q
  obtain ⟨c', y', o', S1⟩ := p.shh
  rw [g_0 S.1 (by decide) (by decide) (by omega) (fun z => q z.2), cK_v, t_144_29 S.1.1, if_pos rfl, a1, cK_n, t_144_36 S1.1.1]
  rcases c1 with ⟨z, f⟩ | ⟨z, f⟩
  · obtain ⟨a2, L1, Y1, O1, b1, b2, b3, b4, b5, b6, S2⟩ := p.all z
    obtain ⟨h', y1, y2⟩ := (ih 0 d r1.2 r n h1 _ _ _ f S2 (by omega) b3 hd (by show 24 + 10 * (20 - d) ≤ n; omega)).2.2.1 rfl (by omega) b1.2
    refine ⟨h', y1, RTs.cat exA.none a2 b4 b5 b6 (y2.wk (fun w L2 Y2 O2 g _ q2 => ?_) (by omega) (Nat.le_refl _) (fun _ _ q => q))⟩
    refine ⟨Or.inr ⟨q, r1.2, L1, Y1, O1, L2, Y2, O2, b1.1, q2.1, rfl, rfl, rfl⟩, ?_⟩
    rw [List.length_append, List.length_append, ← Nat.add_assoc, ← Nat.add_assoc]; exact q2.2
  · subst f
    refine ⟨h1, by rw [t_144_16 S1.1.1, if_neg (f_n0 S1.1 z)], p.wk (fun w => absurd w z) (Nat.le_refl _) (Nat.le_refl _) (fun _ _ q => q)⟩
end STL
