/-! ===== PROGRAMMES: the codes of expressions; the reference's steps put together ===== -/
abbrev pE : Type := Nat → Nat → Nat → Nat → Cds → Prop
/-- the codes L of the tokens k .. k', one level -/
def CE1 (t : Tp) (p : pE) (tag d k k' : Nat) (L : Cds) : Prop := match tag with
  | 3 => ∃ k1 L1, p 4 d k k1 L1 ∧ ((lk t k1 = 60 ∨ lk t k1 = 61) ∧ (∃ L2, p 4 d (k1 + 1) k' L2 ∧ L = L1 ++ (L2 ++ [((if lk t k1 = 60 then nI 12 else nI 13), nI 0)])) ∨ ¬ (lk t k1 = 60 ∨ lk t k1 = 61) ∧ k' = k1 ∧ L = L1)
  | 4 => ∃ k1 L1 L2, p 6 d k k1 L1 ∧ p 5 d k1 k' L2 ∧ L = L1 ++ L2
  | 5 => (lk t k = 43 ∨ lk t k = 45) ∧ (∃ k1 L1 L2, p 6 d (k + 1) k1 L1 ∧ p 5 d k1 k' L2 ∧ L = L1 ++ ([((if lk t k = 43 then nI 7 else nI 8), nI 0)] ++ L2)) ∨ ¬ (lk t k = 43 ∨ lk t k = 45) ∧ k' = k ∧ L = []
  | 6 => ∃ k1 L1 L2, p 8 d k k1 L1 ∧ p 7 d k1 k' L2 ∧ L = L1 ++ L2
  | 7 => (lk t k = 42 ∨ lk t k = 47 ∨ lk t k = 37) ∧ (∃ k1 L1 L2, p 8 d (k + 1) k1 L1 ∧ p 7 d k1 k' L2 ∧ L = L1 ++ ([((if lk t k = 42 then nI 9 else if lk t k = 47 then nI 10 else nI 11), nI 0)] ++ L2)) ∨ ¬ (lk t k = 42 ∨ lk t k = 47 ∨ lk t k = 37) ∧ k' = k ∧ L = []
  | 8 => lk t k = 3 ∧ k' = k + 1 ∧ L = [(nI 1, nI (tV t k))] ∨ lk t k = 4 ∧ k' = k + 1 ∧ L = [(nI 2, nI (lkV t k))] ∨
      lk t k = 40 ∧ (∃ k1, p 3 (d + 1) (k + 1) k1 L ∧ lk t k1 = 41 ∧ k' = k1 + 1) ∨ lk t k = 45 ∧ (∃ L1, p 8 (d + 1) (k + 1) k' L1 ∧ L = L1 ++ [(nI 6, nI 0)]) ∨
      (lk t k = 143 ∨ lk t k = 144) ∧ (∃ L1, p 10 (d + 1) (k + 1) k' L1 ∧ L = L1 ++ [(nI (lk t k - 128), nI 0)]) ∨ lk t k = 145 ∧ (∃ L1, p 11 (d + 1) (k + 1) k' L1 ∧ L = L1 ++ [(nI 17, nI 0)]) ∨
      (146 ≤ lk t k ∧ lk t k ≤ 150) ∧ (∃ L1, p 9 (d + 1) (k + 1) k' L1 ∧ L = L1 ++ [(nI (lk t k - 128), nI 0)]) ∨ (151 ≤ lk t k ∧ lk t k ≤ 153) ∧ k' = k + 1 ∧ L = [(nI (lk t k - 128), nI 0)]
  | 9 => lk t k = 5 ∧ k' = k + 1 ∧ L = [(nI 4, nI (lkV t k))] ∨ lk t k = 154 ∧ k' = k + 1 ∧ L = [(nI 1, -1)] ∨ lk t k = 155 ∧ (∃ L1, p 8 (d + 1) (k + 1) k' L1 ∧ L = L1 ++ [(nI 26, nI 0)]) ∨
      lk t k = 156 ∧ (∃ L1, p 11 (d + 1) (k + 1) k' L1 ∧ L = L1 ++ [(nI 27, nI 0)]) ∨ (157 ≤ lk t k ∧ lk t k ≤ 159) ∧ (∃ L1, p 9 (d + 1) (k + 1) k' L1 ∧ L = L1 ++ [(nI 28, nI (lk t k - 157))])
  | 10 => lk t k = 64 ∧ (∃ L1, p 8 d (k + 1) k' L1 ∧ L = L1 ++ [(nI 14, nI 0)])
  | 11 => ∃ k1 L1 k2 L2, p 10 d k k1 L1 ∧ lk t k1 = 91 ∧ p 3 d (k1 + 1) k2 L2 ∧ lk t k2 = 93 ∧ k' = k2 + 1 ∧ L = L1 ++ L2
  | _ => False
def CE (t : Tp) : Nat → pE
  | 0, _, _, _, _, _ => False
  | N + 1, tag, d, k, k', L => px t (N + 1) tag d k = some (0, k') ∧ CE1 t (CE t N) tag d k k' L
/-- from h on: fault and token r behind; the codes keep P if all goes well, they are few if not -/
def RPo (P : Nat → Cds → Prop) (o : Option Ot) (h : AH) (t : Tp) (M be c d B : Nat) (r : Nat × Nat) (tl : Nat) : Prop := ∃ h' L, o = some (none, h') ∧ RSp h h' t M c d B L r.2 r.1 ∧ (r.1 = 0 → P r.2 L ∧ be + L.length ≤ r.2 ∧ r.2 ≤ M) ∧ (r.1 ≠ 0 → c + L.length ≤ M + tl)
section RPS
variable {t : Tp} {M B : Nat}
theorem SRs.me {h : AH} {k f c d : Nat} (S : SRs h t M k f c d B) : ME t M := ⟨S.2.2.1.1.2.2.1, S.2.2.1.1.2.2.2.1⟩
theorem RPo.wk {P P' : Nat → Cds → Prop} {o : Option Ot} {h : AH} {be be' c d tl tl' : Nat} {r : Nat × Nat} (a : RPo P o h t M be c d B r tl) (hP : r.1 = 0 → ∀ L, P r.2 L → P' r.2 L) (hb : be' ≤ be) (ht : tl ≤ tl') : RPo P' o h t M be' c d B r tl' := by
  obtain ⟨h', L, a1, a2, a3, a4⟩ := a
  exact ⟨h', L, a1, a2, fun z => ⟨hP z _ (a3 z).1, by have := (a3 z).2.1; omega, (a3 z).2.2⟩, fun z => by have := a4 z; omega⟩
theorem RPo.st {P1 P : Nat → Cds → Prop} {o1 : Option Ot} {K : Vs → AH → Option Ot} {h : AH} {k1 be c d1 d tl1 tl : Nat} {r1 r : Nat × Nat} {F : Prop} (h4 : M ≤ 4000) (hc : c ≤ k1) (p : RPo P1 o1 h t M k1 c d1 B r1 tl1) (e : r1.1 = 0 ∧ F ∨ r1.1 ≠ 0 ∧ r = r1) (htl : tl1 ≤ 400)
    (live : r1.1 = 0 → F → r1.2 ≤ M → ∀ h1 L1, P1 r1.2 L1 → k1 + L1.length ≤ r1.2 → SRs h1 t M r1.2 0 (c + L1.length) d1 B → RPo (fun k' L2 => P k' (L1 ++ L2)) (K [] h1) h1 t M (be + L1.length) (c + L1.length) d B r tl)
    (dead : r1.1 ≠ 0 → ∀ h1 c1, SRs h1 t M r1.2 r1.1 c1 d1 B → c1 ≤ M + tl1 → ∃ h2 L2, K [] h1 = some (none, h2) ∧ RSp h1 h2 t M c1 d B L2 r1.2 r1.1 ∧ c1 + L2.length ≤ M + tl) : RPo P (cK o1 K []) h t M be c d B r tl := by
  obtain ⟨h1, L1, a1, a2, a3, a4⟩ := p
  rw [a1, cK_n]
  rcases e with ⟨z, hF⟩ | ⟨z, e⟩
  · obtain ⟨b1, b2, b3⟩ := a3 z
    have S1 := a2.2
    rw [z] at S1
    obtain ⟨h2, L2, g1, g2, g3, g4⟩ := live z hF b3 h1 L1 b1 b2 S1
    refine ⟨h2, L1 ++ L2, g1, a2.tr g2 (by omega), fun y => ?_, fun y => ?_⟩
    · obtain ⟨x1, x2, x3⟩ := g3 y
      exact ⟨x1, by rw [List.length_append]; omega, x3⟩
    · have := g4 y
      rw [List.length_append]; omega
  · subst e
    have b := a4 z
    obtain ⟨h2, L2, g1, g2, g3⟩ := dead z h1 _ a2.2 b
    refine ⟨h2, L1 ++ L2, g1, a2.tr g2 (by omega), fun y => absurd y z, fun _ => ?_⟩
    rw [List.length_append]; omega
/-- a routine's last call -/
theorem RPo.fin {P : Nat → Cds → Prop} {o1 : Option Ot} {K : Vs → AH → Option Ot} {h : AH} {be c d tl : Nat} {r : Nat × Nat} (p : RPo P o1 h t M be c d B r tl) (hK : ∀ h', Sh h' → K [] h' = some (none, h')) : RPo P (cK o1 K []) h t M be c d B r tl := by
  obtain ⟨h1, L1, a1, a2, a3, a4⟩ := p
  exact ⟨h1, L1, by rw [a1, cK_n]; exact hK h1 a2.2.1, a2, a3, a4⟩
theorem rr (r : Nat × Nat) : r.1 = 0 ∧ True ∨ r.1 ≠ 0 ∧ r = r := by
  by_cases q : r.1 = 0
  · exact Or.inl ⟨q, trivial⟩
  · exact Or.inr ⟨q, rfl⟩
theorem o_tk {h : AH} {k c d n x tl : Nat} {r : Nat × Nat} (S : SRs h t M k 0 c d B) (hc : c ≤ k) (hk : k ≤ M) (h6 : 6 ≤ x) (h2 : x < 128) (hn : 2 ≤ n) (e : tk1 t x k = some r) : RPo (fun k' L => lk t k = x ∧ k' = k + 1 ∧ L = []) (E n 61 [.ref 189, .int (nI x)] h) h t M k c d B r tl := by
  obtain ⟨h1, a1, a2, a3⟩ := r_sig S h6 h2 hn
  rw [if_pos rfl] at a3
  unfold tk1 at e
  by_cases q : lk t k = x
  · rw [if_pos q] at e a3
    cases e
    have := S.me.lk (k := k) (by omega)
    exact ⟨h1, [], a1, RSp.mk a2 (by decide) a3, fun _ => ⟨⟨q, rfl, rfl⟩, Nat.le_succ _, this⟩, fun z => absurd rfl z⟩
  · rw [if_neg q] at e a3
    cases e
    exact ⟨h1, [], a1, RSp.mk a2 (by decide) (a3.any (fX_0 (by decide)) 0), fun z => absurd z (fX_0 (by decide)), fun _ => by show c + 0 ≤ _; omega⟩
theorem o_em {P : Nat → Cds → Prop} {K : Vs → AH → Option Ot} {h : AH} {k be c d n tl : Nat} {r : Nat × Nat} {x y : Int32} (S : SRs h t M k 0 c d B) (hc : c ≤ k) (h4 : M ≤ 4000) (hk : k ≤ M) (hn : 1 ≤ n) (hb : be + 1 ≤ k) (z : r.1 = 0) (hr : r.2 = k) (hK : ∀ v h', SRs h' t M k 0 (c + 1) d B → K [.int v] h' = some (none, h')) (hP : P k [(x, y)]) : RPo P (cK (E n 130 [.ref 189, .int x, .int y] h) K []) h t M be c d B r tl := by
  obtain ⟨h1, a1, a2, a3⟩ := r_emit S (by omega) hn x y
  refine ⟨h1, [(x, y)], by rw [a1, cK_v]; exact hK _ _ a3, ⟨a2, by rw [z, hr]; exact a3⟩, fun _ => ⟨by rw [hr]; exact hP, by rw [hr]; exact hb, by omega⟩, fun y => absurd z y⟩
theorem x_em {K : Vs → AH → Option Ot} {h : AH} {k f c d n T tl : Nat} {x y : Int32} (S : SRs h t M k f c d B) (h4 : M ≤ 4000) (hc : c ≤ M + T) (hT : T + 1 ≤ tl) (ht : tl ≤ 400) (hn : 1 ≤ n) (hK : ∀ v h', SRs h' t M k f (c + 1) d B → K [.int v] h' = some (none, h')) : ∃ h2 L2, cK (E n 130 [.ref 189, .int x, .int y] h) K [] = some (none, h2) ∧ RSp h h2 t M c d B L2 k f ∧ c + L2.length ≤ M + tl := by
  obtain ⟨h1, a1, a2, a3⟩ := r_emit S (by omega) hn x y
  exact ⟨h1, [(x, y)], by rw [a1, cK_v]; exact hK _ _ a3, ⟨a2, a3⟩, by show c + 1 ≤ _; omega⟩
theorem x_id {h : AH} {k f c d T tl : Nat} {o : Option Ot} (S : SRs h t M k f c d B) (e : o = some (none, h)) (hc : c ≤ M + T) (hT : T ≤ tl) : ∃ h2 L2, o = some (none, h2) ∧ RSp h h2 t M c d B L2 k f ∧ c + L2.length ≤ M + tl := ⟨h, [], e, RSp.rf S, by show c + 0 ≤ _; omega⟩
/-- ahead of the rest -/
theorem RPo.pre {P : Nat → Cds → Prop} {o : Option Ot} {h h1 : AH} {be c d1 d tl k f : Nat} {r : Nat × Nat} (a : RSp h h1 t M c d1 B [] k f) (hc : c ≤ 4400) (p : RPo P o h1 t M be c d B r tl) : RPo P o h t M be c d B r tl := by
  obtain ⟨h2, L2, b1, b2, b3, b4⟩ := p
  exact ⟨h2, L2, b1, a.nl b2 hc, b3, b4⟩
/-- a code, then the rest -/
theorem RPo.em {P : Nat → Cds → Prop} {K : Vs → AH → Option Ot} {h : AH} {k be c d d' n tl : Nat} {r : Nat × Nat} {x y : Int32} (S : SRs h t M k 0 c d' B) (hc : c < 4400) (hn : 1 ≤ n) (nx : ∀ h1, SRs h1 t M k 0 (c + 1) d' B → RPo (fun k' L2 => P k' ([(x, y)] ++ L2)) (K [.int (nI c)] h1) h1 t M (be + 1) (c + 1) d B r tl) : RPo P (cK (E n 130 [.ref 189, .int x, .int y] h) K []) h t M be c d B r tl := by
  obtain ⟨h1, a1, a2, a3⟩ := r_emit S hc hn x y
  obtain ⟨h2, L2, b1, b2, b3, b4⟩ := nx h1 a3
  refine ⟨h2, [(x, y)] ++ L2, by rw [a1, cK_v]; exact b1, RSp.tr (L1 := [(x, y)]) ⟨a2, a3⟩ b2 (by show c + 1 ≤ _; omega), fun z => ⟨(b3 z).1, ?_, (b3 z).2.2⟩, fun z => ?_⟩
  · have := (b3 z).2.1
    rw [List.length_append, List.length_singleton]; omega
  · have := b4 z
    rw [List.length_append, List.length_singleton]; omega
/-- one level up, at the end -/
theorem RPo.dn {P : Nat → Cds → Prop} {o1 : Option Ot} {K : Vs → AH → Option Ot} {h : AH} {be c d tl : Nat} {r : Nat × Nat} (h4 : M ≤ 4000) (htl : tl ≤ 400) (hbc : c ≤ be) (p : RPo P o1 h t M be c (d + 1) B r tl) (hK : ∀ h', Sh h' → K [] h' = some (none, sI h' 3708 189 ((gI h' 3708 189) - (nI 1)))) : RPo P (cK o1 K []) h t M be c d B r tl := by
  obtain ⟨h1, L1, a1, a2, a3, a4⟩ := p
  obtain ⟨h2, e2, b2⟩ := q_dn a2.2
  refine ⟨h2, L1, by rw [a1, cK_n, e2]; exact hK h1 a2.2.1, a2.nr b2 ?_, a3, a4⟩
  by_cases z : r.1 = 0
  · have := a3 z; omega
  · have := a4 z; omega
/-- dead steps, one after another -/
theorem x_st {h h1 : AH} {k f c d1 d T tl : Nat} {L1 : Cds} {o1 : Option Ot} {K : Vs → AH → Option Ot} (h4 : M ≤ 4000) (e : o1 = some (none, h1)) (a : RSp h h1 t M c d1 B L1 k f) (hc : c + L1.length ≤ M + T) (hT : T ≤ 400) (nx : ∃ h2 L2, K [] h1 = some (none, h2) ∧ RSp h1 h2 t M (c + L1.length) d B L2 k f ∧ c + L1.length + L2.length ≤ M + tl) : ∃ h2 L2, cK o1 K [] = some (none, h2) ∧ RSp h h2 t M c d B L2 k f ∧ c + L2.length ≤ M + tl := by
  obtain ⟨h2, L2, b1, b2, b3⟩ := nx
  exact ⟨h2, L1 ++ L2, by rw [e, cK_n]; exact b1, a.tr b2 (by omega), by rw [List.length_append]; omega⟩
def tlR (tag d : Nat) : Nat := match tag with
  | 3 => 8 * (21 - d) + 3
  | 4 => 8 * (21 - d) + 2
  | 5 => 8 * (21 - d) + 2
  | 6 => 8 * (21 - d) + 1
  | 7 => 8 * (21 - d) + 1
  | 10 => 8 * (21 - d) + 1
  | 11 => 8 * (21 - d) + 3
  | _ => 8 * (21 - d)
def ndQ (tag d : Nat) : Nat := match tag with
  | 3 => 18 + 7 * (20 - d)
  | 4 => 17 + 7 * (20 - d)
  | 5 => 16 + 7 * (20 - d)
  | 6 => 16 + 7 * (20 - d)
  | 7 => 15 + 7 * (20 - d)
  | 8 => 15 + 7 * (20 - d)
  | 9 => 15 + 7 * (20 - d)
  | 10 => 16 + 7 * (20 - d)
  | _ => 19 + 7 * (20 - d)
def PRH (t : Tp) (M B N : Nat) : Prop := ∀ (tag d k : Nat) (r : Nat × Nat) (n : Nat) (h : AH) (c : Nat), px t N tag d k = some r → SRs h t M k 0 c d B → c ≤ k → k ≤ M → d ≤ 20 → ndQ tag d ≤ n →
  (tag = 3 → RPo (CE t N 3 d k) (E n 131 [.ref 189] h) h t M k c d B r (tlR 3 d)) ∧ (tag = 4 → RPo (CE t N 4 d k) (E n 132 [.ref 189] h) h t M k c d B r (tlR 4 d)) ∧
  (tag = 5 → RPo (CE t N 5 d k) (Q n 132 4 [some (.ref 189), none, none] [] h) h t M k c d B r (tlR 5 d)) ∧ (tag = 6 → RPo (CE t N 6 d k) (E n 133 [.ref 189] h) h t M k c d B r (tlR 6 d)) ∧
  (tag = 7 → RPo (CE t N 7 d k) (Q n 133 4 [some (.ref 189), none, none] [] h) h t M k c d B r (tlR 7 d)) ∧ (tag = 8 → RPo (CE t N 8 d k) (E n 134 [.ref 189] h) h t M k c d B r (tlR 8 d)) ∧
  (tag = 9 → RPo (CE t N 9 d k) (E n 142 [.ref 189] h) h t M k c d B r (tlR 9 d)) ∧ (tag = 10 → RPo (CE t N 10 d k) (E n 139 [.ref 189] h) h t M k c d B r (tlR 10 d)) ∧
  (tag = 11 → ∃ h1, E n 139 [.ref 189] h = some (none, h1) ∧ Sh h1 ∧ RPo (CE t N 11 d k) (E n 140 [.ref 189] h1) h t M k c d B r (tlR 11 d))
end RPS
