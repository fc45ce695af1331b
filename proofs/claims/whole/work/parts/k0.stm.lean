/-! ===== PROGRAMMES: the codes of statements ===== -/
abbrev pT : Type := Nat → Nat → Nat → Nat → Nat → Nat → Nat → Nat → Cds → C3 → C3 → Int32 → Prop
/-- a statement, tokens k .. k': codes L from place c on, tries Y from y on, ons O from o on; sd: the side -/
def CSs (t : Tp) (sd : Nat) (pe : pE) (p : pT) (d k k' c y o : Nat) (L : Cds) (Y O : C3) : Prop :=
  lk t k = 4 ∧ (∃ k1 L1, lk t (k + 1) = 61 ∧ pe 3 d (k + 2) k1 L1 ∧ lk t k1 = 59 ∧ k' = k1 + 1 ∧ L = [(nI 38, nI 0)] ++ (L1 ++ [(nI 3, nI (lkV t k))]) ∧ Y = [] ∧ O = []) ∨
  lk t k = 5 ∧ (∃ k1 L1, lk t (k + 1) = 61 ∧ pe 9 d (k + 2) k1 L1 ∧ lk t k1 = 59 ∧ k' = k1 + 1 ∧ L = [(nI 38, nI 0)] ++ (L1 ++ [(nI 5, nI (lkV t k))]) ∧ Y = [] ∧ O = []) ∨
  (∃ k1 L1, CW1 t pe d k k1 L1 ∧ lk t k1 = 59 ∧ k' = k1 + 1 ∧ L = [(nI 38, nI 0)] ++ L1 ∧ Y = [] ∧ O = []) ∨
  lk t k = 137 ∧ (∃ k1 L1 k2 L2 Y2 O2 c1 c2, pe 3 d (k + 1) k1 L1 ∧ c1 = c + 1 + L1.length + 1 ∧ p 2 d k1 k2 0 c1 y o L2 Y2 O2 0 ∧ c2 = c1 + L2.length ∧
    (lk t k2 ≠ 138 ∧ k' = k2 ∧ L = [(nI 38, nI 0)] ++ (L1 ++ ([(nI 40, nI c2)] ++ L2)) ∧ Y = Y2 ∧ O = O2 ∨
     lk t k2 = 138 ∧ ∃ L3 Y3 O3, p 2 d (k2 + 1) k' 0 (c2 + 1) (y + Y2.length) (o + O2.length) L3 Y3 O3 0 ∧ L = [(nI 38, nI 0)] ++ (L1 ++ ([(nI 40, nI (c2 + 1))] ++ (L2 ++ ([(nI 39, nI (c2 + 1 + L3.length))] ++ L3)))) ∧ Y = Y2 ++ Y3 ∧ O = O2 ++ O3)) ∨
  lk t k = 139 ∧ (∃ k1 L1 L2 c1, pe 3 d (k + 1) k1 L1 ∧ c1 = c + 1 + L1.length + 1 ∧ p 2 d k1 k' 0 c1 y o L2 Y O 0 ∧ L = [(nI 38, nI 0)] ++ (L1 ++ ([(nI 40, nI (c1 + L2.length + 1))] ++ (L2 ++ [(nI 39, nI c)])))) ∨
  lk t k = 140 ∧ (∃ T k1 L1 Y1 O1 k2 L2 Y2 O2 fi c1 c2, T = 820 * (1 - sd) + y ∧ p 2 d (k + 1) k1 0 (c + 2) (y + 1) o L1 Y1 O1 0 ∧ c1 = c + 2 + L1.length + 1 ∧ p 12 d k1 k2 T c1 (y + 1 + Y1.length) (o + O1.length) L2 Y2 O2 fi ∧ c2 = c1 + L2.length ∧
    (lk t k2 ≠ 142 ∧ k' = k2 ∧ L = [(nI 38, nI 0)] ++ ([(nI 41, nI T)] ++ (L1 ++ ([(nI 42, nI T)] ++ L2))) ∧ Y = [(fi, -1, nI c2)] ++ (Y1 ++ Y2) ∧ O = O1 ++ O2 ∨
     lk t k2 = 142 ∧ ∃ L3 Y3 O3, p 2 d (k2 + 1) k' 0 c2 (y + 1 + Y1.length + Y2.length) (o + O1.length + O2.length) L3 Y3 O3 0 ∧ L = [(nI 38, nI 0)] ++ ([(nI 41, nI T)] ++ (L1 ++ ([(nI 42, nI T)] ++ (L2 ++ (L3 ++ [(nI 43, nI T)]))))) ∧ Y = [(fi, nI c2, nI (c2 + L3.length + 1))] ++ (Y1 ++ (Y2 ++ Y3)) ∧ O = O1 ++ (O2 ++ O3)))
def CSg (t : Tp) (sd : Nat) (pe : pE) (p : pT) (tag d k k' T c y o : Nat) (L : Cds) (Y O : C3) (fi : Int32) : Prop := match tag with
  | 0 => lk t k = 125 ∧ k' = k ∧ L = [] ∧ Y = [] ∧ O = [] ∨ lk t k ≠ 125 ∧ ∃ k1 L1 Y1 O1 L2 Y2 O2, p 1 d k k1 0 c y o L1 Y1 O1 0 ∧ p 0 d k1 k' 0 (c + L1.length) (y + Y1.length) (o + O1.length) L2 Y2 O2 0 ∧ L = L1 ++ L2 ∧ Y = Y1 ++ Y2 ∧ O = O1 ++ O2
  | 1 => CSs t sd pe p d k k' c y o L Y O
  | 2 => lk t k = 123 ∧ ∃ k1, p 0 (d + 1) (k + 1) k1 0 c y o L Y O 0 ∧ k' = k1 + 1
  | 12 => lk t k = 141 ∧ (∃ k1 L1 Y1 O1 L2 Y2 O2 f2, lk t (k + 1) = 3 ∧ tV t (k + 1) ≤ 9 ∧ p 2 d (k + 2) k1 0 c y (o + 1) L1 Y1 O1 0 ∧ p 12 d k1 k' T (c + L1.length + 1) (y + Y1.length) (o + 1 + O1.length) L2 Y2 O2 f2 ∧ L = L1 ++ ([(nI 42, nI T)] ++ L2) ∧ Y = Y1 ++ Y2 ∧ O = [(nI (tV t (k + 1)), nI c, f2)] ++ (O1 ++ O2) ∧ fi = nI (700 * (1 - sd) + o)) ∨ lk t k ≠ 141 ∧ k' = k ∧ L = [] ∧ Y = [] ∧ O = [] ∧ fi = -1
  | 13 => lk t k = 0 ∧ k' = k ∧ L = [] ∧ Y = [] ∧ O = [] ∨ lk t k ≠ 0 ∧ ∃ k1 L1 Y1 O1 L2 Y2 O2, p 1 d k k1 0 c y o L1 Y1 O1 0 ∧ p 13 d k1 k' 0 (c + L1.length) (y + Y1.length) (o + O1.length) L2 Y2 O2 0 ∧ L = L1 ++ L2 ∧ Y = Y1 ++ Y2 ∧ O = O1 ++ O2
  | _ => False
def CSx (t : Tp) (sd : Nat) : Nat → pT
  | 0, _, _, _, _, _, _, _, _, _, _, _, _ => False
  | N + 1, tag, d, k, k', T, c, y, o, L, Y, O, fi => px t (N + 1) tag d k = some (0, k') ∧ CSg t sd (CE t N) (CSx t sd N) tag d k k' T c y o L Y O fi
/-- a statement that has no block, without its end -/
def pxW (t : Tp) (p : Nat → Nat → Nat → Option (Nat × Nat)) (d k : Nat) : Option (Nat × Nat) :=
  if lk t k = 128 then sq (p 10 d (k + 1)) fun k => sq (if 160 ≤ lk t k ∧ lk t k ≤ 171 then some (0, k + 1) else some (fX t 1 k, 0)) fun k => p 3 d k
  else if lk t k = 129 then p 10 d (k + 1)
  else if lk t k = 130 then sq (p 10 d (k + 1)) fun k => p 10 d k
  else if lk t k = 131 then sq (p 11 d (k + 1)) fun k => p 3 d k
  else if lk t k = 132 then sq (p 11 d (k + 1)) fun k => p 9 d k
  else if lk t k = 133 then sq (p 10 d (k + 1)) fun k => sq (p 3 d k) fun k => sq (tk1 t 44 k) fun k => sq (p 10 d k) fun k => sq (p 3 d k) fun k => sq (tk1 t 44 k) fun k => p 3 d k
  else if lk t k = 134 then sq (p 9 d (k + 1)) fun k => sq (tk1 t 44 k) fun k => p 3 d k
  else if lk t k = 135 then p 3 d (k + 1)
  else if lk t k = 136 then some (0, k + 1)
  else some (fX t 1 k, 0)
theorem pxW_e {t : Tp} {p : Nat → Nat → Nat → Option (Nat × Nat)} {d k : Nat} (h4 : lk t k ≠ 4) (h5 : lk t k ≠ 5) (h7 : lk t k ≠ 137) (h9 : lk t k ≠ 139) (h0 : lk t k ≠ 140) : pxS t p d k = sq (pxW t p d k) fun k => tk1 t 59 k := by
  unfold pxS pxW
  rw [if_neg h4, if_neg h5]
  have ct : ∀ {c : Prop} [Decidable c] {a b a' b' : Option (Nat × Nat)}, (c → a = a') → (¬ c → b = b') → (if c then a else b) = (if c then a' else b') := fun {c _ a b a' b'} x y => by
    by_cases q : c
    · rw [if_pos q, if_pos q]; exact x q
    · rw [if_neg q, if_neg q]; exact y q
  have pu : ∀ {c : Prop} [Decidable c] {a b : Option (Nat × Nat)} {f : Nat → Option (Nat × Nat)}, sq (if c then a else b) f = (if c then sq a f else sq b f) := fun {c _ a b f} => by
    by_cases q : c
    · rw [if_pos q, if_pos q]
    · rw [if_neg q, if_neg q]
  rw [pu]; refine ct (fun _ => by simp only [sq_as]) fun _ => ?_
  rw [pu]; refine ct (fun _ => rfl) fun _ => ?_
  rw [pu]; refine ct (fun _ => by simp only [sq_as]) fun _ => ?_
  rw [pu]; refine ct (fun _ => by simp only [sq_as]) fun _ => ?_
  rw [pu]; refine ct (fun _ => by simp only [sq_as]) fun _ => ?_
  rw [pu]; refine ct (fun _ => by simp only [sq_as]) fun _ => ?_
  rw [pu]; refine ct (fun _ => by simp only [sq_as]) fun _ => ?_
  rw [pu]; refine ct (fun _ => rfl) fun _ => ?_
  rw [pu]; refine ct (fun _ => ?_) fun _ => ?_
  · rfl
  · rw [if_neg h7, if_neg h9, if_neg h0]
    unfold sq; dsimp only; rw [if_neg (fX_0 (by decide))]
section RST
variable {t : Tp} {M B N d k n c : Nat} {r : Nat × Nat} {h : AH}
theorem r_149 (ih : PRH t M B N) (h4 : M ≤ 4000) (e : pxW t (px t N) d k = some r) (S : SRs h t M k 0 (c + 1) d B) (hc : c ≤ k) (hk : k ≤ M) (hd : d ≤ 20) (hn : 22 + 7 * (20 - d) ≤ n) : RPo (CW1 t (CE t N) d k) (E n 149 [.ref 189] h) h t M k (c + 1) d B r (tlS d) := by
  obtain ⟨m, rfl⟩ : ∃ m, n = m + 1 := ⟨n - 1, by omega⟩
  have tls : tlS d = 10 * (21 - d) + 8 := rfl
  unfold pxW at e
  rw [t_149 S.1]
  by_cases q128 : lk t k = 128
  · rw [if_pos q128] at e
    have lm := S.me.lk (k := k) (by omega)
    obtain ⟨h1, a1, a2⟩ := hw_1 S (w := 34) (n := m) (by decide) (by omega) (by omega) (by rw [q128]; decide)
    rw [a1, cK_v, t_149_6 a2.2.1, if_neg (by decide)]
    exact RPo.pre a2 (by omega) (st_128 ih h4 q128 a2.2 hc lm hd (by omega) e)
  rw [if_neg q128] at e
  obtain ⟨g0, a0, b0⟩ := hw_0 S (w := 34) (n := m) (by decide) (by omega) (by omega) (fun z => q128 (by rw [z.2]; decide))
  have S0 : SRs g0 t M k 0 (c + 1) d B := b0.2
  rw [a0, cK_v, t_149_6 S0.1, if_pos rfl]
  refine RPo.pre b0 (by omega) ?_
  clear a0 b0
  by_cases q129 : lk t k = 129
  · rw [if_pos q129] at e
    have lm := S0.me.lk (k := k) (by omega)
    obtain ⟨h1, a1, a2⟩ := hw_1 S0 (w := 35) (n := m) (by decide) (by omega) (by omega) (by rw [q129]; decide)
    rw [a1, cK_v, t_149_45 a2.2.1, if_neg (by decide)]
    exact RPo.pre a2 (by omega) (st_129 ih h4 q129 a2.2 hc lm hd (by omega) e)
  rw [if_neg q129] at e
  obtain ⟨g1, a1, b1⟩ := hw_0 S0 (w := 35) (n := m) (by decide) (by omega) (by omega) (fun z => q129 (by rw [z.2]; decide))
  have S1 : SRs g1 t M k 0 (c + 1) d B := b1.2
  rw [a1, cK_v, t_149_45 S1.1, if_pos rfl]
  refine RPo.pre b1 (by omega) ?_
  clear a1 b1
  by_cases q130 : lk t k = 130
  · rw [if_pos q130] at e
    have lm := S1.me.lk (k := k) (by omega)
    obtain ⟨h1, a1, a2⟩ := hw_1 S1 (w := 36) (n := m) (by decide) (by omega) (by omega) (by rw [q130]; decide)
    rw [a1, cK_v, t_149_69 a2.2.1, if_neg (by decide)]
    exact RPo.pre a2 (by omega) (st_130 ih h4 q130 a2.2 hc lm hd (by omega) e)
  rw [if_neg q130] at e
  obtain ⟨g2, a2, b2⟩ := hw_0 S1 (w := 36) (n := m) (by decide) (by omega) (by omega) (fun z => q130 (by rw [z.2]; decide))
  have S2 : SRs g2 t M k 0 (c + 1) d B := b2.2
  rw [a2, cK_v, t_149_69 S2.1, if_pos rfl]
  refine RPo.pre b2 (by omega) ?_
  clear a2 b2
  by_cases q131 : lk t k = 131
  · rw [if_pos q131] at e
    have lm := S2.me.lk (k := k) (by omega)
    obtain ⟨h1, a1, a2⟩ := hw_1 S2 (w := 37) (n := m) (by decide) (by omega) (by omega) (by rw [q131]; decide)
    rw [a1, cK_v, t_149_97 a2.2.1, if_neg (by decide)]
    exact RPo.pre a2 (by omega) (st_131 ih h4 q131 a2.2 hc lm hd (by omega) e)
  rw [if_neg q131] at e
  obtain ⟨g3, a3, b3⟩ := hw_0 S2 (w := 37) (n := m) (by decide) (by omega) (by omega) (fun z => q131 (by rw [z.2]; decide))
  have S3 : SRs g3 t M k 0 (c + 1) d B := b3.2
  rw [a3, cK_v, t_149_97 S3.1, if_pos rfl]
  refine RPo.pre b3 (by omega) ?_
  clear a3 b3
  by_cases q132 : lk t k = 132
  · rw [if_pos q132] at e
    have lm := S3.me.lk (k := k) (by omega)
    obtain ⟨h1, a1, a2⟩ := hw_1 S3 (w := 38) (n := m) (by decide) (by omega) (by omega) (by rw [q132]; decide)
    rw [a1, cK_v, t_149_129 a2.2.1, if_neg (by decide)]
    exact RPo.pre a2 (by omega) (st_132 ih h4 q132 a2.2 hc lm hd (by omega) e)
  rw [if_neg q132] at e
  obtain ⟨g4, a4, b4⟩ := hw_0 S3 (w := 38) (n := m) (by decide) (by omega) (by omega) (fun z => q132 (by rw [z.2]; decide))
  have S4 : SRs g4 t M k 0 (c + 1) d B := b4.2
  rw [a4, cK_v, t_149_129 S4.1, if_pos rfl]
  refine RPo.pre b4 (by omega) ?_
  clear a4 b4
  by_cases q133 : lk t k = 133
  · rw [if_pos q133] at e
    have lm := S4.me.lk (k := k) (by omega)
    obtain ⟨h1, a1, a2⟩ := hw_1 S4 (w := 39) (n := m) (by decide) (by omega) (by omega) (by rw [q133]; decide)
    rw [a1, cK_v, t_149_161 a2.2.1, if_neg (by decide)]
    exact RPo.pre a2 (by omega) (RPo.fin (sl_150 ih h4 q133 e a2.2 hc lm hd (by omega)) (fun h' hs' => t_149_168 hs' _ _ _))
  rw [if_neg q133] at e
  obtain ⟨g5, a5, b5⟩ := hw_0 S4 (w := 39) (n := m) (by decide) (by omega) (by omega) (fun z => q133 (by rw [z.2]; decide))
  have S5 : SRs g5 t M k 0 (c + 1) d B := b5.2
  rw [a5, cK_v, t_149_161 S5.1, if_pos rfl]
  refine RPo.pre b5 (by omega) ?_
  clear a5 b5
  by_cases q134 : lk t k = 134
  · rw [if_pos q134] at e
    have lm := S5.me.lk (k := k) (by omega)
    obtain ⟨h1, a1, a2⟩ := hw_1 S5 (w := 40) (n := m) (by decide) (by omega) (by omega) (by rw [q134]; decide)
    rw [a1, cK_v, t_149_177 a2.2.1, if_neg (by decide)]
    exact RPo.pre a2 (by omega) (st_134 ih h4 q134 a2.2 hc lm hd (by omega) e)
  rw [if_neg q134] at e
  obtain ⟨g6, a6, b6⟩ := hw_0 S5 (w := 40) (n := m) (by decide) (by omega) (by omega) (fun z => q134 (by rw [z.2]; decide))
  have S6 : SRs g6 t M k 0 (c + 1) d B := b6.2
  rw [a6, cK_v, t_149_177 S6.1, if_pos rfl]
  refine RPo.pre b6 (by omega) ?_
  clear a6 b6
  by_cases q135 : lk t k = 135
  · rw [if_pos q135] at e
    have lm := S6.me.lk (k := k) (by omega)
    obtain ⟨h1, a1, a2⟩ := hw_1 S6 (w := 41) (n := m) (by decide) (by omega) (by omega) (by rw [q135]; decide)
    rw [a1, cK_v, t_149_211 a2.2.1, if_neg (by decide)]
    exact RPo.pre a2 (by omega) (st_135 ih h4 q135 a2.2 hc lm hd (by omega) e)
  rw [if_neg q135] at e
  obtain ⟨g7, a7, b7⟩ := hw_0 S6 (w := 41) (n := m) (by decide) (by omega) (by omega) (fun z => q135 (by rw [z.2]; decide))
  have S7 : SRs g7 t M k 0 (c + 1) d B := b7.2
  rw [a7, cK_v, t_149_211 S7.1, if_pos rfl]
  refine RPo.pre b7 (by omega) ?_
  clear a7 b7
  obtain ⟨mm, hm⟩ : ∃ mm, m = mm + 2 := ⟨m - 2, by omega⟩
  obtain ⟨h1, a1, a2, a3⟩ := r_tW (d := mm) S7.1 S7.2.1 S7.2.2.1 (w := 42) (by decide)
  rw [← hm] at a1
  have w8 := lk_wd (t := t) (k := k) (j := 8) (by decide)
  rw [show wLn.getD 8 0 = 42 from by decide] at w8
  by_cases q : lk t k = 136
  · rw [if_pos q] at e
    cases e
    have lm := S7.me.lk (k := k) (by omega)
    have f0 : st 0 (fW t k (kw 42)) = 0 := by unfold st fW; rw [if_pos rfl, if_pos (w8.mp q)]
    rw [f0] at a3
    have S8 : SRs h1 t M (k + 1) 0 (c + 1) d B := S7.mv a2 a3
    rw [a1, cK_n, t_149_235 S8.1]
    exact RPo.pre (RSp.mk a2 (by decide) S8) (by omega) (o_em S8 (by omega) h4 lm (by omega) (by omega) rfl rfl (fun v h' S' => t_149_242 S'.1 _ _ _ _) (Or.inr (Or.inr (Or.inr (Or.inr (Or.inr (Or.inr (Or.inr (Or.inr ⟨q, rfl, rfl⟩)))))))))
  · rw [if_neg q] at e
    cases e
    have f0 : st 0 (fW t k (kw 42)) = fX t 1 k := by unfold st fW; rw [if_pos rfl, if_neg (fun z => q (w8.mpr z))]
    rw [f0] at a3
    have S8 : SRs h1 t M (k + 1) (fX t 1 k) (c + 1) d B := S7.mv a2 a3
    obtain ⟨h2, L2, X1, X2, X3⟩ := x_em (T := 1) (tl := tlS d) (K := Q m 149 242 [some (.ref 189), none, none]) (n := m) (x := nI 37) (y := nI 0) S8 h4 (by omega) (by omega) (by omega) (by omega) (fun v h' S' => t_149_242 S'.1 _ _ _ _)
    rw [a1, cK_n, t_149_235 S8.1, X1]
    exact ⟨h2, L2, rfl, (RSp.nl (RSp.mk a2 (by decide) S8) X2 (by omega)).any (fX_0 (by decide)) 0, fun z => absurd z (fX_0 (by decide)), fun _ => X3⟩
/-- a place is written: the count of codes -/
theorem r_145 {f y o sd x : Nat} (S : SRt h t M k f c y o d sd) (hx : x < 4400) (hn : 1 ≤ n) : E n 145 [.ref 189, .int (nI x)] h = some (none, sA h 275 (4400 * (1 - sd) + x) (nI c)) ∧ SRt (sA h 275 (4400 * (1 - sd) + x) (nI c)) t M k f c y o d sd := by
  obtain ⟨m, rfl⟩ : ∃ m, n = m + 1 := ⟨n - 1, by omega⟩
  have fr : Fr [] [275] h (sA h 275 (4400 * (1 - sd) + x) (nI c)) := Fr.rfl.sA (by decide)
  obtain ⟨⟨s1, s2, s3, s4, s5, s6, s7⟩, y1, y2, y3, y4⟩ := S
  refine ⟨?_, ⟨s1.sA, s2.fr fr (by decide), s3.fr fr (by decide) (by decide) (by decide) (by decide) (by decide), s4, s5, s6, s7⟩, y1, y2, y3, y4⟩
  rw [t_145 s1, s5, nI_add, gd_nI (by omega) (by decide), ix_nI (by omega), s4]
end RST
