/-! ===== THE BOOK: a new one is made and read (component) ===== -/
/-- the first END among the tokens -/
theorem tk_M {t : Tp} : ∃ M, M ≤ t.1 ∧ tK t M = 0 ∧ ∀ j, j < M → tK t j ≠ 0 := by
  have go : ∀ n, (∃ M, M ≤ n ∧ tK t M = 0 ∧ ∀ j, j < M → tK t j ≠ 0) ∨ ((∀ j, j ≤ n → tK t j ≠ 0) ∧ n + 1 ≤ tkP t (n + 1)) := by
    intro n
    induction n with
    | zero =>
      by_cases q : tK t 0 = 0
      · exact Or.inl ⟨0, Nat.le_refl _, q, fun j hj => absurd hj (Nat.not_lt_zero _)⟩
      · refine Or.inr ⟨fun j hj => by rw [show j = 0 from by omega]; exact q, ?_⟩
        obtain ⟨a, b, c, -, e⟩ := tok_b (tkP_b (t := t) 0)
        have e' := e q
        show 0 + 1 ≤ (tok t (tkP t 0)).2.2.2
        omega
    | succ n ih =>
      rcases ih with ⟨M, m1, m2, m3⟩ | ⟨i1, i2⟩
      · exact Or.inl ⟨M, by omega, m2, m3⟩
      · by_cases q : tK t (n + 1) = 0
        · exact Or.inl ⟨n + 1, Nat.le_refl _, q, fun j hj => i1 j (by omega)⟩
        · refine Or.inr ⟨fun j hj => ?_, ?_⟩
          · by_cases w : j = n + 1
            · rw [w]; exact q
            · exact i1 j (by omega)
          · obtain ⟨a, b, c, -, e⟩ := tok_b (tkP_b (t := t) (n + 1))
            have e' := e q
            show n + 1 + 1 ≤ (tok t (tkP t (n + 1))).2.2.2
            omega
  rcases go t.1 with z | ⟨-, z⟩
  · exact z
  · have := tkP_b (t := t) (t.1 + 1)
    omega
/-- a list, or a row of longs, is made and kept in the book -/
def aLs (g : AH) (b j : Nat) : AH := sR (sR (sI (nwO g 1 3) 256 (gN g) (nI 0)) 257 (gN g) (some 61)) (512 + j) b (some (gN g))
def CIn (g : AH) (b n : Nat) : Prop := Sh g ∧ HW g ∧ gN g = b + 1 + n ∧ gC g b = 2 ∧ gR g 520 b = some 101 ∧ gI g 518 b = 0 ∧ ∀ j, j < n → j < 4 → gR g (512 + j) b = some (b + 1 + j) ∧ gC g (b + 1 + j) = 1 ∧ gR g 257 (b + 1 + j) = some 61 ∧ gI g 258 (b + 1 + j) = 0
section CTO
variable {d : Nat} {h g : AH} {b n : Nat} {t : Tp}
theorem Sh.t61 (hs : Sh g) : gC g 61 = 65 ∧ gK g 61 = 0 := ⟨by rw [← congrFun hs.c 61]; rfl, by rw [← congrFun hs.k 61]; rfl⟩
theorem CIn.ls (hb : 296 ≤ b) (hn : n < 4) (C : CIn g b n) : CIn (aLs g b n) b (n + 1) := by
  obtain ⟨c1, c2, c3, c4, c5, c6, c7⟩ := C
  unfold aLs
  have s1 : Sh (sR (sI (nwO g 1 3) 256 (gN g) (nI 0)) 257 (gN g) (some 61)) := c1.nw.sI.sR (Or.inl (inS_ge (by omega)))
  refine ⟨s1.sR (Or.inl (inS_ge hb)), HW.cg (h := nwO g 1 3) (HW.nw c2) rfl rfl, ?_, ?_, ?_, ?_, fun j hj h4 => ?_⟩
  · show gN g + 1 = _; omega
  · exact (nw_C (h := g) (c := 1) (k := 0) (n := 3) (by omega)).trans c4
  · rw [gR_k (by omega), gR_k (by decide), gRI, nw_R (by omega)]; exact c5
  · rw [gIR, gIR, gI_k (by decide), nw_I (by omega)]; exact c6
  · by_cases e : j = n
    · rw [e, show b + 1 + n = gN g from by omega]
      refine ⟨gR_s, nw_C0 (h := g) (c := 1) (k := 0) (n := 3), ?_, ?_⟩
      · rw [gR_k (by omega), gR_s]
      · rw [gIR, gIR, gI_k (by decide)]; exact nw_I0 (h := g)
    · obtain ⟨d1, d2, d3, d4⟩ := c7 j (by omega) h4
      refine ⟨?_, ?_, ?_, ?_⟩
      · rw [gR_k (by omega), gR_k (by omega), gRI, nw_R (by omega)]; exact d1
      · exact (nw_C (h := g) (c := 1) (k := 0) (n := 3) (by omega)).trans d2
      · rw [gR_k (by omega), gR_x (by omega), gRI, nw_R (by omega)]; exact d3
      · rw [gIR, gIR, gI_k (by decide), nw_I (by omega)]; exact d4
theorem CIn.row {K : Nat} (hb : 296 ≤ b) (hn : 4 ≤ n) (hK : K = 516 ∨ K = 517) (C : CIn g b n) : CIn (sR (nwA g 61 20) K b (some (gN g))) b (n + 1) := by
  obtain ⟨c1, c2, c3, c4, c5, c6, c7⟩ := C
  refine ⟨c1.nw.sR (Or.inl (inS_ge hb)), HW.cg (h := nwA g 61 20) (HW.nw c2) rfl rfl, ?_, ?_, ?_, ?_, fun j hj h4 => ?_⟩
  · show gN g + 1 = _; omega
  · exact (nw_C (h := g) (c := 61) (k := 20) (n := 20) (by omega)).trans c4
  · rw [gR_k (by omega), nw_R (by omega)]; exact c5
  · rw [gIR, nw_I (by omega)]; exact c6
  · obtain ⟨d1, d2, d3, d4⟩ := c7 j (by omega) h4
    refine ⟨?_, ?_, ?_, ?_⟩
    · rw [gR_k (by omega), nw_R (by omega)]; exact d1
    · exact (nw_C (h := g) (c := 61) (k := 20) (n := 20) (by omega)).trans d2
    · rw [gR_k (by omega), nw_R (by omega)]; exact d3
    · rw [gIR, nw_I (by omega)]; exact d4
def Gb (b : Nat) : Nat → Nat → Nat := fun r i => if r = 7 then b + 1 + i else if r = 8 then 61 else b + 5 + i
def Cp0 : Nat → Nat → Nat := fun _ _ => 0
theorem lo_bz {r : Nat} (h1 : 2 ≤ r) (h2 : lV bk0 r) : lo (Gb b) r = b + 1 + (r - 2) ∧ la (Gb b) r = 61 ∧ lc Cp0 r = 0 ∧ r < 6 := by
  have r6 : r < 6 := by
    unfold lV bk0 at h2; omega
  refine ⟨?_, ?_, ?_, r6⟩
  · unfold lo; rw [if_neg (by omega), if_neg (by omega), if_pos r6]; rfl
  · unfold la; rw [if_pos ⟨h1, r6⟩]; rfl
  · unfold lc; rw [if_pos ⟨h1, r6⟩]; rfl
theorem CIn.cb (hb : 296 ≤ b) (C : CIn g b 6) (r6 : gR g 516 b = some (b + 5) ∧ gC g (b + 5) = 61 ∧ gK g (b + 5) = 20) (r7 : gR g 517 b = some (b + 6) ∧ gC g (b + 6) = 61 ∧ gK g (b + 6) = 20) : CB g b bk0 (Gb b) Cp0 ∧ CLb g b bk0 (Gb b) Cp0 := by
  obtain ⟨c1, c2, c3, c4, c5, c6, c7⟩ := C
  have ar : ∀ j, j < 4 → ∀ f, Ar g (b + 1 + j) 61 0 0 f := fun j hj f => by
    obtain ⟨d1, d2, d3, d4⟩ := c7 j (by omega) hj
    exact ⟨d2, d3, c1.t61.1, c1.t61.2, d4, Nat.le_refl _, by decide, fun i hi => absurd hi (Nat.not_lt_zero _)⟩
  constructor
  · refine ⟨c4, c5, fun j hj => ⟨(c7 j (by omega) hj).1, ar j hj _⟩, ⟨r6.1, r6.2.1, r6.2.2, Or.inl (by show 296 ≤ b + 5 + 0; omega), Or.inl (by show 296 ≤ b + 5 + 1; omega), r7.1, r7.2.1, r7.2.2, c6, fun i hi => absurd hi (Nat.not_lt_zero _)⟩, fun i hi => absurd hi (Nat.not_lt_zero _), fun i hi => absurd hi (Nat.not_lt_zero _), fun i hi => absurd hi (Nat.not_lt_zero _), fun i hi => absurd hi (Nat.not_lt_zero _)⟩
  · refine ⟨fun r h1 h2 => ?_, fun j hj => Nat.zero_le _, fun r h1 h2 => ?_, fun r r' h1 h1' h2 h2' => ?_⟩
    · obtain ⟨e1, e2, e3, e4⟩ := lo_bz (b := b) h1 h2
      rw [e1, e2, e3]
      exact ⟨by omega, ⟨by omega, Or.inl ⟨rfl, rfl⟩, Or.inl (inS_ge (by omega))⟩, Or.inl rfl⟩
    · have := (lo_bz (b := b) (by omega) h2).2.2.2
      omega
    · obtain ⟨e1, e2, e3, e4⟩ := lo_bz (b := b) h1 h2
      obtain ⟨f1, f2, f3, f4⟩ := lo_bz (b := b) h1' h2'
      rw [e1, f1, e2]
      exact ⟨fun z => by omega, fun _ => Or.inr rfl⟩
theorem c_ctor (hs : Sh h) (w : HW h) : ∃ h', E (d + 5) 193 [.ref (gN h), .ref 101] (nwO h 2 9) = some (none, h') ∧ NFr (gN h) h h' ∧ Sh h' ∧ HW h' ∧ gN h' = gN h + 7 ∧ gS h' = gS h + 61 ∧ gC h' (gN h) = 2 ∧ gR h' 520 (gN h) = some 101 ∧ CB h' (gN h) bk0 (Gb (gN h)) Cp0 ∧ CLb h' (gN h) bk0 (Gb (gN h)) Cp0 := by
  obtain ⟨b, hbE⟩ : ∃ b, b = gN h := ⟨_, rfl⟩
  have hb : 296 ≤ b := by have := hs.2; omega
  obtain ⟨g0, g0E⟩ : ∃ g0, g0 = sR (nwO h 2 9) 520 b (some 101) := ⟨_, rfl⟩
  have C0 : CIn g0 b 0 := by
    rw [g0E]
    refine ⟨hs.nw.sR (Or.inl (inS_ge hb)), HW.cg (h := nwO h 2 9) (HW.nw w) rfl rfl, ?_, ?_, gR_s, ?_, fun j hj => absurd hj (Nat.not_lt_zero _)⟩
    · show gN h + 1 = _; omega
    · rw [hbE]; exact nw_C0 (h := h) (c := 2) (k := 0) (n := 9)
    · rw [gIR, hbE]; exact nw_I0 (h := h)
  have st : ∀ (g : AH) (n pc1 pc2 : Nat), CIn g b n → n < 4 → (∀ (g' : AH) (s0 s1 : Nat), Sh g' → Q (d + 4) 193 pc1 [some (.ref b), some (.ref 101)] [.ref s1, .ref s0] g' = cK (E (d + 4) 226 [.ref s1] g') (Q (d + 4) 193 pc2 [some (.ref b), some (.ref 101)]) [.ref s1, .ref s0]) → ∃ X g2 : AH, Q (d + 4) 193 pc1 [some (.ref b), some (.ref 101)] [.ref (gN g), .ref b] (nwO g 1 3) = Q (d + 4) 193 pc2 [some (.ref b), some (.ref 101)] [.ref (gN g), .ref b] X ∧ Sh X ∧ gC X b = 2 ∧ gN X = gN g2 ∧ sR X (512 + n) b (some (gN g)) = g2 ∧ CIn g2 b (n + 1) ∧ NFr b g g2 ∧ gS g2 = gS g + 3 := fun g n pc1 pc2 C hn ht => by
    have g3 := C.2.2.1
    have q : b ≤ gN g := by omega
    refine ⟨sR (sI (nwO g 1 3) 256 (gN g) (nI 0)) 257 (gN g) (some 61), aLs g b n, ?_, C.1.nw.sI.sR (Or.inl (inS_ge (by omega))), (nw_C (h := g) (c := 1) (k := 0) (n := 3) (by omega)).trans C.2.2.2.1, ?_, rfl, C.ls hb hn, ?_, rfl⟩
    · rw [ht _ _ _ C.1.nw, c_newAL C.1.nw (nw_C0 (h := g) (c := 1) (k := 0) (n := 3)) (by omega), cK_n]
    · have y1 : gN (sR (sI (nwO g 1 3) 256 (gN g) (nI 0)) 257 (gN g) (some 61)) = gN g + 1 := rfl
      have y2 : gN (aLs g b n) = gN g + 1 := rfl
      rw [y1, y2]
    · unfold aLs; exact (((NFr.rfl.nw).sI q).sR q).sR (Nat.le_refl _)
  obtain ⟨X1, g1, p1, q1, k1, e1, i1, C1, f1', s1'⟩ := st g0 0 13 17 C0 (by decide) (fun g' s0 s1 hs' => t_193_13 hs' _ _ _ _)
  obtain ⟨X2, g2, p2, q2, k2, e2, i2, C2, f2', s2'⟩ := st g1 1 24 28 C1 (by decide) (fun g' s0 s1 hs' => t_193_24 hs' _ _ _ _)
  obtain ⟨X3, g3, p3, q3, k3, e3, i3, C3, f3', s3'⟩ := st g2 2 35 39 C2 (by decide) (fun g' s0 s1 hs' => t_193_35 hs' _ _ _ _)
  obtain ⟨X4, g4, p4, q4, k4, e4, i4, C4, f4', s4'⟩ := st g3 3 46 50 C3 (by decide) (fun g' s0 s1 hs' => t_193_46 hs' _ _ _ _)
  have C5 := C4.row (K := 516) hb (by decide) (Or.inl rfl)
  have C6 := C5.row (K := 517) hb (by decide) (Or.inr rfl)
  have n4 : gN g4 = b + 5 := C4.2.2.1
  obtain ⟨g5, g5E⟩ : ∃ g5, g5 = sR (nwA g4 61 20) 516 b (some (gN g4)) := ⟨_, rfl⟩
  rw [← g5E] at C5 C6
  have n5 : gN g5 = b + 6 := C5.2.2.1
  obtain ⟨g6, g6E⟩ : ∃ g6, g6 = sR (nwA g5 61 20) 517 b (some (gN g5)) := ⟨_, rfl⟩
  rw [← g6E] at C6
  have r6 : gR g6 516 b = some (b + 5) ∧ gC g6 (b + 5) = 61 ∧ gK g6 (b + 5) = 20 := by
    rw [g6E]
    refine ⟨?_, (nw_C (h := g5) (c := 61) (k := 20) (n := 20) (by omega)).trans ?_, (nw_K (h := g5) (c := 61) (k := 20) (n := 20) (by omega)).trans ?_⟩
    · rw [gR_k (by decide), nw_R (by omega), g5E, gR_s, n4]
    · rw [g5E, ← n4]; exact nw_C0 (h := g4) (c := 61) (k := 20) (n := 20)
    · rw [g5E, ← n4]; exact nw_K0 (h := g4) (c := 61) (k := 20) (n := 20)
  have r7 : gR g6 517 b = some (b + 6) ∧ gC g6 (b + 6) = 61 ∧ gK g6 (b + 6) = 20 := by
    rw [g6E, ← n5]
    exact ⟨gR_s, nw_C0 (h := g5) (c := 61) (k := 20) (n := 20), nw_K0 (h := g5) (c := 61) (k := 20) (n := 20)⟩
  obtain ⟨o1, o2⟩ := C6.cb hb r6 r7
  rw [← hbE]
  refine ⟨g6, ?_, ?_, C6.1, C6.2.1, C6.2.2.1, ?_, C6.2.2.2.1, C6.2.2.2.2.1, o1, o2⟩
  · rw [t_193 hs.nw, ck_ok (show gC (nwO h 2 9) b = 2 by rw [hbE]; exact nw_C0 (h := h) (c := 2) (k := 0) (n := 9)), show gN (nwO h 2 9) = gN g0 from by rw [g0E]; rfl, ← g0E, p1, t_193_17 q1, ck_ok k1, e1, show (512 : Nat) = 512 + 0 from rfl, i1, p2, t_193_28 q2, ck_ok k2, e2, show (513 : Nat) = 512 + 1 from rfl, i2, p3, t_193_39 q3, ck_ok k3, e3, show (514 : Nat) = 512 + 2 from rfl, i3, p4, t_193_50 q4, ck_ok k4, e4, show (515 : Nat) = 512 + 3 from rfl, i4, t_193_58 C4.1.nw, ck_ok (show gC (nwA g4 61 20) b = 2 from (nw_C (h := g4) (c := 61) (k := 20) (n := 20) (by omega)).trans C4.2.2.2.1), ← g5E, show gN (nwA g4 61 20) = gN g5 from by rw [g5E]; rfl, t_193_66 C5.1.nw, ck_ok (show gC (nwA g5 61 20) b = 2 from (nw_C (h := g5) (c := 61) (k := 20) (n := 20) (by omega)).trans C5.2.2.2.1), ← g6E]
  · have f0 : NFr b h g0 := by rw [g0E]; exact (NFr.rfl.nw).sR (Nat.le_refl _)
    have f4 : NFr b h g4 := (((f0.trans f1').trans f2').trans f3').trans f4'
    have f5 : NFr b h g5 := by rw [g5E]; exact f4.nw.sR (Nat.le_refl _)
    rw [g6E]; exact f5.nw.sR (Nat.le_refl _)
  · have z0 : gS g0 = gS h + 9 := by rw [g0E]; rfl
    have z5 : gS g5 = gS g4 + 20 := by rw [g5E]; rfl
    have z6 : gS g6 = gS g5 + 20 := by rw [g6E]; rfl
    omega
end CTO
