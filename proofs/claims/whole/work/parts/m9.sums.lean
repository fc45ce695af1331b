/-! ===== RUN: expressions on both sides: comparisons, sums, products ===== -/
def offR (tag : Nat) : Nat := match tag with | 3 => 3 | 4 => 2 | 5 => 1 | 6 => 1 | _ => 0
/-- what is told of the codes L of the tokens k .. k' -/
def EXm (c : CXm) (M N : Nat) : Prop := ∀ (tag d k k' : Nat) (L : Cds), CE (kT c) N tag d k k' L → ∀ (hc hr : AH) (D T p n : Nat), Gs c D T p k hc hr → AT (hR c) (4400 * kn c 5 + p) L → p + L.length ≤ 4300 → d ≤ 20 → k ≤ M → T + 8 * (21 - d) + offR tag ≤ 1900 → 24 + 9 * (20 - d) ≤ n →
  (tag = 3 → EvL c (E (n + 3) 361 [.ref 175, .int (nI d)] hc) hc hr D T (p + L.length) k') ∧
  (tag = 4 → EvL c (E (n + 2) 382 [.ref 175, .int (nI d)] hc) hc hr D T (p + L.length) k') ∧
  (tag = 5 → ∀ T0 x j, T = T0 + 1 → gB hr 289 T0 = x → j ≤ k → EvL c (Q (n + 1) 382 9 [some (.ref 175), some (.int (nI d)), some (.long x), none, some (.int (nI j)), none, none, none] [] hc) hc hr D T0 (p + L.length) k') ∧
  (tag = 6 → EvL c (E (n + 1) 393 [.ref 175, .int (nI d)] hc) hc hr D T (p + L.length) k') ∧
  (tag = 7 → ∀ T0 x j, T = T0 + 1 → gB hr 289 T0 = x → j ≤ k → EvL c (Q n 393 9 [some (.ref 175), some (.int (nI d)), some (.long x), none, some (.int (nI j)), none, none, none] [] hc) hc hr D T0 (p + L.length) k') ∧
  (tag = 8 → EvL c (E n 384 [.ref 175, .int (nI d)] hc) hc hr D T (p + L.length) k') ∧
  (tag = 9 → EvI c (itv (kn c 6)) (E n 363 [.ref 175, .int (nI d)] hc) hc hr D T (p + L.length) k') ∧
  (tag = 10 → EvI c trv (E (n + 1) 364 [.ref 175, .int (nI d)] hc) hc hr D T (p + L.length) k')
section LEV
variable {c : CXm} {M N d k k' D T p n : Nat} {hc hr h1 : AH} {L : Cds}
theorem ce_le (m : ME (kT c) M) {tag : Nat} (e : CE (kT c) N tag d k k' L) (hk : k ≤ M) : k' ≤ M := by
  cases N with
  | zero => exact e.elim
  | succ N => exact px_le m _ _ _ _ _ e.1 rfl hk
theorem ce_1 {tag : Nat} (e : CE (kT c) (N + 1) tag d k k' L) : CE1 (kT c) (CE (kT c) N) tag d k k' L := e.2
theorem EvL.of {x : Int64} {hc' : AH} (a : Fr KE XE hc hc') (b : stp1 hc hc') (g : Gv c D T p k x hc' hr) : EvL c (some (some (.long x), hc')) hc hr D T p k := ⟨x, hc', rfl, Or.inl ⟨a, b, g⟩⟩
theorem EvL.dd {x : Int64} {hc' : AH} (g : Dd c D hc' hr) : EvL c (some (some (.long x), hc')) hc hr D T p k := ⟨x, hc', rfl, Or.inr g⟩
theorem EvI.dd {P : Int32 → Prop} {x : Int32} {hc' : AH} (g : Dd c D hc' hr) : EvI c P (some (some (.int x), hc')) hc hr D T p k := ⟨x, hc', rfl, Or.inr g⟩
theorem EvI.of {P : Int32 → Prop} {x : Int32} {hc' : AH} (q : P x) (a : Fr KE XE hc hc') (b : stp1 hc hc') (g : Gv c D T p k x.toInt64 hc' hr) : EvI c P (some (some (.int x), hc')) hc hr D T p k := ⟨x, hc', rfl, Or.inl ⟨q, a, b, g⟩⟩
/-- behind another part of the run -/
theorem EvL.pre {q : Option Ot} {hc0 hr0 : AH} (a : EvL c q hc hr D T p k) (f : Fr KE XE hc0 hc) (b : stp1 hc0 hc) (e : LPm c hr0 = LPm c hr) (hf : HF D hr0 hr) (w : ∀ j, j < T → gB hr 289 j = gB hr0 289 j) : EvL c q hc0 hr0 D T p k := by
  obtain ⟨x, hc', a1, a2⟩ := a
  rcases a2 with ⟨b1, b2, b3⟩ | b1
  · exact ⟨x, hc', a1, Or.inl ⟨f.trans b1, b.tr b2, b3.pre e hf w⟩⟩
  · exact ⟨x, hc', a1, Or.inr (b1.pre e hf)⟩
theorem EvI.pre {P : Int32 → Prop} {q : Option Ot} {hc0 hr0 : AH} (a : EvI c P q hc hr D T p k) (f : Fr KE XE hc0 hc) (b : stp1 hc0 hc) (e : LPm c hr0 = LPm c hr) (hf : HF D hr0 hr) (w : ∀ j, j < T → gB hr 289 j = gB hr0 289 j) : EvI c P q hc0 hr0 D T p k := by
  obtain ⟨x, hc', a1, a2⟩ := a
  rcases a2 with ⟨b0, b1, b2, b3⟩ | b1
  · exact ⟨x, hc', a1, Or.inl ⟨b0, f.trans b1, b.tr b2, b3.pre e hf w⟩⟩
  · exact ⟨x, hc', a1, Or.inr (b1.pre e hf)⟩
/-- a value on the pile, another below: two become one -/
theorem Gv.bin (K : KXs c) {x : Nat} (hx : 7 ≤ x ∧ x < 14) {a b : Int64} (g : Gs c D (T + 1 + 1) p k hc hr) (va : gB hr 289 T = a) (vb : gB hr 289 (T + 1) = b) (nz : ¬ ((x = 10 ∨ x = 11) ∧ b = 0)) (hT : T + 1 < 2000) (h4 : p < 4400) {y : Int32} (A : AT (hR c) (4400 * kn c 5 + p) ((nI x, y) :: L)) : Gv c D T (p + 1) k (binV x a b) hc hr := by
  have hs := g.sR K
  have hsf : Sh (fet hr p) := fet_fr.sh hs
  have eT : gI (fet hr p) 3723 189 = nI (T + 1 + 1) := by rw [fet_fr.I (by decide)]; exact g.2.2.2.2.1
  have b1 : gB (fet hr p) = gB hr := funext fun z => fet_fr.B (k := z) List.not_mem_nil
  have := o_bin (n := kn c 8 + 20) hsf hx y hT eT (by rw [b1, vb]; exact nz) (by omega)
  rw [b1, va, vb] at this
  exact Gv.op K g h4 A this Fr.rfl g.2.2.1 rfl
theorem ex_3 (K : KXs c) (hM : ME (kT c) M) (h4 : M ≤ 4000) (ih : EXm c M N) (e : CE (kT c) (N + 1) 3 d k k' L) (G : Gs c D T p k hc hr) (A : AT (hR c) (4400 * kn c 5 + p) L) (hp : p + L.length ≤ 4300) (hd : d ≤ 20) (hk : k ≤ M) (hT : T + 8 * (21 - d) + 3 ≤ 1900) (hn : 24 + 9 * (20 - d) ≤ n) : EvL c (E (n + 3) 361 [.ref 175, .int (nI d)] hc) hc hr D T (p + L.length) k' := by
  obtain ⟨k1, L1, p1, p2⟩ := ce_1 e
  have hk1 := ce_le hM p1 hk
  have sC := G.sC
  have A1 : AT (hR c) (4400 * kn c 5 + p) L1 ∧ p + L1.length ≤ p + L.length := by
    rcases p2 with ⟨-, L2, -, e⟩ | ⟨-, -, e⟩
    · rw [e] at A ⊢; exact ⟨(AT_app.mp A).1, by rw [List.length_append]; omega⟩
    · rw [← e]; exact ⟨A, Nat.le_refl _⟩
  obtain ⟨x, hc1, a1, a2⟩ := (ih 4 d k k1 L1 p1 hc hr D T p n G A1.1 (by omega) hd hk (by show T + 8 * (21 - d) + 2 ≤ _; omega) hn).2.1 rfl
  rw [t_361 sC, a1, cK_v]
  rcases a2 with ⟨f1, st1, hr1, l1, g1, hf1, v1, b1⟩ | dd
  · have s1 := g1.sC
    have lb := lk_b (t := kT c) (k := k1)
    rw [t_361_5 s1, cm_peek g1.1.ci K (by omega) (by omega) g1.2.2.1, cK_v, t_361_10 s1, cm_go s1 (by omega) g1.2.1, cK_v, t_361_16 s1, if_neg (by decide)]
    simp only [show (nI (lk (kT c) k1) = nI 60) = (lk (kT c) k1 = 60) from propext (nI_eq (by omega) (by decide)), show (nI (lk (kT c) k1) = nI 61) = (lk (kT c) k1 = 61) from propext (nI_eq (by omega) (by decide))]
    rcases p2 with ⟨q, L2, p3, eL⟩ | ⟨q, ek, eL⟩
    · have A2 : AT (hR c) (4400 * kn c 5 + (p + L1.length)) (L2 ++ [((if lk (kT c) k1 = 60 then nI 12 else nI 13), nI 0)]) := by
        rw [eL] at A; have := (AT_app.mp A).2; rw [Nat.add_assoc] at this; exact this
      have hlen : L.length = L1.length + (L2.length + 1) := by rw [eL, List.length_append, List.length_append]; rfl
      have kM := hM.lk (k := k1) (by omega)
      have g1' : Gs c D (T + 1) (p + L1.length) (k1 + 1) (sI hc1 1545 175 ((gI hc1 1545 175) + (nI 1))) hr1 := by rw [g1.2.2.1, nI_add]; exact g1.atC
      obtain ⟨x2, hc2, c1, c2⟩ := (ih 4 d (k1 + 1) k' L2 p3 _ hr1 D (T + 1) (p + L1.length) n g1' (AT_app.mp A2).1 (by omega) hd (by omega) (by show T + 1 + 8 * (21 - d) + 2 ≤ _; omega) hn).2.1 rfl
      have e50 : (if lk (kT c) k1 = 60 then cK (E (n + 2) 382 [.ref 175, .int (nI d)] (sI hc1 1545 175 ((gI hc1 1545 175) + (nI 1)))) (Q (n + 2) 361 50 [some (.ref 175), some (.int (nI d)), some (.long x), none, some (.int (nI (lk (kT c) k1))), none, none, none]) [] else if lk (kT c) k1 = 61 then cK (E (n + 2) 382 [.ref 175, .int (nI d)] (sI hc1 1545 175 ((gI hc1 1545 175) + (nI 1)))) (Q (n + 2) 361 50 [some (.ref 175), some (.int (nI d)), some (.long x), none, some (.int (nI (lk (kT c) k1))), none, none, none]) [] else some (some (.long x), hc1)) = cK (E (n + 2) 382 [.ref 175, .int (nI d)] (sI hc1 1545 175 ((gI hc1 1545 175) + (nI 1)))) (Q (n + 2) 361 50 [some (.ref 175), some (.int (nI d)), some (.long x), none, some (.int (nI (lk (kT c) k1))), none, none, none]) [] := by
        by_cases z : lk (kT c) k1 = 60
        · rw [if_pos z]
        · rw [if_neg z, if_pos (q.resolve_left z)]
      have fs : Fr KE XE hc1 (sI hc1 1545 175 ((gI hc1 1545 175) + (nI 1))) := Fr.rfl.sI (by decide)
      have ss : stp1 hc1 (sI hc1 1545 175 ((gI hc1 1545 175) + (nI 1))) := by unfold stp1; rw [gI_k (by decide)]; exact Nat.le_refl _
      have e51 : ∀ h', Sh h' → Q (n + 2) 361 50 [some (.ref 175), some (.int (nI d)), some (.long x), none, some (.int (nI (lk (kT c) k1))), none, none, none] [.long x2] h' = some (some (.long (binV (if lk (kT c) k1 = 60 then 12 else 13) x x2)), h') := fun h' s' => by
        rw [t_361_50 s']
        simp only [show (nI (lk (kT c) k1) = nI 60) = (lk (kT c) k1 = 60) from propext (nI_eq (by omega) (by decide))]
        by_cases z : lk (kT c) k1 = 60
        · rw [if_pos z, if_pos z]
          have bv : binV 12 x x2 = if lg_cmp x x2 < nI 0 then 1 else 0 := rfl
          rw [bv]
          by_cases z2 : lg_cmp x x2 < nI 0
          · rw [if_pos z2, if_pos z2, if_neg (by decide)]
          · rw [if_neg z2, if_neg z2, if_pos trivial]
        · rw [if_neg z, if_neg z]
          have bv : binV 13 x x2 = if lg_cmp x x2 = nI 0 then 1 else 0 := rfl
          rw [bv]
          by_cases z2 : lg_cmp x x2 = nI 0
          · rw [if_pos z2, if_pos z2, if_neg (by decide)]
          · rw [if_neg z2, if_neg z2, if_pos trivial]
      rw [e50, c1, cK_v]
      rcases c2 with ⟨f2, st2, hr2, l2, g2, hf2, v2, b2⟩ | dd
      · rw [e51 _ g2.sC]
        have G3 : Gv c D T (p + L1.length + L2.length + 1) k' (binV (if lk (kT c) k1 = 60 then 12 else 13) x x2) hc2 hr2 := by
          refine Gv.bin (a := x) (b := x2) K (by split <;> omega) g2 (by rw [b2 T (by omega)]; exact v1) v2 (fun z => by have := z.1; split at this <;> omega) (by omega) (by omega) (y := nI 0) (L := []) ?_
          have := (AT_app.mp A2).2
          rw [Nat.add_assoc, show (if lk (kT c) k1 = 60 then nI 12 else nI 13) = nI (if lk (kT c) k1 = 60 then 12 else 13) by split <;> rfl] at this
          exact this
        rw [show p + L1.length + L2.length + 1 = p + L.length by omega] at G3
        exact EvL.of (f1.trans (fs.trans f2)) (st1.tr (ss.tr st2)) (G3.pre (l1.trans l2) (hf1.tr hf2) fun j hj => (b2 j (by omega)).trans (b1 j hj))
      · rw [e51 _ dd.shC]
        exact EvL.dd (dd.pre l1 hf1)
    · rw [if_neg (fun z => q (Or.inl z)), if_neg (fun z => q (Or.inr z)), ek, eL]
      exact EvL.of f1 st1 ⟨hr1, l1, g1, hf1, v1, b1⟩
  · have s1 := dd.shC
    obtain ⟨v, ev⟩ := cm_peekD (n := n + 2) dd.ci K (by omega)
    rw [t_361_5 s1, ev, cK_v, t_361_10 s1, cm_ngo s1 (by omega) dd.ne, cK_v, t_361_16 s1, if_pos rfl]
    exact EvL.dd dd
theorem ex_4 (K : KXs c) (hM : ME (kT c) M) (ih : EXm c M N) (e : CE (kT c) (N + 1) 4 d k k' L) (G : Gs c D T p k hc hr) (A : AT (hR c) (4400 * kn c 5 + p) L) (hp : p + L.length ≤ 4300) (hd : d ≤ 20) (hk : k ≤ M) (hT : T + 8 * (21 - d) + 2 ≤ 1900) (hn : 24 + 9 * (20 - d) ≤ n) : EvL c (E (n + 2) 382 [.ref 175, .int (nI d)] hc) hc hr D T (p + L.length) k' := by
  obtain ⟨k1, L1, L2, p1, p2, eL⟩ := ce_1 e
  have hk1 := ce_le hM p1 hk
  have sC := G.sC
  have hlen : L.length = L1.length + L2.length := by rw [eL, List.length_append]
  rw [eL] at A
  have A2 := (AT_app.mp A).2
  rw [Nat.add_assoc] at A2
  obtain ⟨x, hc1, a1, a2⟩ := (ih 6 d k k1 L1 p1 hc hr D T p n G (AT_app.mp A).1 (by omega) hd hk (by show T + 8 * (21 - d) + 1 ≤ _; omega) hn).2.2.2.1 rfl
  rw [t_382 sC, a1, cK_v]
  rcases a2 with ⟨f1, st1, hr1, l1, g1, hf1, v1, b1⟩ | dd
  · rw [t_382_5 g1.sC]
    have := (ih 5 d k1 k' L2 p2 hc1 hr1 D (T + 1) (p + L1.length) n g1 A2 (by omega) hd hk1 (by show T + 1 + 8 * (21 - d) + 1 ≤ _; omega) hn).2.2.1 rfl T x 0 rfl v1 (Nat.zero_le _)
    rw [show p + L1.length + L2.length = p + L.length by omega] at this
    exact this.pre f1 st1 l1 hf1 b1
  · have s1 := dd.shC
    rw [t_382_5 s1, t_382_9 s1, if_pos (by decide), cm_ngo s1 (by omega) dd.ne, cK_v, t_382_21 s1, if_pos rfl]
    exact EvL.dd dd
theorem ex_6 (K : KXs c) (hM : ME (kT c) M) (ih : EXm c M N) (e : CE (kT c) (N + 1) 6 d k k' L) (G : Gs c D T p k hc hr) (A : AT (hR c) (4400 * kn c 5 + p) L) (hp : p + L.length ≤ 4300) (hd : d ≤ 20) (hk : k ≤ M) (hT : T + 8 * (21 - d) + 1 ≤ 1900) (hn : 24 + 9 * (20 - d) ≤ n) : EvL c (E (n + 1) 393 [.ref 175, .int (nI d)] hc) hc hr D T (p + L.length) k' := by
  obtain ⟨k1, L1, L2, p1, p2, eL⟩ := ce_1 e
  have hk1 := ce_le hM p1 hk
  have sC := G.sC
  have hlen : L.length = L1.length + L2.length := by rw [eL, List.length_append]
  rw [eL] at A
  have A2 := (AT_app.mp A).2
  rw [Nat.add_assoc] at A2
  obtain ⟨x, hc1, a1, a2⟩ := (ih 8 d k k1 L1 p1 hc hr D T p n G (AT_app.mp A).1 (by omega) hd hk (by show T + 8 * (21 - d) + 0 ≤ _; omega) hn).2.2.2.2.2.1 rfl
  rw [t_393 sC, a1, cK_v]
  rcases a2 with ⟨f1, st1, hr1, l1, g1, hf1, v1, b1⟩ | dd
  · rw [t_393_5 g1.sC]
    have := (ih 7 d k1 k' L2 p2 hc1 hr1 D (T + 1) (p + L1.length) n g1 A2 (by omega) hd hk1 (by show T + 1 + 8 * (21 - d) + 0 ≤ _; omega) hn).2.2.2.2.1 rfl T x 0 rfl v1 (Nat.zero_le _)
    rw [show p + L1.length + L2.length = p + L.length by omega] at this
    exact this.pre f1 st1 l1 hf1 b1
  · have s1 := dd.shC
    rw [t_393_5 s1, t_393_9 s1, if_pos (by decide), cm_ngo s1 (by omega) dd.ne, cK_v, t_393_21 s1, if_pos rfl]
    exact EvL.dd dd
end LEV
