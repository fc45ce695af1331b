/-! ===== RUN: expressions on both sides: the rests of sums and products, trays ===== -/
theorem ce_gt {t : Tp} : ∀ (N tag d k k' : Nat) (L : Cds), CE t N tag d k k' L → k ≤ k' ∧ (tag ≠ 5 → tag ≠ 7 → k < k')
  | 0, _, _, _, _, _, e => e.elim
  | N + 1, tag, d, k, k', L, e => by
    have ih := ce_gt (t := t) N
    have e1 : CE1 t (CE t N) tag d k k' L := e.2
    match tag, e1 with
    | 3, ⟨k1, L1, p1, p2⟩ =>
      have h1 := (ih _ _ _ _ _ p1).2 (by decide) (by decide)
      rcases p2 with ⟨-, L2, p3, -⟩ | ⟨-, p3, -⟩
      · have := (ih _ _ _ _ _ p3).1; exact ⟨by omega, fun _ _ => by omega⟩
      · exact ⟨by omega, fun _ _ => by omega⟩
    | 4, ⟨k1, L1, L2, p1, p2, _⟩ =>
      have h1 := (ih _ _ _ _ _ p1).2 (by decide) (by decide)
      have h2 := (ih _ _ _ _ _ p2).1
      exact ⟨by omega, fun _ _ => by omega⟩
    | 5, Or.inl ⟨_, k1, L1, L2, p1, p2, _⟩ =>
      have h1 := (ih _ _ _ _ _ p1).1
      have h2 := (ih _ _ _ _ _ p2).1
      exact ⟨by omega, fun q => absurd rfl q⟩
    | 5, Or.inr ⟨_, p1, _⟩ => exact ⟨by omega, fun q => absurd rfl q⟩
    | 6, ⟨k1, L1, L2, p1, p2, _⟩ =>
      have h1 := (ih _ _ _ _ _ p1).2 (by decide) (by decide)
      have h2 := (ih _ _ _ _ _ p2).1
      exact ⟨by omega, fun _ _ => by omega⟩
    | 7, Or.inl ⟨_, k1, L1, L2, p1, p2, _⟩ =>
      have h1 := (ih _ _ _ _ _ p1).1
      have h2 := (ih _ _ _ _ _ p2).1
      exact ⟨by omega, fun _ q => absurd rfl q⟩
    | 7, Or.inr ⟨_, p1, _⟩ => exact ⟨by omega, fun _ q => absurd rfl q⟩
    | 8, q =>
      have : k < k' := by
        rcases q with ⟨-, q, -⟩ | ⟨-, q, -⟩ | ⟨-, k1, q, -, q2⟩ | ⟨-, L1, q, -⟩ | ⟨-, L1, q, -⟩ | ⟨-, L1, q, -⟩ | ⟨-, L1, q, -⟩ | ⟨-, q, -⟩
        · omega
        · omega
        · have := (ih _ _ _ _ _ q).1; omega
        · have := (ih _ _ _ _ _ q).1; omega
        · have := (ih _ _ _ _ _ q).1; omega
        · have := (ih _ _ _ _ _ q).1; omega
        · have := (ih _ _ _ _ _ q).1; omega
        · omega
      exact ⟨by omega, fun _ _ => this⟩
    | 9, q =>
      have : k < k' := by
        rcases q with ⟨-, q, -⟩ | ⟨-, q, -⟩ | ⟨-, L1, q, -⟩ | ⟨-, L1, q, -⟩ | ⟨-, L1, q, -⟩
        · omega
        · omega
        · have := (ih _ _ _ _ _ q).1; omega
        · have := (ih _ _ _ _ _ q).1; omega
        · have := (ih _ _ _ _ _ q).1; omega
      exact ⟨by omega, fun _ _ => this⟩
    | 10, ⟨_, L1, q, _⟩ =>
      have := (ih _ _ _ _ _ q).1
      exact ⟨by omega, fun _ _ => by omega⟩
    | 11, ⟨k1, L1, k2, L2, p1, _, p2, _, p3, _⟩ =>
      have h1 := (ih _ _ _ _ _ p1).1
      have h2 := (ih _ _ _ _ _ p2).1
      exact ⟨by omega, fun _ _ => by omega⟩
section LEX
variable {c : CXm} {M N d k k' D T p n : Nat} {hc hr h1 : AH} {L : Cds}
theorem dead_382 (K : KXs c) (a : Dd c D hc hr) (x : Int64) (j : Int32) (hn : 1 ≤ n) {x1 : Int32} {T0 p' k' : Nat} : EvL c (Q n 382 9 [some (.ref 175), some (.int x1), some (.long x), none, some (.int j), none, none, none] [] hc) h1 hr D T0 p' k' := by
  have s := a.shC
  rw [t_382_9 s]
  by_cases q : j < nI 4000
  · rw [if_pos q, cm_ngo s hn a.ne, cK_v, t_382_21 s, if_pos rfl]; exact ⟨_, _, rfl, Or.inr a⟩
  · rw [if_neg q]; exact ⟨_, _, rfl, Or.inr a⟩
theorem dead_393 (K : KXs c) (a : Dd c D hc hr) (x : Int64) (j : Int32) (hn : 1 ≤ n) {x1 : Int32} {T0 p' k' : Nat} : EvL c (Q n 393 9 [some (.ref 175), some (.int x1), some (.long x), none, some (.int j), none, none, none] [] hc) h1 hr D T0 p' k' := by
  have s := a.shC
  rw [t_393_9 s]
  by_cases q : j < nI 4000
  · rw [if_pos q, cm_ngo s hn a.ne, cK_v, t_393_21 s, if_pos rfl]; exact ⟨_, _, rfl, Or.inr a⟩
  · rw [if_neg q]; exact ⟨_, _, rfl, Or.inr a⟩
/-- the value that is there already -/
theorem Gv.here {x : Int64} (g : Gs c D (T + 1) p k hc hr) (v : gB hr 289 T = x) : Gv c D T p k x hc hr := ⟨hr, rfl, g, HF.rf, v, fun _ _ => rfl⟩
theorem ex_5 (K : KXs c) (hM : ME (kT c) M) (h4 : M ≤ 4000) (ih : EXm c M N) (e : CE (kT c) (N + 1) 5 d k k' L) {T0 j : Nat} {x : Int64} (G : Gs c D (T0 + 1) p k hc hr) (vx : gB hr 289 T0 = x) (hj : j ≤ k) (A : AT (hR c) (4400 * kn c 5 + p) L) (hp : p + L.length ≤ 4300) (hd : d ≤ 20) (hk : k ≤ M) (hT : T0 + 1 + 8 * (21 - d) + 1 ≤ 1900) (hn : 24 + 9 * (20 - d) ≤ n) : EvL c (Q (n + 1) 382 9 [some (.ref 175), some (.int (nI d)), some (.long x), none, some (.int (nI j)), none, none, none] [] hc) hc hr D T0 (p + L.length) k' := by
  have sC := G.sC
  have lb := lk_b (t := kT c) (k := k)
  have pk := cm_peek (n := n + 1) G.1.ci K (by omega) (by omega) G.2.2.1
  have e43 : (nI (lk (kT c) k) = nI 43) = (lk (kT c) k = 43) := propext (nI_eq (by omega) (by decide))
  have e45 : (nI (lk (kT c) k) = nI 45) = (lk (kT c) k = 45) := propext (nI_eq (by omega) (by decide))
  rw [t_382_9 sC]
  rcases ce_1 e with ⟨q, k1, L1, L2, p1, p2, eL⟩ | ⟨q, ek, eL⟩
  · have kM := hM.lk (k := k) (by omega)
    have hk1 := ce_le hM p1 (by omega)
    have lt1 : k + 1 ≤ k1 := (ce_gt _ _ _ _ _ _ p1).1
    have hlen : L.length = L1.length + (1 + L2.length) := by rw [eL, List.length_append, List.length_append]; rfl
    rw [eL] at A
    have A2 := (AT_app.mp A).2
    rw [Nat.add_assoc] at A2
    have A3 := (AT_app.mp A2).2
    rw [Nat.add_assoc] at A3
    have g1 : Gs c D (T0 + 1) p (k + 1) (sI hc 1545 175 ((gI hc 1545 175) + (nI 1))) hr := by rw [G.2.2.1, nI_add]; exact G.atC
    obtain ⟨x2, hc1, a1, a2⟩ := (ih 6 d (k + 1) k1 L1 p1 _ hr D (T0 + 1) p n g1 (AT_app.mp A).1 (by omega) hd (by omega) (by show T0 + 1 + 8 * (21 - d) + 1 ≤ _; omega) hn).2.2.2.1 rfl
    have fs : Fr KE XE hc (sI hc 1545 175 ((gI hc 1545 175) + (nI 1))) := Fr.rfl.sI (by decide)
    have ss : stp1 hc (sI hc 1545 175 ((gI hc 1545 175) + (nI 1))) := by unfold stp1; rw [gI_k (by decide)]; exact Nat.le_refl _
    have e9 : cK (E (n + 1) 362 [.ref 175] hc) (Q (n + 1) 382 21 [some (.ref 175), some (.int (nI d)), some (.long x), none, some (.int (nI j)), none, none, none]) [] = cK (E (n + 1) 393 [.ref 175, .int (nI d)] (sI hc 1545 175 ((gI hc 1545 175) + (nI 1)))) (Q (n + 1) 382 73 [some (.ref 175), some (.int (nI d)), some (.long x), none, some (.int (nI j)), some (.int (nI (if lk (kT c) k = 45 then 1 else 0))), none, none]) [] := by
      rw [cm_go sC (by omega) G.2.1, cK_v, t_382_21 sC, if_neg (by decide), pk, cK_v, t_382_28 sC]
      simp only [e43, e45]
      by_cases z : lk (kT c) k = 43
      · rw [if_pos z, pk, cK_v, t_382_46 sC]
        simp only [e43, e45]
        rw [if_neg (by omega), if_neg (by omega)]
      · have z5 := q.resolve_left z
        rw [if_neg z, pk, cK_v, t_382_37 sC]
        simp only [e43, e45]
        rw [if_pos z5, pk, cK_v, t_382_46 sC]
        simp only [e43, e45]
        rw [if_pos z5, if_pos z5]
    rw [if_pos (nI_lt (by omega) (by omega)), e9, a1, cK_v]
    have e73 : ∀ h', Sh h' → Q (n + 1) 382 73 [some (.ref 175), some (.int (nI d)), some (.long x), none, some (.int (nI j)), some (.int (nI (if lk (kT c) k = 45 then 1 else 0))), none, none] [.long x2] h' = Q (n + 1) 382 9 [some (.ref 175), some (.int (nI d)), some (.long (binV (if lk (kT c) k = 43 then 7 else 8) x x2)), none, some (.int (nI (j + 1))), none, none, none] [] h' := fun h' s' => by
      rw [t_382_73 s', nI_add]
      rcases q with z | z
      · rw [if_pos z, if_neg (show ¬ lk (kT c) k = 45 by omega), if_pos rfl]; rfl
      · rw [if_neg (show ¬ lk (kT c) k = 43 by omega), if_pos z, if_neg (by decide)]; rfl
    rcases a2 with ⟨f1, st1, hr1, l1, g1, hf1, v1, b1⟩ | dd
    · rw [e73 _ g1.sC]
      have A4 := (AT_app.mp A2).1
      have G3 : Gv c D T0 (p + L1.length + 1) k1 (binV (if lk (kT c) k = 43 then 7 else 8) x x2) hc1 hr1 := by
        refine Gv.bin (a := x) (b := x2) K (by split <;> omega) g1 (by rw [b1 T0 (by omega)]; exact vx) v1 (fun z => by have := z.1; split at this <;> omega) (by omega) (by omega) (y := nI 0) (L := []) ?_
        rw [show (if lk (kT c) k = 43 then nI 7 else nI 8) = nI (if lk (kT c) k = 43 then 7 else 8) by split <;> rfl] at A4
        exact A4
      obtain ⟨hr2, l2, g2, hf2, v2, b2⟩ := G3
      have := (ih 5 d k1 k' L2 p2 hc1 hr2 D (T0 + 1) (p + L1.length + 1) n g2 (by rw [show p + L1.length + 1 = p + (L1.length + 1) by omega]; exact A3) (by omega) hd hk1 (by show T0 + 1 + 8 * (21 - d) + 1 ≤ _; omega) hn).2.2.1 rfl T0 _ (j + 1) rfl v2 (by omega)
      rw [show p + L1.length + 1 + L2.length = p + L.length by omega] at this
      exact this.pre (fs.trans f1) (ss.tr st1) (l1.trans l2) (hf1.tr hf2) fun i hi => (b2 i hi).trans (b1 i (by omega))
    · rw [e73 _ dd.shC]
      exact dead_382 K dd _ _ (by omega)
  · have hx : EvL c (some (some (.long x), hc)) hc hr D T0 (p + L.length) k' := by
      rw [ek, eL]; exact EvL.of Fr.rfl stp1.rf (Gv.here G vx)
    by_cases z : nI j < nI 4000
    · rw [if_pos z, cm_go sC (by omega) G.2.1, cK_v, t_382_21 sC, if_neg (by decide), pk, cK_v, t_382_28 sC]
      simp only [e43]
      rw [if_neg (fun z => q (Or.inl z)), pk, cK_v, t_382_37 sC]
      simp only [e45]
      rw [if_neg (fun z => q (Or.inr z))]; exact hx
    · rw [if_neg z]; exact hx
end LEX
