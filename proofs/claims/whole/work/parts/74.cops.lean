/-! ===== ITEMS MOVE: the component's steps ===== -/
theorem HW.lt {h : AH} (w : HW h) {x c : Nat} (e : gC h x = c) (hc : c ≠ 0) : x < gN h := by
  by_cases q : x < gN h
  · exact q
  · have := w x (by omega)
    omega
abbrev kI : List Nat := [1792, 2560, 518, 768, 769, 770, 771, 772, 773, 774, 1794, 1795, 1796, 2561, 2562, 2563, 2817, 2818, 2819, 2820, 2821, 2822, 2823, 2824]
abbrev kR : List Nat := [512, 513, 514, 515, 516, 517, 520, 775, 1793, 1797, 2564, 2565, 2566, 2567, 2816]
theorem Ar.gf {mI mR : Nat → Nat → Prop} {mO mA : Nat → Prop} {h h' : AH} {l e cap n : Nat} {f : Nat → Nat} (A : Ar h l e cap n f) (w : HW h) (g : GF mI mR mO mA h h') (q1 : ¬ mI 258 l) (q2 : ¬ mR 257 l) (q3 : ¬ mO e) : Ar h' l e cap n f := by
  obtain ⟨a1, a2, a3, a4, a5, a6, a7, a8⟩ := A
  obtain ⟨-, g1, g2, -, g4, -, g6⟩ := g
  have hl := w.lt a1 (by decide)
  have he := w.lt a3 (by decide)
  exact ⟨(g1 l hl).1.trans a1, (g4 257 l hl q2).trans a2, (g1 e he).1.trans a3, (g1 e he).2.trans a4, (g2 258 l hl q1).trans a5, a6, a7, fun i hi => by rw [g6 e he q3]; exact a8 i hi⟩
theorem CB.gf {mI mR : Nat → Nat → Prop} {mO mA : Nat → Prop} {h h' : AH} {b : Nat} {bk : Bk} {G Cp : Nat → Nat → Nat} (B : CB h b bk G Cp) (w : HW h) (g : GF mI mR mO mA h h') (c1 : ∀ k, k ∈ kI → ∀ x, ¬ mI k x) (c2 : ∀ j, j < 4 → ¬ mI 258 (G 7 j) ∧ ¬ mR 257 (G 7 j) ∧ ¬ mO (G 8 j)) (c3 : ∀ k, k ∈ kR → ∀ x, ¬ mR k x) (c4 : ∀ x, idB x → ¬ mA x) : CB h' b bk G Cp := by
  have g0 := g
  obtain ⟨-, g1, g2, g3, g4, g5, g6⟩ := g
  have C : ∀ {x c : Nat}, gC h x = c → c ≠ 0 → gC h' x = c := fun e hc => (g1 _ (w.lt e hc)).1.trans e
  have I : ∀ {x c k : Nat} {v : Int32}, gC h x = c → c ≠ 0 → k ∈ kI → gI h k x = v → gI h' k x = v := fun e hc hk q => (g2 _ _ (w.lt e hc) (c1 _ hk _)).trans q
  have L : ∀ {x c k : Nat} {v : Int64}, gC h x = c → c ≠ 0 → k ∈ kI → gL h k x = v → gL h' k x = v := fun e hc hk q => (g3 _ _ (w.lt e hc) (c1 _ hk _)).trans q
  have R : ∀ {x c k : Nat} {v : Option Nat}, gC h x = c → c ≠ 0 → k ∈ kR → gR h k x = v → gR h' k x = v := fun e hc hk q => (g4 _ _ (w.lt e hc) (c3 _ hk _)).trans q
  have K : ∀ {x c n : Nat}, gC h x = c → c ≠ 0 → gK h x = n → gK h' x = n := fun e hc q => (g1 _ (w.lt e hc)).2.trans q
  have aN : ∀ x l, AN h x l → AN h' x l := fun x l ⟨a1, a2, a3, a4⟩ => ⟨C a1 (by decide), K a1 (by decide) a2, a3, fun i hi => by rw [(g5 x (w.lt a1 (by decide)) (c4 x a3)).1]; exact a4 i hi⟩
  obtain ⟨b1, b2, b3, b4, b5, b6, b7, b8⟩ := B
  refine ⟨C b1 (by decide), R b1 (by decide) (by decide) b2, fun j hj => ?_, ?_, fun i hi => ?_, fun p hp => ?_, fun s hS => ?_, fun c hc => ?_⟩
  · obtain ⟨d1, d2⟩ := b3 j hj
    obtain ⟨e1, e2, e3⟩ := c2 j hj
    have hk : 512 + j ∈ kR := by
      have : j = 0 ∨ j = 1 ∨ j = 2 ∨ j = 3 := by omega
      rcases this with rfl | rfl | rfl | rfl <;> decide
    exact ⟨R b1 (by decide) hk d1, d2.gf w g0 e1 e2 e3⟩
  · obtain ⟨d1, d2, d3, d4, d5, d6, d7, d8, d9, d10⟩ := b4
    exact ⟨R b1 (by decide) (by decide) d1, C d2 (by decide), K d2 (by decide) d3, d4, d5, R b1 (by decide) (by decide) d6, C d7 (by decide), K d7 (by decide) d8, I b1 (by decide) (by decide) d9, fun i hi => by rw [(g5 _ (w.lt d2 (by decide)) (c4 _ d4)).2, (g5 _ (w.lt d7 (by decide)) (c4 _ d5)).2]; exact d10 i hi⟩
  · obtain ⟨d1, d2, d3, d4, d5, d6, d7, d8⟩ := b5 i hi
    exact ⟨C d1 (by decide), L d1 (by decide) (by decide) d2, I d1 (by decide) (by decide) d3, I d1 (by decide) (by decide) d4, I d1 (by decide) (by decide) d5, R d1 (by decide) (by decide) d6, R d1 (by decide) (by decide) d7, aN _ _ d8⟩
  · obtain ⟨d1, d2, d3, d4, d5, d6, d7, d8, d9, d10, d11⟩ := b6 p hp
    exact ⟨C d1 (by decide), I d1 (by decide) (by decide) d2, I d1 (by decide) (by decide) d3, I d1 (by decide) (by decide) d4, I d1 (by decide) (by decide) d5, I d1 (by decide) (by decide) d6, I d1 (by decide) (by decide) d7, I d1 (by decide) (by decide) d8, I d1 (by decide) (by decide) d9, R d1 (by decide) (by decide) d10, aN _ _ d11⟩
  · obtain ⟨d1, d2, d3, d4, d5, d6, d7⟩ := b7 s hS
    obtain ⟨-, i0, -, i0'⟩ := d6 0 (by decide)
    obtain ⟨-, i1, -, i1'⟩ := d6 1 (by decide)
    obtain ⟨-, i2, -, i2'⟩ := d6 2 (by decide)
    obtain ⟨-, i3, -, i3'⟩ := d6 3 (by decide)
    refine ⟨C d1 (by decide), L d1 (by decide) (by decide) d2, I d1 (by decide) (by decide) d3, I d1 (by decide) (by decide) d4, I d1 (by decide) (by decide) d5, fun j hj => ?_, fun k hk => ?_⟩
    · obtain ⟨e1, e2, e3, e4⟩ := d6 j hj
      have hk : 2564 + j ∈ kR := by
        have : j = 0 ∨ j = 1 ∨ j = 2 ∨ j = 3 := by omega
        rcases this with rfl | rfl | rfl | rfl <;> decide
      exact ⟨R d1 (by decide) hk e1, C e2 (by decide), K e2 (by decide) e3, e4⟩
    · rw [(g5 _ (w.lt i0 (by decide)) (c4 _ i0')).1, (g5 _ (w.lt i1 (by decide)) (c4 _ i1')).1, (g5 _ (w.lt i2 (by decide)) (c4 _ i2')).1, (g5 _ (w.lt i3 (by decide)) (c4 _ i3')).1]; exact d7 k hk
  · obtain ⟨d1, d2, d3, d4, d5, d6, d7, d8, d9⟩ := b8 c hc
    exact ⟨C d1 (by decide), I d1 (by decide) (by decide) d2, I d1 (by decide) (by decide) d3, I d1 (by decide) (by decide) d4, I d1 (by decide) (by decide) d5, I d1 (by decide) (by decide) d6, I d1 (by decide) (by decide) d7, I d1 (by decide) (by decide) d8, R d1 (by decide) (by decide) d9⟩
/-- a list is changed: the others are as they were -/
theorem CS2.one {h h' : AH} {bk : Bk} {s s' : St} {G Cp G' Cp' : Nat → Nat → Nat} {r0 e' cap' : Nat} (C : CS2 h bk s G Cp) (w : HW h) (hr : lV bk r0) (h0 : r0 < 2 ∨ 10 ≤ r0) (hG : ∀ k i, ¬ (k = 9 ∧ i = r0) → G' k i = G k i ∧ Cp' k i = Cp k i) (hG9 : G' 9 r0 = e' ∧ Cp' 9 r0 = cap')
    (g : GF (lI (lo G r0)) (lR (lo G r0)) (fun y => y = la G r0 ∧ 296 ≤ la G r0) (fun _ => False) h h') (A : Ar h' (lo G r0) e' cap' (lX s' r0).length (fun k => G 4 ((lX s' r0).getD k 0))) (O : AO h' (lo G r0) e' cap') (hc : cap' < 50000) (hE : e' = la G r0 ∨ gN h ≤ e') (hX : ∀ r, r ≠ r0 → lX s' r = lX s r) : CS2 h' bk s' G' Cp' := by
  obtain ⟨D, O0, A0⟩ := C
  have eo : ∀ r, lo G' r = lo G r := fun r => by
    unfold lo
    rw [(hG 7 (r - 2) (by omega)).1, (hG 5 (r - 10) (by omega)).1, (hG 6 (r - 30) (by omega)).1]
  have ea : ∀ r, r ≠ r0 → la G' r = la G r ∧ lc Cp' r = lc Cp r := fun r q => by
    unfold la lc
    rw [(hG 8 (r - 2) (by omega)).1, (hG 9 r (by omega)).1, (hG 8 (r - 2) (by omega)).2, (hG 9 r (by omega)).2]; exact ⟨rfl, rfl⟩
  have ea0 : la G' r0 = e' ∧ lc Cp' r0 = cap' := by
    unfold la lc
    rw [if_neg (by omega), if_neg (by omega)]; exact hG9
  have e4 : G' 4 = G 4 := funext fun i => (hG 4 i (by omega)).1
  have aold : ∀ r, lV bk r → la G r < gN h := fun r q => by
    rcases (O0 r q).1.2.1 with ⟨-, q2⟩ | ⟨-, -, q2⟩
    · have hl := (O0 r q).1.1
      by_cases q3 : 61 < gN h
      · omega
      · have := g.1.1
        -- a list's cell is above 61
        by_cases q4 : r < 2 ∨ 10 ≤ r
        · have := w.lt (A0 r q q4).2.2.1 (by decide); omega
        · rw [q2]
          have q5 := w.lt (A0 r0 hr h0).2.2.1 (by decide)
          have q6 := (O0 r0 hr).1.2.1
          have := w.lt (A0 0 (Or.inl (by omega)) (Or.inl (by omega))).1 (by decide)
          have : lo G 0 = 164 := rfl
          omega
    · exact q2
  refine ⟨fun r r' h1 h2 => ⟨fun q => (D r r' h1 h2).1 (by rw [eo, eo] at q; exact q), fun q => ?_⟩, fun r h1 => ?_, fun r h1 h2 => ?_⟩
  · by_cases q1 : r = r0
    · by_cases q2 : r' = r0
      · exact Or.inl (q1.trans q2.symm)
      · rw [q1, ea0.1, (ea r' q2).1] at q
        rcases hE with q3 | q3
        · rw [q3] at q
          rcases (D r0 r' hr h2).2 q with q4 | q4
          · exact absurd q4.symm q2
          · exact Or.inr (by rw [q1, ea0.1, q3]; exact q4)
        · have := aold r' h2; omega
    · by_cases q2 : r' = r0
      · rw [q2, ea0.1, (ea r q1).1] at q
        rcases hE with q3 | q3
        · rw [q3] at q
          rcases (D r r0 h1 hr).2 q with q4 | q4
          · exact absurd q4 q1
          · exact Or.inr (by rw [(ea r q1).1]; exact q4)
        · have := aold r h1; omega
      · rw [(ea r q1).1, (ea r' q2).1] at q
        rcases (D r r' h1 h2).2 q with q4 | q4
        · exact Or.inl q4
        · exact Or.inr (by rw [(ea r q1).1]; exact q4)
  · by_cases q1 : r = r0
    · rw [q1, eo, ea0.1, ea0.2]; exact ⟨O, hc⟩
    · rw [eo, (ea r q1).1, (ea r q1).2]
      obtain ⟨⟨o1, o2, o3⟩, o4⟩ := O0 r h1
      have := g.1.1
      exact ⟨⟨by omega, by rcases o2 with o2 | ⟨o5, o6, o7⟩; exact Or.inl o2; exact Or.inr ⟨o5, o6, by omega⟩, o3⟩, o4⟩
  · by_cases q1 : r = r0
    · subst q1
      rw [eo, ea0.1, ea0.2, e4]; exact A
    · rw [eo, (ea r q1).1, (ea r q1).2, hX r q1, e4]
      refine (A0 r h1 h2).gf w g (fun q => q1 ((D r r0 h1 hr).1 q.1)) (fun q => q1 ((D r r0 h1 hr).1 q.1)) (fun q => ?_)
      rcases (D r r0 h1 hr).2 q.1 with q4 | q4
      · exact q1 q4
      · have := q.2; omega
