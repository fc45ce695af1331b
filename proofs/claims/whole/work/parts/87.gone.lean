/-! ===== GONE ===== -/
/-- gone: whether it is told, the state behind it -/
def gnS (bk : Bk) (s : St) (x y : Int32) : Int32 × St := match hv x (bk 0 1) with
  | none => (nI 0, s)
  | some p => match hv y 27000 with
    | none => (nI 0, s)
    | some dr => if 27 ≤ dr then (tmB s p dr none, tmSt s p dr none) else (nI 0, s)
section GON
variable {d : Nat} {h : AH} {b : Nat} {bk : Bk} {G Cp : Nat → Nat → Nat} {s : St} {v : Nat}
theorem tmB_01 (p dr : Nat) (to : Option (Nat × Nat)) : tmB s p dr to = nI 0 ∨ tmB s p dr to = nI 1 := by
  unfold tmB
  split
  · exact Or.inr rfl
  · exact Or.inl rfl
theorem WS.tm (w : WS bk s) {p dr : Nat} {to : Option (Nat × Nat)} (hp : p < bk 0 1) (h1 : 27 ≤ dr) (h2 : dr < 27000) (ht : ∀ q, to = some q → q.1 < bk 0 1 ∧ 27 ≤ q.2 ∧ q.2 < 27000) : WS bk (tmSt s p dr to) := by
  unfold tmSt tmL
  obtain ⟨w1, w2, w3, w4, w5, w6, w7, w8, w9, w10, w11, w12, w13, w14⟩ := w
  cases hm : mvI s p dr with
  | some k =>
    obtain ⟨hk, e1, e2⟩ := mvI_s hm
    refine ⟨w1, w2, w3, w4, w5, w6, w7, w8, w9, w10, w11, ?_, ?_, fun m hmm => ?_⟩
    · show ((sM s).set k (p, dr, to)).length ≤ 40
      rw [List.length_set]; exact w12
    · show ((sM s).set k (p, dr, to)).Pairwise fun a b => ¬ (a.1 = b.1 ∧ a.2.1 = b.2.1)
      rw [List.pairwise_iff_getElem] at w13 ⊢
      intro i j hi hj hij
      rw [List.length_set] at hi hj
      have key : ∀ i (hi : i < (sM s).length), ((sM s).set k (p, dr, to))[i]'(by rw [List.length_set]; exact hi) = if i = k then (p, dr, to) else (sM s)[i] := fun i hi => by
        by_cases q : i = k
        · subst q; rw [if_pos rfl, List.getElem_set_self]
        · rw [if_neg q, List.getElem_set_ne (by omega)]
      rw [key i hi, key j hj]
      have old := w13 i j hi hj hij
      by_cases q1 : i = k
      · subst q1
        rw [if_pos rfl, if_neg (by omega)]
        rw [e1, e2] at old; exact old
      · rw [if_neg q1]
        by_cases q2 : j = k
        · subst q2
          rw [if_pos rfl]
          rw [e1, e2] at old; exact old
        · rw [if_neg q2]; exact old
    · have hmm : m ∈ (sM s).set k (p, dr, to) := hmm
      rcases List.mem_or_eq_of_mem_set hmm with q | q
      · exact w14 m q
      · subst q; exact ⟨hp, h1, h2, ht⟩
  | none =>
    dsimp only
    by_cases q : (sM s).length < 40
    · rw [if_pos q]
      refine ⟨w1, w2, w3, w4, w5, w6, w7, w8, w9, w10, w11, ?_, ?_, fun m hmm => ?_⟩
      · show (sM s ++ [(p, dr, to)]).length ≤ 40
        rw [List.length_append]; exact q
      · show (sM s ++ [(p, dr, to)]).Pairwise fun a b => ¬ (a.1 = b.1 ∧ a.2.1 = b.2.1)
        refine List.pairwise_append.mpr ⟨w13, List.pairwise_singleton _ _, fun a ha b' hb' => ?_⟩
        rw [List.mem_singleton] at hb'
        subst hb'
        obtain ⟨j, hj, rfl⟩ := List.getElem_of_mem ha
        exact mvI_n hm j hj
      · have hmm : m ∈ sM s ++ [(p, dr, to)] := hmm
        rcases List.mem_append.mp hmm with r | r
        · exact w14 m r
        · rw [List.mem_singleton] at r; subst r; exact ⟨hp, h1, h2, ht⟩
    · rw [if_neg q]
      exact ⟨w1, w2, w3, w4, w5, w6, w7, w8, w9, w10, w11, w12, w13, w14⟩
theorem c_gone (W : WB bk) (C : CSt h b bk s G Cp) (w : WS bk s) (C4 : CS4 h s) (x y : Int32) : ∃ h', E (d + 3) 13 [.ref 100, .int x, .int y] h = some (some (.int (gnS bk s x y).1), h') ∧ Fr [2055] [166, 167] h h' ∧ CS4 h' (gnS bk s x y).2 := by
  obtain ⟨hs, hw, hb, B, C1, C2⟩ := C
  have wp := W.1.2.1
  unfold gnS
  rw [t_13 hs, hb, Option.bind_some, ck_ok B.1, (c_has hs W B x).2.1, cK_v, t_13_11 hs]
  rcases hv_c x (show bk 0 1 < 2 ^ 31 by omega) with ⟨e, -⟩ | ⟨p, hp, rfl, e⟩
  · rw [hb1_n e, if_pos rfl, e]; exact ⟨h, rfl, Fr.rfl, C4⟩
  · rw [hb1_s e, if_neg (by decide), e]
    dsimp only
    rcases hv_c y (show 27000 < 2 ^ 31 by decide) with ⟨e', q⟩ | ⟨dr, hd, rfl, e'⟩
    · rw [e']
      dsimp only
      refine ⟨h, ?_, Fr.rfl, C4⟩
      rw [t_209 hs]
      by_cases q1 : y < nI 27
      · rw [if_pos q1, cK_v, t_13_24 hs, if_pos rfl]
      · rw [if_neg q1]
        rcases q with q | ⟨-, q⟩
        · exact absurd (Int32.lt_trans q (by decide)) q1
        · rw [if_neg q, cK_v, t_13_24 hs, if_pos rfl]
    · rw [e']
      dsimp only
      by_cases q : 27 ≤ dr
      · rw [if_pos q]
        obtain ⟨h', a1, a2, a3⟩ := c_tell (d := d) hs W w C4 hp q hd none
        refine ⟨h', ?_, a2, a3⟩
        have a1' : E (d + 2) 209 [.ref 156, .int (nI p), .int (nI dr), .int (-1)] h = some (some (.int (tmB s p dr none)), h') := a1
        rw [a1', cK_v, t_13_24 (a2.sh hs)]
        rcases tmB_01 (s := s) p dr none with r | r <;> rw [r] <;> rfl
      · rw [if_neg q]
        refine ⟨h, ?_, Fr.rfl, C4⟩
        rw [t_209 hs, if_pos (nI_lt (by omega) (by decide)), cK_v, t_13_24 hs, if_pos rfl]
theorem r_gone (hs : Sh h) (W : WB bk) (w : WS bk s) (hv' : v ≤ 1) (hN : gI h 3597 189 = nI v) (B : RB h v bk) (R4 : RS4 h s) (x y : Int32) : ∃ h', E (d + 3) 117 [.ref 189, .int x, .int y] h = some (some (.int (gnS bk s x y).1), h') ∧ Fr [3586, 3688] [265, 266, 267, 268] h h' ∧ RS4 h' (gnS bk s x y).2 := by
  have wp := W.1.2.1
  have f0 : Fr [3586, 3688] [265, 266, 267, 268] h (sI h 3586 189 (nI 0)) := Fr.rfl.sI (by decide)
  have hs0 : Sh (sI h 3586 189 (nI 0)) := hs.sI
  have B0 : RB (sI h 3586 189 (nI 0)) v bk := B.fr f0 (by decide)
  have hN0 : gI (sI h 3586 189 (nI 0)) 3597 189 = nI v := hN
  have R0 : RS4 (sI h 3586 189 (nI 0)) s := R4
  have z : ∀ {h' : AH}, Sh h' → Q (d + 2) 117 13 [some (.ref 189), some (.int x), some (.int y)] [.int (nI 0)] h' = some (some (.int (nI 0)), h') := fun hh => by rw [t_117_13 hh, if_pos (by decide)]
  unfold gnS
  rw [t_117 hs]
  rcases hv_c x (show bk 0 1 < 2 ^ 31 by omega) with ⟨e, q⟩ | ⟨p, hp, rfl, e⟩
  · rw [e]
    refine ⟨_, ?_, f0, R0⟩
    rw [t_115 hs0]
    rcases q with q | ⟨q, r⟩
    · rw [if_pos q, cK_v, z hs0]
    · rw [if_neg q, hN0, gd_nI (by omega) (by decide), ix_nI (by omega), B0.1.2.1, if_neg r, cK_v, z hs0]
  · rw [e]
    dsimp only
    rcases hv_c y (show 27000 < 2 ^ 31 by decide) with ⟨e', q⟩ | ⟨dr, hd, rfl, e'⟩
    · rw [e']
      dsimp only
      refine ⟨_, ?_, f0, R0⟩
      rw [t_115 hs0, if_neg (nI_nlt (by omega) (by omega)), hN0, gd_nI (by omega) (by decide), ix_nI (by omega), B0.1.2.1, if_pos (nI_lt hp (by omega))]
      by_cases q1 : y < nI 27
      · rw [if_pos q1, cK_v, z hs0]
      · rw [if_neg q1]
        rcases q with q | ⟨-, q⟩
        · exact absurd (Int32.lt_trans q (by decide)) q1
        · rw [if_pos (Int32.lt_of_lt_of_le (show nI 26999 < nI 27000 by decide) (Int32.not_lt.mp q)), cK_v, z hs0]
    · rw [e']
      dsimp only
      by_cases q : 27 ≤ dr
      · rw [if_pos q]
        obtain ⟨h', a1, a2, a3⟩ := r_move (d := d) hs0 W w hv' hN0 B0 R0 hp q hd none (nI 0) (fun q w => by cases w)
        refine ⟨h', ?_, f0.trans (a2.wk (by decide) (by decide)), a3⟩
        have a1' : E (d + 2) 115 [.ref 189, .int (nI p), .int (nI dr), .int (-1), .int (nI 0)] (sI h 3586 189 (nI 0)) = some (some (.int (tmB s p dr none)), h') := a1
        rw [a1', cK_v, t_117_13 (a2.sh hs0)]
        rcases tmB_01 (s := s) p dr none with r | r <;> rw [r] <;> rw [if_pos (by decide)]
      · rw [if_neg q]
        refine ⟨_, ?_, f0, R0⟩
        rw [t_115 hs0, if_neg (nI_nlt (by omega) (by omega)), hN0, gd_nI (by omega) (by decide), ix_nI (by omega), B0.1.2.1, if_pos (nI_lt hp (by omega)), if_pos (nI_lt (by omega) (by decide)), cK_v, z hs0]
end GON
