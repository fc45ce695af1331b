/-! ===== PRICE AS A CALL ===== -/
/-- a weight that a service takes -/
def tkS (bk : Bk) (sv : Nat) (x : Int32) : Option Nat := if x < nI 1 then none else if nI (bk 19 sv) < x then none else some (ix x)
def prA (bk : Bk) (sv : Nat) (x : Int32) (f t : Nat) : Int32 := match tkS bk sv x with
  | none => -1
  | some w => prS bk sv w (nI (znS bk f t))
theorem tkS_c {bk : Bk} (W : WB bk) {sv : Nat} (hS : sv < bk 0 2) (x : Int32) : (tkS bk sv x = none ∧ (x < nI 1 ∨ ¬ x < nI 1 ∧ nI (bk 19 sv) < x)) ∨ ∃ w, 1 ≤ w ∧ w ≤ bk 19 sv ∧ x = nI w ∧ tkS bk sv x = some w := by
  have wm := (W.2.2.2.2.1 sv hS).2.2.1
  unfold tkS
  by_cases h0 : x < nI 1
  · exact Or.inl ⟨if_pos h0, Or.inl h0⟩
  · rw [if_neg h0]
    by_cases h1 : nI (bk 19 sv) < x
    · exact Or.inl ⟨if_pos h1, Or.inr ⟨h0, h1⟩⟩
    · rcases pk_ix x (show bk 19 sv + 1 < 2 ^ 31 by omega) with q | q | ⟨j, hj, q⟩
      · exact absurd (Int32.lt_trans q (by decide)) h0
      · exact absurd (Int32.lt_of_lt_of_le (nI_lt (show bk 19 sv < bk 19 sv + 1 by omega) (by omega)) q) h1
      · refine Or.inr ⟨j, ?_, by omega, q, by rw [if_neg h1, q, ix_nI (by omega)]⟩
        by_cases r : j = 0
        · subst r
          rw [q] at h0
          exact absurd (show nI 0 < nI 1 by decide) h0
        · omega
theorem znS_le {bk : Bk} (f t : Nat) : znS bk f t ≤ 9 := by
  unfold znS
  split <;> omega
section PRQ
variable {d : Nat} {h : AH} {b : Nat} {bk : Bk} {G Cp : Nat → Nat → Nat} {v : Nat}
theorem hv_N {n j : Nat} (hj : j < n) (hn : n < 2 ^ 31) : hv (nI j) n = some j := by
  unfold hv
  rw [if_neg (nI_nlt (by omega) (by omega)), if_pos (nI_lt hj hn), ix_nI (by omega)]
theorem c_priceOf (hs : Sh h) (W : WB bk) (B : CB h b bk G Cp) {sv f t : Nat} (hS : sv < bk 0 2) (hf : f < bk 0 0) (ht : t < bk 0 0) (x : Int32) : E (d + 5) 219 [.ref b, .int (nI sv), .int x, .int (nI f), .int (nI t)] h = some (some (.int (prA bk sv x f t)), h) := by
  have wm := (W.2.2.2.2.1 sv hS).2.2.1
  obtain ⟨p2, q2⟩ := B.2.2.1 2 (by decide)
  have c := B.2.2.2.2.2.2.1 sv hS
  unfold prA
  rw [t_219 hs, ck_ok B.1, p2, Option.bind_some, ck_ok q2.1, al_get hs q2 hS, cK_v, t_219_8 hs, ck_ok c.1, ck_ok c.1, t_221 hs]
  rcases tkS_c W hS x with ⟨e, q | ⟨q, r⟩⟩ | ⟨w, h1, h2, rfl, e⟩
  · rw [if_pos q, cK_v, t_219_19 hs, if_pos rfl, e]
  · rw [if_neg q, ck_ok c.1, c.2.2.2.1, if_pos r, cK_v, t_219_19 hs, if_pos rfl, e]
  · rw [if_neg (nI_nlt h1 (by omega)), ck_ok c.1, c.2.2.2.1, if_neg (nI_nlt h2 (by omega)), cK_v, t_219_19 hs, if_neg (by decide), ck_ok B.1, c_zone hs W B hf ht, cK_v, t_219_32 hs, ck_ok c.1, c_prS hs W B hS (by omega), cK_v, t_219_35 hs, e]
theorem c_price (hs : Sh h) (W : WB bk) (hb : gR h 2048 156 = some b) (B : CB h b bk G Cp) {sv f t : Nat} (hS : sv < bk 0 2) (hf : f < bk 0 0) (ht : t < bk 0 0) (x : Int32) : E (d + 6) 20 [.ref 100, .int (nI sv), .int x, .int (nI f), .int (nI t)] h = some (some (.int (prA bk sv x f t)), h) := by
  have w0 := W.1.1
  have w2 := W.1.2.2.1
  rw [t_20 hs, hb, Option.bind_some, ck_ok B.1, (c_has hs W B _).2.2.1, cK_v, t_20_15 hs, hb1_s (hv_N hS (by omega)), if_neg (by decide), ck_ok B.1, (c_has hs W B _).1, cK_v, t_20_24 hs, hb1_s (hv_N hf (by omega)), if_neg (by decide), ck_ok B.1, (c_has hs W B _).1, cK_v, t_20_34 hs, hb1_s (hv_N ht (by omega)), if_neg (by decide), ck_ok B.1, c_priceOf hs W B hS hf ht, cK_v, t_20_57 hs]
theorem r_prS (hs : Sh h) (W : WB bk) (hv' : v ≤ 1) (hN : gI h 3597 189 = nI v) (B : RB h v bk) {sv w z : Nat} (hS : sv < bk 0 2) (hw : w ≤ 4000) (hz : z ≤ 9) : E (d + 1) 85 [.ref 189, .int (nI sv), .int (nI w), .int (nI z)] h = some (some (.int (prS bk sv w (nI z))), h) := by
  rw [t_85 hs, hN, pk_mul, nI_add]
  exact r_prF hs W hv' B hS hw hz (bk 20 sv) 0 0 (by omega)
theorem r_price (hs : Sh h) (W : WB bk) (hv' : v ≤ 1) (hN : gI h 3597 189 = nI v) (B : RB h v bk) {sv f t : Nat} (hS : sv < bk 0 2) (hf : f < bk 0 0) (ht : t < bk 0 0) (x : Int32) : E (d + 3) 80 [.ref 189, .int (nI sv), .int x, .int (nI f), .int (nI t)] h = some (some (.int (prA bk sv x f t)), sI h 3586 189 (nI 0)) := by
  have w0 := W.1.1
  have w2 := W.1.2.2.1
  have wm := (W.2.2.2.2.1 sv hS).2.2.1
  have f0 : Fr [3586] [] h (sI h 3586 189 (nI 0)) := Fr.rfl.sI (by decide)
  have hs0 : Sh (sI h 3586 189 (nI 0)) := hs.sI
  have B0 : RB (sI h 3586 189 (nI 0)) v bk := B.fr f0 (by decide)
  have hN0 : gI (sI h 3586 189 (nI 0)) 3597 189 = nI v := hN
  have bm := (B0.2.2.2.2.1 sv hS).2.2.1
  unfold prA
  rw [t_80 hs, (r_has hs W hv' hN B _).2, cK_v, t_80_6 hs, hb1_s (hv_N hS (by omega)), if_neg (by decide), (r_has hs W hv' hN B _).1, cK_v, t_80_14 hs, hb1_s (hv_N hf (by omega)), if_neg (by decide), (r_has hs W hv' hN B _).1, cK_v, t_80_23 hs, hb1_s (hv_N ht (by omega)), if_neg (by decide), ck_ok (show gC h 189 = 14 from ShC hs (by decide)), show gI (sI h 3586 189 (nI 0)) 3586 189 = nI 0 from rfl, if_neg (by decide), t_83 hs0]
  rcases tkS_c W hS x with ⟨e, q | ⟨q, r⟩⟩ | ⟨w, h1, h2, rfl, e⟩
  · rw [if_neg (fun w => by
      rcases pk_ix x (show 1 < 2 ^ 31 by decide) with q1 | q1 | ⟨j, hj, q1⟩
      · exact Int32.lt_irrefl (Int32.lt_trans w q1)
      · exact Int32.lt_irrefl (Int32.lt_of_lt_of_le q q1)
      · have : j = 0 := by omega
        subst this
        rw [q1] at w
        exact absurd w (by decide)), cK_v, t_80_49 hs0, if_pos rfl, e]
  · rw [if_pos (show nI 0 < x from Int32.lt_trans (show nI 0 < nI (bk 19 sv) from nI_lt (by have := (W.2.2.2.2.1 sv hS).2.1; omega) (by omega)) r), hN0, pk_mul, nI_add, gd_nI (by omega) (by decide), ix_nI (by omega), bm, if_pos r, cK_v, t_80_49 hs0, if_pos rfl, e]
  · rw [if_pos (nI_lt (by omega) (by omega)), hN0, pk_mul, nI_add, gd_nI (by omega) (by decide), ix_nI (by omega), bm, if_neg (nI_nlt h2 (by omega)), cK_v, t_80_49 hs0, if_neg (by decide), r_zone hs0 W hv' hN0 B0 hf ht, cK_v, t_80_62 hs0, ck_ok (show gC (sI h 3586 189 (nI 0)) 189 = 14 from ShC hs0 (by decide)), r_prS hs0 W hv' hN0 B0 hS (by omega) (znS_le f t), cK_v, t_80_65 hs0, e]
end PRQ
