/-! ===== SORTING ===== -/
section SRT
variable {bk : Bk} {s : St}
theorem WS.nt (w : WS bk s) (i wh o : Nat) : WS bk (ntS bk s i wh o) := by
  unfold ntS
  by_cases e : bk 18 (iN s 0 i) = 2
  · rw [if_pos e]
    exact ⟨w.1, w.2.1, Nat.mod_lt _ (by decide), w.2.2.2⟩
  · rw [if_neg e]; exact w
theorem WS.ib (w : WS bk s) (W : WB bk) {i c : Nat} (hc : c < bk 0 3) (hi : i < zN s 2) (h0 : iN s 5 i = 0) (h6 : iN s 6 i = bk 25 c) : WS bk (ibS bk s i c) := by
  refine WS.nt ?_ i 1 (bk 25 c)
  obtain ⟨w1, w2, w3, w4, w5, w6, w7, w8, w9, w10, w11, w12⟩ := w
  have q1 := (W.2.2.2.2.2 c hc).1
  have f5 : ∀ j, iN (cmS (stG (stH s (bk 25 c) ((sH s (bk 25 c)).erase i)) c (sG s c ++ [i])) i 1 (bk 25 c) (some c)) 5 j = if j = i then 1 else iN s 5 j := fun j => by
    show up2 (iN s) 5 i 1 5 j = _
    by_cases q : j = i
    · rw [if_pos q, q, up2_s]
    · rw [if_neg q, up2_x q]
  have f6 : ∀ j, iN (cmS (stG (stH s (bk 25 c) ((sH s (bk 25 c)).erase i)) c (sG s c ++ [i])) i 1 (bk 25 c) (some c)) 6 j = if j = i then bk 25 c else iN s 6 j := fun j => by
    show up2 (up2 (iN s) 5 i 1) 6 i (bk 25 c) 6 j = _
    by_cases q : j = i
    · rw [if_pos q, q, up2_s]
    · rw [if_neg q, up2_x q, up2_k (by decide)]
  have f8 : ∀ j, iN (cmS (stG (stH s (bk 25 c) ((sH s (bk 25 c)).erase i)) c (sG s c ++ [i])) i 1 (bk 25 c) (some c)) 8 j = if j = i then zN s 0 else iN s 8 j := fun j => by
    show up2 (up2 (up2 (iN s) 5 i 1) 6 i (bk 25 c)) 8 i (zN s 0) 8 j = _
    by_cases q : j = i
    · rw [if_pos q, q, up2_s]
    · rw [if_neg q, up2_x q, up2_k (by decide), up2_k (by decide)]
  have fC : ∀ j, iC (cmS (stG (stH s (bk 25 c) ((sH s (bk 25 c)).erase i)) c (sG s c ++ [i])) i 1 (bk 25 c) (some c)) j = if j = i then some c else iC s j := fun j => by
    show up1 (iC s) i (some c) j = _
    by_cases q : j = i
    · rw [if_pos q, q, up1_s]
    · rw [if_neg q, up1_x q]
  refine ⟨w1, w2, w3, fun j hj => ?_, fun o => ?_, fun c' => ?_, ⟨w7.1, fun j => ?_⟩, fun t ht => ?_, w9, fun j hj => ?_, fun j hj => ?_, w12⟩
  · obtain ⟨a1, a2, a3, a4, a5, a6, a7, a8, a9, a10, a11, a12, a13⟩ := w4 j hj
    refine ⟨a1, a2, a3, a4, a5, a6, a7, ?_, ?_, a10, ?_, a12, ?_⟩
    · rw [f5]; split <;> omega
    · rw [f6]; split <;> omega
    · rw [f8]
      show (if j = i then zN s 0 else iN s 8 j) ≤ zN s 0
      split <;> omega
    · rw [fC]
      intro c1 q
      by_cases e : j = i
      · rw [if_pos e] at q; cases q; exact hc
      · rw [if_neg e] at q; exact a13 c1 q
  · show (up1 (sH s) (bk 25 c) ((sH s (bk 25 c)).erase i) o).Nodup ∧ ∀ j, j ∈ up1 (sH s) (bk 25 c) ((sH s (bk 25 c)).erase i) o ↔ _
    by_cases q : o = bk 25 c
    · rw [q, up1_s]
      refine ⟨(w5 (bk 25 c)).1.erase i, fun j => ?_⟩
      rw [(w5 (bk 25 c)).1.mem_erase_iff, (w5 (bk 25 c)).2 j, f5, f6]
      by_cases e : j = i
      · rw [if_pos e, if_pos e]
        exact ⟨fun r => absurd e r.1, fun r => absurd r.2.1 (by decide)⟩
      · rw [if_neg e, if_neg e]
        exact ⟨fun r => r.2, fun r => ⟨e, r⟩⟩
    · rw [up1_x q]
      refine ⟨(w5 o).1, fun j => ?_⟩
      rw [(w5 o).2 j, f5, f6]
      by_cases e : j = i
      · rw [if_pos e, if_pos e, e, h6]
        exact ⟨fun r => absurd r.2.2.symm q, fun r => absurd r.2.1 (by decide)⟩
      · rw [if_neg e, if_neg e]; exact Iff.rfl
  · show (up1 (sG s) c (sG s c ++ [i]) c').Nodup ∧ ∀ j, j ∈ up1 (sG s) c (sG s c ++ [i]) c' ↔ _
    have ni : i ∉ sG s c := fun q => by
      have := (((w6 c).2 i).mp q).2.1
      omega
    by_cases q : c' = c
    · rw [q, up1_s]
      refine ⟨List.nodup_append.mpr ⟨(w6 c).1, by simp, fun a ha b' hb' e => ni (by
        rw [List.mem_singleton] at hb'
        rw [← hb', ← e]; exact ha)⟩, fun j => ?_⟩
      rw [List.mem_append, List.mem_singleton, (w6 c).2 j, f5, fC]
      by_cases e : j = i
      · rw [if_pos e, if_pos e]
        exact ⟨fun _ => ⟨by rw [e]; exact hi, rfl, rfl⟩, fun _ => Or.inr e⟩
      · rw [if_neg e, if_neg e]
        exact ⟨fun r => r.resolve_right e, fun r => Or.inl r⟩
    · rw [up1_x q]
      refine ⟨(w6 c').1, fun j => ?_⟩
      rw [(w6 c').2 j, f5, fC]
      by_cases e : j = i
      · rw [if_pos e, if_pos e]
        refine ⟨fun r => ?_, fun r => absurd (Option.some.inj r.2.2).symm q⟩
        rw [e, h0] at r
        exact absurd r.2.1 (by decide)
      · rw [if_neg e, if_neg e]; exact Iff.rfl
  · rw [show rid (cmS (stG (stH s (bk 25 c) ((sH s (bk 25 c)).erase i)) c (sG s c ++ [i])) i 1 (bk 25 c) (some c)) = rid s from rfl, w7.2 j, f5]
    by_cases e : j = i
    · rw [if_pos e, e, h0]
      exact ⟨fun r => absurd r.2 (by decide), fun r => absurd r.2 (by decide)⟩
    · rw [if_neg e]; exact Iff.rfl
  · obtain ⟨a1, a2, a3, a4, a5, a6⟩ := w8 t ht
    refine ⟨a1, a2, a3, a4, a5, fun j hj => ?_⟩
    have hr : j ∈ rid s := List.mem_flatMap.mpr ⟨t, ht, hj⟩
    have h2 := ((w7.2 j).mp hr).2
    have e : j ≠ i := fun e => by rw [e, h0] at h2; omega
    rw [fC, if_neg e, f6, if_neg e]
    refine ⟨(a6 j hj).1, ?_, (a6 j hj).2.2⟩
    have f9 : iN (cmS (stG (stH s (bk 25 c) ((sH s (bk 25 c)).erase i)) c (sG s c ++ [i])) i 1 (bk 25 c) (some c)) 9 j = iN s 9 j := by
      show up2 (up2 (up2 (iN s) 5 i 1) 6 i (bk 25 c)) 8 i (zN s 0) 9 j = _
      rw [up2_k (by decide), up2_k (by decide), up2_k (by decide)]
    rw [f9]; exact (a6 j hj).2.1
  · rw [f5, fC, f6]
    intro q
    by_cases e : j = i
    · rw [if_pos e, if_pos e]; exact ⟨c, rfl, hc, rfl⟩
    · rw [if_neg e] at q ⊢
      rw [if_neg e]; exact w10 j hj q
  · rw [f5, fC]
    intro q
    by_cases e : j = i
    · rw [if_pos e] at q
      rcases q with q | q
      · exact absurd q (by decide)
      · omega
    · rw [if_neg e] at q ⊢; exact w11 j hj q
end SRT
