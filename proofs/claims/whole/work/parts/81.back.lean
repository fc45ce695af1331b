/-! ===== ITEMS LEAVE A SHELF: delivered, or given back ===== -/
/-- an item leaves the shelf of f: where it is then, what is sealed -/
def dlS (bk : Bk) (s : St) (i f wh wt : Nat) : St := ntS bk (cmS (stH s f ((sH s f).erase i)) i wh f none) i wt f
section LEV
variable {d : Nat} {h : AH} {b : Nat} {bk : Bk} {G Cp : Nat → Nat → Nat} {s : St} {v : Nat}
theorem dlS_z {i f wh wt : Nat} : zN (dlS bk s i f wh wt) 0 = zN s 0 ∧ zN (dlS bk s i f wh wt) 2 = zN s 2 ∧ sH (dlS bk s i f wh wt) f = (sH s f).erase i := by
  unfold dlS ntS
  have e1 : sH (cmS (stH s f ((sH s f).erase i)) i wh f none) f = (sH s f).erase i := up1_s
  split
  · exact ⟨rfl, rfl, e1⟩
  · exact ⟨rfl, rfl, e1⟩
theorem WS.dl (w : WS bk s) {i f wh wt : Nat} (hf : f < bk 0 0) (hi : i < zN s 2) (h0 : iN s 5 i = 0) (h6 : iN s 6 i = f) (hw : 3 ≤ wh) (hw4 : wh ≤ 4) : WS bk (dlS bk s i f wh wt) := by
  refine WS.nt ?_ i wt f
  obtain ⟨w1, w2, w3, w4, w5, w6, w7, w8, w9, w10, w11, w12⟩ := w
  have f5 : ∀ j, iN (cmS (stH s f ((sH s f).erase i)) i wh f none) 5 j = if j = i then wh else iN s 5 j := fun j => by
    show up2 (iN s) 5 i wh 5 j = _
    by_cases q : j = i
    · rw [if_pos q, q, up2_s]
    · rw [if_neg q, up2_x q]
  have f6 : ∀ j, iN (cmS (stH s f ((sH s f).erase i)) i wh f none) 6 j = if j = i then f else iN s 6 j := fun j => by
    show up2 (up2 (iN s) 5 i wh) 6 i f 6 j = _
    by_cases q : j = i
    · rw [if_pos q, q, up2_s]
    · rw [if_neg q, up2_x q, up2_k (by decide)]
  have f8 : ∀ j, iN (cmS (stH s f ((sH s f).erase i)) i wh f none) 8 j = if j = i then zN s 0 else iN s 8 j := fun j => by
    show up2 (up2 (up2 (iN s) 5 i wh) 6 i f) 8 i (zN s 0) 8 j = _
    by_cases q : j = i
    · rw [if_pos q, q, up2_s]
    · rw [if_neg q, up2_x q, up2_k (by decide), up2_k (by decide)]
  have fC : ∀ j, iC (cmS (stH s f ((sH s f).erase i)) i wh f none) j = if j = i then none else iC s j := fun j => by
    show up1 (iC s) i none j = _
    by_cases q : j = i
    · rw [if_pos q, q, up1_s]
    · rw [if_neg q, up1_x q]
  refine ⟨w1, w2, w3, fun j hj => ?_, fun o => ?_, fun c' => ⟨(w6 c').1, fun j => ?_⟩, ⟨w7.1, fun j => ?_⟩, fun t ht => ?_, w9, fun j hj => ?_, fun j hj => ?_, w12⟩
  · obtain ⟨a1, a2, a3, a4, a5, a6, a7, a8, a9, a10, a11, a12, a13⟩ := w4 j hj
    refine ⟨a1, a2, a3, a4, a5, a6, a7, ?_, ?_, a10, ?_, a12, ?_⟩
    · rw [f5]; split <;> omega
    · rw [f6]; split <;> omega
    · rw [f8]
      show (if j = i then zN s 0 else iN s 8 j) ≤ zN s 0
      split <;> omega
    · rw [fC]
      intro c1 q
      by_cases e : j = i
      · rw [if_pos e] at q; cases q
      · rw [if_neg e] at q; exact a13 c1 q
  · show (up1 (sH s) f ((sH s f).erase i) o).Nodup ∧ ∀ j, j ∈ up1 (sH s) f ((sH s f).erase i) o ↔ _
    by_cases q : o = f
    · rw [q, up1_s]
      refine ⟨(w5 f).1.erase i, fun j => ?_⟩
      rw [(w5 f).1.mem_erase_iff, (w5 f).2 j, f5, f6]
      by_cases e : j = i
      · rw [if_pos e, if_pos e]
        exact ⟨fun r => absurd e r.1, fun r => by have := r.2.1; omega⟩
      · rw [if_neg e, if_neg e]
        exact ⟨fun r => r.2, fun r => ⟨e, r⟩⟩
    · rw [up1_x q]
      refine ⟨(w5 o).1, fun j => ?_⟩
      rw [(w5 o).2 j, f5, f6]
      by_cases e : j = i
      · rw [if_pos e, if_pos e, e, h6]
        exact ⟨fun r => absurd r.2.2.symm q, fun r => by have := r.2.1; omega⟩
      · rw [if_neg e, if_neg e]; exact Iff.rfl
  · rw [show sG (cmS (stH s f ((sH s f).erase i)) i wh f none) c' = sG s c' from rfl, (w6 c').2 j, f5, fC]
    by_cases e : j = i
    · rw [if_pos e, if_pos e, e, h0]
      exact ⟨fun r => absurd r.2.1 (by decide), fun r => by cases r.2.2⟩
    · rw [if_neg e, if_neg e]; exact Iff.rfl
  · rw [show rid (cmS (stH s f ((sH s f).erase i)) i wh f none) = rid s from rfl, w7.2 j, f5]
    by_cases e : j = i
    · rw [if_pos e, e, h0]
      exact ⟨fun r => absurd r.2 (by decide), fun r => by have := r.2; omega⟩
    · rw [if_neg e]; exact Iff.rfl
  · obtain ⟨a1, a2, a3, a4, a5, a6⟩ := w8 t ht
    refine ⟨a1, a2, a3, a4, a5, fun j hj => ?_⟩
    have hr : j ∈ rid s := List.mem_flatMap.mpr ⟨t, ht, hj⟩
    have h2 := ((w7.2 j).mp hr).2
    have e : j ≠ i := fun e => by rw [e, h0] at h2; omega
    rw [fC, if_neg e, f6, if_neg e]
    refine ⟨(a6 j hj).1, ?_, (a6 j hj).2.2⟩
    have f9 : iN (cmS (stH s f ((sH s f).erase i)) i wh f none) 9 j = iN s 9 j := by
      show up2 (up2 (up2 (iN s) 5 i wh) 6 i f) 8 i (zN s 0) 9 j = _
      rw [up2_k (by decide), up2_k (by decide), up2_k (by decide)]
    rw [f9]; exact (a6 j hj).2.1
  · rw [f5, fC, f6]
    intro q
    by_cases e : j = i
    · rw [if_pos e] at q; omega
    · rw [if_neg e] at q ⊢
      rw [if_neg e]; exact w10 j hj q
  · rw [f5, fC]
    intro q
    by_cases e : j = i
    · rw [if_pos e]
    · rw [if_neg e] at q ⊢; exact w11 j hj q
/-- the component takes the place k from a shelf -/
theorem c_rm (W : WB bk) (C : CSt h b bk s G Cp) (w : WS bk s) {f k : Nat} (hf : f < bk 0 0) (hk : k < (sH s f).length) : ∃ h', E (d + 4) 256 [.ref (G 5 f), .int (nI k)] h = some (some (.ref (G 4 ((sH s f).getD k 0))), h') ∧ CSt h' b bk (stH s f ((sH s f).erase ((sH s f).getD k 0))) G Cp ∧ h'.1 = h.1 ∧ GFc h h' := by
  have w0 := W.1.1
  obtain ⟨hs, hw, hb, B, C1, C2⟩ := id C
  have nd := (w.2.2.2.2.1 f).1
  have ee := eraseIdx_of nd hk (getD_ix hk).symm
  have hr : lV bk (10 + f) := Or.inr (Or.inl ⟨by omega, by omega⟩)
  have A := C2.2.2 (10 + f) hr (Or.inr (by omega))
  have O := C2.2.1 (10 + f) hr
  rw [lX_sh (by omega)] at A
  obtain ⟨h', a1, a2, a3, a4, a5, a6⟩ := al_remove (d := d) hs A O.1 hk
  have a1' : E (d + 4) 256 [.ref (G 5 f), .int (nI k)] h = some (some (.ref (G 4 ((sH s f).getD k 0))), h') := by
    rw [lo_sh (by omega)] at a1; exact a1
  refine ⟨h', a1', ?_, Prod.ext a5 a6, gfc_l a3⟩
  have O' : AO h' (lo G (10 + f)) (la G (10 + f)) (lc Cp (10 + f)) := by
    obtain ⟨o1, o2, o3⟩ := O.1
    exact ⟨by rw [a5]; exact o1, by rw [a5]; exact o2, o3⟩
  refine C.one (G' := G) (Cp' := Cp) (e' := la G (10 + f)) (cap' := lc Cp (10 + f)) hr (Or.inr (by omega)) (fun _ _ _ => ⟨rfl, rfl⟩) ⟨(la_r (Cp := Cp) (Or.inr (by omega))).1.symm, (la_r (G := G) (Or.inr (by omega))).2.symm⟩ a3 a4 ((E_mx a1').1 hw) ?_ O' O.2 (Or.inl rfl) (fun r q => lX_H q) (fun q => q.nums rfl rfl)
  rw [lX_sh (by omega)]
  have e2 : sH (stH s f ((sH s f).erase ((sH s f).getD k 0))) f = (sH s f).eraseIdx k := by rw [ee]; exact up1_s
  rw [e2, List.length_eraseIdx_of_lt hk]
  obtain ⟨c1, c2, c3, c4, c5, c6, c7, c8⟩ := a2
  refine ⟨c1, c2, c3, c4, c5, c6, c7, fun j hj => ?_⟩
  rw [c8 j hj]
  have hj2 : j < ((sH s f).eraseIdx k).length := by rw [List.length_eraseIdx_of_lt hk]; exact hj
  dsimp only
  rw [getD_ix hj2, List.getElem_eraseIdx]
  by_cases q3 : j < k
  · rw [if_pos q3, dif_pos q3, getD_ix (by omega)]
  · rw [if_neg q3, dif_neg q3, getD_ix (by omega)]
end LEV
