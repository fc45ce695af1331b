/-! ===== AN ITEM IS TAKEN IN (component) ===== -/
/-- the numbers of a new item -/
def acN (bk : Bk) (s : St) (sv w f p dr : Nat) (k j : Nat) : Nat := if j = zN s 2 then (match k with
  | 0 => sv
  | 1 => w
  | 2 => f
  | 3 => bk 2 (bk 9 p)
  | 4 => dr
  | 6 => f
  | 8 => zN s 0
  | _ => 0) else iN s k j
def acS0 (bk : Bk) (s : St) (sv w f p dr : Nat) (pr : Int32) : St := (up1 (zN s) 2 (zN s 2 + 1), acN bk s sv w f p dr, up1 (iP s) (zN s 2) (some p), up1 (iC s) (zN s 2) none, up1 (iM s) (zN s 2) pr, sH s, sG s, sT s, sM s)
/-- the state behind it -/
def acS (bk : Bk) (s : St) (sv w f p dr : Nat) (pr : Int32) : St := ntS bk (stH (acS0 bk s sv w f p dr pr) f (sH s f ++ [zN s 2])) (zN s 2) 0 f
section NFC
variable {h h' : AH} {b : Nat} {bk : Bk} {G Cp : Nat → Nat → Nat} {s : St}
theorem CS1.nf (C : CS1 h bk s G) (a : NFr (gN h) h h') (hN : 156 < gN h) : CS1 h' bk s G := by
  obtain ⟨c1, c2, c3, c4⟩ := C
  have kI : ∀ k x, x < gN h → gI h' k x = gI h k x := fun k x hx => a.2.2.1 k x hx (by omega)
  refine ⟨by rw [kI _ _ hN]; exact c1, by rw [kI _ _ hN]; exact c2, c3, fun i hi => ?_⟩
  obtain ⟨d1, d2, d3⟩ := c4 i hi
  rw [(a.2.1 _ d2).1, kI _ _ d2, kI _ _ d2, kI _ _ d2, kI _ _ d2, kI _ _ d2, kI _ _ d2, kI _ _ d2, kI _ _ d2, kI _ _ d2, kI _ _ d2, kI _ _ d2, kI _ _ d2, kI _ _ d2, kI _ _ d2]
  exact ⟨d1, Nat.lt_of_lt_of_le d2 a.1.1, d3⟩
theorem CS2.nf (C : CS2 h bk s G Cp) (w : HW h) (a : NFr (gN h) h h') : CS2 h' bk s G Cp := by
  obtain ⟨c1, c2, c3⟩ := C
  refine ⟨c1, fun r hr => ⟨(c2 r hr).1.up a.1.1, (c2 r hr).2⟩, fun r hr h0 => ?_⟩
  have A := c3 r hr h0
  have l1 := w.lt A.1 (by decide)
  have l2 := w.lt A.2.2.1 (by decide)
  exact A.gf w a (by omega) (by omega) (by omega)
theorem CSt.nf (C : CSt h b bk s G Cp) (a : NFr (gN h) h h') (hs' : Sh h') (w' : HW h') : CSt h' b bk s G Cp := by
  obtain ⟨c1, c2, c3, c4, c5, c6⟩ := C
  have g := c1.2
  exact ⟨hs', w', by rw [a.2.2.2.2.1 2048 156 (by omega) (by omega)]; exact c3, c4.bf c2 a.bf (Nat.le_refl _), c5.nf a (by omega), c6.nf c2 a⟩
theorem CS5.nf (C5 : CS5 h s G) (C : CS1 h bk s G) (w : HW h) (a : NFr (gN h) h h') : CS5 h' s G := fun i hi => by
  obtain ⟨d1, d2, T, d3, d4, d5, d6, d7⟩ := C5 i hi
  have e := (C.2.2.2 i hi).2.1
  refine ⟨by rw [a.2.2.2.2.1 _ _ e (by omega)]; exact d1, Nat.lt_of_lt_of_le d2 a.1.1, T, d3, by rw [(a.2.1 _ d2).1]; exact d4, by rw [(a.2.1 _ d2).2]; exact d5, d6, fun p hp => by rw [(a.2.2.2.2.2.1 _ d2 (by omega)).1]; exact d7 p hp⟩
/-- other names of cells of items that are not yet there -/
theorem CSt.g4 {x : Nat} (C : CSt h b bk s G Cp) (w : WS bk s) : CSt h b bk s (up2 G 4 (zN s 2) x) Cp := by
  obtain ⟨c1, c2, c3, c4, ⟨d1, d2, d3, d4⟩, e1, e2, e3⟩ := C
  have gk : ∀ k, k ≠ 4 → up2 G 4 (zN s 2) x k = G k := fun k q => up2_k q
  have g4 : ∀ i, i < zN s 2 → up2 G 4 (zN s 2) x 4 i = G 4 i := fun i hi => up2_x (by omega)
  have hlo : lo (up2 G 4 (zN s 2) x) = lo G := by
    funext r; unfold lo; rw [gk 7 (by decide), gk 5 (by decide), gk 6 (by decide)]
  have hla : la (up2 G 4 (zN s 2) x) = la G := by
    funext r; unfold la; rw [gk 8 (by decide), gk 9 (by decide)]
  refine ⟨c1, c2, c3, ?_, ⟨d1, d2, fun i j hi hj e => d3 i j hi hj (by rw [← g4 i hi, ← g4 j hj]; exact e), fun i hi => by rw [g4 i hi]; exact d4 i hi⟩, ?_, fun r hr => by rw [hlo, hla]; exact e2 r hr, fun r hr h0 => ?_⟩
  · unfold CB at c4 ⊢
    rw [gk 0 (by decide), gk 1 (by decide), gk 2 (by decide), gk 3 (by decide), gk 5 (by decide), gk 6 (by decide), gk 7 (by decide), gk 8 (by decide), gk 14 (by decide), gk 15 (by decide), gk 16 (by decide), gk 10 (by decide), gk 11 (by decide), gk 12 (by decide), gk 13 (by decide)]
    obtain ⟨b1, b2, b3, b4, b5, b6, b7, b8⟩ := c4
    refine ⟨b1, b2, fun j hj => ?_, b4, b5, b6, fun s hS => ?_, b8⟩
    · rw [gk j (by omega)]; exact b3 j hj
    · obtain ⟨d1, d2, d3, d4, d5, d6, d7⟩ := b7 s hS
      refine ⟨d1, d2, d3, d4, d5, fun j hj => ?_, d7⟩
      rw [gk (10 + j) (by omega)]; exact d6 j hj
  · unfold DJ at e1 ⊢
    rw [hlo, hla]; exact e1
  · rw [hlo, hla]
    obtain ⟨a1, a2, a3, a4, a5, a6, a7, a8⟩ := e3 r hr h0
    refine ⟨a1, a2, a3, a4, a5, a6, a7, fun k hk => ?_⟩
    rw [a8 k hk]
    congr 1
    refine (g4 _ ?_).symm
    have hm : (lX s r).getD k 0 ∈ lX s r := by
      rw [List.getD_eq_getElem?_getD, List.getElem?_eq_getElem hk]
      exact List.getElem_mem hk
    generalize (lX s r).getD k 0 = y at hm
    revert hm
    unfold lX
    split
    · intro hm; exact List.mem_range.mp hm
    split
    · intro hm; exact ((w.2.2.2.2.2.2.1.2 y).mp hm).1
    split
    · intro hm; exact absurd hm List.not_mem_nil
    split
    · intro hm; exact (((w.2.2.2.2.1 _).2 y).mp hm).1
    · intro hm; exact (((w.2.2.2.2.2.1 _).2 y).mp hm).1
end NFC
