/-! ===== ITEMS MOVE: the component puts an item into a bag; room ===== -/
/-- the places of all lists -/
def csm (Cp : Nat → Nat → Nat) : Nat → Nat
  | 0 => 0
  | r + 1 => csm Cp r + lc Cp r
/-- room: what is new is paid for by lists that have grown -/
def RM (h : AH) (Cp : Nat → Nat → Nat) (h' : AH) (Cp' : Nat → Nat → Nat) : Prop := gS h' + 4 * csm Cp 70 ≤ gS h + 4 * csm Cp' 70 ∧ gN h' + csm Cp 70 ≤ gN h + csm Cp' 70 ∧ csm Cp 70 ≤ csm Cp' 70 ∧ ∀ r, 2 ≤ r → r < 10 → lc Cp' r = lc Cp r
theorem RM.rfl {h h' : AH} {Cp : Nat → Nat → Nat} (e : h'.1 = h.1) : RM h Cp h' Cp := by
  have e1 : gN h' = gN h := congrArg (fun p : Nat × Nat => p.1) e
  have e2 : gS h' = gS h := congrArg (fun p : Nat × Nat => p.2) e
  exact ⟨by omega, by omega, Nat.le_refl _, fun _ _ _ => Eq.refl _⟩
theorem RM.trans {h h' h'' : AH} {C C' C'' : Nat → Nat → Nat} (a : RM h C h' C') (b : RM h' C' h'' C'') : RM h C h'' C'' := by
  obtain ⟨a1, a2, a3, a4⟩ := a
  obtain ⟨b1, b2, b3, b4⟩ := b
  exact ⟨by omega, by omega, by omega, fun r q1 q2 => (b4 r q1 q2).trans (a4 r q1 q2)⟩
/-- the places of the book's own lists -/
def kcL (Cp : Nat → Nat → Nat) : Nat := csm Cp 10 - csm Cp 2
theorem kc_e {Cp Cp' : Nat → Nat → Nat} (h : ∀ r, 2 ≤ r → r < 10 → lc Cp' r = lc Cp r) : kcL Cp' = kcL Cp := by
  unfold kcL
  simp only [csm]
  rw [h 2 (by decide) (by decide), h 3 (by decide) (by decide), h 4 (by decide) (by decide), h 5 (by decide) (by decide), h 6 (by decide) (by decide), h 7 (by decide) (by decide), h 8 (by decide) (by decide), h 9 (by decide) (by decide)]
  omega
/-- how many places a list may have with so many items -/
def cbd (z r : Nat) : Nat := if r < 2 then 410 else 10 + 2 * z
theorem cbd_b {z r : Nat} (h : z ≤ 200) : 10 + 2 * z ≤ cbd z r ∧ cbd z r ≤ 410 := by unfold cbd; split <;> omega
/-- the caps are small -/
def capB (bk : Bk) (s : St) (Cp : Nat → Nat → Nat) : Prop := ∀ r, r < 70 → r < 2 ∨ 10 ≤ r → lc Cp r ≤ cbd (zN s 2) r
theorem csm_up {Cp Cp' : Nat → Nat → Nat} {r0 : Nat} (h : ∀ r, r ≠ r0 → lc Cp' r = lc Cp r) (h1 : lc Cp r0 ≤ lc Cp' r0) : ∀ n, csm Cp n ≤ csm Cp' n ∧ (r0 < n → csm Cp' n + lc Cp r0 = csm Cp n + lc Cp' r0)
  | 0 => ⟨Nat.le_refl _, fun q => by omega⟩
  | n + 1 => by
    obtain ⟨a, b⟩ := csm_up h h1 n
    unfold csm
    by_cases e : n = r0
    · have c : csm Cp' n = csm Cp n ∨ r0 < n := by
        by_cases q : r0 < n
        · exact Or.inr q
        · refine Or.inl ?_
          have : ∀ m, m ≤ r0 → csm Cp' m = csm Cp m := fun m => by
            induction m with
            | zero => intro _; rfl
            | succ m ih => intro hm; unfold csm; rw [ih (by omega), h m (by omega)]
          exact this n (by omega)
      subst e
      have c : csm Cp' n = csm Cp n := c.resolve_right (by omega)
      exact ⟨by omega, fun _ => by omega⟩
    · rw [h n e]
      exact ⟨by omega, fun q => by have := b (by omega); omega⟩
def up9 (G : Nat → Nat → Nat) (r v : Nat) : Nat → Nat → Nat := up2 G 9 r v
theorem up9_o {G Cp : Nat → Nat → Nat} {r e c : Nat} : ∀ k i, ¬ (k = 9 ∧ i = r) → up9 G r e k i = G k i ∧ up9 Cp r c k i = Cp k i := fun k i q => by
  unfold up9
  by_cases h1 : k = 9
  · subst h1
    exact ⟨up2_x fun w => q ⟨rfl, w⟩, up2_x fun w => q ⟨rfl, w⟩⟩
  · rw [up2_k h1, up2_k h1]; exact ⟨rfl, rfl⟩
theorem up9_s {G : Nat → Nat → Nat} {r e : Nat} : up9 G r e 9 r = e := up2_s
theorem up9_c {Cp : Nat → Nat → Nat} {r0 c : Nat} (h0 : r0 < 2 ∨ 10 ≤ r0) : (∀ r, r ≠ r0 → lc (up9 Cp r0 c) r = lc Cp r) ∧ lc (up9 Cp r0 c) r0 = c := by
  refine ⟨fun r q => ?_, ?_⟩
  · unfold lc
    rw [(up9_o (G := Cp) (Cp := Cp) (e := c) (c := c) 8 (r - 2) (by omega)).1, (up9_o (G := Cp) (Cp := Cp) (e := c) (c := c) 9 r (by omega)).1]
  · unfold lc
    rw [if_neg (by omega), up9_s]
section CADD
variable {d : Nat} {h : AH} {b : Nat} {bk : Bk} {G Cp : Nat → Nat → Nat} {s : St}
theorem lo9 {r e : Nat} : lo (up9 G r e) = lo G := funext fun r' => by
  unfold lo
  rw [(up9_o (G := G) (Cp := G) (e := e) (c := e) 7 (r' - 2) (by omega)).1, (up9_o (G := G) (Cp := G) (e := e) (c := e) 5 (r' - 10) (by omega)).1, (up9_o (G := G) (Cp := G) (e := e) (c := e) 6 (r' - 30) (by omega)).1]
/-- an item is put behind a list -/
theorem c_add (C : CSt h b bk s G Cp) (hcb : capB bk s Cp) {r0 i : Nat} {s' : St} (hr : lV bk r0) (h0 : r0 < 2 ∨ 10 ≤ r0) (hi : i < zN s 2) (hz : zN s' 2 = zN s 2) (h70 : r0 < 70) (hlen : (lX s r0).length < zN s 2) (hn : zN s 2 ≤ 200) (hX0 : lX s' r0 = lX s r0 ++ [i]) (hX : ∀ r, r ≠ r0 → lX s' r = lX s r) (hS : ∀ h' G', G' 4 = G 4 → CS1 h' bk s G → CS1 h' bk s' G') :
    ∃ h' G' Cp', E (d + 7) 273 [.ref (lo G r0), .ref (G 4 i)] h = some (some (.int (nI 1)), h') ∧ CSt h' b bk s' G' Cp' ∧ RM h Cp h' Cp' ∧ capB bk s' Cp' ∧ (∀ k, k ≠ 9 → G' k = G k) ∧ GF (lI (lo G r0)) (lR (lo G r0)) (fun y => y = la G r0 ∧ 296 ≤ la G r0) (fun _ => False) h h' := by
  have A := C.2.2.2.2.2.2.2 r0 hr h0
  obtain ⟨O, hc⟩ := C.2.2.2.2.2.2.1 r0 hr
  have ci := C.2.2.2.2.1.2.2.2 i hi
  obtain ⟨h', e', cap', a1, a2, a3, a4, a5, a6⟩ := al_add (d := d) C.1 A O hc (x := G 4 i) (by rw [ci.1]; decide) ci.2.1
  have hw' := (E_mx a1).1 C.2.1
  have cb := hcb r0 h70 h0
  obtain ⟨bb1, bb2⟩ := cbd_b (r := r0) hn
  have key : cap' ≤ cbd (zN s 2) r0 ∧ lc Cp r0 ≤ cap' ∧ gS h' + 4 * lc Cp r0 ≤ gS h + 4 * cap' ∧ gN h' + lc Cp r0 ≤ gN h + cap' ∧ (e' = la G r0 ∨ gN h ≤ e') := by
    rcases a6 with ⟨q1, q2, q3, q4, q5⟩ | ⟨q1, q2, q3, q4, q5⟩
    · exact ⟨by omega, by omega, by omega, by omega, Or.inl q2⟩
    · have : ncap (lc Cp r0) = 10 ∧ lc Cp r0 = 0 ∨ ncap (lc Cp r0) = lc Cp r0 + lc Cp r0 / 2 ∧ lc Cp r0 ≠ 0 := by
        unfold ncap
        by_cases q : lc Cp r0 = 0
        · exact Or.inl ⟨if_pos q, q⟩
        · exact Or.inr ⟨if_neg q, q⟩
      have o2 := O.2.1
      exact ⟨by omega, by omega, by omega, by omega, Or.inr (by omega)⟩
  obtain ⟨k1, k2, k3, k4, k5⟩ := key
  obtain ⟨u1, u2⟩ := up9_c (Cp := Cp) (c := cap') h0
  have A' : Ar h' (lo G r0) e' cap' (lX s' r0).length (fun k => G 4 ((lX s' r0).getD k 0)) := by
    rw [hX0]
    obtain ⟨c1, c2, c3, c4, c5, c6, c7, c8⟩ := a2
    refine ⟨c1, c2, c3, c4, by rw [List.length_append]; exact c5, by rw [List.length_append]; exact c6, c7, fun k hk => ?_⟩
    rw [List.length_append] at hk
    have hk : k < (lX s r0).length + 1 := hk
    rw [c8 k hk]
    dsimp only
    by_cases q : k = (lX s r0).length
    · subst q
      rw [up1_s, List.getD_eq_getElem?_getD, List.getElem?_append_right (Nat.le_refl _), Nat.sub_self]
      rfl
    · rw [up1_x q, List.getD_eq_getElem?_getD, List.getD_eq_getElem?_getD, List.getElem?_append_left (by omega)]
  have cs := csm_up (Cp := Cp) (Cp' := up9 Cp r0 cap') (r0 := r0) u1 (by rw [u2]; exact k2) 70
  have c2 := cs.2 h70
  rw [u2] at c2
  refine ⟨h', up9 G r0 e', up9 Cp r0 cap', a1, C.one hr h0 up9_o ⟨up9_s, up9_s⟩ a4 a5 hw' A' a3 (by omega) k5 hX (hS h' _ (funext fun j => (up9_o (G := G) (Cp := G) (e := e') (c := e') 4 j (by omega)).1)), ⟨by omega, by omega, cs.1, fun r q1 q2 => u1 r (by omega)⟩, fun r q1 q2 => ?_, fun k q => funext fun j => (up9_o (G := G) (Cp := G) (e := e') (c := e') k j (by omega)).1, a4⟩
  by_cases q : r = r0
  · rw [q, u2, hz]; exact k1
  · rw [u1 r q, hz]; exact hcb r q1 q2
end CADD
theorem csm_mono {Cp : Nat → Nat → Nat} : ∀ {n m : Nat}, n ≤ m → csm Cp n ≤ csm Cp m
  | n, 0, h => by rw [show n = 0 from by omega]; exact Nat.le_refl _
  | n, m + 1, h => by
    by_cases q : n = m + 1
    · rw [q]; exact Nat.le_refl _
    · have := csm_mono (Cp := Cp) (n := n) (m := m) (by omega)
      show _ ≤ csm Cp m + lc Cp m
      omega
theorem kc_le {Cp : Nat → Nat → Nat} : kcL Cp ≤ csm Cp 70 := by
  have := csm_mono (Cp := Cp) (n := 10) (m := 70) (by decide)
  unfold kcL; omega
theorem csm_tl {Cp : Nat → Nat → Nat} {B : Nat} (h : ∀ r, 10 ≤ r → r < 70 → lc Cp r ≤ B) : ∀ n, 10 + n ≤ 70 → csm Cp (10 + n) ≤ csm Cp 10 + n * B
  | 0, _ => by simp
  | n + 1, q => by
    have a := csm_tl h n (by omega)
    have b := h (10 + n) (by omega) (by omega)
    show csm Cp (10 + n) + lc Cp (10 + n) ≤ _
    rw [Nat.succ_mul]
    omega
/-- all lists but the book's own have few places -/
theorem csm_cap {bk : Bk} {s : St} {Cp : Nat → Nat → Nat} (h : capB bk s Cp) : csm Cp 70 ≤ kcL Cp + Cp 9 0 + Cp 9 1 + 600 + 120 * zN s 2 := by
  have a := csm_tl (Cp := Cp) (B := 10 + 2 * zN s 2) (fun r q1 q2 => by
    have := h r q2 (Or.inr q1)
    unfold cbd at this
    rw [if_neg (by omega)] at this
    exact this) 60 (by decide)
  have b2 : csm Cp 2 = Cp 9 0 + Cp 9 1 := by show 0 + Cp 9 0 + Cp 9 1 = _; omega
  have b3 := csm_mono (Cp := Cp) (n := 2) (m := 10) (by decide)
  have c : csm Cp (10 + 60) = csm Cp 70 := rfl
  unfold kcL
  omega
theorem csm_low {Cp : Nat → Nat → Nat} : kcL Cp + Cp 9 0 + Cp 9 1 ≤ csm Cp 70 := by
  have a := csm_mono (Cp := Cp) (n := 10) (m := 70) (by decide)
  have b3 := csm_mono (Cp := Cp) (n := 2) (m := 10) (by decide)
  have b2 : csm Cp 2 = Cp 9 0 + Cp 9 1 := by show 0 + Cp 9 0 + Cp 9 1 = _; omega
  unfold kcL
  omega
