/-! ===== SORTING: both sides ===== -/
theorem wy1_c {bk : Bk} {f clk o : Nat} : ∀ (n c : Nat) (x : Option (Nat × Nat)), c + n ≤ bk 0 3 → (∀ t c', x = some (t, c') → c' < bk 0 3 ∧ bk 25 c' = f) → ∀ t c', wy1 bk f clk o n c x = some (t, c') → c' < bk 0 3 ∧ bk 25 c' = f
  | 0, _, x, _, hx => hx
  | n + 1, c, x, h, hx => wy1_c n (c + 1) _ (by omega) (fun t c' e => by
    by_cases q : bk 25 c = f
    · rw [if_pos q] at e
      unfold kp at e
      cases hb : btC bk c clk o with
      | none => rw [hb] at e; exact hx t c' e
      | some t1 =>
        rw [hb] at e
        cases x with
        | none => cases e; exact ⟨by omega, q⟩
        | some p =>
          obtain ⟨t2, c2⟩ := p
          dsimp only at e
          split at e
          · cases e; exact ⟨by omega, q⟩
          · cases e; exact hx _ _ rfl
    · rw [if_neg q] at e; exact hx t c' e)
theorem wyS_c {bk : Bk} {f clk o t c : Nat} (e : wyS bk f clk o = some (t, c)) : c < bk 0 3 ∧ bk 25 c = f ∧ o ≠ f := by
  unfold wyS at e
  by_cases q : o = f
  · rw [if_pos q] at e; cases e
  · rw [if_neg q] at e
    have := wy1_c (bk 0 3) 0 none (by omega) (fun t c' w => by cases w) t c e
    exact ⟨this.1, this.2, q⟩
/-- the shelf of f is gone through from its place k on, m items are left, n have gone -/
noncomputable def srF (bk : Bk) (f clk : Nat) : Nat → Nat → Nat → St → St × Nat
  | 0, _, n, s => (s, n)
  | m + 1, k, n, s => match wyS bk f clk (goS bk s ((sH s f).getD k 0)) with
    | none => srF bk f clk m (k + 1) n s
    | some (_, c) => srF bk f clk m k (n + 1) (ibS bk s ((sH s f).getD k 0) c)
section SRT2
variable {d : Nat} {b : Nat} {bk : Bk}
theorem goS_lt (W : WB bk) {s : St} (w : WI bk s) {i : Nat} (hi : i < zN s 2) : goS bk s i < bk 0 0 := by
  unfold goS
  cases hp : iP s i with
  | none => exact (w.2.2.2 i hi).2.1
  | some p => exact (W.2.2.2.1 p ((w.2.2.2 i hi).2.2 p hp)).2.2.1
theorem ibS_f {s : St} {f i c : Nat} (hf : bk 25 c = f) (hm : i ∈ sH s f) : (sH (ibS bk s i c) f).length + 1 = (sH s f).length ∧ zN (ibS bk s i c) 0 = zN s 0 ∧ zN (ibS bk s i c) 2 = zN s 2 := by
  have e1 : sH (ibS bk s i c) f = (sH s f).erase i := by
    unfold ibS ntS
    have : sH (cmS (stG (stH s (bk 25 c) ((sH s (bk 25 c)).erase i)) c (sG s c ++ [i])) i 1 (bk 25 c) (some c)) f = (sH s f).erase i := by
      rw [hf]; exact up1_s
    split
    · exact this
    · exact this
  refine ⟨?_, ?_, ?_⟩
  · rw [e1, List.length_erase_of_mem hm]
    have := List.length_pos_of_mem hm
    omega
  · unfold ibS ntS
    split <;> rfl
  · unfold ibS ntS
    split <;> rfl
theorem m1 {a : Nat} : nI (a + 1) + (-1) = nI a := pk_m1 a
theorem c_sort_lp (W : WB bk) {clk f : Nat} (hf : f < bk 0 0) : ∀ (m k n : Nat) (h : AH) (s : St) (G Cp : Nat → Nat → Nat), k + m = (sH s f).length → n + m < 1000 → CSt h b bk s G Cp → WS bk s → capB bk s Cp → (∀ o, o < 16 → gA h 169 o = wC (wyS bk f clk o)) →
    ∃ h' G' Cp', Q (d + 8) 204 34 [some (.ref 156), none, some (.ref (G 5 f)), some (.int (nI n)), some (.int (nI k)), some (.int (nI m)), none, none] [] h = some (some (.int (nI (srF bk f clk m k n s).2)), h') ∧ CSt h' b bk (srF bk f clk m k n s).1 G' Cp' ∧ WS bk (srF bk f clk m k n s).1 ∧ RM h Cp h' Cp' ∧ capB bk (srF bk f clk m k n s).1 Cp' ∧ (∀ j, j ≠ 9 → G' j = G j) ∧ GFc h h'
  | 0, k, n, h, s, G, Cp, e, hn, C, w, hcb, V => by
    refine ⟨h, G, Cp, ?_, C, w, RM.rfl rfl, hcb, fun _ _ => rfl, GF.rfl⟩
    rw [t_204_34 C.1, if_neg (by decide)]
    rfl
  | m + 1, k, n, h, s, G, Cp, e, hn, C, w, hcb, V => by
    have w0 := W.1.1
    obtain ⟨hs, hw, hb, B, C1, C2⟩ := id C
    have A := C2.2.2 (10 + f) (Or.inr (Or.inl ⟨by omega, by omega⟩)) (Or.inr (by omega))
    rw [lX_sh (by omega), lo_sh (by omega)] at A
    have hl := (w.len f).1
    have hk : k < (sH s f).length := by omega
    have hm : (sH s f).getD k 0 ∈ sH s f := by rw [getD_ix hk]; exact List.getElem_mem hk
    obtain ⟨i1, i2, i3⟩ := ((w.2.2.2.2.1 f).2 _).mp hm
    have ci := (C1.2.2.2 _ i1).1
    have hg := goS_lt W w.i i1
    have pre : Q (d + 8) 204 34 [some (.ref 156), none, some (.ref (G 5 f)), some (.int (nI n)), some (.int (nI k)), some (.int (nI (m + 1))), none, none] [] h = (if wC (wyS bk f clk (goS bk s ((sH s f).getD k 0))) = (-1) then Q (d + 8) 204 34 [some (.ref 156), none, some (.ref (G 5 f)), some (.int (nI n)), some (.int (nI (k + 1))), some (.int (nI m)), none, none] [] h
        else cK (E (d + 8) 255 [.ref 156, .ref (G 4 ((sH s f).getD k 0)), .int (wC (wyS bk f clk (goS bk s ((sH s f).getD k 0))))] h) (Q (d + 8) 204 83 [some (.ref 156), none, some (.ref (G 5 f)), some (.int (nI n)), some (.int (nI k)), some (.int (nI (m + 1))), some (.ref (G 4 ((sH s f).getD k 0))), some (.int (wC (wyS bk f clk (goS bk s ((sH s f).getD k 0)))))]) []) := by
      rw [t_204_34 hs, if_pos (nI_lt (by omega) (by omega)), ck_ok A.1, al_get hs A hk, cK_v, t_204_45 hs, ck_ok ci, c_goal hs W w.i hb B C1 i1, cK_v, t_204_60 hs, ck_ok (show gC h 169 = 60 from ShC hs (by decide)), show gK h 169 = 16 from ShK hs (by decide), gd_nI (by omega) (by decide), ix_nI (by omega), V _ (by omega), nI_add, m1]
    rw [pre]
    unfold srF
    cases hy : wyS bk f clk (goS bk s ((sH s f).getD k 0)) with
    | none =>
      rw [if_pos (show wC none = -1 from rfl)]
      exact c_sort_lp W hf m (k + 1) n h s G Cp (by omega) (by omega) C w hcb V
    | some p =>
      obtain ⟨t, c⟩ := p
      obtain ⟨y1, y2, y3⟩ := wyS_c hy
      have w3 := W.1.2.2.2.1
      have ne : ¬ wC (some (t, c)) = -1 := by
        have : ∀ j, j < 40 → ¬ nI j = -1 := by decide
        exact this c (by omega)
      obtain ⟨h1, G1, Cp1, a1, a2, a3, a4, a5, a6⟩ := c_putInBag (d := d) W C w hcb y1 i1 i2 (by rw [i3, y2])
      obtain ⟨b1, b2, b3⟩ := ibS_f (bk := bk) (c := c) y2 hm
      obtain ⟨h2, G2, Cp2, x1, x2, x3, x4, x5, x6, x7⟩ := c_sort_lp W hf m k (n + 1) h1 (ibS bk s ((sH s f).getD k 0) c) G1 Cp1 (by omega) (by omega) a2 (w.ib W y1 i1 i2 (by rw [i3, y2])) a4 (fun o ho => by rw [(a6.2.2.2.2.2.1 169 (by have := hs.2; omega) (fun q => q)).1]; exact V o ho)
      refine ⟨h2, G2, Cp2, ?_, x2, x3, a3.trans x4, x5, fun j q => (x6 j q).trans (a5 j q), a6.trans x7⟩
      rw [if_neg ne, show wC (some (t, c)) = nI c from rfl, a1, cK_n, t_204_83 a2.1, nI_add, m1]
      rw [a5 5 (by decide)] at x1
      exact x1
theorem r_sort_lp (W : WB bk) {clk f v : Nat} (hv' : v ≤ 1) (hf : f < bk 0 0) : ∀ (m k n : Nat) (h : AH) (s : St), k + m = (sH s f).length → n + m < 1000 → Sh h → gI h 3597 189 = nI v → RB h v bk → RS h s → WS bk s → RV h clk (bk 0 0) (wyS bk f clk) →
    ∃ h', Q (d + 4) 109 24 [some (.ref 189), some (.int (nI f)), some (.int (nI n)), some (.int (nI k)), none, none] [] h = some (some (.int (nI (srF bk f clk m k n s).2)), h') ∧ RS h' (srF bk f clk m k n s).1 ∧ Fr [3678] [248, 249, 250, 253, 254, 255, 256, 257] h h'
  | 0, k, n, h, s, e, hn, hs, hN, B, R, w, V => by
    have w0 := W.1.1
    have hl := (w.len f).1
    refine ⟨h, ?_, R, Fr.rfl⟩
    rw [t_109_24 hs, gd_nI (by omega) (by decide), ix_nI (by omega), (R.2.1.1 f (by omega)).1, if_neg (nI_nlt (by omega) (by omega))]
    rfl
  | m + 1, k, n, h, s, e, hn, hs, hN, B, R, w, V => by
    have w0 := W.1.1
    have hl := (w.len f).1
    have hk : k < (sH s f).length := by omega
    have hm : (sH s f).getD k 0 ∈ sH s f := by rw [getD_ix hk]; exact List.getElem_mem hk
    obtain ⟨i1, i2, i3⟩ := ((w.2.2.2.2.1 f).2 _).mp hm
    have hg := goS_lt W w.i i1
    obtain ⟨r1, r2⟩ := R.2.1.1 f (by omega)
    have r2k := r2 k hk
    rw [← getD_ix hk] at r2k
    have ih1 := r_sort_lp W (clk := clk) hv' hf m
    rw [t_109_24 hs, gd_nI (by omega) (by decide), ix_nI (by omega), r1, if_pos (nI_lt hk (by omega)), pk_mul, nI_add, gd_nI (by omega) (by decide), ix_nI (by omega), r2k, r_goesTo hs W hv' hN B R.1 w.i i1, cK_v, t_109_54 hs]
    simp only [show (nI (goS bk s ((sH s f).getD k 0)) = nI f) = (goS bk s ((sH s f).getD k 0) = f) from propext (nI_eq (by omega) (by omega))]
    rw [gd_nI (by omega) (by decide), gd_nI (by omega) (by decide), ix_nI (by omega), (V _ hg).2, nI_add]
    unfold srF
    cases hy : wyS bk f clk (goS bk s ((sH s f).getD k 0)) with
    | none =>
      rw [show wC none = -1 from rfl, if_pos (show (-1 : Int32) < nI 0 by decide), ite_self]
      exact ih1 (k + 1) n h s (by omega) (by omega) hs hN B R w V
    | some p =>
      obtain ⟨t, c⟩ := p
      obtain ⟨y1, y2, y3⟩ := wyS_c hy
      have w3 := W.1.2.2.2.1
      obtain ⟨h1, a1, a2, a3⟩ := r_intoBag (d := d) hs W hv' hN B R w i1 y1 i2 (by rw [i3, y2])
      obtain ⟨b1, b2, b3⟩ := ibS_f (bk := bk) (c := c) y2 hm
      have hs1 := a2.sh hs
      obtain ⟨h2, x1, x2, x3⟩ := ih1 k (n + 1) h1 (ibS bk s ((sH s f).getD k 0) c) (by omega) (by omega) hs1 (by rw [a2.I (by decide)]; exact hN) (B.fr a2 (by decide)) a3 (w.ib W y1 i1 i2 (by rw [i3, y2])) (fun o ho => by rw [a2.A (by decide), a2.A (by decide)]; exact V o ho)
      refine ⟨h2, ?_, x2, a2.trans x3⟩
      rw [if_neg y3, show wC (some (t, c)) = nI c from rfl, if_neg (nI_nlt (by omega) (by omega)), a1, cK_n, t_109_85 hs1, nI_add]
      exact x1
end SRT2
