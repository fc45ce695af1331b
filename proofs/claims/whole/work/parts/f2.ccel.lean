/-! ===== THE BOOK: cells that are made (component) ===== -/
/-- a book, but for one of its lists -/
def CBx (j0 : Nat) (h : AH) (b : Nat) (bk : Bk) (G Cp : Nat → Nat → Nat) : Prop := gC h b = 2 ∧ gR h 520 b = some 101 ∧
  (∀ j, j < 4 → gR h (512 + j) b = some (G 7 j) ∧ (j ≠ j0 → Ar h (G 7 j) (G 8 j) (Cp 8 j) (bk 0 j) (G j))) ∧
  (gR h 516 b = some (G 16 0) ∧ gC h (G 16 0) = 61 ∧ gK h (G 16 0) = 20 ∧ idB (G 16 0) ∧ idB (G 16 1) ∧ gR h 517 b = some (G 16 1) ∧ gC h (G 16 1) = 61 ∧ gK h (G 16 1) = 20 ∧ gI h 518 b = nI (bk 0 4) ∧ ∀ i, i < bk 0 4 → gB h (G 16 0) i = lN (bk 5 i) ∧ gB h (G 16 1) i = lN (bk 6 i)) ∧
  (∀ i, i < bk 0 0 → gC h (G 0 i) = 7 ∧ gL h 1792 (G 0 i) = lN (bk 1 i) ∧ gI h 1794 (G 0 i) = nI (bk 2 i) ∧ gI h 1795 (G 0 i) = nI (bk 3 i) ∧ gI h 1796 (G 0 i) = nI (bk 4 i) ∧ gR h 1797 (G 0 i) = some (G 5 i) ∧ gR h 1793 (G 0 i) = some (G 14 i) ∧ AN h (G 14 i) (ncod 12 (bk 1 i))) ∧
  (∀ p, p < bk 0 1 → gC h (G 1 p) = 11 ∧ gI h 2817 (G 1 p) = nI (bk 9 p) ∧ gI h 2818 (G 1 p) = nI (bk 10 p) ∧ gI h 2819 (G 1 p) = nI (bk 11 p) ∧ gI h 2820 (G 1 p) = nI (bk 12 p) ∧ gI h 2821 (G 1 p) = nI (bk 13 p) ∧ gI h 2822 (G 1 p) = nI (bk 14 p) ∧ gI h 2823 (G 1 p) = nI (bk 15 p) ∧ gI h 2824 (G 1 p) = nI (bk 16 p) ∧ gR h 2816 (G 1 p) = some (G 15 p) ∧
    AN h (G 15 p) (ncod 12 (bk 7 (3 * p)) ++ (if 1 < bk 8 p then 0 :: ncod 12 (bk 7 (3 * p + 1)) else []) ++ (if 2 < bk 8 p then 0 :: ncod 12 (bk 7 (3 * p + 2)) else []))) ∧
  (∀ s, s < bk 0 2 → gC h (G 2 s) = 10 ∧ gL h 2560 (G 2 s) = lN (bk 17 s) ∧ gI h 2561 (G 2 s) = nI (bk 18 s) ∧ gI h 2562 (G 2 s) = nI (bk 19 s) ∧ gI h 2563 (G 2 s) = nI (bk 20 s) ∧ (∀ j, j < 4 → gR h (2564 + j) (G 2 s) = some (G (10 + j) s) ∧ gC h (G (10 + j) s) = 60 ∧ gK h (G (10 + j) s) = 8 ∧ idB (G (10 + j) s)) ∧
    ∀ k, k < bk 20 s → gA h (G 10 s) k = nI (bk 21 (8 * s + k)) ∧ gA h (G 11 s) k = nI (bk 22 (8 * s + k)) ∧ (bk 21 (8 * s + k) = 1 ∨ bk 21 (8 * s + k) = 2 → gA h (G 12 s) k = nI (bk 23 (8 * s + k))) ∧ (bk 21 (8 * s + k) = 1 → gA h (G 13 s) k = nI (bk 24 (8 * s + k)))) ∧
  ∀ c, c < bk 0 3 → gC h (G 3 c) = 3 ∧ gI h 768 (G 3 c) = nI (bk 25 c) ∧ gI h 769 (G 3 c) = nI (bk 26 c) ∧ gI h 770 (G 3 c) = nI (bk 27 c) ∧ gI h 771 (G 3 c) = nI (bk 28 c) ∧ gI h 772 (G 3 c) = nI (bk 29 c) ∧ gI h 773 (G 3 c) = nI (bk 30 c) ∧ gI h 774 (G 3 c) = nI (bk 31 c) ∧ gR h 775 (G 3 c) = some (G 6 c)
theorem CB.g3 (j0 : Nat) {mI mR : Nat → Nat → Prop} {mO mA : Nat → Prop} {h h' : AH} {b : Nat} {bk : Bk} {G Cp : Nat → Nat → Nat} (B : CB h b bk G Cp) (w : HW h) (g : GF mI mR mO mA h h') (c1 : ∀ k, k ∈ kI → ∀ x, x < gN h → ¬ mI k x) (c2 : ∀ j, j < 4 → j ≠ j0 → ¬ mI 258 (G 7 j) ∧ ¬ mR 257 (G 7 j) ∧ ¬ mO (G 8 j)) (c3 : ∀ k, k ∈ kR → ∀ x, x < gN h → ¬ mR k x) (c4 : ∀ x, idB x → x < gN h → ¬ mA x) : CBx j0 h' b bk G Cp := by
  have g0 := g
  obtain ⟨-, g1, g2, g3, g4, g5, g6⟩ := g
  have C : ∀ {x c : Nat}, gC h x = c → c ≠ 0 → gC h' x = c := fun e hc => (g1 _ (w.lt e hc)).1.trans e
  have I : ∀ {x c k : Nat} {v : Int32}, gC h x = c → c ≠ 0 → k ∈ kI → gI h k x = v → gI h' k x = v := fun e hc hk q => (g2 _ _ (w.lt e hc) (c1 _ hk _ (w.lt e hc))).trans q
  have L : ∀ {x c k : Nat} {v : Int64}, gC h x = c → c ≠ 0 → k ∈ kI → gL h k x = v → gL h' k x = v := fun e hc hk q => (g3 _ _ (w.lt e hc) (c1 _ hk _ (w.lt e hc))).trans q
  have R : ∀ {x c k : Nat} {v : Option Nat}, gC h x = c → c ≠ 0 → k ∈ kR → gR h k x = v → gR h' k x = v := fun e hc hk q => (g4 _ _ (w.lt e hc) (c3 _ hk _ (w.lt e hc))).trans q
  have K : ∀ {x c n : Nat}, gC h x = c → c ≠ 0 → gK h x = n → gK h' x = n := fun e hc q => (g1 _ (w.lt e hc)).2.trans q
  have aN : ∀ x l, AN h x l → AN h' x l := fun x l ⟨a1, a2, a3, a4⟩ => ⟨C a1 (by decide), K a1 (by decide) a2, a3, fun i hi => by rw [(g5 x (w.lt a1 (by decide)) (c4 x a3 (w.lt a1 (by decide)))).1]; exact a4 i hi⟩
  obtain ⟨b1, b2, b3, b4, b5, b6, b7, b8⟩ := B
  refine ⟨C b1 (by decide), R b1 (by decide) (by decide) b2, fun j hj => ?_, ?_, fun i hi => ?_, fun p hp => ?_, fun s hS => ?_, fun c hc => ?_⟩
  · obtain ⟨d1, d2⟩ := b3 j hj
    have hk : 512 + j ∈ kR := by
      have : j = 0 ∨ j = 1 ∨ j = 2 ∨ j = 3 := by omega
      rcases this with rfl | rfl | rfl | rfl <;> decide
    exact ⟨R b1 (by decide) hk d1, fun hj0 => d2.gf w g0 (c2 j hj hj0).1 (c2 j hj hj0).2.1 (c2 j hj hj0).2.2⟩
  · obtain ⟨d1, d2, d3, d4, d5, d6, d7, d8, d9, d10⟩ := b4
    exact ⟨R b1 (by decide) (by decide) d1, C d2 (by decide), K d2 (by decide) d3, d4, d5, R b1 (by decide) (by decide) d6, C d7 (by decide), K d7 (by decide) d8, I b1 (by decide) (by decide) d9, fun i hi => by rw [(g5 _ (w.lt d2 (by decide)) (c4 _ d4 (w.lt d2 (by decide)))).2, (g5 _ (w.lt d7 (by decide)) (c4 _ d5 (w.lt d7 (by decide)))).2]; exact d10 i hi⟩
  · obtain ⟨d1, d2, d3, d4, d5, d6, d7, d8⟩ := b5 i hi
    exact ⟨C d1 (by decide), L d1 (by decide) (by decide) d2, I d1 (by decide) (by decide) d3, I d1 (by decide) (by decide) d4, I d1 (by decide) (by decide) d5, R d1 (by decide) (by decide) d6, R d1 (by decide) (by decide) d7, aN _ _ d8⟩
  · obtain ⟨d1, d2, d3, d4, d5, d6, d7, d8, d9, d10, d11⟩ := b6 p hp
    exact ⟨C d1 (by decide), I d1 (by decide) (by decide) d2, I d1 (by decide) (by decide) d3, I d1 (by decide) (by decide) d4, I d1 (by decide) (by decide) d5, I d1 (by decide) (by decide) d6, I d1 (by decide) (by decide) d7, I d1 (by decide) (by decide) d8, I d1 (by decide) (by decide) d9, R d1 (by decide) (by decide) d10, aN _ _ d11⟩
  · obtain ⟨d1, d2, d3, d4, d5, d6, d7⟩ := b7 s hS
    obtain ⟨-, i0, -, i0'⟩ := d6 0 (by decide)
    obtain ⟨-, i1, -, i1'⟩ := d6 1 (by decide)
    obtain ⟨-, i2, -, i2'⟩ := d6 2 (by decide)
    obtain ⟨-, i3, -, i3'⟩ := d6 3 (by decide)
    refine ⟨C d1 (by decide), L d1 (by decide) (by decide) d2, I d1 (by decide) (by decide) d3, I d1 (by decide) (by decide) d4, I d1 (by decide) (by decide) d5, fun j hj => ?_, fun k hk => ?_⟩
    · obtain ⟨e1, e2, e3, e4⟩ := d6 j hj
      have hk : 2564 + j ∈ kR := by
        have : j = 0 ∨ j = 1 ∨ j = 2 ∨ j = 3 := by omega
        rcases this with rfl | rfl | rfl | rfl <;> decide
      exact ⟨R d1 (by decide) hk e1, C e2 (by decide), K e2 (by decide) e3, e4⟩
    · rw [(g5 _ (w.lt i0 (by decide)) (c4 _ i0' (w.lt i0 (by decide)))).1, (g5 _ (w.lt i1 (by decide)) (c4 _ i1' (w.lt i1 (by decide)))).1, (g5 _ (w.lt i2 (by decide)) (c4 _ i2' (w.lt i2 (by decide)))).1, (g5 _ (w.lt i3 (by decide)) (c4 _ i3' (w.lt i3 (by decide)))).1]; exact d7 k hk
  · obtain ⟨d1, d2, d3, d4, d5, d6, d7, d8, d9⟩ := b8 c hc
    exact ⟨C d1 (by decide), I d1 (by decide) (by decide) d2, I d1 (by decide) (by decide) d3, I d1 (by decide) (by decide) d4, I d1 (by decide) (by decide) d5, I d1 (by decide) (by decide) d6, I d1 (by decide) (by decide) d7, I d1 (by decide) (by decide) d8, R d1 (by decide) (by decide) d9⟩
/-- the lists of the book that is read -/
def CLb (h : AH) (N0 : Nat) (bk : Bk) (G Cp : Nat → Nat → Nat) : Prop := (∀ r, 2 ≤ r → lV bk r → N0 ≤ lo G r ∧ AO h (lo G r) (la G r) (lc Cp r) ∧ (la G r = 61 ∨ N0 ≤ la G r)) ∧ (∀ j, j < 4 → Cp 8 j ≤ 10 + 2 * bk 0 j) ∧ (∀ r, 10 ≤ r → lV bk r → G 9 r = 61 ∧ Cp 9 r = 0 ∧ ∀ f, Ar h (lo G r) 61 0 0 f) ∧ ∀ r r', 2 ≤ r → 2 ≤ r' → lV bk r → lV bk r' → (lo G r = lo G r' → r = r') ∧ (la G r = la G r' → r = r' ∨ la G r = 61)
section CLS
variable {d : Nat} {h h' : AH} {N N0 : Nat} {bk : Bk} {G Cp : Nat → Nat → Nat}
theorem AO.up {l e cap : Nat} (a : AO h l e cap) (q : gN h ≤ gN h') : AO h' l e cap := by
  obtain ⟨a1, a2, a3⟩ := a
  exact ⟨by omega, a2.imp id fun z => ⟨z.1, z.2.1, by omega⟩, a3⟩
theorem CLb.bf (C : CLb h N0 bk G Cp) (w : HW h) (a : BFr N h h') (hN : gN h ≤ N) : CLb h' N0 bk G Cp := by
  obtain ⟨c1, c2, c3, c4⟩ := C
  refine ⟨fun r h2 hr => ?_, c2, fun r h2 hr => ?_, c4⟩
  · obtain ⟨x, y, z⟩ := c1 r h2 hr
    exact ⟨x, y.up a.1.1, z⟩
  · obtain ⟨x, y, z⟩ := c3 r h2 hr
    have l1 := w.lt (z fun _ => 0).1 (by decide)
    have l2 := w.lt (z fun _ => 0).2.2.1 (by decide)
    exact ⟨x, y, fun f => (z f).gf w a (fun q => by rcases q with q | q <;> omega) (fun q => by omega) (fun q => by omega)⟩
theorem c_newAL (hs : Sh h) {l : Nat} (e : gC h l = 1) (hl : 296 ≤ l) : E (d + 3) 226 [.ref l] h = some (none, sR (sI h 256 l (nI 0)) 257 l (some 61)) := by
  have e2 : gC (sI h 256 l (nI 0)) l = 1 := e
  rw [t_226 hs, t_274 hs, t_348 hs, cK_n, t_274_4 hs, ck_ok e, cK_n, t_226_4 hs.sI, ck_ok e2]
/-- codes are copied -/
theorem c_cpl {x fr : Nat} {t : Tp} {k K : Nat} (hx : 296 ≤ x) (hk : tK t k = 2) : ∀ (n j : Nat) {h : AH}, Sh h → CT h t → TkC h (tok t (tkP t k)) → gC h x = 60 → gK h x = K → K < 1000 → n + j = tE t k - tS t k → fr + (tE t k - tS t k) ≤ K → ∃ h', Q (d + 1) 279 8 [some (.ref 101), some (.ref x), none, some (.int (nI (fr + j))), some (.int (nI (tS t k + j)))] [] h = some (some (.int (nI (fr + (tE t k - tS t k)))), h') ∧ Fr [] [x] h h' ∧ gA h' x = wrL (gA h x) (fr + j) (sl (tcS t) (tS t k + j) n) := by
  intro n
  have sb := tS_b (t := t) (k := k)
  induction n with
  | zero =>
    intro j h hs T C c1 c2 c3 e1 e2
    have t4 := T.2.1
    have q5 : gI h 3075 101 = nI (tE t k) := C.2.2.2.2
    refine ⟨h, ?_, Fr.rfl, by rw [sl, wr_nil]⟩
    rw [t_279_8 hs, q5, if_neg (nI_nlt (by omega) (by omega)), show fr + j = fr + (tE t k - tS t k) from by omega]
  | succ n ih =>
    intro j h hs T C c1 c2 c3 e1 e2
    have t4 := T.2.1
    have q5 : gI h 3075 101 = nI (tE t k) := C.2.2.2.2
    obtain ⟨g1, g2⟩ := T.sg' (show tS t k + j < t.1 by omega)
    have tb := tcd_b (c := t.2 (tS t k + j))
    have F : Fr [] [x] h (sA h x (fr + j) (nI (tcS t (tS t k + j)))) := Fr.rfl.sA (List.mem_singleton.mpr rfl)
    obtain ⟨h', o1, o2, o3⟩ := ih (j + 1) (F.sh hs) (T.fr F List.not_mem_nil (fun q => by have := List.mem_singleton.mp q; omega)) (C.fr F (fun q _ => List.not_mem_nil)) c1 c2 c3 (by omega) e2
    refine ⟨h', ?_, F.trans o2, ?_⟩
    · rw [t_279_8 hs, q5, if_pos (nI_lt (by omega) (by omega)), if_pos (by rw [c1]; decide), c2, if_pos (nI_lt (by omega) (by omega)), gd_nI (by omega) (by decide), ix_nI (by omega), g1, c_tcd hs g2, cK_v, t_279_35 hs, cw_ok c1 (by omega), c2, gd_nI (by omega) (by omega), ix_nI (by omega), nI_add, nI_add]
      exact o1
    · rw [o3, gA_s, show fr + (j + 1) = fr + j + 1 from by omega, wr_cons]; rfl
theorem c_cpy {x fr : Nat} {t : Tp} {k K : Nat} {h : AH} (hx : 296 ≤ x) (hk : tK t k = 2) (hs : Sh h) (T : CT h t) (C : TkC h (tok t (tkP t k))) (c1 : gC h x = 60) (c2 : gK h x = K) (c3 : K < 1000) (e2 : fr + (ncod 12 (tV t k)).length ≤ K) : ∃ h', E (d + 2) 279 [.ref 101, .ref x, .int (nI fr)] h = some (some (.int (nI (fr + (ncod 12 (tV t k)).length))), h') ∧ Fr [] [x] h h' ∧ gA h' x = wrL (gA h x) fr (ncod 12 (tV t k)) := by
  have nc := (tN_n hk).1
  have nl : (ncod 12 (tV t k)).length = tE t k - tS t k := by rw [nc, sl_l]
  obtain ⟨h', o1, o2, o3⟩ := c_cpl (d := d) (fr := fr) hx hk (tE t k - tS t k) 0 hs T C c1 c2 c3 (by omega) (by omega)
  refine ⟨h', ?_, o2, ?_⟩
  · rw [t_279 hs, C.2.2.2.1, nl]; exact o1
  · rw [o3, nc]; rfl
end CLS
section CLA
variable {h h' : AH} {N0 N1 : Nat} {bk bk' : Bk} {G Cp G' Cp' : Nat → Nat → Nat}
/-- one more in a list of the book, and perhaps a new list -/
theorem CLb.add {j0 e' cap' rn l : Nat} (hj : j0 < 4) (C : CLb h N0 bk G Cp) (w : HW h) (hNN : N0 ≤ N1) (hN1 : N1 ≤ gN h) (old : ∀ r, 2 ≤ r → lV bk r → lo G r < N1 ∧ (la G r < N1))
    (g : GF (lI (G 7 j0)) (lR (G 7 j0)) (fun y => y = G 8 j0 ∧ 296 ≤ G 8 j0) (fun _ => False) h h') (O : AO h' (G 7 j0) e' cap') (hE : e' = G 8 j0 ∨ gN h ≤ e') (hcap : cap' ≤ 10 + 2 * bk' 0 j0) (hcnt : ∀ j, j < 4 → j ≠ j0 → bk' 0 j = bk 0 j)
    (hv : ∀ r, lV bk' r → lV bk r ∨ r = rn ∧ 10 ≤ rn ∧ ¬ lV bk rn) (hlo : ∀ r, 2 ≤ r → lV bk r → lo G' r = lo G r) (hla : ∀ r, 2 ≤ r → lV bk r → r ≠ 2 + j0 → la G' r = la G r ∧ lc Cp' r = lc Cp r ∧ (10 ≤ r → G' 9 r = G 9 r ∧ Cp' 9 r = Cp 9 r)) (he : la G' (2 + j0) = e' ∧ lc Cp' (2 + j0) = cap') (hC8 : ∀ j, j < 4 → j ≠ j0 → Cp' 8 j = Cp 8 j) (hC80 : Cp' 8 j0 = cap')
    (hn : 10 ≤ rn → ¬ lV bk rn → lo G' rn = l ∧ la G' rn = 61 ∧ lc Cp' rn = 0 ∧ G' 9 rn = 61 ∧ Cp' 9 rn = 0 ∧ N1 ≤ l ∧ l < gN h ∧ AO h l 61 0 ∧ ∀ f, Ar h l 61 0 0 f) : CLb h' N0 bk' G' Cp' := by
  obtain ⟨c1, c2, c3, c4⟩ := C
  have l2 : lV bk (2 + j0) := Or.inl (by omega)
  have lo2 : lo G (2 + j0) = G 7 j0 := by unfold lo; rw [if_neg (by omega), if_neg (by omega), if_pos (by omega), show 2 + j0 - 2 = j0 from by omega]
  have la2 : la G (2 + j0) = G 8 j0 := by unfold la; rw [if_pos (by omega), show 2 + j0 - 2 = j0 from by omega]
  have o2 := old (2 + j0) (by omega) l2
  rw [lo2, la2] at o2
  have up := g.1.1
  refine ⟨fun r h2 hr => ?_, fun j h4 => ?_, fun r h10 hr => ?_, fun r r' h2 h2' hr hr' => ?_⟩
  · rcases hv r hr with q | ⟨rfl, q1, q2⟩
    · obtain ⟨x, y, z⟩ := c1 r h2 q
      rw [hlo r h2 q]
      by_cases e : r = 2 + j0
      · subst e
        rw [he.1, he.2, lo2]
        rw [lo2] at x; rw [la2] at z
        refine ⟨x, O, ?_⟩
        rcases hE with w1 | w1
        · rw [w1]; exact z
        · right; omega
      · obtain ⟨p1, p2, -⟩ := hla r h2 q e
        rw [p1, p2]; exact ⟨x, y.up up, z⟩
    · obtain ⟨p1, p2, p3, p4, p5, p6, p7, p8, p9⟩ := hn q1 q2
      rw [p1, p2, p3]; exact ⟨by omega, p8.up up, Or.inl rfl⟩
  · by_cases e : j = j0
    · subst e; rw [hC80]; exact hcap
    · rw [hC8 j h4 e, hcnt j h4 e]; exact c2 j h4
  · rcases hv r hr with q | ⟨rfl, q1, q2⟩
    · obtain ⟨x, y, z⟩ := c3 r h10 q
      obtain ⟨-, -, p3⟩ := hla r (by omega) q (by omega)
      obtain ⟨p3, p4⟩ := p3 h10
      rw [p3, p4, hlo r (by omega) q]
      have d := (c4 r (2 + j0) (by omega) (by omega) q l2).1
      rw [lo2] at d
      exact ⟨x, y, fun f => (z f).gf w g (fun q => absurd (d q.1) (by omega)) (fun q => absurd (d q.1) (by omega)) (fun q => by omega)⟩
    · obtain ⟨p1, p2, p3, p4, p5, p6, p7, p8, p9⟩ := hn q1 q2
      rw [p1]
      exact ⟨p4, p5, fun f => (p9 f).gf w g (fun q => by have := q.1; omega) (fun q => by have := q.1; omega) (fun q => by omega)⟩
  · rcases hv r hr with q | ⟨rfl, q1, q2⟩
    · rcases hv r' hr' with q' | ⟨rfl, q1', q2'⟩
      · rw [hlo r h2 q, hlo r' h2' q']
        refine ⟨(c4 r r' h2 h2' q q').1, fun e => ?_⟩
        have o3 := old r h2 q
        have o4 := old r' h2' q'
        by_cases e1 : r = 2 + j0
        · by_cases e2 : r' = 2 + j0
          · left; omega
          · rw [e1, he.1, (hla r' h2' q' e2).1] at e
            rcases hE with w1 | w1
            · have := (c4 r r' h2 h2' q q').2 (by rw [e1, la2, ← w1]; exact e)
              rcases this with w2 | w2
              · exact Or.inl w2
              · right; rw [e1, he.1, w1, ← la2, ← e1]; exact w2
            · omega
        · rw [(hla r h2 q e1).1] at e ⊢
          by_cases e2 : r' = 2 + j0
          · rw [e2, he.1] at e
            rcases hE with w1 | w1
            · exact (c4 r r' h2 h2' q q').2 (by rw [e2, la2, ← w1]; exact e)
            · omega
          · rw [(hla r' h2' q' e2).1] at e
            exact (c4 r r' h2 h2' q q').2 e
      · obtain ⟨p1, p2, p3, p4, p5, p6, p7, p8, p9⟩ := hn q1' q2'
        rw [hlo r h2 q, p1, p2]
        have o3 := old r h2 q
        refine ⟨fun e => by omega, fun e => Or.inr e⟩
    · obtain ⟨p1, p2, p3, p4, p5, p6, p7, p8, p9⟩ := hn q1 q2
      rw [p1, p2]
      rcases hv r' hr' with q' | ⟨rfl, q1', q2'⟩
      · have o3 := old r' h2' q'
        rw [hlo r' h2' q']
        exact ⟨fun e => by omega, fun _ => Or.inr rfl⟩
      · exact ⟨fun _ => rfl, fun _ => Or.inr rfl⟩
end CLA
