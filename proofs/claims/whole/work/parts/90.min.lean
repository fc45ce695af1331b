/-! ===== MINUTES: what they are ===== -/
def stT (s : St) (l : List (Nat × Nat × List Nat)) : St := (zN s, iN s, iP s, iC s, iM s, sH s, sG s, l, sM s)
/-- an item comes on a shelf from a coach -/
def shS (bk : Bk) (s : St) (i o : Nat) : St := ntS bk (cmS (stH s o (sH s o ++ [i])) i 0 o none) i 3 o
/-- the riding items in their order: those that are due come -/
def avL (bk : Bk) : List Nat → St → St
  | [], s => s
  | i :: r, s => avL bk r (if iN s 9 i = zN s 0 then shS bk s i (iN s 6 i) else s)
def avS (bk : Bk) (s : St) : St := stT (avL bk (rid s) s) ((sT s).filter fun t => decide (t.2.1 ≠ zN s 0))
/-- an item goes with the coach c -/
def dpJ (bk : Bk) (c : Nat) (s : St) (i : Nat) : St := ntS bk (stI (cmS s i 2 (bk 26 c) (some c)) 9 i (zN s 0 + bk 30 c)) i 2 (bk 25 c)
def dpL (bk : Bk) (c : Nat) : List Nat → St → St
  | [], s => s
  | i :: r, s => dpL bk c r (dpJ bk c s i)
def dpS (bk : Bk) (c : Nat) (s : St) : St := stT (stG (dpL bk c ((sG s c).take (bk 31 c)) s) c ((sG s c).drop (bk 31 c))) (sT s ++ [(c, zN s 0 + bk 30 c, (sG s c).take (bk 31 c))])
/-- the coach c, if it goes -/
noncomputable def gcS (bk : Bk) (c : Nat) (s : St) : St := if sG s c ≠ [] ∧ tbC bk c (zN s 0 - 1) = zN s 0 then dpS bk c s else s
/-- the coaches from c on, m of them -/
noncomputable def goF (bk : Bk) : Nat → Nat → St → St
  | 0, _, s => s
  | m + 1, c, s => goF bk m (c + 1) (gcS bk c s)
/-- a minute -/
noncomputable def mnS (bk : Bk) (s : St) : St := goF bk (bk 0 3) 0 (avS bk (stZ s 0 (zN s 0 + 1)))
noncomputable def tmnS (bk : Bk) : Nat → St → St
  | 0, s => s
  | n + 1, s => tmnS bk n (mnS bk s)
theorem up2_n {α : Type} {f : Nat → Nat → α} {k k' x x' : Nat} {v : α} (e : x' ≠ x) : up2 f k x v k' x' = f k' x' := by
  unfold up2 up1
  split
  · rename_i q
    show (if x' = x then v else f k' x') = f k' x'
    rw [if_neg e]
  · rfl
section MIN
variable {bk : Bk} {s : St}
theorem ntS_f (i w o : Nat) : iN (ntS bk s i w o) = iN s ∧ iP (ntS bk s i w o) = iP s ∧ iC (ntS bk s i w o) = iC s ∧ iM (ntS bk s i w o) = iM s ∧ sH (ntS bk s i w o) = sH s ∧ sG (ntS bk s i w o) = sG s ∧ sT (ntS bk s i w o) = sT s ∧ sM (ntS bk s i w o) = sM s ∧ zN (ntS bk s i w o) 0 = zN s 0 ∧ zN (ntS bk s i w o) 2 = zN s 2 := by
  unfold ntS
  split
  · exact ⟨rfl, rfl, rfl, rfl, rfl, rfl, rfl, rfl, rfl, rfl⟩
  · exact ⟨rfl, rfl, rfl, rfl, rfl, rfl, rfl, rfl, rfl, rfl⟩
theorem ntS_T (i w o : Nat) (l : List (Nat × Nat × List Nat)) : ntS bk (stT s l) i w o = stT (ntS bk s i w o) l := by
  unfold ntS
  show (if bk 18 (iN s 0 i) = 2 then _ else _) = _
  split <;> rfl
theorem ntS_G (i w o c : Nat) (l : List Nat) : ntS bk (stG s c l) i w o = stG (ntS bk s i w o) c l := by
  unfold ntS
  show (if bk 18 (iN s 0 i) = 2 then _ else _) = _
  split <;> rfl
theorem cm_n {i w o k j : Nat} {c : Option Nat} (e : j ≠ i) : iN (cmS s i w o c) k j = iN s k j ∧ iC (cmS s i w o c) j = iC s j := by
  refine ⟨?_, up1_x e⟩
  show up2 (up2 (up2 (iN s) 5 i w) 6 i o) 8 i (zN s 0) k j = _
  rw [up2_n e, up2_n e, up2_n e]
theorem cm_s {i w o k : Nat} {c : Option Nat} : iN (cmS s i w o c) 5 i = w ∧ iN (cmS s i w o c) 6 i = o ∧ iN (cmS s i w o c) 8 i = zN s 0 ∧ iC (cmS s i w o c) i = c ∧ (k ≠ 5 → k ≠ 6 → k ≠ 8 → iN (cmS s i w o c) k i = iN s k i) := by
  refine ⟨?_, ?_, ?_, up1_s, fun h1 h2 h3 => ?_⟩
  · show up2 (up2 (up2 (iN s) 5 i w) 6 i o) 8 i (zN s 0) 5 i = _
    rw [up2_k (by decide), up2_k (by decide), up2_s]
  · show up2 (up2 (up2 (iN s) 5 i w) 6 i o) 8 i (zN s 0) 6 i = _
    rw [up2_k (by decide), up2_s]
  · show up2 (up2 (up2 (iN s) 5 i w) 6 i o) 8 i (zN s 0) 8 i = _
    rw [up2_s]
  · show up2 (up2 (up2 (iN s) 5 i w) 6 i o) 8 i (zN s 0) k i = _
    rw [up2_k h3, up2_k h2, up2_k h1]
/-- an item that comes on a shelf: the others -/
theorem sh_f (i o : Nat) : (∀ k j, j ≠ i → iN (shS bk s i o) k j = iN s k j ∧ iC (shS bk s i o) j = iC s j) ∧ (∀ k, k ≠ 5 → k ≠ 6 → k ≠ 8 → iN (shS bk s i o) k i = iN s k i) ∧ iN (shS bk s i o) 5 i = 0 ∧ iN (shS bk s i o) 6 i = o ∧ iN (shS bk s i o) 8 i = zN s 0 ∧ iC (shS bk s i o) i = none ∧ sH (shS bk s i o) = up1 (sH s) o (sH s o ++ [i]) ∧ sG (shS bk s i o) = sG s ∧ sT (shS bk s i o) = sT s ∧ sM (shS bk s i o) = sM s ∧ zN (shS bk s i o) 0 = zN s 0 ∧ zN (shS bk s i o) 2 = zN s 2 ∧ iP (shS bk s i o) = iP s ∧ iM (shS bk s i o) = iM s := by
  obtain ⟨a1, a2, a3, a4, a5, a6, a7, a8, a9, a10⟩ := ntS_f (bk := bk) (s := cmS (stH s o (sH s o ++ [i])) i 0 o none) i 3 o
  unfold shS
  rw [a1, a2, a3, a4, a5, a6, a7, a8, a9, a10]
  obtain ⟨b1, b2, b3, b4, -⟩ := cm_s (s := stH s o (sH s o ++ [i])) (i := i) (w := 0) (o := o) (k := 0) (c := none)
  exact ⟨fun k j e => cm_n e, fun k h1 h2 h3 => (cm_s (s := stH s o (sH s o ++ [i])) (i := i) (w := 0) (o := o) (k := k) (c := none)).2.2.2.2 h1 h2 h3, b1, b2, b3, b4, rfl, rfl, rfl, rfl, rfl, rfl, rfl, rfl⟩
theorem dpJ_f (c i : Nat) : (∀ k j, j ≠ i → iN (dpJ bk c s i) k j = iN s k j ∧ iC (dpJ bk c s i) j = iC s j) ∧ (∀ k, k ≠ 5 → k ≠ 6 → k ≠ 8 → k ≠ 9 → iN (dpJ bk c s i) k i = iN s k i) ∧ iN (dpJ bk c s i) 5 i = 2 ∧ iN (dpJ bk c s i) 6 i = bk 26 c ∧ iN (dpJ bk c s i) 8 i = zN s 0 ∧ iN (dpJ bk c s i) 9 i = zN s 0 + bk 30 c ∧ iC (dpJ bk c s i) i = some c ∧ sH (dpJ bk c s i) = sH s ∧ sG (dpJ bk c s i) = sG s ∧ sT (dpJ bk c s i) = sT s ∧ sM (dpJ bk c s i) = sM s ∧ zN (dpJ bk c s i) 0 = zN s 0 ∧ zN (dpJ bk c s i) 2 = zN s 2 ∧ iP (dpJ bk c s i) = iP s ∧ iM (dpJ bk c s i) = iM s := by
  obtain ⟨a1, a2, a3, a4, a5, a6, a7, a8, a9, a10⟩ := ntS_f (bk := bk) (s := stI (cmS s i 2 (bk 26 c) (some c)) 9 i (zN s 0 + bk 30 c)) i 2 (bk 25 c)
  unfold dpJ
  rw [a1, a2, a3, a4, a5, a6, a7, a8, a9, a10]
  obtain ⟨b1, b2, b3, b4, -⟩ := cm_s (s := s) (i := i) (w := 2) (o := bk 26 c) (k := 0) (c := some c)
  refine ⟨fun k j e => ⟨(up2_n (f := iN (cmS s i 2 (bk 26 c) (some c))) (k := 9) (v := zN s 0 + bk 30 c) e).trans (cm_n e).1, (cm_n (k := k) e).2⟩, fun k h1 h2 h3 h4 => ?_, ?_, ?_, ?_, ?_, b4, rfl, rfl, rfl, rfl, rfl, rfl, rfl, rfl⟩
  · show up2 (iN (cmS s i 2 (bk 26 c) (some c))) 9 i (zN s 0 + bk 30 c) k i = _
    rw [up2_k h4]; exact (cm_s (s := s) (i := i) (w := 2) (o := bk 26 c) (k := k) (c := some c)).2.2.2.2 h1 h2 h3
  · show up2 (iN (cmS s i 2 (bk 26 c) (some c))) 9 i (zN s 0 + bk 30 c) 5 i = _
    rw [up2_k (by decide)]; exact b1
  · show up2 (iN (cmS s i 2 (bk 26 c) (some c))) 9 i (zN s 0 + bk 30 c) 6 i = _
    rw [up2_k (by decide)]; exact b2
  · show up2 (iN (cmS s i 2 (bk 26 c) (some c))) 9 i (zN s 0 + bk 30 c) 8 i = _
    rw [up2_k (by decide)]; exact b3
  · show up2 (iN (cmS s i 2 (bk 26 c) (some c))) 9 i (zN s 0 + bk 30 c) 9 i = _
    rw [up2_s]
theorem avL_f : ∀ (l : List Nat) (s : St), (∀ k j, j ∉ l → iN (avL bk l s) k j = iN s k j ∧ iC (avL bk l s) j = iC s j) ∧ sG (avL bk l s) = sG s ∧ sT (avL bk l s) = sT s ∧ sM (avL bk l s) = sM s ∧ zN (avL bk l s) 0 = zN s 0 ∧ zN (avL bk l s) 2 = zN s 2 ∧ iP (avL bk l s) = iP s ∧ iM (avL bk l s) = iM s
  | [], s => ⟨fun _ _ _ => ⟨rfl, rfl⟩, rfl, rfl, rfl, rfl, rfl, rfl, rfl⟩
  | i :: r, s => by
    unfold avL
    by_cases q : iN s 9 i = zN s 0
    · rw [if_pos q]
      obtain ⟨a1, a2, a3, a4, a5, a6, a7, a8⟩ := avL_f r (shS bk s i (iN s 6 i))
      obtain ⟨b1, -, -, -, -, -, -, b8, b9, b10, b11, b12, b13, b14⟩ := sh_f (bk := bk) (s := s) i (iN s 6 i)
      refine ⟨fun k j hj => ?_, a2.trans b8, a3.trans b9, a4.trans b10, a5.trans b11, a6.trans b12, a7.trans b13, a8.trans b14⟩
      have h1 : j ≠ i := fun e => hj (e ▸ List.mem_cons_self)
      have h2 : j ∉ r := fun e => hj (List.mem_cons_of_mem _ e)
      exact ⟨(a1 k j h2).1.trans (b1 k j h1).1, (a1 k j h2).2.trans (b1 k j h1).2⟩
    · rw [if_neg q]
      obtain ⟨a1, a2⟩ := avL_f r s
      exact ⟨fun k j hj => a1 k j fun e => hj (List.mem_cons_of_mem _ e), a2⟩
theorem dpL_f {c : Nat} : ∀ (l : List Nat) (s : St), (∀ k j, j ∉ l → iN (dpL bk c l s) k j = iN s k j ∧ iC (dpL bk c l s) j = iC s j) ∧ (l.Nodup → ∀ i, i ∈ l → iC (dpL bk c l s) i = some c ∧ iN (dpL bk c l s) 9 i = zN s 0 + bk 30 c ∧ iN (dpL bk c l s) 6 i = bk 26 c) ∧ sH (dpL bk c l s) = sH s ∧ sG (dpL bk c l s) = sG s ∧ sT (dpL bk c l s) = sT s ∧ sM (dpL bk c l s) = sM s ∧ zN (dpL bk c l s) 0 = zN s 0 ∧ zN (dpL bk c l s) 2 = zN s 2 ∧ iP (dpL bk c l s) = iP s ∧ iM (dpL bk c l s) = iM s
  | [], s => ⟨fun _ _ _ => ⟨rfl, rfl⟩, fun _ i hi => absurd hi List.not_mem_nil, rfl, rfl, rfl, rfl, rfl, rfl, rfl, rfl⟩
  | i :: r, s => by
    unfold dpL
    obtain ⟨a1, a0, a2, a3, a4, a5, a6, a7, a8, a9⟩ := dpL_f r (dpJ bk c s i)
    obtain ⟨b1, -, -, b4, -, b6, b7, b8, b9, b10, b11, b12, b13, b14, b15⟩ := dpJ_f (bk := bk) (s := s) c i
    refine ⟨fun k j hj => ?_, fun nd j hj => ?_, a2.trans b8, a3.trans b9, a4.trans b10, a5.trans b11, a6.trans b12, a7.trans b13, a8.trans b14, a9.trans b15⟩
    · have h1 : j ≠ i := fun e => hj (e ▸ List.mem_cons_self)
      have h2 : j ∉ r := fun e => hj (List.mem_cons_of_mem _ e)
      exact ⟨(a1 k j h2).1.trans (b1 k j h1).1, (a1 k j h2).2.trans (b1 k j h1).2⟩
    · obtain ⟨n1, n2⟩ := List.nodup_cons.mp nd
      rcases List.mem_cons.mp hj with q | q
      · subst q
        exact ⟨(a1 0 j n1).2.trans b7, (a1 9 j n1).1.trans b6, (a1 6 j n1).1.trans b4⟩
      · rw [← b12]; exact a0 n2 j q
/-- a state whose riding items are these -/
def WSc (bk : Bk) (s : St) (rl : List Nat) : Prop := zN s 2 ≤ 200 ∧ zN s 0 < 2 ^ 29 ∧ zN s 1 < 65521 ∧
  (∀ i, i < zN s 2 → iN s 0 i < bk 0 2 ∧ 1 ≤ iN s 1 i ∧ iN s 1 i ≤ 4000 ∧ iN s 2 i < bk 0 0 ∧ iN s 3 i ≤ 999 ∧ 27 ≤ iN s 4 i ∧ iN s 4 i < 27000 ∧ iN s 5 i ≤ 4 ∧ iN s 6 i < bk 0 0 ∧ iN s 7 i ≤ 2 ∧ iN s 8 i ≤ zN s 0 ∧ (∀ p, iP s i = some p → p < bk 0 1) ∧ ∀ c, iC s i = some c → c < bk 0 3) ∧
  (∀ o, (sH s o).Nodup ∧ ∀ i, i ∈ sH s o ↔ i < zN s 2 ∧ iN s 5 i = 0 ∧ iN s 6 i = o) ∧
  (∀ c, (sG s c).Nodup ∧ ∀ i, i ∈ sG s c ↔ i < zN s 2 ∧ iN s 5 i = 1 ∧ iC s i = some c) ∧
  (rl.Nodup ∧ ∀ i, i ∈ rl ↔ i < zN s 2 ∧ iN s 5 i = 2) ∧
  (∀ i, i < zN s 2 → iN s 5 i = 1 → ∃ c, iC s i = some c ∧ c < bk 0 3 ∧ iN s 6 i = bk 25 c) ∧ (∀ i, i < zN s 2 → (iN s 5 i = 0 ∨ 3 ≤ iN s 5 i) → iC s i = none) ∧
  (sM s).length ≤ 40 ∧ ((sM s).Pairwise fun a b => ¬ (a.1 = b.1 ∧ a.2.1 = b.2.1)) ∧ ∀ m, m ∈ sM s → m.1 < bk 0 1 ∧ 27 ≤ m.2.1 ∧ m.2.1 < 27000 ∧ ∀ q, m.2.2 = some q → q.1 < bk 0 1 ∧ 27 ≤ q.2 ∧ q.2 < 27000
/-- the trips, none of them late -/
def TrC (bk : Bk) (s : St) (T : List (Nat × Nat × List Nat)) : Prop := (∀ t, t ∈ T → t.1 < bk 0 3 ∧ zN s 0 ≤ t.2.1 ∧ t.2.1 ≤ zN s 0 + bk 30 t.1 ∧ 1 ≤ t.2.2.length ∧ t.2.2.length ≤ 20 ∧ ∀ i, i ∈ t.2.2 → iC s i = some t.1 ∧ iN s 9 i = t.2.1 ∧ iN s 6 i = bk 26 t.1) ∧ T.Pairwise fun a b => a.1 ≠ b.1 ∨ a.2.1 ≠ b.2.1
theorem WS.c (w : WS bk s) : WSc bk s (rid s) ∧ TrC bk s (sT s) ∧ ∀ t, t ∈ sT s → zN s 0 < t.2.1 := by
  obtain ⟨w1, w2, w3, w4, w5, w6, w7, w8, w9, w10, w11, w12⟩ := w
  refine ⟨⟨w1, w2, w3, w4, w5, w6, w7, w10, w11, w12⟩, ⟨fun t ht => ?_, w9⟩, fun t ht => (w8 t ht).2.1⟩
  obtain ⟨a1, a2, a3⟩ := w8 t ht
  exact ⟨a1, by omega, a3⟩
theorem WS.of (w : WSc bk s (rid s)) (t : TrC bk s (sT s)) (q : ∀ t, t ∈ sT s → zN s 0 < t.2.1) : WS bk s := by
  obtain ⟨w1, w2, w3, w4, w5, w6, w7, w10, w11, w12⟩ := w
  exact ⟨w1, w2, w3, w4, w5, w6, w7, fun x hx => ⟨(t.1 x hx).1, q x hx, (t.1 x hx).2.2⟩, t.2, w10, w11, w12⟩
theorem WSc.T {rl : List Nat} (w : WSc bk s rl) (l : List (Nat × Nat × List Nat)) : WSc bk (stT s l) rl := w
theorem WSc.i {rl : List Nat} (w : WSc bk s rl) : WI bk s := ⟨w.1, w.2.1, w.2.2.1, fun i hi => ⟨(w.2.2.2.1 i hi).1, (w.2.2.2.1 i hi).2.2.2.1, (w.2.2.2.1 i hi).2.2.2.2.2.2.2.2.2.2.2.1⟩⟩
theorem WSc.nt {rl : List Nat} (w : WSc bk s rl) (i wh o : Nat) : WSc bk (ntS bk s i wh o) rl := by
  unfold ntS
  by_cases e : bk 18 (iN s 0 i) = 2
  · rw [if_pos e]
    exact ⟨w.1, w.2.1, Nat.mod_lt _ (by decide), w.2.2.2⟩
  · rw [if_neg e]; exact w
theorem WSc.sh {rl : List Nat} (w : WSc bk s rl) {i o : Nat} (hi : i ∈ rl) (ho : o < bk 0 0) : WSc bk (shS bk s i o) (rl.erase i) := by
  refine WSc.nt ?_ i 3 o
  obtain ⟨w1, w2, w3, w4, w5, w6, w7, w10, w11, w12⟩ := w
  obtain ⟨i1, i2⟩ := (w7.2 i).mp hi
  obtain ⟨b1, b2, b3, b4, b5⟩ := cm_s (s := stH s o (sH s o ++ [i])) (i := i) (w := 0) (o := o) (k := 0) (c := none)
  have b5 : ∀ k, k ≠ 5 → k ≠ 6 → k ≠ 8 → iN (cmS (stH s o (sH s o ++ [i])) i 0 o none) k i = iN s k i := fun k => (cm_s (s := stH s o (sH s o ++ [i])) (i := i) (w := 0) (o := o) (k := k) (c := none)).2.2.2.2
  have n1 : ∀ k j, j ≠ i → iN (cmS (stH s o (sH s o ++ [i])) i 0 o none) k j = iN s k j := fun k j e => (cm_n e).1
  have n2 : ∀ j, j ≠ i → iC (cmS (stH s o (sH s o ++ [i])) i 0 o none) j = iC s j := fun j e => (cm_n (k := 0) e).2
  refine ⟨w1, w2, w3, fun j hj => ?_, fun o' => ?_, fun c' => ⟨(w6 c').1, fun j => ?_⟩, ⟨w7.1.erase i, fun j => ?_⟩, fun j hj => ?_, fun j hj => ?_, w12⟩
  · obtain ⟨a1, a2, a3, a4, a5, a6, a7, a8, a9, a10, a11, a12, a13⟩ := w4 j hj
    by_cases e : j = i
    · subst e
      rw [b1, b2, b3, b4, b5 0 (by decide) (by decide) (by decide), b5 1 (by decide) (by decide) (by decide), b5 2 (by decide) (by decide) (by decide), b5 3 (by decide) (by decide) (by decide), b5 4 (by decide) (by decide) (by decide), b5 7 (by decide) (by decide) (by decide)]
      exact ⟨a1, a2, a3, a4, a5, a6, a7, by omega, ho, a10, Nat.le_refl _, a12, fun c q => by cases q⟩
    · rw [n1 _ _ e, n1 _ _ e, n1 _ _ e, n1 _ _ e, n1 _ _ e, n1 _ _ e, n1 _ _ e, n1 _ _ e, n1 _ _ e, n2 _ e]
      exact ⟨a1, a2, a3, a4, a5, a6, a7, a8, a9, a10, a11, a12, a13⟩
  · show (up1 (sH s) o (sH s o ++ [i]) o').Nodup ∧ ∀ j, j ∈ up1 (sH s) o (sH s o ++ [i]) o' ↔ _
    have ni : ∀ o, i ∉ sH s o := fun o q => by
      have := (((w5 o).2 i).mp q).2.1
      omega
    by_cases q : o' = o
    · rw [q, up1_s]
      refine ⟨List.nodup_append.mpr ⟨(w5 o).1, by simp, fun a ha b' hb' e => ni o (by
        rw [List.mem_singleton] at hb'
        rw [← hb', ← e]; exact ha)⟩, fun j => ?_⟩
      rw [List.mem_append, List.mem_singleton, (w5 o).2 j]
      by_cases e : j = i
      · subst e
        exact ⟨fun _ => ⟨i1, b1, b2⟩, fun _ => Or.inr rfl⟩
      · rw [n1 _ _ e, n1 _ _ e]
        exact ⟨fun r => r.resolve_right e, fun r => Or.inl r⟩
    · rw [up1_x q]
      refine ⟨(w5 o').1, fun j => ?_⟩
      rw [(w5 o').2 j]
      by_cases e : j = i
      · subst e
        exact ⟨fun r => by have := r.2.1; omega, fun r => absurd (r.2.2.symm.trans b2) q⟩
      · rw [n1 _ _ e, n1 _ _ e]; exact Iff.rfl
  · rw [show sG (cmS (stH s o (sH s o ++ [i])) i 0 o none) c' = sG s c' from rfl, (w6 c').2 j]
    by_cases e : j = i
    · subst e
      exact ⟨fun r => by have := r.2.1; omega, fun r => by have := r.2.1; omega⟩
    · rw [n1 _ _ e, n2 _ e]; exact Iff.rfl
  · rw [w7.1.mem_erase_iff, w7.2 j]
    by_cases e : j = i
    · subst e
      exact ⟨fun r => absurd rfl r.1, fun r => by have := r.2; omega⟩
    · rw [n1 _ _ e]
      exact ⟨fun r => r.2, fun r => ⟨e, r⟩⟩
  · by_cases e : j = i
    · subst e
      intro q; omega
    · rw [n1 _ _ e, n1 _ _ e, n2 _ e]; exact w10 j hj
  · by_cases e : j = i
    · subst e
      exact fun _ => b4
    · rw [n1 _ _ e, n2 _ e]; exact w11 j hj
theorem WSc.dp {rl : List Nat} (w : WSc bk s rl) (W : WB bk) {i c : Nat} {g : List Nat} (hc : c < bk 0 3) (hg : sG s c = i :: g) : WSc bk (stG (dpJ bk c s i) c g) (rl ++ [i]) := by
  unfold dpJ
  rw [← ntS_G]
  refine WSc.nt ?_ i 2 (bk 25 c)
  obtain ⟨w1, w2, w3, w4, w5, w6, w7, w10, w11, w12⟩ := w
  obtain ⟨i1, i2, i3⟩ := ((w6 c).2 i).mp (by rw [hg]; exact List.mem_cons_self)
  have q1 := (W.2.2.2.2.2 c hc).2.1
  obtain ⟨nd1, nd2⟩ := List.nodup_cons.mp (hg ▸ (w6 c).1)
  have e1 : ∀ k, iN (stG (stI (cmS s i 2 (bk 26 c) (some c)) 9 i (zN s 0 + bk 30 c)) c g) k = up2 (iN (cmS s i 2 (bk 26 c) (some c))) 9 i (zN s 0 + bk 30 c) k := fun k => rfl
  obtain ⟨b1, b2, b3, b4, -⟩ := cm_s (s := s) (i := i) (w := 2) (o := bk 26 c) (k := 0) (c := some c)
  have v5 : iN (stG (stI (cmS s i 2 (bk 26 c) (some c)) 9 i (zN s 0 + bk 30 c)) c g) 5 i = 2 := by rw [e1, up2_k (by decide)]; exact b1
  have v6 : iN (stG (stI (cmS s i 2 (bk 26 c) (some c)) 9 i (zN s 0 + bk 30 c)) c g) 6 i = bk 26 c := by rw [e1, up2_k (by decide)]; exact b2
  have v8 : iN (stG (stI (cmS s i 2 (bk 26 c) (some c)) 9 i (zN s 0 + bk 30 c)) c g) 8 i = zN s 0 := by rw [e1, up2_k (by decide)]; exact b3
  have vC : iC (stG (stI (cmS s i 2 (bk 26 c) (some c)) 9 i (zN s 0 + bk 30 c)) c g) i = some c := b4
  have vk : ∀ k, k ≠ 5 → k ≠ 6 → k ≠ 8 → k ≠ 9 → iN (stG (stI (cmS s i 2 (bk 26 c) (some c)) 9 i (zN s 0 + bk 30 c)) c g) k i = iN s k i := fun k h1 h2 h3 h4 => by
    rw [e1, up2_k h4]; exact (cm_s (s := s) (i := i) (w := 2) (o := bk 26 c) (k := k) (c := some c)).2.2.2.2 h1 h2 h3
  have n1 : ∀ k j, j ≠ i → iN (stG (stI (cmS s i 2 (bk 26 c) (some c)) 9 i (zN s 0 + bk 30 c)) c g) k j = iN s k j := fun k j e => by
    rw [e1, up2_n e]; exact (cm_n e).1
  have n2 : ∀ j, j ≠ i → iC (stG (stI (cmS s i 2 (bk 26 c) (some c)) 9 i (zN s 0 + bk 30 c)) c g) j = iC s j := fun j e => (cm_n (k := 0) e).2
  refine ⟨w1, w2, w3, fun j hj => ?_, fun o' => ⟨(w5 o').1, fun j => ?_⟩, fun c' => ?_, ⟨List.nodup_append.mpr ⟨w7.1, by simp, fun a ha b' hb' e => ?_⟩, fun j => ?_⟩, fun j hj => ?_, fun j hj => ?_, w12⟩
  · obtain ⟨a1, a2, a3, a4, a5, a6, a7, a8, a9, a10, a11, a12, a13⟩ := w4 j hj
    by_cases e : j = i
    · subst e
      rw [v5, v6, v8, vC, vk 0 (by decide) (by decide) (by decide) (by decide), vk 1 (by decide) (by decide) (by decide) (by decide), vk 2 (by decide) (by decide) (by decide) (by decide), vk 3 (by decide) (by decide) (by decide) (by decide), vk 4 (by decide) (by decide) (by decide) (by decide), vk 7 (by decide) (by decide) (by decide) (by decide)]
      exact ⟨a1, a2, a3, a4, a5, a6, a7, by omega, q1, a10, Nat.le_refl _, a12, fun c q => by cases q; exact hc⟩
    · rw [n1 _ _ e, n1 _ _ e, n1 _ _ e, n1 _ _ e, n1 _ _ e, n1 _ _ e, n1 _ _ e, n1 _ _ e, n1 _ _ e, n2 _ e]
      exact ⟨a1, a2, a3, a4, a5, a6, a7, a8, a9, a10, a11, a12, a13⟩
  · rw [show sH (stG (stI (cmS s i 2 (bk 26 c) (some c)) 9 i (zN s 0 + bk 30 c)) c g) o' = sH s o' from rfl, (w5 o').2 j]
    by_cases e : j = i
    · subst e
      exact ⟨fun r => by have := r.2.1; omega, fun r => by have := r.2.1; omega⟩
    · rw [n1 _ _ e, n1 _ _ e]; exact Iff.rfl
  · show (up1 (sG s) c g c').Nodup ∧ ∀ j, j ∈ up1 (sG s) c g c' ↔ _
    by_cases q : c' = c
    · rw [q, up1_s]
      refine ⟨nd2, fun j => ?_⟩
      by_cases e : j = i
      · subst e
        exact ⟨fun r => absurd r nd1, fun r => by have := r.2.1; omega⟩
      · rw [n1 _ _ e, n2 _ e]
        have := (w6 c).2 j
        rw [hg, List.mem_cons] at this
        exact ⟨fun r => this.mp (Or.inr r), fun r => (this.mpr r).resolve_left e⟩
    · rw [up1_x q]
      refine ⟨(w6 c').1, fun j => ?_⟩
      rw [(w6 c').2 j]
      by_cases e : j = i
      · subst e
        refine ⟨fun r => ?_, fun r => by have := r.2.1; omega⟩
        have := r.2.2
        rw [i3] at this
        exact absurd (Option.some.inj this).symm q
      · rw [n1 _ _ e, n2 _ e]; exact Iff.rfl
  · rw [List.mem_singleton] at hb'
    have := ((w7.2 a).mp ha).2
    rw [e, hb'] at this
    omega
  · rw [List.mem_append, List.mem_singleton, w7.2 j]
    by_cases e : j = i
    · subst e
      exact ⟨fun _ => ⟨i1, v5⟩, fun _ => Or.inr rfl⟩
    · rw [n1 _ _ e]
      exact ⟨fun r => r.resolve_right e, fun r => Or.inl r⟩
  · by_cases e : j = i
    · subst e
      intro q; omega
    · rw [n1 _ _ e, n1 _ _ e, n2 _ e]; exact w10 j hj
  · by_cases e : j = i
    · subst e
      intro q; omega
    · rw [n1 _ _ e, n2 _ e]; exact w11 j hj
end MIN
