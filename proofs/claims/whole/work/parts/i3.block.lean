/-! ===== PROGRAMMES: where a block closes ===== -/
def bw (t : Tp) (m : Nat) : Int := if lk t m = 123 then 1 else if lk t m = 125 then -1 else 0
def bc (t : Tp) (i : Nat) : Nat → Int
  | 0 => 0
  | n + 1 => bc t i n + bw t (i + n)
theorem bc_a {t : Tp} {i n : Nat} : ∀ m, bc t i (n + m) = bc t i n + bc t (i + n) m
  | 0 => (Int.add_zero _).symm
  | m + 1 => by
    show bc t i (n + m) + bw t (i + (n + m)) = bc t i n + (bc t (i + n) m + bw t (i + n + m))
    rw [bc_a m, Nat.add_assoc]; omega
def BLN (t : Tp) (a b : Nat) : Prop := a ≤ b ∧ bc t a (b - a) = 0 ∧ ∀ n, n ≤ b - a → 0 ≤ bc t a n
theorem BLN.r {t : Tp} {a : Nat} : BLN t a a := ⟨Nat.le_refl _, by rw [Nat.sub_self]; rfl, fun n hn => by
  have : n = 0 := by omega
  subst this; exact Int.le_refl _⟩
theorem BLN.t {t : Tp} {a b c : Nat} (x : BLN t a b) (y : BLN t b c) : BLN t a c := by
  obtain ⟨x1, x2, x3⟩ := x
  obtain ⟨y1, y2, y3⟩ := y
  refine ⟨by omega, ?_, fun n hn => ?_⟩
  · rw [show c - a = (b - a) + (c - b) by omega, bc_a, show a + (b - a) = b by omega, x2, y2]; rfl
  · by_cases q : n ≤ b - a
    · exact x3 n q
    · have := y3 (n - (b - a)) (by omega)
      rw [show n = (b - a) + (n - (b - a)) by omega, bc_a, show a + (b - a) = b by omega, x2]
      omega
theorem BLN.o {t : Tp} {k : Nat} (h1 : lk t k ≠ 123) (h2 : lk t k ≠ 125) : BLN t k (k + 1) := by
  have e : bc t k 1 = 0 := by
    show bc t k 0 + bw t (k + 0) = 0
    unfold bw
    rw [Nat.add_zero, if_neg h1, if_neg h2]; rfl
  refine ⟨Nat.le_succ _, by rw [show k + 1 - k = 1 by omega]; exact e, fun n hn => ?_⟩
  have : n = 0 ∨ n = 1 := by omega
  rcases this with q | q
  · rw [q]; exact Int.le_refl _
  · rw [q, e]; exact Int.le_refl _
/-- a block that begins at i ends at j -/
def MT (t : Tp) (i j : Nat) : Prop := i < j ∧ lk t i = 123 ∧ bc t i (j + 1 - i) = 0 ∧ ∀ n, 0 < n → n ≤ j - i → 0 < bc t i n
theorem MT.u {t : Tp} {i j j' : Nat} (a : MT t i j) (b : MT t i j') : j = j' := by
  have one : ∀ {j j' : Nat}, MT t i j → MT t i j' → ¬ j < j' := fun {j j'} a b h => by
    have h0 := a.1
    have h2 := b.1
    have := b.2.2.2 (j + 1 - i) (by omega) (by omega)
    rw [a.2.2.1] at this
    exact absurd this (by decide)
  have h1 := one a b
  have h2 := one b a
  omega
theorem BLN.b {t : Tp} {i j : Nat} (h : lk t i = 123) (x : BLN t (i + 1) j) (h2 : lk t j = 125) : MT t i j ∧ BLN t i (j + 1) := by
  obtain ⟨x1, x2, x3⟩ := x
  have b1 : bc t i 1 = 1 := by
    show bc t i 0 + bw t (i + 0) = 1
    unfold bw
    rw [Nat.add_zero, if_pos h]; rfl
  have st : ∀ n, bc t i (1 + n) = 1 + bc t (i + 1) n := fun n => by rw [bc_a, b1]
  have e0 : bc t i (j + 1 - i) = 0 := by
    rw [show j + 1 - i = (1 + (j - (i + 1))) + 1 by omega]
    show bc t i (1 + (j - (i + 1))) + bw t (i + (1 + (j - (i + 1)))) = 0
    rw [st, x2, show i + (1 + (j - (i + 1))) = j by omega]
    unfold bw
    rw [if_neg (by rw [h2]; decide), if_pos h2]; rfl
  have pos : ∀ n, 0 < n → n ≤ j - i → 0 < bc t i n := fun n h0 hn => by
    have := x3 (n - 1) (by omega)
    rw [show n = 1 + (n - 1) by omega, st]; omega
  refine ⟨⟨by omega, h, e0, pos⟩, by omega, by exact e0, fun n hn => ?_⟩
  by_cases q0 : n = 0
  · rw [q0]; exact Int.le_refl _
  · by_cases q : n ≤ j - i
    · exact Int.le_of_lt (pos n (by omega) q)
    · rw [show n = j + 1 - i by omega, e0]; exact Int.le_refl _
def PB (t : Tp) (f : Nat → Option (Nat × Nat)) : Prop := ∀ k r, f k = some r → r.1 = 0 → BLN t k r.2
section PBS
variable {t : Tp}
theorem PB.sq {f g : Nat → Option (Nat × Nat)} (hf : PB t f) (hg : PB t g) : PB t (fun k => Jvm.Pilot.CPostRoomLaw_law_r9321_2ac549.sq (f k) g) := fun k r e z => by
  obtain ⟨r1, e1, ⟨e2, e3⟩ | ⟨e2, e3⟩⟩ := sq_s e
  · exact (hf k r1 e1 e2).t (hg _ _ e3 z)
  · rw [e3] at z; exact absurd z e2
theorem PB.tk {c : Nat} (h1 : c ≠ 123) (h2 : c ≠ 125) : PB t (fun k => tk1 t c k) := fun k r e z => by
  have e : (if lk t k = c then some (0, k + 1) else some (fX t 1 k, 0)) = some r := e
  by_cases q : lk t k = c
  · rw [if_pos q] at e; cases e; exact BLN.o (by omega) (by omega)
  · rw [if_neg q] at e; cases e; exact absurd z (fX_0 (by decide))
theorem PB.r : PB t (fun k => some (0, k)) := fun k r e z => by cases e; exact BLN.r
theorem PB.x {c : Nat} (hc : c ≠ 0) : PB t (fun k => some (fX t c k, 0)) := fun k r e z => by cases e; exact absurd z (fX_0 hc)
theorem PB.c {f g : Nat → Option (Nat × Nat)} {P : Nat → Prop} [∀ k, Decidable (P k)] (hf : ∀ k r, P k → f k = some r → r.1 = 0 → BLN t k r.2) (hg : PB t g) : PB t (fun k => if P k then f k else g k) := fun k r e z => by
  have e : (if P k then f k else g k) = some r := e
  by_cases q : P k
  · rw [if_pos q] at e; exact hf k r q e z
  · rw [if_neg q] at e; exact hg k r e z
theorem px_b : ∀ (N tag d : Nat), PB t (fun k => px t N tag d k) ∧ (tag = 0 → ∀ k r, px t N tag d k = some r → r.1 = 0 → lk t r.2 = 125)
  | 0, tag, d => ⟨(fun k r e => by cases e), (fun _ k r e => by cases e)⟩
  | N + 1, tag, d => by
    have ih : ∀ tag d, PB t (fun k => px t N tag d k) := fun tag d => (px_b N tag d).1
    have i0 : ∀ d k r, px t N 0 d k = some r → r.1 = 0 → lk t r.2 = 125 := fun d => (px_b N 0 d).2 rfl
    have t59 : PB t (fun k => tk1 t 59 k) := PB.tk (by decide) (by decide)
    -- a token, then something
    have st : ∀ {f : Nat → Option (Nat × Nat)} {k : Nat} {r : Nat × Nat}, PB t f → lk t k ≠ 123 → lk t k ≠ 125 → f (k + 1) = some r → r.1 = 0 → BLN t k r.2 := fun {f k r} hf h1 h2 e z => (BLN.o h1 h2).t (hf _ _ e z)
    have bad : ∀ {c k : Nat} {r : Nat × Nat}, c ≠ 0 → (some (fX t c k, 0) : Option (Nat × Nat)) = some r → r.1 = 0 → BLN t k r.2 := fun {c k r} hc e z => PB.x hc k r e z
    refine ⟨fun k r e z => ?_, fun tz k r e z => ?_⟩
    · have e : px1 t (px t N) tag d k = some r := e
      have tags : tag = 0 ∨ tag = 1 ∨ tag = 2 ∨ tag = 3 ∨ tag = 4 ∨ tag = 5 ∨ tag = 6 ∨ tag = 7 ∨ tag = 8 ∨ tag = 9 ∨ tag = 10 ∨ tag = 11 ∨ tag = 12 ∨ 13 ≤ tag := by omega
      rcases tags with h | h | h | h | h | h | h | h | h | h | h | h | h | h
      · subst h
        have e : (if lk t k = 125 then some (0, k) else sq (px t N 1 d k) fun k => px t N 0 d k) = some r := e
        split at e
        · cases e; exact BLN.r
        · exact PB.sq (ih 1 d) (ih 0 d) k r e z
      · subst h
        have e : pxS t (px t N) d k = some r := e
        unfold pxS at e
        have row : PB t (fun k => if 160 ≤ lk t k ∧ lk t k ≤ 171 then some (0, k + 1) else some (fX t 1 k, 0)) := PB.c (fun k r q e z => by cases e; exact BLN.o (by omega) (by omega)) (PB.x (by decide))
        have opt : ∀ c, c ≠ 123 → c ≠ 125 → PB t (fun k' => if lk t k' = c then px t N 2 d (k' + 1) else some (0, k')) := fun c h1 h2 => PB.c (fun k r q e z => st (ih 2 d) (by omega) (by omega) e z) PB.r
        by_cases q : lk t k = 4
        · rw [if_pos q] at e
          exact st (PB.sq (PB.tk (by decide) (by decide)) (PB.sq (ih 3 d) t59)) (by omega) (by omega) e z
        rw [if_neg q] at e
        by_cases q : lk t k = 5
        · rw [if_pos q] at e
          exact st (PB.sq (PB.tk (by decide) (by decide)) (PB.sq (ih 9 d) t59)) (by omega) (by omega) e z
        rw [if_neg q] at e
        by_cases q : lk t k = 128
        · rw [if_pos q] at e
          exact st (PB.sq (ih 10 d) (PB.sq row (PB.sq (ih 3 d) t59))) (by omega) (by omega) e z
        rw [if_neg q] at e
        by_cases q : lk t k = 129
        · rw [if_pos q] at e
          exact st (PB.sq (ih 10 d) t59) (by omega) (by omega) e z
        rw [if_neg q] at e
        by_cases q : lk t k = 130
        · rw [if_pos q] at e
          exact st (PB.sq (ih 10 d) (PB.sq (ih 10 d) t59)) (by omega) (by omega) e z
        rw [if_neg q] at e
        by_cases q : lk t k = 131
        · rw [if_pos q] at e
          exact st (PB.sq (ih 11 d) (PB.sq (ih 3 d) t59)) (by omega) (by omega) e z
        rw [if_neg q] at e
        by_cases q : lk t k = 132
        · rw [if_pos q] at e
          exact st (PB.sq (ih 11 d) (PB.sq (ih 9 d) t59)) (by omega) (by omega) e z
        rw [if_neg q] at e
        by_cases q : lk t k = 133
        · rw [if_pos q] at e
          exact st (PB.sq (ih 10 d) (PB.sq (ih 3 d) (PB.sq (PB.tk (by decide) (by decide)) (PB.sq (ih 10 d) (PB.sq (ih 3 d) (PB.sq (PB.tk (by decide) (by decide)) (PB.sq (ih 3 d) t59))))))) (by omega) (by omega) e z
        rw [if_neg q] at e
        by_cases q : lk t k = 134
        · rw [if_pos q] at e
          exact st (PB.sq (ih 9 d) (PB.sq (PB.tk (by decide) (by decide)) (PB.sq (ih 3 d) t59))) (by omega) (by omega) e z
        rw [if_neg q] at e
        by_cases q : lk t k = 135
        · rw [if_pos q] at e
          exact st (PB.sq (ih 3 d) t59) (by omega) (by omega) e z
        rw [if_neg q] at e
        by_cases q : lk t k = 136
        · rw [if_pos q] at e
          exact st t59 (by omega) (by omega) e z
        rw [if_neg q] at e
        by_cases q : lk t k = 137
        · rw [if_pos q] at e
          exact st (PB.sq (ih 3 d) (PB.sq (ih 2 d) (opt 138 (by decide) (by decide)))) (by omega) (by omega) e z
        rw [if_neg q] at e
        by_cases q : lk t k = 139
        · rw [if_pos q] at e
          exact st (PB.sq (ih 3 d) (ih 2 d)) (by omega) (by omega) e z
        rw [if_neg q] at e
        by_cases q : lk t k = 140
        · rw [if_pos q] at e
          exact st (PB.sq (ih 2 d) (PB.sq (ih 12 d) (opt 142 (by decide) (by decide)))) (by omega) (by omega) e z
        rw [if_neg q] at e
        exact bad (by decide) e z
      · subst h
        have e : (if ¬ lk t k = 123 then some (fX t 1 k, 0) else if 20 ≤ d then some (fX t 5 k, 0) else sq (px t N 0 (d + 1) (k + 1)) fun k => some (0, k + 1)) = some r := e
        split at e
        · exact bad (by decide) e z
        · rename_i q
          have q := Decidable.of_not_not q
          split at e
          · exact bad (by decide) e z
          · obtain ⟨r1, e1, ⟨e2, e3⟩ | ⟨e2, e3⟩⟩ := sq_s e
            · cases e3
              exact (BLN.b q (ih 0 (d + 1) _ _ e1 e2) (i0 _ _ _ e1 e2)).2
            · rw [e3] at z; exact absurd z e2
      · subst h
        exact PB.sq (ih 4 d) (PB.c (P := fun k => lk t k = 60 ∨ lk t k = 61) (fun k r q e z => st (ih 4 d) (by omega) (by omega) e z) PB.r) k r e z
      · subst h; exact PB.sq (ih 6 d) (ih 5 d) k r e z
      · subst h
        exact PB.c (P := fun k => lk t k = 43 ∨ lk t k = 45) (fun k r q e z => st (PB.sq (ih 6 d) (ih 5 d)) (by omega) (by omega) e z) PB.r k r e z
      · subst h; exact PB.sq (ih 8 d) (ih 7 d) k r e z
      · subst h
        exact PB.c (P := fun k => lk t k = 42 ∨ lk t k = 47 ∨ lk t k = 37) (fun k r q e z => st (PB.sq (ih 8 d) (ih 7 d)) (by omega) (by omega) e z) PB.r k r e z
      · subst h
        have e : pxU t (px t N) d k = some r := e
        unfold pxU at e
        split at e
        · exact bad (by decide) e z
        · rename_i q
          have q := Decidable.of_not_not q
          split at e
          · exact bad (by decide) e z
          split at e
          · exact st (PB.sq (ih 3 (d + 1)) (PB.tk (by decide) (by decide))) (by omega) (by omega) e z
          split at e
          · exact st (ih 8 (d + 1)) (by omega) (by omega) e z
          split at e
          · exact st (ih 10 (d + 1)) (by omega) (by omega) e z
          split at e
          · exact st (ih 11 (d + 1)) (by omega) (by omega) e z
          split at e
          · exact st (ih 9 (d + 1)) (by omega) (by omega) e z
          · cases e; exact BLN.o (by omega) (by omega)
      · subst h
        have e : pxI t (px t N) d k = some r := e
        unfold pxI at e
        split at e
        · exact bad (by decide) e z
        · rename_i q
          have q := Decidable.of_not_not q
          split at e
          · exact bad (by decide) e z
          split at e
          · cases e; exact BLN.o (by omega) (by omega)
          split at e
          · exact st (ih 8 (d + 1)) (by omega) (by omega) e z
          split at e
          · exact st (ih 11 (d + 1)) (by omega) (by omega) e z
          · exact st (ih 9 (d + 1)) (by omega) (by omega) e z
      · subst h; exact PB.sq (PB.tk (by decide) (by decide)) (ih 8 d) k r e z
      · subst h; exact PB.sq (ih 10 d) (PB.sq (PB.tk (by decide) (by decide)) (PB.sq (ih 3 d) (PB.tk (by decide) (by decide)))) k r e z
      · subst h
        have e : (if lk t k = 141 then (if lk t (k + 1) = 3 ∧ 9 < tV t (k + 1) then some (fX t 4 (k + 1), 0) else sq (tk1 t 3 (k + 1)) fun k => sq (px t N 2 d k) fun k => px t N 12 d k) else some (0, k)) = some r := e
        split at e
        · split at e
          · cases e; exact absurd z (fX_0 (by decide))
          · exact st (PB.sq (PB.tk (c := 3) (by decide) (by decide)) (PB.sq (ih 2 d) (ih 12 d))) (by omega) (by omega) e z
        · cases e; exact BLN.r
      · have e : (if lk t k = 0 then some (0, k) else sq (px t N 1 d k) fun k => px t N 13 d k) = some r := by
          obtain ⟨m, rfl⟩ : ∃ m, tag = m + 13 := ⟨tag - 13, by omega⟩
          exact e
        split at e
        · cases e; exact BLN.r
        · exact PB.sq (ih 1 d) (ih 13 d) k r e z
    · subst tz
      have e : (if lk t k = 125 then some (0, k) else sq (px t N 1 d k) fun k => px t N 0 d k) = some r := e
      split at e
      · cases e; assumption
      · obtain ⟨r1, e1, ⟨e2, e3⟩ | ⟨e2, e3⟩⟩ := sq_s e
        · exact i0 _ _ _ e3 z
        · rw [e3] at z; exact absurd z e2
/-- a block of the grammar -/
theorem px_m {N d k : Nat} {r : Nat × Nat} (e : px t (N + 1) 2 d k = some r) (z : r.1 = 0) : lk t k = 123 ∧ d < 20 ∧ ∃ j, r.2 = j + 1 ∧ MT t k j ∧ lk t j = 125 ∧ px t N 0 (d + 1) (k + 1) = some (0, j) := by
  have e : (if ¬ lk t k = 123 then some (fX t 1 k, 0) else if 20 ≤ d then some (fX t 5 k, 0) else sq (px t N 0 (d + 1) (k + 1)) fun k => some (0, k + 1)) = some r := e
  split at e
  · cases e; exact absurd z (fX_0 (by decide))
  · rename_i q
    have q := Decidable.of_not_not q
    split at e
    · cases e; exact absurd z (fX_0 (by decide))
    · obtain ⟨r1, e1, ⟨e2, e3⟩ | ⟨e2, e3⟩⟩ := sq_s e
      · cases e3
        have h125 := (px_b N 0 (d + 1)).2 rfl _ _ e1 e2
        refine ⟨q, by omega, r1.2, rfl, (BLN.b q ((px_b N 0 (d + 1)).1 _ _ e1 e2) h125).1, h125, ?_⟩
        rw [e1, ← e2]
      · rw [e3] at z; exact absurd z e2
end PBS
