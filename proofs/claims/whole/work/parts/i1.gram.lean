/-! ===== PROGRAMMES: tokens, the grammar ===== -/
/-- the words of programmes, in the component's order, as numbers of the reference's words -/
def wLn : List Nat := [34, 35, 36, 37, 38, 39, 40, 41, 42, 43, 44, 45, 46, 47, 48, 49, 50, 9, 51, 52, 53, 54, 55, 56, 57, 58, 59, 60, 61, 16, 17, 18, 62, 63, 64, 65, 66, 67, 68, 69, 70, 71, 72, 73]
def wLk : List Nat := wLn.map kw
theorem wLk_p : pkW (chS 18) 0 = wLk := by decide +kernel
theorem wLk_b : ∀ w, w ∈ wLk → w < 37 ^ 12 := by decide +kernel
theorem chS18 : ∀ c, c ∈ chS 18 → c = 32 ∨ 97 ≤ c := by decide +kernel
theorem wLk_l : wLk.length = 44 := by decide +kernel
/-- the kind of token k of a programme -/
def lk (t : Tp) (k : Nat) : Nat := if tK t k = 2 then (match wI t k wLk with
  | some j => 128 + j
  | none => if tE t k - tS t k = 2 then (if t.2 (tS t k) = 114 ∧ 48 ≤ t.2 (tS t k + 1) ∧ t.2 (tS t k + 1) ≤ 57 then 4 else if t.2 (tS t k) = 120 ∧ 48 ≤ t.2 (tS t k + 1) ∧ t.2 (tS t k + 1) ≤ 51 then 5 else 2) else 2) else tK t k
def lkV (t : Tp) (k : Nat) : Nat := if tK t k = 3 then tV t k else t.2 (tS t k + 1) - 48
theorem wI_b {t : Tp} {k j : Nat} (h : wI t k wLk = some j) : j < 44 ∧ tV t k = wLk.getD j 0 := by
  unfold wI at h
  split at h
  · obtain ⟨h1, h2, -⟩ := List.findIdx?_eq_some_iff_getElem.mp h
    rw [wLk_l] at h1
    refine ⟨h1, ?_⟩
    rw [List.getD_eq_getElem?_getD, List.getElem?_eq_getElem (by rw [wLk_l]; exact h1)]
    exact (of_decide_eq_true h2).symm
  · cases h
theorem lk_b {t : Tp} {k : Nat} : lk t k < 172 := by
  unfold lk
  split
  · split
    · rename_i j e
      have := (wI_b e).1; omega
    · split
      · split
        · decide
        · split <;> decide
      · decide
  · have := tK_b (t := t) (k := k); omega
theorem lk_0 {t : Tp} {k : Nat} : lk t k = 0 ↔ tK t k = 0 := by
  unfold lk
  constructor
  · intro h
    split at h
    · exfalso
      split at h
      · omega
      · split at h
        · split at h
          · omega
          · split at h <;> omega
        · omega
    · exact h
  · intro h; rw [if_neg (by omega)]; exact h
/-- one step, then another -/
def sq (a : Option (Nat × Nat)) (f : Nat → Option (Nat × Nat)) : Option (Nat × Nat) := match a with
  | none => none
  | some r => if r.1 = 0 then f r.2 else some r
theorem sq_s {a : Option (Nat × Nat)} {f : Nat → Option (Nat × Nat)} {r : Nat × Nat} (h : sq a f = some r) : ∃ r1, a = some r1 ∧ (r1.1 = 0 ∧ f r1.2 = some r ∨ r1.1 ≠ 0 ∧ r = r1) := by
  unfold sq at h
  cases a with
  | none => cases h
  | some r1 =>
    dsimp only at h
    by_cases q : r1.1 = 0
    · rw [if_pos q] at h; exact ⟨r1, rfl, Or.inl ⟨q, h⟩⟩
    · rw [if_neg q] at h; exact ⟨r1, rfl, Or.inr ⟨q, (Option.some.inj h).symm⟩⟩
def tk1 (t : Tp) (c k : Nat) : Option (Nat × Nat) := if lk t k = c then some (0, k + 1) else some (fX t 1 k, 0)
/-- statements -/
def pxS (t : Tp) (p : Nat → Nat → Nat → Option (Nat × Nat)) (d k : Nat) : Option (Nat × Nat) :=
  if lk t k = 4 then sq (tk1 t 61 (k + 1)) fun k => sq (p 3 d k) fun k => tk1 t 59 k
  else if lk t k = 5 then sq (tk1 t 61 (k + 1)) fun k => sq (p 9 d k) fun k => tk1 t 59 k
  else if lk t k = 128 then sq (p 10 d (k + 1)) fun k => sq (if 160 ≤ lk t k ∧ lk t k ≤ 171 then some (0, k + 1) else some (fX t 1 k, 0)) fun k => sq (p 3 d k) fun k => tk1 t 59 k
  else if lk t k = 129 then sq (p 10 d (k + 1)) fun k => tk1 t 59 k
  else if lk t k = 130 then sq (p 10 d (k + 1)) fun k => sq (p 10 d k) fun k => tk1 t 59 k
  else if lk t k = 131 then sq (p 11 d (k + 1)) fun k => sq (p 3 d k) fun k => tk1 t 59 k
  else if lk t k = 132 then sq (p 11 d (k + 1)) fun k => sq (p 9 d k) fun k => tk1 t 59 k
  else if lk t k = 133 then sq (p 10 d (k + 1)) fun k => sq (p 3 d k) fun k => sq (tk1 t 44 k) fun k => sq (p 10 d k) fun k => sq (p 3 d k) fun k => sq (tk1 t 44 k) fun k => sq (p 3 d k) fun k => tk1 t 59 k
  else if lk t k = 134 then sq (p 9 d (k + 1)) fun k => sq (tk1 t 44 k) fun k => sq (p 3 d k) fun k => tk1 t 59 k
  else if lk t k = 135 then sq (p 3 d (k + 1)) fun k => tk1 t 59 k
  else if lk t k = 136 then tk1 t 59 (k + 1)
  else if lk t k = 137 then sq (p 3 d (k + 1)) fun k => sq (p 2 d k) fun k => if lk t k = 138 then p 2 d (k + 1) else some (0, k)
  else if lk t k = 139 then sq (p 3 d (k + 1)) fun k => p 2 d k
  else if lk t k = 140 then sq (p 2 d (k + 1)) fun k => sq (p 12 d k) fun k => if lk t k = 142 then p 2 d (k + 1) else some (0, k)
  else some (fX t 1 k, 0)
def bgU (t : Tp) (k : Nat) : Prop := lk t k = 3 ∨ lk t k = 4 ∨ lk t k = 40 ∨ lk t k = 45 ∨ 143 ≤ lk t k ∧ lk t k ≤ 153
def pxU (t : Tp) (p : Nat → Nat → Nat → Option (Nat × Nat)) (d k : Nat) : Option (Nat × Nat) :=
  if ¬ (lk t k = 3 ∨ lk t k = 4 ∨ lk t k = 40 ∨ lk t k = 45 ∨ 143 ≤ lk t k ∧ lk t k ≤ 153) then some (fX t 1 k, 0)
  else if 20 ≤ d then some (fX t 5 k, 0)
  else if lk t k = 40 then sq (p 3 (d + 1) (k + 1)) fun k => tk1 t 41 k
  else if lk t k = 45 then p 8 (d + 1) (k + 1)
  else if lk t k = 143 ∨ lk t k = 144 then p 10 (d + 1) (k + 1)
  else if lk t k = 145 then p 11 (d + 1) (k + 1)
  else if 146 ≤ lk t k ∧ lk t k ≤ 150 then p 9 (d + 1) (k + 1)
  else some (0, k + 1)
def pxI (t : Tp) (p : Nat → Nat → Nat → Option (Nat × Nat)) (d k : Nat) : Option (Nat × Nat) :=
  if ¬ (lk t k = 5 ∨ 154 ≤ lk t k ∧ lk t k ≤ 159) then some (fX t 1 k, 0)
  else if 20 ≤ d then some (fX t 5 k, 0)
  else if lk t k = 5 ∨ lk t k = 154 then some (0, k + 1)
  else if lk t k = 155 then p 8 (d + 1) (k + 1)
  else if lk t k = 156 then p 11 (d + 1) (k + 1)
  else p 9 (d + 1) (k + 1)
/-- one level of the grammar: 0 statements up to }, 1 statement, 2 block, 3 expression, 4 sum, 5 its rest, 6 product, 7 its rest, 8 unit, 9 item, 10 tray, 11 spot, 12 ons, 13 all -/
def px1 (t : Tp) (p : Nat → Nat → Nat → Option (Nat × Nat)) (tag d k : Nat) : Option (Nat × Nat) := match tag with
  | 0 => if lk t k = 125 then some (0, k) else sq (p 1 d k) fun k => p 0 d k
  | 1 => pxS t p d k
  | 2 => if ¬ lk t k = 123 then some (fX t 1 k, 0) else if 20 ≤ d then some (fX t 5 k, 0) else sq (p 0 (d + 1) (k + 1)) fun k => some (0, k + 1)
  | 3 => sq (p 4 d k) fun k => if lk t k = 60 ∨ lk t k = 61 then p 4 d (k + 1) else some (0, k)
  | 4 => sq (p 6 d k) fun k => p 5 d k
  | 5 => if lk t k = 43 ∨ lk t k = 45 then sq (p 6 d (k + 1)) fun k => p 5 d k else some (0, k)
  | 6 => sq (p 8 d k) fun k => p 7 d k
  | 7 => if lk t k = 42 ∨ lk t k = 47 ∨ lk t k = 37 then sq (p 8 d (k + 1)) fun k => p 7 d k else some (0, k)
  | 8 => pxU t p d k
  | 9 => pxI t p d k
  | 10 => sq (tk1 t 64 k) fun k => p 8 d k
  | 11 => sq (p 10 d k) fun k => sq (tk1 t 91 k) fun k => sq (p 3 d k) fun k => tk1 t 93 k
  | 12 => if lk t k = 141 then (if lk t (k + 1) = 3 ∧ 9 < tV t (k + 1) then some (fX t 4 (k + 1), 0) else sq (tk1 t 3 (k + 1)) fun k => sq (p 2 d k) fun k => p 12 d k) else some (0, k)
  | _ => if lk t k = 0 then some (0, k) else sq (p 1 d k) fun k => p 13 d k
def px (t : Tp) : Nat → Nat → Nat → Nat → Option (Nat × Nat)
  | 0, _, _, _ => none
  | N + 1, tag, d, k => px1 t (px t N) tag d k
/-- the end of all tokens -/
def ME (t : Tp) (M : Nat) : Prop := tK t M = 0 ∧ ∀ j, j < M → tK t j ≠ 0
theorem ME.lk {t : Tp} {M k : Nat} (h : ME t M) (hk : lk t k ≠ 0) : k < M := by
  by_cases q : k < M
  · exact q
  · exact absurd (lk_0.mpr (by have := tK_e' h.1 (k - M); rwa [show M + (k - M) = k by omega] at this)) hk
/-- what a good answer is: it ends not ahead of where it begins, and not behind the end -/
def okP (M k : Nat) (r : Nat × Nat) : Prop := r.1 = 0 → k ≤ r.2 ∧ r.2 ≤ M
def okQ (M k : Nat) (r : Nat × Nat) : Prop := r.1 = 0 → k < r.2 ∧ r.2 ≤ M
theorem sq_t {P : Nat × Nat → Prop} {a : Option (Nat × Nat)} {f : Nat → Option (Nat × Nat)} (ha : ∃ r, a = some r ∧ (r.1 ≠ 0 → P r) ∧ (r.1 = 0 → ∃ r', f r.2 = some r' ∧ P r')) : ∃ r, sq a f = some r ∧ P r := by
  obtain ⟨r, rfl, h1, h2⟩ := ha
  unfold sq
  dsimp only
  by_cases q : r.1 = 0
  · rw [if_pos q]; exact h2 q
  · rw [if_neg q]; exact ⟨r, rfl, h1 q⟩
theorem fX_0 {t : Tp} {c k : Nat} (h : c ≠ 0) : fX t c k ≠ 0 := by unfold fX; omega
def rkT (tag : Nat) : Nat := match tag with
  | 0 => 2
  | 3 => 4
  | 4 => 3
  | 6 => 2
  | 11 => 2
  | 13 => 2
  | _ => 1
/-- which tags take something always -/
def tkT (tag : Nat) : Bool := match tag with
  | 0 => false
  | 5 => false
  | 7 => false
  | 12 => false
  | 13 => false
  | _ => true
