/-! ===== PROGRAMMES: the grammar comes to an end; blocks ===== -/
def GC (M a : Nat) (f : Nat → Option (Nat × Nat)) : Prop := ∀ k, a ≤ k → k ≤ M → ∃ r, f k = some r ∧ (r.1 = 0 → k ≤ r.2 ∧ r.2 ≤ M)
section GCS
variable {t : Tp} {M a : Nat}
theorem GC.sq {f g : Nat → Option (Nat × Nat)} (hf : GC M a f) (hg : GC M a g) : GC M a (fun k => Jvm.Pilot.CPostRoomLaw_law_r9321_2ac549.sq (f k) g) := fun k h1 h2 => by
  obtain ⟨r, e, h⟩ := hf k h1 h2
  refine sq_t ⟨r, e, fun q z => absurd z q, fun z => ?_⟩
  obtain ⟨b1, b2⟩ := h z
  obtain ⟨r', e', h'⟩ := hg r.2 (by omega) b2
  exact ⟨r', e', fun w => by have := h' w; omega⟩
theorem GC.tk (hM : ME t M) {c : Nat} (hc : c ≠ 0) : GC M a (fun k => tk1 t c k) := fun k h1 h2 => by
  show ∃ r, (if lk t k = c then some (0, k + 1) else some (fX t 1 k, 0)) = some r ∧ _
  by_cases q : lk t k = c
  · rw [if_pos q]
    exact ⟨_, rfl, fun _ => ⟨Nat.le_succ _, hM.lk (by omega)⟩⟩
  · rw [if_neg q]
    exact ⟨_, rfl, fun z => absurd z (fX_0 (by decide))⟩
theorem GC.c {f g : Nat → Option (Nat × Nat)} {P : Nat → Prop} [∀ k, Decidable (P k)] (hf : ∀ k, a ≤ k → k ≤ M → P k → ∃ r, f k = some r ∧ (r.1 = 0 → k ≤ r.2 ∧ r.2 ≤ M)) (hg : GC M a g) : GC M a (fun k => if P k then f k else g k) := fun k h1 h2 => by
  by_cases q : P k
  · obtain ⟨r, e, h⟩ := hf k h1 h2 q
    exact ⟨r, (if_pos q).trans e, h⟩
  · obtain ⟨r, e, h⟩ := hg k h1 h2
    exact ⟨r, (if_neg q).trans e, h⟩
theorem GC.r : GC M a (fun k => some (0, k)) := fun k _ h => ⟨_, rfl, fun _ => ⟨Nat.le_refl _, h⟩⟩
theorem GC.x {c : Nat} (hc : c ≠ 0) : GC M a (fun k => some (fX t c k, 0)) := fun k _ h => ⟨_, rfl, fun z => absurd z (fX_0 hc)⟩
theorem GC.n {f : Nat → Option (Nat × Nat)} (hf : GC M a f) {k : Nat} (h1 : a ≤ k + 1) (h2 : k + 1 ≤ M) : ∃ r, f (k + 1) = some r ∧ (r.1 = 0 → k + 1 ≤ r.2 ∧ r.2 ≤ M) := hf (k + 1) h1 h2
end GCS
section PXT
variable {t : Tp} {M : Nat}
theorem px_t (hM : ME t M) : ∀ (N tag d k : Nat), tag ≤ 13 → k ≤ M → 6 * (M - k) + rkT tag < N → ∃ r, px t N tag d k = some r ∧ (r.1 = 0 → k + (if tkT tag then 1 else 0) ≤ r.2 ∧ r.2 ≤ M)
  | 0, tag, d, k, _, _, h => absurd h (Nat.not_lt_zero _)
  | N + 1, tag, d, k, ht, hk, h => by
    have ih := px_t hM N
    have rk4 : ∀ tag, tag ≤ 13 → rkT tag ≤ 4 ∧ 1 ≤ rkT tag := by decide
    -- behind a token that is taken
    have gp : ∀ tag d, tag ≤ 13 → GC M (k + 1) (fun k => px t N tag d k) := fun tag d ht k' h1 h2 => by
      obtain ⟨r, e, g⟩ := ih tag d k' ht h2 (by have := rk4 tag ht; omega)
      exact ⟨r, e, fun z => by have := g z; split at this <;> omega⟩
    have lt : lk t k ≠ 0 → k + 1 ≤ M := fun q => hM.lk q
    have same : ∀ tag', tag' ≤ 13 → rkT tag' < rkT tag → ∀ d, ∃ r, px t N tag' d k = some r ∧ (r.1 = 0 → k + (if tkT tag' then 1 else 0) ≤ r.2 ∧ r.2 ≤ M) := fun tag' ht' hr d => ih tag' d k ht' hk (by omega)
    have bad : ∀ {c : Nat} {n : Nat}, c ≠ 0 → ∃ r, (some (fX t c k, 0) : Option (Nat × Nat)) = some r ∧ (r.1 = 0 → k + n ≤ r.2 ∧ r.2 ≤ M) := fun {c n} hc => ⟨_, rfl, fun z => absurd z (fX_0 hc)⟩
    have t59 : GC M (k + 1) (fun k => tk1 t 59 k) := GC.tk hM (by decide)
    have up : ∀ {f : Nat → Option (Nat × Nat)}, GC M (k + 1) f → lk t k ≠ 0 → ∃ r, f (k + 1) = some r ∧ (r.1 = 0 → k + 1 ≤ r.2 ∧ r.2 ≤ M) := fun {f} hf q => hf (k + 1) (Nat.le_refl _) (lt q)
    have two : ∀ {a : Option (Nat × Nat)} {f : Nat → Option (Nat × Nat)}, (∃ r, a = some r ∧ (r.1 = 0 → k + 1 ≤ r.2 ∧ r.2 ≤ M)) → GC M (k + 1) f → ∃ r, sq a f = some r ∧ (r.1 = 0 → k + 1 ≤ r.2 ∧ r.2 ≤ M) := fun {a f} ⟨r, e, g⟩ hf => sq_t ⟨r, e, fun q z => absurd z q, fun z => by
      obtain ⟨b1, b2⟩ := g z
      obtain ⟨r', e', g'⟩ := hf r.2 b1 b2
      exact ⟨r', e', fun w => by have := g' w; omega⟩⟩
    show ∃ r, px1 t (px t N) tag d k = some r ∧ _
    match tag, ht with
    | 0, _ =>
      show ∃ r, (if lk t k = 125 then some (0, k) else sq (px t N 1 d k) fun k => px t N 0 d k) = some r ∧ (r.1 = 0 → k + 0 ≤ r.2 ∧ r.2 ≤ M)
      by_cases q : lk t k = 125
      · rw [if_pos q]; exact ⟨_, rfl, fun _ => ⟨Nat.le_refl _, hk⟩⟩
      · rw [if_neg q]
        obtain ⟨r, e, g⟩ := two (same 1 (by decide) (by show 1 < 2; decide) d) (gp 0 d (by decide))
        exact ⟨r, e, fun z => by have := g z; omega⟩
    | 1, _ =>
      show ∃ r, pxS t (px t N) d k = some r ∧ (r.1 = 0 → k + 1 ≤ r.2 ∧ r.2 ≤ M)
      unfold pxS
      have row : GC M (k + 1) (fun k => if 160 ≤ lk t k ∧ lk t k ≤ 171 then some (0, k + 1) else some (fX t 1 k, 0)) := GC.c (fun k' h1 h2 q => ⟨_, rfl, fun _ => ⟨Nat.le_succ _, hM.lk (by omega)⟩⟩) (GC.x (by decide))
      have opt : ∀ c, c ≠ 0 → GC M (k + 1) (fun k' => if lk t k' = c then px t N 2 d (k' + 1) else some (0, k')) := fun c hc => GC.c (fun k' h1 h2 q => by
        obtain ⟨r, e, g⟩ := gp 2 d (by decide) (k' + 1) (by omega) (hM.lk (by omega))
        exact ⟨r, e, fun z => by have := g z; omega⟩) GC.r
      by_cases q4 : lk t k = 4
      · rw [if_pos q4]; exact up (GC.sq (GC.tk hM (by decide)) (GC.sq (gp 3 d (by decide)) t59)) (by omega)
      rw [if_neg q4]
      by_cases q5 : lk t k = 5
      · rw [if_pos q5]; exact up (GC.sq (GC.tk hM (by decide)) (GC.sq (gp 9 d (by decide)) t59)) (by omega)
      rw [if_neg q5]
      by_cases q : lk t k = 128
      · rw [if_pos q]; exact up (GC.sq (gp 10 d (by decide)) (GC.sq row (GC.sq (gp 3 d (by decide)) t59))) (by omega)
      rw [if_neg q]
      by_cases q : lk t k = 129
      · rw [if_pos q]; exact up (GC.sq (gp 10 d (by decide)) t59) (by omega)
      rw [if_neg q]
      by_cases q : lk t k = 130
      · rw [if_pos q]; exact up (GC.sq (gp 10 d (by decide)) (GC.sq (gp 10 d (by decide)) t59)) (by omega)
      rw [if_neg q]
      by_cases q : lk t k = 131
      · rw [if_pos q]; exact up (GC.sq (gp 11 d (by decide)) (GC.sq (gp 3 d (by decide)) t59)) (by omega)
      rw [if_neg q]
      by_cases q : lk t k = 132
      · rw [if_pos q]; exact up (GC.sq (gp 11 d (by decide)) (GC.sq (gp 9 d (by decide)) t59)) (by omega)
      rw [if_neg q]
      by_cases q : lk t k = 133
      · rw [if_pos q]; exact up (GC.sq (gp 10 d (by decide)) (GC.sq (gp 3 d (by decide)) (GC.sq (GC.tk hM (by decide)) (GC.sq (gp 10 d (by decide)) (GC.sq (gp 3 d (by decide)) (GC.sq (GC.tk hM (by decide)) (GC.sq (gp 3 d (by decide)) t59))))))) (by omega)
      rw [if_neg q]
      by_cases q : lk t k = 134
      · rw [if_pos q]; exact up (GC.sq (gp 9 d (by decide)) (GC.sq (GC.tk hM (by decide)) (GC.sq (gp 3 d (by decide)) t59))) (by omega)
      rw [if_neg q]
      by_cases q : lk t k = 135
      · rw [if_pos q]; exact up (GC.sq (gp 3 d (by decide)) t59) (by omega)
      rw [if_neg q]
      by_cases q : lk t k = 136
      · rw [if_pos q]; exact up t59 (by omega)
      rw [if_neg q]
      by_cases q : lk t k = 137
      · rw [if_pos q]; exact up (GC.sq (gp 3 d (by decide)) (GC.sq (gp 2 d (by decide)) (opt 138 (by decide)))) (by omega)
      rw [if_neg q]
      by_cases q : lk t k = 139
      · rw [if_pos q]; exact up (GC.sq (gp 3 d (by decide)) (gp 2 d (by decide))) (by omega)
      rw [if_neg q]
      by_cases q : lk t k = 140
      · rw [if_pos q]; exact up (GC.sq (gp 2 d (by decide)) (GC.sq (gp 12 d (by decide)) (opt 142 (by decide)))) (by omega)
      rw [if_neg q]
      exact bad (by decide)
    | 2, _ =>
      show ∃ r, (if ¬ lk t k = 123 then some (fX t 1 k, 0) else if 20 ≤ d then some (fX t 5 k, 0) else sq (px t N 0 (d + 1) (k + 1)) fun k => some (0, k + 1)) = some r ∧ (r.1 = 0 → k + 1 ≤ r.2 ∧ r.2 ≤ M)
      by_cases q : lk t k = 123
      · rw [if_neg (not_not_intro q)]
        split
        · exact bad (by decide)
        · obtain ⟨r, e, g⟩ := up (gp 0 (d + 1) (by decide)) (by omega)
          refine sq_t ⟨r, e, fun q z => absurd z q, fun z => ⟨_, rfl, fun _ => ?_⟩⟩
          have g2 := g z
          -- it ends at a }
          have en : ∀ N k r, px t N 0 (d + 1) k = some r → r.1 = 0 → lk t r.2 = 125 := by
            intro N
            induction N with
            | zero => intro k r e; cases e
            | succ N ihN =>
              intro k r e z
              have e : (if lk t k = 125 then some (0, k) else sq (px t N 1 (d + 1) k) fun k => px t N 0 (d + 1) k) = some r := e
              by_cases w : lk t k = 125
              · rw [if_pos w] at e; cases e; exact w
              · rw [if_neg w] at e
                obtain ⟨r1, f1, f2 | f2⟩ := sq_s e
                · exact ihN _ _ f2.2 z
                · rw [f2.2] at z; exact absurd z f2.1
          have := hM.lk (k := r.2) (by rw [en N (k + 1) r e z]; decide)
          show k + 1 ≤ r.2 + 1 ∧ r.2 + 1 ≤ M
          omega
      · rw [if_pos q]; exact bad (by decide)
    | 3, _ =>
      show ∃ r, (sq (px t N 4 d k) fun k => if lk t k = 60 ∨ lk t k = 61 then px t N 4 d (k + 1) else some (0, k)) = some r ∧ (r.1 = 0 → k + 1 ≤ r.2 ∧ r.2 ≤ M)
      exact two (same 4 (by decide) (by show 3 < 4; decide) d) (GC.c (fun k' h1 h2 q => by
        obtain ⟨r, e, g⟩ := gp 4 d (by decide) (k' + 1) (by omega) (hM.lk (by omega))
        exact ⟨r, e, fun z => by have := g z; omega⟩) GC.r)
    | 4, _ => exact two (same 6 (by decide) (by show 2 < 3; decide) d) (gp 5 d (by decide))
    | 5, _ =>
      show ∃ r, (if lk t k = 43 ∨ lk t k = 45 then sq (px t N 6 d (k + 1)) fun k => px t N 5 d k else some (0, k)) = some r ∧ (r.1 = 0 → k + 0 ≤ r.2 ∧ r.2 ≤ M)
      split
      · obtain ⟨r, e, g⟩ := up (GC.sq (gp 6 d (by decide)) (gp 5 d (by decide))) (by omega)
        exact ⟨r, e, fun z => by have := g z; omega⟩
      · exact ⟨_, rfl, fun _ => ⟨Nat.le_refl _, hk⟩⟩
    | 6, _ => exact two (same 8 (by decide) (by show 1 < 2; decide) d) (gp 7 d (by decide))
    | 7, _ =>
      show ∃ r, (if lk t k = 42 ∨ lk t k = 47 ∨ lk t k = 37 then sq (px t N 8 d (k + 1)) fun k => px t N 7 d k else some (0, k)) = some r ∧ (r.1 = 0 → k + 0 ≤ r.2 ∧ r.2 ≤ M)
      split
      · obtain ⟨r, e, g⟩ := up (GC.sq (gp 8 d (by decide)) (gp 7 d (by decide))) (by omega)
        exact ⟨r, e, fun z => by have := g z; omega⟩
      · exact ⟨_, rfl, fun _ => ⟨Nat.le_refl _, hk⟩⟩
    | 8, _ =>
      show ∃ r, pxU t (px t N) d k = some r ∧ (r.1 = 0 → k + 1 ≤ r.2 ∧ r.2 ≤ M)
      unfold pxU
      by_cases q : lk t k = 3 ∨ lk t k = 4 ∨ lk t k = 40 ∨ lk t k = 45 ∨ 143 ≤ lk t k ∧ lk t k ≤ 153
      · rw [if_neg (not_not_intro q)]
        have n0 : lk t k ≠ 0 := by omega
        split
        · exact bad (by decide)
        split
        · exact up (GC.sq (gp 3 (d + 1) (by decide)) (GC.tk hM (by decide))) n0
        split
        · exact up (gp 8 (d + 1) (by decide)) n0
        split
        · exact up (gp 10 (d + 1) (by decide)) n0
        split
        · exact up (gp 11 (d + 1) (by decide)) n0
        split
        · exact up (gp 9 (d + 1) (by decide)) n0
        · exact ⟨_, rfl, fun _ => ⟨Nat.le_refl _, lt n0⟩⟩
      · rw [if_pos q]; exact bad (by decide)
    | 9, _ =>
      show ∃ r, pxI t (px t N) d k = some r ∧ (r.1 = 0 → k + 1 ≤ r.2 ∧ r.2 ≤ M)
      unfold pxI
      by_cases q : lk t k = 5 ∨ 154 ≤ lk t k ∧ lk t k ≤ 159
      · rw [if_neg (not_not_intro q)]
        have n0 : lk t k ≠ 0 := by omega
        split
        · exact bad (by decide)
        split
        · exact ⟨_, rfl, fun _ => ⟨Nat.le_refl _, lt n0⟩⟩
        split
        · exact up (gp 8 (d + 1) (by decide)) n0
        split
        · exact up (gp 11 (d + 1) (by decide)) n0
        · exact up (gp 9 (d + 1) (by decide)) n0
      · rw [if_pos q]; exact bad (by decide)
    | 10, _ =>
      show ∃ r, (sq (tk1 t 64 k) fun k => px t N 8 d k) = some r ∧ (r.1 = 0 → k + 1 ≤ r.2 ∧ r.2 ≤ M)
      refine two ?_ (gp 8 d (by decide))
      unfold tk1
      split
      · rename_i q; exact ⟨_, rfl, fun _ => ⟨Nat.le_refl _, lt (by omega)⟩⟩
      · exact bad (by decide)
    | 11, _ => exact two (same 10 (by decide) (by show 1 < 2; decide) d) (GC.sq (GC.tk hM (by decide)) (GC.sq (gp 3 d (by decide)) (GC.tk hM (by decide))))
    | 12, _ =>
      show ∃ r, (if lk t k = 141 then (if lk t (k + 1) = 3 ∧ 9 < tV t (k + 1) then some (fX t 4 (k + 1), 0) else sq (tk1 t 3 (k + 1)) fun k => sq (px t N 2 d k) fun k => px t N 12 d k) else some (0, k)) = some r ∧ (r.1 = 0 → k + 0 ≤ r.2 ∧ r.2 ≤ M)
      split
      · split
        · exact ⟨_, rfl, fun z => absurd z (fX_0 (by decide))⟩
        · obtain ⟨r, e, g⟩ := up (GC.sq (GC.tk hM (by decide : (3 : Nat) ≠ 0)) (GC.sq (gp 2 d (by decide)) (gp 12 d (by decide)))) (by omega)
          exact ⟨r, e, fun z => by have := g z; omega⟩
      · exact ⟨_, rfl, fun _ => ⟨Nat.le_refl _, hk⟩⟩
    | 13, _ =>
      show ∃ r, (if lk t k = 0 then some (0, k) else sq (px t N 1 d k) fun k => px t N 13 d k) = some r ∧ (r.1 = 0 → k + 0 ≤ r.2 ∧ r.2 ≤ M)
      split
      · exact ⟨_, rfl, fun _ => ⟨Nat.le_refl _, hk⟩⟩
      · obtain ⟨r, e, g⟩ := two (same 1 (by decide) (by show 1 < 2; decide) d) (gp 13 d (by decide))
        exact ⟨r, e, fun z => by have := g z; omega⟩
end PXT
