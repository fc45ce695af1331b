/-! ===== PROGRAMMES: what is read does not pass the end ===== -/
def PLe (t : Tp) (M : Nat) (f : Nat → Option (Nat × Nat)) : Prop := ∀ k r, f k = some r → r.1 = 0 → k ≤ M → r.2 ≤ M
section PLS
variable {t : Tp} {M : Nat}
theorem PLe.sq {f g : Nat → Option (Nat × Nat)} (hf : PLe t M f) (hg : PLe t M g) : PLe t M (fun k => Jvm.Pilot.CPostRoomLaw_law_r9321_2ac549.sq (f k) g) := fun k r e z hk => by
  obtain ⟨r1, e1, ⟨e2, e3⟩ | ⟨e2, e3⟩⟩ := sq_s e
  · exact hg _ _ e3 z (hf k r1 e1 e2 hk)
  · rw [e3] at z; exact absurd z e2
theorem PLe.tk (hM : ME t M) {c : Nat} (h1 : c ≠ 0) : PLe t M (fun k => tk1 t c k) := fun k r e z hk => by
  have e : (if lk t k = c then some (0, k + 1) else some (fX t 1 k, 0)) = some r := e
  by_cases q : lk t k = c
  · rw [if_pos q] at e; cases e; exact hM.lk (by omega)
  · rw [if_neg q] at e; cases e; exact absurd z (fX_0 (by decide))
theorem PLe.r : PLe t M (fun k => some (0, k)) := fun k r e z hk => by cases e; exact hk
theorem PLe.x {c : Nat} (hc : c ≠ 0) : PLe t M (fun k => some (fX t c k, 0)) := fun k r e z _ => by cases e; exact absurd z (fX_0 hc)
theorem PLe.c {f g : Nat → Option (Nat × Nat)} {P : Nat → Prop} [∀ k, Decidable (P k)] (hf : ∀ k r, P k → f k = some r → r.1 = 0 → k ≤ M → r.2 ≤ M) (hg : PLe t M g) : PLe t M (fun k => if P k then f k else g k) := fun k r e z => by
  have e : (if P k then f k else g k) = some r := e
  by_cases q : P k
  · rw [if_pos q] at e; exact hf k r q e z
  · rw [if_neg q] at e; exact hg k r e z
theorem px_le (hM : ME t M) : ∀ (N tag d : Nat), PLe t M (fun k => px t N tag d k)
  | 0, tag, d => fun k r e => by cases e
  | N + 1, tag, d => by
    have ih : ∀ tag d, PLe t M (fun k => px t N tag d k) := fun tag d => px_le hM N tag d
    have i0 : ∀ d k r, px t N 0 d k = some r → r.1 = 0 → lk t r.2 = 125 := fun d => (px_b N 0 d).2 rfl
    have t59 : PLe t M (fun k => tk1 t 59 k) := PLe.tk hM (by decide)
    -- a token, then something
    have st : ∀ {f : Nat → Option (Nat × Nat)} {k : Nat} {r : Nat × Nat}, PLe t M f → lk t k ≠ 0 → f (k + 1) = some r → r.1 = 0 → k ≤ M → r.2 ≤ M := fun {f k r} hf h1 e z _ => hf _ _ e z (hM.lk h1)
    have bad : ∀ {c k : Nat} {r : Nat × Nat}, c ≠ 0 → (some (fX t c k, 0) : Option (Nat × Nat)) = some r → r.1 = 0 → k ≤ M → r.2 ≤ M := fun {c k r} hc e z => PLe.x hc k r e z
    refine fun k r e z hk => ?_
    · have e : px1 t (px t N) tag d k = some r := e
      have tags : tag = 0 ∨ tag = 1 ∨ tag = 2 ∨ tag = 3 ∨ tag = 4 ∨ tag = 5 ∨ tag = 6 ∨ tag = 7 ∨ tag = 8 ∨ tag = 9 ∨ tag = 10 ∨ tag = 11 ∨ tag = 12 ∨ 13 ≤ tag := by omega
      rcases tags with h | h | h | h | h | h | h | h | h | h | h | h | h | h
      · subst h
        have e : (if lk t k = 125 then some (0, k) else sq (px t N 1 d k) fun k => px t N 0 d k) = some r := e
        split at e
        · cases e; exact hk
        · exact PLe.sq (ih 1 d) (ih 0 d) k r e z hk
      · subst h
        have e : pxS t (px t N) d k = some r := e
        unfold pxS at e
        have row : PLe t M (fun k => if 160 ≤ lk t k ∧ lk t k ≤ 171 then some (0, k + 1) else some (fX t 1 k, 0)) := PLe.c (fun k r q e z hk => by cases e; exact hM.lk (by omega)) (PLe.x (by decide))
        have opt : ∀ c, c ≠ 0 → PLe t M (fun k' => if lk t k' = c then px t N 2 d (k' + 1) else some (0, k')) := fun c h1 => PLe.c (fun k r q e z hk => st (ih 2 d) (by omega) e z hk) PLe.r
        by_cases q : lk t k = 4
        · rw [if_pos q] at e
          exact st (PLe.sq (PLe.tk hM (by decide)) (PLe.sq (ih 3 d) t59)) (by omega) e z hk
        rw [if_neg q] at e
        by_cases q : lk t k = 5
        · rw [if_pos q] at e
          exact st (PLe.sq (PLe.tk hM (by decide)) (PLe.sq (ih 9 d) t59)) (by omega) e z hk
        rw [if_neg q] at e
        by_cases q : lk t k = 128
        · rw [if_pos q] at e
          exact st (PLe.sq (ih 10 d) (PLe.sq row (PLe.sq (ih 3 d) t59))) (by omega) e z hk
        rw [if_neg q] at e
        by_cases q : lk t k = 129
        · rw [if_pos q] at e
          exact st (PLe.sq (ih 10 d) t59) (by omega) e z hk
        rw [if_neg q] at e
        by_cases q : lk t k = 130
        · rw [if_pos q] at e
          exact st (PLe.sq (ih 10 d) (PLe.sq (ih 10 d) t59)) (by omega) e z hk
        rw [if_neg q] at e
        by_cases q : lk t k = 131
        · rw [if_pos q] at e
          exact st (PLe.sq (ih 11 d) (PLe.sq (ih 3 d) t59)) (by omega) e z hk
        rw [if_neg q] at e
        by_cases q : lk t k = 132
        · rw [if_pos q] at e
          exact st (PLe.sq (ih 11 d) (PLe.sq (ih 9 d) t59)) (by omega) e z hk
        rw [if_neg q] at e
        by_cases q : lk t k = 133
        · rw [if_pos q] at e
          exact st (PLe.sq (ih 10 d) (PLe.sq (ih 3 d) (PLe.sq (PLe.tk hM (by decide)) (PLe.sq (ih 10 d) (PLe.sq (ih 3 d) (PLe.sq (PLe.tk hM (by decide)) (PLe.sq (ih 3 d) t59))))))) (by omega) e z hk
        rw [if_neg q] at e
        by_cases q : lk t k = 134
        · rw [if_pos q] at e
          exact st (PLe.sq (ih 9 d) (PLe.sq (PLe.tk hM (by decide)) (PLe.sq (ih 3 d) t59))) (by omega) e z hk
        rw [if_neg q] at e
        by_cases q : lk t k = 135
        · rw [if_pos q] at e
          exact st (PLe.sq (ih 3 d) t59) (by omega) e z hk
        rw [if_neg q] at e
        by_cases q : lk t k = 136
        · rw [if_pos q] at e
          exact st t59 (by omega) e z hk
        rw [if_neg q] at e
        by_cases q : lk t k = 137
        · rw [if_pos q] at e
          exact st (PLe.sq (ih 3 d) (PLe.sq (ih 2 d) (opt 138 (by decide)))) (by omega) e z hk
        rw [if_neg q] at e
        by_cases q : lk t k = 139
        · rw [if_pos q] at e
          exact st (PLe.sq (ih 3 d) (ih 2 d)) (by omega) e z hk
        rw [if_neg q] at e
        by_cases q : lk t k = 140
        · rw [if_pos q] at e
          exact st (PLe.sq (ih 2 d) (PLe.sq (ih 12 d) (opt 142 (by decide)))) (by omega) e z hk
        rw [if_neg q] at e
        exact bad (by decide) e z hk
      · subst h
        have e : (if ¬ lk t k = 123 then some (fX t 1 k, 0) else if 20 ≤ d then some (fX t 5 k, 0) else sq (px t N 0 (d + 1) (k + 1)) fun k => some (0, k + 1)) = some r := e
        split at e
        · exact bad (by decide) e z hk
        · rename_i q
          have q := Decidable.of_not_not q
          split at e
          · exact bad (by decide) e z hk
          · obtain ⟨r1, e1, ⟨e2, e3⟩ | ⟨e2, e3⟩⟩ := sq_s e
            · cases e3
              exact hM.lk (k := r1.2) (by rw [i0 _ _ _ e1 e2]; decide)
            · rw [e3] at z; exact absurd z e2
      · subst h
        exact PLe.sq (ih 4 d) (PLe.c (P := fun k => lk t k = 60 ∨ lk t k = 61) (fun k r q e z hk => st (ih 4 d) (by omega) e z hk) PLe.r) k r e z hk
      · subst h; exact PLe.sq (ih 6 d) (ih 5 d) k r e z hk
      · subst h
        exact PLe.c (t := t) (P := fun k => lk t k = 43 ∨ lk t k = 45) (fun k r q e z hk => st (PLe.sq (ih 6 d) (ih 5 d)) (by omega) e z hk) PLe.r k r e z hk
      · subst h; exact PLe.sq (ih 8 d) (ih 7 d) k r e z hk
      · subst h
        exact PLe.c (t := t) (P := fun k => lk t k = 42 ∨ lk t k = 47 ∨ lk t k = 37) (fun k r q e z hk => st (PLe.sq (ih 8 d) (ih 7 d)) (by omega) e z hk) PLe.r k r e z hk
      · subst h
        have e : pxU t (px t N) d k = some r := e
        unfold pxU at e
        split at e
        · exact bad (by decide) e z hk
        · rename_i q
          have q := Decidable.of_not_not q
          split at e
          · exact bad (by decide) e z hk
          split at e
          · exact st (PLe.sq (ih 3 (d + 1)) (PLe.tk hM (by decide))) (by omega) e z hk
          split at e
          · exact st (ih 8 (d + 1)) (by omega) e z hk
          split at e
          · exact st (ih 10 (d + 1)) (by omega) e z hk
          split at e
          · exact st (ih 11 (d + 1)) (by omega) e z hk
          split at e
          · exact st (ih 9 (d + 1)) (by omega) e z hk
          · cases e; exact hM.lk (by omega)
      · subst h
        have e : pxI t (px t N) d k = some r := e
        unfold pxI at e
        split at e
        · exact bad (by decide) e z hk
        · rename_i q
          have q := Decidable.of_not_not q
          split at e
          · exact bad (by decide) e z hk
          split at e
          · cases e; exact hM.lk (by omega)
          split at e
          · exact st (ih 8 (d + 1)) (by omega) e z hk
          split at e
          · exact st (ih 11 (d + 1)) (by omega) e z hk
          · exact st (ih 9 (d + 1)) (by omega) e z hk
      · subst h; exact PLe.sq (PLe.tk hM (by decide)) (ih 8 d) k r e z hk
      · subst h; exact PLe.sq (ih 10 d) (PLe.sq (PLe.tk hM (by decide)) (PLe.sq (ih 3 d) (PLe.tk hM (by decide)))) k r e z hk
      · subst h
        have e : (if lk t k = 141 then (if lk t (k + 1) = 3 ∧ 9 < tV t (k + 1) then some (fX t 4 (k + 1), 0) else sq (tk1 t 3 (k + 1)) fun k => sq (px t N 2 d k) fun k => px t N 12 d k) else some (0, k)) = some r := e
        split at e
        · split at e
          · cases e; exact absurd z (fX_0 (by decide))
          · exact st (PLe.sq (PLe.tk (c := 3) hM (by decide)) (PLe.sq (ih 2 d) (ih 12 d))) (by omega) e z hk
        · cases e; exact hk
      · have e : (if lk t k = 0 then some (0, k) else sq (px t N 1 d k) fun k => px t N 13 d k) = some r := by
          obtain ⟨m, rfl⟩ : ∃ m, tag = m + 13 := ⟨tag - 13, by omega⟩
          exact e
        split at e
        · cases e; exact hk
        · exact PLe.sq (ih 1 d) (ih 13 d) k r e z hk
end PLS
