/-! ===== OTHER RUNS OVER THE SAME CODE: equations by pieces ===== -/
section GOG
variable {call : Cl} {c : Nat → CI} {r : Cn} {cut : Nat → Bool}
theorem goM_eqG (hr : ∀ pc l st h, cut pc = false → r pc l st h = stp call r (c pc) pc (mkL l (dd5 (c pc))) st h) (hm : ∀ pc l st h, r pc (mkL l (dd5 (c pc))) st h = r pc l st h) : ∀ K : Nat, goM call r c cut K = r
  | 0 => rfl
  | K + 1 => by
    funext pc l st h
    show (bif cut pc then r pc (mkN (dd5 (c pc)) l) st h else bif isStI (c pc).1 then stp call (fun pc l st h => frc 30 l fun l => goM call r c cut K pc l st h) (c pc) pc (mkN (dd5 (c pc)) l) st h else stp call (goM call r c cut K) (c pc) pc (mkN (dd5 (c pc)) l) st h) = _
    rw [goM_eqG hr hm K, mkN_eq]
    simp only [frc_eq]
    cases e : cut pc with
    | true => exact hm pc l st h
    | false => cases isStI (c pc).1 with
      | true => exact (hr pc l st h e).symm
      | false => exact (hr pc l st h e).symm
theorem blkG (hr : ∀ pc l st h, cut pc = false → r pc l st h = stp call r (c pc) pc (mkL l (dd5 (c pc))) st h) (hm : ∀ pc l st h, r pc (mkL l (dd5 (c pc))) st h = r pc l st h) (K : Nat) {pc : Nat} (hp : ∀ l st h, r pc l st h = stp call r (c pc) pc (mkL l (dd5 (c pc))) st h) (l : Ls) (st : Vs) (h : AH) : r pc l st h = stp call (fun pc l st h => frc 30 l fun l => goM call r c cut K pc l st h) (c pc) pc (mkN (dd5 (c pc)) l) st h := by
  rw [goM_eqG hr hm, mkN_eq]; simp only [frc_eq]; exact hp l st h
end GOG
/-! A method up to the place where it throws. -/
noncomputable def TQ (P d y : Nat) : Cn := RnT cdF mL d (cdF y) P (fun _ st _ => st = [])
theorem TQ_at {P d y : Nat} {l : Ls} {h : AH} : TQ P d y P l [] h = some (some (.double 0), h) := RnT_at rfl
theorem TQ_eq {P d y pc : Nat} (hp : Nat.beq pc P = false) (l : Ls) (st : Vs) (h : AH) : TQ P d y pc l st h = stp (E d) (TQ P d y) (cdF y pc) pc (mkL l (dd5 (cdF y pc))) st h := RnT_eq hp l st h
theorem TQ_mk {P d y pc : Nat} (l : Ls) (st : Vs) (h : AH) : TQ P d y pc (mkL l (dd5 (cdF y pc))) st h = TQ P d y pc l st h := by
  cases hp : Nat.beq pc P with
  | true =>
    have e := Nat.eq_of_beq_eq_true hp
    subst e
    unfold TQ RnT
    refine congrArg lm (funext fun N => ?_)
    cases N with
    | zero => rfl
    | succ N => unfold rnT; rw [Nat.beq_refl]; rfl
  | false => rw [TQ_eq hp, TQ_eq hp, mkL_mkL]
theorem blkT {P d y : Nat} (cut : Nat → Bool) (K pc : Nat) (hc : cut P = true) (hp : Nat.beq pc P = false) (l : Ls) (st : Vs) (h : AH) : TQ P d y pc l st h = stp (E d) (fun pc l st h => frc 30 l fun l => goM (E d) (TQ P d y) (cdF y) cut K pc l st h) (cdF y pc) pc (mkN (dd5 (cdF y pc)) l) st h :=
  blkG (fun pc l st h e => TQ_eq (by
    cases q : Nat.beq pc P with
    | false => rfl
    | true => rw [Nat.eq_of_beq_eq_true q] at e; rw [hc] at e; cases e) l st h) (fun pc l st h => TQ_mk l st h) K (fun l st h => TQ_eq hp l st h) l st h
/-- out of it: the counted run -/
theorem TQ_N {P d y pc : Nat} {l : Ls} {st : Vs} {h : AH} {o : Ot} (q : TQ P d y pc l st h = some o) : ∃ N, rnT (evM cdF mL N d) (cdF y) P (fun _ st _ => st = []) N pc l st h = some o := (lm_iff (rnT_up pc l st h)).mp q
