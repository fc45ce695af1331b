/-! ===== RUN: the reference's tries; jumps ===== -/
section OUW
variable {c : CXm} {hc hr h h1 : AH} {D T p k n e : Nat} {w : Int64} {L : Cds}
/-- out of all tries -/
theorem ow_0 (hs : Sh h) (x3 : gI h 3731 189 = nI 0) (he : e < 2 ^ 31) : E 2 157 [.ref 189, .int (nI e), .long w] h = some (none, sI h 3732 189 (nI (if e = 20 then 0 else e))) := by
  rw [t_157 hs, x3, if_neg (by decide)]
  by_cases q : e = 20
  · rw [if_pos (by rw [q]), if_pos q]
  · rw [if_neg (fun z => q ((nI_eq he (by decide)).mp z)), if_neg q]
theorem t_157_0 (x1 : Int32) (x2 : Int64) {d : Nat} (u : Sh h) : Q d 157 0 [some (.ref 189), some (.int x1), some (.long x2), none, none, none] [] h = E (d + 1) 157 [.ref 189, .int x1, .long x2] h := (entL (l := [some (.ref 189), some (.int x1), some (.long x2), none, none, none]) rfl rfl rfl).symm
/-- a handler takes it -/
theorem ow_1 (hs : Sh h) (x3 : gI h 3731 189 = nI (D + 1)) (hD : D < 24) (t1 : gA h 290 D = nI T) (hT : T < 1640) (s0 : gA h 291 D = nI 0) (he : e < 20) {o : Nat} (ho : o < 1400) (hs1 : Q 0 158 7 [some (.ref 189), none, some (.int (nI e)), some (.int (gA h 276 T))] [] h = some (some (.int (nI o)), h)) : E 2 157 [.ref 189, .int (nI e), .long w] h = some (none, sI (sB (sA h 291 D (nI 1)) 282 9 (if e = 9 then w else (nI e).toInt64)) 3724 189 (gA h 280 o)) := by
  rw [t_157 hs, x3, if_pos (nI_lt (by omega) (by omega)), pk_sub (by omega), show D + 1 - 1 = D by omega, gd_nI hD (by decide), gd_nI hD (by decide), ix_nI (by omega), s0, if_pos rfl, if_pos (nI_lt he (by decide)), t1, t_158 hs, gd_nI hT (by decide), ix_nI (by omega), hs1, cK_v, t_157_47 hs, if_neg (nI_nlt (by omega) (by omega)), x3, pk_sub (by omega), show D + 1 - 1 = D by omega, gd_nI hD (by decide), ix_nI (by omega)]
  by_cases q : e = 9
  · rw [if_pos (by rw [q]), gd_nI ho (by decide), ix_nI (by omega), if_pos q]
  · rw [if_neg (fun z => q ((nI_eq (by omega) (by decide)).mp z)), gd_nI ho (by decide), ix_nI (by omega), if_neg q]
/-- no handler takes it: the rest -/
theorem ow_n (hs : Sh h) (x3 : gI h 3731 189 = nI (D + 1)) (hD : D < 24) (t1 : gA h 290 D = nI T) (hT : T < 1640) (he : e ≤ 20) (q : gA h 291 D ≠ nI 0 ∨ e = 20 ∨ Q 0 158 7 [some (.ref 189), none, some (.int (nI e)), some (.int (gA h 276 T))] [] h = some (some (.int (-1)), h)) :
    (gA h 291 D < nI 2 → ¬ gA h 277 T < nI 0 → E 2 157 [.ref 189, .int (nI e), .long w] h = some (none, sI (sB (sA (sA h 291 D (nI 2)) 292 D (nI e)) 293 D w) 3724 189 (gA h 277 T))) ∧
    (¬ (gA h 291 D < nI 2 ∧ ¬ gA h 277 T < nI 0) → E 2 157 [.ref 189, .int (nI e), .long w] h = E 2 157 [.ref 189, .int (nI e), .long w] (sI h 3731 189 (nI D))) := by
  have i1 : ix (nI (D + 1) - nI 1) = D := by rw [pk_sub (by omega), show D + 1 - 1 = D by omega, ix_nI (by omega)]
  have tl : ∀ {A : Option Ot}, (A = gd (nI D) 24 (if gA h 291 D < nI 2 then gd (nI T) 1640 (if gA h 277 T < nI 0 then E 2 157 [.ref 189, .int (nI e), .long w] (sI h 3731 189 (nI D)) else gd (nI D) 24 (gd (nI D) 24 (gd (nI D) 24 (gd (nI T) 1640 (some (none, sI (sB (sA (sA h 291 D (nI 2)) 292 D (nI e)) 293 D w) 3724 189 (gA h 277 T))))))) else E 2 157 [.ref 189, .int (nI e), .long w] (sI h 3731 189 (nI D)))) → (gA h 291 D < nI 2 → ¬ gA h 277 T < nI 0 → A = some (none, sI (sB (sA (sA h 291 D (nI 2)) 292 D (nI e)) 293 D w) 3724 189 (gA h 277 T))) ∧
    (¬ (gA h 291 D < nI 2 ∧ ¬ gA h 277 T < nI 0) → A = E 2 157 [.ref 189, .int (nI e), .long w] (sI h 3731 189 (nI D))) := fun {A} eA => by
    rw [eA, gd_nI hD (by decide)]
    refine ⟨fun a b => ?_, fun a => ?_⟩
    · rw [if_pos a, gd_nI hT (by decide), if_neg b, gd_nI hD (by decide), gd_nI hD (by decide), gd_nI hD (by decide), gd_nI hT (by decide)]
    · by_cases z : gA h 291 D < nI 2
      · rw [if_pos z, gd_nI hT (by decide), if_pos (Classical.byContradiction fun y => a ⟨z, y⟩)]
      · rw [if_neg z]
  refine tl ?_
  have bk0 := t_157_0 (h := sI h 3731 189 (nI D)) (nI e) w (d := 1) hs.sI
  rw [t_157 hs, x3, if_pos (nI_lt (by omega) (by omega)), pk_sub (by omega), show D + 1 - 1 = D by omega, gd_nI hD (by decide), gd_nI hD (by decide), ix_nI (by omega), t1, bk0]
  by_cases z : gA h 291 D = nI 0
  · rw [if_pos z]
    by_cases z2 : nI e < nI 20
    · have z3 : e < 20 := Classical.byContradiction fun y => nI_nlt (by omega) (by omega) z2
      have sr := (q.resolve_left (fun y => y z)).resolve_left (by omega)
      rw [if_pos z2, t_158 hs, gd_nI hT (by decide), ix_nI (by omega), sr, cK_v, t_157_47 hs, if_pos (by decide), x3, pk_sub (by omega), show D + 1 - 1 = D by omega, ix_nI (by omega), ix_nI (by omega), bk0]
    · rw [if_neg z2, if_pos (by decide), ix_nI (by omega)]
  · rw [if_neg z, if_pos (by decide), ix_nI (by omega)]
end OUW
