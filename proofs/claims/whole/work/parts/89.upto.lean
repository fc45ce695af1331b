/-! ===== A RUN UP TO A PLACE, WITHOUT COUNTED STEPS ===== -/
theorem up_01 {A B : Cl} (h : ∀ y as h' o, A y as h' = some o → B y as h' = some o) (y : Nat) (as : Vs) (h' : AH) : Up fun j => (if j = 0 then A else B) y as h' := by
  intro a b o hab w
  by_cases ha : a = 0
  · simp only [if_pos ha] at w
    by_cases hb : b = 0
    · simp only [if_pos hb]; exact w
    · simp only [if_neg hb]; exact h y as h' o w
  · have hb : b ≠ 0 := by omega
    simp only [if_neg ha] at w
    simp only [if_neg hb]; exact w
theorem up_02 {A B : Cn} (h : ∀ pc l st h' o, A pc l st h' = some o → B pc l st h' = some o) (pc : Nat) (l : Ls) (st : Vs) (h' : AH) : Up fun j => (if j = 0 then A else B) pc l st h' := by
  intro a b o hab w
  by_cases ha : a = 0
  · simp only [if_pos ha] at w
    by_cases hb : b = 0
    · simp only [if_pos hb]; exact w
    · simp only [if_neg hb]; exact h pc l st h' o w
  · have hb : b ≠ 0 := by omega
    simp only [if_neg ha] at w
    simp only [if_neg hb]; exact w
/-- a step grows with its call and its rest -/
theorem stp_up {A B : Cl} {k k' : Cn} (h1 : ∀ y as h' o, A y as h' = some o → B y as h' = some o) (h2 : ∀ pc l st h' o, k pc l st h' = some o → k' pc l st h' = some o) {ci : CI} {pc : Nat} {l : Ls} {st : Vs} {h : AH} {o : Ot} (q : stp A k ci pc l st h = some o) : stp B k' ci pc l st h = some o :=
  (stp_lm (c := fun j => if j = 0 then A else B) (k := fun j => if j = 0 then k else k') (up_01 h1) (up_02 h2) ci pc l st h).1 0 1 o (by omega) q
section UPT
variable {cd : Nat → Nat → CI} {ml : Nat → Nat} {P : Nat} {chk : Ls → Vs → AH → Prop}
theorem rnT_upN {c : Nat → CI} {f : Nat → Cl} (hf : ∀ y as h, Up fun N => f N y as h) : ∀ (N pc : Nat) (l : Ls) (st : Vs) (h : AH) (M M' K : Nat) (o : Ot), N ≤ K → M ≤ M' → rnT (f M) c P chk N pc l st h = some o → rnT (f M') c P chk K pc l st h = some o
  | 0, _, _, _, _, _, _, _, _, _, _, q => by cases q
  | N + 1, pc, l, st, h, M, M', 0, o, hNK, _, q => by omega
  | N + 1, pc, l, st, h, M, M', K + 1, o, hNK, hMM, q => by
    unfold rnT at q ⊢
    cases hb : Nat.beq pc P with
    | true => rw [hb] at q; exact q
    | false =>
      rw [hb] at q
      exact stp_up (fun y as h' o w => hf y as h' M M' o hMM w) (fun pc l st h' o w => rnT_upN hf N pc l st h' M M' K o (by omega) hMM w) q
noncomputable def RnT (cd : Nat → Nat → CI) (ml : Nat → Nat) (d : Nat) (c : Nat → CI) (P : Nat) (chk : Ls → Vs → AH → Prop) : Cn := fun pc l st h => lm fun N => rnT (evM cd ml N d) c P chk N pc l st h
theorem rnT_up {d : Nat} {c : Nat → CI} (pc : Nat) (l : Ls) (st : Vs) (h : AH) : Up fun N => rnT (evM cd ml N d) c P chk N pc l st h := fun N M o hNM q => rnT_upN (f := fun N => evM cd ml N d) (fun y as h => evM_up d y as h) N pc l st h N M M o hNM hNM q
/-- not yet at the place: a step -/
theorem RnT_eq {d : Nat} {c : Nat → CI} {pc : Nat} (hp : Nat.beq pc P = false) (l : Ls) (st : Vs) (h : AH) : RnT cd ml d c P chk pc l st h = stp (Ev cd ml d) (RnT cd ml d c P chk) (c pc) pc (mkL l (dd5 (c pc))) st h := by
  have e := (stp_lm (c := fun N => evM cd ml N d) (k := fun N => rnT (evM cd ml N d) c P chk N) (fun y as h => evM_up d y as h) (fun pc l st h => rnT_up pc l st h) (c pc) pc (mkL l (dd5 (c pc))) st h)
  refine Eq.trans ?_ e.2
  refine opt_ext fun o => ?_
  unfold RnT
  rw [lm_iff (rnT_up pc l st h), lm_iff e.1]
  constructor
  · rintro ⟨N, q⟩
    cases N with
    | zero => cases q
    | succ N =>
      refine ⟨N + 1, ?_⟩
      unfold rnT at q
      rw [hp] at q
      exact stp_up (fun _ _ _ _ w => w) (fun pc l st h' o w => rnT_upN (f := fun N => evM cd ml N d) (fun y as h => evM_up d y as h) N pc l st h' (N + 1) (N + 1) (N + 1) o (by omega) (by omega) w) q
  · rintro ⟨N, q⟩
    refine ⟨N + 1, ?_⟩
    show rnT (evM cd ml (N + 1) d) c P chk (N + 1) pc l st h = some o
    unfold rnT
    rw [hp]
    exact stp_up (fun y as h' o w => evM_up d y as h' N (N + 1) o (by omega) w) (fun pc l st h' o w => rnT_upN (f := fun N => evM cd ml N d) (fun y as h => evM_up d y as h) N pc l st h' N (N + 1) N o (by omega) (by omega) w) q
/-- at the place -/
theorem RnT_at {d : Nat} {c : Nat → CI} {l : Ls} {st : Vs} {h : AH} (hc : chk l st h) : RnT cd ml d c P chk P l st h = some (some (.double 0), h) := by
  refine (lm_iff (rnT_up P l st h)).mpr ⟨1, ?_⟩
  unfold rnT
  rw [show Nat.beq P P = true from Nat.beq_refl P]
  exact if_pos hc
end UPT
