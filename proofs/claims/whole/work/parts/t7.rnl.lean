/-! ===== THE LAW'S RUN, WITHOUT COUNTED STEPS ===== -/
section RNL
variable {wc : Nat → Option (Nat × (Vs → AH → Option Ot))} {d : Nat}
theorem rnL_upN {c : Nat → CI} {f : Nat → Cl} (hf : ∀ y as h, Up fun N => f N y as h) : ∀ (N pc : Nat) (l : Ls) (st : Vs) (h : AH) (M M' K : Nat) (o : Ot), N ≤ K → M ≤ M' → rnL (f M) wc c N pc l st h = some o → rnL (f M') wc c K pc l st h = some o
  | 0, _, _, _, _, _, _, _, _, _, _, q => by cases q
  | N + 1, pc, l, st, h, M, M', 0, o, hNK, _, q => by omega
  | N + 1, pc, l, st, h, M, M', K + 1, o, hNK, hMM, q => by
    unfold rnL at q ⊢
    cases hw : wc pc with
    | none =>
      simp only [hw] at q ⊢
      exact stp_up (fun y as h' o w => hf y as h' M M' o hMM w) (fun pc l st h' o w => rnL_upN hf N pc l st h' M M' K o (by omega) hMM w) q
    | some w =>
      obtain ⟨na, g⟩ := w
      simp only [hw] at q ⊢
      cases hs : spl na [] st with
      | none => simp only [hs] at q; cases q
      | some w =>
        obtain ⟨as, t⟩ := w
        simp only [hs] at q ⊢
        cases hb : Nat.ble (vsz t) 20 with
        | false => rw [hb] at q; cases q
        | true =>
          rw [hb] at q
          obtain ⟨o', w1, w2⟩ := Option.bind_eq_some_iff.mp q
          rw [w1]
          exact rnL_upN hf N _ _ _ _ M M' K o (by omega) hMM w2
theorem rnL_up (pc : Nat) (l : Ls) (st : Vs) (h : AH) : Up fun N => rnL (evM cdF mL N d) wc (cdR ld) N pc l st h := fun N M o hNM q => rnL_upN (f := fun N => evM cdF mL N d) (fun y as h => evM_up d y as h) N pc l st h N M M o hNM hNM q
noncomputable def RnL (wc : Nat → Option (Nat × (Vs → AH → Option Ot))) (d : Nat) : Cn := fun pc l st h => lm fun N => rnL (evM cdF mL N d) wc (cdR ld) N pc l st h
theorem RnL_eq {pc : Nat} (hp : wc pc = none) (l : Ls) (st : Vs) (h : AH) : RnL wc d pc l st h = stp (E d) (RnL wc d) (cdR ld pc) pc (mkL l (dd5 (cdR ld pc))) st h := by
  have e := (stp_lm (c := fun N => evM cdF mL N d) (k := fun N => rnL (evM cdF mL N d) wc (cdR ld) N) (fun y as h => evM_up d y as h) (fun pc l st h => rnL_up pc l st h) (cdR ld pc) pc (mkL l (dd5 (cdR ld pc))) st h)
  refine Eq.trans ?_ e.2
  refine opt_ext fun o => ?_
  unfold RnL
  rw [lm_iff (rnL_up pc l st h), lm_iff e.1]
  constructor
  · rintro ⟨N, q⟩
    cases N with
    | zero => cases q
    | succ N =>
      refine ⟨N + 1, ?_⟩
      unfold rnL at q
      simp only [hp] at q
      exact stp_up (fun _ _ _ _ w => w) (fun pc l st h' o w => rnL_upN (f := fun N => evM cdF mL N d) (fun y as h => evM_up d y as h) N pc l st h' (N + 1) (N + 1) (N + 1) o (by omega) (by omega) w) q
  · rintro ⟨N, q⟩
    refine ⟨N + 1, ?_⟩
    show rnL (evM cdF mL (N + 1) d) wc (cdR ld) (N + 1) pc l st h = some o
    unfold rnL
    simp only [hp]
    exact stp_up (fun y as h' o w => evM_up d y as h' N (N + 1) o (by omega) w) (fun pc l st h' o w => rnL_upN (f := fun N => evM cdF mL N d) (fun y as h => evM_up d y as h) N pc l st h' N (N + 1) N o (by omega) (by omega) w) q
theorem RnL_call {pc na : Nat} {f : Vs → AH → Option Ot} {as t : Vs} {o' : Ot} (hp : wc pc = some (na, f)) {l : Ls} {st : Vs} {h : AH} (hs : spl na [] st = some (as, t)) (hb : Nat.ble (vsz t) 20 = true) (hf : f as h = some o') : RnL wc d pc l st h = RnL wc d (pc + 3) l (o'.1.toList ++ t) o'.2 := by
  refine opt_ext fun o => ?_
  unfold RnL
  rw [lm_iff (rnL_up pc l st h), lm_iff (rnL_up (pc + 3) l _ _)]
  have e : ∀ N M, rnL (evM cdF mL M d) wc (cdR ld) (N + 1) pc l st h = rnL (evM cdF mL M d) wc (cdR ld) N (pc + 3) l (o'.1.toList ++ t) o'.2 := fun N M => by
    conv => lhs; unfold rnL
    simp only [hp, hs, hb, cond_true, hf, Option.bind_some]
  constructor
  · rintro ⟨N, q⟩
    cases N with
    | zero => cases q
    | succ N => rw [e] at q; exact ⟨N + 1, rnL_upN (f := fun N => evM cdF mL N d) (fun y as h => evM_up d y as h) N _ _ _ _ (N + 1) (N + 1) (N + 1) o (by omega) (by omega) q⟩
  · rintro ⟨N, q⟩
    refine ⟨N + 1, ?_⟩
    rw [e]
    exact rnL_upN (f := fun N => evM cdF mL N d) (fun y as h => evM_up d y as h) N _ _ _ _ N (N + 1) N o (by omega) (by omega) q
end RNL
/-- where the law calls its wrappers -/
def wcut (p : Nat) : Bool := Nat.beq p 380 || Nat.beq p 460 || Nat.beq p 534 || Nat.beq p 608 || Nat.beq p 907 || Nat.beq p 962 || Nat.beq p 1024 || Nat.beq p 1092 || Nat.beq p 1159
theorem wcut_dd : ∀ p, p < 1400 → wcut p = true → dd5 (cdR ld p) = [] := by
  have q : [380, 460, 534, 608, 907, 962, 1024, 1092, 1159].all (fun p => decide (dd5 (cdR ld p) = [])) = true := by decide +kernel
  intro p hp hw
  have := List.all_eq_true.mp q p (by
    unfold wcut at hw
    simp only [Bool.or_eq_true] at hw
    have bq : ∀ {c : Nat}, Nat.beq p c = true → p = c := fun z => Nat.eq_of_beq_eq_true z
    rcases hw with ((((((((z | z) | z) | z) | z) | z) | z) | z) | z) <;> (rw [bq z]; decide))
  exact of_decide_eq_true this
section BLKL
variable {wc : Nat → Option (Nat × (Vs → AH → Option Ot))} {d : Nat}
theorem wcut_lt {p : Nat} (hw : wcut p = true) : p < 1400 := by
  unfold wcut at hw
  simp only [Bool.or_eq_true] at hw
  have bq : ∀ {c : Nat}, Nat.beq p c = true → p = c := fun z => Nat.eq_of_beq_eq_true z
  rcases hw with ((((((((z | z) | z) | z) | z) | z) | z) | z) | z) <;> (have := bq z; omega)
theorem mkL_nil (l : Ls) : mkL l [] = l := by cases l <;> rfl
theorem blkL (hw : ∀ p, wcut p = false → wc p = none) (cut : Nat → Bool) (K pc : Nat) (hp : wcut pc = false) (l : Ls) (st : Vs) (h : AH) : RnL wc d pc l st h = stp (E d) (fun pc l st h => frc 30 l fun l => goM (E d) (RnL wc d) (cdR ld) (fun p => wcut p || cut p) K pc l st h) (cdR ld pc) pc (mkN (dd5 (cdR ld pc)) l) st h := by
  refine blkG (fun p l st h e => ?_) (fun p l st h => ?_) K (fun l st h => RnL_eq (hw pc hp) l st h) l st h
  · rw [Bool.or_eq_false_iff] at e
    exact RnL_eq (hw p e.1) l st h
  · cases e : wcut p with
    | true => rw [wcut_dd p (wcut_lt e) e, mkL_nil]
    | false => rw [RnL_eq (hw p e), RnL_eq (hw p e), mkL_mkL]
end BLKL
section WRQ
variable {d y P0 : Nat} {lg : Bool} {asM : Vs} {ml : Ls} {h : AH} {o o' : Ot}
def lv64 : Value → Int64
  | .int x => x.toInt64
  | .long x => x
  | _ => 0
/-- what a wrapper's call comes to -/
def WR (d y P0 : Nat) (lg : Bool) (asM : Vs) (ml : Ls) (h : AH) (o : Ot) : Prop := (∃ w h1, E (d + 1) y asM h = some (some w, h1) ∧ Sh h ∧ Sh h1 ∧ isL lg w ∧ o = (some (.int 0), sB h1 295 0 (lv64 w))) ∨ (E (d + 1) y asM h = none ∧ ∃ h1, TQ P0 d y 0 ml [] h = some (some (.double 0), h1) ∧ Sh h ∧ Sh h1 ∧ o = (some (.int 1), nw h1 0 0 6))
theorem WR.one (a : WR d y P0 lg asM ml h o) (b : WR d y P0 lg asM ml h o') : o = o' := by
  rcases a with ⟨w, h1, a1, -, -, -, a5⟩ | ⟨a1, h1, a2, -, -, a5⟩ <;> rcases b with ⟨w', h1', b1, -, -, -, b5⟩ | ⟨b1, h1', b2, -, -, b5⟩
  · rw [a1] at b1; cases b1; rw [a5, b5]
  · rw [a1] at b1; cases b1
  · rw [a1] at b1; cases b1
  · rw [a2] at b2; cases b2; rw [a5, b5]
noncomputable def fWr (d y P0 : Nat) (lg : Bool) (asM : Vs) (ml : Ls) (h : AH) : Option Ot := @dite _ (∃ o, WR d y P0 lg asM ml h o) (Classical.propDecidable _) (fun e => some (Classical.choose e)) (fun _ => none)
theorem fWr_ok (a : WR d y P0 lg asM ml h o) : fWr d y P0 lg asM ml h = some o := by
  have e : ∃ o, WR d y P0 lg asM ml h o := ⟨o, a⟩
  unfold fWr
  rw [dif_pos e, (Classical.choose_spec e).one a]
theorem fWr_of (a : fWr d y P0 lg asM ml h = some o) : WR d y P0 lg asM ml h o := by
  unfold fWr at a
  split at a
  · rename_i e; cases a; exact Classical.choose_spec e
  · cases a
theorem Rn_N {c : Nat → CI} {pc : Nat} {l : Ls} {st : Vs} (q : Rn cdF mL d c pc l st h = some o) : ∃ N, ∀ M, N ≤ M → rnF (evM cdF mL M d) c M pc l st h = some o := by
  obtain ⟨N, q⟩ := (lm_iff (rn_up pc l st h)).mp q
  exact ⟨N, fun M hM => rn_up pc l st h N M o hM q⟩
theorem RnT_N {c : Nat → CI} {P pc : Nat} {chk : Ls → Vs → AH → Prop} {l : Ls} {st : Vs} (q : RnT cdF mL d c P chk pc l st h = some o) : ∃ N, ∀ M, N ≤ M → rnT (evM cdF mL M d) c P chk M pc l st h = some o := by
  obtain ⟨N, q⟩ := (lm_iff (rnT_up pc l st h)).mp q
  exact ⟨N, fun M hM => rnT_up pc l st h N M o hM q⟩
theorem blkR {c : Nat → CI} (cut : Nat → Bool) (K : Nat) (pc : Nat) (l : Ls) (st : Vs) (h : AH) : Rn cdF mL d c pc l st h = stp (E d) (fun pc l st h => frc 30 l fun l => goM (E d) (Rn cdF mL d c) c cut K pc l st h) (c pc) pc (mkN (dd5 (c pc)) l) st h := by
  unfold E
  rw [goM_eq, mkN_eq]; simp only [frc_eq]; exact Rn_eq pc l st h
theorem RnT_mk {c : Nat → CI} {P pc : Nat} {chk : Ls → Vs → AH → Prop} (hd : dd5 (c P) = []) (l : Ls) (st : Vs) (h : AH) : RnT cdF mL d c P chk pc (mkL l (dd5 (c pc))) st h = RnT cdF mL d c P chk pc l st h := by
  cases hp : Nat.beq pc P with
  | true =>
    have e := Nat.eq_of_beq_eq_true hp
    subst e
    rw [hd, mkL_nil]
  | false => rw [RnT_eq hp, RnT_eq hp, mkL_mkL]
theorem blkU {c : Nat → CI} {P : Nat} {chk : Ls → Vs → AH → Prop} (hd : dd5 (c P) = []) (cut : Nat → Bool) (K pc : Nat) (hc : cut P = true) (hp : Nat.beq pc P = false) (l : Ls) (st : Vs) (h : AH) : RnT cdF mL d c P chk pc l st h = stp (E d) (fun pc l st h => frc 30 l fun l => goM (E d) (RnT cdF mL d c P chk) c cut K pc l st h) (c pc) pc (mkN (dd5 (c pc)) l) st h :=
  blkG (fun pc l st h e => RnT_eq (by
    cases q : Nat.beq pc P with
    | false => rfl
    | true => rw [Nat.eq_of_beq_eq_true q] at e; rw [hc] at e; cases e) l st h) (fun pc l st h => RnT_mk hd l st h) K (fun l st h => RnT_eq hp l st h) l st h
end WRQ
