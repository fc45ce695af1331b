/-! ===== THE PURE MACHINE WITHOUT COUNTED STEPS ===== -/
/-- a step does one of three: it ends, it goes on, or it calls and goes on -/
def NF (G : Cl → Cn → Option Ot) : Prop := (∃ v, ∀ c k, G c k = v) ∨ (∃ pc l st h, ∀ c k, G c k = k pc l st h) ∨ ∃ y as h' pc l t, ∀ c k, G c k = (c y as h').bind fun o => k pc l (o.1.toList ++ t) o.2
theorem NF.n {G : Cl → Cn → Option Ot} (e : ∀ c k, G c k = none) : NF G := Or.inl ⟨none, e⟩
theorem NF.k {G : Cl → Cn → Option Ot} {pc : Nat} {l : Ls} {st : Vs} {h : AH} (e : ∀ c k, G c k = k pc l st h) : NF G := Or.inr (Or.inl ⟨_, _, _, _, e⟩)
theorem NF.ite {P : Prop} [Decidable P] {A B : Cl → Cn → Option Ot} (a : NF A) (b : NF B) : NF (fun c k => if P then A c k else B c k) := by
  by_cases e : P
  · simp only [if_pos e]; exact a
  · simp only [if_neg e]; exact b
theorem NF.sw {l : Ls} {t : Vs} {h : AH} {x : Int32} {d : Nat} : ∀ tb : List (Int32 × Nat), NF (fun _ k => sw1 (fun q => k q l t h) x d tb)
  | [] => NF.k fun _ _ => rfl
  | (_, _) :: r => NF.ite (NF.k fun _ _ => rfl) (NF.sw r)
theorem NF.bnd {α : Type} {x : Option α} {F : α → Cl → Cn → Option Ot} (a : ∀ y, NF (F y)) : NF (fun c k => x.bind fun y => F y c k) := by
  cases x with
  | none => exact NF.n fun _ _ => rfl
  | some y => exact a y
theorem NF.none : NF (fun _ _ => Option.none) := NF.n fun _ _ => rfl
theorem NF.go {pc : Nat} {l : Ls} {st : Vs} {h : AH} : NF (fun _ k => k pc l st h) := NF.k fun _ _ => rfl
theorem NF.oif {pa pb : Nat} {l : Ls} {h : AH} {x y : Int32} {t : Vs} : ∀ n : Nat, NF (fun _ k => o_if (fun st => k pa l st h) (fun st => k pb l st h) n x y t)
  | 0 => NF.ite NF.go NF.go
  | 1 => NF.ite NF.go NF.go
  | 2 => NF.ite NF.go NF.go
  | 3 => NF.ite NF.go NF.go
  | 4 => NF.ite NF.go NF.go
  | _ + 5 => NF.ite NF.go NF.go
theorem NF.call {as' : Vs} {h : AH} {y pc : Nat} {l : Ls} {t : Vs} {b : Bool} : NF (fun c k => bif b then (c y as' h).bind fun o => k pc l (o.1.toList ++ t) o.2 else Option.none) := by
  cases b with
  | true => exact Or.inr (Or.inr ⟨_, _, _, _, _, _, fun _ _ => rfl⟩)
  | false => exact NF.none
theorem nf_ld {pc i : Nat} {l : Ls} {st : Vs} {h : AH} : NF (fun _ k => o_ld (fun st => k pc l st h) l i st) := by
  unfold o_ld; generalize ldL l i = w; rcases w with _ | w; exact NF.none; cases w <;> first | exact NF.none | exact NF.go
theorem nf_ldl {pc i : Nat} {l : Ls} {st : Vs} {h : AH} : NF (fun _ k => o_ldl (fun st => k pc l st h) l i st) := by
  unfold o_ldl; generalize ldL l i = w; rcases w with _ | w; exact NF.none; cases w <;> first | exact NF.none | exact NF.go
theorem nf_lda {pc i : Nat} {l : Ls} {st : Vs} {h : AH} : NF (fun _ k => o_lda (fun st => k pc l st h) l i st) := by
  unfold o_lda; generalize ldL l i = w; rcases w with _ | w; exact NF.none; cases w <;> first | exact NF.none | exact NF.go
theorem nf_st {pc i : Nat} {l : Ls} {st : Vs} {h : AH} : NF (fun _ k => o_st (fun l st => k pc l st h) l i st) := by
  rcases st with _ | ⟨v, st⟩; exact NF.none; cases v <;> first | exact NF.none | exact NF.go
theorem nf_stl {pc i : Nat} {l : Ls} {st : Vs} {h : AH} : NF (fun _ k => o_stl (fun l st => k pc l st h) l i st) := by
  rcases st with _ | ⟨v, st⟩; exact NF.none; cases v <;> first | exact NF.none | exact NF.go
theorem nf_sta {pc i : Nat} {l : Ls} {st : Vs} {h : AH} : NF (fun _ k => o_sta (fun l st => k pc l st h) l i st) := by
  rcases st with _ | ⟨v, st⟩; exact NF.none; cases v <;> first | exact NF.none | exact NF.go
theorem nf_b {f : Int32 → Int32 → Int32} {pc : Nat} {l : Ls} {st : Vs} {h : AH} : NF (fun _ k => o_b f (fun st => k pc l st h) st) := by
  rcases st with _ | ⟨v, _ | ⟨w, st⟩⟩; exact NF.none; cases v <;> exact NF.none; cases v <;> cases w <;> first | exact NF.none | exact NF.go
theorem nf_bd {f : Int32 → Int32 → Int32} {pc : Nat} {l : Ls} {st : Vs} {h : AH} : NF (fun _ k => o_bd f (fun st => k pc l st h) st) := by
  rcases st with _ | ⟨v, _ | ⟨w, st⟩⟩; exact NF.none; cases v <;> exact NF.none; cases v <;> cases w <;> first | exact NF.none | exact NF.ite NF.none NF.go
theorem nf_u {f : Int32 → Int32} {pc : Nat} {l : Ls} {st : Vs} {h : AH} : NF (fun _ k => o_u f (fun st => k pc l st h) st) := by
  rcases st with _ | ⟨v, st⟩; exact NF.none; cases v <;> first | exact NF.none | exact NF.go
theorem nf_B {f : Int64 → Int64 → Int64} {pc : Nat} {l : Ls} {st : Vs} {h : AH} : NF (fun _ k => o_B f (fun st => k pc l st h) st) := by
  rcases st with _ | ⟨v, _ | ⟨w, st⟩⟩; exact NF.none; cases v <;> exact NF.none; cases v <;> cases w <;> first | exact NF.none | exact NF.go
theorem nf_Bd {f : Int64 → Int64 → Int64} {pc : Nat} {l : Ls} {st : Vs} {h : AH} : NF (fun _ k => o_Bd f (fun st => k pc l st h) st) := by
  rcases st with _ | ⟨v, _ | ⟨w, st⟩⟩; exact NF.none; cases v <;> exact NF.none; cases v <;> cases w <;> first | exact NF.none | exact NF.ite NF.none NF.go
theorem nf_Bs {f : Int64 → Int32 → Int64} {pc : Nat} {l : Ls} {st : Vs} {h : AH} : NF (fun _ k => o_Bs f (fun st => k pc l st h) st) := by
  rcases st with _ | ⟨v, _ | ⟨w, st⟩⟩; exact NF.none; cases v <;> exact NF.none; cases v <;> cases w <;> first | exact NF.none | exact NF.go
theorem nf_cmp {pc : Nat} {l : Ls} {st : Vs} {h : AH} : NF (fun _ k => o_cmp (fun st => k pc l st h) st) := by
  rcases st with _ | ⟨v, _ | ⟨w, st⟩⟩; exact NF.none; cases v <;> exact NF.none; cases v <;> cases w <;> first | exact NF.none | exact NF.go
theorem nf_if0 {pa pb n : Nat} {l : Ls} {st : Vs} {h : AH} : NF (fun _ k => o_if0 (fun st => k pa l st h) (fun st => k pb l st h) n st) := by
  rcases st with _ | ⟨v, st⟩; exact NF.none; cases v <;> first | exact NF.none | exact NF.oif _
theorem nf_if2 {pa pb n : Nat} {l : Ls} {st : Vs} {h : AH} : NF (fun _ k => o_if2 (fun st => k pa l st h) (fun st => k pb l st h) n st) := by
  rcases st with _ | ⟨v, _ | ⟨w, st⟩⟩; exact NF.none; cases v <;> exact NF.none; cases v <;> cases w <;> first | exact NF.none | exact NF.oif _
theorem nf_ifa {pa pb : Nat} {l : Ls} {st : Vs} {h : AH} : NF (fun _ k => o_ifa h (fun st => k pa l st h) (fun st => k pb l st h) st) := by
  rcases st with _ | ⟨v, _ | ⟨w, st⟩⟩; exact NF.none; cases v <;> exact NF.none; cases v <;> cases w <;> first | exact NF.none | exact NF.ite NF.go (NF.ite NF.go NF.none)
theorem nf_get {pc c j kd : Nat} {l : Ls} {st : Vs} {h : AH} : NF (fun _ k => o_get h c j kd (fun st => k pc l st h) st) := by
  rcases st with _ | ⟨v, st⟩; exact NF.none
  cases v <;> first | exact NF.none | skip
  match kd with
  | 0 => exact NF.ite NF.go NF.none
  | 1 => exact NF.ite NF.go NF.none
  | 2 => exact NF.ite (NF.bnd fun _ => NF.go) NF.none
  | _ + 3 => exact NF.ite NF.go NF.none
theorem nf_put {pc c j kd : Nat} {l : Ls} {st : Vs} {h : AH} : NF (fun _ k => o_put h c j kd (fun st h => k pc l st h) st) := by
  rcases st with _ | ⟨v, _ | ⟨w, st⟩⟩; exact NF.none; cases v <;> exact NF.none
  cases v <;> cases w <;> first | exact NF.none | skip
  all_goals match kd with
  | 0 => first | exact NF.ite NF.go NF.none | exact NF.ite NF.none NF.none
  | 1 => first | exact NF.ite NF.go NF.none | exact NF.ite NF.none NF.none
  | 2 => first | exact NF.ite NF.go NF.none | exact NF.ite NF.none NF.none
  | 3 => first | exact NF.ite (NF.ite NF.go NF.none) NF.none | exact NF.ite NF.none NF.none
  | _ + 4 => exact NF.ite NF.none NF.none
theorem nf_ali {pc c : Nat} {l : Ls} {st : Vs} {h : AH} : NF (fun _ k => o_ali h c (fun st => k pc l st h) st) := by
  rcases st with _ | ⟨v, _ | ⟨w, st⟩⟩; exact NF.none; cases v <;> exact NF.none; cases v <;> cases w <;> first | exact NF.none | exact NF.ite (NF.ite NF.none (NF.ite NF.go NF.none)) NF.none
theorem nf_all {pc : Nat} {l : Ls} {st : Vs} {h : AH} : NF (fun _ k => o_all h (fun st => k pc l st h) st) := by
  rcases st with _ | ⟨v, _ | ⟨w, st⟩⟩; exact NF.none; cases v <;> exact NF.none; cases v <;> cases w <;> first | exact NF.none | exact NF.ite (NF.ite NF.none (NF.ite NF.go NF.none)) NF.none
theorem nf_ala {pc c : Nat} {l : Ls} {st : Vs} {h : AH} : NF (fun _ k => o_ala h c (fun st => k pc l st h) st) := by
  rcases st with _ | ⟨v, _ | ⟨w, st⟩⟩; exact NF.none; cases v <;> exact NF.none; cases v <;> cases w <;> first | exact NF.none | exact NF.ite (NF.ite NF.none (NF.ite (NF.bnd fun _ => NF.go) NF.none)) NF.none
theorem nf_asi {pc c : Nat} {l : Ls} {st : Vs} {h : AH} : NF (fun _ k => o_asi h c (fun st h => k pc l st h) st) := by
  rcases st with _ | ⟨v, _ | ⟨w, _ | ⟨u, st⟩⟩⟩; exact NF.none; cases v <;> exact NF.none; cases v <;> cases w <;> exact NF.none
  cases v <;> cases w <;> cases u <;> first | exact NF.none | exact NF.ite (NF.ite NF.none (NF.ite NF.go NF.none)) NF.none
theorem nf_asl {pc : Nat} {l : Ls} {st : Vs} {h : AH} : NF (fun _ k => o_asl h (fun st h => k pc l st h) st) := by
  rcases st with _ | ⟨v, _ | ⟨w, _ | ⟨u, st⟩⟩⟩; exact NF.none; cases v <;> exact NF.none; cases v <;> cases w <;> exact NF.none
  cases v <;> cases w <;> cases u <;> first | exact NF.none | exact NF.ite (NF.ite NF.none (NF.ite NF.go NF.none)) NF.none
theorem nf_asa {pc : Nat} {l : Ls} {st : Vs} {h : AH} : NF (fun _ k => o_asa h (fun st h => k pc l st h) st) := by
  rcases st with _ | ⟨v, _ | ⟨w, _ | ⟨u, st⟩⟩⟩; exact NF.none; cases v <;> exact NF.none; cases v <;> cases w <;> exact NF.none
  cases v <;> cases w <;> cases u <;> first | exact NF.none | exact NF.ite (NF.ite NF.none (NF.ite NF.go NF.none)) NF.none | exact NF.ite (NF.ite (NF.ite NF.none (NF.ite NF.go NF.none)) NF.none) NF.none
theorem nf_len {pc : Nat} {l : Ls} {st : Vs} {h : AH} : NF (fun _ k => o_len h (fun st => k pc l st h) st) := by
  rcases st with _ | ⟨v, st⟩; exact NF.none; cases v <;> first | exact NF.none | exact NF.ite NF.go NF.none
theorem nf_nwa {pc c : Nat} {l : Ls} {st : Vs} {h : AH} : NF (fun _ k => o_nwa h c (fun st h => k pc l st h) st) := by
  rcases st with _ | ⟨v, st⟩; exact NF.none; cases v <;> first | exact NF.none | exact NF.ite NF.none (NF.ite NF.go NF.none)
theorem nf_nwm {pc : Nat} {l : Ls} {st : Vs} {h : AH} : NF (fun _ k => o_nwm h (fun st h => k pc l st h) st) := by
  rcases st with _ | ⟨v, _ | ⟨w, st⟩⟩; exact NF.none; cases v <;> exact NF.none; cases v <;> cases w <;> first | exact NF.none | exact NF.ite NF.none (NF.ite NF.go NF.none)
theorem nf_cpy {pc c : Nat} {l : Ls} {st : Vs} {h : AH} : NF (fun _ k => o_cpy h c (fun st h => k pc l st h) st) := by
  unfold o_cpy
  split
  · exact NF.ite (NF.ite NF.none (NF.ite NF.go NF.none)) NF.none
  · exact NF.none
theorem nf_inv {y na c pc : Nat} {l : Ls} {st : Vs} {h : AH} : NF (fun call k => o_inv call h y na c (fun st h => k pc l st h) st) := by
  unfold o_inv; generalize spl na [] st = w; rcases w with _ | ⟨as, t⟩; exact NF.none
  rcases t with _ | ⟨v, t⟩; exact NF.none; cases v <;> first | exact NF.none | exact NF.ite NF.call NF.none
theorem nf_ins {y na pc : Nat} {l : Ls} {st : Vs} {h : AH} : NF (fun call k => o_ins call h y na (fun st h => k pc l st h) st) := by
  unfold o_ins; generalize spl na [] st = w; rcases w with _ | ⟨as, t⟩; exact NF.none; exact NF.call
theorem nf_inc {y na pc : Nat} {l : Ls} {st : Vs} {h : AH} : NF (fun call k => o_inc call h y na (fun st h => k pc l st h) st) := by
  unfold o_inc; generalize spl na [] st = w; rcases w with _ | ⟨as, t⟩; exact NF.none
  rcases t with _ | ⟨v, t⟩; exact NF.none; cases v <;> first | exact NF.none | exact NF.call
theorem nf_con {v : Option Ot} : NF (fun _ _ => v) := Or.inl ⟨v, fun _ _ => rfl⟩
theorem stp_nf (ci : CI) (pc : Nat) (l : Ls) (st : Vs) (h : AH) : NF (fun call k => stp call k ci pc l st h) := by
  obtain ⟨ins, ⟨ra, rb, rc⟩, tb, lc, dd⟩ := ci
  cases ins
  case ldc => match ra with
    | 0 => exact NF.go
    | _ + 1 => exact NF.go
  case ldc_w => match ra with
    | 0 => exact NF.go
    | _ + 1 => exact NF.go
  case getstatic => match ra with
    | 0 => exact NF.go
    | _ + 1 => exact NF.go
  case iinc i c =>
    dsimp only [stp]; generalize ldL l i = w; rcases w with _ | w; exact NF.none; cases w <;> first | exact NF.none | exact NF.go
  case if_acmp c f => cases c <;> exact nf_ifa
  case tableswitch =>
    rcases st with _ | ⟨v, st⟩; exact NF.none; cases v <;> first | exact NF.none | exact NF.sw _
  case lookupswitch =>
    rcases st with _ | ⟨v, st⟩; exact NF.none; cases v <;> first | exact NF.none | exact NF.sw _
  case checkcast =>
    rcases st with _ | ⟨v, st⟩; exact NF.none; cases v <;> first | exact NF.none | exact NF.ite NF.go NF.none
  case invokevirtual => match rc with
    | 0 => rcases st with _ | ⟨v, st⟩; exact NF.none; cases v <;> first | exact NF.none | exact NF.ite NF.go NF.none
    | _ + 1 => exact nf_inv
  case invokestatic => match rc with
    | 0 => exact nf_ins
    | _ + 1 => exact nf_cpy
  case invokespecial => match rc with
    | 0 =>
      rcases st with _ | ⟨v, st⟩; exact NF.none
      cases v <;> first | exact NF.none | skip
      dsimp only [stp]; cases Nat.ble (vsz st) 20 <;> first | exact NF.none | exact NF.go
    | _ + 1 => exact nf_inc
  case ireturn => exact nf_con
  case lreturn => exact nf_con
  case areturn => exact nf_con
  case return_ => exact nf_con
  all_goals first
    | exact NF.none
    | exact NF.go
    | exact nf_ld
    | exact nf_ldl
    | exact nf_lda
    | exact nf_st
    | exact nf_stl
    | exact nf_sta
    | exact nf_b
    | exact nf_bd
    | exact nf_u
    | exact nf_B
    | exact nf_Bd
    | exact nf_Bs
    | exact nf_cmp
    | exact nf_if0
    | exact nf_if2
    | exact nf_get
    | exact nf_put
    | exact nf_ali
    | exact nf_all
    | exact nf_ala
    | exact nf_asi
    | exact nf_asl
    | exact nf_asa
    | exact nf_len
    | exact nf_nwa
    | exact nf_nwm
    | (rcases st with _ | ⟨v, st⟩; exact NF.none; cases v <;> first | exact NF.none | exact NF.go)
    | (rcases st with _ | ⟨v, _ | ⟨w, st⟩⟩
       · exact NF.none
       · cases v <;> first | exact NF.none | exact NF.go
       · cases v <;> cases w <;> first | exact NF.none | exact NF.go)
/-- the limit of a growing row of answers -/
noncomputable def lm (f : Nat → Option Ot) : Option Ot := @dite _ (∃ o N, f N = some o) (Classical.propDecidable _) (fun e => some (Classical.choose e)) (fun _ => none)
def Up (f : Nat → Option Ot) : Prop := ∀ N M o, N ≤ M → f N = some o → f M = some o
theorem lm_iff {f : Nat → Option Ot} (u : Up f) {o : Ot} : lm f = some o ↔ ∃ N, f N = some o := by
  unfold lm
  by_cases e : ∃ o N, f N = some o
  · rw [dif_pos e]
    obtain ⟨M, hM⟩ := Classical.choose_spec e
    constructor
    · intro q; cases q; exact ⟨M, hM⟩
    · rintro ⟨N, hN⟩
      have a := u N (max N M) _ (Nat.le_max_left _ _) hN
      have b := u M (max N M) _ (Nat.le_max_right _ _) hM
      rw [← a, ← b]
  · rw [dif_neg e]
    constructor
    · intro q; cases q
    · rintro ⟨N, hN⟩; exact absurd ⟨o, N, hN⟩ e
theorem lm_con {v : Option Ot} : lm (fun _ => v) = v := by
  cases v with
  | none => unfold lm; rw [dif_neg (by rintro ⟨o, N, q⟩; cases q)]
  | some o => exact (lm_iff (f := fun _ => some o) (fun _ _ _ _ q => q)).mpr ⟨0, rfl⟩
theorem opt_ext {a b : Option Ot} (e : ∀ o, a = some o ↔ b = some o) : a = b := by
  cases a with
  | some o => exact ((e o).mp rfl).symm
  | none => cases b with
    | none => rfl
    | some o => exact (e o).mpr rfl
theorem Up.bind {f : Nat → Option Ot} {g : Nat → Ot → Option Ot} (a : Up f) (b : ∀ o, Up fun N => g N o) : Up fun N => (f N).bind (g N) := by
  intro N M o hNM q
  obtain ⟨o1, q1, q2⟩ := Option.bind_eq_some_iff.mp q
  exact Option.bind_eq_some_iff.mpr ⟨o1, a N M o1 hNM q1, b o1 N M o hNM q2⟩
theorem lm_bind {f : Nat → Option Ot} {g : Nat → Ot → Option Ot} (a : Up f) (b : ∀ o, Up fun N => g N o) : lm (fun N => (f N).bind (g N)) = (lm f).bind fun o => lm fun N => g N o := by
  refine opt_ext fun o => ?_
  rw [lm_iff (Up.bind a b), Option.bind_eq_some_iff]
  constructor
  · rintro ⟨N, q⟩
    obtain ⟨o1, q1, q2⟩ := Option.bind_eq_some_iff.mp q
    exact ⟨o1, (lm_iff a).mpr ⟨N, q1⟩, (lm_iff (b o1)).mpr ⟨N, q2⟩⟩
  · rintro ⟨o1, q1, q2⟩
    obtain ⟨N, q1⟩ := (lm_iff a).mp q1
    obtain ⟨M, q2⟩ := (lm_iff (b o1)).mp q2
    exact ⟨max N M, Option.bind_eq_some_iff.mpr ⟨o1, a N _ _ (Nat.le_max_left _ _) q1, b o1 M _ _ (Nat.le_max_right _ _) q2⟩⟩
/-- a step of a growing row grows, and its limit is the step of the limits -/
theorem stp_lm {c : Nat → Cl} {k : Nat → Cn} (hc : ∀ y as h, Up fun N => c N y as h) (hk : ∀ pc l st h, Up fun N => k N pc l st h) (ci : CI) (pc : Nat) (l : Ls) (st : Vs) (h : AH) :
    (Up fun N => stp (c N) (k N) ci pc l st h) ∧ lm (fun N => stp (c N) (k N) ci pc l st h) = stp (fun y as h => lm fun N => c N y as h) (fun pc l st h => lm fun N => k N pc l st h) ci pc l st h := by
  rcases stp_nf ci pc l st h with ⟨v, e⟩ | ⟨pc', l', st', h', e⟩ | ⟨y, as, h', pc', l', t, e⟩
  · simp only [e]
    exact ⟨fun _ _ _ _ q => q, lm_con⟩
  · simp only [e]
    exact ⟨hk _ _ _ _, trivial⟩
  · simp only [e]
    exact ⟨Up.bind (hc _ _ _) fun o => hk _ _ _ _, lm_bind (hc _ _ _) fun o => hk _ _ _ _⟩
theorem rnF_upN {cd : Nat → CI} {c : Nat → Cl} (hc : ∀ y as h, Up fun N => c N y as h) : ∀ (N : Nat) (pc : Nat) (l : Ls) (st : Vs) (h : AH) (M M' K : Nat) (o : Ot), N ≤ K → M ≤ M' → rnF (c M) cd N pc l st h = some o → rnF (c M') cd K pc l st h = some o
  | 0, _, _, _, _, _, _, _, _, _, _, q => by cases q
  | N + 1, pc, l, st, h, M, M', 0, o, hNK, _, q => by omega
  | N + 1, pc, l, st, h, M, M', K + 1, o, hNK, hMM, q => by
    have ih := rnF_upN (cd := cd) hc N
    have u := (stp_lm (c := fun j => if j = 0 then c M else c M') (k := fun j => if j = 0 then rnF (c M) cd N else rnF (c M') cd K) (fun y as h => ?_) (fun pc l st h => ?_) (cd pc) pc (mkL l (dd5 (cd pc))) st h).1 0 1 o (by omega)
    · exact u q
    · intro a b o hab w
      by_cases ha : a = 0
      · simp only [if_pos ha] at w
        by_cases hb : b = 0
        · simp only [if_pos hb]; exact w
        · simp only [if_neg hb]; exact hc y as h M M' o hMM w
      · have hb : b ≠ 0 := by omega
        simp only [if_neg ha] at w
        simp only [if_neg hb]; exact w
    · intro a b o hab w
      by_cases ha : a = 0
      · simp only [if_pos ha] at w
        by_cases hb : b = 0
        · simp only [if_pos hb]; exact w
        · simp only [if_neg hb]; exact ih pc l st h M M' K o (by omega) hMM w
      · have hb : b ≠ 0 := by omega
        simp only [if_neg ha] at w
        simp only [if_neg hb]; exact w
theorem evM_up {cd : Nat → Nat → CI} {ml : Nat → Nat} : ∀ (d y : Nat) (as : Vs) (h : AH), Up fun N => evM cd ml N d y as h
  | 0, _, _, _ => fun _ _ _ _ q => by cases q
  | d + 1, y, as, h => by
    intro N M o hNM q
    dsimp only at q ⊢
    unfold evM at q ⊢
    cases hb : Nat.ble (arL as).length (ml y) with
    | true =>
      rw [hb] at q
      exact rnF_upN (c := fun N => evM cd ml N d) (fun y as h => evM_up d y as h) N 0 _ _ _ N M M o hNM hNM q
    | false => rw [hb] at q; cases q
/-- a method's answer, a place's answer, without counted steps -/
noncomputable def Ev (cd : Nat → Nat → CI) (ml : Nat → Nat) (d : Nat) : Cl := fun y as h => lm fun N => evM cd ml N d y as h
noncomputable def Rn (cd : Nat → Nat → CI) (ml : Nat → Nat) (d : Nat) (c : Nat → CI) : Cn := fun pc l st h => lm fun N => rnF (evM cd ml N d) c N pc l st h
section LIM
variable {cd : Nat → Nat → CI} {ml : Nat → Nat}
theorem rn_up {d : Nat} {c : Nat → CI} (pc : Nat) (l : Ls) (st : Vs) (h : AH) : Up fun N => rnF (evM cd ml N d) c N pc l st h := fun N M o hNM q => rnF_upN (c := fun N => evM cd ml N d) (fun y as h => evM_up d y as h) N pc l st h N M M o hNM hNM q
theorem Rn_eq {d : Nat} {c : Nat → CI} (pc : Nat) (l : Ls) (st : Vs) (h : AH) : Rn cd ml d c pc l st h = stp (Ev cd ml d) (Rn cd ml d c) (c pc) pc (mkL l (dd5 (c pc))) st h := by
  have e := (stp_lm (c := fun N => evM cd ml N d) (k := fun N => rnF (evM cd ml N d) c N) (fun y as h => evM_up d y as h) (fun pc l st h => rn_up pc l st h) (c pc) pc (mkL l (dd5 (c pc))) st h)
  refine Eq.trans ?_ e.2
  refine opt_ext fun o => ?_
  unfold Rn
  rw [lm_iff (rn_up pc l st h), lm_iff e.1]
  constructor
  · rintro ⟨N, q⟩
    cases N with
    | zero => cases q
    | succ N =>
      refine ⟨N + 1, ?_⟩
      have u := (stp_lm (c := fun _ => evM cd ml (N + 1) d) (k := fun j => if j = 0 then rnF (evM cd ml (N + 1) d) c N else rnF (evM cd ml (N + 1) d) c (N + 1)) (fun y as h _ _ _ _ w => w) (fun pc l st h => ?_) (c pc) pc (mkL l (dd5 (c pc))) st h).1 0 1 o (by omega)
      · exact u q
      · intro a b o hab w
        by_cases ha : a = 0
        · simp only [if_pos ha] at w
          by_cases hb : b = 0
          · simp only [if_pos hb]; exact w
          · simp only [if_neg hb]; exact rnF_upN (c := fun N => evM cd ml N d) (fun y as h => evM_up d y as h) N pc l st h (N + 1) (N + 1) (N + 1) o (by omega) (by omega) w
        · have hb : b ≠ 0 := by omega
          simp only [if_neg ha] at w
          simp only [if_neg hb]; exact w
  · rintro ⟨N, q⟩
    exact ⟨N + 1, (stp_lm (c := fun j => if j = 0 then evM cd ml N d else evM cd ml (N + 1) d) (k := fun j => if j = 0 then rnF (evM cd ml N d) c N else rnF (evM cd ml (N + 1) d) c N) (fun y as h a b o hab w => by
        by_cases ha : a = 0
        · simp only [if_pos ha] at w
          by_cases hb : b = 0
          · simp only [if_pos hb]; exact w
          · simp only [if_neg hb]; exact evM_up d y as h N (N + 1) o (by omega) w
        · have hb : b ≠ 0 := by omega
          simp only [if_neg ha] at w
          simp only [if_neg hb]; exact w) (fun pc l st h a b o hab w => by
        by_cases ha : a = 0
        · simp only [if_pos ha] at w
          by_cases hb : b = 0
          · simp only [if_pos hb]; exact w
          · simp only [if_neg hb]; exact rnF_upN (c := fun N => evM cd ml N d) (fun y as h => evM_up d y as h) N pc l st h N (N + 1) N o (by omega) (by omega) w
        · have hb : b ≠ 0 := by omega
          simp only [if_neg ha] at w
          simp only [if_neg hb]; exact w) (c pc) pc (mkL l (dd5 (c pc))) st h).1 0 1 o (by omega) q⟩
theorem Ev_eq {d y : Nat} {as : Vs} {h : AH} : Ev cd ml (d + 1) y as h = bif Nat.ble (arL as).length (ml y) then Rn cd ml d (cd y) 0 (pdL (arL as) (ml y)) [] h else none := by
  unfold Ev Rn
  have e : ∀ N, evM cd ml N (d + 1) y as h = bif Nat.ble (arL as).length (ml y) then rnF (evM cd ml N d) (cd y) N 0 (pdL (arL as) (ml y)) [] h else none := fun N => rfl
  simp only [e]
  cases Nat.ble (arL as).length (ml y) with
  | true => rfl
  | false => exact lm_con
theorem Ev_up : ∀ (d y : Nat) (as : Vs) (h : AH) (o : Ot), Ev cd ml d y as h = some o → ∃ N, ∀ M, N ≤ M → evM cd ml M d y as h = some o := fun d y as h o q => by
  obtain ⟨N, q⟩ := (lm_iff (evM_up d y as h)).mp q
  exact ⟨N, fun M hM => evM_up d y as h N M o hM q⟩
/-- so many steps, but not beyond the cuts -/
noncomputable def goK (call : Cl) (r : Cn) (c : Nat → CI) (cut : Nat → Bool) : Nat → Cn
  | 0 => r
  | K + 1 => fun pc l st h => bif cut pc then r pc l st h else stp call (goK call r c cut K) (c pc) pc (mkL l (dd5 (c pc))) st h
theorem goK_eq {d : Nat} {c : Nat → CI} (cut : Nat → Bool) : ∀ K : Nat, goK (Ev cd ml d) (Rn cd ml d c) c cut K = Rn cd ml d c
  | 0 => rfl
  | K + 1 => by
    funext pc l st h
    show (bif cut pc then Rn cd ml d c pc l st h else stp (Ev cd ml d) (goK (Ev cd ml d) (Rn cd ml d c) c cut K) (c pc) pc (mkL l (dd5 (c pc))) st h) = _
    rw [goK_eq cut K]
    cases cut pc with
    | true => rfl
    | false => exact (Rn_eq pc l st h).symm
/-- from a place on, up to the cuts -/
theorem blk {d : Nat} {c : Nat → CI} (cut : Nat → Bool) (K : Nat) (pc : Nat) (l : Ls) (st : Vs) (h : AH) : Rn cd ml d c pc l st h = stp (Ev cd ml d) (goK (Ev cd ml d) (Rn cd ml d c) c cut K) (c pc) pc (mkL l (dd5 (c pc))) st h := by
  rw [goK_eq]; exact Rn_eq pc l st h
end LIM
