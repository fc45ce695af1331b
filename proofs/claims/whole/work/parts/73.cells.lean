/-! ===== CELLS STAY WHAT THEY ARE ===== -/
/-- there is nothing above the last cell -/
def HW (h : AH) : Prop := ∀ x, gN h ≤ x → gC h x = 0
def mx (h : AH) (o : Ot) : Prop := (HW h → HW o.2) ∧ gN h ≤ gN o.2 ∧ ∀ x, x < gN h → gC o.2 x = gC h x ∧ gK o.2 x = gK h x
theorem mx_r {h : AH} {v : Option Value} : mx h (v, h) := ⟨fun q => q, Nat.le_refl _, fun _ _ => ⟨rfl, rfl⟩⟩
theorem mx_t {h h1 : AH} {o : Ot} (a : mx h (none, h1)) (b : mx h1 o) : mx h o := ⟨fun q => b.1 (a.1 q), Nat.le_trans a.2.1 b.2.1, fun x hx => ⟨(b.2.2 x (Nat.lt_of_lt_of_le hx a.2.1)).1.trans (a.2.2 x hx).1, (b.2.2 x (Nat.lt_of_lt_of_le hx a.2.1)).2.trans (a.2.2 x hx).2⟩⟩
theorem mx_bind {call : Option Ot} {f : Ot → Option Ot} {h : AH} {o : Ot} (hc : ∀ o', call = some o' → mx h o') (hf : ∀ o', f o' = some o → mx o'.2 o) (q : call.bind f = some o) : mx h o := by
  cases hcall : call with
  | none => rw [hcall] at q; cases q
  | some o' =>
    rw [hcall] at q
    have a := hc _ hcall
    have b := hf _ q
    exact mx_t (h1 := o'.2) a b
theorem sw1_mx {k : Nat → Option Ot} {x : Int32} {d : Nat} {h : AH} {o : Ot} (hk : ∀ t, k t = some o → mx h o) : ∀ (tb : List (Int32 × Nat)), sw1 k x d tb = some o → mx h o
  | [], q => hk _ q
  | (v, t) :: r, q => by
    unfold sw1 at q
    split at q
    · exact hk _ q
    · exact sw1_mx hk r q
theorem mx_nw {h : AH} {c n m : Nat} {o : Ot} (a : mx (nw h c n m) o) : mx h o := by
  refine mx_t (h1 := nw h c n m) ⟨fun q x hx => ?_, Nat.le_succ _, fun x hx => ⟨if_neg (by omega), if_neg (by omega)⟩⟩ a
  have hx : gN h + 1 ≤ x := hx
  exact (if_neg (by omega) : up1 (gC h) (gN h) c x = gC h x).trans (q x (by omega))
theorem mx_nwM {h : AH} {n k : Nat} {o : Ot} (a : mx (nwM h n k) o) : mx h o := by
  refine mx_t (h1 := nwM h n k) ⟨fun q x hx => ?_, Nat.le_add_right _ _, fun x hx => ⟨?_, ?_⟩⟩ a
  · have hx : gN h + (1 + n) ≤ x := hx
    show (if x = gN h then 66 else if gN h < x ∧ x < gN h + (1 + n) then 60 else gC h x) = 0
    rw [if_neg (by omega), if_neg (by omega)]; exact q x (by omega)
  · show (if x = gN h then 66 else if gN h < x ∧ x < gN h + (1 + n) then 60 else gC h x) = _
    rw [if_neg (by omega), if_neg (by omega)]
  · show (if x = gN h then n else if gN h < x ∧ x < gN h + (1 + n) then k else gK h x) = _
    rw [if_neg (by omega), if_neg (by omega)]
set_option maxHeartbeats 2000000 in
theorem stp_mx {call : Cl} {k : Cn} {ci : CI} {pc : Nat} {l : Ls} {st : Vs} {h : AH} {o : Ot} (hc : ∀ y as h o', call y as h = some o' → mx h o') (hk : ∀ pc l st h, k pc l st h = some o → mx h o) (q : stp call k ci pc l st h = some o) : mx h o := by
  obtain ⟨ins, ⟨ra, rb, rc⟩, tb, lc, dd⟩ := ci
  cases ins
  case new =>
    exact mx_nw (hk _ _ _ _ q)
  case newarray =>
    have q : o_nwa h ra (fun st h => k (pc + 2) l st h) st = some o := q
    unfold o_nwa at q
    repeat' (split at q)
    all_goals first | (cases q; done) | exact mx_nw (hk _ _ _ _ q)
  case anewarray =>
    have q : o_nwa h 65 (fun st h => k (pc + 3) l st h) st = some o := q
    unfold o_nwa at q
    repeat' (split at q)
    all_goals first | (cases q; done) | exact mx_nw (hk _ _ _ _ q)
  case multianewarray =>
    have q : o_nwm h (fun st h => k (pc + 4) l st h) st = some o := q
    unfold o_nwm at q
    repeat' (split at q)
    all_goals first | (cases q; done) | exact mx_nwM (hk _ _ _ _ q)
  case tableswitch =>
    dsimp only [stp] at q
    split at q
    · exact sw1_mx (fun t q => hk _ _ _ _ q) _ q
    · cases q
  case lookupswitch =>
    dsimp only [stp] at q
    split at q
    · exact sw1_mx (fun t q => hk _ _ _ _ q) _ q
    · cases q
  case ifCond c f =>
    have q : o_if0 (fun st => k ra l st h) (fun st => k (pc + 3) l st h) (cnN c) st = some o := q
    unfold o_if0 at q
    split at q
    · unfold o_if at q
      repeat' (split at q)
      all_goals exact hk _ _ _ _ q
    · cases q
  case if_icmp c f =>
    have q : o_if2 (fun st => k ra l st h) (fun st => k (pc + 3) l st h) (cnN c) st = some o := q
    unfold o_if2 at q
    split at q
    · unfold o_if at q
      repeat' (split at q)
      all_goals exact hk _ _ _ _ q
    · cases q
  case if_acmp c f =>
    dsimp only [stp, o_ifa] at q
    repeat' (split at q)
    all_goals first | (cases q; done) | (have w := hk _ _ _ _ q; exact w)
  case getfield =>
    have q : o_get h ra rb rc (fun st => k (pc + 3) l st h) st = some o := q
    unfold o_get at q
    split at q
    · split at q
      · split at q
        · exact hk _ _ _ _ q
        · obtain ⟨y, -, w⟩ := Option.bind_eq_some_iff.mp q
          exact hk _ _ _ _ w
        · exact hk _ _ _ _ q
      · cases q
    · cases q
  case putfield =>
    have q : o_put h ra rb rc (fun st h => k (pc + 3) l st h) st = some o := q
    unfold o_put at q
    repeat' (split at q)
    all_goals first | (cases q; done) | (have w := hk _ _ _ _ q; exact w)
  case aaload =>
    have q : o_ala h ra (fun st => k (pc + 1) l st h) st = some o := q
    unfold o_ala at q
    split at q
    · repeat' (split at q)
      all_goals first | (cases q; done) | skip
      obtain ⟨y, -, w⟩ := Option.bind_eq_some_iff.mp q
      exact hk _ _ _ _ w
    · cases q
  case invokevirtual i =>
    match rc, q with
    | 0, q =>
      dsimp only [stp] at q
      repeat' (split at q)
      all_goals first | (cases q; done) | (have w := hk _ _ _ _ q; exact w)
    | c + 1, q =>
      have q : o_inv call h ra rb (c + 1) (fun st h => k (pc + 3) l st h) st = some o := q
      unfold o_inv at q
      split at q
      · split at q
        · rename_i as x t _ _
          cases hb : Nat.ble (vsz t) 20 with
          | true => rw [hb] at q; exact mx_bind (fun o' w => hc _ _ _ _ w) (fun o' w => hk _ _ _ _ w) q
          | false => rw [hb] at q; cases q
        · cases q
      · cases q
  case invokestatic i =>
    match rc, q with
    | 0, q =>
      have q : o_ins call h ra rb (fun st h => k (pc + 3) l st h) st = some o := q
      unfold o_ins at q
      split at q
      · rename_i as t _
        cases hb : Nat.ble (vsz t) 20 with
        | true => rw [hb] at q; exact mx_bind (fun o' w => hc _ _ _ _ w) (fun o' w => hk _ _ _ _ w) q
        | false => rw [hb] at q; cases q
      · cases q
    | c + 1, q =>
      have q : o_cpy h (c + 1) (fun st h => k (pc + 3) l st h) st = some o := q
      unfold o_cpy at q
      split at q
      · split at q
        · split at q
          · cases q
          · split at q
            · have w := hk _ _ _ _ q
              exact mx_t (h1 := _) ⟨fun q => (by split <;> exact q), (by split <;> exact Nat.le_refl _), fun x hx => (by split <;> exact ⟨rfl, rfl⟩)⟩ w
            · cases q
        · cases q
      · cases q
  case invokespecial i =>
    match rc, q with
    | 0, q =>
      dsimp only [stp] at q
      split at q
      · rename_i t _
        cases hb : Nat.ble (vsz t) 20 with
        | true => rw [hb] at q; exact hk _ _ _ _ q
        | false => rw [hb] at q; cases q
      · cases q
    | c + 1, q =>
      have q : o_inc call h ra rb (fun st h => k (pc + 3) l st h) st = some o := q
      unfold o_inc at q
      split at q
      · rename_i as x t _
        cases hb : Nat.ble (vsz t) 20 with
        | true => rw [hb] at q; exact mx_bind (fun o' w => hc _ _ _ _ w) (fun o' w => hk _ _ _ _ w) q
        | false => rw [hb] at q; cases q
      · cases q
  case ireturn =>
    have q : o_ret h ra st = some o := q
    unfold o_ret at q
    repeat' (split at q)
    all_goals first | (cases q; done) | (cases q; exact mx_r)
  case lreturn =>
    dsimp only [stp] at q
    split at q
    · cases q; exact mx_r
    · cases q
  case areturn =>
    dsimp only [stp] at q
    split at q
    · cases q; exact mx_r
    · cases q
  case return_ =>
    dsimp only [stp] at q
    split at q
    · cases q; exact mx_r
    · cases q
  all_goals (dsimp only [stp, o_ld, o_ldl, o_lda, o_st, o_stl, o_sta, o_b, o_bd, o_u, o_B, o_Bd, o_Bs, o_cmp, o_ali, o_all, o_asi, o_asl, o_asa, o_len] at q)
  all_goals first | exact hk _ _ _ _ q | (cases q; done) | skip
  all_goals (repeat' (split at q))
  all_goals first | (cases q; done) | (have w := hk _ _ _ _ q; exact w)
theorem rnF_mx {call : Cl} {cd : Nat → CI} {o : Ot} (hc : ∀ y as h o', call y as h = some o' → mx h o') : ∀ (N pc : Nat) (l : Ls) (st : Vs) (h : AH), rnF call cd N pc l st h = some o → mx h o
  | 0, _, _, _, _, q => by cases q
  | N + 1, pc, l, st, h, q => stp_mx hc (rnF_mx hc N) q
theorem evM_mx {cd : Nat → Nat → CI} {ml : Nat → Nat} {N : Nat} : ∀ (d y : Nat) (as : Vs) (h : AH) (o : Ot), evM cd ml N d y as h = some o → mx h o
  | 0, _, _, _, _, q => by cases q
  | d + 1, y, as, h, o, q => by
    unfold evM at q
    cases hb : Nat.ble (arL as).length (ml y) with
    | true => rw [hb] at q; exact rnF_mx (evM_mx d) N 0 _ _ _ q
    | false => rw [hb] at q; cases q
theorem E_mx {d y : Nat} {as : Vs} {h : AH} {o : Ot} (q : E d y as h = some o) : mx h o := by
  obtain ⟨N, e⟩ := Ev_up (cd := cdF) (ml := mL) d y as h o q
  exact evM_mx d y as h o (e N (Nat.le_refl _))
