/-! ===== A RUN OF THE PURE MACHINE IS A RUN OF THE JVM ===== -/
def mo (h : AH) (o : Ot) : Prop := gN h ≤ gN o.2 ∧ gS h ≤ gS o.2
theorem mo.bind {call : Option Ot} {f : Ot → Option Ot} {h : AH} {o : Ot} (hc : ∀ o', call = some o' → mo h o') (hf : ∀ o', f o' = some o → mo o'.2 o) (q : call.bind f = some o) : mo h o := by
  cases hcall : call with
  | none => rw [hcall] at q; cases q
  | some o' =>
    rw [hcall] at q
    have a := hc _ hcall
    have b := hf _ q
    exact ⟨Nat.le_trans a.1 b.1, Nat.le_trans a.2 b.2⟩
theorem sw1_mo {k : Nat → Option Ot} {x : Int32} {d : Nat} {h : AH} {o : Ot} (hk : ∀ t, k t = some o → mo h o) : ∀ (tb : List (Int32 × Nat)), sw1 k x d tb = some o → mo h o
  | [], q => hk _ q
  | (v, t) :: r, q => by
    unfold sw1 at q
    split at q
    · exact hk _ q
    · exact sw1_mo hk r q
theorem mo_nw {h : AH} {c n m : Nat} {o : Ot} (a : mo (nw h c n m) o) : mo h o := ⟨Nat.le_trans (Nat.le_succ _) a.1, Nat.le_trans (Nat.le_add_right _ _) a.2⟩
theorem mo_nwM {h : AH} {n k : Nat} {o : Ot} (a : mo (nwM h n k) o) : mo h o := ⟨Nat.le_trans (Nat.le_add_right _ _) a.1, Nat.le_trans (Nat.le_add_right _ _) a.2⟩
set_option maxHeartbeats 2000000 in
theorem stp_mo {call : Cl} {k : Cn} {ci : CI} {pc : Nat} {l : Ls} {st : Vs} {h : AH} {o : Ot} (hc : ∀ y as h o', call y as h = some o' → mo h o') (hk : ∀ pc l st h, k pc l st h = some o → mo h o) (q : stp call k ci pc l st h = some o) : mo h o := by
  obtain ⟨ins, ⟨ra, rb, rc⟩, tb, lc, dd⟩ := ci
  cases ins
  case new =>
    exact mo_nw (hk _ _ _ _ q)
  case newarray =>
    have q : o_nwa h ra (fun st h => k (pc + 2) l st h) st = some o := q
    unfold o_nwa at q
    repeat' (split at q)
    all_goals first | (cases q; done) | exact mo_nw (hk _ _ _ _ q)
  case anewarray =>
    have q : o_nwa h 65 (fun st h => k (pc + 3) l st h) st = some o := q
    unfold o_nwa at q
    repeat' (split at q)
    all_goals first | (cases q; done) | exact mo_nw (hk _ _ _ _ q)
  case multianewarray =>
    have q : o_nwm h (fun st h => k (pc + 4) l st h) st = some o := q
    unfold o_nwm at q
    repeat' (split at q)
    all_goals first | (cases q; done) | exact mo_nwM (hk _ _ _ _ q)
  case tableswitch =>
    dsimp only [stp] at q
    split at q
    · exact sw1_mo (fun t q => hk _ _ _ _ q) _ q
    · cases q
  case lookupswitch =>
    dsimp only [stp] at q
    split at q
    · exact sw1_mo (fun t q => hk _ _ _ _ q) _ q
    · cases q
  case ifCond c f =>
    have q : o_if0 (fun st => k ra l st h) (fun st => k (pc + 3) l st h) (cnN c) st = some o := q
    unfold o_if0 at q
    split at q
    · unfold o_if at q
      repeat' (split at q)
      all_goals exact hk _ _ _ _ q
    · cases q
  case if_icmp c f =>
    have q : o_if2 (fun st => k ra l st h) (fun st => k (pc + 3) l st h) (cnN c) st = some o := q
    unfold o_if2 at q
    split at q
    · unfold o_if at q
      repeat' (split at q)
      all_goals exact hk _ _ _ _ q
    · cases q
  case if_acmp c f =>
    dsimp only [stp, o_ifa] at q
    repeat' (split at q)
    all_goals first | (cases q; done) | (have w := hk _ _ _ _ q; exact w)
  case getfield =>
    have q : o_get h ra rb rc (fun st => k (pc + 3) l st h) st = some o := q
    unfold o_get at q
    split at q
    · split at q
      · split at q
        · exact hk _ _ _ _ q
        · obtain ⟨y, -, w⟩ := Option.bind_eq_some_iff.mp q
          exact hk _ _ _ _ w
        · exact hk _ _ _ _ q
      · cases q
    · cases q
  case putfield =>
    have q : o_put h ra rb rc (fun st h => k (pc + 3) l st h) st = some o := q
    unfold o_put at q
    repeat' (split at q)
    all_goals first | (cases q; done) | (have w := hk _ _ _ _ q; exact w)
  case aaload =>
    have q : o_ala h ra (fun st => k (pc + 1) l st h) st = some o := q
    unfold o_ala at q
    split at q
    · repeat' (split at q)
      all_goals first | (cases q; done) | skip
      obtain ⟨y, -, w⟩ := Option.bind_eq_some_iff.mp q
      exact hk _ _ _ _ w
    · cases q
  case invokevirtual i =>
    match rc, q with
    | 0, q =>
      dsimp only [stp] at q
      repeat' (split at q)
      all_goals first | (cases q; done) | (have w := hk _ _ _ _ q; exact w)
    | c + 1, q =>
      have q : o_inv call h ra rb (c + 1) (fun st h => k (pc + 3) l st h) st = some o := q
      unfold o_inv at q
      split at q
      · split at q
        · rename_i as x t _ _
          cases hb : Nat.ble (vsz t) 20 with
          | true => rw [hb] at q; exact mo.bind (fun o' w => hc _ _ _ _ w) (fun o' w => hk _ _ _ _ w) q
          | false => rw [hb] at q; cases q
        · cases q
      · cases q
  case invokestatic i =>
    match rc, q with
    | 0, q =>
      have q : o_ins call h ra rb (fun st h => k (pc + 3) l st h) st = some o := q
      unfold o_ins at q
      split at q
      · rename_i as t _
        cases hb : Nat.ble (vsz t) 20 with
        | true => rw [hb] at q; exact mo.bind (fun o' w => hc _ _ _ _ w) (fun o' w => hk _ _ _ _ w) q
        | false => rw [hb] at q; cases q
      · cases q
    | c + 1, q =>
      have q : o_cpy h (c + 1) (fun st h => k (pc + 3) l st h) st = some o := q
      unfold o_cpy at q
      split at q
      · split at q
        · split at q
          · cases q
          · split at q
            · have w := hk _ _ _ _ q
              exact (fun X (h1 : gN X = gN h) (h2 : gS X = gS h) (w : mo X o) => (⟨h1 ▸ w.1, h2 ▸ w.2⟩ : mo h o)) _ (by split <;> rfl) (by split <;> rfl) w
            · cases q
        · cases q
      · cases q
  case invokespecial i =>
    match rc, q with
    | 0, q =>
      dsimp only [stp] at q
      split at q
      · rename_i t _
        cases hb : Nat.ble (vsz t) 20 with
        | true => rw [hb] at q; exact hk _ _ _ _ q
        | false => rw [hb] at q; cases q
      · cases q
    | c + 1, q =>
      have q : o_inc call h ra rb (fun st h => k (pc + 3) l st h) st = some o := q
      unfold o_inc at q
      split at q
      · rename_i as x t _
        cases hb : Nat.ble (vsz t) 20 with
        | true => rw [hb] at q; exact mo.bind (fun o' w => hc _ _ _ _ w) (fun o' w => hk _ _ _ _ w) q
        | false => rw [hb] at q; cases q
      · cases q
  case ireturn =>
    have q : o_ret h ra st = some o := q
    unfold o_ret at q
    repeat' (split at q)
    all_goals first | (cases q; done) | (cases q; exact ⟨Nat.le_refl _, Nat.le_refl _⟩)
  case lreturn =>
    dsimp only [stp] at q
    split at q
    · cases q; exact ⟨Nat.le_refl _, Nat.le_refl _⟩
    · cases q
  case areturn =>
    dsimp only [stp] at q
    split at q
    · cases q; exact ⟨Nat.le_refl _, Nat.le_refl _⟩
    · cases q
  case return_ =>
    dsimp only [stp] at q
    split at q
    · cases q; exact ⟨Nat.le_refl _, Nat.le_refl _⟩
    · cases q
  all_goals (dsimp only [stp, o_ld, o_ldl, o_lda, o_st, o_stl, o_sta, o_b, o_bd, o_u, o_B, o_Bd, o_Bs, o_cmp, o_ali, o_all, o_asi, o_asl, o_asa, o_len] at q)
  all_goals first | exact hk _ _ _ _ q | (cases q; done) | skip
  all_goals (repeat' (split at q))
  all_goals first | (cases q; done) | (have w := hk _ _ _ _ q; exact w)
theorem rnF_mo {call : Cl} {cd : Nat → CI} {o : Ot} (hc : ∀ y as h o', call y as h = some o' → mo h o') : ∀ (N pc : Nat) (l : Ls) (st : Vs) (h : AH), rnF call cd N pc l st h = some o → mo h o
  | 0, _, _, _, _, q => by cases q
  | N + 1, pc, l, st, h, q => stp_mo hc (rnF_mo hc N) q
theorem evM_mo {cd : Nat → Nat → CI} {ml : Nat → Nat} {N : Nat} : ∀ (d y : Nat) (as : Vs) (h : AH) (o : Ot), evM cd ml N d y as h = some o → mo h o
  | 0, _, _, _, _, q => by cases q
  | d + 1, y, as, h, o, q => by
    unfold evM at q
    cases hb : Nat.ble (arL as).length (ml y) with
    | true => rw [hb] at q; exact rnF_mo (evM_mo d) N 0 _ _ _ q
    | false => rw [hb] at q; cases q
