/-! ===== THE SCRIPT STAYS WHAT IT IS (made out of part 73) ===== -/
def m3 (h : AH) (o : Ot) : Prop := 100 ≤ gN h → 100 ≤ gN o.2 ∧ gA o.2 63 = gA h 63
theorem m3_r {h : AH} {v : Option Value} : m3 h (v, h) := fun q => ⟨q, rfl⟩
theorem m3_t {h h1 : AH} {o : Ot} (a : m3 h (none, h1)) (b : m3 h1 o) : m3 h o := fun q => ⟨(b (a q).1).1, (b (a q).1).2.trans (a q).2⟩
theorem m3_bind {call : Option Ot} {f : Ot → Option Ot} {h : AH} {o : Ot} (hc : ∀ o', call = some o' → m3 h o') (hf : ∀ o', f o' = some o → m3 o'.2 o) (q : call.bind f = some o) : m3 h o := by
  cases hcall : call with
  | none => rw [hcall] at q; cases q
  | some o' =>
    rw [hcall] at q
    have a := hc _ hcall
    have b := hf _ q
    exact m3_t (h1 := o'.2) a b
theorem sw1_m3 {k : Nat → Option Ot} {x : Int32} {d : Nat} {h : AH} {o : Ot} (hk : ∀ t, k t = some o → m3 h o) : ∀ (tb : List (Int32 × Nat)), sw1 k x d tb = some o → m3 h o
  | [], q => hk _ q
  | (v, t) :: r, q => by
    unfold sw1 at q
    split at q
    · exact hk _ q
    · exact sw1_m3 hk r q
theorem m3_sA {h : AH} {x i : Nat} {v : Int32} {o : Ot} (hx : 100 ≤ x) (a : m3 (sA h x i v) o) : m3 h o :=
  m3_t (h1 := sA h x i v) (fun q => ⟨q, up2_k (f := gA h) (by omega)⟩) a
theorem m3_nw {h : AH} {c n m : Nat} {o : Ot} (a : m3 (nw h c n m) o) : m3 h o :=
  m3_t (h1 := nw h c n m) (fun q => ⟨Nat.le_succ_of_le q, if_neg (by omega)⟩) a
theorem m3_nwM {h : AH} {n k : Nat} {o : Ot} (a : m3 (nwM h n k) o) : m3 h o :=
  m3_t (h1 := nwM h n k) (fun q => ⟨Nat.le_trans q (Nat.le_add_right _ _), if_neg (by omega)⟩) a
set_option maxHeartbeats 2000000 in
theorem stp_m3 {call : Cl} {k : Cn} {ci : CI} {pc : Nat} {l : Ls} {st : Vs} {h : AH} {o : Ot} (hc : ∀ y as h o', call y as h = some o' → m3 h o') (hk : ∀ pc l st h, k pc l st h = some o → m3 h o) (q : stp call k ci pc l st h = some o) : m3 h o := by
  obtain ⟨ins, ⟨ra, rb, rc⟩, tb, lc, dd⟩ := ci
  cases ins
  case new =>
    exact m3_nw (hk _ _ _ _ q)
  case newarray =>
    have q : o_nwa h ra (fun st h => k (pc + 2) l st h) st = some o := q
    unfold o_nwa at q
    repeat' (split at q)
    all_goals first | (cases q; done) | exact m3_nw (hk _ _ _ _ q)
  case anewarray =>
    have q : o_nwa h 65 (fun st h => k (pc + 3) l st h) st = some o := q
    unfold o_nwa at q
    repeat' (split at q)
    all_goals first | (cases q; done) | exact m3_nw (hk _ _ _ _ q)
  case multianewarray =>
    have q : o_nwm h (fun st h => k (pc + 4) l st h) st = some o := q
    unfold o_nwm at q
    repeat' (split at q)
    all_goals first | (cases q; done) | exact m3_nwM (hk _ _ _ _ q)
  case tableswitch =>
    dsimp only [stp] at q
    split at q
    · exact sw1_m3 (fun t q => hk _ _ _ _ q) _ q
    · cases q
  case lookupswitch =>
    dsimp only [stp] at q
    split at q
    · exact sw1_m3 (fun t q => hk _ _ _ _ q) _ q
    · cases q
  case ifCond c f =>
    have q : o_if0 (fun st => k ra l st h) (fun st => k (pc + 3) l st h) (cnN c) st = some o := q
    unfold o_if0 at q
    split at q
    · unfold o_if at q
      repeat' (split at q)
      all_goals exact hk _ _ _ _ q
    · cases q
  case if_icmp c f =>
    have q : o_if2 (fun st => k ra l st h) (fun st => k (pc + 3) l st h) (cnN c) st = some o := q
    unfold o_if2 at q
    split at q
    · unfold o_if at q
      repeat' (split at q)
      all_goals exact hk _ _ _ _ q
    · cases q
  case if_acmp c f =>
    dsimp only [stp, o_ifa] at q
    repeat' (split at q)
    all_goals first | (cases q; done) | (have w := hk _ _ _ _ q; exact w)
  case getfield =>
    have q : o_get h ra rb rc (fun st => k (pc + 3) l st h) st = some o := q
    unfold o_get at q
    split at q
    · split at q
      · split at q
        · exact hk _ _ _ _ q
        · obtain ⟨y, -, w⟩ := Option.bind_eq_some_iff.mp q
          exact hk _ _ _ _ w
        · exact hk _ _ _ _ q
      · cases q
    · cases q
  case putfield =>
    have q : o_put h ra rb rc (fun st h => k (pc + 3) l st h) st = some o := q
    unfold o_put at q
    repeat' (split at q)
    all_goals first | (cases q; done) | (have w := hk _ _ _ _ q; exact w)
  case aaload =>
    have q : o_ala h ra (fun st => k (pc + 1) l st h) st = some o := q
    unfold o_ala at q
    split at q
    · repeat' (split at q)
      all_goals first | (cases q; done) | skip
      obtain ⟨y, -, w⟩ := Option.bind_eq_some_iff.mp q
      exact hk _ _ _ _ w
    · cases q
  case invokevirtual i =>
    match rc, q with
    | 0, q =>
      dsimp only [stp] at q
      repeat' (split at q)
      all_goals first | (cases q; done) | (have w := hk _ _ _ _ q; exact w)
    | c + 1, q =>
      have q : o_inv call h ra rb (c + 1) (fun st h => k (pc + 3) l st h) st = some o := q
      unfold o_inv at q
      split at q
      · split at q
        · rename_i as x t _ _
          cases hb : Nat.ble (vsz t) 20 with
          | true => rw [hb] at q; exact m3_bind (fun o' w => hc _ _ _ _ w) (fun o' w => hk _ _ _ _ w) q
          | false => rw [hb] at q; cases q
        · cases q
      · cases q
  case invokestatic i =>
    match rc, q with
    | 0, q =>
      have q : o_ins call h ra rb (fun st h => k (pc + 3) l st h) st = some o := q
      unfold o_ins at q
      split at q
      · rename_i as t _
        cases hb : Nat.ble (vsz t) 20 with
        | true => rw [hb] at q; exact m3_bind (fun o' w => hc _ _ _ _ w) (fun o' w => hk _ _ _ _ w) q
        | false => rw [hb] at q; cases q
      · cases q
    | c + 1, q =>
      have q : o_cpy h (c + 1) (fun st h => k (pc + 3) l st h) st = some o := q
      unfold o_cpy at q
      split at q
      · split at q
        · split at q
          · cases q
          · split at q
            · have w := hk _ _ _ _ q
              have hy := (‹gC h _ = _ ∧ gC h _ = _ ∧ 100 ≤ _ ∧ 100 ≤ _ ∧ _›).2.2.2.1
              refine m3_t (h1 := _) (fun g => ?_) w
              split
              · exact ⟨g, if_neg (by omega)⟩
              · exact ⟨g, rfl⟩
              · exact ⟨g, rfl⟩
            · cases q
        · cases q
      · cases q
  case invokespecial i =>
    match rc, q with
    | 0, q =>
      dsimp only [stp] at q
      split at q
      · rename_i t _
        cases hb : Nat.ble (vsz t) 20 with
        | true => rw [hb] at q; exact hk _ _ _ _ q
        | false => rw [hb] at q; cases q
      · cases q
    | c + 1, q =>
      have q : o_inc call h ra rb (fun st h => k (pc + 3) l st h) st = some o := q
      unfold o_inc at q
      split at q
      · rename_i as x t _
        cases hb : Nat.ble (vsz t) 20 with
        | true => rw [hb] at q; exact m3_bind (fun o' w => hc _ _ _ _ w) (fun o' w => hk _ _ _ _ w) q
        | false => rw [hb] at q; cases q
      · cases q
  case iastore =>
    have q : o_asi h 60 (fun st h => k (pc + 1) l st h) st = some o := q
    unfold o_asi at q
    repeat' (split at q)
    all_goals first | (cases q; done) | skip
    have hx := (‹gC h _ = _ ∧ 100 ≤ _›).2
    have w := hk _ _ _ _ q
    exact m3_sA hx w
  case castore =>
    have q : o_asi h 62 (fun st h => k (pc + 1) l st h) st = some o := q
    unfold o_asi at q
    repeat' (split at q)
    all_goals first | (cases q; done) | skip
    have hx := (‹gC h _ = _ ∧ 100 ≤ _›).2
    have w := hk _ _ _ _ q
    exact m3_sA hx w
  case bastore =>
    have q : o_asi h 63 (fun st h => k (pc + 1) l st h) st = some o := q
    unfold o_asi at q
    repeat' (split at q)
    all_goals first | (cases q; done) | skip
    have hx := (‹gC h _ = _ ∧ 100 ≤ _›).2
    have w := hk _ _ _ _ q
    exact m3_sA hx w
  case ireturn =>
    have q : o_ret h ra st = some o := q
    unfold o_ret at q
    repeat' (split at q)
    all_goals first | (cases q; done) | (cases q; exact m3_r)
  case lreturn =>
    dsimp only [stp] at q
    split at q
    · cases q; exact m3_r
    · cases q
  case areturn =>
    dsimp only [stp] at q
    split at q
    · cases q; exact m3_r
    · cases q
  case return_ =>
    dsimp only [stp] at q
    split at q
    · cases q; exact m3_r
    · cases q
  all_goals (dsimp only [stp, o_ld, o_ldl, o_lda, o_st, o_stl, o_sta, o_b, o_bd, o_u, o_B, o_Bd, o_Bs, o_cmp, o_ali, o_all, o_asi, o_asl, o_asa, o_len] at q)
  all_goals first | exact hk _ _ _ _ q | (cases q; done) | skip
  all_goals (repeat' (split at q))
  all_goals first | (cases q; done) | (have w := hk _ _ _ _ q; exact w)
theorem rnF_m3 {call : Cl} {cd : Nat → CI} {o : Ot} (hc : ∀ y as h o', call y as h = some o' → m3 h o') : ∀ (N pc : Nat) (l : Ls) (st : Vs) (h : AH), rnF call cd N pc l st h = some o → m3 h o
  | 0, _, _, _, _, q => by cases q
  | N + 1, pc, l, st, h, q => stp_m3 hc (rnF_m3 hc N) q
theorem evM_m3 {cd : Nat → Nat → CI} {ml : Nat → Nat} {N : Nat} : ∀ (d y : Nat) (as : Vs) (h : AH) (o : Ot), evM cd ml N d y as h = some o → m3 h o
  | 0, _, _, _, _, q => by cases q
  | d + 1, y, as, h, o, q => by
    unfold evM at q
    cases hb : Nat.ble (arL as).length (ml y) with
    | true => rw [hb] at q; exact rnF_m3 (evM_m3 d) N 0 _ _ _ q
    | false => rw [hb] at q; cases q
theorem E_m3 {d y : Nat} {as : Vs} {h : AH} {o : Ot} (q : E d y as h = some o) : m3 h o := by
  obtain ⟨N, e⟩ := Ev_up (cd := cdF) (ml := mL) d y as h o q
  exact evM_m3 d y as h o (e N (Nat.le_refl _))
theorem rnT_m3 {call : Cl} {cd : Nat → CI} {P : Nat} {chk : Ls → Vs → AH → Prop} {o : Ot} (hc : ∀ y as h o', call y as h = some o' → m3 h o') : ∀ (N pc : Nat) (l : Ls) (st : Vs) (h : AH), rnT call cd P chk N pc l st h = some o → m3 h o
  | 0, _, _, _, _, q => by cases q
  | N + 1, pc, l, st, h, q => by
    unfold rnT at q
    cases hb : Nat.beq pc P with
    | true =>
      rw [hb] at q
      have q : @ite _ (chk l st h) (Classical.propDecidable _) (some (some (.double 0), h)) none = some o := q
      split at q
      · cases q; exact m3_r
      · cases q
    | false =>
      rw [hb] at q
      exact stp_m3 hc (rnT_m3 hc N) q
theorem TQ_m3 {P d y pc : Nat} {l : Ls} {st : Vs} {h : AH} {o : Ot} (q : TQ P d y pc l st h = some o) : m3 h o := by
  obtain ⟨N, e⟩ := TQ_N q
  exact rnT_m3 (evM_m3 d) N _ _ _ _ e
theorem rnT_mx {call : Cl} {cd : Nat → CI} {P : Nat} {chk : Ls → Vs → AH → Prop} {o : Ot} (hc : ∀ y as h o', call y as h = some o' → mx h o') : ∀ (N pc : Nat) (l : Ls) (st : Vs) (h : AH), rnT call cd P chk N pc l st h = some o → mx h o
  | 0, _, _, _, _, q => by cases q
  | N + 1, pc, l, st, h, q => by
    unfold rnT at q
    cases hb : Nat.beq pc P with
    | true =>
      rw [hb] at q
      have q : @ite _ (chk l st h) (Classical.propDecidable _) (some (some (.double 0), h)) none = some o := q
      split at q
      · cases q; exact mx_r
      · cases q
    | false =>
      rw [hb] at q
      exact stp_mx hc (rnT_mx hc N) q
theorem TQ_mx {P d y pc : Nat} {l : Ls} {st : Vs} {h : AH} {o : Ot} (q : TQ P d y pc l st h = some o) : mx h o := by
  obtain ⟨N, e⟩ := TQ_N q
  exact rnT_mx (evM_mx d) N _ _ _ _ e
