section STP
variable {p : Program} {l : Launch} {e : Env} {R : Room} {s : State} {m : MethodId} {args : Array Value} {below : List Frame} {meth : Method} {c : Code} {Q : State → Prop} {z : State} {D : va_G} {dA : Nat → ClassId} {φ0 : Nat → Nat} {n0 s0 nL : Nat} {lo : Ls} {st : Vs} {h : AH} {o : Ot} {pc pc' : Nat} {za : Array Value} {own : String} {cc : ByteArray}
variable {mY : Nat → MethodName} {mB : Nat → ByteArray} {mL : Nat → Nat} {mT : Nat → Option FieldType} {mK : Nat → Nat × Nat × Nat} {exS : List (String × Nat × Nat)} {exZ : List (String × String × String × (Int32 ⊕ Nat))} {ext : Nat → Nat} {d : Nat} {ini : Bool} {rt : Option FieldType} {wP wP0 : Cond → Bool}
theorem cnN_lt (c : ClassFile.Cond) : cnN c < 6 := by cases c <;> decide
theorem aw_if0 (X : Cx p s m c z own cc nL) {cn : ClassFile.Cond} {off : Int} {tgt : Nat} (hd : decode cc pc = .ok (.ifCond cn off, 3)) (ht : (pc : Int) + off = (tgt : Int)) {a b : Vs → Option Ot}
    (ha : ∀ t, a t = some o → AW p l e R s m args below meth c Q z D dA φ0 n0 s0 nL tgt lo t h) (hb : ∀ t, b t = some o → AW p l e R s m args below meth c Q z D dA φ0 n0 s0 nL (pc + 3) lo t h) (q : o_if0 a b (cnN cn) st = some o) : AW p l e R s m args below meth c Q z D dA φ0 n0 s0 nL pc lo st h := by
  unfold o_if0 at q
  split at q
  case h_2 => cases q
  rename_i x t
  refine aw_if X.1 (fun x _ r => .int x :: r) (fun _ _ => True) (ha t) (hb t) (fun w => w.2) (fun φ => rfl) ?_ ?_ ?_ ?_ ?_ ?_ (cnN_lt cn) q
  · intro w; cases cn <;> first | (cases w; done) | (exact fun a b => lv_if_eq X.1 X.2.1 hd ht a b)
  · intro w; cases cn <;> first | (cases w; done) | (exact fun a b => lv_if_ne X.1 X.2.1 hd ht a b)
  · intro w; cases cn <;> first | (cases w; done) | (exact fun a b => lv_if_lt X.1 X.2.1 hd ht a b)
  · intro w; cases cn <;> first | (cases w; done) | (exact fun a b => lv_if_ge X.1 X.2.1 hd ht a b)
  · intro w; cases cn <;> first | (cases w; done) | (exact fun a b => lv_if_gt X.1 X.2.1 hd ht a b)
  · intro w; cases cn <;> first | (cases w; done) | (exact fun a b => lv_if_le X.1 X.2.1 hd ht a b)
theorem aw_if2 (X : Cx p s m c z own cc nL) {cn : ClassFile.Cond} {off : Int} {tgt : Nat} (hd : decode cc pc = .ok (.if_icmp cn off, 3)) (ht : (pc : Int) + off = (tgt : Int)) {a b : Vs → Option Ot}
    (ha : ∀ t, a t = some o → AW p l e R s m args below meth c Q z D dA φ0 n0 s0 nL tgt lo t h) (hb : ∀ t, b t = some o → AW p l e R s m args below meth c Q z D dA φ0 n0 s0 nL (pc + 3) lo t h) (q : o_if2 a b (cnN cn) st = some o) : AW p l e R s m args below meth c Q z D dA φ0 n0 s0 nL pc lo st h := by
  unfold o_if2 at q
  split at q
  case h_2 => cases q
  rename_i y x t
  refine aw_if X.1 (fun x y r => .int y :: .int x :: r) (fun _ _ => True) (ha t) (hb t) (fun w => w.2.2) (fun φ => rfl) ?_ ?_ ?_ ?_ ?_ ?_ (cnN_lt cn) q
  · intro w; cases cn <;> first | (cases w; done) | (exact fun a b => lv_icmp_eq X.1 X.2.1 hd ht a b)
  · intro w; cases cn <;> first | (cases w; done) | (exact fun a b => lv_icmp_ne X.1 X.2.1 hd ht a b)
  · intro w; cases cn <;> first | (cases w; done) | (exact fun a b => lv_icmp_lt X.1 X.2.1 hd ht a b)
  · intro w; cases cn <;> first | (cases w; done) | (exact fun a b => lv_icmp_ge X.1 X.2.1 hd ht a b)
  · intro w; cases cn <;> first | (cases w; done) | (exact fun a b => lv_icmp_gt X.1 X.2.1 hd ht a b)
  · intro w; cases cn <;> first | (cases w; done) | (exact fun a b => lv_icmp_le X.1 X.2.1 hd ht a b)
theorem aw_jump {t : Nat} (row : ∀ {H : Heap} {locs : List Loc} {cells slots : Nat} {ls : Array Slot} {rest : List Value}, W p l e R s m args below meth c H locs cells slots Q (F0 m t ls rest) → W p l e R s m args below meth c H locs cells slots Q (F0 m pc ls rest)) (k : AW p l e R s m args below meth c Q z D dA φ0 n0 s0 nL t lo st h) : AW p l e R s m args below meth c Q z D dA φ0 n0 s0 nL pc lo st h :=
  fun φ H locs ls a1 a2 a3 a4 a5 a6 a7 a8 => row (k φ H locs ls a1 a2 a3 a4 a5 a6 a7 a8)
theorem aw_look (X : Cx p s m c z own cc nL) {ps : List (Int × Int)} {tb : List (Int32 × Nat)} {dl : Int} {dt : Nat} {x : Int32} {r : Vs} (hs : swB pc ps tb = true) (hdl : (pc : Int) + dl = (dt : Int))
    (row : ∀ {H : Heap} {locs : List Loc} {cells slots : Nat} {ls : Array Slot} {rest : List Value} {t : Nat}, (pc : Int) + Op.lookupswitch.offset ps dl x.toInt = (t : Int) → W p l e R s m args below meth c H locs cells slots Q (F0 m t ls rest) → W p l e R s m args below meth c H locs cells slots Q (F0 m pc ls (.int x :: rest)))
    {K : Nat → Option Ot} (hk : ∀ t, K t = some o → AW p l e R s m args below meth c Q z D dA φ0 n0 s0 nL t lo r h) (q : sw1 K x dt tb = some o) : AW p l e R s m args below meth c Q z D dA φ0 n0 s0 nL pc lo (.int x :: r) h := by
  obtain ⟨t, h1, h2⟩ := sw1_spec ps tb hs q hdl
  intro φ H locs ls a1 a2 a3 a4 a5 a6 a7 a8
  exact row h1 (hk t h2 φ H locs ls a1 a2 a3 a4 a5.2 a6 a7 a8)
/-- dup and its like: a stack for a stack -/
theorem aw_stk {st' : Vs} (hv : ∀ n, vlS n st → vlS n st') (row : ∀ (φ : Nat → Nat) {H : Heap} {locs : List Loc} {cells slots : Nat} {ls : Array Slot}, W p l e R s m args below meth c H locs cells slots Q (F0 m pc' ls (st'.map (vmp φ))) → W p l e R s m args below meth c H locs cells slots Q (F0 m pc ls (st.map (vmp φ))))
    (k : AW p l e R s m args below meth c Q z D dA φ0 n0 s0 nL pc' lo st' h) : AW p l e R s m args below meth c Q z D dA φ0 n0 s0 nL pc lo st h :=
  fun φ H locs ls a1 a2 a3 a4 a5 a6 a7 a8 => row φ (k φ H locs ls a1 a2 a3 a4 (hv _ a5) a6 a7 a8)
/-- what the end of a method gives -/
def RET (p : Program) (l : Launch) (e : Env) (R : Room) (s : State) (m : MethodId) (args : Array Value) (below : List Frame) (meth : Method) (c : Code) (Q : State → Prop) (z : State) (D : va_G) (dA : Nat → ClassId) (φ0 : Nat → Nat) (n0 s0 nL : Nat) (cc : ByteArray) (rt : Option FieldType) (o : Ot) : Prop :=
  (∀ pc lo v h, decode cc pc = .ok (.ireturn, 1) → (∃ ty, rt = some ty ∧ narrow ty (.int v) = .int v) → o = (some (.int v), h) → AW p l e R s m args below meth c Q z D dA φ0 n0 s0 nL pc lo [.int v] h) ∧
  (∀ pc lo v h, decode cc pc = .ok (.lreturn, 1) → rt = some .long → o = (some (.long v), h) → AW p l e R s m args below meth c Q z D dA φ0 n0 s0 nL pc lo [.long v] h) ∧
  (∀ pc lo v h, decode cc pc = .ok (.areturn, 1) → refRt rt = true → o = (some (.ref v), h) → AW p l e R s m args below meth c Q z D dA φ0 n0 s0 nL pc lo [.ref v] h) ∧
  (∀ pc lo h, decode cc pc = .ok (.return_, 1) → rt = none → o = (none, h) → AW p l e R s m args below meth c Q z D dA φ0 n0 s0 nL pc lo [] h)
theorem nat_words : 20 + (nativeFrameWords "java/lang/System" "arraycopy" 5 + 11) ≤ 100 := by decide +kernel
set_option maxHeartbeats 4000000 in
theorem stp_ok (wB_ok : ∀ {w}, wP w = true → w ∈ lw_tbl ∧ goodWord w = true) (wB0_ok : ∀ {w}, wP0 w = true → w ∈ lw_tbl) (G : GL mY mB mL mT mK exS exZ z ext) (E : EV z za D dA) (X : Cx p s m c z own cc nL) (hini : ini = true → meth.name = "<init>") (hφ0 : ∀ x, x < 100 → φ0 x = ext x) (hn0 : 100 ≤ n0) (hR1 : d + 1 ≤ R.frames) (hR2 : 100 * (d + 1) ≤ R.locals) {call : Cl} {k : Cn} {ci : CI}
    (hok : okB wP wP0 mY mK exS exZ own cc nL ini rt pc ci = true) (hcall : ∀ y as h o', call y as h = some o' → MetA mY mB mL mT l z D dA ext d y as h o') (hk : ∀ pc lo st h, k pc lo st h = some o → AW p l e R s m args below meth c Q z D dA φ0 n0 s0 nL pc lo st h)
    (hroom : ∀ pc lo st h, k pc lo st h = some o → gN h - n0 ≤ R.cells ∧ gS h - s0 ≤ R.slots) (hret : RET p l e R s m args below meth c Q z D dA φ0 n0 s0 nL cc rt o) (q : stp call k ci pc lo st h = some o) : AW p l e R s m args below meth c Q z D dA φ0 n0 s0 nL pc lo st h := by
  obtain ⟨ins, ⟨ra, rb, rc⟩, tb, lc, dd⟩ := ci
  obtain ⟨n, hd, hn⟩ := okB_dec hok
  have hw := (Bool.and_eq_true _ _ ▸ (show (_ && _) = true from hok)).2
  clear hok
  have hW := X.2.2.2.2
  have hfr : 1 ≤ R.frames := by omega
  have hlo1 : 100 ≤ R.locals := by omega
  have hcastO : ∀ t, 1 ≤ t → t ≤ 14 → Cond.castable (cR t) "java/lang/Object" ∈ lw_tbl := fun t h1 h2 => (G.2.1 t h1 h2).2.2
  cases ins
  case aconst_null =>
    rcases hn with hn | hn; · cases hn
    subst hn
    exact aw_push (v := .null) (fun _ => trivial) (fun _ => rfl) (fun w => lv_null X.1 X.2.1 hd w) (hk _ _ _ _ q)
  case iconst i =>
    rcases hn with hn | hn; · cases hn
    subst hn
    exact aw_push (v := .int (kc tb)) (fun _ => trivial) (fun _ => rfl) (fun w => lv_iconst X.1 X.2.1 hd (of_decide_eq_true hw) w) (hk _ _ _ _ q)
  case bipush i =>
    rcases hn with hn | hn; · cases hn
    subst hn
    exact aw_push (v := .int (kc tb)) (fun _ => trivial) (fun _ => rfl) (fun w => lv_bipush X.1 X.2.1 hd (of_decide_eq_true hw) w) (hk _ _ _ _ q)
  case sipush i =>
    rcases hn with hn | hn; · cases hn
    subst hn
    exact aw_push (v := .int (kc tb)) (fun _ => trivial) (fun _ => rfl) (fun w => lv_sipush X.1 X.2.1 hd (of_decide_eq_true hw) w) (hk _ _ _ _ q)
  case lconst i =>
    rcases hn with hn | hn; · cases hn
    subst hn
    exact aw_push (v := .long lc) (fun _ => trivial) (fun _ => rfl) (fun w => lv_lconst X.1 X.2.1 hd (of_decide_eq_true hw) w) (hk _ _ _ _ q)
  case ldc2_w i =>
    rcases hn with hn | hn; · cases hn
    subst hn
    exact aw_push (v := .long lc) (fun _ => trivial) (fun _ => rfl) (fun w => lv_ldc2 X.1 X.2.1 X.2.2.2.1 (E.w hW (wB_ok hw) args) hd w) (hk _ _ _ _ q)
  case ldc i =>
    rcases hn with hn | hn; · cases hn
    subst hn
    match ra, hw, q with
    | 0, hw, q => exact aw_push (v := .int (kc tb)) (fun _ => trivial) (fun _ => rfl) (fun w => lv_ldc X.1 X.2.1 X.2.2.2.1 (E.w hW (wB_ok hw) args) hd w) (hk _ _ _ _ q)
    | 1, hw, q =>
      have hm : (own, i, rb) ∈ exS := List.mem_of_getElem? (of_decide_eq_true hw)
      obtain ⟨h1, tx, h2⟩ := G.2.2.1 _ hm
      exact aw_ext h1 hn0 (hφ0 _ h1) (fun _ w => va_ldcS X.1 X.2.1 X.2.2.2.1 (h2.warm hW) hd w) (hk _ _ _ _ q)
    | a + 2, hw, q =>
      have hw' : (decide (rb = 62) && wP (.classLink own i "[Ljava/lang/Object;")) = true := hw
      rw [Bool.and_eq_true, decide_eq_true_eq] at hw'
      obtain ⟨h1, h2⟩ := hw'
      subst h1
      exact aw_ext (by omega) hn0 (hφ0 _ (by omega)) (fun _ w => va_ldcM X.1 X.2.1 X.2.2.2.1 (E.w hW (wB_ok h2) args) (G.2.2.2.2.2.moved hW.alike) hd w) (hk _ _ _ _ q)
  case ldc_w i =>
    rcases hn with hn | hn; · cases hn
    subst hn
    match ra, hw, q with
    | 0, hw, q => exact aw_push (v := .int (kc tb)) (fun _ => trivial) (fun _ => rfl) (fun w => lv_ldcw X.1 X.2.1 X.2.2.2.1 (E.w hW (wB_ok hw) args) hd w) (hk _ _ _ _ q)
    | 1, hw, q =>
      have hm : (own, i, rb) ∈ exS := List.mem_of_getElem? (of_decide_eq_true hw)
      obtain ⟨h1, tx, h2⟩ := G.2.2.1 _ hm
      exact aw_ext h1 hn0 (hφ0 _ h1) (fun _ w => ldcw_row X (h2.warm hW) hd w) (hk _ _ _ _ q)
    | a + 2, hw, q => cases hw
  case getstatic i =>
    rcases hn with hn | hn; · cases hn
    subst hn
    dsimp only at hw
    split at hw
    · rename_i C n d v hz
      rw [Bool.and_eq_true, Bool.and_eq_true, decide_eq_true_eq, decide_eq_true_eq] at hw
      obtain ⟨⟨rfl, rfl⟩, h3⟩ := hw
      exact aw_gsi X E (G.2.2.2.1 _ _ _ _ (List.mem_of_getElem? hz)) (wB_ok h3) hd (hk _ _ _ _ q)
    · rename_i C n d x hz
      rw [Bool.and_eq_true, Bool.and_eq_true, decide_eq_true_eq, decide_eq_true_eq] at hw
      obtain ⟨⟨rfl, rfl⟩, h3⟩ := hw
      obtain ⟨h4, h5⟩ := G.2.2.2.2.1 _ _ _ _ (List.mem_of_getElem? hz)
      have q : k (pc + 3) lo (gsv h x :: st) h = some o := q
      rcases h5 with ⟨h5, h6⟩ | ⟨rfl, rfl, rfl, rfl⟩
      · have hg : gsv h x = .ref x := by
          unfold gsv
          cases hb : Nat.beq x 64 with
          | true => exact absurd (Nat.eq_of_beq_eq_true hb) h5
          | false => rfl
        rw [hg] at q
        exact aw_ext h4 hn0 (hφ0 _ h4) (fun hH w => gets_row X h6 (E.w hW (wB_ok h3) args) hd hH w) (hk _ _ _ _ q)
      · intro φ H locs ls a1 a2 a3 a4 a5 a6 a7 a8
        rcases a1.2.2.2.2.2.2.2.2.2.2 with ⟨g1, g2⟩ | ⟨g1, g2⟩
        · have hg : gsv h 64 = .null := by unfold gsv; rw [g1]; rfl
          rw [hg] at q
          exact gets_row X g2 (E.w hW (wB_ok h3) args) hd ⟨a1.1, a1.2.1⟩ (hk _ _ _ _ q φ H locs ls a1 a2 a3 a4 ⟨trivial, a5⟩ a6 a7 a8)
        · have hg : gsv h 64 = .ref 64 := by
            unfold gsv
            cases hb : Nat.beq (gK h 64) 1 with
            | true => exact absurd (Nat.eq_of_beq_eq_true hb) g1
            | false => rfl
          rw [hg] at q
          exact gets_row X g2 (E.w hW (wB_ok h3) args) hd ⟨a1.1, a1.2.1⟩ (hk _ _ _ _ q φ H locs ls a1 a2 a3 a4 ⟨by have := a1.2.2.1; show 64 < gN h; omega, a5⟩ a6 a7 a8)
    · cases hw
  case iload i =>
    rcases hn with hn | hn; · cases hn
    subst hn
    exact aw_ld (fun hl w => lv_iload X.1 X.2.1 hd hl w) (fun st q => hk _ _ _ _ q) q
  case iload_n i =>
    rcases hn with hn | hn; · cases hn
    subst hn
    exact aw_ld (fun hl w => lv_iload_n X.1 X.2.1 hd rfl hl w) (fun st q => hk _ _ _ _ q) q
  case lload i =>
    rcases hn with hn | hn; · cases hn
    subst hn
    exact aw_ldl (fun hl w => lv_lload X.1 X.2.1 hd hl w) (fun st q => hk _ _ _ _ q) q
  case lload_n i =>
    rcases hn with hn | hn; · cases hn
    subst hn
    exact aw_ldl (fun hl w => lv_lload_n X.1 X.2.1 hd rfl hl w) (fun st q => hk _ _ _ _ q) q
  case aload i =>
    rcases hn with hn | hn; · cases hn
    subst hn
    exact aw_lda (fun hl w => lv_aload X.1 X.2.1 hd hl w) (fun hl w => lv_aloadN X.1 X.2.1 hd hl w) (fun st q => hk _ _ _ _ q) q
  case aload_n i =>
    rcases hn with hn | hn; · cases hn
    subst hn
    exact aw_lda (fun hl w => lv_aload_n X.1 X.2.1 hd rfl hl w) (fun hl w => lv_aload_nN X.1 X.2.1 hd rfl hl w) (fun st q => hk _ _ _ _ q) q
  case istore i =>
    rcases hn with hn | hn; · cases hn
    subst hn
    exact aw_st (of_decide_eq_true hw) (fun hs w => row_st X hd (Or.inl ⟨rfl, rfl, _, rfl⟩) hs w) (fun lo st q => hk _ _ _ _ q) q
  case istore_n i =>
    rcases hn with hn | hn; · cases hn
    subst hn
    exact aw_st (of_decide_eq_true hw) (fun hs w => row_st X hd (Or.inr (Or.inr (Or.inr ⟨i, rfl, rfl, Or.inl ⟨rfl, _, rfl⟩⟩))) hs w) (fun lo st q => hk _ _ _ _ q) q
  case lstore i =>
    rcases hn with hn | hn; · cases hn
    subst hn
    exact aw_stl (of_decide_eq_true hw) (fun hs w => row_st X hd (Or.inr (Or.inl ⟨rfl, rfl, _, rfl⟩)) hs w) (fun lo st q => hk _ _ _ _ q) q
  case lstore_n i =>
    rcases hn with hn | hn; · cases hn
    subst hn
    exact aw_stl (of_decide_eq_true hw) (fun hs w => row_st X hd (Or.inr (Or.inr (Or.inr ⟨i, rfl, rfl, Or.inr (Or.inl ⟨rfl, _, rfl⟩)⟩))) hs w) (fun lo st q => hk _ _ _ _ q) q
  case astore i =>
    rcases hn with hn | hn; · cases hn
    subst hn
    exact aw_sta (of_decide_eq_true hw) (fun hs w => row_st X hd (Or.inr (Or.inr (Or.inl ⟨rfl, rfl, _, rfl⟩))) hs w) (fun lo st q => hk _ _ _ _ q) q
  case astore_n i =>
    rcases hn with hn | hn; · cases hn
    subst hn
    exact aw_sta (of_decide_eq_true hw) (fun hs w => row_st X hd (Or.inr (Or.inr (Or.inr ⟨i, rfl, rfl, Or.inr (Or.inr ⟨rfl, _, rfl⟩)⟩))) hs w) (fun lo st q => hk _ _ _ _ q) q
  case iinc i n =>
    rcases hn with hn | hn; · cases hn
    subst hn
    have hw' : (decide (i < nL) && decide (Int32.ofInt n = kc tb)) = true := hw
    rw [Bool.and_eq_true, decide_eq_true_eq, decide_eq_true_eq] at hw'
    exact aw_inc hw'.1 (fun hl hs w => row_inc X hw'.2 hd hl hs w) (fun lo q => hk _ _ _ _ q) q
  case iadd =>
    rcases hn with hn | hn; · cases hn
    subst hn
    exact aw_b (fun w => lv_iadd X.1 X.2.1 hd w) (fun st q => hk _ _ _ _ q) q
  case isub =>
    rcases hn with hn | hn; · cases hn
    subst hn
    exact aw_b (fun w => lv_isub X.1 X.2.1 hd w) (fun st q => hk _ _ _ _ q) q
  case imul =>
    rcases hn with hn | hn; · cases hn
    subst hn
    exact aw_b (fun w => lv_imul X.1 X.2.1 hd w) (fun st q => hk _ _ _ _ q) q
  case iand =>
    rcases hn with hn | hn; · cases hn
    subst hn
    exact aw_b (fun w => lv_iand X.1 X.2.1 hd w) (fun st q => hk _ _ _ _ q) q
  case ior =>
    rcases hn with hn | hn; · cases hn
    subst hn
    exact aw_b (fun w => lv_ior X.1 X.2.1 hd w) (fun st q => hk _ _ _ _ q) q
  case ixor =>
    rcases hn with hn | hn; · cases hn
    subst hn
    exact aw_b (fun w => lv_ixor X.1 X.2.1 hd w) (fun st q => hk _ _ _ _ q) q
  case ishl =>
    rcases hn with hn | hn; · cases hn
    subst hn
    exact aw_b (fun w => lv_ishl X.1 X.2.1 hd w) (fun st q => hk _ _ _ _ q) q
  case ishr =>
    rcases hn with hn | hn; · cases hn
    subst hn
    exact aw_b (fun w => lv_ishr X.1 X.2.1 hd w) (fun st q => hk _ _ _ _ q) q
  case idiv =>
    rcases hn with hn | hn; · cases hn
    subst hn
    exact aw_bd (fun hy w => lv_idiv X.1 X.2.1 hd hy w) (fun st q => hk _ _ _ _ q) q
  case irem =>
    rcases hn with hn | hn; · cases hn
    subst hn
    exact aw_bd (fun hy w => lv_irem X.1 X.2.1 hd hy w) (fun st q => hk _ _ _ _ q) q
  case ineg =>
    rcases hn with hn | hn; · cases hn
    subst hn
    exact aw_u (fun w => lv_ineg X.1 X.2.1 hd w) (fun st q => hk _ _ _ _ q) q
  case i2b =>
    rcases hn with hn | hn; · cases hn
    subst hn
    exact aw_u (fun w => lv_i2b X.1 X.2.1 hd rfl w) (fun st q => hk _ _ _ _ q) q
  case i2s =>
    rcases hn with hn | hn; · cases hn
    subst hn
    exact aw_u (fun w => lv_i2s X.1 X.2.1 hd rfl w) (fun st q => hk _ _ _ _ q) q
  case i2c =>
    rcases hn with hn | hn; · cases hn
    subst hn
    exact aw_u (fun w => lv_i2c X.1 X.2.1 hd rfl w) (fun st q => hk _ _ _ _ q) q
  case ladd =>
    rcases hn with hn | hn; · cases hn
    subst hn
    exact aw_B (fun w => lv_ladd X.1 X.2.1 hd w) (fun st q => hk _ _ _ _ q) q
  case lsub =>
    rcases hn with hn | hn; · cases hn
    subst hn
    exact aw_B (fun w => lv_lsub X.1 X.2.1 hd w) (fun st q => hk _ _ _ _ q) q
  case lmul =>
    rcases hn with hn | hn; · cases hn
    subst hn
    exact aw_B (fun w => lv_lmul X.1 X.2.1 hd w) (fun st q => hk _ _ _ _ q) q
  case land =>
    rcases hn with hn | hn; · cases hn
    subst hn
    exact aw_B (fun w => lv_land X.1 X.2.1 hd w) (fun st q => hk _ _ _ _ q) q
  case lor =>
    rcases hn with hn | hn; · cases hn
    subst hn
    exact aw_B (fun w => lv_lor X.1 X.2.1 hd w) (fun st q => hk _ _ _ _ q) q
  case ldiv =>
    rcases hn with hn | hn; · cases hn
    subst hn
    exact aw_Bd (fun hy w => lv_ldiv X.1 X.2.1 hd hy w) (fun st q => hk _ _ _ _ q) q
  case lrem =>
    rcases hn with hn | hn; · cases hn
    subst hn
    exact aw_Bd (fun hy w => lv_lrem X.1 X.2.1 hd hy w) (fun st q => hk _ _ _ _ q) q
  case lshl =>
    rcases hn with hn | hn; · cases hn
    subst hn
    exact aw_Bs (fun w => lv_lshl X.1 X.2.1 hd rfl w) (fun st q => hk _ _ _ _ q) q
  case lshr =>
    rcases hn with hn | hn; · cases hn
    subst hn
    exact aw_Bs (fun w => lv_lshr X.1 X.2.1 hd rfl w) (fun st q => hk _ _ _ _ q) q
  case lushr =>
    rcases hn with hn | hn; · cases hn
    subst hn
    exact aw_Bs (fun w => lv_lushr X.1 X.2.1 hd rfl w) (fun st q => hk _ _ _ _ q) q
  case lcmp =>
    rcases hn with hn | hn; · cases hn
    subst hn
    exact aw_cmp (fun w => W.lcmp X.1 X.2.1 hd w) (fun st q => hk _ _ _ _ q) q
  case lneg =>
    rcases hn with hn | hn; · cases hn
    subst hn
    dsimp only [stp] at q
    split at q
    · rename_i x t
      exact aw_1 (v := .long x) (w := .long (-x)) (fun _ => rfl) (fun _ => rfl) (fun _ => trivial) (fun w => lv_lneg X.1 X.2.1 hd w) (hk _ _ _ _ q)
    · cases q
  case i2l =>
    rcases hn with hn | hn; · cases hn
    subst hn
    dsimp only [stp] at q
    split at q
    · rename_i x t
      exact aw_1 (v := .int x) (w := .long x.toInt64) (fun _ => rfl) (fun _ => rfl) (fun _ => trivial) (fun w => lv_i2l X.1 X.2.1 hd rfl w) (hk _ _ _ _ q)
    · cases q
  case l2i =>
    rcases hn with hn | hn; · cases hn
    subst hn
    dsimp only [stp] at q
    split at q
    · rename_i x t
      exact aw_1 (v := .long x) (w := .int x.toInt32) (fun _ => rfl) (fun _ => rfl) (fun _ => trivial) (fun w => lv_l2i X.1 X.2.1 hd rfl w) (hk _ _ _ _ q)
    · cases q
  case l2f =>
    rcases hn with hn | hn; · cases hn
    subst hn
    dsimp only [stp] at q
    split at q
    · rename_i x t
      exact aw_1 (v := .long x) (w := .float (FP.l2f x)) (fun _ => rfl) (fun _ => rfl) (fun _ => trivial) (fun w => lv_l2f X.1 X.2.1 hd w) (hk _ _ _ _ q)
    · cases q
  case f2l =>
    rcases hn with hn | hn; · cases hn
    subst hn
    dsimp only [stp] at q
    split at q
    · rename_i x t
      exact aw_1 (v := .float x) (w := .long (FP.f2l x)) (fun _ => rfl) (fun _ => rfl) (fun _ => trivial) (fun w => lv_f2l X.1 X.2.1 hd w) (hk _ _ _ _ q)
    · cases q
  case l2d =>
    rcases hn with hn | hn; · cases hn
    subst hn
    dsimp only [stp] at q
    split at q
    · rename_i x t
      exact aw_1 (v := .long x) (w := .double (FP.l2d x)) (fun _ => rfl) (fun _ => rfl) (fun _ => trivial) (fun w => lv_l2d X.1 X.2.1 hd w) (hk _ _ _ _ q)
    · cases q
  case d2l =>
    rcases hn with hn | hn; · cases hn
    subst hn
    dsimp only [stp] at q
    split at q
    · rename_i x t
      exact aw_1 (v := .double x) (w := .long (FP.d2l x)) (fun _ => rfl) (fun _ => rfl) (fun _ => trivial) (fun w => lv_d2l X.1 X.2.1 hd w) (hk _ _ _ _ q)
    · cases q
  case dup =>
    rcases hn with hn | hn; · cases hn
    subst hn
    dsimp only [stp] at q
    split at q
    · rename_i x t
      exact aw_stk (st := .int x :: t) (st' := .int x :: .int x :: t) (fun _ w => ⟨w.1, w⟩) (fun φ {_ _ _ _ _} w => lv_dup (va := .int x) X.1 X.2.1 hd rfl w) (hk _ _ _ _ q)
    · rename_i x t
      exact aw_stk (st := .ref x :: t) (st' := .ref x :: .ref x :: t) (fun _ w => ⟨w.1, w⟩) (fun φ {_ _ _ _ _} w => lv_dup (va := .ref (φ x)) X.1 X.2.1 hd rfl w) (hk _ _ _ _ q)
    · cases q
  case dup_x1 =>
    rcases hn with hn | hn; · cases hn
    subst hn
    dsimp only [stp] at q
    split at q
    · rename_i x y t
      exact aw_stk (st := .int x :: .ref y :: t) (st' := .int x :: .ref y :: .int x :: t) (fun _ w => ⟨w.1, w.2.1, w.1, w.2.2⟩) (fun φ {_ _ _ _ _} w => lv_dup_x1 (va := .int x) (vb := .ref (φ y)) X.1 X.2.1 hd rfl rfl w) (hk _ _ _ _ q)
    · rename_i x y t
      exact aw_stk (st := .ref x :: .ref y :: t) (st' := .ref x :: .ref y :: .ref x :: t) (fun _ w => ⟨w.1, w.2.1, w.1, w.2.2⟩) (fun φ {_ _ _ _ _} w => lv_dup_x1 (va := .ref (φ x)) (vb := .ref (φ y)) X.1 X.2.1 hd rfl rfl w) (hk _ _ _ _ q)
    · cases q
  case dup2 =>
    rcases hn with hn | hn; · cases hn
    subst hn
    dsimp only [stp] at q
    split at q
    · rename_i x y t
      exact aw_stk (st := .int x :: .ref y :: t) (st' := .int x :: .ref y :: .int x :: .ref y :: t) (fun _ w => ⟨w.1, w.2.1, w⟩) (fun φ {_ _ _ _ _} w => lv_dup2_11 (va := .int x) (vb := .ref (φ y)) X.1 X.2.1 hd rfl rfl w) (hk _ _ _ _ q)
    · rename_i x y t
      exact aw_stk (st := .int x :: .int y :: t) (st' := .int x :: .int y :: .int x :: .int y :: t) (fun _ w => ⟨w.1, w.2.1, w⟩) (fun φ {_ _ _ _ _} w => lv_dup2_11 (va := .int x) (vb := .int y) X.1 X.2.1 hd rfl rfl w) (hk _ _ _ _ q)
    · rename_i x t
      exact aw_stk (st := .long x :: t) (st' := .long x :: .long x :: t) (fun _ w => ⟨w.1, w⟩) (fun φ {_ _ _ _ _} w => lv_dup2_2 (va := .long x) X.1 X.2.1 hd rfl w) (hk _ _ _ _ q)
    · cases q
  case pop =>
    rcases hn with hn | hn; · cases hn
    subst hn
    dsimp only [stp] at q
    split at q
    · rename_i x t
      exact aw_stk (st := .int x :: t) (st' := t) (fun _ w => w.2) (fun φ {_ _ _ _ _} w => lv_pop (va := .int x) X.1 X.2.1 hd rfl w) (hk _ _ _ _ q)
    · rename_i x t
      exact aw_stk (st := .ref x :: t) (st' := t) (fun _ w => w.2) (fun φ {_ _ _ _ _} w => lv_pop (va := .ref (φ x)) X.1 X.2.1 hd rfl w) (hk _ _ _ _ q)
    · cases q
  case goto f =>
    rcases hn with hn | hn; · cases hn
    subst hn
    exact aw_jump (fun w => lv_goto X.1 X.2.1 hd (of_decide_eq_true hw) w) (hk _ _ _ _ q)
  case ifCond cn f =>
    rcases hn with hn | hn; · cases hn
    subst hn
    exact aw_if0 X hd (of_decide_eq_true hw) (fun t q => hk _ _ _ _ q) (fun t q => hk _ _ _ _ q) q
  case if_icmp cn f =>
    rcases hn with hn | hn; · cases hn
    subst hn
    exact aw_if2 X hd (of_decide_eq_true hw) (fun t q => hk _ _ _ _ q) (fun t q => hk _ _ _ _ q) q
  case if_acmp cn f =>
    rcases hn with hn | hn; · cases hn
    subst hn
    cases cn
    · exact aw_acmp X (fun a b => lv_acmp_eq X.1 X.2.1 hd (of_decide_eq_true hw) a b) (fun t q => hk _ _ _ _ q) (fun t q => hk _ _ _ _ q) q
    · exact aw_acmp X (fun a b => lv_acmp_ne X.1 X.2.1 hd (of_decide_eq_true hw) b a) (fun t q => hk _ _ _ _ q) (fun t q => hk _ _ _ _ q) q
  case tableswitch f lw hi os =>
    have hw' : (decide ((pc : Int) + f = (ra : Int)) && decide (hi = lw + os.size - 1) && swB pc (tbl0 lw os.toList) tb) = true := hw
    rw [Bool.and_eq_true, Bool.and_eq_true, decide_eq_true_eq, decide_eq_true_eq] at hw'
    obtain ⟨⟨h1, h2⟩, h3⟩ := hw'
    dsimp only [stp] at q
    split at q
    · rename_i x t
      refine aw_look X h3 h1 (fun {H locs cells slots ls rest t} ht w => ?_) (fun t q => hk _ _ _ _ q) q
      obtain ⟨g1, g2⟩ := tbl_off (dl := f) os.toList lw x.toInt
      by_cases hin : x.toInt < lw ∨ hi < x.toInt
      · rw [g1 (by rw [Array.length_toList]; omega)] at ht
        exact lv_tableOut X.1 X.2.1 hd hin ht w
      · refine lv_tableIn X.1 X.2.1 hd (fun q => hin (Or.inl q)) (fun q => hin (Or.inr q)) (off := Op.lookupswitch.offset (tbl0 lw os.toList) f x.toInt) ?_ ht w
        rw [← Array.getElem?_toList]
        exact g2 (by omega) (by rw [Array.length_toList]; omega)
    · cases q
  case lookupswitch f ps =>
    have hw' : (decide ((pc : Int) + f = (ra : Int)) && (ps.toList.zip (ps.toList.drop 1)).all (fun (a, next) => a.1 < next.1) && swB pc ps.toList tb) = true := hw
    rw [Bool.and_eq_true, Bool.and_eq_true, decide_eq_true_eq] at hw'
    obtain ⟨⟨h1, h2⟩, h3⟩ := hw'
    dsimp only [stp] at q
    split at q
    · rename_i x t
      exact aw_look X h3 h1 (fun {H locs cells slots ls rest t} ht w => lv_lookup X.1 X.2.1 hd h2 rfl ht w) (fun t q => hk _ _ _ _ q) q
    · cases q
  case getfield i =>
    rcases hn with hn | hn; · cases hn
    subst hn
    dsimp only at hw
    rw [Bool.and_eq_true, Bool.and_eq_true, Bool.and_eq_true, Bool.and_eq_true, Bool.and_eq_true, decide_eq_true_eq, decide_eq_true_eq, decide_eq_true_eq, decide_eq_true_eq, decide_eq_true_eq] at hw
    obtain ⟨⟨⟨⟨⟨h1, h2⟩, h3⟩, h4⟩, h5⟩, h6⟩ := hw
    split at h6
    · exact aw_get E X h1 h2 h3 ⟨wB_ok h6, Or.inl rfl⟩ h4 h5 hd (fun st q => hk _ _ _ _ q) q
    · rw [Bool.and_eq_true] at h6
      exact aw_get E X h1 h2 h3 ⟨wB_ok h6.1, Or.inr (wB_ok h6.2)⟩ h4 h5 hd (fun st q => hk _ _ _ _ q) q
  case putfield i =>
    rcases hn with hn | hn; · cases hn
    subst hn
    dsimp only at hw
    rw [Bool.and_eq_true, Bool.and_eq_true, Bool.and_eq_true, Bool.and_eq_true, Bool.and_eq_true, decide_eq_true_eq, decide_eq_true_eq, decide_eq_true_eq, decide_eq_true_eq] at hw
    obtain ⟨⟨⟨⟨⟨h1, h2⟩, h3⟩, h4⟩, h7⟩, h6⟩ := hw
    have h5 := ((G.2.1 ra h1 h2).2.1 rb h3).1
    have hfin : (cT ra rb).2.2.2 = true → meth.name = "<init>" ∧ (cT ra rb).1 = own := by
      intro w
      rw [w, Bool.not_true, Bool.false_or, Bool.and_eq_true, decide_eq_true_eq] at h7
      exact ⟨hini h7.1, h7.2⟩
    split at h6
    · rw [Bool.and_eq_true] at h6
      exact aw_put E X h1 h2 h3 ⟨wB_ok h6.1, Or.inl rfl⟩ (wB_ok h6.2) h5 hfin h4 hd (fun st h q => hk _ _ _ _ q) q
    · rw [Bool.and_eq_true, Bool.and_eq_true] at h6
      exact aw_put E X h1 h2 h3 ⟨wB_ok h6.1.1, Or.inr (wB_ok h6.1.2)⟩ (wB_ok h6.2) h5 hfin h4 hd (fun st h q => hk _ _ _ _ q) q
  case new i =>
    rcases hn with hn | hn; · cases hn
    subst hn
    dsimp only at hw
    rw [Bool.and_eq_true, Bool.and_eq_true, Bool.and_eq_true, Bool.and_eq_true, Bool.and_eq_true, decide_eq_true_eq, decide_eq_true_eq, decide_eq_true_eq] at hw
    obtain ⟨⟨⟨⟨⟨h1, h2⟩, h3⟩, h4⟩, h5⟩, h6⟩ := hw
    subst h3
    obtain ⟨r1, r2⟩ := hroom _ _ _ _ q
    exact aw_new E X h1 h2 (wB_ok h4) (wB_ok h5) (wB_ok h6) (G.2.1 ra h1 h2).1 (G.2.1 ra h1 h2).2.1 hd r1 r2 (hk _ _ _ _ q)
  case newarray t =>
    rcases hn with hn | hn; · cases hn
    subst hn
    dsimp only at hw
    rw [Bool.and_eq_true, Bool.and_eq_true, decide_eq_true_eq, decide_eq_true_eq] at hw
    obtain ⟨⟨h1, h2⟩, h3⟩ := hw
    refine aw_nwa E X h1 h2 (wB_ok h3) hd (fun n hn => ?_) (fun st h q => hk _ _ _ _ q) q
    have q' : o_nwa h ra (fun st h => k (pc + 2) lo st h) st = some o := q
    unfold o_nwa at q'
    split at q'
    · cases hn
      split at q'
      · cases q'
      · split at q'
        · exact hroom _ _ _ _ q'
        · cases q'
    · cases q'
  case anewarray i =>
    rcases hn with hn | hn; · cases hn
    subst hn
    dsimp only at hw
    rw [Bool.and_eq_true] at hw
    refine aw_nwq E X (wB_ok hw.1) (wB0_ok hw.2) hd (fun n hn => ?_) (fun st h q => hk _ _ _ _ q) q
    have q' : o_nwa h 65 (fun st h => k (pc + 3) lo st h) st = some o := q
    unfold o_nwa at q'
    split at q'
    · cases hn
      split at q'
      · cases q'
      · split at q'
        · exact hroom _ _ _ _ q'
        · cases q'
    · cases q'
  case multianewarray i n =>
    rcases hn with hn | hn; · cases hn
    subst hn
    dsimp only at hw
    rw [Bool.and_eq_true, Bool.and_eq_true, Bool.and_eq_true, decide_eq_true_eq] at hw
    obtain ⟨⟨⟨h1, h2⟩, h3⟩, h4⟩ := hw
    subst h1
    refine aw_nwm E X (wB_ok h2) (wB0_ok h3) (wB_ok h4) hd (fun a b r hn => ?_) (fun st h q => hk _ _ _ _ q) q
    subst hn
    have q' : o_nwm h (fun st h => k (pc + 4) lo st h) (.int b :: .int a :: r) = some o := q
    unfold o_nwm at q'
    dsimp only at q'
    split at q'
    · cases q'
    · split at q'
      · exact hroom _ _ _ _ q'
      · cases q'
  case arraylength =>
    rcases hn with hn | hn; · cases hn
    subst hn
    exact aw_len E X hd (fun st q => hk _ _ _ _ q) q
  case iaload =>
    rcases hn with hn | hn; · cases hn
    subst hn
    exact aw_ali (t := 60) E X (by omega) (by omega) (by omega) (fun h1 h2 h3 h4 h5 w => W.iald X.1 X.2.1 h1 h2 h3 h4 h5 rfl rfl hd w) (fun st q => hk _ _ _ _ q) q
  case caload =>
    rcases hn with hn | hn; · cases hn
    subst hn
    exact aw_ali (t := 62) E X (by omega) (by omega) (by omega) (fun h1 h2 h3 h4 h5 w => W.cald X.1 X.2.1 h1 h2 h3 h4 h5 rfl rfl hd w) (fun st q => hk _ _ _ _ q) q
  case baload =>
    rcases hn with hn | hn; · cases hn
    subst hn
    dsimp only at hw
    rw [Bool.or_eq_true, decide_eq_true_eq, decide_eq_true_eq] at hw
    rcases hw with rfl | rfl
    · exact aw_ali (t := 63) E X (by omega) (by omega) (by omega) (fun h1 h2 h3 h4 h5 w => W.zald X.1 X.2.1 h1 h2 h3 h4 h5 rfl rfl hd w) (fun st q => hk _ _ _ _ q) q
    · exact aw_ali (t := 64) E X (by omega) (by omega) (by omega) (fun h1 h2 h3 h4 h5 w => W.bald X.1 X.2.1 h1 h2 h3 h4 h5 rfl rfl hd w) (fun st q => hk _ _ _ _ q) q
  case laload =>
    rcases hn with hn | hn; · cases hn
    subst hn
    exact aw_all E X hd (fun st q => hk _ _ _ _ q) q
  case aaload =>
    rcases hn with hn | hn; · cases hn
    subst hn
    dsimp only at hw
    rw [Bool.or_eq_true, decide_eq_true_eq, decide_eq_true_eq] at hw
    exact aw_ala E X hw hd (fun st q => hk _ _ _ _ q) q
  case iastore =>
    rcases hn with hn | hn; · cases hn
    subst hn
    exact aw_asi (t := 60) E X (Or.inl rfl) (fun h1 h2 h3 h4 w => W.iast X.1 X.2.1 h1 h2 h3 h4 rfl rfl hd w) (fun st h q => hk _ _ _ _ q) q
  case castore =>
    rcases hn with hn | hn; · cases hn
    subst hn
    exact aw_asi (t := 62) E X (Or.inr (Or.inl rfl)) (fun h1 h2 h3 h4 w => W.cast X.1 X.2.1 h1 h2 h3 h4 rfl rfl hd w) (fun st h q => hk _ _ _ _ q) q
  case bastore =>
    rcases hn with hn | hn; · cases hn
    subst hn
    exact aw_asi (t := 63) E X (Or.inr (Or.inr rfl)) (fun h1 h2 h3 h4 w => W.zast X.1 X.2.1 h1 h2 h3 h4 rfl rfl hd w) (fun st h q => hk _ _ _ _ q) q
  case lastore =>
    rcases hn with hn | hn; · cases hn
    subst hn
    exact aw_asl E X hd (fun st h q => hk _ _ _ _ q) q
  case aastore =>
    rcases hn with hn | hn; · cases hn
    subst hn
    exact aw_asa E X hcastO hd (fun st h q => hk _ _ _ _ q) q
  case checkcast i =>
    rcases hn with hn | hn; · cases hn
    subst hn
    dsimp only at hw
    rw [Bool.and_eq_true, Bool.and_eq_true, decide_eq_true_eq, decide_eq_true_eq] at hw
    dsimp only [stp] at q
    split at q
    · split at q
      · rename_i hx
        exact aw_cast E X hw.1.1 hw.1.2 (wB_ok hw.2) hx hd (hk _ _ _ _ q)
      · cases q
    · cases q
  case invokevirtual i =>
    rcases hn with hn | hn; · cases hn
    subst hn
    match rc, hw, q with
    | 0, hw, q =>
      dsimp only at hw
      rw [Bool.and_eq_true, Bool.and_eq_true, Bool.and_eq_true, Bool.and_eq_true, Bool.and_eq_true, decide_eq_true_eq] at hw
      obtain ⟨⟨⟨⟨⟨h1, h2⟩, h3⟩, h4⟩, h5⟩, h6⟩ := hw
      subst h1
      dsimp only [stp] at q
      split at q
      · split at q
        · rename_i hx
          exact aw_gcl E X hx.1 (by omega) hn0 (by rw [hφ0 62 (by omega)]; exact G.2.2.2.2.2) (wB_ok h2) (wB0_ok h3) (wB_ok h4) (wB_ok h5) (wB_ok h6) hfr (by have := hx.2; omega) hd (hk _ _ _ _ q)
        · cases q
      · cases q
    | c0 + 1, hw, q =>
      dsimp only at hw
      rw [Bool.and_eq_true, decide_eq_true_eq] at hw
      obtain ⟨h1, h2⟩ := hw
      obtain ⟨g1, g2, -, g4, -⟩ := G.1 ra (by rw [h1]; show 1 ≤ 2; decide)
      obtain ⟨f1, f2, f3, f4⟩ := g4 (by rw [h1])
      rw [h1] at f1 f2 f4 g2
      exact aw_inv E X f1 f2 g1 (wB_ok h2) f3 f4 g2 hφ0 hn0 hR1 hR2 hd (fun as o' w => hcall _ _ _ _ w) (fun st h q => hk _ _ _ _ q) (fun st h q => hroom _ _ _ _ q) q
  case invokestatic i =>
    rcases hn with hn | hn; · cases hn
    subst hn
    match rc, hw, q with
    | 0, hw, q =>
      dsimp only at hw
      rw [Bool.and_eq_true, decide_eq_true_eq] at hw
      obtain ⟨h1, h2⟩ := hw
      obtain ⟨g1, g2, g3, -, -⟩ := G.1 ra (by rw [h1]; show 0 ≤ 2; decide)
      have f3 := g3 (by rw [h1])
      rw [h1] at g2
      exact aw_ins E X g1 (wB_ok h2) f3 g2 hφ0 hn0 hR1 hR2 hd (fun as o' w => hcall _ _ _ _ w) (fun st h q => hk _ _ _ _ q) (fun st h q => hroom _ _ _ _ q) q
    | c0 + 1, hw, q =>
      dsimp only at hw
      rw [Bool.and_eq_true, Bool.and_eq_true, Bool.and_eq_true, Bool.and_eq_true, Bool.or_eq_true, Bool.or_eq_true, decide_eq_true_eq, decide_eq_true_eq, decide_eq_true_eq] at hw
      obtain ⟨⟨⟨⟨h1, h2⟩, h3⟩, h4⟩, h5⟩ := hw
      exact aw_cpy E X (by omega) hcastO (wB_ok h2) (wB_ok h3) (wB_ok h4) (wB_ok h5) hd hfr (Nat.le_trans nat_words hlo1) (fun st h q => hk _ _ _ _ q) q
  case invokespecial i =>
    rcases hn with hn | hn; · cases hn
    subst hn
    match rc, hw, q with
    | 0, hw, q =>
      have hw : (wP (.methodLink own i objectInit) && wP (.instanceMethod objectInit) && wP (.code objectInit ⟨#[0xb1]⟩ 1 none)) = true := hw
      rw [Bool.and_eq_true, Bool.and_eq_true] at hw
      dsimp only [stp] at q
      split at q
      · rename_i x t _
        by_cases hsz : Nat.ble (vsz t) 20 = true
        case neg => rw [Bool.eq_false_iff.mpr hsz] at q; cases q
        rw [hsz] at q
        have hsz' : vsz t ≤ 20 := Nat.le_of_ble_eq_true hsz
        intro φ H locs ls a1 a2 a3 a4 a5 a6 a7 a8
        exact W.objInit X.1 X.2.1 X.2.2.2.1 (E.w hW (wB_ok hw.1.1) args) (E.w hW (wB_ok hw.1.2) args) (E.w hW (wB_ok hw.2) args) rfl (by rw [X.2.2.1]; exact a4.1) rfl hd hfr (by rw [vsz_cat]; show 2 * 0 + vsz t + 12 ≤ _; omega) (hk _ _ _ _ q φ H locs ls a1 a2 a3 a4 a5.2 a6 a7 a8)
      · cases q
    | 1, hw, q =>
      have hw : (decide (mK ra = (2, 0, rb)) && wP (.methodLink own i (mY ra))) = true := hw
      rw [Bool.and_eq_true, decide_eq_true_eq] at hw
      obtain ⟨h1, h2⟩ := hw
      obtain ⟨g1, g2, -, -, g5⟩ := G.1 ra (by rw [h1]; show 2 ≤ 2; decide)
      obtain ⟨f1, f2, f3⟩ := g5 (by rw [h1])
      rw [h1] at g2
      exact aw_ctor E X g1 f3 f2 (Or.inl (wB_ok h2)) f1 g2 hφ0 hn0 hR1 hR2 hd (fun as o' w => hcall _ _ _ _ w) (fun st h q => hk _ _ _ _ q) (fun st h q => hroom _ _ _ _ q) q
    | c0 + 2, hw, q =>
      have hw : (decide (mK ra = (2, 0, rb)) && wP0 (.methodLinkNest own i (mY ra) "PostRoom")) = true := hw
      rw [Bool.and_eq_true, decide_eq_true_eq] at hw
      obtain ⟨h1, h2⟩ := hw
      obtain ⟨g1, g2, -, -, g5⟩ := G.1 ra (by rw [h1]; show 2 ≤ 2; decide)
      obtain ⟨f1, f2, f3⟩ := g5 (by rw [h1])
      rw [h1] at g2
      exact aw_ctor E X g1 f3 f2 (Or.inr ⟨_, wB0_ok h2⟩) f1 g2 hφ0 hn0 hR1 hR2 hd (fun as o' w => hcall _ _ _ _ w) (fun st h q => hk _ _ _ _ q) (fun st h q => hroom _ _ _ _ q) q
  case ireturn =>
    rcases hn with hn | hn; · cases hn
    subst hn
    have q' : o_ret h ra st = some o := q
    have hw' : rtB rt ra = true := hw
    unfold o_ret at q'
    split at q'
    · rename_i v
      unfold rtB at hw'
      split at hw'
      · exact hret.1 _ _ _ _ hd ⟨_, rfl, rfl⟩ (Option.some.inj q').symm
      · have q' : (if v = 0 ∨ v = 1 then some (some (Value.int v), h) else none) = some o := q'
        split at q'
        · rename_i hv
          refine hret.1 _ _ _ _ hd ⟨_, rfl, ?_⟩ (Option.some.inj q').symm
          rcases hv with rfl | rfl <;> decide
        · cases q'
      · have q' : (if narrow .char (.int v) = .int v then some (some (Value.int v), h) else none) = some o := q'
        split at q'
        · rename_i hv
          exact hret.1 _ _ _ _ hd ⟨_, rfl, hv⟩ (Option.some.inj q').symm
        · cases q'
      · have q' : (if narrow .byte (.int v) = .int v then some (some (Value.int v), h) else none) = some o := q'
        split at q'
        · rename_i hv
          exact hret.1 _ _ _ _ hd ⟨_, rfl, hv⟩ (Option.some.inj q').symm
        · cases q'
      · cases hw'
    · cases q'
  case lreturn =>
    rcases hn with hn | hn; · cases hn
    subst hn
    dsimp only [stp] at q
    split at q
    · exact hret.2.1 _ _ _ _ hd (of_decide_eq_true hw) (Option.some.inj q).symm
    · cases q
  case areturn =>
    rcases hn with hn | hn; · cases hn
    subst hn
    dsimp only [stp] at q
    split at q
    · exact hret.2.2.1 _ _ _ _ hd hw (Option.some.inj q).symm
    · cases q
  case return_ =>
    rcases hn with hn | hn; · cases hn
    subst hn
    dsimp only [stp] at q
    split at q
    · exact hret.2.2.2 _ _ _ hd (of_decide_eq_true hw) (Option.some.inj q).symm
    · cases q
  all_goals (have q' : (none : Option Ot) = some o := q; cases q')
end STP
