/-! ===== RUNS UP TO A PLACE: where a method throws, where a wrapper calls ===== -/
noncomputable def rnT (call : Cl) (cd : Nat → CI) (P : Nat) (chk : Ls → Vs → AH → Prop) : Nat → Cn
  | 0 => fun _ _ _ _ => none
  | n + 1 => fun pc l st h => bif Nat.beq pc P then @ite _ (chk l st h) (Classical.propDecidable _) (some (some (.double 0), h)) none else stp call (rnT call cd P chk n) (cd pc) pc (mkL l (dd5 (cd pc))) st h
theorem rnT_mo {call : Cl} {cd : Nat → CI} {P : Nat} {chk : Ls → Vs → AH → Prop} {o : Ot} (hc : ∀ y as h o', call y as h = some o' → mo h o') : ∀ (N pc : Nat) (l : Ls) (st : Vs) (h : AH), rnT call cd P chk N pc l st h = some o → mo h o
  | 0, _, _, _, _, q => by cases q
  | N + 1, pc, l, st, h, q => by
    unfold rnT at q
    cases hb : Nat.beq pc P with
    | true =>
      rw [hb] at q
      have q : @ite _ (chk l st h) (Classical.propDecidable _) (some (some (.double 0), h)) none = some o := q
      split at q
      · cases q; exact ⟨Nat.le_refl _, Nat.le_refl _⟩
      · cases q
    | false =>
      rw [hb] at q
      exact stp_mo hc (rnT_mo hc N) q
section UPTO
variable {l : Launch} {z : State} {D : va_G} {dA : Nat → ClassId} {za : Array Value}
variable {mY : Nat → MethodName} {mB : Nat → ByteArray} {mL : Nat → Nat} {mT : Nat → Option FieldType} {mK : Nat → Nat × Nat × Nat} {exS : List (String × Nat × Nat)} {exZ : List (String × String × String × (Int32 ⊕ Nat))} {ext : Nat → Nat}
theorem rnT_ok {p : Program} {e : Env} {R : Room} {s : State} {m : MethodId} {args : Array Value} {below : List Frame} {meth : Method} {c : Code} {Q : State → Prop} {φ0 : Nat → Nat} {n0 s0 nL : Nat} {hE : AH} {own : String} {cc : ByteArray} {d : Nat} {ini : Bool} {rt : Option FieldType} {P : Nat} {chk : Ls → Vs → AH → Prop}
    (G : GL mY mB mL mT mK exS exZ z ext) (E : EV z za D dA) (X : Cx p s m c z own cc nL) (hini : ini = true → meth.name = "<init>") (hφ0 : ∀ x, x < 100 → φ0 x = ext x) (hn0 : 100 ≤ n0) (hR1 : d + 1 ≤ R.frames) (hR2 : 100 * (d + 1) ≤ R.locals) (hRc : gN hE - n0 ≤ R.cells) (hRs : gS hE - s0 ≤ R.slots) {call : Cl} {cd : Nat → CI}
    (hok : ∀ pc, (cd pc).1 = .nop ∨ okB wQ wQ0 mY mK exS exZ own cc nL ini rt pc (cd pc) = true) (hcall : ∀ y as h o', call y as h = some o' → MetA mY mB mL mT l z D dA ext d y as h o') (hmo : ∀ y as h o', call y as h = some o' → mo h o')
    (hP : ∀ lo st, chk lo st hE → AW p l e R s m args below meth c Q z D dA φ0 n0 s0 nL P lo st hE) :
    ∀ (N pc : Nat) (lo : Ls) (st : Vs) (h : AH), rnT call cd P chk N pc lo st h = some (some (.double 0), hE) → AW p l e R s m args below meth c Q z D dA φ0 n0 s0 nL pc lo st h
  | 0, _, _, _, _, q => by cases q
  | N + 1, pc, lo, st, h, q => by
    unfold rnT at q
    cases hb : Nat.beq pc P with
    | true =>
      rw [hb] at q
      have q : @ite (Option Ot) (chk lo st h) (Classical.propDecidable _) (some (some (.double 0), h)) none = some (some (.double 0), hE) := q
      split at q
      · rename_i hc
        cases q
        rw [Nat.eq_of_beq_eq_true hb]
        exact hP lo st hc
      · cases q
    | false =>
      rw [hb] at q
      have q' : stp call (rnT call cd P chk N) (cd pc) pc (mkL lo (dd5 (cd pc))) st h = some (some (.double 0), hE) := q
      rcases hok pc with hn | hw
      · rw [stp_nop hn] at q'
        cases q'
      · refine aw_mk (stp_ok wQ_ok wQ0_ok G E X hini hφ0 hn0 hR1 hR2 hw hcall (rnT_ok G E X hini hφ0 hn0 hR1 hR2 hRc hRs hok hcall hmo hP N) (fun pc lo st h w => ?_) ?_ q')
        · have := rnT_mo hmo N pc lo st h w
          exact ⟨by have := this.1; dsimp only at this; omega, by have := this.2; dsimp only at this; omega⟩
        · exact ⟨fun _ _ _ _ _ _ e => (by cases e), fun _ _ _ _ _ _ e => (by cases e), fun _ _ _ _ _ _ e => (by cases e), fun _ _ _ _ _ e => (by cases e)⟩
end UPTO
/-- a larger heap holds what the smaller held -/
theorem HR.grow {z : State} {D : va_G} {dA : Nat → ClassId} {φ : Nat → Nat} {h : AH} {H H' : Heap} (a : HR z D dA φ h H) (hz : H.size ≤ H'.size) (hq : ∀ q : Nat, q < H.size → H'[q]? = H[q]?) : HR z D dA φ h H' := by
  obtain ⟨b1, b2, b3, b4, b5, b6, b7, b8, b9, b10⟩ := a
  refine ⟨Nat.le_trans b1 hz, fun q w => (hq q (by omega)).trans (b2 q w), b3, b4, fun x hx => Nat.lt_of_lt_of_le (b5 x hx) hz, b6, fun x hx => ⟨(b7 x hx).1, ?_⟩, b8, b9, b10⟩
  exact (b7 x hx).2.kept rfl (hq _ (b5 x hx)) rfl rfl (fun c j => rfl) (fun c j => rfl)
/-- a cell of which nothing is known: a new id without a class, at any address -/
theorem HR.blind {z : State} {D : va_G} {dA : Nat → ClassId} {φ : Nat → Nat} {h : AH} {H : Heap} (a : HR z D dA φ h H) (n q : Nat) : HR z D dA (up1 φ (gN h) q) (nw h 0 0 n) H := by
  obtain ⟨b1, b2, b3, b4, b5, b6, b7, b8, b9, b10⟩ := id a
  have hC : ∀ x, gC (nw h 0 0 n) x ≠ 0 → x < gN h ∧ gC h x ≠ 0 ∧ gC (nw h 0 0 n) x = gC h x := by
    intro x hx
    have e : gC (nw h 0 0 n) x = if x = gN h then 0 else gC h x := rfl
    rw [e] at hx ⊢
    by_cases w : x = gN h
    · rw [if_pos w] at hx; exact absurd rfl hx
    · rw [if_neg w] at hx ⊢
      exact ⟨(b7 x hx).1, hx, rfl⟩
  have hφ : ∀ x, x < gN h → up1 φ (gN h) q x = φ x := fun x hx => if_neg (by omega)
  refine ⟨b1, b2, by show 100 ≤ gN h + 1; omega, fun x y ho hx hy w => ?_, fun x hx => ?_, fun x h1 hx => ?_, fun x hx => ?_, fun k x y hx w => ?_, fun x i y hx w => ?_, ?_⟩
  · obtain ⟨c1, c2, -⟩ := hC x hx
    obtain ⟨d1, d2, -⟩ := hC y hy
    rw [hφ x c1, hφ y d1] at w
    exact b4 x y ho c2 d2 w
  · obtain ⟨c1, c2, -⟩ := hC x hx
    rw [hφ x c1]
    exact b5 x c2
  · obtain ⟨c1, c2, -⟩ := hC x hx
    rw [hφ x c1]
    exact b6 x h1 c2
  · obtain ⟨c1, c2, c3⟩ := hC x hx
    refine ⟨by show x < gN h + 1; omega, (b7 x c2).2.kept (hφ x c1) rfl c3 (if_neg (by omega)) (fun c j => fV_eq (if_neg (by omega)) (if_neg (by omega)) ?_) (fun c j => eV_eq (congrFun (if_neg (by omega)) j) (congrFun (if_neg (by omega)) j) ?_)⟩
    · rw [show gR (nw h 0 0 n) (256 * c + j) x = gR h (256 * c + j) x from if_neg (by omega)]
      exact opt_map_eq hφ (fun y hy => b8 _ x y c1 hy)
    · rw [show gO (nw h 0 0 n) x j = gO h x j from congrFun (if_neg (by omega)) j]
      exact opt_map_eq hφ (fun y hy => (b9 x _ y c1 hy).1)
  · have w' : (if x = gN h then none else gR h k x) = some y := w
    by_cases e : x = gN h
    · rw [if_pos e] at w'; cases w'
    · rw [if_neg e] at w'
      have := b8 k x y (by have : x < gN h + 1 := hx; omega) w'
      show y < gN h + 1
      omega
  · have w' : (if x = gN h then (fun _ => none) else gO h x) i = some y := w
    by_cases e : x = gN h
    · rw [if_pos e] at w'; cases w'
    · rw [if_neg e] at w'
      have hx' : x < gN h := by have : x < gN h + 1 := hx; omega
      obtain ⟨g1, g2⟩ := b9 x i y hx' w'
      refine ⟨by show y < gN h + 1; omega, fun hc => ?_⟩
      have hc' : gC h x = 65 := by
        have e2 : gC (nw h 0 0 n) x = gC h x := if_neg e
        rw [← e2]; exact hc
      have e3 : gC (nw h 0 0 n) y = gC h y := if_neg (by omega)
      rw [e3]
      exact g2 hc'
  · have e1 : gC (nw h 0 0 n) 64 = gC h 64 := if_neg (by omega)
    have e2 : gK (nw h 0 0 n) 64 = gK h 64 := if_neg (by omega)
    unfold SI
    rw [e1, e2, hφ 64 (by omega)]
    exact b10
