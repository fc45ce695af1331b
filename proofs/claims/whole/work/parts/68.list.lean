/-! ===== LISTS: what ArrayList does ===== -/
/-- what was there is as it was, but for these: int fields, references, arrays of references, arrays of numbers; there may be new cells -/
def GF (mI mR : Nat → Nat → Prop) (mO mA : Nat → Prop) (h h' : AH) : Prop := (gN h ≤ gN h' ∧ gS h ≤ gS h') ∧ (∀ x, x < gN h → gC h' x = gC h x ∧ gK h' x = gK h x) ∧ (∀ k x, x < gN h → ¬ mI k x → gI h' k x = gI h k x) ∧ (∀ k x, x < gN h → ¬ mI k x → gL h' k x = gL h k x) ∧ (∀ k x, x < gN h → ¬ mR k x → gR h' k x = gR h k x) ∧ (∀ x, x < gN h → ¬ mA x → gA h' x = gA h x ∧ gB h' x = gB h x) ∧ ∀ x, x < gN h → ¬ mO x → gO h' x = gO h x
section GFS
variable {mI mR nI' nR : Nat → Nat → Prop} {mO mA nO nA : Nat → Prop} {h h' h'' : AH}
theorem GF.rfl : GF mI mR mO mA h h := ⟨⟨Nat.le_refl _, Nat.le_refl _⟩, fun _ _ => ⟨Eq.refl _, Eq.refl _⟩, fun _ _ _ _ => Eq.refl _, fun _ _ _ _ => Eq.refl _, fun _ _ _ _ => Eq.refl _, fun _ _ _ => ⟨Eq.refl _, Eq.refl _⟩, fun _ _ _ => Eq.refl _⟩
theorem GF.trans (a : GF mI mR mO mA h h') (b : GF mI mR mO mA h' h'') : GF mI mR mO mA h h'' := by
  obtain ⟨⟨a0, a00⟩, a1, a2, a3, a4, a5, a6⟩ := a
  obtain ⟨⟨b0, b00⟩, b1, b2, b3, b4, b5, b6⟩ := b
  exact ⟨⟨Nat.le_trans a0 b0, Nat.le_trans a00 b00⟩, fun x hx => ⟨(b1 x (by omega)).1.trans (a1 x hx).1, (b1 x (by omega)).2.trans (a1 x hx).2⟩, fun k x hx q => (b2 k x (by omega) q).trans (a2 k x hx q), fun k x hx q => (b3 k x (by omega) q).trans (a3 k x hx q), fun k x hx q => (b4 k x (by omega) q).trans (a4 k x hx q), fun x hx q => ⟨(b5 x (by omega) q).1.trans (a5 x hx q).1, (b5 x (by omega) q).2.trans (a5 x hx q).2⟩, fun x hx q => (b6 x (by omega) q).trans (a6 x hx q)⟩
theorem GF.wk (a : GF mI mR mO mA h h') (w1 : ∀ k x, mI k x → nI' k x) (w2 : ∀ k x, mR k x → nR k x) (w3 : ∀ x, mO x → nO x) (w4 : ∀ x, mA x → nA x) : GF nI' nR nO nA h h' := by
  obtain ⟨a0, a1, a2, a3, a4, a5, a6⟩ := a
  exact ⟨a0, a1, fun k x hx q => a2 k x hx fun w => q (w1 k x w), fun k x hx q => a3 k x hx fun w => q (w1 k x w), fun k x hx q => a4 k x hx fun w => q (w2 k x w), fun x hx q => a5 x hx fun w => q (w4 x w), fun x hx q => a6 x hx fun w => q (w3 x w)⟩
theorem GF.sI {k x : Nat} {v : Int32} (q : mI k x) : GF mI mR mO mA h (sI h k x v) := ⟨⟨Nat.le_refl _, Nat.le_refl _⟩, fun _ _ => ⟨Eq.refl _, Eq.refl _⟩, fun k' x' _ w => by
    show up2 (gI h) k x v k' x' = _
    by_cases e : k' = k
    · rw [e]
      by_cases e2 : x' = x
      · rw [e, e2] at w; exact absurd q w
      · exact up2_x e2
    · rw [up2_k e], fun _ _ _ _ => Eq.refl _, fun _ _ _ _ => Eq.refl _, fun _ _ _ => ⟨Eq.refl _, Eq.refl _⟩, fun _ _ _ => Eq.refl _⟩
theorem GF.sR {k x : Nat} {v : Option Nat} (q : mR k x) : GF mI mR mO mA h (sR h k x v) := ⟨⟨Nat.le_refl _, Nat.le_refl _⟩, fun _ _ => ⟨Eq.refl _, Eq.refl _⟩, fun _ _ _ _ => Eq.refl _, fun _ _ _ _ => Eq.refl _, fun k' x' _ w => by
    show up2 (gR h) k x v k' x' = _
    by_cases e : k' = k
    · rw [e]
      by_cases e2 : x' = x
      · rw [e, e2] at w; exact absurd q w
      · exact up2_x e2
    · rw [up2_k e], fun _ _ _ => ⟨Eq.refl _, Eq.refl _⟩, fun _ _ _ => Eq.refl _⟩
theorem GF.sO {x i : Nat} {v : Option Nat} (q : mO x) : GF mI mR mO mA h (sO h x i v) := ⟨⟨Nat.le_refl _, Nat.le_refl _⟩, fun _ _ => ⟨Eq.refl _, Eq.refl _⟩, fun _ _ _ _ => Eq.refl _, fun _ _ _ _ => Eq.refl _, fun _ _ _ _ => Eq.refl _, fun _ _ _ => ⟨Eq.refl _, Eq.refl _⟩, fun x' _ w => up2_k fun e => w (e ▸ q)⟩
theorem GF.cpO {x y sp dp n : Nat} (q : mO y) : GF mI mR mO mA h (cpO h x sp y dp n) := ⟨⟨Nat.le_refl _, Nat.le_refl _⟩, fun _ _ => ⟨Eq.refl _, Eq.refl _⟩, fun _ _ _ _ => Eq.refl _, fun _ _ _ _ => Eq.refl _, fun _ _ _ _ => Eq.refl _, fun _ _ _ => ⟨Eq.refl _, Eq.refl _⟩, fun x' _ w => up1_x fun e => w (e ▸ q)⟩
theorem GF.nw {c k n : Nat} : GF mI mR mO mA h (nw h c k n) := ⟨⟨Nat.le_succ _, Nat.le_add_right _ _⟩, fun x hx => ⟨up1_x (by omega), up1_x (by omega)⟩, fun j x hx _ => up1_x (f := gI h j) (by omega), fun j x hx _ => up1_x (f := gL h j) (by omega), fun j x hx _ => up1_x (f := gR h j) (by omega), fun x hx _ => ⟨up1_x (by omega), up1_x (by omega)⟩, fun x hx _ => up1_x (by omega)⟩
/-- the array of a new cell is written: no old one -/
theorem gf_cpN {x sp dp n : Nat} (a : GF mI mR mO mA h h') {y : Nat} (hy : gN h ≤ y) : GF mI mR mO mA h (cpO h' x sp y dp n) := by
  obtain ⟨a0, a1, a2, a3, a4, a5, a6⟩ := a
  exact ⟨a0, a1, a2, a3, a4, a5, fun x' hx q => (up1_x (f := gO h') (by omega)).trans (a6 x' hx q)⟩
theorem gf_sON {y i : Nat} {v : Option Nat} (a : GF mI mR mO mA h h') (hy : gN h ≤ y) : GF mI mR mO mA h (sO h' y i v) := by
  obtain ⟨a0, a1, a2, a3, a4, a5, a6⟩ := a
  exact ⟨a0, a1, a2, a3, a4, a5, fun x' hx q => (up2_k (f := gO h') (by omega)).trans (a6 x' hx q)⟩
end GFS
theorem Sh.cpO {h : AH} (a : Sh h) {x y sp dp n : Nat} (hy : y ≠ 107) : Sh (cpO h x sp y dp n) := by
  refine ⟨HH.mk a.c a.k a.r ?_, a.2⟩
  funext x' i'
  have e : oX (gO h) x' i' = gO h x' i' := congrFun (congrFun a.o x') i'
  show oX (up1 (gO h) y (va_cpy (gO h x) (gO h y) sp dp n)) x' i' = up1 (gO h) y (va_cpy (gO h x) (gO h y) sp dp n) x' i'
  by_cases h1 : x' = y
  · unfold oX
    rw [show Nat.beq x' 107 = false from by cases hb : Nat.beq x' 107 with | false => rfl | true => exact absurd (h1 ▸ Nat.eq_of_beq_eq_true hb) hy]
    rfl
  · have : up1 (gO h) y (va_cpy (gO h x) (gO h y) sp dp n) x' = gO h x' := up1_x h1
    unfold oX at e ⊢
    rw [this]; exact e
/-- where a list lies -/
def AO (h : AH) (l e cap : Nat) : Prop := l < gN h ∧ (cap = 0 ∧ e = 61 ∨ 10 ≤ cap ∧ 296 ≤ e ∧ e < gN h) ∧ (inS l = false ∨ rS 257 l = none)
abbrev lI (l : Nat) (k x : Nat) : Prop := x = l ∧ (k = 256 ∨ k = 258)
abbrev lR (l : Nat) (k x : Nat) : Prop := x = l ∧ k = 257
section ALS
variable {d : Nat} {h : AH} {l e cap n : Nat} {f : Nat → Nat}
theorem al_empty (hs : Sh h) (A : Ar h l e cap n f) : E (d + 1) 303 [.ref l] h = some (some (.int (if n = 0 then nI 1 else nI 0)), h) := by
  obtain ⟨a1, a2, a3, a4, a5, a6, a7, a8⟩ := A
  rw [t_303 hs, ck_ok a1, a5]
  simp only [show (nI n = nI 0) = (n = 0) from propext (nI_eq (by omega) (by decide))]
  split <;> rfl
/-- room for one more -/
def ncap (cap : Nat) : Nat := if cap = 0 then 10 else cap + cap / 2
theorem al_grow (hs : Sh h) (A : Ar h l e cap n f) (O : AO h l e cap) (hn : n = cap) (hc : cap < 50000) : ∃ h', E (d + 5) 377 [.ref l] h = some (some (.ref (gN h)), h') ∧ GF (lI l) (lR l) (fun _ => False) (fun _ => False) h h' ∧ Sh h' ∧ gN h' = gN h + 1 ∧ gS h' = gS h + ncap cap ∧ gR h' 257 l = some (gN h) ∧ gC h' (gN h) = 65 ∧ gK h' (gN h) = ncap cap ∧ (∀ i, i < n → gO h' (gN h) i = some (f i)) ∧ gI h' = fun j => up1 (gI h j) (gN h) 0 := by
  obtain ⟨a1, a2, a3, a4, a5, a6, a7, a8⟩ := A
  obtain ⟨o1, o2, o3⟩ := O
  have g := hs.2
  rw [t_377 hs, ck_ok a1, ck_ok a1, a5, nI_add, t_389 hs, ck_ok a1, a2, Option.bind_some, if_pos (by rw [a3]; decide), a4]
  have hsn : ∀ m, Sh (nwA h 65 m) := fun m => hs.nw
  have c1 : ∀ m, gC (nwA h 65 m) l = 1 := fun m => (up1_x (f := gC h) (by omega)).trans a1
  have cN : ∀ m, gC (nwA h 65 m) (gN h) = 65 := fun m => up1_s
  rcases o2 with ⟨r1, r2⟩ | ⟨r1, r2, r3⟩
  · refine ⟨sR (nwA h 65 10) 257 l (some (gN h)), ?_, GF.nw.trans (GF.sR ⟨rfl, rfl⟩), Sh.sR hs.nw o3, rfl, ?_, (show up2 (gR (nwA h 65 10)) 257 l (some (gN h)) 257 l = _ from up2_s), (show up1 (gC h) (gN h) 65 (gN h) = 65 from up1_s), ?_, fun i hi => by omega, rfl⟩
    · rw [r1, if_neg (by decide), ck_ok a1, Option.bind_some, if_pos r2, t_391 hs, hn, r1, if_neg (by decide), cK_v, t_389_52 hs, if_neg (by decide), if_pos (by decide), t_389_55 (hsn _), show ix (nI 10) = 10 from rfl, ck_ok (c1 10), cK_v, t_377_10 ((hsn 10).sR o3)]
    · show gS h + 10 = _
      unfold ncap; rw [if_pos r1]
    · show up1 (gK h) (gN h) 10 (gN h) = _
      rw [up1_s]; unfold ncap; rw [if_pos r1]
  · have nc : ncap cap = cap + cap / 2 := by unfold ncap; rw [if_neg (by omega)]
    have nl : E (d + 3) 400 [.int (nI cap), .int (nI (n + 1) - nI cap), .int ((nI cap) >>> ((nI 1) &&& 31))] h = some (some (.int (nI (cap + cap / 2))), h) := by
      rw [hn, pk_sub (by omega), show cap + 1 - cap = 1 from by omega, show nI cap >>> (nI 1 &&& 31) = nI (cap / 2) from pk_shrN (by omega) _ 1 (by decide), t_400 hs, t_391 hs, if_pos (nI_lt (by omega) (by omega)), cK_v, t_400_6 hs, nI_add, if_pos (nI_lt (by omega) (by omega)), if_neg (nI_nlt (by omega) (by omega))]
    have hNe : gN h ≠ 107 := by omega
    refine ⟨sR (cpO (nwA h 65 (cap + cap / 2)) e 0 (gN h) 0 cap) 257 l (some (gN h)), ?_, (gf_cpN GF.nw (Nat.le_refl _)).trans (GF.sR ⟨rfl, rfl⟩), Sh.sR (Sh.cpO hs.nw hNe) o3, rfl, by rw [nc]; rfl, (show up2 (gR (nwA h 65 (cap + cap / 2))) 257 l (some (gN h)) 257 l = _ from up2_s), (show up1 (gC h) (gN h) 65 (gN h) = 65 from up1_s), (by rw [nc]; exact (show up1 (gK h) (gN h) (cap + cap / 2) (gN h) = _ from up1_s)), fun i hi => ?_, rfl⟩
    · have k0 : gK (nwA h 65 (cap + cap / 2)) e = cap := (up1_x (f := gK h) (by omega)).trans a4
      have k1 : gK (nwA h 65 (cap + cap / 2)) (gN h) = cap + cap / 2 := up1_s
      have ce : gC (nwA h 65 (cap + cap / 2)) e = 65 := (up1_x (f := gC h) (by omega)).trans a3
      rw [if_pos (nI_lt (by omega) (by omega)), nl, cK_v, t_389_30 hs, ck_ok a1, a2, Option.bind_some, t_401 hs, if_pos ⟨a3, by decide⟩, t_402 hs, if_pos rfl, if_neg (nI_pos (by omega)), if_pos (by rw [ix_nI (by omega)]; omega), ix_nI (by omega), t_402_10 (hsn (cap + cap / 2)), if_pos (by rw [ce]; decide), k0, m_min (hsn (cap + cap / 2)) (by omega) (by omega), show min cap (cap + cap / 2) = cap from by omega, cK_v, t_402_35 (hsn (cap + cap / 2)), if_pos ⟨ce, up1_s, by omega, by omega, by decide⟩, if_neg (by
          rintro (w | w | w)
          · exact nI_pos (by omega) w
          · exact absurd w (by decide)
          · exact absurd w (by decide)), ix_nI (show cap < 2 ^ 31 by omega), show ix (nI 0) = 0 from rfl, k0, k1, if_pos (by omega), cK_v, t_401_9 (Sh.cpO (hsn (cap + cap / 2)) hNe), cK_v, t_389_40 (Sh.cpO (hsn (cap + cap / 2)) hNe), ck_ok (show gC (cpO (nwA h 65 (cap + cap / 2)) e 0 (gN h) 0 cap) l = 1 from c1 (cap + cap / 2)), cK_v, t_377_10 (Sh.sR (Sh.cpO (hsn (cap + cap / 2)) hNe) o3)]
    · show up1 (gO (nwA h 65 (cap + cap / 2))) (gN h) (va_cpy (gO (nwA h 65 (cap + cap / 2)) e) _ 0 0 cap) (gN h) i = _
      rw [up1_s, pk_cpy_in (by omega) (by omega), show 0 + (i - 0) = i from by omega]
      show up1 (gO h) (gN h) (fun _ => none) e i = _
      rw [up1_x (by omega)]; exact a8 i hi
theorem al_add (hs : Sh h) (A : Ar h l e cap n f) (O : AO h l e cap) (hc : cap < 50000) {x : Nat} (hx : gC h x ≠ 0 ∧ gC h x < 15) (hxN : x < gN h) : ∃ h' e' cap', E (d + 7) 273 [.ref l, .ref x] h = some (some (.int (nI 1)), h') ∧ Ar h' l e' cap' (n + 1) (up1 f n x) ∧ AO h' l e' cap' ∧ GF (lI l) (lR l) (fun y => y = e ∧ 296 ≤ e) (fun _ => False) h h' ∧ Sh h' ∧ (n < cap ∧ e' = e ∧ cap' = cap ∧ gN h' = gN h ∧ gS h' = gS h ∨ n = cap ∧ e' = gN h ∧ cap' = ncap cap ∧ gN h' = gN h + 1 ∧ gS h' = gS h + ncap cap) := by
  have A0 := A
  have O0 := O
  obtain ⟨a1, a2, a3, a4, a5, a6, a7, a8⟩ := A
  obtain ⟨o1, o2, o3⟩ := O
  have g := hs.2
  have hs1 : Sh (sI h 256 l (gI h 256 l + nI 1)) := hs.sI
  by_cases hn : n = cap
  · obtain ⟨h1, b1, b2, b3, b4, b5, b6, b7, b8, b9, b10⟩ := al_grow (d := d) (h := sI h 256 l (gI h 256 l + nI 1)) hs1 (show Ar (sI h 256 l (gI h 256 l + nI 1)) l e cap n f from ⟨a1, a2, a3, a4, (by show up2 (gI h) 256 l (gI h 256 l + nI 1) 258 l = nI n; rw [up2_k (by decide)]; exact a5), a6, a7, a8⟩) O0 hn hc
    have gN1 : gN (sI h 256 l (gI h 256 l + nI 1)) = gN h := rfl
    rw [gN1] at b1 b4 b6 b7 b8 b9 b10
    have cl1 : gC h1 l = 1 := (b2.2.1 l o1).1.trans a1
    have cx1 : gC h1 x = gC h x := (b2.2.1 x hxN).1
    have nc : ncap cap ≤ 75000 ∧ cap < ncap cap ∧ 10 ≤ ncap cap := by unfold ncap; split <;> omega
    have hNe : gN h ≠ 107 := by omega
    refine ⟨sI (sO h1 (gN h) n (some x)) 258 l (nI n + nI 1), gN h, ncap cap, ?_, ⟨cl1, b6, b7, b8, ?_, by omega, by omega, fun i hi => ?_⟩, ⟨by show l < gN h1; omega, Or.inr ⟨nc.2.2, by omega, by show gN h < gN h1; omega⟩, o3⟩, ?_, (Sh.sO b3 hNe).sI, Or.inr ⟨hn, rfl, rfl, b4, b5⟩⟩
    · rw [t_273 hs, ck_ok a1, ck_ok a1, ck_ok a1, a2, Option.bind_some, ck_ok a1, ck_ok a1, a5, t_347 hs1, show gC (sI h 256 l (gI h 256 l + nI 1)) e = 65 from a3, if_pos (by decide), show gK (sI h 256 l (gI h 256 l + nI 1)) e = cap from a4, if_pos (by rw [hn]), ck_ok (show gC (sI h 256 l (gI h 256 l + nI 1)) l = 1 from a1), b1, cK_v, t_347_10 b3, cw_ok b7 (by omega), if_pos (by rw [cx1]; exact hx), b8, gd_nI (by omega) (by omega), ck_ok cl1, ix_nI (by omega), cK_n, t_273_23 (Sh.sO b3 hNe).sI]
    · show up2 (gI h1) 258 l _ 258 l = _
      rw [up2_s, nI_add]
    · show up2 (gO h1) (gN h) n (some x) (gN h) i = _
      by_cases q : i = n
      · rw [q, up2_s, up1_s]
      · rw [up2_x q, up1_x q]; exact b9 i (by omega)
    · exact ((GF.sI (mI := lI l) ⟨rfl, Or.inl rfl⟩).trans ((gf_sON (b2.wk (fun _ _ w => w) (fun _ _ w => w) (fun _ w => w.elim) (fun _ w => w)) (by rw [gN1]; exact Nat.le_refl _)).trans (GF.sI ⟨rfl, Or.inr rfl⟩)))
  · have he : 10 ≤ cap ∧ 296 ≤ e ∧ e < gN h := o2.resolve_left (by omega)
    have hNe : e ≠ 107 := by omega
    refine ⟨sI (sO (sI h 256 l (gI h 256 l + nI 1)) e n (some x)) 258 l (nI n + nI 1), e, cap, ?_, ⟨a1, a2, a3, a4, ?_, by omega, a7, fun i hi => ?_⟩, O0, ?_, (Sh.sO hs1 hNe).sI, Or.inl ⟨by omega, rfl, rfl, rfl, rfl⟩⟩
    · rw [t_273 hs, ck_ok a1, ck_ok a1, ck_ok a1, a2, Option.bind_some, ck_ok a1, ck_ok a1, a5, t_347 hs1, show gC (sI h 256 l (gI h 256 l + nI 1)) e = 65 from a3, if_pos (by decide), show gK (sI h 256 l (gI h 256 l + nI 1)) e = cap from a4, if_neg (fun w => hn ((nI_eq (by omega) (by omega)).mp w)), cw_ok rfl (by omega), if_pos (show gC (sI h 256 l (gI h 256 l + nI 1)) x ≠ 0 ∧ gC (sI h 256 l (gI h 256 l + nI 1)) x < 15 from hx), gd_nI (by omega) (by omega), ck_ok (show gC (sI h 256 l (gI h 256 l + nI 1)) l = 1 from a1), ix_nI (by omega), cK_n, t_273_23 (Sh.sO hs1 hNe).sI]
    · show up2 _ 258 l _ 258 l = _
      rw [up2_s, nI_add]
    · show up2 (gO h) e n (some x) e i = _
      by_cases q : i = n
      · rw [q, up2_s, up1_s]
      · rw [up2_x q, up1_x q]; exact a8 i (by omega)
    · exact (GF.sI (mI := lI l) ⟨rfl, Or.inl rfl⟩).trans ((GF.sO (mO := fun y => y = e ∧ 296 ≤ e) ⟨rfl, he.2.1⟩).trans (GF.sI ⟨rfl, Or.inr rfl⟩))
/-- the place p is taken out -/
theorem al_remove (hs : Sh h) (A : Ar h l e cap n f) (O : AO h l e cap) {p : Nat} (hp : p < n) : ∃ h', E (d + 4) 256 [.ref l, .int (nI p)] h = some (some (.ref (f p)), h') ∧ Ar h' l e cap (n - 1) (fun i => if i < p then f i else f (i + 1)) ∧ GF (lI l) (lR l) (fun y => y = e ∧ 296 ≤ e) (fun _ => False) h h' ∧ Sh h' ∧ gN h' = gN h ∧ gS h' = gS h := by
  obtain ⟨a1, a2, a3, a4, a5, a6, a7, a8⟩ := A
  obtain ⟨o1, o2, o3⟩ := O
  have he : 10 ≤ cap ∧ 296 ≤ e ∧ e < gN h := o2.resolve_left (by omega)
  have hNe : e ≠ 107 := by omega
  have n1 : nI n - nI 1 = nI (n - 1) := pk_sub (by omega)
  have pre : E (d + 4) 256 [.ref l, .int (nI p)] h = cK (E (d + 3) 309 [.ref l, .ref e, .int (nI p)] h) (Q (d + 3) 256 24 [some (.ref l), some (.int (nI p)), some (.ref e), some (.ref (f p))]) [] := by
    rw [t_256 hs, ck_ok a1, t_267 hs, t_344n hs, a5, if_neg (nI_nlt (by omega) (by omega)), if_pos (nI_lt hp (by omega)), cK_v, t_267_6 hs, cK_v, t_256_8 hs, ck_ok a1, a2, Option.bind_some, ck_ok a3, a4, gd_nI (by omega) (by omega), ix_nI (by omega), a8 p hp, Option.bind_some, ck_ok a1]
  rw [pre, t_309 hs, ck_ok a1, ck_ok a1, ck_ok a1, a5, n1]
  by_cases q : p < n - 1
  · have e1 : nI (n - 1) - nI p = nI (n - 1 - p) := pk_sub (by omega)
    rw [if_pos (nI_lt q (by omega)), if_pos ⟨a3, a3, by omega, by omega, by decide⟩, e1, nI_add, if_neg (by
        rintro (w | w | w)
        · exact nI_pos (by omega) w
        · exact nI_pos (by omega) w
        · exact nI_pos (by omega) w), ix_nI (by omega), ix_nI (by omega), ix_nI (by omega), ix_nI (by omega), a4, if_pos (by omega), ck_ok a1, cw_ok a3 (by omega), gd_nI (by omega) (by omega), cK_n]
    refine ⟨_, t_256_24 (Sh.sO (Sh.sI (Sh.cpO hs.sI hNe)) hNe) _ _ _ _, ⟨a1, a2, a3, a4, ?_, by omega, a7, fun i hi => ?_⟩, ?_, Sh.sO (Sh.sI (Sh.cpO hs.sI hNe)) hNe, rfl, rfl⟩
    · show up2 _ 258 l _ 258 l = _
      rw [up2_s]
    · show up2 (up1 (gO h) e (va_cpy (gO h e) (gO h e) (p + 1) p (n - 1 - p))) e (n - 1) none e i = _
      rw [up2_x (by omega), up1_s]
      show _ = some (if i < p then f i else f (i + 1))
      by_cases hi2 : i < p
      · rw [if_pos hi2, pk_cpy_out (by omega)]; exact a8 i (by omega)
      · rw [if_neg hi2, pk_cpy_in (by omega) (by omega), show p + 1 + (i - p) = i + 1 from by omega]; exact a8 (i + 1) (by omega)
    · exact (GF.sI (mI := lI l) ⟨rfl, Or.inl rfl⟩).trans ((GF.cpO (mO := fun y => y = e ∧ 296 ≤ e) ⟨rfl, he.2.1⟩).trans ((GF.sI ⟨rfl, Or.inr rfl⟩).trans (GF.sO ⟨rfl, he.2.1⟩)))
  · rw [if_neg (nI_nlt (by omega) (by omega)), ck_ok a1, cw_ok a3 (by omega), a4, gd_nI (by omega) (by omega), ix_nI (by omega), cK_n]
    refine ⟨_, t_256_24 (Sh.sO hs.sI.sI hNe) _ _ _ _, ⟨a1, a2, a3, a4, ?_, by omega, a7, fun i hi => ?_⟩, ?_, Sh.sO hs.sI.sI hNe, rfl, rfl⟩
    · show up2 _ 258 l _ 258 l = _
      rw [up2_s]
    · show up2 (gO h) e (n - 1) none e i = _
      rw [up2_x (by omega)]
      show _ = some (if i < p then f i else f (i + 1))
      rw [if_pos (by omega)]; exact a8 i (by omega)
    · exact (GF.sI (mI := lI l) ⟨rfl, Or.inl rfl⟩).trans ((GF.sI ⟨rfl, Or.inr rfl⟩).trans (GF.sO (mO := fun y => y = e ∧ 296 ≤ e) ⟨rfl, he.2.1⟩))
theorem clear_lp (hcap : cap < 100000) (he : 296 ≤ e) : ∀ (m i : Nat) (h : AH), i + m = n → n ≤ cap → Sh h → gC h e = 65 → gK h e = cap → ∃ h', Q d 239 27 [none, some (.ref e), some (.int (nI n)), some (.int (nI i))] [] h = some (none, h') ∧ GF (lI l) (lR l) (fun y => y = e ∧ 296 ≤ e) (fun _ => False) h h' ∧ Sh h' ∧ gN h' = gN h ∧ gS h' = gS h ∧ gI h' = gI h ∧ gR h' = gR h ∧ gC h' = gC h ∧ gK h' = gK h
  | 0, i, h, q, hn, hs, hc, hk => ⟨h, by rw [t_239_27 hs, if_neg (nI_nlt (by omega) (by omega))], GF.rfl, hs, rfl, rfl, rfl, rfl, rfl, rfl⟩
  | m + 1, i, h, q, hn, hs, hc, hk => by
    rw [t_239_27 hs, if_pos (nI_lt (by omega) (by omega)), cw_ok hc (by omega), hk, gd_nI (by omega) (by omega), nI_add]
    obtain ⟨h', b1, b2, b3, b4, b5, b6, b7, b8, b9⟩ := clear_lp hcap he m (i + 1) (sO h e (ix (nI i)) none) (by omega) hn (Sh.sO hs (by omega)) hc hk
    exact ⟨h', b1, (GF.sO (mO := fun y => y = e ∧ 296 ≤ e) ⟨rfl, he⟩).trans b2, b3, b4, b5, b6, b7, b8, b9⟩
theorem al_clear (hs : Sh h) (A : Ar h l e cap n f) (O : AO h l e cap) (g : Nat → Nat) : ∃ h', E (d + 1) 239 [.ref l] h = some (none, h') ∧ Ar h' l e cap 0 g ∧ GF (lI l) (lR l) (fun y => y = e ∧ 296 ≤ e) (fun _ => False) h h' ∧ Sh h' ∧ gN h' = gN h ∧ gS h' = gS h := by
  obtain ⟨a1, a2, a3, a4, a5, a6, a7, a8⟩ := A
  obtain ⟨o1, o2, o3⟩ := O
  have f0 : GF (lI l) (lR l) (fun y => y = e ∧ 296 ≤ e) (fun _ => False) h (sI (sI h 256 l (gI h 256 l + nI 1)) 258 l (nI 0)) := (GF.sI (mI := lI l) ⟨rfl, Or.inl rfl⟩).trans (GF.sI ⟨rfl, Or.inr rfl⟩)
  have pre : E (d + 1) 239 [.ref l] h = Q d 239 27 [none, some (.ref e), some (.int (nI n)), some (.int (nI 0))] [] (sI (sI h 256 l (gI h 256 l + nI 1)) 258 l (nI 0)) := by
    rw [t_239 hs, ck_ok a1, ck_ok a1, ck_ok a1, a2, Option.bind_some, ck_ok a1, ck_ok a1, a5]
  rw [pre]
  by_cases hn : n = 0
  · refine ⟨sI (sI h 256 l (gI h 256 l + nI 1)) 258 l (nI 0), ?_, ⟨a1, a2, a3, a4, ?_, Nat.zero_le _, a7, fun i hi => by omega⟩, f0, hs.sI.sI, rfl, rfl⟩
    · rw [t_239_27 hs.sI.sI, hn, if_neg (by decide)]
    · show up2 _ 258 l _ 258 l = _
      rw [up2_s]
  · have he : 10 ≤ cap ∧ 296 ≤ e ∧ e < gN h := o2.resolve_left (by omega)
    obtain ⟨h', b1, b2, b3, b4, b5, b6, b7, b8, b9⟩ := clear_lp (l := l) (d := d) (n := n) a7 he.2.1 n 0 (sI (sI h 256 l (gI h 256 l + nI 1)) 258 l (nI 0)) (by omega) a6 hs.sI.sI a3 a4
    refine ⟨h', b1, ⟨by rw [b8]; exact a1, by rw [b7]; exact a2, by rw [b8]; exact a3, by rw [b9]; exact a4, ?_, Nat.zero_le _, a7, fun i hi => by omega⟩, f0.trans b2, b3, b4, b5⟩
    rw [b6]
    show up2 _ 258 l _ 258 l = _
    rw [up2_s]
end ALS
