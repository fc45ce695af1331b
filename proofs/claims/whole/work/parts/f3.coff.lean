/-! ===== THE BOOK: offices (component) ===== -/
/-- new cells from N on: nothing else -/
def NFr (N : Nat) (h h' : AH) : Prop := GF (fun _ x => N ≤ x) (fun _ x => N ≤ x) (fun x => N ≤ x) (fun x => N ≤ x) h h'
section NFS
variable {N : Nat} {h h' h'' : AH}
theorem NFr.rfl : NFr N h h := GF.rfl
theorem NFr.trans (a : NFr N h h') (b : NFr N h' h'') : NFr N h h'' := GF.trans a b
theorem NFr.bf (a : NFr N h h') : BFr N h h' := GF.wk a (fun _ _ w => Or.inl w) (fun _ _ w => w) (fun _ w => w) (fun _ w => w)
theorem NFr.nw {c k n : Nat} (a : NFr N h h') : NFr N h (nw h' c k n) := a.trans GF.nw
theorem NFr.sI (a : NFr N h h') {k x : Nat} {v : Int32} (q : N ≤ x) : NFr N h (sI h' k x v) := a.trans (GF.sI q)
theorem NFr.sR (a : NFr N h h') {k x : Nat} {v : Option Nat} (q : N ≤ x) : NFr N h (sR h' k x v) := a.trans (GF.sR q)
theorem NFr.sL (a : NFr N h h') {k x : Nat} {v : Int64} (q : N ≤ x) : NFr N h (sL h' k x v) := a.trans ⟨⟨Nat.le_refl _, Nat.le_refl _⟩, fun _ _ => ⟨Eq.refl _, Eq.refl _⟩, fun _ _ _ _ => Eq.refl _, fun k' x' _ w => by
    by_cases e : k' = k
    · rw [e]
      by_cases e2 : x' = x
      · exact absurd (e2 ▸ q) w
      · exact up2_x (f := gL h') e2
    · rw [gL_k e], fun _ _ _ _ => Eq.refl _, fun _ _ _ => ⟨Eq.refl _, Eq.refl _⟩, fun _ _ _ => Eq.refl _⟩
theorem NFr.sA (a : NFr N h h') {x i : Nat} {v : Int32} (q : N ≤ x) : NFr N h (sA h' x i v) := a.trans ⟨⟨Nat.le_refl _, Nat.le_refl _⟩, fun _ _ => ⟨Eq.refl _, Eq.refl _⟩, fun _ _ _ _ => Eq.refl _, fun _ _ _ _ => Eq.refl _, fun _ _ _ _ => Eq.refl _, fun x' _ w => ⟨gA_k fun e => w (e ▸ q), Eq.refl _⟩, fun _ _ _ => Eq.refl _⟩
theorem Fr.nf {x : Nat} (f : Fr [] [x] h h') (q : N ≤ x) : NFr N h h' := by
  obtain ⟨a1, a2, a3, a4, a5, a6, a7, a8, a9⟩ := f
  refine ⟨⟨by show h.1.1 ≤ h'.1.1; rw [a1]; exact Nat.le_refl _, by show h.1.2 ≤ h'.1.2; rw [a1]; exact Nat.le_refl _⟩, fun y _ => ⟨by rw [a2], by rw [a3]⟩, fun k y _ _ => by rw [a6 k List.not_mem_nil], fun k y _ _ => by rw [a7 k List.not_mem_nil], fun k y _ _ => by rw [a4], fun y _ w => ?_, fun y _ _ => by rw [a5]⟩
  have ne : y ∉ [x] := fun z => w (by rw [List.mem_singleton.mp z]; exact q)
  exact ⟨by rw [a8 y ne], by rw [a9 y ne]⟩
theorem CPs.nf {b : Nat} {t : Tp} {k : Nat} (C : CPs h b t k) (a : NFr N h h') (hN : gN h ≤ N) (hs : Sh h') (w : HW h') : CPs h' b t k := by
  obtain ⟨c1, c2, c3, c4, c5, c6, c7⟩ := C
  have g := c1.2
  obtain ⟨-, g1, g2, g3, g4, g5, g6⟩ := a
  have hb := c2.lt c6 (by decide)
  refine ⟨hs, w, ⟨fun x h1 h2 h3 => ?_, fun x hx => ?_⟩, ⟨?_, c4.2.1, fun i hi => ?_⟩, ?_, (g1 b hb).1.trans c6, (g4 520 b hb (by omega)).trans c7⟩
  · rw [(g5 x (by omega) (by omega)).1]; exact c3.1 x h1 h2 h3
  · rw [g2 3841 x (by omega) (by omega)]; exact c3.2 x hx
  · rw [g2 3073 101 (by omega) (by omega)]; exact c4.1
  · rw [(g5 102 (by omega) (by omega)).1]; exact c4.2.2 i hi
  · unfold TkC at c5 ⊢
    rw [g2 3076 101 (by omega) (by omega), g2 3077 101 (by omega) (by omega), g3 3078 101 (by omega) (by omega), g2 3074 101 (by omega) (by omega), g2 3075 101 (by omega) (by omega)]; exact c5
end NFS
theorem gR_s {h : AH} {k x : Nat} {v : Option Nat} : gR (sR h k x v) k x = v := up2_s (f := gR h)
theorem gR_k {h : AH} {k k' x : Nat} {v : Option Nat} (e : k' ≠ k) : gR (sR h k x v) k' = gR h k' := up2_k (f := gR h) e
theorem gR_x {h : AH} {k x x' : Nat} {v : Option Nat} (e : x' ≠ x) : gR (sR h k x v) k x' = gR h k x' := up2_x (f := gR h) e
theorem gIR {h : AH} {k x : Nat} {v : Option Nat} : gI (sR h k x v) = gI h := rfl
theorem gLR {h : AH} {k x : Nat} {v : Option Nat} : gL (sR h k x v) = gL h := rfl
theorem gAR {h : AH} {k x : Nat} {v : Option Nat} : gA (sR h k x v) = gA h := rfl
theorem gBR {h : AH} {k x : Nat} {v : Option Nat} : gB (sR h k x v) = gB h := rfl
theorem gRI {h : AH} {k x : Nat} {v : Int32} : gR (sI h k x v) = gR h := rfl
theorem gRL {h : AH} {k x : Nat} {v : Int64} : gR (sL h k x v) = gR h := rfl
theorem gRA {h : AH} {k x : Nat} {v : Int32} : gR (sA h k x v) = gR h := rfl
theorem nw_I {h : AH} {c k n j x : Nat} (e : x ≠ gN h) : gI (nw h c k n) j x = gI h j x := up1_x (f := gI h j) e
theorem nw_I0 {h : AH} {c k n j : Nat} : gI (nw h c k n) j (gN h) = 0 := up1_s (f := gI h j)
theorem nw_L {h : AH} {c k n j x : Nat} (e : x ≠ gN h) : gL (nw h c k n) j x = gL h j x := up1_x (f := gL h j) e
theorem nw_R {h : AH} {c k n j x : Nat} (e : x ≠ gN h) : gR (nw h c k n) j x = gR h j x := up1_x (f := gR h j) e
theorem nw_C {h : AH} {c k n x : Nat} (e : x ≠ gN h) : gC (nw h c k n) x = gC h x := up1_x (f := gC h) e
theorem nw_K {h : AH} {c k n x : Nat} (e : x ≠ gN h) : gK (nw h c k n) x = gK h x := up1_x (f := gK h) e
theorem nw_C0 {h : AH} {c k n : Nat} : gC (nw h c k n) (gN h) = c := up1_s (f := gC h)
theorem nw_K0 {h : AH} {c k n : Nat} : gK (nw h c k n) (gN h) = k := up1_s (f := gK h)
theorem nw_A {h : AH} {c k n x : Nat} (e : x ≠ gN h) : gA (nw h c k n) x = gA h x := up1_x (f := gA h) e
theorem nw_A0 {h : AH} {c k n : Nat} : gA (nw h c k n) (gN h) = fun _ => 0 := up1_s (f := gA h)
/-- a book that is being read -/
def CRd (h : AH) (N0 b : Nat) (t : Tp) (k : Nat) (bk : Bk) (G Cp : Nat → Nat → Nat) : Prop := CPs h b t k ∧ CB h b bk G Cp ∧ CLb h N0 bk G Cp ∧ N0 ≤ b ∧ 296 ≤ N0 ∧ N0 ≤ gN h ∧ N0 ≤ G 16 0 ∧ N0 ≤ G 16 1 ∧ G 16 0 ≠ G 16 1
/-- what a line of the book comes to -/
def SRd (h h' : AH) (N0 b : Nat) (t : Tp) (f k' : Nat) (bk' : Bk) : Prop := BFr N0 h h' ∧ gN h' ≤ gN h + 10 ∧ gS h' ≤ gS h + 250 ∧ (∃ kk, CPs h' b t kk) ∧ (f ≠ 0 → gI h' 519 b = nI f) ∧ (f = 0 → gI h' 519 b = gI h 519 b ∧ ∃ G' Cp', CRd h' N0 b t k' bk' G' Cp')
section COF
variable {d : Nat} {h : AH} {N0 b : Nat} {t : Tp} {k : Nat} {bk : Bk} {G Cp : Nat → Nat → Nat}
theorem HW.nw {h : AH} (w : HW h) {c k n : Nat} : HW (nw h c k n) := fun x hx => by
  have hx' : gN h + 1 ≤ x := hx
  show up1 (gC h) (gN h) c x = 0
  rw [up1_x (by omega)]; exact w x (by omega)
theorem HW.cg {h h' : AH} (w : HW h) (a : gC h' = gC h) (e : gN h' = gN h) : HW h' := fun x hx => by rw [a]; exact w x (by omega)
theorem stop_f {h h1 : AH} {f : Nat} {bk' : Bk} {k' : Nat} (kk : Nat) (hf : f ≠ 0) (F : BFr N0 h h1) (hn : gN h1 ≤ gN h + 10) (hS : gS h1 ≤ gS h + 250) (C : CPs h1 b t kk) (e : gI h1 519 b = nI f) : SRd h h1 N0 b t f k' bk' :=
  ⟨F, hn, hS, ⟨kk, C⟩, fun _ => e, fun z => absurd z hf⟩
theorem dp_of {t : Tp} {k m : Nat} {nm : Nat → Nat} : dpF t k nm m 0 = 0 ↔ ofL nm (tV t k) m = none := by
  constructor
  · intro z
    refine ofL_z fun i hi e => ?_
    rw [dp_t ⟨i, Nat.zero_le _, hi, e⟩] at z
    exact fX_n (by decide) z
  · intro z
    exact dp_f fun ⟨j, _, a, c⟩ => ofL_n m z j a c
theorem Fr.ct {K X : List Nat} {h h' : AH} (f : Fr K X h h') : gN h' = gN h ∧ gS h' = gS h := ⟨congrArg Prod.fst f.1, congrArg Prod.snd f.1⟩
theorem c_office (X : WX bk) (R : CRd h N0 b t k bk G Cp) : ∃ h' r, E (d + 10) 232 [.ref b] h = some (some (.int r), h') ∧ SRd h h' N0 b t (st (ff (oFs t k bk)) (fS t (k + 5) 59)) (k + 5) (oBk t k bk) := by
  obtain ⟨C, B, L, hNb, hN, hNg, hSh⟩ := R
  have hs := C.1
  have hg := hs.2
  have c0 := X.1.1.1
  obtain ⟨b1', b2', b3', b4', b5', b6', b7', b8'⟩ := id B
  obtain ⟨e1, A⟩ := b3' 0 (by decide)
  have cb := C.2.2.2.2.2.1
  rw [t_232 hs, ck_ok cb, e1, Option.bind_some, ck_ok A.1, al_size hs A, cK_v, t_232_7 hs, ifl (by omega) (by decide)]
  by_cases q : ¬ (bk 0 0 < 16)
  · have q16 : bk 0 0 = 16 := by omega
    obtain ⟨h1, a1, a2, a3, a4⟩ := c_fail (d := d + 8) C (c := 5) (by decide)
    have nz : fX t 5 k ≠ 0 := fX_n (by decide)
    have ef : st (ff (oFs t k bk)) (fS t (k + 5) 59) = fX t 5 k := by unfold oFs; rw [if_pos q16, ff_n nz]; exact if_neg nz
    rw [if_neg q, ck_ok cb, a1, cK_v, t_232_17 a2.1, if_pos (by decide), ef]
    exact ⟨h1, _, rfl, stop_f k nz (Fr.bf a3) (by rw [a3.ct.1]; omega) (by rw [a3.ct.2]; omega) a2 a4⟩
  have q := Decidable.not_not.mp q
  have e16 : (if bk 0 0 = 16 then fX t 5 k else 0) = 0 := if_neg (by omega)
  have eF : ff (oFs t k bk) = ff [fM t (k + 1) (bk 1) (bk 0 0), fN t (k + 2) 1 999, dpF t (k + 2) (bk 2) (bk 0 0) 0, fN t (k + 3) 0 999, fN t (k + 4) 0 999] := by unfold oFs; rw [e16]; rfl
  -- the office and its shelf
  have hs1 : Sh (nwO h 7 6) := hs.nw
  have x1 : gC (nwO h 7 6) (gN h) = 7 := up1_s
  have hs2a : Sh (nwO (nwO h 7 6) 1 3) := hs1.nw
  have cl : gC (nwO (nwO h 7 6) 1 3) (gN h + 1) = 1 := up1_s
  have cx2 : gC (nwO (nwO h 7 6) 1 3) (gN h) = 7 := (up1_x (f := gC (nwO h 7 6)) (x := gN h + 1) (x' := gN h) (by omega)).trans x1
  have hs2b : Sh (sR (sI (nwO (nwO h 7 6) 1 3) 256 (gN h + 1) (nI 0)) 257 (gN h + 1) (some 61)) := hs2a.sI.sR (Or.inl (inS_ge (by omega)))
  have hs2 : Sh (sR (sR (sI (nwO (nwO h 7 6) 1 3) 256 (gN h + 1) (nI 0)) 257 (gN h + 1) (some 61)) 1797 (gN h) (some (gN h + 1))) := hs2b.sR (Or.inl (inS_ge (by omega)))
  obtain ⟨h2, h2E⟩ : ∃ h2, h2 = sR (sR (sI (nwO (nwO h 7 6) 1 3) 256 (gN h + 1) (nI 0)) 257 (gN h + 1) (some 61)) 1797 (gN h) (some (gN h + 1)) := ⟨_, rfl⟩
  have ctor : E (d + 9) 276 [.ref (gN h)] (nwO h 7 6) = some (none, h2) := by
    rw [t_276 hs1, t_276_8 (show Sh (nwO (nwO h 7 6) 1 3) from hs2a), show gN (nwO h 7 6) = gN h + 1 from rfl, c_newAL hs2a cl (by omega), cK_n, t_276_12 hs2b, ck_ok (show gC (sR (sI (nwO (nwO h 7 6) 1 3) 256 (gN h + 1) (nI 0)) 257 (gN h + 1) (some 61)) (gN h) = 7 from cx2), h2E]
  have w2 : HW h2 := by rw [h2E]; exact HW.cg (h := nwO (nwO h 7 6) 1 3) (HW.nw (HW.nw C.2.1)) rfl rfl
  have n2 : NFr (gN h) h h2 := by
    rw [h2E]
    exact ((((NFr.rfl.nw).nw).sI (by omega)).sR (by omega)).sR (Nat.le_refl _)
  have g2N : gN h2 = gN h + 2 := by rw [h2E]; rfl
  have g2S : gS h2 = gS h + 6 + 3 := by rw [h2E]; rfl
  rw [← h2E] at hs2
  have C2 : CPs h2 b t k := C.nf n2 (Nat.le_refl _) hs2 w2
  have f2c : gC h2 (gN h) = 7 ∧ gC h2 (gN h + 1) = 1 := by rw [h2E]; exact ⟨cx2, cl⟩
  have f2r : gR h2 1797 (gN h) = some (gN h + 1) ∧ gR h2 257 (gN h + 1) = some 61 ∧ gI h2 258 (gN h + 1) = 0 := by
    rw [h2E]
    refine ⟨gR_s, ?_, ?_⟩
    · rw [gR_k (by decide), gR_s]
    · rw [gIR, gIR, gI_k (by decide)]; exact nw_I0 (h := nwO h 7 6)
  obtain ⟨h3, a3, C3, F3, I3⟩ := c_tNm (d := d + 1) C2
  rw [if_pos q, t_232_21 hs1, ctor, cK_n, t_232_25 hs2, ck_ok C2.2.2.2.2.2.1, a3, cK_v, t_232_30 C3.1]
  have B3 : CB h3 b bk G Cp := (B.bf C.2.1 n2.bf (Nat.le_refl _)).bf C2.2.1 (Fr.bf (N := gN h2) F3) (Nat.le_refl _)
  have bf3 : BFr (gN h) h h3 := n2.bf.trans (Fr.bf F3)
  by_cases q1 : ¬ (fm t (k + 1) = 0)
  · have eM : fM t (k + 1) (bk 1) (bk 0 0) = fm t (k + 1) := by rw [fM_d]; exact if_neg q1
    have ef : st (ff (oFs t k bk)) (fS t (k + 5) 59) = fm t (k + 1) := by rw [eF, eM, ff_n q1]; exact if_neg q1
    rw [bz_n q1, if_pos rfl, ef]
    exact ⟨h3, _, rfl, stop_f (k + 1) q1 (bf3.lo hNg) (by rw [F3.ct.1, g2N]; omega) (by rw [F3.ct.2, g2S]; omega) C3 (by rw [I3, if_neg q1])⟩
  have q1 := Decidable.not_not.mp q1
  have k1 := fm_0 q1
  have v1b := (tV_b (t := t) (k := k + 1)).1 k1
  have hv1 : gL h3 3078 101 = lN (tV t (k + 1)) := C3.2.2.2.2.1.2.2.1 k1
  rw [q1, if_pos rfl] at I3
  rw [q1, bz_0, if_neg (by decide), ck_ok C3.2.2.2.2.2.1, C3.2.2.2.2.2.2, Option.bind_some, ck_ok C3.1.t101.1, ck_ok C3.2.2.2.2.2.1, hv1, c_of C3.1 X B3 v1b, cK_v, t_232_46 C3.1]
  cases eo : ofL (bk 1) (tV t (k + 1)) (bk 0 0) with
  | some i =>
    have ib := (ofL_b _ eo).1
    have ne : ¬ oI (some i) = -1 := fun z => by
      have : nI i < nI 0 := by show oI (some i) < nI 0; rw [z]; decide
      exact nI_nlt (by omega) (by omega) this
    have nd : dpF t (k + 1) (bk 1) (bk 0 0) 0 ≠ 0 := fun z => by rw [dp_of.mp z] at eo; cases eo
    have nz : fX t 3 (k + 1) ≠ 0 := fX_n (by decide)
    have eD : dpF t (k + 1) (bk 1) (bk 0 0) 0 = fX t 3 (k + 1) := by
      unfold dpF at nd ⊢; split
      · rfl
      · rename_i z; rw [if_neg z] at nd; exact absurd rfl nd
    have eM : fM t (k + 1) (bk 1) (bk 0 0) = fX t 3 (k + 1) := by rw [fM_d, q1, eD]; rfl
    have ef : st (ff (oFs t k bk)) (fS t (k + 5) 59) = fX t 3 (k + 1) := by rw [eF, eM, ff_n nz]; exact if_neg nz
    obtain ⟨h4, d1, d2, d3, d4⟩ := c_fail (d := d + 8) C3 (c := 3) (by decide)
    rw [if_neg ne, ck_ok C3.2.2.2.2.2.1, d1, cK_v, t_232_55 d2.1, if_pos (by decide), ef]
    exact ⟨h4, _, rfl, stop_f (k + 1) nz ((bf3.trans (Fr.bf d3)).lo hNg) (by rw [d3.ct.1, F3.ct.1, g2N]; omega) (by rw [d3.ct.2, F3.ct.2, g2S]; omega) d2 d4⟩
  | none =>
    have eM : fM t (k + 1) (bk 1) (bk 0 0) = 0 := by rw [fM_d, q1, dp_of.mpr eo]; rfl
    have eF1 : ff (oFs t k bk) = ff [fN t (k + 2) 1 999, dpF t (k + 2) (bk 2) (bk 0 0) 0, fN t (k + 3) 0 999, fN t (k + 4) 0 999] := by rw [eF, eM]; rfl
    have sb := tS_b (t := t) (k := k + 1)
    have t4 := C3.2.2.2.1.2.1
    have nc := tN_n k1
    have nl : (ncod 12 (tV t (k + 1))).length = tE t (k + 1) - tS t (k + 1) := by rw [nc.1, sl_l]
    have nl12 := nc_l 12 (tV t (k + 1))
    have x3 : gC h3 (gN h) = 7 := by rw [F3.2.1]; exact f2c.1
    have g3N : gN h3 = gN h + 2 := by rw [F3.ct.1, g2N]
    have g3S : gS h3 = gS h + 9 := by rw [F3.ct.2, g2S]
    have hE5 : gI h3 3075 101 = nI (tE t (k + 1)) := C3.2.2.2.2.1.2.2.2.2
    have hS5 : gI h3 3074 101 = nI (tS t (k + 1)) := C3.2.2.2.2.1.2.2.2.1
    have hsl : Sh (sL h3 1792 (gN h) (lN (tV t (k + 1)))) := C3.1.sL
    have hs4 : Sh (nwA (sL h3 1792 (gN h) (lN (tV t (k + 1)))) 60 (ncod 12 (tV t (k + 1))).length) := hsl.nw
    obtain ⟨L0, L0E⟩ : ∃ L0, L0 = (ncod 12 (tV t (k + 1))).length := ⟨_, rfl⟩
    have run4 : Q (d + 9) 232 85 [some (.ref b), some (.ref (gN h))] [.ref (gN h3), .ref (gN h)] (nwA (sL h3 1792 (gN h) (lN (tV t (k + 1)))) 60 L0) = (if (gI h3 3075 101) - (gI h3 3074 101) < 0 then none else if ix ((gI h3 3075 101) - (gI h3 3074 101)) ≤ 1000000 then Q (d + 9) 232 85 [some (.ref b), some (.ref (gN h))] [.ref (gN h3), .ref (gN h)] (nwA (sL h3 1792 (gN h) (lN (tV t (k + 1)))) 60 (ix ((gI h3 3075 101) - (gI h3 3074 101)))) else none) := by
      rw [hE5, hS5, pk_sub sb.2.2, if_neg (nI_pos (by omega)), ix_nI (by omega), if_pos (by omega), L0E, nl]
    rw [if_pos (show oI none = -1 from rfl), ck_ok C3.2.2.2.2.2.1, C3.2.2.2.2.2.2, Option.bind_some, ck_ok C3.1.t101.1, ck_ok x3, ck_ok C3.2.2.2.2.2.1, Option.bind_some, ck_ok C3.1.t101.1, ck_ok C3.2.2.2.2.2.1, Option.bind_some, ck_ok C3.1.t101.1, hv1, ← run4, g3N]
    obtain ⟨h4, h4E⟩ : ∃ h4, h4 = sR (nwA (sL h3 1792 (gN h) (lN (tV t (k + 1)))) 60 L0) 1793 (gN h) (some (gN h + 2)) := ⟨_, rfl⟩
    have n4 : NFr (gN h) h3 h4 := by rw [h4E]; exact (((NFr.rfl.sL (Nat.le_refl _)).nw).sR (Nat.le_refl _))
    have hs4' : Sh h4 := by rw [h4E, L0E]; exact hs4.sR (Or.inl (inS_ge (by omega)))
    have w4 : HW h4 := by rw [h4E]; exact HW.cg (h := nwA (sL h3 1792 (gN h) (lN (tV t (k + 1)))) 60 L0) (HW.nw (h := sL h3 1792 (gN h) (lN (tV t (k + 1)))) (c := 60) (k := L0) (n := L0) (HW.cg (h := h3) C3.2.1 rfl rfl)) rfl rfl
    have C4 : CPs h4 b t (k + 1) := by
      have hb := C.2.1.lt cb (by decide)
      obtain ⟨p1, p2, p3, p4, p5, p6, p7⟩ := C3
      have g := hs.2
      obtain ⟨-, r1, r2, r3, r4, r5, r6⟩ := n4
      refine ⟨hs4', w4, ⟨fun x y1 y2 y3 => ?_, fun x hx => ?_⟩, ⟨?_, p4.2.1, fun i hi => ?_⟩, ?_, (r1 b (by omega)).1.trans p6, (r4 520 b (by omega) (by omega)).trans p7⟩
      · rw [(r5 x (by omega) (by omega)).1]; exact p3.1 x y1 y2 y3
      · rw [r2 3841 x (by omega) (by omega)]; exact p3.2 x hx
      · rw [r2 3073 101 (by omega) (by omega)]; exact p4.1
      · rw [(r5 102 (by omega) (by omega)).1]; exact p4.2.2 i hi
      · unfold TkC at p5 ⊢
        rw [r2 3076 101 (by omega) (by omega), r2 3077 101 (by omega) (by omega), r3 3078 101 (by omega) (by omega), r2 3074 101 (by omega) (by omega), r2 3075 101 (by omega) (by omega)]; exact p5
    have q4c : gC h4 (gN h) = 7 ∧ gC h4 (gN h + 1) = 1 ∧ gC h4 (gN h + 2) = 60 ∧ gK h4 (gN h + 2) = L0 ∧ gN h4 = gN h + 3 ∧ gS h4 = gS h + 9 + L0 := by
      rw [h4E]
      refine ⟨?_, ?_, ?_, ?_, ?_, ?_⟩
      · show up1 (gC h3) (gN h3) 60 (gN h) = 7
        rw [up1_x (by omega)]; exact x3
      · show up1 (gC h3) (gN h3) 60 (gN h + 1) = 1
        rw [up1_x (by omega), F3.2.1]; exact f2c.2
      · show up1 (gC h3) (gN h3) 60 (gN h + 2) = 60
        rw [← g3N, up1_s]
      · show up1 (gK h3) (gN h3) L0 (gN h + 2) = L0
        rw [← g3N, up1_s]
      · show gN h3 + 1 = _; omega
      · show gS h3 + L0 = _; omega
    have q4r : gR h4 1793 (gN h) = some (gN h + 2) ∧ gR h4 1797 (gN h) = some (gN h + 1) ∧ gR h4 257 (gN h + 1) = some 61 ∧ gI h4 258 (gN h + 1) = 0 ∧ gL h4 1792 (gN h) = lN (tV t (k + 1)) := by
      rw [h4E]
      refine ⟨gR_s, ?_, ?_, ?_, ?_⟩
      · rw [gR_k (by decide), nw_R (show gN h ≠ gN (sL h3 1792 (gN h) (lN (tV t (k + 1)))) from fun z => by have : gN h = gN h3 := z; omega), gRL, F3.2.2.2.1]; exact f2r.1
      · rw [gR_k (by decide), nw_R (show gN h + 1 ≠ gN (sL h3 1792 (gN h) (lN (tV t (k + 1)))) from fun z => by have : gN h + 1 = gN h3 := z; omega), gRL, F3.2.2.2.1]; exact f2r.2.1
      · rw [gIR, nw_I (show gN h + 1 ≠ gN (sL h3 1792 (gN h) (lN (tV t (k + 1)))) from fun z => by have : gN h + 1 = gN h3 := z; omega), gIL, F3.I (by decide)]; exact f2r.2.2
      · rw [gLR, nw_L (show gN h ≠ gN (sL h3 1792 (gN h) (lN (tV t (k + 1)))) from fun z => by have : gN h = gN h3 := z; omega), gL_s]
    have hs4r : Sh (nwA (sL h3 1792 (gN h) (lN (tV t (k + 1)))) 60 L0) := by rw [L0E]; exact hs4
    have cx4 : gC (nwA (sL h3 1792 (gN h) (lN (tV t (k + 1)))) 60 L0) (gN h) = 7 := by have := q4c.1; rw [h4E] at this; exact this
    have cb4 : gC (nwA (sL h3 1792 (gN h) (lN (tV t (k + 1)))) 60 L0) b = 2 := by have := C4.2.2.2.2.2.1; rw [h4E] at this; exact this
    have cr4 : gR (nwA (sL h3 1792 (gN h) (lN (tV t (k + 1)))) 60 L0) 520 b = some 101 := by
      have := C4.2.2.2.2.2.2; rw [h4E] at this
      rw [gR_k (by decide)] at this; exact this
    have rr4 : gR (sR (nwA (sL h3 1792 (gN h) (lN (tV t (k + 1)))) 60 L0) 1793 (gN h) (some (gN h + 2))) 1793 (gN h) = some (gN h + 2) := gR_s
    obtain ⟨h5, a5, F5, w5⟩ := c_cpy (d := d + 7) (x := gN h + 2) (fr := 0) (K := L0) (by omega) k1 C4.1 C4.2.2.2.1 C4.2.2.2.2.1 q4c.2.2.1 q4c.2.2.2.1 (by omega) (by omega)
    have hs5 := F5.sh C4.1
    have C5 : CPs h5 b t (k + 1) := by
      obtain ⟨p1, p2, p3, p4, p5, p6, p7⟩ := C4
      exact ⟨hs5, p2.fr F5, p3.fr F5 List.not_mem_nil (fun x hx => by have := List.mem_singleton.mp hx; omega), p4.fr F5 List.not_mem_nil (fun q => by have := List.mem_singleton.mp q; omega), p5.fr F5 (fun q _ => List.not_mem_nil), by rw [F5.2.1]; exact p6, by rw [F5.2.2.2.1]; exact p7⟩
    have bf5 : BFr (gN h) h h5 := (bf3.trans n4.bf).trans (Fr.nf F5 (by omega)).bf
    obtain ⟨h6, a6, C6, F6, I6⟩ := c_tNu (d := d + 1) C5 (lo := 1) (hi := 999) (by decide) (by decide)
    have I5e : gI h5 519 b = gI h 519 b := by
      have hb := C.2.1.lt cb (by decide)
      have nb : ¬ gN h ≤ b := by omega
      rw [F5.I List.not_mem_nil, n4.2.2.1 519 b (by omega) nb, I3, n2.2.2.1 519 b hb nb]
    rw [t_232_85 hs4r, ck_ok cx4, ck_ok cb4, cr4, Option.bind_some, ck_ok cx4, rr4, Option.bind_some, ck_ok hs4r.t101.1, ← h4E, a5, cK_v, t_232_100 hs5, ck_ok C5.2.2.2.2.2.1, a6, cK_v, t_232_109 C6.1]
    have bf6 : BFr (gN h) h h6 := bf5.trans (Fr.bf F6)
    have ct6 : gN h6 = gN h + 3 ∧ gS h6 = gS h + 9 + L0 := ⟨by rw [F6.ct.1, F5.ct.1]; exact q4c.2.2.2.2.1, by rw [F6.ct.2, F5.ct.2]; exact q4c.2.2.2.2.2⟩
    by_cases q2 : ¬ (fN t (k + 2) 1 999 = 0)
    · have ef : st (ff (oFs t k bk)) (fS t (k + 5) 59) = fN t (k + 2) 1 999 := by rw [eF1, ff_n q2]; exact if_neg q2
      rw [bz_n q2, if_pos rfl, ef]
      exact ⟨h6, _, rfl, stop_f (k + 2) q2 (bf6.lo hNg) (by omega) (by omega) C6 (by rw [I6, if_neg q2])⟩
    have q2 := Decidable.not_not.mp q2
    have eF2 : ff (oFs t k bk) = ff [dpF t (k + 2) (bk 2) (bk 0 0) 0, fN t (k + 3) 0 999, fN t (k + 4) 0 999] := by rw [eF1, q2]; rfl
    have k2 := (fN_0 q2).1
    have hv2 : gI h6 3077 101 = nI (tV t (k + 2)) := C6.2.2.2.2.1.2.1 k2
    have B6 : CB h6 b bk G Cp := B.bf C.2.1 bf6 (Nat.le_refl _)
    rw [q2, if_pos rfl] at I6
    rw [q2, bz_0, if_neg (by decide), ck_ok C6.2.2.2.2.2.1, C6.2.2.2.2.2.2, Option.bind_some, ck_ok C6.1.t101.1, ck_ok C6.2.2.2.2.2.1, hv2, c_cd C6.1 X B6 k2, cK_v, t_232_125 C6.1]
    by_cases q3 : ¬ (dpF t (k + 2) (bk 2) (bk 0 0) 0 = 0)
    · have eD : dpF t (k + 2) (bk 2) (bk 0 0) 0 = fX t 3 (k + 2) := by
        unfold dpF at q3 ⊢; split
        · rfl
        · rename_i z; rw [if_neg z] at q3; exact absurd rfl q3
      have nz : fX t 3 (k + 2) ≠ 0 := fX_n (by decide)
      have ef : st (ff (oFs t k bk)) (fS t (k + 5) 59) = fX t 3 (k + 2) := by rw [eF2, eD, ff_n nz]; exact if_neg nz
      obtain ⟨h7, d1, d2, d3, d4⟩ := c_fail (d := d + 8) C6 (c := 3) (by decide)
      rw [if_neg q3, if_neg (by decide), ck_ok C6.2.2.2.2.2.1, d1, cK_v, t_232_133 d2.1, if_pos (by decide), ef]
      exact ⟨h7, _, rfl, stop_f (k + 2) nz ((bf6.trans (Fr.bf d3)).lo hNg) (by rw [d3.ct.1]; omega) (by rw [d3.ct.2]; omega) d2 d4⟩
    have q3 := Decidable.not_not.mp q3
    have eF3 : ff (oFs t k bk) = ff [fN t (k + 3) 0 999, fN t (k + 4) 0 999] := by rw [eF2, q3]; rfl
    have x6 : gC h6 (gN h) = 7 := by rw [F6.2.1, F5.2.1]; exact q4c.1
    have F6' : Fr [1794] [] h6 (sI h6 1794 (gN h) (nI (tV t (k + 2)))) := Fr.rfl.sI (by decide)
    have C6' := C6.fr F6' (by decide)
    obtain ⟨h7, a7, C7, F7, I7⟩ := c_tNu (d := d + 1) C6' (lo := 0) (hi := 999) (by decide) (by decide)
    rw [if_pos q3, if_pos rfl, ck_ok C6.2.2.2.2.2.1, C6.2.2.2.2.2.2, Option.bind_some, ck_ok C6.1.t101.1, ck_ok x6, ck_ok C6.2.2.2.2.2.1, hv2, a7, cK_v, t_232_153 C7.1]
    have bf7 : BFr (gN h) h h7 := (bf6.sI (Nat.le_refl _)).trans (Fr.bf F7)
    have ct7 : gN h7 = gN h + 3 ∧ gS h7 = gS h + 9 + L0 := ⟨by rw [F7.ct.1]; exact ct6.1, by rw [F7.ct.2]; exact ct6.2⟩
    by_cases q4 : ¬ (fN t (k + 3) 0 999 = 0)
    · have ef : st (ff (oFs t k bk)) (fS t (k + 5) 59) = fN t (k + 3) 0 999 := by rw [eF3, ff_n q4]; exact if_neg q4
      rw [bz_n q4, if_pos rfl, ef]
      exact ⟨h7, _, rfl, stop_f (k + 3) q4 (bf7.lo hNg) (by omega) (by omega) C7 (by rw [I7, if_neg q4])⟩
    have q4 := Decidable.not_not.mp q4
    have eF4 : ff (oFs t k bk) = ff [fN t (k + 4) 0 999] := by rw [eF3, q4]; rfl
    have k3 := (fN_0 q4).1
    have hv3 : gI h7 3077 101 = nI (tV t (k + 3)) := C7.2.2.2.2.1.2.1 k3
    have x7 : gC h7 (gN h) = 7 := by rw [F7.2.1]; exact x6
    rw [q4, if_pos rfl] at I7
    have F7' : Fr [1795] [] h7 (sI h7 1795 (gN h) (nI (tV t (k + 3)))) := Fr.rfl.sI (by decide)
    have C7' := C7.fr F7' (by decide)
    obtain ⟨h8, a8, C8, F8, I8⟩ := c_tNu (d := d + 1) C7' (lo := 0) (hi := 999) (by decide) (by decide)
    rw [q4, bz_0, if_neg (by decide), ck_ok C7.2.2.2.2.2.1, C7.2.2.2.2.2.2, Option.bind_some, ck_ok C7.1.t101.1, ck_ok x7, ck_ok C7.2.2.2.2.2.1, hv3, a8, cK_v, t_232_177 C8.1]
    have bf8 : BFr (gN h) h h8 := (bf7.sI (Nat.le_refl _)).trans (Fr.bf F8)
    have ct8 : gN h8 = gN h + 3 ∧ gS h8 = gS h + 9 + L0 := ⟨by rw [F8.ct.1]; exact ct7.1, by rw [F8.ct.2]; exact ct7.2⟩
    by_cases q5 : ¬ (fN t (k + 4) 0 999 = 0)
    · have ef : st (ff (oFs t k bk)) (fS t (k + 5) 59) = fN t (k + 4) 0 999 := by rw [eF4, ff_n q5]; exact if_neg q5
      rw [bz_n q5, if_pos rfl, ef]
      exact ⟨h8, _, rfl, stop_f (k + 4) q5 (bf8.lo hNg) (by omega) (by omega) C8 (by rw [I8, if_neg q5])⟩
    have q5 := Decidable.not_not.mp q5
    have eF5 : ff (oFs t k bk) = 0 := by rw [eF4, q5]; rfl
    have k4 := (fN_0 q5).1
    have hv4 : gI h8 3077 101 = nI (tV t (k + 4)) := C8.2.2.2.2.1.2.1 k4
    have x8 : gC h8 (gN h) = 7 := by rw [F8.2.1]; exact x7
    rw [q5, if_pos rfl] at I8
    have F8' : Fr [1796] [] h8 (sI h8 1796 (gN h) (nI (tV t (k + 4)))) := Fr.rfl.sI (by decide)
    have C9 := C8.fr F8' (by decide)
    obtain ⟨h9, h9E⟩ : ∃ h9, h9 = sI h8 1796 (gN h) (nI (tV t (k + 4))) := ⟨_, rfl⟩
    rw [← h9E] at C9 F8'
    have bf9 : BFr (gN h) h h9 := by rw [h9E]; exact bf8.sI (Nat.le_refl _)
    have B9 : CB h9 b bk G Cp := B.bf C.2.1 bf9 (Nat.le_refl _)
    have L9 : CLb h9 N0 bk G Cp := L.bf C.2.1 bf9 (Nat.le_refl _)
    have ct9 : gN h9 = gN h + 3 ∧ gS h9 = gS h + 9 + L0 := by rw [h9E]; exact ct8
    -- what the new cells are
    have cE : gC h9 = gC h4 := by rw [h9E]; show gC h8 = _; rw [F8.2.1]; show gC h7 = _; rw [F7.2.1]; show gC h6 = _; rw [F6.2.1, F5.2.1]
    have kE : gK h9 = gK h4 := by rw [h9E]; show gK h8 = _; rw [F8.2.2.1]; show gK h7 = _; rw [F7.2.2.1]; show gK h6 = _; rw [F6.2.2.1, F5.2.2.1]
    have rE : gR h9 = gR h4 := by rw [h9E]; show gR h8 = _; rw [F8.2.2.2.1]; show gR h7 = _; rw [F7.2.2.2.1]; show gR h6 = _; rw [F6.2.2.2.1, F5.2.2.2.1]
    have aE : gA h9 = gA h5 := by rw [h9E]; show gA h8 = _; rw [F8.gA']; show gA h7 = _; rw [F7.gA']; show gA h6 = _; rw [F6.gA']
    have lE : gL h9 1792 = gL h4 1792 := by rw [h9E]; show gL h8 1792 = _; rw [F8.L (by decide)]; show gL h7 1792 = _; rw [F7.L (by decide)]; show gL h6 1792 = _; rw [F6.L (by decide), F5.L List.not_mem_nil]
    have i258 : gI h9 258 = gI h4 258 := by rw [h9E, gI_k (by decide), F8.I (by decide), gI_k (by decide), F7.I (by decide), gI_k (by decide), F6.I (by decide), F5.I List.not_mem_nil]
    have i94 : gI h9 1794 (gN h) = nI (tV t (k + 2)) := by rw [h9E, gI_k (by decide), F8.I (by decide), gI_k (by decide), F7.I (by decide), gI_s]
    have i95 : gI h9 1795 (gN h) = nI (tV t (k + 3)) := by rw [h9E, gI_k (by decide), F8.I (by decide), gI_s]
    have i96 : gI h9 1796 (gN h) = nI (tV t (k + 4)) := by rw [h9E, gI_s]
    have i19 : gI h9 519 b = gI h 519 b := by rw [h9E, gI_k (by decide), I8, gI_k (by decide), I7, gI_k (by decide), I6]; exact I5e
    have AN9 : AN h9 (gN h + 2) (ncod 12 (tV t (k + 1))) := by
      refine ⟨by rw [cE]; exact q4c.2.2.1, by rw [kE, ← L0E]; exact q4c.2.2.2.1, Or.inl (by omega), fun i hi => ?_⟩
      rw [aE, w5]
      have := wr_in (f := gA h4 (gN h + 2)) (s := 0) (l := ncod 12 (tV t (k + 1))) hi
      rw [Nat.zero_add] at this
      rw [this, List.getD_eq_getElem?_getD, List.getElem?_eq_getElem hi]; rfl
    have ar61 : ∀ f, Ar h9 (gN h + 1) 61 0 0 f := fun f => by
      have hs9 := C9.1
      refine ⟨by rw [cE]; exact q4c.2.1, by rw [rE]; exact q4r.2.2.1, ?_, ?_, by rw [i258]; exact q4r.2.2.2.1, Nat.le_refl _, by decide, fun i hi => absurd hi (by omega)⟩
      · exact (hs9.aN 61 (by decide)).1
      · exact (hs9.aN 61 (by decide)).2
    -- it is added
    have oldr : ∀ r, 2 ≤ r → lV bk r → lo G r < gN h ∧ la G r < gN h := fun r h2 hr => by
      obtain ⟨y1, y2, y3⟩ := L.1 r h2 hr
      refine ⟨y2.1, ?_⟩
      rcases y2.2.1 with ⟨-, z⟩ | z
      · rw [z]; omega
      · exact z.2.2
    obtain ⟨p1, A9⟩ := B9.2.2.1 0 (by decide)
    have O9 := (L9.1 2 (by decide) (Or.inl (by decide))).2.1
    have lo0 : lo G 2 = G 7 0 := rfl
    have la0 : la G 2 = G 8 0 := rfl
    have lc0 : lc Cp 2 = Cp 8 0 := rfl
    rw [lo0, la0, lc0] at O9
    have cap0 := L9.2.1 0 (by decide)
    obtain ⟨h10, e', cap', s1, s2, s3, s4, s5, s6⟩ := al_add (d := d + 2) C9.1 A9 O9 (by omega) (x := gN h) (by rw [cE, q4c.1]; decide) (by omega)
    have w10 : HW h10 := (E_mx s1).1 C9.2.1
    have cx10 : gC h9 (G 7 0) = 1 := A9.1
    have C8b := C8.2.2.2.2.2.1
    have cl8 : gC h8 (G 7 0) = 1 := by rw [h9E] at cx10; exact cx10
    have p1' : gR h8 512 b = some (G 7 0) := by rw [h9E] at p1; exact p1
    have o0 := oldr 2 (by decide) (Or.inl (by decide))
    rw [lo0, la0] at o0
    have bf10 : BFr N0 h h10 := (bf9.lo hNg).trans (GF.wk s4 (fun k' x' z => Or.inl (by have := (L9.1 2 (by decide) (Or.inl (by decide))).1; rw [lo0] at this; rw [z.1]; exact this)) (fun k' x' z => by have := (L9.1 2 (by decide) (Or.inl (by decide))).1; rw [lo0] at this; rw [z.1]; exact this) (fun y z => by
      have := (L9.1 2 (by decide) (Or.inl (by decide))).2.2
      rw [la0] at this
      rcases this with t1 | t1
      · have := z.2; omega
      · rw [z.1]; exact t1) (fun y z => z.elim))
    have hb := C.2.1.lt cb (by decide)
    have hb9 : b < gN h9 := by omega
    have C10 : CPs h10 b t (k + 4) := by
      obtain ⟨u1, u2, u3, u4, u5, u6, u7⟩ := C9
      have g := hs.2
      obtain ⟨-, r1, r2, r3, r4, r5, r6⟩ := s4
      have n7 : ∀ kk xx, kk ≠ 256 → kk ≠ 258 → ¬ lI (G 7 0) kk xx := fun kk xx y1 y2 z => z.2.elim y1 y2
      refine ⟨s5, w10, ⟨fun x y1 y2 y3 => ?_, fun x hx => ?_⟩, ⟨?_, u4.2.1, fun i hi => ?_⟩, ?_, (r1 b hb9).1.trans u6, (r4 520 b hb9 (fun z => absurd z.2 (by decide))).trans u7⟩
      · rw [(r5 x (by omega) (fun z => z)).1]; exact u3.1 x y1 y2 y3
      · rw [r2 3841 x (by omega) (n7 _ _ (by decide) (by decide))]; exact u3.2 x hx
      · rw [r2 3073 101 (by omega) (n7 _ _ (by decide) (by decide))]; exact u4.1
      · rw [(r5 102 (by omega) (fun z => z)).1]; exact u4.2.2 i hi
      · unfold TkC at u5 ⊢
        rw [r2 3076 101 (by omega) (n7 _ _ (by decide) (by decide)), r2 3077 101 (by omega) (n7 _ _ (by decide) (by decide)), r3 3078 101 (by omega) (n7 _ _ (by decide) (by decide)), r2 3074 101 (by omega) (n7 _ _ (by decide) (by decide)), r2 3075 101 (by omega) (n7 _ _ (by decide) (by decide))]; exact u5
    obtain ⟨h11, a11, C11, F11, I11⟩ := c_tEn (d := d + 1) C10
    rw [q5, bz_0, if_neg (by decide), ck_ok C8b, C8.2.2.2.2.2.2, Option.bind_some, ck_ok C8.1.t101.1, ck_ok x8, ck_ok C8b, p1', Option.bind_some, ck_ok cl8, hv4, ← h9E, s1, cK_v, t_232_201 s5, ck_ok C10.2.2.2.2.2.1, a11, cK_v, t_232_206 C11.1]
    have ret : ∀ c, (if bz c = 0 ∨ bz c = 1 then some (some (.int (bz c)), h11) else none : Option Ot) = some (some (.int (bz c)), h11) := fun c => by
      unfold bz
      by_cases z : c = 0
      · rw [b1 z]; rfl
      · rw [b0 z]; rfl
    have eC : cap' ≤ 10 + 2 * (bk 0 0 + 1) ∧ gN h10 ≤ gN h + 4 ∧ gS h10 ≤ gS h + 9 + L0 + 60 := by
      rcases s6 with ⟨z1, z2, z3, z4, z5⟩ | ⟨z1, z2, z3, z4, z5⟩
      · omega
      · have nc : ncap (Cp 8 0) ≤ 10 + 2 * bk 0 0 + 2 := by unfold ncap; split <;> omega
        omega
    have eE : e' = G 8 0 ∨ gN h9 ≤ e' := by
      rcases s6 with ⟨z1, z2, -⟩ | ⟨z1, z2, -⟩
      · exact Or.inl z2
      · right; omega
    rw [ret]
    have stE : st (ff (oFs t k bk)) (fS t (k + 5) 59) = fS t (k + 5) 59 := by rw [eF5]; rfl
    rw [stE]
    refine ⟨h11, _, rfl, bf10.trans (Fr.bf F11), by rw [F11.ct.1]; omega, by rw [F11.ct.2]; omega, ⟨k + 5, C11⟩, fun z => by rw [I11, if_neg z], fun z => ⟨?_, ?_⟩⟩
    · rw [I11, if_pos z, s4.2.2.1 519 b hb9 (fun y => by rcases y.2 with y | y <;> cases y)]; exact i19
    · have dis : ∀ r, 2 ≤ r → lV bk r → r ≠ 2 → lo G r ≠ G 7 0 ∧ (la G r = G 8 0 → la G r = 61) := fun r h2 hr hne => by
        have := L9.2.2.2 r 2 h2 (by decide) hr (Or.inl (by decide))
        rw [lo0, la0] at this
        exact ⟨fun e => hne (this.1 e), fun e => (this.2 e).resolve_left hne⟩
      have Bx : CBx 0 h10 b bk G Cp := B9.g3 0 C9.2.1 s4 (fun kk hk x hx y => by
          have : ∀ kk, kk ∈ kI → kk ≠ 256 ∧ kk ≠ 258 := by decide
          rcases y.2 with y | y
          · exact (this kk hk).1 y
          · exact (this kk hk).2 y) (fun j hj hj0 => by
          have lj : lV bk (2 + j) := Or.inl (by omega)
          have e1 : lo G (2 + j) = G 7 j := by unfold lo; rw [if_neg (by omega), if_neg (by omega), if_pos (by omega), show 2 + j - 2 = j from by omega]
          have e2 : la G (2 + j) = G 8 j := by unfold la; rw [if_pos (by omega), show 2 + j - 2 = j from by omega]
          have dd := dis (2 + j) (by omega) lj (by omega)
          rw [e1, e2] at dd
          exact ⟨fun y => dd.1 y.1, fun y => dd.1 y.1, fun y => by have := dd.2 y.1; omega⟩) (fun kk hk x hx y => by
          have : ∀ kk, kk ∈ kR → kk ≠ 257 := by decide
          exact this kk hk y.2) (fun x _ _ y => y)
      obtain ⟨G', G'E⟩ : ∃ G', G' = up2 (up2 (up2 (up2 (up2 G 0 (bk 0 0) (gN h)) 5 (bk 0 0) (gN h + 1)) 14 (bk 0 0) (gN h + 2)) 8 0 e') 9 (10 + bk 0 0) 61 := ⟨_, rfl⟩
      obtain ⟨Cp', Cp'E⟩ : ∃ Cp', Cp' = up2 (up2 Cp 8 0 cap') 9 (10 + bk 0 0) 0 := ⟨_, rfl⟩
      have gk : ∀ j, j ≠ 0 → j ≠ 5 → j ≠ 14 → j ≠ 8 → j ≠ 9 → G' j = G j := fun j m0 m1 m2 m3 m4 => by rw [G'E, up2_k m4, up2_k m3, up2_k m2, up2_k m1, up2_k m0]
      have g0 : G' 0 = up1 (G 0) (bk 0 0) (gN h) := by rw [G'E, up2_k (by decide), up2_k (by decide), up2_k (by decide), up2_k (by decide)]; unfold up2; rw [if_pos rfl]
      have g5 : ∀ i, G' 5 i = if i = bk 0 0 then gN h + 1 else G 5 i := fun i => by rw [G'E]; simp [up2, up1]
      have g14 : ∀ i, G' 14 i = if i = bk 0 0 then gN h + 2 else G 14 i := fun i => by rw [G'E]; simp [up2, up1]
      have g8 : ∀ i, G' 8 i = if i = 0 then e' else G 8 i := fun i => by rw [G'E]; simp [up2, up1]
      have g9 : ∀ i, G' 9 i = if i = 10 + bk 0 0 then 61 else G 9 i := fun i => by rw [G'E]; simp [up2, up1]
      have p8 : ∀ i, Cp' 8 i = if i = 0 then cap' else Cp 8 i := fun i => by rw [Cp'E]; simp [up2, up1]
      have p9 : ∀ i, Cp' 9 i = if i = 10 + bk 0 0 then 0 else Cp 9 i := fun i => by rw [Cp'E]; simp [up2, up1]
      have k0 : oBk t k bk 0 0 = bk 0 0 + 1 := up2_s
      have kx : ∀ j, j ≠ 0 → oBk t k bk 0 j = bk 0 j := fun j hj => by
        unfold oBk; rw [up2_x hj, up2_k (by decide), up2_k (by decide), up2_k (by decide), up2_k (by decide)]
      have kk : ∀ j, 5 ≤ j → oBk t k bk j = bk j := fun j hj => by
        unfold oBk; rw [up2_k (by omega), up2_k (by omega), up2_k (by omega), up2_k (by omega), up2_k (by omega)]
      have kn1 : ∀ i, oBk t k bk 1 i = if i = bk 0 0 then tV t (k + 1) else bk 1 i := fun i => by unfold oBk; simp [up2, up1]
      have kn2 : ∀ i, oBk t k bk 2 i = if i = bk 0 0 then tV t (k + 2) else bk 2 i := fun i => by unfold oBk; simp [up2, up1]
      have kn3 : ∀ i, oBk t k bk 3 i = if i = bk 0 0 then tV t (k + 3) else bk 3 i := fun i => by unfold oBk; simp [up2, up1]
      have kn4 : ∀ i, oBk t k bk 4 i = if i = bk 0 0 then tV t (k + 4) else bk 4 i := fun i => by unfold oBk; simp [up2, up1]
      have nK : ∀ kk xx, kk ≠ 256 → kk ≠ 258 → ¬ lI (G 7 0) kk xx := fun kk xx y1 y2 z => z.2.elim y1 y2
      have nR : ∀ kk xx, kk ≠ 257 → ¬ lR (G 7 0) kk xx := fun kk xx y z => y z.2
      have B10 : CB h10 b (oBk t k bk) G' Cp' := by
        obtain ⟨v1, v2, v3, v4, v5, v6, v7, v8⟩ := Bx
        have cE' : ∀ x, x < gN h9 → gC h10 x = gC h9 x ∧ gK h10 x = gK h9 x := s4.2.1
        refine ⟨v1, v2, fun j hj => ?_, ?_, fun i hi => ?_, fun p hp => ?_, fun s hS => ?_, fun c hc => ?_⟩
        · rw [gk 7 (by decide) (by decide) (by decide) (by decide) (by decide)]
          refine ⟨(v3 j hj).1, ?_⟩
          by_cases ej : j = 0
          · subst ej
            rw [g8, if_pos rfl, p8, if_pos rfl, k0, g0]; exact s2
          · rw [g8, if_neg ej, p8, if_neg ej, kx j ej]
            have gj : G' j = G j := by
              have : j = 1 ∨ j = 2 ∨ j = 3 := by omega
              rcases this with rfl | rfl | rfl <;> exact gk _ (by decide) (by decide) (by decide) (by decide) (by decide)
            rw [gj]; exact (v3 j hj).2 ej
        · rw [gk 16 (by decide) (by decide) (by decide) (by decide) (by decide), kx 4 (by decide), kk 5 (by decide), kk 6 (by decide)]; exact v4
        · rw [k0] at hi
          rw [g0, g5, g14, kn1, kn2, kn3, kn4]
          by_cases ei : i = bk 0 0
          · rw [ei, up1_s]
            simp only [if_true]
            refine ⟨by rw [(cE' _ (by omega)).1, cE]; exact q4c.1, by rw [s4.2.2.2.1 1792 _ (by omega) (nK _ _ (by decide) (by decide)), lE]; exact q4r.2.2.2.2, by rw [s4.2.2.1 1794 _ (by omega) (nK _ _ (by decide) (by decide))]; exact i94, by rw [s4.2.2.1 1795 _ (by omega) (nK _ _ (by decide) (by decide))]; exact i95, by rw [s4.2.2.1 1796 _ (by omega) (nK _ _ (by decide) (by decide))]; exact i96, by rw [s4.2.2.2.2.1 1797 _ (by omega) (nR _ _ (by decide)), rE]; exact q4r.2.1, by rw [s4.2.2.2.2.1 1793 _ (by omega) (nR _ _ (by decide)), rE]; exact q4r.1, ?_⟩
            obtain ⟨y1, y2, y3, y4⟩ := AN9
            exact ⟨by rw [(cE' _ (by omega)).1]; exact y1, by rw [(cE' _ (by omega)).2]; exact y2, y3, fun i hi => by rw [(s4.2.2.2.2.2.1 _ (by omega) (fun z => z)).1]; exact y4 i hi⟩
          · rw [up1_x ei]
            simp only [if_neg ei]
            exact v5 i (by omega)
        · rw [kx 1 (by decide)] at hp
          rw [gk 1 (by decide) (by decide) (by decide) (by decide) (by decide), gk 15 (by decide) (by decide) (by decide) (by decide) (by decide), kk 7 (by decide), kk 8 (by decide), kk 9 (by decide), kk 10 (by decide), kk 11 (by decide), kk 12 (by decide), kk 13 (by decide), kk 14 (by decide), kk 15 (by decide), kk 16 (by decide)]; exact v6 p hp
        · rw [kx 2 (by decide)] at hS
          rw [gk 2 (by decide) (by decide) (by decide) (by decide) (by decide), gk 10 (by decide) (by decide) (by decide) (by decide) (by decide), gk 11 (by decide) (by decide) (by decide) (by decide) (by decide), gk 12 (by decide) (by decide) (by decide) (by decide) (by decide), gk 13 (by decide) (by decide) (by decide) (by decide) (by decide), kk 17 (by decide), kk 18 (by decide), kk 19 (by decide), kk 20 (by decide), kk 21 (by decide), kk 22 (by decide), kk 23 (by decide), kk 24 (by decide)]
          obtain ⟨y1, y2, y3, y4, y5, y6, y7⟩ := v7 s hS
          refine ⟨y1, y2, y3, y4, y5, fun j hj => ?_, y7⟩
          have gj : G' (10 + j) = G (10 + j) := gk _ (by omega) (by omega) (by omega) (by omega) (by omega)
          rw [gj]; exact y6 j hj
        · rw [kx 3 (by decide)] at hc
          rw [gk 3 (by decide) (by decide) (by decide) (by decide) (by decide), gk 6 (by decide) (by decide) (by decide) (by decide) (by decide), kk 25 (by decide), kk 26 (by decide), kk 27 (by decide), kk 28 (by decide), kk 29 (by decide), kk 30 (by decide), kk 31 (by decide)]; exact v8 c hc
      have ne10 : ∀ r, lV bk r → r ≠ 10 + bk 0 0 := fun r hr e => by rcases hr with a | a | a <;> omega
      have L10 : CLb h10 N0 (oBk t k bk) G' Cp' := by
        refine CLb.add (j0 := 0) (rn := 10 + bk 0 0) (l := gN h + 1) (N1 := gN h) (e' := e') (cap' := cap') (by decide) L9 C9.2.1 hNg (by omega) oldr s4 s3 eE (by rw [k0]; exact eC.1) (fun j hj hj0 => kx j hj0) (fun r hr => ?_) (fun r h2 hr => ?_) (fun r h2 hr hne => ?_) ⟨?_, ?_⟩ (fun j hj hj0 => by rw [p8, if_neg hj0]) (by rw [p8, if_pos rfl]) (fun _ _ => ?_)
        · unfold lV at hr ⊢
          rw [k0, kx 3 (by decide)] at hr
          rcases hr with a | a | a
          · exact Or.inl (Or.inl a)
          · by_cases e : r = 10 + bk 0 0
            · right; refine ⟨e, by omega, ?_⟩
              rintro (y | y | y) <;> omega
            · exact Or.inl (Or.inr (Or.inl (by omega)))
          · exact Or.inl (Or.inr (Or.inr a))
        · have n10 := ne10 r hr
          unfold lo
          rw [gk 7 (by decide) (by decide) (by decide) (by decide) (by decide), gk 6 (by decide) (by decide) (by decide) (by decide) (by decide), g5]
          rcases hr with a | a | a
          · rw [if_neg (by omega), if_neg (by omega), if_pos a, if_neg (by omega), if_neg (by omega), if_pos a]
          · rw [if_neg (by omega), if_neg (by omega), if_neg (by omega), if_pos (by omega), if_neg (by omega), if_neg (by omega), if_neg (by omega), if_neg (by omega), if_pos (by omega)]
          · rw [if_neg (by omega), if_neg (by omega), if_neg (by omega), if_neg (by omega), if_neg (by omega), if_neg (by omega), if_neg (by omega), if_neg (by omega)]
        · have n10 := ne10 r hr
          have e9 : G' 9 r = G 9 r ∧ Cp' 9 r = Cp 9 r := by rw [g9, p9, if_neg n10, if_neg n10]; exact ⟨rfl, rfl⟩
          refine ⟨?_, ?_, fun _ => e9⟩
          · unfold la
            by_cases z : 2 ≤ r ∧ r < 6
            · rw [if_pos z, if_pos z, g8, if_neg (by omega)]
            · rw [if_neg z, if_neg z]; exact e9.1
          · unfold lc
            by_cases z : 2 ≤ r ∧ r < 6
            · rw [if_pos z, if_pos z, p8, if_neg (by omega)]
            · rw [if_neg z, if_neg z]; exact e9.2
        · show G' 8 0 = e'; rw [g8, if_pos rfl]
        · show Cp' 8 0 = cap'; rw [p8, if_pos rfl]
        · have e9 : G' 9 (10 + bk 0 0) = 61 ∧ Cp' 9 (10 + bk 0 0) = 0 := by rw [g9, p9, if_pos rfl, if_pos rfl]; exact ⟨rfl, rfl⟩
          refine ⟨?_, ?_, ?_, e9.1, e9.2, by omega, by omega, ⟨by omega, Or.inl ⟨rfl, rfl⟩, Or.inl (inS_ge (by omega))⟩, ar61⟩
          · unfold lo
            rw [if_neg (by omega), if_neg (by omega), if_neg (by omega), if_pos (by omega), g5, if_pos (by omega)]
          · unfold la; rw [if_neg (by omega)]; exact e9.1
          · unfold lc; rw [if_neg (by omega)]; exact e9.2
      have gn11 := F11.ct.1
      exact ⟨G', Cp', C11, B10.bf w10 (Fr.bf (N := gN h10) F11) (Nat.le_refl _), L10.bf w10 (Fr.bf (N := gN h10) F11) (Nat.le_refl _), hNb, hN, by have := s4.1.1; omega, by rw [gk 16 (by decide) (by decide) (by decide) (by decide) (by decide)]; exact hSh⟩
end COF
