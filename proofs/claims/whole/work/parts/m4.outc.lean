/-! ===== RUN: what an expression comes to, on both sides ===== -/
abbrev KE : List Nat := [1545, 1547, 1549, 1553, 1555, 2059, 2060]
abbrev XE : List Nat := [168, 169, 170]
/-- the reference has put the value l on its pile -/
def Gv (c : CXm) (D T p k : Nat) (l : Int64) (hc' hr : AH) : Prop := ∃ hr', LPm c hr = LPm c hr' ∧ Gs c D (T + 1) p k hc' hr' ∧ HF D hr hr' ∧ gB hr' 289 T = l ∧ ∀ j, j < T → gB hr' 289 j = gB hr 289 j
def EvL (c : CXm) (q : Option Ot) (hc hr : AH) (D T p k : Nat) : Prop := ∃ x hc', q = some (some (.long x), hc') ∧ (Fr KE XE hc hc' ∧ stp1 hc hc' ∧ Gv c D T p k x hc' hr ∨ Dd c D hc' hr)
def EvI (c : CXm) (P : Int32 → Prop) (q : Option Ot) (hc hr : AH) (D T p k : Nat) : Prop := ∃ x hc', q = some (some (.int x), hc') ∧ (P x ∧ Fr KE XE hc hc' ∧ stp1 hc hc' ∧ Gv c D T p k x.toInt64 hc' hr ∨ Dd c D hc' hr)
def trv (x : Int32) : Prop := ∃ t, t < 12 ∧ x = nI t
section EVR
variable {c : CXm} {hc hr hc' hr' : AH} {D T p k : Nat}
theorem Gs.sC (g : Gs c D T p k hc hr) : Sh hc := g.1.shC
theorem Gs.sR (g : Gs c D T p k hc hr) (K : KXs c) : Sh hr := g.1.shR K
/-- a step of the reference that only works on its pile -/
theorem LP_ok (K : KXs c) (g : Gs c D T p k hc hr) (h4 : p < 4400) {x y : Int32} {L : Cds} (A : AT (hR c) (4400 * kn c 5 + p) ((x, y) :: L)) {h1 : AH} (hE : E (kn c 8 + 20) 152 [.ref 189, .int x, .int y] (fet hr p) = some (none, h1)) (hs1 : Sh h1) (cm : gI h1 3733 189 = nI 0) : LPm c hr = LPm c h1 := by
  rw [LP_go g.1 K g.2.2.2.2.2.2 g.2.2.2.1 h4 A]
  show cK (E (kn c 8 + 20) 152 [.ref 189, .int x, .int y] (fet hr p)) _ [] = _
  rw [hE]
  exact LP_nx hs1 cm
/-- what is told of a value that is put on the pile at T -/
theorem Gv.mk {w : Int64} {p' k' : Nat} (K : KXs c) (g : Gs c D T p k hc hr) (e : LPm c hr = LPm c hr') (r : CRm c hc' hr') (f : Fr [3723, 3724, 3733] [289] hr hr') (e1 : gI hc' 1547 175 = nI 0) (e2 : gI hc' 1545 175 = nI k') (e3 : gI hr' 3724 189 = nI p') (e4 : gI hr' 3723 189 = nI (T + 1)) (e5 : gB hr' 289 T = w) (e6 : ∀ j, j < T → gB hr' 289 j = gB hr 289 j) : Gv c D T p' k' w hc' hr :=
  ⟨hr', e, ⟨r, e1, e2, e3, e4, by rw [f.I (by decide)]; exact g.2.2.2.2.2.1, by rw [f.I (by decide)]; exact g.2.2.2.2.2.2⟩, HF.of f (by decide), e5, e6⟩
theorem Gv.pre {l : Int64} {hr0 : AH} (a : Gv c D T p k l hc' hr) (e : LPm c hr0 = LPm c hr) (f : HF D hr0 hr) (q : ∀ j, j < T → gB hr 289 j = gB hr0 289 j) : Gv c D T p k l hc' hr0 := by
  obtain ⟨h1, a1, a2, a3, a4, a5⟩ := a
  exact ⟨h1, e.trans a1, a2, f.tr a3, a4, fun j hj => (a5 j hj).trans (q j hj)⟩
/-- a code that leaves one value in the place T of the pile -/
def Ok1 (h : AH) (T : Nat) (w : Int64) (q : Option Ot) : Prop := ∃ h1, q = some (none, h1) ∧ Fr [3723] [289] h h1 ∧ gI h1 3723 189 = nI (T + 1) ∧ gB h1 289 T = w ∧ ∀ j, j < T → gB h1 289 j = gB h 289 j
/-- a code that is refused -/
def Rf1 (h : AH) (e : Nat) (q : Option Ot) : Prop := ∃ h1, q = some (none, h1) ∧ Fr [3723, 3733] [289] h h1 ∧ gI h1 3733 189 = nI e
theorem Gv.op {w : Int64} {T' p' k' : Nat} {x y : Int32} {L : Cds} (K : KXs c) (g : Gs c D T p k hc hr) (h4 : p < 4400) (A : AT (hR c) (4400 * kn c 5 + p) ((x, y) :: L)) (hE : Ok1 (fet hr p) T' w (E (kn c 8 + 20) 152 [.ref 189, .int x, .int y] (fet hr p))) (f : Fr [1545] [] hc hc') (e2 : gI hc' 1545 175 = nI k') (hp : p' = p + 1) : Gv c D T' p' k' w hc' hr := by
  subst hp
  have hs := g.sR K
  obtain ⟨h1, a1, a2, a3, a4, a5⟩ := hE
  have f1 : Fr [3723, 3724, 3733] [289] hr h1 := (fet_fr.wk (by decide) (fun _ q => absurd q List.not_mem_nil)).trans (a2.wk (by decide) (fun _ q => q))
  refine ⟨h1, LP_ok K g h4 A a1 (f1.sh hs) ?_, ⟨(g.1.frC (f.wk (by decide) (fun _ q => q))).frR (f1.wk (by decide) (by decide)), by rw [f.I (by decide)]; exact g.2.1, e2, ?_, a3, by rw [f1.I (by decide)]; exact g.2.2.2.2.2.1, by rw [f1.I (by decide)]; exact g.2.2.2.2.2.2⟩, HF.of f1 (by decide), a4, fun j hj => (a5 j hj).trans (congrFun ((fet_fr (h := hr) (p := p)).B List.not_mem_nil) j)⟩
  · rw [a2.I (by decide)]; exact fet_c
  · rw [a2.I (by decide)]; exact fet_p
theorem Dd.op {e : Nat} {x y : Int32} {L : Cds} (K : KXs c) (g : Gs c D T p k hc hr) (h4 : p < 4400) (A : AT (hR c) (4400 * kn c 5 + p) ((x, y) :: L)) (hE : Rf1 (fet hr p) e (E (kn c 8 + 20) 152 [.ref 189, .int x, .int y] (fet hr p))) (he : 1 ≤ e ∧ e ≤ 8) {hd : AH} (fc : Fr [1545] [] hc hd) {n : Nat} (hn : 1 ≤ n) : ∃ hc', E n 365 [.ref 175, .int (nI e)] hd = some (none, hc') ∧ Fr [1547, 1555] [] hd hc' ∧ Dd c D hc' hr := by
  obtain ⟨h1, a1, a2, a3⟩ := hE
  have f : Fr [3723, 3724, 3733] [289] hr h1 := (fet_fr.wk (by decide) (fun _ q => absurd q List.not_mem_nil)).trans (a2.wk (by decide) (fun _ q => q))
  refine Dd.rf (h1 := h1) (u := some (.int (nI (4400 * kn c 5 + p)))) K ((g.1.frC (fc.wk (by decide) (fun _ q => q))).frR (f.wk (by decide) (by decide))) (by omega) a3 (by rw [f.I (by decide)]; exact g.2.2.2.2.2.2) (by rw [f.I (by decide)]; exact g.2.2.2.2.2.1) (HF.of f (by decide)) (fun z => absurd he.2 (by omega)) ?_ hn
  rw [LP_go g.1 K g.2.2.2.2.2.2 g.2.2.2.1 h4 A]
  show cK (E (kn c 8 + 20) 152 [.ref 189, .int x, .int y] (fet hr p)) _ [] = _
  rw [a1]
end EVR
