/-! ===== THE WRAPPERS' CALLS ARE MET ===== -/
section WMT
variable {l : Launch} {z : State} {D : va_G} {dA : Nat → ClassId} {za : Array Value} {ext : Nat → Nat}
/-- a method that throws in such a way -/
def thM (l : Launch) (z : State) (D : va_G) (dA : Nat → ClassId) (ext : Nat → Nat) (yv P0 : Nat) (cls : String) : Prop := ∀ (d : Nat) (as : Vs) (h h1 : AH), 8 ≤ d → (arL as).length ≤ mL yv → TQ P0 d yv 0 (pdL (arL as) (mL yv)) [] h = some (some (.double 0), h1) → ∀ φ : Nat → Nat,
  vx_Met l (mY yv) [Cond.code (mY yv) (mB yv) (mL yv) (mT yv)] { frames := d + 1, cells := gN h1 + 1 - gN h, slots := gS h1 + 6 - gS h, locals := 100 * (d + 1) }
      (fun a U => a = (as.map (vmp φ)).toArray ∧ z.WarmedH U.vm ∧ HR z D dA φ h U.heap ∧ vlS (gN h) as ∧ ∀ x, x < 100 → φ x = ext x) (fun _ _ _ _ => False)
      (fun E _ t => E = cls ∧ ∃ φ' : Nat → Nat, (∀ x, x < gN h → φ' x = φ x) ∧ HR z D dA φ' h1 t.heap) (gN h1 + 1 - gN h) (gS h1 + 6 - gS h) (fun q => z.heap.size ≤ q)
theorem thM_of (hl : l.stackTraces = false) (G : GL mY mB mL mT mK exS exZ z ext) (E0 : EV z za D dA) (hU0 : vx_Zq Bundle.tN "UNASSIGNED_STACK" Bundle.steD (fun q => z.heap.size ≤ q) z z.heap) (hN0 : vx_Zq Bundle.tN "SUPPRESSED_SENTINEL" Bundle.listD (fun q => z.heap.size ≤ q) z z.heap) {y P ik is ic sid : Nat} {cls : String} (hp : plainName (mY y).cls = true) (hok : okT mY mB mL mT mK exS exZ cdF y) (F : thF mY mB exS y P ik is ic sid cls) : thM l z D dA ext y P cls := fun d as h h1 hd hlen q φ => by
  obtain ⟨N, q⟩ := TQ_N q
  exact thr_met hl G E0 hcd hp hok hU0 hN0 F hd hlen q φ
theorem thM_n (hl : l.stackTraces = false) (G : GL mY mB mL mT mK exS exZ z ext) (E0 : EV z za D dA) (hU0 : vx_Zq Bundle.tN "UNASSIGNED_STACK" Bundle.steD (fun q => z.heap.size ≤ q) z z.heap) (hN0 : vx_Zq Bundle.tN "SUPPRESSED_SENTINEL" Bundle.listD (fun q => z.heap.size ≤ q) z z.heap) {y P ik is ic sid : Nat} (hp : plainName (mY y).cls = true) (hok : okT mY mB mL mT mK exS exZ cdF y) (F : nxFq mY mB exS y P ik is ic sid) : thM l z D dA ext y P nxN := fun d as h h1 hd hlen q φ => by
  obtain ⟨N, q⟩ := TQ_N q
  exact thr_metN hl G E0 hcd hp hok hU0 hN0 F hd hlen q φ
theorem wr_met (hl : l.stackTraces = false) (G : GL mY mB mL mT mK exS exZ z ext) (E0 : EV z za D dA) {wn : MethodName} {cc : ByteArray} {nL hs1 he hp ct : Nat} {wd : List (List CR)} (hy : plainName wn.cls = true) (hwd : ∀ pc, (cdR wd pc).1 = .nop ∨ okB wQ wQ0 mY mK exS exZ wn.cls cc nL false (some .int) pc (cdR wd pc) = true)
    {yv Pi idx na P0 : Nat} {lg : Bool} {cls : String} {pre : Vs} {as : Vs} {lo1 ml : Ls} (hlen : (arL as).length ≤ nL) (hdec : decode cc Pi = .ok (.invokevirtual idx, 3)) (hna : pre.length = na) (hmk : mK yv = (1, 13, na)) (hml : Cond.methodLink wn.cls idx (mY yv) ∈ lw_tbl ∧ goodWord (Cond.methodLink wn.cls idx (mY yv)) = true)
    (hcov : covers ((tableOf [(hs1, he, hp, ct)]).headD default) Pi = true) (hct : ct ≠ 0) (hcl : Cond.classLink wn.cls ct cls ∈ lw_tbl ∧ goodWord (Cond.classLink wn.cls ct cls) = true) (hca : Cond.castable cls cls ∈ lw_tbl)
    (hM : thM l z D dA ext yv P0 cls) (hmlv : (arL (Value.ref 100 :: pre.reverse)).length ≤ mL yv) (hml2 : ml = pdL (arL (Value.ref 100 :: pre.reverse)) (mL yv))
    (eA : ∀ (d : Nat) (h : AH), Sh h → Rn cdF mL d (cdR wd) 0 (pdL (arL as) nL) [] h = cK (E d yv (Value.ref 100 :: pre.reverse) h) (Rn cdF mL d (cdR wd) (Pi + 3) lo1) [.int (nI 0), .ref 295])
    (eB : ∀ (d : Nat) (h : AH) (w : Value), Sh h → isL lg w → Rn cdF mL d (cdR wd) (Pi + 3) lo1 [w, .int (nI 0), .ref 295] h = some (some (.int 0), sB h 295 0 (lv64 w)))
    (eU : ∀ (d : Nat) (h : AH) (chk : Ls → Vs → AH → Prop), Sh h → RnT cdF mL d (cdR wd) Pi chk 0 (pdL (arL as) nL) [] h = RnT cdF mL d (cdR wd) Pi chk Pi lo1 (pre ++ [.ref 100, .int (nI 0), .ref 295]) h)
    (eH : ∀ (d e : Nat) (h : AH), Rn cdF mL d (cdR wd) hp lo1 [.ref e] h = some (some (.int 1), h)) {d : Nat} (hd : 8 ≤ d) {h : AH} {o : Ot} (R : WR d yv P0 lg (Value.ref 100 :: pre.reverse) ml h o) : MetW wn cc nL [(hs1, he, hp, ct)] l z D dA ext (d + 1) as h o := by
  rcases R with ⟨w, h1, e1, s0, s1, iw, rfl⟩ | ⟨e1, h1, e2, s0, s1, rfl⟩
  · have q : Rn cdF mL (d + 1) (cdR wd) 0 (pdL (arL as) nL) [] h = some (some (.int 0), sB h1 295 0 (lv64 w)) := by
      rw [eA _ _ s0, e1, cK_v]; exact eB _ _ _ s1 iw
    obtain ⟨N, q⟩ := Rn_N q
    exact wrpA G E0 hcd hy hwd hlen (q N (Nat.le_refl _))
  · have q1 : RnT cdF mL (d + 1) (cdR wd) Pi (fun lo st _ => lo = lo1 ∧ st = pre ++ [.ref 100, .int (nI 0), .ref 295]) 0 (pdL (arL as) nL) [] h = some (some (.double 0), h) := by
      rw [eU _ _ _ s0]; exact RnT_at ⟨rfl, rfl⟩
    have q3 := eH (d + 1) (gN h1) (nw h1 0 0 6)
    obtain ⟨N1, q1⟩ := RnT_N q1
    obtain ⟨N3, q3⟩ := Rn_N q3
    have hm : mo h (some (.double 0), h1) := by
      obtain ⟨N, q⟩ := TQ_N e2
      exact rnT_mo (evM_mo d) N 0 _ _ _ q
    rw [hml2] at e2
    exact wrpB hl G E0 (N := N1 + N3) hcd hy hwd (d' := d) (h1 := h) (h2 := h1) hlen hdec rfl hna ((ShC s0 (by decide)).trans rfl) (by decide) hmk hml hcov hct hcl hca (Nat.le_refl _) (fun φ => hM d _ h h1 hd hmlv e2 φ) ⟨hm.1, hm.2⟩ (q1 _ (by omega)) (q3 _ (by omega))
end WMT
