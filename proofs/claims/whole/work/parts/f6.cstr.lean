/-! ===== THE BOOK: a street's names and numbers (component) ===== -/
def nmT (t : Tp) (k : Nat) : Nat → List Nat
  | 0 => []
  | n + 1 => if n = 0 then ncod 12 (tV t (k + 1)) else nmT t k n ++ 0 :: ncod 12 (tV t (k + 1 + n))
theorem nmT_l {t : Tp} {k : Nat} : ∀ n, (nmT t k n).length + 1 ≤ 13 * n + 1 ∧ (0 < n → (nmT t k n).length + 1 ≤ 13 * n)
  | 0 => ⟨by rw [nmT]; decide, fun z => absurd z (by decide)⟩
  | n + 1 => by
    have ih := nmT_l (t := t) (k := k) n
    rw [nmT]
    by_cases q : n = 0
    · rw [if_pos q]; have := nc_l 12 (tV t (k + 1)); omega
    · rw [if_neg q, List.length_append, List.length_cons]
      have := nc_l 12 (tV t (k + 1 + n)); omega
theorem wr_sep {l l2 : List Nat} : wrL (wrL (fun _ => 0) 0 l) (l.length + 1) l2 = wrL (fun _ => 0) 0 (l ++ 0 :: l2) := by
  have e : wrL (fun _ => (0 : Int32)) 0 (l ++ [0]) = wrL (fun _ => 0) 0 l := by
    funext i
    unfold wrL
    by_cases q : 0 ≤ i ∧ i < 0 + l.length
    · rw [if_pos q, if_pos (by rw [List.length_append, List.length_singleton]; omega), List.getD_eq_getElem?_getD, List.getD_eq_getElem?_getD, List.getElem?_append_left (by omega)]
    · rw [if_neg q]
      by_cases z : 0 ≤ i ∧ i < 0 + (l ++ [0]).length
      · rw [if_pos z]
        rw [List.length_append, List.length_singleton] at z
        rw [show i - 0 = l.length from by omega, List.getD_eq_getElem?_getD, List.getElem?_append_right (Nat.le_refl _), Nat.sub_self]; rfl
      · rw [if_neg z]
  rw [show l ++ 0 :: l2 = (l ++ [0]) ++ l2 from by rw [List.append_assoc]; rfl, ← wr_wr, e, List.length_append, List.length_singleton, Nat.zero_add]
section CST
variable {d : Nat} {h : AH} {b : Nat} {t : Tp} {k : Nat}
/-- a row is copied into one that is just so long -/
theorem c_copyOf {x : Nat} {l : List Nat} (hs : Sh h) (c1 : gC h x = 60) (c2 : gK h x = 39) (hx : 296 ≤ x ∧ x < gN h) (hl : l.length < 39) (w : gA h x = wrL (fun _ => 0) 0 l) : ∃ h', E (d + 2) 349 [.ref x, .int (nI l.length)] h = some (some (.ref (gN h)), h') ∧ Sh h' ∧ NFr (gN h) h h' ∧ gN h' = gN h + 1 ∧ gS h' = gS h + l.length ∧ gC h' = up1 (gC h) (gN h) 60 ∧ gK h' = up1 (gK h) (gN h) l.length ∧ AN h' (gN h) l := by
  have hg := hs.2
  have hs1 : Sh (nwA h 60 l.length) := hs.nw
  have n1 : gC (nwA h 60 l.length) x = 60 := (nw_C (by omega)).trans c1
  have n2 : gK (nwA h 60 l.length) x = 39 := (nw_K (by omega)).trans c2
  have n3 : gC (nwA h 60 l.length) (gN h) = 60 := nw_C0
  have n4 : gK (nwA h 60 l.length) (gN h) = l.length := nw_K0
  refine ⟨cpA (nwA h 60 l.length) x 0 (gN h) 0 l.length, ?_, hs1.cpA, ?_, rfl, rfl, rfl, rfl, ⟨n3, n4, Or.inl hg, fun i hi => ?_⟩⟩
  · rw [t_349 hs, if_pos (by rw [c1]; decide), c2, if_neg (fun z => by have := (nI_eq (by omega) (by decide)).mp z; omega), if_neg (nI_pos (by omega)), ix_nI (by omega), if_pos (by omega), t_349_17 hs1, if_pos (by rw [n1]; decide), n2, m_min hs1 (by decide) (by omega), show min 39 l.length = l.length from by omega, cK_v, t_349_28 hs1, if_pos ⟨n1, n3, by omega, by omega, by decide⟩, if_neg (by
      rintro (w | w | w)
      · exact nI_pos (by omega) w
      · exact absurd w (by decide)
      · exact absurd w (by decide)), show ix (nI 0) = 0 from rfl, ix_nI (by omega), n2, n4, if_pos (by omega)]
  · have a : NFr (gN h) h (nwA h 60 l.length) := NFr.rfl.nw
    exact a.trans ⟨⟨Nat.le_refl _, Nat.le_refl _⟩, fun _ _ => ⟨Eq.refl _, Eq.refl _⟩, fun _ _ _ _ => Eq.refl _, fun _ _ _ _ => Eq.refl _, fun _ _ _ _ => Eq.refl _, fun x' _ w => ⟨up1_x (f := gA (nwA h 60 l.length)) fun e => w (Nat.le_of_eq e.symm), Eq.refl _⟩, fun _ _ _ => Eq.refl _⟩
  · show up1 (gA (nwA h 60 l.length)) (gN h) (va_cpy (gA (nwA h 60 l.length) x) (gA (nwA h 60 l.length) (gN h)) 0 0 l.length) (gN h) i = _
    rw [up1_s, pk_cpy_in (by omega) (by omega), Nat.zero_add, Nat.sub_zero, nw_A (by omega), w]
    have := wr_in (f := fun _ => (0 : Int32)) (s := 0) hi
    rw [Nat.zero_add] at this
    rw [this, List.getD_eq_getElem?_getD, List.getElem?_eq_getElem hi]; rfl
def nmFs (t : Tp) (k n : Nat) : List Nat := [if n = 0 then fX t 1 (k + 1) else 0, fW t (k + 1 + n) (kw 4)]
/-- what the names come to -/
def NmR (h h' : AH) (b : Nat) (t : Tp) (k x n f : Nat) : Prop := BFr x h h' ∧ gN h' ≤ gN h + 1 ∧ gS h' ≤ gS h + 39 ∧ (∃ kk, CPs h' b t kk) ∧ (f ≠ 0 → gI h' 519 b = nI f) ∧ (f = 0 → gI h' 519 b = gI h 519 b ∧ CPs h' b t (k + 1 + n) ∧ gC h' x = 11 ∧ ∃ y, gR h' 2816 x = some y ∧ AN h' y (nmT t k n) ∧ x < y ∧ y < gN h')
theorem Fr.xf {h h' : AH} {x : Nat} (f : Fr [] [x] h h') {b k : Nat} {t : Tp} (hx : 296 ≤ x) (C : CPs h b t k) : CPs h' b t k := by
  obtain ⟨p1, p2, p3, p4, p5, p6, p7⟩ := C
  exact ⟨f.sh p1, p2.fr f, p3.fr f List.not_mem_nil (fun y hy => by have := List.mem_singleton.mp hy; omega), p4.fr f List.not_mem_nil (fun q => by have := List.mem_singleton.mp q; omega), p5.fr f (fun q _ => List.not_mem_nil), by rw [f.2.1]; exact p6, by rw [f.2.2.2.1]; exact p7⟩
theorem CPs.sR {h : AH} {b k : Nat} {t : Tp} {kk x : Nat} {v : Option Nat} (C : CPs h b t k) (hk : kk ≠ 520) (hs : Sh (sR h kk x v)) : CPs (sR h kk x v) b t k :=
  ⟨hs, C.2.1, C.2.2.1, C.2.2.2.1, C.2.2.2.2.1, C.2.2.2.2.2.1, by rw [gR_k hk.symm]; exact C.2.2.2.2.2.2⟩
theorem wi_2 : ∀ v : Int64, wiS v (chS 2) 0 0 = [kw 4].findIdx? (fun w => decide (lN w = v)) := wi_z (by decide +kernel)
theorem c_nml {x T : Nat} (hx : 296 ≤ x) (hxT : x < T) : ∀ (r i : Nat) {H : AH}, r + i = 3 → CPs H b t (k + i) → (∀ j, j < i → isNm t (k + 1 + j)) → b < x → gC H x = 11 → gC H T = 60 → gK H T = 39 → gA H T = wrL (fun _ => 0) 0 (nmT t k i) → ∃ h' f, Q (d + 8) 285 10 [some (.ref b), some (.ref x), some (.ref T), some (.int (nI (nmT t k i).length)), some (.int (nI i)), none] [] H = some (some (.int (bz f)), h') ∧ f = ff (nmFs t k (nmR t (k + 1) r i)) ∧ NmR H h' b t k x (nmR t (k + 1) r i) f := by
  intro r
  induction r with
  | zero =>
    intro i H e C nm hb cx cT kT w
    obtain rfl : i = 3 := by omega
    have nl := (nmT_l (t := t) (k := k) 3).2 (by decide)
    have gx := C.2.1.lt cx (by decide)
    have gT := C.2.1.lt cT (by decide)
    obtain ⟨g1, a1, s1, n1, m1, m2, m3, m4, an⟩ := c_copyOf (d := d + 6) (l := nmT t k 3) C.1 cT kT (by omega) (by omega) w
    have hw1 : HW g1 := (E_mx a1).1 C.2.1
    have cx1 : gC g1 x = 11 := by rw [m3, up1_x (by omega)]; exact cx
    have C1 : CPs g1 b t (k + 3) := C.nf n1 (Nat.le_refl _) s1 hw1
    have s2 : Sh (sR g1 2816 x (some (gN H))) := s1.sR (Or.inl (inS_ge hx))
    have C2 := C1.sR (by decide) s2
    obtain ⟨g3, a3, C3, F3, I3⟩ := c_tWd (d := d) C2 (z := 2) (v := kw 4) (by decide) (by decide +kernel) wi_2 (by decide +kernel)
    have eN : nmR t (k + 1) 0 3 = 3 := rfl
    have eF : ff (nmFs t k 3) = fW t (k + 4) (kw 4) := by unfold nmFs; rw [if_neg (by decide), ff_0, ff_1]
    refine ⟨g3, fW t (k + 4) (kw 4), ?_, by rw [eN, eF], ?_⟩
    · rw [t_285_10 C.1, if_neg (by decide), a1, cK_v, t_285_109 s1, ck_ok cx1, ck_ok C1.2.2.2.2.2.1, a3, cK_v, t_285_118 C3.1, bz_ret]
    · have bf : BFr x H g3 := (((n1.bf).lo (by omega)).sR (Nat.le_refl _)).trans (Fr.bf F3)
      refine ⟨bf, by rw [F3.ct.1]; show gN g1 ≤ _; omega, by rw [F3.ct.2]; show gS g1 ≤ _; omega, ⟨_, C3⟩, fun z => by rw [I3, if_neg z], fun z => ⟨?_, C3, by rw [F3.2.1]; exact cx1, gN H, ?_, ?_, by omega, by rw [F3.ct.1]; show gN H < gN g1; omega⟩⟩
      · rw [I3, if_pos z]; show gI g1 519 b = _
        exact n1.2.2.1 519 b (by omega) (by omega)
      · rw [F3.2.2.2.1, gR_s]
      · obtain ⟨y1, y2, y3, y4⟩ := an
        exact ⟨by rw [F3.2.1]; exact y1, by rw [F3.2.2.1]; exact y2, y3, fun j hj => by rw [F3.gA']; exact y4 j hj⟩
  | succ r ih =>
    intro i H e C nm hb cx cT kT w
    have gx := C.2.1.lt cx (by decide)
    have gT := C.2.1.lt cT (by decide)
    obtain ⟨g1, a1, C1, F1, I1⟩ := c_tNm (d := d) C
    rw [t_285_10 C.1, if_pos (nI_lt (by omega) (by decide)), ck_ok C.2.2.2.2.2.1, a1, cK_v, t_285_20 C1.1]
    have e1 : k + i + 1 = k + 1 + i := by omega
    rw [e1] at C1 I1
    rw [e1]
    have cx1 : gC g1 x = 11 := by rw [F1.2.1]; exact cx
    have cT1 : gC g1 T = 60 := by rw [F1.2.1]; exact cT
    have kT1 : gK g1 T = 39 := by rw [F1.2.2.1]; exact kT
    have w1 : gA g1 T = wrL (fun _ => 0) 0 (nmT t k i) := by rw [F1.gA']; exact w
    by_cases q1 : ¬ (fm t (k + 1 + i) = 0)
    · have nn : ¬ isNm t (k + 1 + i) := fun z => q1 (if_pos z.1)
      have eN : nmR t (k + 1) (r + 1) i = i := by rw [nmR, if_neg nn]
      have eF : ff (nmFs t k i) = fm t (k + 1 + i) := by
        unfold nmFs
        have e2 : fm t (k + 1 + i) = fX t 1 (k + 1 + i) := by
          unfold fm at q1 ⊢
          by_cases z : tK t (k + 1 + i) = 2
          · rw [if_pos z] at q1; exact absurd rfl q1
          · rw [if_neg z]
        rw [e2]
        by_cases z : i = 0
        · rw [if_pos z, ff_n (fX_n (by decide)), z]
        · rw [if_neg z, ff_0, ff_1]
          unfold fW
          rw [if_neg fun y => q1 (if_pos y.1)]
      rw [bz_n q1, if_pos rfl]
      refine ⟨g1, fm t (k + 1 + i), by rw [bz_n q1], by rw [eN, eF], Fr.bf F1, by rw [F1.ct.1]; omega, by rw [F1.ct.2]; omega, ⟨_, C1⟩, fun _ => by rw [I1, if_neg q1], fun z => absurd z q1⟩
    have q1 := Decidable.not_not.mp q1
    have k1 := fm_0 q1
    rw [q1, if_pos rfl] at I1
    have wi := c_wI (d := d + 3) C1 (z := 2) (l := [kw 4]) (by decide) (by decide +kernel) wi_2 (fun w hw => by rw [List.mem_singleton.mp hw]; decide +kernel)
    rw [q1, bz_0, if_neg (by decide), ck_ok C1.2.2.2.2.2.1, C1.2.2.2.2.2.2, Option.bind_some, ck_ok C1.1.t101.1, wi, cK_v, t_285_34 C1.1]
    by_cases q2 : tV t (k + 1 + i) = kw 4
    · have ew : wI t (k + 1 + i) [kw 4] = some 0 := by unfold wI; rw [if_pos k1, List.findIdx?_cons, decide_eq_true q2.symm]; rfl
      have nn : ¬ isNm t (k + 1 + i) := fun z => z.2 q2
      have eN : nmR t (k + 1) (r + 1) i = i := by rw [nmR, if_neg nn]
      rw [ew, if_pos (show oI (some 0) = nI 0 from rfl), if_neg (by decide), ife (by omega) (by decide)]
      by_cases z : i = 0
      · obtain ⟨g2, d1, d2, d3, d4⟩ := c_fail (d := d + 7) C1 (c := 1) (by decide)
        have nz : fX t 1 (k + 1 + i) ≠ 0 := fX_n (by decide)
        rw [if_pos z, ck_ok C1.2.2.2.2.2.1, d1, cK_v, t_285_59 d2.1, if_pos (by decide)]
        refine ⟨g2, fX t 1 (k + 1 + i), by rw [bz_n nz], ?_, (Fr.bf F1).trans (Fr.bf d3), by rw [d3.ct.1, F1.ct.1]; omega, by rw [d3.ct.2, F1.ct.2]; omega, ⟨_, d2⟩, fun _ => d4, fun y => absurd y nz⟩
        rw [eN]; unfold nmFs; rw [if_pos z, ff_n (fX_n (by decide)), z]
      · have nl := nmT_l (t := t) (k := k) i
        obtain ⟨g2, a2, s2, n2, m1, m2, m3, m4, an⟩ := c_copyOf (d := d + 6) (l := nmT t k i) C1.1 cT1 kT1 (by rw [F1.ct.1]; omega) (by omega) w1
        have hw2 : HW g2 := (E_mx a2).1 C1.2.1
        have gN1 : gN g1 = gN H := F1.ct.1
        have gS1 : gS g1 = gS H := F1.ct.2
        have cx2 : gC g2 x = 11 := by rw [m3, up1_x (by omega)]; exact cx1
        have C2 : CPs g2 b t (k + 1 + i) := C1.nf n2 (Nat.le_refl _) s2 hw2
        have s3 : Sh (sR g2 2816 x (some (gN g1))) := s2.sR (Or.inl (inS_ge hx))
        have C3 := C2.sR (by decide) s3
        have eF : ff (nmFs t k i) = 0 := by
          unfold nmFs; rw [if_neg z, ff_0, ff_1]; unfold fW; rw [if_pos ⟨k1, q2⟩]
        rw [if_neg z, if_neg (by decide), a2, cK_v, t_285_71 s2, ck_ok cx2]
        refine ⟨_, 0, rfl, by rw [eN, eF], ((Fr.bf F1).trans ((n2.bf.lo (by omega)).sR (Nat.le_refl _))), by show gN g2 ≤ _; omega, by show gS g2 ≤ _; omega, ⟨_, C3⟩, fun y => absurd rfl y, fun _ => ⟨?_, by rw [eN]; exact C3, cx2, gN g1, gR_s, by rw [eN]; exact an, by omega, by show gN g1 < gN g2; omega⟩⟩
        show gI g2 519 b = _
        rw [n2.2.2.1 519 b (by omega) (by omega), I1]
    · have ew : wI t (k + 1 + i) [kw 4] = none := by unfold wI; rw [if_pos k1, List.findIdx?_cons, decide_eq_false (fun y => q2 y.symm)]; rfl
      have nn : isNm t (k + 1 + i) := ⟨k1, q2⟩
      have eN : nmR t (k + 1) (r + 1) i = nmR t (k + 1) r (i + 1) := by rw [nmR, if_pos nn]
      rw [ew, if_neg (show ¬ oI none = nI 0 by decide), if_pos rfl, if_pos rfl, ck_ok C1.2.2.2.2.2.1, C1.2.2.2.2.2.2, Option.bind_some, ife (by omega) (by decide), eN]
      have nl := nmT_l (t := t) (k := k) i
      have ncl := nc_l 12 (tV t (k + 1 + i))
      have go : ∀ fr : Nat, (i = 0 → fr = 0) → (i ≠ 0 → fr = (nmT t k i).length + 1) → ∃ h' f, cK (E (d + 8) 279 [.ref 101, .ref T, .int (nI fr)] g1) (Q (d + 8) 285 96 [some (.ref b), some (.ref x), some (.ref T), none, some (.int (nI i)), none]) [] = some (some (.int (bz f)), h') ∧ f = ff (nmFs t k (nmR t (k + 1) r (i + 1))) ∧ NmR H h' b t k x (nmR t (k + 1) r (i + 1)) f := fun fr hf0 hf1 => by
        obtain ⟨g2, a2, F2, w2⟩ := c_cpy (d := d + 6) (x := T) (fr := fr) (K := 39) (by omega) k1 C1.1 C1.2.2.2.1 C1.2.2.2.2.1 cT1 kT1 (by decide) (by
          by_cases z : i = 0
          · have := hf0 z; omega
          · have := hf1 z; have := nl.2 (by omega); omega)
        have hs2 := F2.sh C1.1
        have C2 : CPs g2 b t (k + (i + 1)) := by
          have := F2.xf (by omega) C1
          rw [show k + 1 + i = k + (i + 1) from by omega] at this; exact this
        have lE : fr + (ncod 12 (tV t (k + 1 + i))).length = (nmT t k (i + 1)).length := by
          rw [nmT]
          by_cases z : i = 0
          · rw [if_pos z, hf0 z, Nat.zero_add]; subst z; rfl
          · rw [if_neg z, List.length_append, List.length_cons, hf1 z]; omega
        have wE : gA g2 T = wrL (fun _ => 0) 0 (nmT t k (i + 1)) := by
          rw [w2, w1, nmT]
          by_cases z : i = 0
          · rw [if_pos z, hf0 z, z]
            show wrL (wrL (fun _ => 0) 0 (nmT t k 0)) 0 _ = _
            rw [nmT, wr_nil]
          · rw [if_neg z, hf1 z, wr_sep]
        obtain ⟨h', f, o1, o2, o3⟩ := ih (i + 1) (by omega) C2 (fun j hj => by
          by_cases z : j = i
          · rw [z]; exact nn
          · exact nm j (by omega)) hb (by rw [F2.2.1]; exact cx1) (by rw [F2.2.1]; exact cT1) (by rw [F2.2.2.1]; exact kT1) wE
        rw [a2, cK_v, t_285_96 hs2, nI_add, lE]
        refine ⟨h', f, o1, o2, ?_⟩
        obtain ⟨r1, r2, r3, r4, r5, r6⟩ := o3
        refine ⟨((Fr.bf F1).trans (Fr.nf F2 (by omega)).bf).trans r1, by have := F2.ct.1; have := F1.ct.1; omega, by have := F2.ct.2; have := F1.ct.2; omega, r4, r5, fun z => ?_⟩
        obtain ⟨y1, y2⟩ := r6 z
        exact ⟨by rw [y1, F2.I List.not_mem_nil, I1], y2⟩
      by_cases z : i = 0
      · rw [if_pos z, ck_ok C1.1.t101.1]
        exact go 0 (fun _ => rfl) (fun y => absurd z y)
      · rw [if_neg z, ck_ok C1.1.t101.1, nI_add]
        exact go _ (fun y => absurd y z) (fun _ => rfl)
theorem c_names {x : Nat} (hx : 296 ≤ x) (C : CPs h b t k) (hb : b < x) (cx : gC h x = 11) : ∃ h' f, E (d + 9) 285 [.ref b, .ref x] h = some (some (.int (bz f)), h') ∧ f = ff (nmFs t k (nmC t (k + 1))) ∧ BFr x h h' ∧ gN h' ≤ gN h + 2 ∧ gS h' ≤ gS h + 78 ∧ (∃ kk, CPs h' b t kk) ∧ (f ≠ 0 → gI h' 519 b = nI f) ∧ (f = 0 → gI h' 519 b = gI h 519 b ∧ CPs h' b t (k + 1 + nmC t (k + 1)) ∧ gC h' x = 11 ∧ ∃ y, gR h' 2816 x = some y ∧ AN h' y (nmT t k (nmC t (k + 1))) ∧ x < y ∧ y < gN h') := by
  have gx := C.2.1.lt cx (by decide)
  have s1 : Sh (nwA h 60 39) := C.1.nw
  have n1 : NFr (gN h) h (nwA h 60 39) := NFr.rfl.nw
  have C1 : CPs (nwA h 60 39) b t k := C.nf n1 (Nat.le_refl _) s1 (HW.nw C.2.1)
  obtain ⟨h', f, o1, o2, r1, r2, r3, r4, r5, r6⟩ := c_nml (d := d) (k := k) (T := gN h) hx gx 3 0 rfl C1 (fun j hj => absurd hj (by omega)) hb ((nw_C (by omega)).trans cx) nw_C0 nw_K0 (by rw [nw_A0]; funext i; unfold wrL; rw [if_neg (by rw [nmT, List.length_nil]; omega)])
  refine ⟨h', f, ?_, o2, (n1.bf.lo (by omega)).trans r1, ?_, ?_, r4, r5, fun z => ?_⟩
  · rw [t_285 C.1, t_285_4 s1]; exact o1
  · have : gN (nwA h 60 39) = gN h + 1 := rfl
    omega
  · have : gS (nwA h 60 39) = gS h + 39 := rfl
    omega
  · obtain ⟨y1, y2⟩ := r6 z
    exact ⟨by rw [y1]; exact n1.2.2.1 519 b (by omega) (by omega), y2⟩
end CST
