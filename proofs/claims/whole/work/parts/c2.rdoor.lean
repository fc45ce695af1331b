/-! ===== WORDS: the reference's door; the code among the words ===== -/
theorem asc_d {c : Nat} (h0 : c ≠ 0) (h : c < 37) : (48 ≤ asc c ∧ asc c ≤ 57 ↔ 27 ≤ c) ∧ (97 ≤ asc c ∧ asc c ≤ 122 ↔ c < 27) ∧ (27 ≤ c → asc c = c + 21) ∧ (c < 27 → asc c = c + 96) ∧ asc c < 200 := by
  unfold asc
  rw [if_neg h0]
  by_cases q : c < 27
  · rw [if_pos q]; omega
  · rw [if_neg q]; omega
section DOR
variable {d : Nat} {ws : List (List Nat)} {w : List Nat} {u : Nat}
theorem RWs.fr {K X : List Nat} {h h' : AH} (C : RWs h ws) (f : Fr K X h h') (hK : 3638 ∉ K ∧ 3639 ∉ K) (hX : 233 ∉ X ∧ 234 ∉ X ∧ 235 ∉ X) : RWs h' ws := by
  unfold RWs at C ⊢
  rw [f.I hK.1, f.I hK.2, f.A hX.1, f.A hX.2.1, f.A hX.2.2]; exact C
theorem CWs.fr {K X : List Nat} {h h' : AH} (C : CWs h ws) (f : Fr K X h h') (hK : 1028 ∉ K) (hX : 104 ∉ X ∧ 105 ∉ X ∧ 106 ∉ X) : CWs h' ws := by
  unfold CWs at C ⊢
  rw [f.I hK, f.A hX.1, f.A hX.2.1, f.A hX.2.2]; exact C
/-- the end of the reference's door -/
noncomputable def rDe (d : Nat) (h : AH) (x1 : Int32) : Option Ot := if x1 = nI 0 then
    some (some (.int (nI 0)), h)
   else
    if gA h 233 0 = nI 48 then
     some (some (.int (nI 0)), h)
    else
     if x1 < gA h 235 0 then
      gd x1 1200 <|
      cK (E d 38 [.int (gA h 233 (ix x1))] (sI h 3641 189 ((nI 27) * (gI h 3640 189)))) (Q d 70 108 [some (.ref 189), some (.int x1)]) []
     else
      if x1 = gA h 235 0 then
       some (some (.int (nI 1)), sI h 3641 189 ((nI 27) * (gI h 3640 189)))
      else
       some (some (.int (nI 0)), sI h 3641 189 ((nI 27) * (gI h 3640 189)))
theorem r_drl (V : WWb u ws) (e : ws[0]? = some w) (hfr : u ≤ 81) : ∀ (k n v : Nat) {h : AH}, Sh h → RWs h ws → gI h 3640 189 = nI v → k + n = 3 → n ≤ w.length → ∃ h', Q (d + 1) 70 7 [some (.ref 189), some (.int (nI n))] [] h = rDe (d + 1) h' (nI (drL w k n v).1) ∧ gI h' 3640 189 = nI (drL w k n v).2 ∧ Fr [3640] [] h h' := by
  intro k
  have lb := V.lb e
  have v1 := V.1
  rw [off_0, Nat.zero_add] at lb
  induction k with
  | zero =>
    intro n v h hs C ev hk hn
    have s2 := (C.2.2.1 0 w e).2
    refine ⟨h, ?_, ev, Fr.rfl⟩
    rw [t_70_7 hs, drL, if_neg (show ¬ nI n < nI 3 from nI_nlt (by omega) (by omega)), ite_self]; rfl
  | succ k ih =>
    intro n v h hs C ev hk hn
    have s2 := (C.2.2.1 0 w e).2
    rw [t_70_7 hs, s2, drL]
    by_cases q : n < w.length
    · have a := C.at e q
      rw [off_0, Nat.zero_add] at a
      obtain ⟨b0, b1⟩ := V.cd e q
      obtain ⟨d1, d2, d3, d4, d5⟩ := asc_d b0 b1
      rw [if_pos (nI_lt q (by omega)), if_pos (nI_lt (by omega) (by decide)), gd_nI (by omega) (by decide), ix_nI (by omega), a, r_digit hs (by omega), cK_v, t_70_31 hs]
      by_cases z : 27 ≤ w.getD n 0
      · have hf : Fr [3640] [] h (sI h 3640 189 (nI (10 * v + (w.getD n 0 - 27)))) := Fr.rfl.sI (List.mem_singleton.mpr rfl)
        obtain ⟨h', e1, e2, f'⟩ := ih (n + 1) (10 * v + (w.getD n 0 - 27)) (hf.sh hs) (C.fr hf (by decide) (by decide)) gI_s (by omega) (by omega)
        refine ⟨h', ?_, by rw [if_pos ⟨q, z⟩]; exact e2, hf.trans f'⟩
        rw [if_pos (d1.mpr z), if_neg (by decide), gd_nI (by omega) (by decide), ix_nI (by omega), a, ev, pk_mul, d3 z, nI_add, nI_add, pk_sub (by omega), show 10 * v + (w.getD n 0 + 21) - 48 = 10 * v + (w.getD n 0 - 27) from by omega, if_pos ⟨q, z⟩]
        exact e1
      · refine ⟨h, ?_, by rw [if_neg fun y => z y.2]; exact ev, Fr.rfl⟩
        rw [if_neg (c := 48 ≤ asc (w.getD n 0) ∧ asc (w.getD n 0) ≤ 57) (fun y => z (d1.mp y)), if_pos rfl, if_neg (c := n < w.length ∧ 27 ≤ w.getD n 0) (fun y => z y.2)]; rfl
    · refine ⟨h, ?_, by rw [if_neg fun y => q y.1]; exact ev, Fr.rfl⟩
      rw [if_neg (show ¬ nI n < nI w.length from nI_nlt (by omega) (by omega)), if_neg (c := n < w.length ∧ 27 ≤ w.getD n 0) (fun y => q y.1)]
      unfold rDe
      rw [s2, if_neg (show ¬ nI n < nI w.length from nI_nlt (by omega) (by omega))]
theorem r_rdDoor {h : AH} (hs : Sh h) (C : RWs h ws) (V : WWb u ws) (e : ws[0]? = some w) (hfr : u ≤ 81) : ∃ h', E (d + 2) 70 [.ref 189] h = some (some (.int (nI (if (doS w).isSome then 1 else 0))), h') ∧ Fr [3640, 3641] [] h h' ∧ ∀ v l, doS w = some (v, l) → gI h' 3640 189 = nI v ∧ gI h' 3641 189 = nI (27 * v + l) := by
  have lb := V.lb e
  have v1 := V.1
  have hw : ∀ i, i < w.length → w.getD i 0 < 37 := fun i hi => (V.cd e hi).2
  have hf : Fr [3640] [] h (sI h 3640 189 (nI 0)) := Fr.rfl.sI (List.mem_singleton.mpr rfl)
  obtain ⟨g, eg, ig, fg⟩ := r_drl (d := d) V e hfr 3 0 0 (hf.sh hs) (C.fr hf (by decide) (by decide)) gI_s rfl (Nat.zero_le _)
  have f1 := (hf.trans fg).wk (K' := [3640, 3641]) (X' := []) (by decide) (List.Subset.refl _)
  have hg := f1.sh hs
  have Cg := C.fr f1 (by decide) (by decide)
  have s2 := (Cg.2.2.1 0 w e).2
  have db := dr_b hw 3 0 0 (Nat.zero_le _)
  rw [off_0, Nat.zero_add] at lb
  rw [t_70 hs, eg]
  unfold rDe doS
  rw [s2]
  generalize drL w 3 0 0 = dd at *
  obtain ⟨n, v⟩ := dd
  simp only at db ig ⊢
  simp only [show (nI n = nI 0) = (n = 0) from propext (nI_eq (by omega) (by decide))]
  by_cases q0 : n = 0
  · rw [if_pos q0, if_pos (Or.inl q0)]
    exact ⟨g, rfl, f1, fun _ _ z => by cases z⟩
  · have a0 := Cg.at e (i := 0) (by omega)
    rw [off_0] at a0
    obtain ⟨b0, b1⟩ := V.cd e (i := 0) (by omega)
    obtain ⟨d1, d2, d3, d4, d5⟩ := asc_d b0 b1
    rw [if_neg q0, a0]
    simp only [show (nI (asc (w.getD 0 0)) = nI 48) = (w.getD 0 0 = 27) from propext ⟨fun z => by
      have z := (nI_eq (by omega) (by decide)).mp z
      by_cases y : w.getD 0 0 < 27
      · have := d4 y; omega
      · have := d3 (by omega); omega, fun z => by rw [z]; rfl⟩]
    by_cases q1 : w.getD 0 0 = 27
    · rw [if_pos q1, if_pos (Or.inr q1)]
      exact ⟨g, rfl, f1, fun _ _ z => by cases z⟩
    · rw [if_neg q1, if_neg (c := n = 0 ∨ w.getD 0 0 = 27) (fun z => z.elim q0 q1), ig, pk_mul]
      have f2 : Fr [3640, 3641] [] h (sI g 3641 189 (nI (27 * v))) := f1.sI (by decide)
      have g40 : ∀ x, gI (sI g 3641 189 x) 3640 189 = nI v := fun x => by
        show up2 (gI g) 3641 189 x 3640 189 = _
        rw [up2_k (by decide)]; exact ig
      simp only [show (nI n = nI w.length) = (n = w.length) from propext (nI_eq (by omega) (by omega))]
      by_cases q2 : n < w.length
      · have a : gA (sI g 3641 189 (nI (27 * v))) 233 n = nI (asc (w.getD n 0)) := by
          have a := Cg.at e q2
          rw [off_0, Nat.zero_add] at a; exact a
        have s2' : gA (sI g 3641 189 (nI (27 * v))) 235 0 = nI w.length := s2
        obtain ⟨b0, b1⟩ := V.cd e q2
        obtain ⟨d1, d2, d3, d4, d5⟩ := asc_d b0 b1
        have hs2 : Sh (sI g 3641 189 (nI (27 * v))) := hg.sI
        rw [if_pos (nI_lt q2 (by omega)), gd_nI (by omega) (by decide), ix_nI (by omega), show gA g 233 n = nI (asc (w.getD n 0)) from a, r_letter hs2 (by omega), cK_v, t_70_108 hs2, s2', gd_nI (by omega) (by decide), ix_nI (by omega), a, nI_add, gI_s]
        simp only [show (nI n = nI w.length) = (n = w.length) from propext (nI_eq (by omega) (by omega)), show (nI (n + 1) = nI w.length) = (n + 1 = w.length) from propext (nI_eq (by omega) (by omega))]
        by_cases q3 : w.getD n 0 < 27
        · rw [if_pos (d2.mpr q3), if_neg (by decide), if_pos (c := n < w.length ∧ w.getD n 0 < 27) ⟨q2, q3⟩, d4 q3, pk_sub (by omega), Nat.add_sub_cancel, nI_add]
          have f3 : Fr [3640, 3641] [] h (sI (sI g 3641 189 (nI (27 * v))) 3641 189 (nI (27 * v + w.getD n 0))) := f2.sI (by decide)
          by_cases q : n + 1 = w.length
          · rw [if_pos q, if_pos q]
            refine ⟨_, rfl, f3, fun v' l' z => ?_⟩
            cases z
            refine ⟨?_, gI_s⟩
            show up2 (gI (sI g 3641 189 (nI (27 * v)))) 3641 189 (nI (27 * v + w.getD n 0)) 3640 189 = _
            rw [up2_k (by decide)]; exact g40 _
          · rw [if_neg q, if_neg q]
            exact ⟨_, rfl, f3, fun _ _ z => by cases z⟩
        · rw [if_neg fun y => q3 (d2.mp y), if_pos rfl, if_neg (c := n < w.length ∧ w.getD n 0 < 27) (fun z => q3 z.2)]
          have z : ¬ n = w.length := by omega
          rw [if_neg z, if_neg z]
          exact ⟨_, rfl, f2, fun _ _ z => by cases z⟩
      · have z : n = w.length := by omega
        rw [if_neg (nI_nlt (by omega) (by omega)), if_neg (c := n < w.length ∧ w.getD n 0 < 27) (fun z => q2 z.1), if_pos z, if_pos z]
        refine ⟨_, rfl, f2, fun v' l' z => ?_⟩
        cases z
        exact ⟨g40 _, gI_s⟩
/-- a word of three digits -/
def isC (w : List Nat) : Bool := decide (w.length = 3) && (decide (27 ≤ w.getD 0 0) && (decide (27 ≤ w.getD 1 0) && decide (27 ≤ w.getD 2 0)))
theorem isC_i {w : List Nat} : isC w = true ↔ w.length = 3 ∧ 27 ≤ w.getD 0 0 ∧ 27 ≤ w.getD 1 0 ∧ 27 ≤ w.getD 2 0 := by
  unfold isC; simp only [Bool.and_eq_true, decide_eq_true_eq]
end DOR
