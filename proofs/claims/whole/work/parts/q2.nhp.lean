/-! ===== number, held, place, on both sides ===== -/
section NHP
variable {d ni : Nat} {h g : AH}
/-- number -/
theorem num_b (hs : Sh h) (sg : Sh g) (mm : MRe h g ni) (k : Int32) : (∀ j, hv k 10 = some j → ∃ w, E (d + 1) 24 [.ref 100, .int k] h = some (some (.long w), h) ∧ E (d + 1) 177 [.ref 189, .int k] g = some (some (.long w), sI g 3586 189 (nI 0))) ∧ (hv k 10 = none → E (d + 1) 177 [.ref 189, .int k] g = some (some (.long 0), sI g 3586 189 (nI 1))) := by
  obtain ⟨ty, a2, p1, p2, mk, rf, m1, -⟩ := mm
  rcases hv_c k (show 10 < 2 ^ 31 by decide) with ⟨e, w⟩ | ⟨j, hj, rfl, e⟩
  · refine ⟨(fun j z => by rw [e] at z; cases z), fun _ => ?_⟩
    rw [t_177 sg]
    rcases w with w | ⟨w1, w2⟩
    · rw [if_pos w, if_pos (by decide)]
    · rw [if_neg w1, if_neg w2, if_pos (by decide)]
  · have n0 : ¬ nI j < nI 0 := nI_nlt (by omega) (by omega)
    refine ⟨fun _ _ => ⟨gB h 176 j, ?_, ?_⟩, fun z => by rw [e] at z; cases z⟩
    · rw [t_24 hs, if_neg n0, if_pos (nI_lt hj (by decide)), gd_nI hj (by decide), ix_nI (by omega)]
    · rw [t_177 sg, if_neg n0, if_pos (nI_lt hj (by decide)), if_neg (by decide), gd_nI hj (by decide), ix_nI (by omega), m1 j hj]
/-- held -/
theorem held_b (hs : Sh h) (sg : Sh g) (mm : MRe h g ni) (k : Int32) : (∀ j, hv k 4 = some j → ∃ w, E (d + 1) 25 [.ref 100, .int k] h = some (some (.int w), h) ∧ E (d + 1) 178 [.ref 189, .int k] g = some (some (.int w), sI g 3586 189 (nI 0))) ∧ (hv k 4 = none → E (d + 1) 178 [.ref 189, .int k] g = some (some (.int (nI 0)), sI g 3586 189 (nI 1))) := by
  obtain ⟨ty, a2, p1, p2, mk, rf, m1, m2, -⟩ := mm
  rcases hv_c k (show 4 < 2 ^ 31 by decide) with ⟨e, w⟩ | ⟨j, hj, rfl, e⟩
  · refine ⟨(fun j z => by rw [e] at z; cases z), fun _ => ?_⟩
    rw [t_178 sg]
    rcases w with w | ⟨w1, w2⟩
    · rw [if_pos w, if_pos (by decide)]
    · rw [if_neg w1, if_neg w2, if_pos (by decide)]
  · have n0 : ¬ nI j < nI 0 := nI_nlt (by omega) (by omega)
    refine ⟨fun _ _ => ⟨gA h 177 j, ?_, ?_⟩, fun z => by rw [e] at z; cases z⟩
    · rw [t_25 hs, if_neg n0, if_pos (nI_lt hj (by decide)), gd_nI hj (by decide), ix_nI (by omega)]
    · rw [t_178 sg, if_neg n0, if_pos (nI_lt hj (by decide)), if_neg (by decide), gd_nI hj (by decide), ix_nI (by omega), (m2 j hj).1]
/-- place: which place of the rows it is, if there is one -/
def plcS (h : AH) (t k : Int32) : Option Nat := match hv t 12 with
  | none => none
  | some j => if gA h 178 j = nI 0 then none else if k < nI 0 then none else if k < gA h 180 j then some (ix (gA h 179 j + k)) else none
theorem place_b (hs : Sh h) (sg : Sh g) (mm : MRe h g ni) (t k : Int32) : (∀ j, plcS h t k = some j → ∃ w, E (d + 1) 27 [.ref 100, .int t, .int k] h = some (some (.long w), h) ∧ E (d + 1) 180 [.ref 189, .int t, .int k] g = some (some (.long w), sI g 3586 189 (nI 0))) ∧ (plcS h t k = none → E (d + 1) 180 [.ref 189, .int t, .int k] g = some (some (.long 0), sI g 3586 189 (nI 1))) := by
  obtain ⟨ty, a2, p1, p2, mk, rf, m1, m2, m3, m4, mn, -, m6, m7⟩ := mm
  have p20 := mn.1
  unfold plcS
  rcases hv_c t (show 12 < 2 ^ 31 by decide) with ⟨e, w⟩ | ⟨j, hj, rfl, e⟩
  · rw [e]
    refine ⟨(fun j z => by cases z), fun _ => ?_⟩
    rw [t_180 sg]
    rcases w with w | ⟨w1, w2⟩
    · rw [if_pos w, if_pos (by decide)]
    · rw [if_neg w1, if_neg w2, if_pos (by decide)]
  · rw [e]
    dsimp only
    have n0 : ¬ nI j < nI 0 := nI_nlt (by omega) (by omega)
    rw [t_180 sg, if_neg n0, if_pos (nI_lt hj (by decide)), gd_nI hj (by decide), ix_nI (by omega)]
    rcases m6 j hj with ⟨x1, x2⟩ | ⟨kk, f, z, m, q, x1, x2, x3, x4, x5, x6, x7, x8, x9, x10, x11, x12, x13, x14⟩
    · rw [x1, if_pos rfl, x2, if_pos (by decide), if_pos (by decide)]
      exact ⟨fun j z => (by cases z), fun _ => rfl⟩
    · have nz : ¬ nI kk = nI 0 := fun w => by have := (nI_eq (by omega) (by decide)).mp w; omega
      rw [x3, if_neg nz, x7, if_neg (nI_nlt (by omega) (by omega))]
      by_cases k0 : k < nI 0
      · rw [if_pos k0, if_pos k0, if_pos (by decide)]
        exact ⟨fun j z => (by cases z), fun _ => rfl⟩
      · rw [if_neg k0, if_neg k0, gd_nI hj (by decide), gd_nI x8 (by decide), ix_nI (by omega), x11, x5]
        rcases hv_c k (show z < 2 ^ 31 by omega) with ⟨e2, w⟩ | ⟨a, ha, rfl, e2⟩
        · have kz : ¬ k < nI z := by
            rcases w with w | ⟨w1, w2⟩
            · exact absurd w k0
            · exact w2
          rw [if_neg kz, if_neg kz, if_pos (by decide)]
          exact ⟨fun j z => (by cases z), fun _ => rfl⟩
        · have kz : nI a < nI z := nI_lt ha (by omega)
          rw [if_pos kz, if_pos kz, x4, nI_add]
          refine ⟨fun j' _ => ⟨gB h 182 (f + a), ?_, ?_⟩, fun z => by cases z⟩
          · rw [t_27 hs, if_neg n0, if_pos (nI_lt hj (by decide)), gd_nI hj (by decide), ix_nI (by omega), x3, if_neg nz, if_neg k0, gd_nI hj (by decide), x5, if_pos kz, gd_nI hj (by decide), x4, nI_add, gd_nI (by omega) (by decide), ix_nI (by omega)]
          · rw [if_neg (by decide), gd_nI hj (by decide), gd_nI x8 (by decide), x10, nI_add, gd_nI (by omega) (by decide), ix_nI (by omega), m3 _ (by omega)]
/-- the least tray with the same row -/
theorem tr_lp {d' : Nat} (hs : Sh h) (sg : Sh g) {j q : Nat} (hj : j < 12) (hq : q < 13) (ej : gA g 284 j = nI q) (same : ∀ i, i < j → (gA h 178 i ≠ nI 0 ∧ gA h 181 i = gA h 181 j ↔ gA g 284 i = nI q)) : ∀ m i, i + m = j → ∃ w, Q d 224 46 [some (.ref 175), some (.int (nI j)), none, some (.int (nI i))] [] h = some (some (.int w), h) ∧ Q d' 179 84 [some (.ref 189), none, none, some (.int (nI q)), some (.int (nI i))] [] g = some (some (.int w), g)
  | 0, i, e => by
    obtain rfl : i = j := by omega
    exact ⟨nI i, by rw [t_224_46 hs, if_neg (nI_nlt (Nat.le_refl _) (by omega))], by rw [t_179_84 sg, gd_nI hj (by decide), ix_nI (by omega), if_pos ej]⟩
  | m + 1, i, e => by
    have sm := same i (by omega)
    by_cases z : gA g 284 i = nI q
    · obtain ⟨z1, z2⟩ := sm.mpr z
      exact ⟨nI i, by rw [t_224_46 hs, if_pos (nI_lt (by omega) (by omega)), gd_nI (by omega) (by decide), ix_nI (by omega), if_neg z1, gd_nI (by omega) (by decide), gd_nI hj (by decide), ix_nI (by omega), if_pos z2], by rw [t_179_84 sg, gd_nI (by omega) (by decide), ix_nI (by omega), if_pos z]⟩
    · obtain ⟨w, w1, w2⟩ := tr_lp hs sg hj hq ej same m (i + 1) (by omega)
      refine ⟨w, ?_, by rw [t_179_84 sg, gd_nI (by omega) (by decide), ix_nI (by omega), if_neg z, nI_add, w2]⟩
      rw [t_224_46 hs, if_pos (nI_lt (by omega) (by omega)), gd_nI (by omega) (by decide), ix_nI (by omega), nI_add, w1]
      by_cases y : gA h 178 i = nI 0
      · rw [if_pos y]
      · rw [if_neg y, gd_nI (by omega) (by decide), gd_nI hj (by decide), ix_nI (by omega), if_neg (fun y2 => z (sm.mp ⟨y, y2⟩))]
theorem tray_b (hs : Sh h) (sg : Sh g) (mm : MRe h g ni) (t k : Int32) : (∀ j, hv t 12 = some j → ∃ w, E (d + 2) 26 [.ref 100, .int t, .int k] h = some (some (.int w), h) ∧ E (d + 2) 179 [.ref 189, .int t, .int k] g = some (some (.int w), sI g 3586 189 (nI 0))) ∧ (hv t 12 = none → E (d + 2) 179 [.ref 189, .int t, .int k] g = some (some (.int (nI 0)), sI g 3586 189 (nI 1))) := by
  obtain ⟨ty, a2, p1, p2, mk, rf, m1, m2, m3, m4, mn, -, m6, m7⟩ := mm
  rcases hv_c t (show 12 < 2 ^ 31 by decide) with ⟨e, w⟩ | ⟨j, hj, rfl, e⟩
  · refine ⟨(fun j z => by rw [e] at z; cases z), fun _ => ?_⟩
    rw [t_179 sg]
    rcases w with w | ⟨w1, w2⟩
    · rw [if_pos w, if_pos (by decide)]
    · rw [if_neg w1, if_neg w2, if_pos (by decide)]
  · have n0 : ¬ nI j < nI 0 := nI_nlt (by omega) (by omega)
    refine ⟨fun _ _ => ?_, fun z => by rw [e] at z; cases z⟩
    have eC : ∀ w, E (d + 1) 224 [.ref 175, .int (nI j), .int k] h = some (some (.int w), h) → E (d + 2) 26 [.ref 100, .int (nI j), .int k] h = some (some (.int w), h) := fun w q => by
      rw [t_26 hs, if_neg n0, if_pos (nI_lt hj (by decide)), q, cK_v, t_26_29 hs]
    rw [t_179 sg, if_neg n0, if_pos (nI_lt hj (by decide)), if_neg (by decide), gd_nI hj (by decide), ix_nI (by omega)]
    have e224 := t_224 (d := d) hs (nI j) k
    rw [gd_nI hj (by decide), gd_nI hj (by decide), ix_nI (by omega)] at e224
    rcases m6 j hj with ⟨x1, x2⟩ | ⟨kk, f, z, m, q, x1, x2, x3, x4, x5, x6, x7, x8, x9, x10, x11, x12, x13, x14⟩
    · rw [x2]
      have lt1 : ((-1 : Int32) < nI 0) := by decide
      simp only [if_pos lt1]
      rw [x1, if_pos rfl] at e224
      by_cases k0 : k = nI 0
      · simp only [if_pos k0] at e224 ⊢
        exact ⟨nI 0, eC _ e224, rfl⟩
      · simp only [if_neg k0] at e224 ⊢
        exact ⟨-1, eC _ e224, rfl⟩
    · have nz : ¬ nI kk = nI 0 := fun w => by have := (nI_eq (by omega) (by decide)).mp w; omega
      have nq : ¬ nI q < nI 0 := nI_nlt (by omega) (by omega)
      rw [x7, if_neg nq, if_neg nq, gd_nI x8 (by decide), gd_nI x8 (by decide), ix_nI (by omega), x9, x11]
      rw [x3, if_neg nz] at e224
      by_cases k0 : k = nI 0
      · rw [if_pos k0] at e224 ⊢
        exact ⟨nI kk, eC _ e224, rfl⟩
      rw [if_neg k0] at e224 ⊢
      by_cases k1 : k = nI 1
      · rw [if_pos k1, if_pos k1, gd_nI hj (by decide), x5] at e224
        rw [if_neg (by rw [k1]; decide), if_neg (by rw [k1]; decide), if_pos k1]
        exact ⟨nI z, eC _ e224, rfl⟩
      rw [if_neg k1] at e224
      by_cases k2 : k = nI 2
      · rw [if_pos k2, if_neg k1] at e224
        obtain ⟨w, w1, w2⟩ := tr_lp (d := d) (d' := d + 1) (h := h) (g := sI g 3586 189 (nI 0)) hs sg.sI hj x8 x7 (fun i hi => by
          show gA h 178 i ≠ nI 0 ∧ gA h 181 i = gA h 181 j ↔ gA g 284 i = nI q
          constructor
          · rintro ⟨y1, y2⟩
            rw [(m7 i j (by omega) hj y1 (by rw [x3]; exact nz)).mp y2, x7]
          · intro y
            rcases m6 i (by omega) with ⟨v1, v2⟩ | ⟨kk', f', z', m', q', v1, v2, v3, -⟩
            · rw [v2] at y; exact absurd (by rw [← y]; decide) nq
            · have y1 : gA h 178 i ≠ nI 0 := by rw [v3]; exact fun w => by have := (nI_eq (by omega) (by decide)).mp w; omega
              exact ⟨y1, (m7 i j (by omega) hj y1 (by rw [x3]; exact nz)).mpr (by rw [y, x7])⟩) j 0 (by omega)
        rw [w1] at e224
        rw [if_neg (by rw [k2]; decide), if_neg (by rw [k2]; decide), if_neg k1]
        exact ⟨w, eC _ e224, w2⟩
      · rw [if_neg k2] at e224
        have out : k < nI 0 ∨ ¬ k < nI 0 ∧ nI 2 < k := by
          by_cases y : k < nI 0
          · exact Or.inl y
          · refine Or.inr ⟨y, Classical.byContradiction fun y2 => ?_⟩
            rcases hv_c k (show 3 < 2 ^ 31 by decide) with ⟨-, w⟩ | ⟨a, ha, ea, -⟩
            · rcases w with w | ⟨-, w2⟩
              · exact y w
              · refine w2 ?_
                rw [Int32.lt_iff_toInt_lt, nI_toInt (by decide)] at y2 ⊢
                omega
            · have : a = 0 ∨ a = 1 ∨ a = 2 := by omega
              rcases this with q | q | q <;> subst q
              · exact k0 ea
              · exact k1 ea
              · exact k2 ea
        rcases out with y | ⟨y1, y2⟩
        · rw [if_pos y]; exact ⟨-1, eC _ e224, rfl⟩
        · rw [if_neg y1, if_pos y2]; exact ⟨-1, eC _ e224, rfl⟩
end NHP
