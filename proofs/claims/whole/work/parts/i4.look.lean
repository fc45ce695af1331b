/-! ===== PROGRAMMES: the component reads tokens ===== -/
theorem tK_s {t : Tp} {k : Nat} : tK t k ≤ 3 ∨ 37 ≤ tK t k := by
  have sg : ∀ c, c ∈ sgL → 37 ≤ c := by decide
  unfold tK tok tokB
  split
  · exact Or.inl (by show 0 ≤ 3; decide)
  split
  · show (if _ ∈ sgL then _ else 1) ≤ 3 ∨ 37 ≤ (if _ ∈ sgL then _ else 1)
    split
    · rename_i h; exact Or.inr (sg _ h)
    · exact Or.inl (by decide)
  split
  · unfold tokR
    rw [if_pos rfl]
    refine Or.inl ?_
    show (if _ then 1 else 3) ≤ 3
    split <;> decide
  · unfold tokR
    rw [if_neg (by decide)]
    refine Or.inl ?_
    show (if _ then 1 else 2) ≤ 3
    split <;> decide
/-- the cells of the two scripts -/
def scX (x : Nat) : Prop := x = 183 ∨ x = 186
theorem Sh.scr {h : AH} (hs : Sh h) {x : Nat} (hx : scX x) : gC h x = 9 ∧ gR h 2304 x = some (x + 1) ∧ gR h 2305 x = some (x + 2) ∧ gC h (x + 1) = 60 ∧ gK h (x + 1) = 4001 ∧ gC h (x + 2) = 60 ∧ gK h (x + 2) = 4001 := by
  have rr : ∀ k y, gR h k y = rX (gR h) k y := fun k y => (congrFun (congrFun hs.r k) y).symm
  rcases hx with q | q <;> subst q
  · exact ⟨ShC hs (by decide), by rw [rr]; rfl, by rw [rr]; rfl, ShC hs (by decide), ShK hs (by decide), ShC hs (by decide), ShK hs (by decide)⟩
  · exact ⟨ShC hs (by decide), by rw [rr]; rfl, by rw [rr]; rfl, ShC hs (by decide), ShK hs (by decide), ShC hs (by decide), ShK hs (by decide)⟩
section SPR
variable {d : Nat} {h h' : AH} {b x0 : Nat} {t : Tp} {k : Nat}
theorem CPs.fx {K X : List Nat} (C : CPs h b t k) (f : Fr K X h h') (hK : ∀ q, q ∈ [3073, 3074, 3075, 3076, 3077, 3078, 3841] → q ∉ K) (hX : ∀ x, x ∈ X → 103 ≤ x) : CPs h' b t k := by
  obtain ⟨c1, c2, c3, c4, c5, c6, c7⟩ := C
  refine ⟨f.sh c1, c2.fr f, c3.fr f (hK _ (by decide)) (fun x hx => by have := hX x hx; omega), c4.fr f (hK _ (by decide)) (fun q => by have := hX _ q; omega), c5.fr f (fun q hq => hK q ?_), by rw [f.2.1]; exact c6, by rw [f.2.2.2.1]; exact c7⟩
  have : ∀ q, q ∈ [3074, 3075, 3076, 3077, 3078] → q ∈ [3073, 3074, 3075, 3076, 3077, 3078, 3841] := by decide
  exact this q hq
/-- values that are kept -/
abbrev v35 (n : Nat) : Prop := 3 ≤ n ∧ n ≤ 5
/-- the token that is looked at -/
def LKs (h : AH) (x0 : Nat) (t : Tp) (k : Nat) : Prop := gI h 2307 x0 = nI (lk t k) ∧ (v35 (lk t k) → gI h 3077 101 = nI (lkV t k))
theorem c_look (C : CPs h b t k) (hx : scX x0) (hr : gR h 2309 x0 = some 101) : ∃ h', E (d + 6) 264 [.ref x0] h = some (none, h') ∧ Fr [2307, 3077] [] h h' ∧ (tK t k ≠ 2 → gI h' 3077 = gI h 3077) ∧ LKs h' x0 t k := by
  have C0 := C
  obtain ⟨hs, hw, K, T, TK, -⟩ := C
  have sc := hs.scr hx
  have t101 := hs.t101
  have g0 : gI (sI h 2307 x0 (gI h 3076 101)) 2307 x0 = gI h 3076 101 := gI_s
  have e76 : gI h 3076 101 = nI (tK t k) := TK.1
  have tb := tK_b (t := t) (k := k)
  have f1 : Fr [2307] [] h (sI h 2307 x0 (nI (tK t k))) := Fr.rfl.sI (by decide)
  have ne73 : gI (sI h 2307 x0 (nI (tK t k))) 3077 101 = gI h 3077 101 := congrFun (gI_k (by decide)) 101
  rw [t_264 hs, ck_ok sc.1, hr, Option.bind_some, ck_ok t101.1, ck_ok sc.1, ck_ok sc.1, g0, e76]
  simp only [show (nI (tK t k) = nI 2) = (tK t k = 2) from propext (nI_eq (by omega) (by decide))]
  by_cases q : tK t k = 2
  · obtain ⟨g1, g1E⟩ : ∃ g, g = sI h 2307 x0 (nI (tK t k)) := ⟨_, rfl⟩
    rw [if_pos q, ck_ok sc.1, Option.bind_some, ck_ok t101.1, ← g1E]
    rw [← g1E] at f1
    have C1 : CPs g1 b t k := C0.fx f1 (by decide) (fun x hx => absurd hx List.not_mem_nil)
    have s1 := C1.1
    have hr1 : gR g1 2309 x0 = some 101 := by rw [g1E]; exact hr
    have sc := s1.scr hx
    have t101 := s1.t101
    have g27 : gI g1 2307 x0 = nI (tK t k) := by rw [g1E, gI_s]
    rw [c_wI (d := d) C1 (show 18 < 28 by decide) chS18 (wi_z wLk_p) wLk_b, cK_v, t_264_29 s1]
    have el : lk t k = (match wI t k wLk with
      | some j => 128 + j
      | none => if tE t k - tS t k = 2 then (if t.2 (tS t k) = 114 ∧ 48 ≤ t.2 (tS t k + 1) ∧ t.2 (tS t k + 1) ≤ 57 then 4 else if t.2 (tS t k) = 120 ∧ 48 ≤ t.2 (tS t k + 1) ∧ t.2 (tS t k + 1) ≤ 51 then 5 else 2) else 2) := if_pos q
    cases ew : wI t k wLk with
    | some j =>
      rw [ew] at el
      dsimp only at el
      have jb := (wI_b ew).1
      have ne : ¬ oI (some j) = -1 := nn1 (by omega)
      rw [if_neg ne, ck_ok sc.1]
      refine ⟨_, rfl, (f1.wk (by decide) (fun _ q => q)).sI (by decide), fun z => absurd q z, ?_, fun w => ?_⟩
      · rw [gI_s, el]; show nI 128 + nI j = _; rw [nI_add]
      · rw [el] at w
        have w' : 3 ≤ 128 + j ∧ 128 + j ≤ 5 := w
        omega
    | none =>
      rw [ew] at el
      dsimp only at el
      have e74 : gI g1 3074 101 = nI (tS t k) := C1.2.2.2.2.1.2.2.2.1
      have e75 : gI g1 3075 101 = nI (tE t k) := C1.2.2.2.2.1.2.2.2.2
      obtain ⟨sb1, sb2, sb3⟩ := tS_b (t := t) (k := k)
      have t4 := T.2.1
      rw [if_pos (show oI none = -1 from rfl), ck_ok sc.1, hr1, Option.bind_some, ck_ok t101.1, ck_ok sc.1, Option.bind_some, ck_ok t101.1, e74, e75, pk_sub sb3]
      simp only [show (nI (tE t k - tS t k) = nI 2) = (tE t k - tS t k = 2) from propext (nI_eq (by omega) (by decide))]
      by_cases q2 : tE t k - tS t k = 2
      · rw [if_pos q2] at el
        have r72 : gR g1 3072 101 = some 102 := t101.2.1
        have k102 : gC g1 102 = 62 ∧ gK g1 102 = 4000 := t101.2.2
        have a0 := C1.2.2.2.1.sg' (show tS t k < t.1 by omega)
        have a1 := C1.2.2.2.1.sg' (show tS t k + 1 < t.1 by omega)
        have a0' : gA g1 102 (tS t k) = nI (t.2 (tS t k)) := a0.1
        have a1' : gA g1 102 (tS t k + 1) = nI (t.2 (tS t k + 1)) := a1.1
        rw [if_pos q2, ck_ok sc.1, Option.bind_some, ck_ok t101.1, r72, Option.bind_some, ck_ok sc.1, Option.bind_some, ck_ok t101.1, ck_ok k102.1, k102.2, e74, gd_nI (by omega) (by decide), ck_ok sc.1, Option.bind_some, ck_ok t101.1, r72, Option.bind_some, ck_ok sc.1, Option.bind_some, ck_ok t101.1, ck_ok k102.1, e74, nI_add, k102.2, gd_nI (by omega) (by decide), ix_nI (by omega), ix_nI (by omega), a0', a1']
        obtain ⟨A, hA⟩ : ∃ A, A = t.2 (tS t k) := ⟨_, rfl⟩
        obtain ⟨B, hB⟩ : ∃ A, A = t.2 (tS t k + 1) := ⟨_, rfl⟩
        rw [← hA] at a0 el ⊢
        rw [← hB] at a1 el ⊢
        have hs46 : ∀ (s0 : Nat) (x2 x3 : Int32), (s0 = 0 ∨ s0 = 1) → Q (d + 5) 264 124 [some (.ref x0), none, some (.int x2), some (.int x3), none, none] [.int (nI s0)] g1 = (if s0 = 1 then some (none, sI (sI g1 3077 101 x3) 2307 x0 (nI 4)) else if x2 = nI 120 ∧ ¬ x3 < nI 0 ∧ ¬ nI 3 < x3 then some (none, sI (sI g1 3077 101 x3) 2307 x0 (nI 5)) else some (none, sI (sI g1 3077 101 (nI 0)) 2307 x0 (nI 2))) := fun s0 x2 x3 h01 => by
          have i2 : ∀ (p : Nat), (p = 0 ∨ p = 1) → Q (d + 5) 264 146 [some (.ref x0), none, none, some (.int x3), some (.int (nI s0)), none] [.int (nI p)] g1 = (if s0 = 1 then some (none, sI (sI g1 3077 101 x3) 2307 x0 (nI 4)) else if p = 1 then some (none, sI (sI g1 3077 101 x3) 2307 x0 (nI 5)) else some (none, sI (sI g1 3077 101 (nI 0)) 2307 x0 (nI 2))) := fun p hp => by
            rw [t_264_146 s1, ck_ok sc.1, hr1, Option.bind_some]
            have n10 : ¬ nI 1 = nI 0 := by decide
            have n01 : ¬ (0 : Nat) = 1 := by decide
            rcases h01 with z | z <;> subst z
            · rcases hp with z | z <;> subst z
              · rw [if_pos (rfl : nI 0 = nI 0), if_pos (rfl : nI 0 = nI 0), t_264_167 s1, ck_ok t101.1, if_pos (rfl : nI 0 = nI 0), if_pos (rfl : nI 0 = nI 0), ck_ok sc.1, if_neg n01, if_neg n01]
              · rw [if_pos (rfl : nI 0 = nI 0), if_neg n10, t_264_167 s1, ck_ok t101.1, if_pos (rfl : nI 0 = nI 0), if_neg n10, ck_ok sc.1, if_neg n01, if_pos (rfl : 1 = 1)]
            · rw [if_neg n10, t_264_167 s1, ck_ok t101.1, if_neg n10, ck_ok sc.1, if_pos (rfl : 1 = 1)]
          rw [t_264_124 s1]
          by_cases y1 : x2 = nI 120
          · rw [if_pos y1]
            by_cases y2 : x3 < nI 0
            · rw [if_pos y2, i2 0 (Or.inl rfl), if_neg (show ¬ (0 : Nat) = 1 by decide), if_neg (show ¬ (x2 = nI 120 ∧ ¬ x3 < nI 0 ∧ ¬ nI 3 < x3) from fun w => w.2.1 y2)]
            · rw [if_neg y2]
              by_cases y3 : nI 3 < x3
              · rw [if_pos y3, i2 0 (Or.inl rfl), if_neg (show ¬ (0 : Nat) = 1 by decide), if_neg (show ¬ (x2 = nI 120 ∧ ¬ x3 < nI 0 ∧ ¬ nI 3 < x3) from fun w => w.2.2 y3)]
              · rw [if_neg y3, i2 1 (Or.inr rfl), if_pos (rfl : 1 = 1), if_pos (show x2 = nI 120 ∧ ¬ x3 < nI 0 ∧ ¬ nI 3 < x3 from ⟨y1, y2, y3⟩)]
          · rw [if_neg y1, i2 0 (Or.inl rfl), if_neg (show ¬ (0 : Nat) = 1 by decide), if_neg (show ¬ (x2 = nI 120 ∧ ¬ x3 < nI 0 ∧ ¬ nI 3 < x3) from fun w => y1 w.1)]
        have fin : ∀ (c : Nat) (x3 : Int32), c = lk t k → (v35 c → x3 = nI (lkV t k)) → ∃ h', some (none, sI (sI g1 3077 101 x3) 2307 x0 (nI c)) = some ((none : Option Value), h') ∧ Fr [2307, 3077] [] h h' ∧ (tK t k ≠ 2 → gI h' 3077 = gI h 3077) ∧ LKs h' x0 t k := fun c x3 hc hv => by
          refine ⟨_, rfl, ((f1.wk (by decide) (fun _ q => q)).sI (by decide)).sI (by decide), fun z => absurd q z, ?_, fun w => ?_⟩
          · rw [gI_s, hc]
          · rw [gI_k (by decide), gI_s]; exact hv (hc ▸ w)
        have lv : lkV t k = B - 48 := by unfold lkV; rw [if_neg (by omega), hB]
        -- the digit
        have lo : (nI B - nI 48 < nI 0) = (B < 48) := by
          by_cases w : B < 48
          · exact propext ⟨fun _ => w, fun _ => pk_sneg (by omega) w⟩
          · rw [pk_sub (by omega)]; exact propext ⟨fun z => absurd z (nI_nlt (by omega) (by omega)), fun z => absurd z w⟩
        have hi : ∀ m, m < 100 → 48 ≤ B → (nI m < nI B - nI 48) = (m < B - 48) := fun m hm w => by
          rw [pk_sub w]; exact propext (nI_ltI (by omega) (by omega))
        simp only [show (nI A = nI 114) = (A = 114) from propext (nI_eq (by omega) (by decide)), lo]
        by_cases w1 : A = 114
        · rw [if_pos w1]
          have nx : ¬ nI A = nI 120 := by rw [nI_eq (by omega) (by decide)]; omega
          by_cases w2 : B < 48
          · rw [if_pos w2, hs46 0 _ _ (Or.inl rfl), if_neg (by decide), if_neg (fun z => nx z.1)]
            exact fin 2 _ (by rw [el, if_neg (by omega), if_neg (by omega)]) (fun z => by obtain ⟨z1, z2⟩ := z; omega)
          · rw [if_neg w2]
            have h9 := hi 9 (by decide) (by omega)
            by_cases w3 : nI 9 < nI B - nI 48
            · have w4 : 9 < B - 48 := h9 ▸ w3
              rw [if_pos w3, hs46 0 _ _ (Or.inl rfl), if_neg (by decide), if_neg (fun z => nx z.1)]
              exact fin 2 _ (by rw [el, if_neg (by omega), if_neg (by omega)]) (fun z => by obtain ⟨z1, z2⟩ := z; omega)
            · have w4 : ¬ 9 < B - 48 := fun z => w3 (h9.symm ▸ z)
              rw [if_neg w3, hs46 1 _ _ (Or.inr rfl), if_pos rfl]
              exact fin 4 _ (by rw [el, if_pos ⟨w1, by omega, by omega⟩]) (fun _ => by rw [lv, pk_sub (by omega)])
        · rw [if_neg w1, hs46 0 _ _ (Or.inl rfl), if_neg (by decide)]
          simp only [show (nI A = nI 120) = (A = 120) from propext (nI_eq (by omega) (by decide)), lo]
          by_cases w2 : A = 120 ∧ ¬ B < 48 ∧ ¬ nI 3 < nI B - nI 48
          · rw [if_pos w2]
            obtain ⟨u1, u2, u3⟩ := w2
            rw [hi 3 (by decide) (by omega)] at u3
            exact fin 5 _ (by rw [el, if_neg (by omega), if_pos ⟨u1, by omega, by omega⟩]) (fun _ => by rw [lv, pk_sub (by omega)])
          · rw [if_neg w2]
            refine fin 2 _ ?_ (fun z => by obtain ⟨z1, z2⟩ := z; omega)
            rw [el, if_neg (by omega), if_neg]
            rintro ⟨u1, u2, u3⟩
            exact w2 ⟨u1, by omega, by rw [hi 3 (by decide) (by omega)]; omega⟩
      · rw [if_neg q2] at el
        rw [if_neg q2]
        refine ⟨_, rfl, f1.wk (by decide) (fun _ q => q), fun z => absurd q z, ?_, fun w => ?_⟩
        · rw [g27, el, q]
        · rw [el] at w; obtain ⟨w1, w2⟩ := w; omega
  · rw [if_neg q]
    have el : lk t k = tK t k := if_neg q
    refine ⟨_, rfl, f1.wk (by decide) (fun _ q => q), fun _ => gI_k (by decide), ?_, fun w => ?_⟩
    · rw [gI_s, el]
    · rw [el] at w
      obtain ⟨w1, w2⟩ := w
      have := tK_s (t := t) (k := k)
      have q3 : tK t k = 3 := by omega
      rw [ne73]
      unfold lkV
      rw [if_pos q3]
      exact TK.2.1 q3
end SPR
