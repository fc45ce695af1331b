/-! ===== SWITCHES ===== -/
theorem sw1_spec {k : Nat → Option Ot} {x : Int32} {d pc : Nat} {o : Ot} {dl : Int} : ∀ (ps : List (Int × Int)) (tb : List (Int32 × Nat)), swB pc ps tb = true → sw1 k x d tb = some o → (pc : Int) + dl = (d : Int) →
    ∃ t : Nat, (pc : Int) + Op.lookupswitch.offset ps dl x.toInt = (t : Int) ∧ k t = some o
  | [], [], _, h, hd => ⟨d, hd, h⟩
  | [], _ :: _, hs, _, _ => by cases hs
  | _ :: _, [], hs, _, _ => by cases hs
  | (a, f) :: r, (v, t) :: s, hs, h, hd => by
    have hs' : (decide (v.toInt = a) && decide ((pc : Int) + f = (t : Int)) && swB pc r s) = true := hs
    simp only [Bool.and_eq_true, decide_eq_true_eq] at hs'
    obtain ⟨⟨h1, h2⟩, h3⟩ := hs'
    unfold sw1 at h
    by_cases hx : x = v
    · rw [if_pos hx] at h
      refine ⟨t, ?_, h⟩
      rw [Op.lookupswitch.offset_cons, if_pos (by rw [hx]; first | exact h1 | exact h1.symm)]
      exact h2
    · rw [if_neg hx] at h
      obtain ⟨t', g1, g2⟩ := sw1_spec r s h3 h hd
      refine ⟨t', ?_, g2⟩
      rw [Op.lookupswitch.offset_cons, if_neg (fun q => hx (Int32.toInt_inj.mp (by rw [h1]; first | exact q | exact q.symm)))]
      exact g1
theorem tbl_off {dl : Int} : ∀ (os : List Int) (lo : Int) (x : Int), (x < lo ∨ lo + os.length ≤ x → Op.lookupswitch.offset (tbl0 lo os) dl x = dl) ∧ (lo ≤ x → x < lo + os.length → os[(x - lo).toNat]? = some (Op.lookupswitch.offset (tbl0 lo os) dl x))
  | [], lo, x => ⟨fun _ => rfl, fun h1 h2 => absurd h2 (by simp only [List.length_nil]; omega)⟩
  | o :: r, lo, x => by
    obtain ⟨g1, g2⟩ := tbl_off (dl := dl) r (lo + 1) x
    have e : tbl0 lo (o :: r) = (lo, o) :: tbl0 (lo + 1) r := rfl
    rw [e, Op.lookupswitch.offset_cons]
    refine ⟨fun h => ?_, fun h1 h2 => ?_⟩
    · rw [List.length_cons] at h
      rw [if_neg (by omega)]
      exact g1 (by omega)
    · rw [List.length_cons] at h2
      by_cases hx : x = lo
      · subst hx
        rw [if_pos rfl]
        have : (x - x).toNat = 0 := by omega
        rw [this]
        rfl
      · rw [if_neg (by omega)]
        have h3 : (x - lo).toNat = (x - (lo + 1)).toNat + 1 := by omega
        rw [h3, List.getElem?_cons_succ]
        exact g2 (by omega) (by omega)
