/-! ===== MOVED DOORS ===== -/
/-- the place of a door among the moved ones, from k on -/
def mvF (p dr : Nat) : List (Nat × Nat × Option (Nat × Nat)) → Nat → Option Nat
  | [], _ => none
  | m :: t, k => if m.1 = p ∧ m.2.1 = dr then some k else mvF p dr t (k + 1)
def mvI (s : St) (p dr : Nat) : Option Nat := mvF p dr (sM s) 0
theorem mvF_sp (p dr : Nat) : ∀ (l : List (Nat × Nat × Option (Nat × Nat))) (k : Nat), match mvF p dr l k with
    | none => ∀ j (hj : j < l.length), ¬ (l[j].1 = p ∧ l[j].2.1 = dr)
    | some q => ∃ j, ∃ hj : j < l.length, q = k + j ∧ l[j].1 = p ∧ l[j].2.1 = dr
  | [], k => fun j hj => absurd hj (by simp)
  | m :: t, k => by
    unfold mvF
    by_cases e : m.1 = p ∧ m.2.1 = dr
    · rw [if_pos e]
      exact ⟨0, by simp, rfl, e⟩
    · rw [if_neg e]
      have ih := mvF_sp p dr t (k + 1)
      cases h : mvF p dr t (k + 1) with
      | none =>
        rw [h] at ih
        intro j hj
        cases j with
        | zero => exact e
        | succ j => exact ih j (by simpa using hj)
      | some q =>
        rw [h] at ih
        obtain ⟨j, hj, h1, h2⟩ := ih
        exact ⟨j + 1, by simpa using hj, by omega, h2⟩
theorem mvI_n {s : St} {p dr : Nat} (e : mvI s p dr = none) : ∀ j (hj : j < (sM s).length), ¬ ((sM s)[j].1 = p ∧ (sM s)[j].2.1 = dr) := by
  have := mvF_sp p dr (sM s) 0
  unfold mvI at e
  rw [e] at this; exact this
theorem mvI_s {s : St} {p dr k : Nat} (e : mvI s p dr = some k) : ∃ hk : k < (sM s).length, (sM s)[k].1 = p ∧ (sM s)[k].2.1 = dr := by
  have := mvF_sp p dr (sM s) 0
  unfold mvI at e
  rw [e] at this
  obtain ⟨j, hj, h1, h2⟩ := this
  have : k = j := by omega
  subst this
  exact ⟨hj, h2⟩
section MVD
variable {d : Nat} {h : AH} {bk : Bk} {s : St}
/-- the component's index -/
theorem c_mvI (hs : Sh h) (W : WB bk) (w : WS bk s) (C4 : CS4 h s) {p dr : Nat} (hp : p < bk 0 1) (hd : dr < 27000) : E (d + 1) 263 [.ref 156, .int (nI (27000 * p + dr))] h = some (some (.int (oI (mvI s p dr))), h) := by
  have wp := W.1.2.1
  obtain ⟨w40, wpw, wm⟩ := w.2.2.2.2.2.2.2.2.2.2.2
  rw [t_263 hs]
  have lp : ∀ m k, k + m = (sM s).length → (∀ j (hj : j < (sM s).length), j < k → ¬ ((sM s)[j].1 = p ∧ (sM s)[j].2.1 = dr)) → Q d 263 2 [some (.ref 156), some (.int (nI (27000 * p + dr))), some (.int (nI k))] [] h = some (some (.int (oI (mvI s p dr))), h) := by
    intro m
    induction m with
    | zero =>
      intro k e hk
      rw [t_263_2 hs, C4.1, if_neg (nI_nlt (by omega) (by omega))]
      cases hm : mvI s p dr with
      | none => rfl
      | some q =>
        obtain ⟨hq, h1⟩ := mvI_s hm
        exact absurd h1 (hk q hq (by omega))
    | succ m ih =>
      intro k e hk
      have hkl : k < (sM s).length := by omega
      obtain ⟨c1, -⟩ := C4.2 k hkl
      obtain ⟨m1, m2, m3, -⟩ := wm _ (List.getElem_mem hkl)
      rw [t_263_2 hs, C4.1, if_pos (nI_lt hkl (by omega)), gd_nI (by omega) (by decide), ix_nI (by omega), c1, nI_add]
      simp only [show (nI (27000 * (sM s)[k].1 + (sM s)[k].2.1) = nI (27000 * p + dr)) = ((sM s)[k].1 = p ∧ (sM s)[k].2.1 = dr) from propext ((nI_eq (by omega) (by omega)).trans ⟨fun q => by omega, fun q => by omega⟩)]
      by_cases q : (sM s)[k].1 = p ∧ (sM s)[k].2.1 = dr
      · rw [if_pos q]
        cases hm : mvI s p dr with
        | none => exact absurd q (mvI_n hm k hkl)
        | some j =>
          obtain ⟨hj, h1⟩ := mvI_s hm
          have : j = k := by
            rcases Nat.lt_trichotomy j k with r | r | r
            · exact absurd h1 (hk j hj r)
            · exact r
            · have := List.pairwise_iff_getElem.mp wpw k j hkl hj r
              exact absurd ⟨q.1.trans h1.1.symm, q.2.trans h1.2.symm⟩ this
          rw [this]; rfl
      · rw [if_neg q]
        exact ih (k + 1) (by omega) fun j hj hjk => by
          by_cases r : j = k
          · subst r; exact q
          · exact hk j hj (by omega)
  exact lp (sM s).length 0 (by omega) fun j hj hk => by omega
/-- the reference's index -/
theorem r_mvI (hs : Sh h) (W : WB bk) (w : WS bk s) (R4 : RS4 h s) {p dr : Nat} (hp : p < bk 0 1) (hd : dr < 27000) : E (d + 1) 116 [.ref 189, .int (nI p), .int (nI dr)] h = some (some (.int (oI (mvI s p dr))), h) := by
  have wp := W.1.2.1
  obtain ⟨w40, wpw, wm⟩ := w.2.2.2.2.2.2.2.2.2.2.2
  rw [t_116 hs]
  have lp : ∀ m k (x : Int32), k + m = (sM s).length → (∀ q, mvI s p dr = some q → q < k → x = nI q) → ((∀ q, mvI s p dr = some q → k ≤ q) → x = -1) → Q d 116 5 [some (.ref 189), some (.int (nI p)), some (.int (nI dr)), some (.int x), some (.int (nI k))] [] h = some (some (.int (oI (mvI s p dr))), h) := by
    intro m
    induction m with
    | zero =>
      intro k x e hx hn
      rw [t_116_5 hs, R4.1, if_neg (nI_nlt (by omega) (by omega))]
      cases hm : mvI s p dr with
      | none => rw [hn fun q hq => by rw [hm] at hq; cases hq]; rfl
      | some q =>
        obtain ⟨hq, -⟩ := mvI_s hm
        rw [hx q hm (by omega)]; rfl
    | succ m ih =>
      intro k x e hx hn
      have hkl : k < (sM s).length := by omega
      obtain ⟨c1, c2, -⟩ := R4.2 k hkl
      obtain ⟨m1, m2, m3, -⟩ := wm _ (List.getElem_mem hkl)
      rw [t_116_5 hs, R4.1, if_pos (nI_lt hkl (by omega)), gd_nI (by omega) (by decide), gd_nI (by omega) (by decide), ix_nI (by omega), c1, c2, nI_add]
      simp only [show (nI (sM s)[k].1 = nI p) = ((sM s)[k].1 = p) from propext (nI_eq (by omega) (by omega)), show (nI (sM s)[k].2.1 = nI dr) = ((sM s)[k].2.1 = dr) from propext (nI_eq (by omega) (by omega))]
      by_cases q : (sM s)[k].1 = p ∧ (sM s)[k].2.1 = dr
      · rw [if_pos q.1, if_pos q.2]
        have hmk : mvI s p dr = some k := by
          cases hm : mvI s p dr with
          | none => exact absurd q (mvI_n hm k hkl)
          | some j =>
            obtain ⟨hj, h1⟩ := mvI_s hm
            have : j = k := by
              rcases Nat.lt_trichotomy j k with r | r | r
              · have := List.pairwise_iff_getElem.mp wpw j k hj hkl r
                exact absurd ⟨h1.1.trans q.1.symm, h1.2.trans q.2.symm⟩ this
              · exact r
              · have := List.pairwise_iff_getElem.mp wpw k j hkl hj r
                exact absurd ⟨q.1.trans h1.1.symm, q.2.trans h1.2.symm⟩ this
            rw [this]
        exact ih (k + 1) (nI k) (by omega) (fun r hr _ => by rw [hmk] at hr; cases hr; rfl) (fun r => by have := r k hmk; omega)
      · have res := ih (k + 1) x (by omega) (fun r hr hlt => by
          by_cases r2 : r = k
          · subst r2
            obtain ⟨hk', h1⟩ := mvI_s hr
            exact absurd h1 q
          · exact hx r hr (by omega)) (fun r => hn fun r2 hr2 => by have := r r2 hr2; omega)
        by_cases q1 : (sM s)[k].1 = p
        · rw [if_pos q1, if_neg fun q2 => q ⟨q1, q2⟩]; exact res
        · rw [if_neg q1]; exact res
  exact lp (sM s).length 0 (-1) (by omega) (fun q _ hlt => by omega) (fun _ => rfl)
end MVD
