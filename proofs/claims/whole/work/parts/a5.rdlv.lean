/-! ===== WALKS: the reference's deliver ===== -/
/-- what deliver answers, and the state behind it -/
def dlvA (bk : Bk) (s : St) (x y : Int32) : Int32 × St := match hv x (bk 0 0) with
  | none => (-2, s)
  | some f => match hv y 11 with
    | none => (-2, s)
    | some j => if j = 10 then (nI (gbF bk f (sH s f).length 0 0 s).2, (gbF bk f (sH s f).length 0 0 s).1) else wkA bk s f j
abbrev XDv : List Nat := [246, 247, 248, 249, 250, 252, 253, 254, 255, 269, 270, 271, 272, 273]
theorem Rem.st0 {bk : Bk} {f wk : Nat} (W : WB bk) {s : St} (w : WS bk s) : Rem f (sH s f) (tsL bk f wk (sH s f) s []).2.2 (2 ^ (tsL bk f wk (sH s f) s []).2.1.length - 1) (tsL bk f wk (sH s f) s []).1 := by
  obtain ⟨a1, a2, a3, a4, a5, a6, a7, a8⟩ := tsL_w W (f := f) (wk := wk) (sH s f) s [] w ⟨Nat.zero_le _, fun q hq => absurd hq List.not_mem_nil⟩ (fun i hi => (((w.2.2.2.2.1 f).2 i).mp hi).1)
  intro k hk b _ _
  have hm : (sH s f)[k] ∈ sH (tsL bk f wk (sH s f) s []).1 f := by rw [a3]; exact List.getElem_mem hk
  exact ((a1.2.2.2.2.1 f).2 _).mp hm
section WK7
variable {d : Nat} {bk : Bk} {v : Nat}
theorem osD {bk : Bk} {f wk : Nat} (W : WB bk) {s : St} (w : WS bk s) : ∀ k c, (tsL bk f wk (sH s f) s []).2.2.getD k none = some c → c < (tsL bk f wk (sH s f) s []).2.1.length := fun k c e => by
  obtain ⟨a1, a2, a3, a4, a5, a6, a7, a8⟩ := tsL_w W (f := f) (wk := wk) (sH s f) s [] w ⟨Nat.zero_le _, fun q hq => absurd hq List.not_mem_nil⟩ (fun i hi => (((w.2.2.2.2.1 f).2 i).mp hi).1)
  by_cases q : k < (tsL bk f wk (sH s f) s []).2.2.length
  · rw [List.getD_eq_getElem?_getD, List.getElem?_eq_getElem q] at e
    exact a8 _ (List.getElem_mem q) c e
  · rw [List.getD_eq_getElem?_getD, List.getElem?_eq_none (by omega)] at e
    cases e
theorem r_deliver (W : WB bk) (hv' : v ≤ 1) {h : AH} {s : St} (hs : Sh h) (hN : gI h 3597 189 = nI v) (B : RB h v bk) (R : RS h s) (w : WS bk s) (x y : Int32) : ∃ h', E (d + 5) 118 [.ref 189, .int x, .int y] h = some (some (.int (dlvA bk s x y).1), h') ∧ RS h' (dlvA bk s x y).2 ∧ Fr [3586, 3678, 3691] XDv h h' := by
  have w0 := W.1.1
  have f0 : Fr [3586] [] h (sI h 3586 189 (nI 0)) := Fr.rfl.sI (by decide)
  have hs0 := f0.sh hs
  have R0 := R.fr f0 (by decide) (by decide)
  have hN0 : gI (sI h 3586 189 (nI 0)) 3597 189 = nI v := by rw [f0.I (by decide)]; exact hN
  have B0 := B.fr f0 (show ∀ x, x ∈ ([] : List Nat) → x < 197 ∨ 232 < x by decide)
  unfold dlvA
  rw [t_118 hs, (r_has hs0 W hv' hN0 B0 x).1, cK_v, t_118_10 hs0]
  rcases hv_c x (show bk 0 0 < 2 ^ 31 by omega) with ⟨e, -⟩ | ⟨f, hf, rfl, e⟩
  · rw [hb1_n e, if_pos rfl, e]
    exact ⟨_, rfl, R0, f0.wk (by decide) (by decide)⟩
  · rw [hb1_s e, if_neg (by decide), e]
    dsimp only
    rcases hv_c y (show 11 < 2 ^ 31 by decide) with ⟨e2, q | ⟨q, r⟩⟩ | ⟨j, hj, rfl, e2⟩
    · rw [if_pos q, e2]
      exact ⟨_, rfl, R0, f0.wk (by decide) (by decide)⟩
    · have r2 : nI 10 < y := by
        rcases Int32.lt_or_le (nI 10) y with z | z
        · exact z
        · exact absurd (Int32.lt_of_le_of_lt z (show nI 10 < nI 11 by decide)) r
      rw [if_neg q, if_pos r2, e2]
      exact ⟨_, rfl, R0, f0.wk (by decide) (by decide)⟩
    · rw [if_neg (nI_nlt (by omega) (by omega)), if_neg (nI_nlt (by omega) (by omega)), e2]
      dsimp only
      simp only [show (nI j = nI 10) = (j = 10) from propext (nI_eq (by omega) (by decide))]
      have hlen := (w.len f).1
      by_cases q : j = 10
      · rw [if_pos q, if_pos q]
        obtain ⟨h1, a1, a2, a3⟩ := r_back_lp (d := d + 1) W hv' hf (sH s f).length 0 0 _ s (by omega) (by omega) hs0 hN0 B0 R0 w
        rw [t_119 hs0, a1, cK_v, t_118_37 (a3.sh hs0)]
        exact ⟨h1, rfl, a2, (f0.wk (by decide) (by decide)).trans (a3.wk (by decide) (by decide))⟩
      · rw [if_neg q, if_neg q, gd_nI (by omega) (by decide), ix_nI (by omega), show gA (sI h 3586 189 (nI 0)) 255 f = nI (sH s f).length from (R.2.1.1 f (by omega)).1]
        have f1 : Fr [3691] [] (sI h 3586 189 (nI 0)) (sI (sI h 3586 189 (nI 0)) 3691 189 (nI 0)) := Fr.rfl.sI (by decide)
        have hs1 := f1.sh hs0
        have RT1 : RSt (sI (sI h 3586 189 (nI 0)) 3691 189 (nI 0)) [] := ⟨(up2_s : up2 (gI (sI h 3586 189 (nI 0))) 3691 189 (nI 0) 3691 189 = nI 0), fun k hk => absurd hk (Nat.not_lt_zero _)⟩
        obtain ⟨a1, a2, a3, a4, a5, a6, a7, a8⟩ := tsL_w W (f := f) (wk := j) (sH s f) s [] w ⟨Nat.zero_le _, fun q hq => absurd hq List.not_mem_nil⟩ (fun i hi => (((w.2.2.2.2.1 f).2 i).mp hi).1)
        obtain ⟨h2, b1, b2, b3, b4, b5⟩ := ts_lp (d := d) W hv' (wk := j) hf (by omega) (l := sH s f) (sH s f) [] [] _ s [] rfl rfl rfl hs1 (by rw [f1.I (by decide)]; exact hN0) (B0.fr f1 (by decide)) (R0.fr f1 (by decide) (by decide)) w ⟨Nat.zero_le _, fun q hq => absurd hq List.not_mem_nil⟩ RT1 (fun k hk => absurd hk (Nat.not_lt_zero _))
        rw [List.nil_append] at b4
        have b1 : Q (d + 3) 120 7 [some (.ref 189), some (.int (nI f)), some (.int (nI j)), some (.int (nI 0)), none, none, none] [] (sI (sI h 3586 189 (nI 0)) 3691 189 (nI 0)) = some (none, h2) := b1
        have hs2 := b5.sh hs1
        have F2 : Fr [3586, 3678, 3691] XDv h h2 := (f0.wk (by decide) (by decide)).trans ((f1.wk (by decide) (by decide)).trans (b5.wk (by decide) (by decide)))
        have h8 := a2.1
        rw [t_120 hs0, b1, cK_n, t_118_51 hs2, b3.1]
        simp only [show (nI (tsL bk f j (sH s f) s []).2.1.length = nI 0) = ((tsL bk f j (sH s f) s []).2.1.length = 0) from propext (nI_eq (by omega) (by decide))]
        unfold wkA
        by_cases q0 : (tsL bk f j (sH s f) s []).2.1 = []
        · rw [if_pos (by rw [q0]; rfl), if_pos q0]
          exact ⟨h2, rfl, b2, F2⟩
        · have hl0 : (tsL bk f j (sH s f) s []).2.1.length ≠ 0 := fun w => q0 (List.length_eq_zero_iff.mp w)
          rw [if_neg hl0, if_neg q0]
          obtain ⟨h3, c1, c2, c3, c4⟩ := r_reckon (d := d + 1) W hv' hf a2 hs2 (by rw [F2.I (by decide)]; exact hN) (B.fr F2 (by decide)) b3
          have hs3 := c2.sh hs2
          have F3 : Fr [3586, 3678, 3691] XDv h h3 := F2.trans (c2.wk (by decide) (by decide))
          have hpos : 0 < 2 ^ (tsL bk f j (sH s f) s []).2.1.length := Nat.two_pow_pos _
          obtain ⟨h4, e1, e2', e3, e4, e5⟩ := gw_lp (d := d + 1) W hv' hf a2 (l := sH s f) (os := (tsL bk f j (sH s f) s []).2.2) hlen (w.2.2.2.2.1 f).1 a6 (osD W w) (tsL bk f j (sH s f) s []).2.1.length 0 (2 ^ (tsL bk f j (sH s f) s []).2.1.length - 1) 8 h3 _ (by omega) (by omega) (bcN_a _ h8) (Or.inr rfl) hs3 (by rw [F3.I (by decide)]; exact hN) (B.fr F3 (by decide)) (b2.fr c2 (by decide) (by decide)) a1 (Rem.st0 W w) c3 c4 (fun k hk => by rw [c2.A (by decide), c2.A (by decide)]; exact b4 k hk)
          refine ⟨h4, ?_, e2', F3.trans (e5.wk (by decide) (by decide))⟩
          rw [Nat.sub_self] at e1
          rw [c1, cK_n, t_118_65 hs3]
          exact e1
end WK7
