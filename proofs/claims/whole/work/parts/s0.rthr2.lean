/-! ===== THE LAW: the reference where accept throws ===== -/
section JJC
variable {d v : Nat} {h : AH} {bk : Bk} {t : Tp}
theorem r_accept_t (hs : Sh h) (W : WB bk) (hv' : v ≤ 1) (hN : gI h 3597 189 = nI v) (B : RB h v bk) (T : RT h t) {sv f : Int32} (x : Int32) (q : hv sv (bk 0 2) = none ∨ hv f (bk 0 0) = none) : ∃ h', E (d + 3) 97 [.ref 189, .int sv, .int x, .int f] h = some (some (.int (nI 0)), h') ∧ gI h' 3586 189 = nI 1 ∧ Fr [3586, 3590, 3591] [] h h' ∧ RT h' (0, t.2) := by
  have w0 := W.1.1
  have w2 := W.1.2.2.1
  have f1 : Fr [3586, 3590, 3591] [] h (sI (sI h 3591 189 (gI h 3590 189)) 3590 189 (nI 0)) := (Fr.rfl.sI (by decide)).sI (by decide)
  obtain ⟨g1, g1E⟩ : ∃ g, g = sI (sI h 3591 189 (gI h 3590 189)) 3590 189 (nI 0) := ⟨_, rfl⟩
  rw [← g1E] at f1
  have s1 := f1.sh hs
  have c14 : gC g1 189 = 14 := by rw [ShC s1 (by decide)]; rfl
  have B1 : RB g1 v bk := B.fr f1 (fun x q => absurd q List.not_mem_nil)
  have N1 : gI g1 3597 189 = nI v := by rw [f1.I (by decide)]; exact hN
  have lt : nI 0 < nI 1 := by decide
  refine ⟨sI g1 3586 189 (nI 1), ?_, gI_s, f1.sI (by decide), RT.z (by rw [gI_k (by decide), g1E, gI_s])⟩
  rw [t_97 hs, t_36 hs, cK_n, ← g1E, t_97_4 s1, (r_has s1 W hv' N1 B1 _).2, cK_v, t_97_10 s1]
  rcases hv_c sv (show bk 0 2 < 2 ^ 31 by omega) with ⟨e1, -⟩ | ⟨j1, -, rfl, e1⟩
  · rw [hb1_n e1, if_pos rfl, ck_ok c14, gI_s, if_pos lt]
  rw [hb1_s e1, if_neg (by decide), (r_has s1 W hv' N1 B1 _).1, cK_v, t_97_18 s1]
  rcases hv_c f (show bk 0 0 < 2 ^ 31 by omega) with ⟨e2, -⟩ | ⟨j2, -, rfl, e2⟩
  · rw [hb1_n e2, if_pos rfl, ck_ok c14, gI_s, if_pos lt]
  · rw [e1, e2] at q
    rcases q with q | q <;> cases q
end JJC
