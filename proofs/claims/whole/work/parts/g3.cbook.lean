/-! ===== THE BOOK: readAll (component) ===== -/
section CBK
variable {d : Nat} {h : AH} {t : Tp}
/-- a new book is made and read -/
theorem c_newbk (hs : Sh h) (w : HW h) (K : KS h) (T : CT h t) : ∃ h1 h', E (d + 13) 193 [.ref (gN h), .ref 101] (nwO h 2 9) = some (none, h1) ∧ Sh h1 ∧ gC h1 (gN h) = 2 ∧ E (d + 13) 194 [.ref (gN h)] h1 = some (some (.int (nI (bookS t).1)), h') ∧ BFr (gN h) h h' ∧ gN h' ≤ gN h + 17 + 3 * t.1 ∧ gS h' ≤ gS h + 311 + 63 * t.1 ∧ (∃ kk, CPs h' (gN h) t kk) ∧ ((bookS t).1 = 0 → WX (bookS t).2 ∧ ∃ k' G' Cp', CRd h' (gN h) (gN h) t k' (bookS t).2 G' Cp') := by
  obtain ⟨h1, a1, F1, s1, w1, n1, z1, c1, r1, B1, L1⟩ := c_ctor (d := d + 8) hs w
  have g := hs.2
  have F1' := id F1
  obtain ⟨-, g1, g2, g3, g4, g5, g6⟩ := F1'
  have K1 : KS h1 := ⟨fun x q1 q2 q3 => by rw [(g5 x (by omega) (by omega)).1]; exact K.1 x q1 q2 q3, fun x hx => by rw [g2 3841 x (by omega) (by omega)]; exact K.2 x hx⟩
  have T1 : CT h1 t := ⟨by rw [g2 3073 101 (by omega) (by omega)]; exact T.1, T.2.1, fun i hi => by rw [(g5 102 (by omega) (by omega)).1]; exact T.2.2 i hi⟩
  obtain ⟨h2, h2E⟩ : ∃ h2, h2 = sI h1 519 (gN h) (nI 0) := ⟨_, rfl⟩
  have F2 : Fr [519] [] h1 h2 := by rw [h2E]; exact Fr.rfl.sI (by decide)
  have s2 := F2.sh s1
  obtain ⟨h3, b1, F3, K3⟩ := c_rewind (d := d + 4) s2 (K1.fr F2 (by decide) (by decide)) (T1.fr F2 (by decide) (by decide))
  have F13 : Fr KTk [] h1 h3 := (F2.wk (by decide) (fun _ q => q)).trans (F3.wk (by decide) (fun _ q => q))
  have s3 := F13.sh s1
  have C3 : CPs h3 (gN h) t 0 := ⟨s3, w1.fr F13, K1.fr F13 (by decide) (by decide), T1.fr F13 (by decide) (by decide), K3, by rw [F13.2.1]; exact c1, by rw [F13.2.2.2.1]; exact r1⟩
  have bf : BFr (gN h1) h1 h3 := Fr.bf F13
  have R3 : CRd h3 (gN h) (gN h) t 0 bk0 (Gb (gN h)) Cp0 := ⟨C3, B1.bf w1 bf (Nat.le_refl _), L1.bf w1 bf (Nat.le_refl _), Nat.le_refl _, g, by rw [F13.ct.1]; omega, by show gN h ≤ gN h + 5 + 0; omega, by show gN h ≤ gN h + 5 + 1; omega, by show gN h + 5 + 0 ≠ gN h + 5 + 1; omega⟩
  obtain ⟨M, m1, m2, m3⟩ := tk_M (t := t)
  have t4 := T.2.1
  have I3 : gI h3 519 (gN h) = nI 0 := by rw [F3.I (by decide), h2E, gI_s]
  obtain ⟨h', o1, o2, o3, o4, o5, o6⟩ := c_ralp (d := d) (M := M) ⟨by omega, m2, m3⟩ (t.1 + 1) 0 0 bk0 (Gb (gN h)) Cp0 (by omega) (Nat.zero_le _) (Nat.le_refl _) WX.z R3 I3
  refine ⟨h1, h', a1, s1, c1, ?_, (F1.bf.trans (Fr.bf F13)).trans o2, ?_, ?_, o5, o6⟩
  · rw [t_194 s1, ck_ok c1, ck_ok c1, r1, Option.bind_some, ck_ok s1.t101.1, ← h2E, b1, cK_n, t_194_12 s3]
    exact o1
  · have := F13.ct.1; omega
  · have := F13.ct.2; omega
end CBK
