/-! ===== RUN: piles, refusals, steps ===== -/
section PIL
variable {c : CXm} {hc hr h h1 : AH} {n p D T : Nat} {w : Int64}
/-- push -/
theorem rm_push (hs : Sh h) (hn : 1 ≤ n) (e : gI h 3723 189 = nI T) (hT : T < 2000) : E n 172 [.ref 189, .long w] h = some (none, sI (sB h 289 T w) 3723 189 (nI (T + 1))) := by
  obtain ⟨m, rfl⟩ : ∃ m, n = m + 1 := ⟨n - 1, by omega⟩
  rw [t_172 hs, e, gd_nI hT (by decide), ix_nI (by omega), nI_add]
/-- pop -/
theorem rm_pop (hs : Sh h) (hn : 1 ≤ n) (e : gI h 3723 189 = nI (T + 1)) (hT : T < 2000) : E n 155 [.ref 189] h = some (some (.long (gB h 289 T)), sI h 3723 189 (nI T)) := by
  obtain ⟨m, rfl⟩ : ∃ m, n = m + 1 := ⟨n - 1, by omega⟩
  rw [t_155 hs, e, pk_sub (by omega), show T + 1 - 1 = T by omega, gd_nI hT (by decide), ix_nI (by omega)]
theorem rm_refuse (hs : Sh h) (hn : 1 ≤ n) (e : gI h 3733 189 = nI 0) (x : Int32) : E n 161 [.ref 189, .int x] h = some (none, sI h 3733 189 x) := by
  obtain ⟨m, rfl⟩ : ∃ m, n = m + 1 := ⟨n - 1, by omega⟩
  rw [t_161 hs, if_pos e]
/-- what a step of the reference begins from: nothing came, the next code is told -/
def fet (h : AH) (p : Nat) : AH := sI (sI h 3733 189 (nI 0)) 3724 189 (nI (p + 1))
theorem fet_fr : Fr [3724, 3733] [] h (fet h p) := (Fr.rfl.sI (by decide)).sI (by decide)
theorem fet_c : gI (fet h p) 3733 189 = nI 0 := by unfold fet; rw [gI_k (by decide), gI_s]
theorem fet_p : gI (fet h p) 3724 189 = nI (p + 1) := by unfold fet; rw [gI_s]
/-- a refusal on both sides -/
theorem Dd.rf {e : Nat} {u : Option Value} (k : KXs c) (r : CRm c hc h1) (he : 1 ≤ e ∧ e ≤ 9) (x1 : gI h1 3733 189 = nI e) (x2 : gI h1 3732 189 = -1) (x3 : gI h1 3731 189 = nI D) (f : HF D hr h1) (o : e = 9 → gL h1 3734 189 = gL hc 1548 175) (hL : LPm c hr = cK (some (none, h1)) (Q (kn c 8 + 20) 151 130 [some (.ref 189), none, none, u]) []) (hn : 1 ≤ n) : ∃ hc', E n 365 [.ref 175, .int (nI e)] hc = some (none, hc') ∧ Fr [1547, 1555] [] hc hc' ∧ Dd c D hc' hr := by
  obtain ⟨m, rfl⟩ : ∃ m, n = m + 1 := ⟨n - 1, by omega⟩
  have hs1 := r.shR k
  obtain ⟨r1, r2, ⟨s, G, Cp, r3⟩, ty, a1, a2, p1, p2, mk, rf, m0, m1, m2, m3, m4, mn, m6, m7⟩ := r
  obtain ⟨n1, n2, n3, n4, n5, n6, n7, n8, n9, n10, n11, n12, n13, n14, n15, n16, n17⟩ := id mn
  have hsc := r3.1.1
  by_cases q : rf = 4000
  · subst q
    have f1 : Fr KRo XRo h1 (sI h1 3732 189 (nI 11)) := Fr.rfl.sI (by decide)
    refine ⟨sI hc 1547 175 (nI 11), ?_, Fr.rfl.sI (by decide), 11, gI_s, by decide, by decide, sI h1 3732 189 (nI 11), ?_, Or.inr ⟨Or.inr rfl, ?_⟩⟩
    · rw [t_365 hsc, n15, if_neg (by decide)]
    · exact (CRm.frR ⟨r1, r2, ⟨s, G, Cp, r3⟩, ty, a1, a2, p1, p2, mk, 4000, m0, m1, m2, m3, m4, mn, m6, m7⟩ f1).frC (Fr.rfl.sI (by decide))
    · rw [hL, cK_n, t_151_130 hs1, if_pos (by rw [x1]; exact nI_lt (by omega) (by omega)), if_pos (by rw [x2]; decide), t_176 hs1, if_pos n16, cK_n, t_151_148 hs1.sI]
      exact LP_end hs1.sI (by decide) gI_s
  · have q4 : rf < 4000 := by omega
    have fc : Fr KMc XMc hc (sI (sI hc 1555 175 (nI (rf + 1))) 1547 175 (nI e)) := (Fr.rfl.sI (by decide)).sI (by decide)
    have fr : Fr KMr XMr h1 (sI (sI h1 3721 189 (nI (rf + 1))) 3723 189 (nI 0)) := (Fr.rfl.sI (by decide)).sI (by decide)
    refine ⟨sI (sI hc 1555 175 (nI (rf + 1))) 1547 175 (nI e), ?_, (Fr.rfl.sI (by decide)).sI (by decide), e, gI_s, he.1, by omega, sI (sI h1 3721 189 (nI (rf + 1))) 3723 189 (nI 0), ?_, Or.inl ⟨Or.inl he.2, gL h1 3734 189, ?_, o, ?_, ?_, gI_s, ?_⟩⟩
    · rw [t_365 hsc, n15, if_pos (nI_lt q4 (by decide)), nI_add]
    · refine ⟨r1.trans (fc.gfm (by decide) (by decide)), r2.trans (fr.wk (by decide) (by decide)), ⟨s, G, Cp, (r3.frC fc).frR fr⟩, ty, a1, a2, p1, p2, mk, rf + 1, m0, m1, m2, m3, m4, ?_, m6, m7⟩
      refine ⟨?_, ?_, n3, ?_, ?_, n6, ?_, ?_, n9, ?_, ?_, n12, ?_, n14, ?_, ?_, by omega⟩
      · rw [gI_k (by decide), gI_k (by decide)]; exact n1
      · rw [gI_k (by decide), gI_k (by decide)]; exact n2
      · rw [gI_k (by decide), gI_k (by decide)]; exact n4
      · rw [gI_k (by decide), gI_k (by decide)]; exact n5
      · rw [gI_k (by decide), gI_k (by decide)]; exact n7
      · rw [gI_k (by decide), gI_k (by decide)]; exact n8
      · rw [gI_k (by decide), gI_k (by decide)]; exact n10
      · rw [gI_k (by decide), gI_k (by decide)]; exact n11
      · rw [gI_k (by decide), gI_k (by decide)]; exact n13
      · rw [gI_k (by decide), gI_s]
      · rw [gI_k (by decide), gI_s]
    · rw [if_neg (by omega)]
      intro h2 s2 _ e2
      rw [hL, cK_n, t_151_130 hs1, if_pos (by rw [x1]; exact nI_lt (by omega) (by omega)), if_pos (by rw [x2]; decide), t_176 hs1, if_neg (by rw [n16]; exact fun z => q ((nI_eq (by omega) (by decide)).mp z)), x1, n16, nI_add, E_le e2 _ (by omega), cK_n, t_176_44 s2, cK_n, t_151_148 s2]
      rfl
    · rw [gI_k (by decide), gI_k (by decide)]; exact x3
    · exact f.tr (HF.of (K := [3721, 3723]) (X := []) ((Fr.rfl.sI (by decide)).sI (by decide)) (by decide))
    · rw [gI_k (by decide), gI_k (by decide)]; exact x2
end PIL
section STE
variable {c : CXm} {hc hr h h1 : AH} {n m p D T : Nat}
/-- a step begins on both sides: or it is cut -/
theorem stp_b (k : KXs c) (r : CRm c hc h) (x2 : gI h 3732 189 = -1) (hn : 1 ≤ n) (hm : 1 ≤ m) :
    (∃ hc' h', E n 329 [.ref 175] hc = some (some (.int (nI 1)), hc') ∧ E m 154 [.ref 189] h = some (some (.int (nI 1)), h') ∧ CRm c hc' h' ∧ Fr [1549, 1553] [] hc hc' ∧ Fr [3719, 3720] [] h h' ∧ ix (gI hc' 1549 175) = ix (gI hc 1549 175) + 1 ∧ ix (gI hc' 1549 175) ≤ kn c 4) ∨
    ∃ hc' h', E n 329 [.ref 175] hc = some (some (.int (nI 0)), hc') ∧ E m 154 [.ref 189] h = some (some (.int (nI 0)), h') ∧ CRm c hc' h' ∧ Fr [1547] [] hc hc' ∧ Fr [3732] [] h h' ∧ gI hc' 1547 175 = nI 10 ∧ gI h' 3732 189 = nI 10 := by
  obtain ⟨n, rfl⟩ : ∃ m, n = m + 1 := ⟨n - 1, by omega⟩
  obtain ⟨m, rfl⟩ : ∃ k, m = k + 1 := ⟨m - 1, by omega⟩
  have hsr := r.shR k
  have lc : gI hc 1550 175 = nI (kn c 4) := (r.ci.scr k).2.2.2
  have lr : gI h 3725 189 = nI (kn c 4) := by rw [r.2.1.I (by decide)]; exact k.2.2.2.2.2.2.2.2.2.2.2.2.2.1
  have l2 : kn c 4 ≤ 20000 := k.2.2.2.2.2.2.2.2.2.1
  have r0 := r
  obtain ⟨r1, r2, ⟨s, G, Cp, r3⟩, ty, a1, a2, p1, p2, mk, rf, m0, m1, m2, m3, m4, mn, m6, m7⟩ := r
  obtain ⟨n1, n2, n3, n4, n5, n6, n7, n8, n9, n10, n11, n12, n13, n14, n15, n16, n17⟩ := id mn
  have hsc := r3.1.1
  have cut : (gI hc 1549 175 < gI hc 1550 175 → ¬ gI hc 1553 175 < nI 200000) → (gI h 3720 189 ≠ gI h 3725 189 → gI h 3719 189 = nI 200000) → ∃ hc' h', E (n + 1) 329 [.ref 175] hc = some (some (.int (nI 0)), hc') ∧ E (m + 1) 154 [.ref 189] h = some (some (.int (nI 0)), h') ∧ CRm c hc' h' ∧ Fr [1547] [] hc hc' ∧ Fr [3732] [] h h' ∧ gI hc' 1547 175 = nI 10 ∧ gI h' 3732 189 = nI 10 := fun q1 q2 => by
    refine ⟨sI hc 1547 175 (nI 10), sI h 3732 189 (nI 10), ?_, ?_, (r0.frC (Fr.rfl.sI (by decide))).frR (Fr.rfl.sI (by decide)), Fr.rfl.sI (by decide), Fr.rfl.sI (by decide), gI_s, gI_s⟩
    · rw [t_329 hsc]
      by_cases z : gI hc 1549 175 < gI hc 1550 175
      · rw [if_pos z, if_neg (q1 z)]
      · rw [if_neg z]
    · rw [t_154 hsr]
      by_cases z : gI h 3720 189 = gI h 3725 189
      · rw [if_pos z]
      · rw [if_neg z, if_pos (q2 z)]
  by_cases q1 : a1 < kn c 4
  · by_cases q2 : a2 < 200000
    · refine Or.inl ⟨sI (sI hc 1549 175 (nI (a1 + 1))) 1553 175 (nI (a2 + 1)), sI (sI h 3720 189 (nI (a1 + 1))) 3719 189 (nI (a2 + 1)), ?_, ?_, ?_, (Fr.rfl.sI (by decide)).sI (by decide), (Fr.rfl.sI (by decide)).sI (by decide), ?_, ?_⟩
      · rw [t_329 hsc, n1, lc, n4, if_pos (nI_lt q1 (by omega)), if_pos (nI_lt q2 (by decide)), nI_add, nI_add]
      · rw [t_154 hsr, n2, lr, n5, if_neg (fun z => absurd ((nI_eq (by omega) (by omega)).mp z) (by omega)), if_neg (fun z => absurd ((nI_eq (by omega) (by omega)).mp z) (by omega)), nI_add, nI_add]
      · have fc : Fr KMc XMc hc (sI (sI hc 1549 175 (nI (a1 + 1))) 1553 175 (nI (a2 + 1))) := (Fr.rfl.sI (by decide)).sI (by decide)
        have fr : Fr KMr XMr h (sI (sI h 3720 189 (nI (a1 + 1))) 3719 189 (nI (a2 + 1))) := (Fr.rfl.sI (by decide)).sI (by decide)
        refine ⟨r1.trans (fc.gfm (by decide) (by decide)), r2.trans (fr.wk (by decide) (by decide)), ⟨s, G, Cp, (r3.frC fc).frR fr⟩, ty, a1 + 1, a2 + 1, p1, p2, mk, rf, by omega, m1, m2, m3, m4, ?_, m6, m7⟩
        refine ⟨?_, ?_, by omega, ?_, ?_, by omega, ?_, ?_, n9, ?_, ?_, n12, ?_, by omega, ?_, ?_, n17⟩
        · rw [gI_k (by decide), gI_s]
        · rw [gI_k (by decide), gI_s]
        · rw [gI_s]
        · rw [gI_s]
        · rw [gI_k (by decide), gI_k (by decide)]; exact n7
        · rw [gI_k (by decide), gI_k (by decide)]; exact n8
        · rw [gI_k (by decide), gI_k (by decide)]; exact n10
        · rw [gI_k (by decide), gI_k (by decide)]; exact n11
        · rw [gI_k (by decide), gI_k (by decide)]; exact n13
        · rw [gI_k (by decide), gI_k (by decide)]; exact n15
        · rw [gI_k (by decide), gI_k (by decide)]; exact n16
      · rw [gI_k (by decide), gI_s, n1, ix_nI (by omega), ix_nI (by omega)]
      · rw [gI_k (by decide), gI_s, ix_nI (by omega)]; omega
    · refine Or.inr (cut (fun _ => ?_) (fun _ => ?_))
      · rw [n4]; exact nI_nlt (by omega) (by omega)
      · rw [n5, show a2 = 200000 by omega]
  · refine Or.inr (cut (fun z => ?_) (fun z => ?_))
    · rw [n1, lc] at z; exact absurd z (nI_nlt (by omega) (by omega))
    · rw [n2, lr, show a1 = kn c 4 by omega] at z; exact absurd rfl z
end STE
