/-! ===== PROGRAMMES: the reference writes ons ===== -/
section STQ
variable {t : Tp} {M N d k n m f c y o sd T : Nat} {r : Nat × Nat} {h : AH} {p : Option Nat}
theorem r_148w (S : SRt h t M k 0 c y o d sd) (hT : T < 820 * (1 - sd) + y) (hy : y < 820) (ho : o < 700) (hp : ∀ i, p = some i → i < 700 * (1 - sd) + o) {v : Int32} : ∃ hA, Q m 148 7 [some (.ref 189), some (.int (nI T)), some (.int (slV p)), none, none, none] [.int v] h = cK (E m 144 [.ref 189] hA) (Q m 148 98 [some (.ref 189), some (.int (nI T)), none, none, some (.int (nI (700 * (1 - sd) + o))), none]) [] ∧ SRt hA t M k 0 c y (o + 1) d sd ∧ FRg (fun x i => mTs sd c y o x i ∨ x = slX p ∧ i = slI T p) h hA ∧ gA hA 279 (700 * (1 - sd) + o) = v ∧ gA hA 280 (700 * (1 - sd) + o) = nI c ∧ gA hA 281 (700 * (1 - sd) + o) = -1 ∧ gA hA (slX p) (slI T p) = nI (700 * (1 - sd) + o) := by
  obtain ⟨hB, hBE⟩ : ∃ g, g = sA (sA (sA (sI h 3702 189 (nI (o + 1))) 279 (700 * (1 - sd) + o) v) 280 (700 * (1 - sd) + o) (nI c)) 281 (700 * (1 - sd) + o) (-1) := ⟨_, rfl⟩
  have g1400 : ∀ x, gd (nI (700 * (1 - sd) + o)) 1400 x = x := fun x => gd_nI (by omega) (by decide)
  have fB : FRg (fun x i => mTs sd c y o x i ∨ x = slX p ∧ i = slI T p) h hB := by
    rw [hBE]
    have m9 : ∀ x, 279 ≤ x → mTs sd c y o x (700 * (1 - sd) + o) := fun x hx => Or.inr (Or.inr ⟨hx, Nat.le_refl _, by omega⟩)
    exact (((FRg.of (Fr.rfl.sI (List.mem_singleton.mpr rfl) : Fr [3702] [] h _) (by decide)).trans (FRg.sA (by decide) (Or.inl (m9 279 (by decide))))).trans (FRg.sA (by decide) (Or.inl (m9 280 (by decide))))).trans (FRg.sA (by decide) (Or.inl (m9 281 (by decide))))
  have frB : Fr [3702] [279, 280, 281] h hB := by
    rw [hBE]; exact (((Fr.rfl.sI (by decide)).sA (by decide)).sA (by decide)).sA (by decide)
  obtain ⟨⟨s1, s2, s3, s4, s5, s6, s7⟩, y1, y2, y3, y4⟩ := id S
  have SB : SRt hB t M k 0 c y (o + 1) d sd := ⟨⟨frB.sh s1, s2.fr frB (by decide), s3.fr frB (by decide) (by decide) (by decide) (by decide) (by decide), by rw [frB.I (by decide)]; exact s4, by rw [frB.I (by decide)]; exact s5, by rw [frB.I (by decide)]; exact s6, s7⟩, by rw [frB.I (by decide)]; exact y1, by rw [hBE]; exact (gI_s : gI (sI h 3702 189 (nI (o + 1))) 3702 189 = nI (o + 1)), by rw [frB.I (by decide)]; exact y3, y4⟩
  have b9 : gA hB 279 (700 * (1 - sd) + o) = v := by
    rw [hBE, gA_k (by decide), gA_k (by decide), gA_s, up1_s]
  have b0 : gA hB 280 (700 * (1 - sd) + o) = nI c := by
    rw [hBE, gA_k (by decide), gA_s, up1_s]
  have b1' : gA hB 281 (700 * (1 - sd) + o) = -1 := by
    rw [hBE, gA_s, up1_s]
  have fA : ∀ x i w, x ∈ XPt → 276 ≤ x → Fr [] [x] hB (sA hB x i w) := fun x i w _ _ => Fr.rfl.sA (List.mem_singleton.mpr rfl)
  have SA : ∀ x i w, x ∈ XPt → 276 ≤ x → SRt (sA hB x i w) t M k 0 c y (o + 1) d sd := fun x i w hx h6 => by
    have fr := fA x i w hx h6
    have nx : ∀ a, a < 200 → a ∉ [x] := fun a ha q => by
      rw [List.mem_singleton] at q; omega
    obtain ⟨⟨s1, s2, s3, s4, s5, s6, s7⟩, y1, y2, y3, y4⟩ := id SB
    exact ⟨⟨s1.sA, s2.fr fr (nx 190 (by decide)), s3.fr fr (by decide) (by decide) (nx 194 (by decide)) (nx 195 (by decide)) (nx 196 (by decide)), s4, s5, s6, s7⟩, y1, y2, y3, y4⟩
  have base : Q m 148 7 [some (.ref 189), some (.int (nI T)), some (.int (slV p)), none, none, none] [.int v] h = (if slV p < nI 0 then gd (nI T) 1640 <| cK (E m 144 [.ref 189] (sA hB 276 (ix (nI T)) (nI (700 * (1 - sd) + o)))) (Q m 148 98 [some (.ref 189), some (.int (nI T)), none, none, some (.int (nI (700 * (1 - sd) + o))), none]) [] else gd (slV p) 1400 <| cK (E m 144 [.ref 189] (sA hB 281 (ix (slV p)) (nI (700 * (1 - sd) + o)))) (Q m 148 98 [some (.ref 189), some (.int (nI T)), none, none, some (.int (nI (700 * (1 - sd) + o))), none]) []) := by
    rw [t_148_7 s1, s3.2.1, if_neg (by decide), S.on, g1400, g1400, g1400, ix_nI (by omega), y2, nI_add, s4, ← hBE]
  rw [base]
  cases p with
  | none =>
    rw [if_pos (show slV none < nI 0 by decide), gd_nI (show T < 1640 by omega) (by decide), ix_nI (by omega)]
    refine ⟨_, rfl, SA 276 T _ (by decide) (by decide), fB.trans (FRg.sA (by decide) (Or.inr ⟨rfl, rfl⟩)), ?_, ?_, ?_, ?_⟩
    · rw [gA_k (by decide)]; exact b9
    · rw [gA_k (by decide)]; exact b0
    · rw [gA_k (by decide)]; exact b1'
    · show gA (sA hB 276 T _) 276 T = _; rw [gA_s, up1_s]
  | some i =>
    have hi := hp i rfl
    have e : slV (some i) = nI i := rfl
    rw [e, if_neg (nI_nlt (Nat.zero_le _) (by omega)), gd_nI (show i < 1400 by omega) (by decide), ix_nI (by omega)]
    refine ⟨_, rfl, SA 281 i _ (by decide) (by decide), fB.trans (FRg.sA (by decide) (Or.inr ⟨rfl, rfl⟩)), ?_, ?_, ?_, ?_⟩
    · rw [gA_k (by decide)]; exact b9
    · rw [gA_k (by decide)]; exact b0
    · rw [gA_s, up1_x (by omega)]; exact b1'
    · show gA (sA hB 281 i _) 281 i = _; rw [gA_s, up1_s]
end STQ
