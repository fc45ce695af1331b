/-! ===== RUN: statements on both sides: slide ===== -/
section SLI
variable {c : CXm} {M N d k k' D T p n a t u f z kk : Nat} {hc hr h h0 h1 hc' hr' : AH} {L : Cds} {w l la lb lm : Int64} {x : Int32} {st : St} {G Cp : Nat → Nat → Nat}
theorem gB_cp {sp dp m i : Nat} : gB (cpB h 182 sp 182 dp m) 182 i = if dp ≤ i ∧ i < dp + m then gB h 182 (sp + (i - dp)) else gB h 182 i := by
  show up1 (gB h) 182 (va_cpy (gB h 182) (gB h 182) sp dp m) 182 i = _
  rw [up1_s]; rfl
/-- a part of a row: on the component's side, on the reference's -/
theorem hp_c {z : Nat} (hz : z ≤ 2000) : (¬ la < 0 ∧ ¬ lm < 0 ∧ ¬ (nI z).toInt64 < lm ∧ ¬ (nI z).toInt64 - lm < la) ↔ ∃ m a, lm = lN m ∧ la = lN a ∧ a + m ≤ z := by
  rw [nI_l (by omega)]
  constructor
  · rintro ⟨h1, h2, h3, h4⟩
    obtain ⟨m, m1, rfl⟩ := lN_nlt (by omega) h2 h3
    rw [lN_sub m1] at h4
    obtain ⟨a, a1, rfl⟩ := lN_nlt (by omega) h1 h4
    exact ⟨m, a, rfl, rfl, by omega⟩
  · rintro ⟨m, a, rfl, rfl, e⟩
    have z0 : ∀ b, b < 2 ^ 31 → ¬ lN b < 0 := fun b hb => by
      rw [Int64.lt_iff_toInt_lt, lN_toInt hb]; show ¬ ((b : Int) < 0); omega
    refine ⟨z0 a (by omega), z0 m (by omega), fun q => ?_, fun q => ?_⟩
    · have := (lN_lt (by omega) (by omega)).mp q; omega
    · rw [lN_sub (by omega)] at q
      have := (lN_lt (by omega) (by omega)).mp q; omega
theorem hp_r {z : Nat} (hz : z ≤ 2000) : (¬ lm < 0 ∧ ¬ la < 0 ∧ ¬ (2000 : Int64) < lm ∧ ¬ (nI z).toInt64 - lm < la) ↔ ∃ m a, lm = lN m ∧ la = lN a ∧ a + m ≤ z := by
  constructor
  · rintro ⟨h1, h2, h3, h4⟩
    obtain ⟨m, m1, rfl⟩ := lN_nlt (a := 2000) (by decide) h1 h3
    by_cases q : m ≤ z
    · exact (hp_c hz).mp ⟨h2, h1, by rw [nI_l (by omega)]; exact fun y => by have := (lN_lt (by omega) (by omega)).mp y; omega, h4⟩
    · exfalso
      refine h4 ?_
      rw [nI_l (by omega), Int64.lt_iff_toInt_lt, Int64.toInt_sub, lN_toInt (by omega), lN_toInt (by omega)]
      have e0 : 0 ≤ la.toInt := by
        have := h2; rw [Int64.lt_iff_toInt_lt] at this
        simpa using this
      have : ((z : Int) - (m : Int)).bmod (2 ^ 64) = (z : Int) - m := by
        rw [Int.bmod_def]; omega
      rw [this]; omega
  · rintro ⟨m, a, rfl, rfl, e⟩
    obtain ⟨h1, h2, h3, h4⟩ := (hp_c hz).mpr ⟨m, a, rfl, rfl, e⟩
    exact ⟨h2, h1, fun q => by have := (lN_lt (a := 2000) (by decide) (by omega)).mp q; omega, h4⟩
def hpV (z : Nat) (la lm : Int64) : Prop := ∃ m a, lm = lN m ∧ la = lN a ∧ a + m ≤ z
theorem c_371 (hs : Sh hc) (ht : t < 12) (e : gA hc 180 t = nI z) (hz : z ≤ 2000) : (hpV z la lm → E (n + 1) 371 [.ref 175, .int (nI t), .long la, .long lm] hc = some (some (.int (nI 1)), hc)) ∧ (¬ hpV z la lm → E (n + 1) 371 [.ref 175, .int (nI t), .long la, .long lm] hc = some (some (.int (nI 0)), hc)) := by
  have hp := hp_c (la := la) (lm := lm) hz
  rw [t_371 hs, gd_nI ht (by decide), ix_nI (by omega), e]
  simp only [c_lt, c_gt]
  refine ⟨fun q => ?_, fun q => ?_⟩
  · obtain ⟨h1, h2, h3, h4⟩ := hp.mpr q
    rw [if_neg h1, if_neg h2, if_neg h3, gd_nI ht (by decide), if_neg h4]
  · by_cases h1 : la < 0
    · rw [if_pos h1]
    rw [if_neg h1]
    by_cases h2 : lm < 0
    · rw [if_pos h2]
    rw [if_neg h2]
    by_cases h3 : (nI z).toInt64 < lm
    · rw [if_pos h3]
    rw [if_neg h3, gd_nI ht (by decide)]
    by_cases h4 : (nI z).toInt64 - lm < la
    · rw [if_pos h4]
    exact absurd (hp.mp ⟨h1, h2, h3, h4⟩) q
theorem MRl.tyx {ni a1 a2 p1 p2 mk rf : Nat} {ty : Nat → Bool} (m : MRl hc hr ni ty a1 a2 p1 p2 mk rf) (ht : t < 12) (k0 : kk ≠ 0) (X : TRx hc hr ni t kk f z) : (∀ a, a < z → ty (f + a) = decide (9 ≤ kk)) ∧ f + z ≤ p1 := by
  obtain ⟨m1, m2, m3, m4, m5, m6, m7⟩ := m
  rcases m6 t ht with ⟨x1, x2⟩ | ⟨k, f', z', m, q, x1, x2, x3, x4, x5, x6, x7, x8, x9, x10, x11, x12, x13, x14⟩
  · rw [X.1] at x1; exact absurd ((nI_eq (by have := X.2.1; omega) (by decide)).mp x1) k0
  · have y1 := (nI_eq (by have := X.2.1; omega) (by omega)).mp (X.1.symm.trans x3)
    have p2k := m5.2.2.2.2.2.2.2.2.1
    have zz := X.2.2.2.2.1
    have y2 := (nI_eq (by omega) (by omega)).mp ((X.2.2.2.1 k0).1.symm.trans x4)
    have y3 := (nI_eq (by omega) (by omega)).mp ((X.2.2.2.1 k0).2.symm.trans x5)
    subst y1; subst y2; subst y3
    exact ⟨x14, x12⟩
/-- J places slide from F to B on both sides -/
theorem MRl.slide {ni a1 a2 p1 p2 mk rf J F B : Nat} {ty : Nat → Bool} (m : MRl hc hr ni ty a1 a2 p1 p2 mk rf) (hF : F + J ≤ p1) (hB : B + J ≤ p1) (hw : ∀ j, j < J → ty (B + j) = true → ∃ u, itv ni u ∧ gB hc 182 (F + j) = u.toInt64)
    (fc : Fr [] [182] hc hc') (fr : Fr [3733] [288] hr hr') (e1 : ∀ i, gB hc' 182 i = if B ≤ i ∧ i < B + J then gB hc 182 (F + (i - B)) else gB hc 182 i) (e2 : ∀ i, gB hr' 288 i = if B ≤ i ∧ i < B + J then gB hr 288 (F + (i - B)) else gB hr 288 i) : MRl hc' hr' ni ty a1 a2 p1 p2 mk rf := by
  have m5 := m.2.2.2.2.1
  have m8 := m5.2.2.2.2.2.2.2.2.1
  obtain ⟨m1, m2, m3, m4, m5, m6, m7⟩ := m
  unfold MRl MRn TRr
  rw [fc.B (by decide), fc.A (by decide), fc.A (by decide), fc.A (by decide), fc.A (by decide), fc.A (by decide), fr.B (by decide), fr.A (by decide), fr.A (by decide), fr.A (by decide), fr.A (by decide), fr.A (by decide), fc.I List.not_mem_nil, fc.I List.not_mem_nil, fc.I List.not_mem_nil, fc.I List.not_mem_nil, fc.I List.not_mem_nil, fc.I List.not_mem_nil, fr.I (by decide), fr.I (by decide), fr.I (by decide), fr.I (by decide), fr.I (by decide)]
  refine ⟨m1, m2, fun i hi => ?_, fun i hi e => ?_, m5, m6, m7⟩
  · rw [e1, e2]
    by_cases q : B ≤ i ∧ i < B + J
    · rw [if_pos q, if_pos q, m3 _ (by omega)]
    · rw [if_neg q, if_neg q, m3 _ hi]
  · rw [e1]
    by_cases q : B ≤ i ∧ i < B + J
    · rw [if_pos q]
      exact hw (i - B) (by omega) (by rw [show B + (i - B) = i by omega]; exact e)
    · rw [if_neg q]; exact m4 i hi e
end SLI
