/-! ===== PROGRAMMES: the reference writes simple statements ===== -/
theorem sq_as {a : Option (Nat × Nat)} {f g : Nat → Option (Nat × Nat)} : sq a (fun k => sq (f k) g) = sq (sq a f) g := by
  unfold sq
  cases a with
  | none => rfl
  | some r =>
    dsimp only
    by_cases q : r.1 = 0
    · rw [if_pos q, if_pos q]
    · rw [if_neg q, if_neg q]; dsimp only; rw [if_neg q]
/-- the codes of a statement that has no block, without its first and its end -/
def CW1 (t : Tp) (p : pE) (d k k' : Nat) (L : Cds) : Prop :=
  lk t k = 128 ∧ (∃ k1 L1 L2, p 10 d (k + 1) k1 L1 ∧ (160 ≤ lk t k1 ∧ lk t k1 ≤ 171) ∧ p 3 d (k1 + 1) k' L2 ∧ L = L1 ++ (L2 ++ [(nI 29, nI (lk t k1 - 160 + 1))])) ∨
  lk t k = 129 ∧ (∃ L1, p 10 d (k + 1) k' L1 ∧ L = L1 ++ [(nI 30, nI 0)]) ∨
  lk t k = 130 ∧ (∃ k1 L1 L2, p 10 d (k + 1) k1 L1 ∧ p 10 d k1 k' L2 ∧ L = L1 ++ (L2 ++ [(nI 31, nI 0)])) ∨
  lk t k = 131 ∧ (∃ k1 L1 L2, p 11 d (k + 1) k1 L1 ∧ p 3 d k1 k' L2 ∧ L = L1 ++ (L2 ++ [(nI 32, nI 0)])) ∨
  lk t k = 132 ∧ (∃ k1 L1 L2, p 11 d (k + 1) k1 L1 ∧ p 9 d k1 k' L2 ∧ L = L1 ++ (L2 ++ [(nI 33, nI 0)])) ∨
  lk t k = 133 ∧ (∃ k1 k2 k3 k4 L1 L2 L3 L4 L5, p 10 d (k + 1) k1 L1 ∧ p 3 d k1 k2 L2 ∧ lk t k2 = 44 ∧ p 10 d (k2 + 1) k3 L3 ∧ p 3 d k3 k4 L4 ∧ lk t k4 = 44 ∧ p 3 d (k4 + 1) k' L5 ∧ L = L1 ++ (L2 ++ (L3 ++ (L4 ++ (L5 ++ [(nI 34, nI 0)]))))) ∨
  lk t k = 134 ∧ (∃ k1 L1 L2, p 9 d (k + 1) k1 L1 ∧ lk t k1 = 44 ∧ p 3 d (k1 + 1) k' L2 ∧ L = L1 ++ (L2 ++ [(nI 35, nI 0)])) ∨
  lk t k = 135 ∧ (∃ L1, p 3 d (k + 1) k' L1 ∧ L = L1 ++ [(nI 36, nI 0)]) ∨
  lk t k = 136 ∧ k' = k + 1 ∧ L = [(nI 37, nI 0)]
/-- how much is written after a fault in a statement -/
def tlS (d : Nat) : Nat := 10 * (21 - d) + 8
section RSS2
variable {t : Tp} {M B N d k n c : Nat} {r : Nat × Nat} {h : AH}
theorem d_56 {a b f : Nat} (S : SRs h t M k f c d B) (hf : f ≠ 0) (hab : a ≤ b) (hb : b < 74) (hv : ∀ w, a ≤ w → w ≤ b → w = 9 ∨ 16 ≤ w ∧ w ≤ 18 ∨ 34 ≤ w) (hn : 3 ≤ n) (hc : c ≤ 4400) : ∃ h', E n 56 [.ref 189, .int (nI a), .int (nI b)] h = some (some (.int (nI 0)), h') ∧ RSp h h' t M c d B [] k f := by
  obtain ⟨m, rfl⟩ : ∃ m, n = m + 1 := ⟨n - 1, by omega⟩
  rw [t_56 S.1]
  obtain ⟨h', e1, e2⟩ := r_56n (a := a) (b := b) (n := m) hb hv (by omega) hc (fun w _ _ z => hf z.1) (b + 1 - a) a h (by omega) (Nat.le_refl _) S
  rw [if_neg hf] at e2
  exact ⟨h', e1, e2⟩
theorem x_sv {f d1 d2 T tl : Nat} {h1 : AH} {v : Int32} {o1 : Option Ot} {K : Vs → AH → Option Ot} (h4 : M ≤ 4000) (e : o1 = some (some (.int v), h1)) (a : RSp h h1 t M c d1 B [] k f) (hc : c ≤ M + T) (hT : T ≤ 400) (nx : ∃ h2 L2, K [.int v] h1 = some (none, h2) ∧ RSp h1 h2 t M c d2 B L2 k f ∧ c + L2.length ≤ M + tl) : ∃ h2 L2, cK o1 K [] = some (none, h2) ∧ RSp h h2 t M c d2 B L2 k f ∧ c + L2.length ≤ M + tl := by
  obtain ⟨h2, L2, b1, b2, b3⟩ := nx
  exact ⟨h2, L2, by rw [e, cK_v]; exact b1, a.nl b2 (by omega), b3⟩
theorem sl_150 (ih : PRH t M B N) (h4 : M ≤ 4000) (q0 : lk t k = 133) (e : (sq (px t N 10 d (k + 1)) fun k => sq (px t N 3 d k) fun k => sq (tk1 t 44 k) fun k => sq (px t N 10 d k) fun k => sq (px t N 3 d k) fun k => sq (tk1 t 44 k) fun k => px t N 3 d k) = some r) (S : SRs h t M (k + 1) 0 (c + 1) d B) (hc : c ≤ k) (hk : k + 1 ≤ M) (hd : d ≤ 20) (hn : 21 + 7 * (20 - d) ≤ n) : RPo (CW1 t (CE t N) d k) (E n 150 [.ref 189] h) h t M k (c + 1) d B r (tlS d) := by
  obtain ⟨m, rfl⟩ : ∃ m, n = m + 1 := ⟨n - 1, by omega⟩
  have tl3 : tlR 3 d = 8 * (21 - d) + 3 := rfl
  have tl9 : tlR 9 d = 8 * (21 - d) := rfl
  have tl10 : tlR 10 d = 8 * (21 - d) + 1 := rfl
  have tl11 : tlR 11 d = 8 * (21 - d) + 3 := rfl
  have tls : tlS d = 10 * (21 - d) + 8 := rfl
  rw [t_150 S.1]
  obtain ⟨r1, e1, c1⟩ := sq_s e
  refine RPo.st  h4 (by omega) ((ih 10 d (k + 1) r1 m _ (c + 1) e1 S (by omega) (by omega) hd (by show 16 + 7 * (20 - d) ≤ m; omega)).2.2.2.2.2.2.2.1 rfl) c1 (by omega) (fun z1 f1 le1 hp1 L1 p1 b1 S1 => ?_) (fun z1 hp1 c2 S1 b1 => ?_)
  · have := b1
    rw [t_150_4 S1.1]
    obtain ⟨r2, e2, c2⟩ := sq_s f1
    refine RPo.st  h4 (by omega) ((ih 3 d r1.2 r2 m _ ((c + 1) + L1.length) e2 S1 (by omega) (by omega) hd (by show 18 + 7 * (20 - d) ≤ m; omega)).1 rfl) c2 (by omega) (fun z2 f2 le2 hp2 L2 p2 b2 S2 => ?_) (fun z2 hp2 c2 S2 b2 => ?_)
    · have := b2
      rw [t_150_8 S2.1]
      obtain ⟨r3, e3, c3⟩ := sq_s f2
      refine RPo.st  h4 (by omega) (o_tk (tl := 0) S2 (by omega) (by omega) (by decide) (by decide) (by omega) e3) c3 (by omega) (fun z3 f3 le3 hp3 L3 p3 b3 S3 => ?_) (fun z3 hp3 c2 S3 b3 => ?_)
      · have := b3
        obtain ⟨u3, v3, w3⟩ := p3
        subst w3
        rw [v3] at S3 le3 f3
        rw [show (((c + 1) + L1.length) + L2.length) + ([] : Cds).length = (((c + 1) + L1.length) + L2.length) from rfl] at S3 ⊢
        rw [t_150_14 S3.1]
        obtain ⟨r4, e4, c4⟩ := sq_s f3
        refine RPo.st  h4 (by omega) ((ih 10 d (r2.2 + 1) r4 m _ (((c + 1) + L1.length) + L2.length) e4 S3 (by omega) (by omega) hd (by show 16 + 7 * (20 - d) ≤ m; omega)).2.2.2.2.2.2.2.1 rfl) c4 (by omega) (fun z4 f4 le4 hp4 L4 p4 b4 S4 => ?_) (fun z4 hp4 c2 S4 b4 => ?_)
        · have := b4
          rw [t_150_18 S4.1]
          obtain ⟨r5, e5, c5⟩ := sq_s f4
          refine RPo.st  h4 (by omega) ((ih 3 d r4.2 r5 m _ ((((c + 1) + L1.length) + L2.length) + L4.length) e5 S4 (by omega) (by omega) hd (by show 18 + 7 * (20 - d) ≤ m; omega)).1 rfl) c5 (by omega) (fun z5 f5 le5 hp5 L5 p5 b5 S5 => ?_) (fun z5 hp5 c2 S5 b5 => ?_)
          · have := b5
            rw [t_150_22 S5.1]
            obtain ⟨r6, e6, c6⟩ := sq_s f5
            refine RPo.st  h4 (by omega) (o_tk (tl := 0) S5 (by omega) (by omega) (by decide) (by decide) (by omega) e6) c6 (by omega) (fun z6 f6 le6 hp6 L6 p6 b6 S6 => ?_) (fun z6 hp6 c2 S6 b6 => ?_)
            · have := b6
              obtain ⟨u6, v6, w6⟩ := p6
              subst w6
              rw [v6] at S6 le6 f6
              rw [show (((((c + 1) + L1.length) + L2.length) + L4.length) + L5.length) + ([] : Cds).length = (((((c + 1) + L1.length) + L2.length) + L4.length) + L5.length) from rfl] at S6 ⊢
              rw [t_150_28 S6.1]
              refine RPo.st (F := True) h4 (by omega) ((ih 3 d (r5.2 + 1) r m _ (((((c + 1) + L1.length) + L2.length) + L4.length) + L5.length) f6 S6 (by omega) (by omega) hd (by show 18 + 7 * (20 - d) ≤ m; omega)).1 rfl) (rr r) (by omega) (fun zz _ le7 hp7 L7 p7 b7 S7 => ?_) (fun z7 hp7 c2 S7 b7 => ?_)
              · have := b7
                rw [t_150_32 S7.1]
                exact o_em S7 (by omega) h4 le7 (by omega) (by omega) zz rfl (fun v h' S' => t_150_39 S'.1 _ _ _) (Or.inr (Or.inr (Or.inr (Or.inr (Or.inr (Or.inl ⟨q0, r1.2, r2.2, r4.2, r5.2, L1, L2, L4, L5, L7, p1, p2, u3, p4, p5, u6, p7, rfl⟩))))))
              · have := b7
                rw [t_150_32 S7.1]
                exact x_em (T := 8 * (21 - d) + 3) S7 h4 (by omega) (by omega) (by omega) (by omega) (fun v h' S' => t_150_39 S'.1 _ _ _)
            · have := b6
              rw [t_150_28 S6.1]
              obtain ⟨g8, a8, b8⟩ := d_131 S6 z6 (by omega) hd (n := m) (by omega)
              have S8 : SRs g8 t M _ _ (c2) d B := b8.2
              refine x_st (T := 0) h4 a8 b8 (by show c2 + 0 ≤ _; omega) (by omega) ?_
              show ∃ h2 L2, _ = some (none, h2) ∧ RSp g8 h2 t M (c2) d B L2 _ _ ∧ c2 + L2.length ≤ _
              rw [t_150_32 S8.1]
              exact x_em (T := 0) S8 h4 (by omega) (by omega) (by omega) (by omega) (fun v h' S' => t_150_39 S'.1 _ _ _)
          · have := b5
            rw [t_150_22 S5.1]
            obtain ⟨g9, a9, b9⟩ := d_61 S5 z5 (x := 44) (by decide) (by decide) (n := m) (by omega)
            have S9 : SRs g9 t M _ _ (c2) d B := b9.2
            refine x_st (T := 8 * (21 - d) + 3) h4 a9 b9 (by show c2 + 0 ≤ _; omega) (by omega) ?_
            show ∃ h2 L2, _ = some (none, h2) ∧ RSp g9 h2 t M (c2) d B L2 _ _ ∧ c2 + L2.length ≤ _
            rw [t_150_28 S9.1]
            obtain ⟨g10, a10, b10⟩ := d_131 S9 z5 (by omega) hd (n := m) (by omega)
            have S10 : SRs g10 t M _ _ (c2) d B := b10.2
            refine x_st (T := 8 * (21 - d) + 3) h4 a10 b10 (by show c2 + 0 ≤ _; omega) (by omega) ?_
            show ∃ h2 L2, _ = some (none, h2) ∧ RSp g10 h2 t M (c2) d B L2 _ _ ∧ c2 + L2.length ≤ _
            rw [t_150_32 S10.1]
            exact x_em (T := 8 * (21 - d) + 3) S10 h4 (by omega) (by omega) (by omega) (by omega) (fun v h' S' => t_150_39 S'.1 _ _ _)
        · have := b4
          rw [t_150_18 S4.1]
          obtain ⟨g11, a11, b11⟩ := d_131 S4 z4 (by omega) hd (n := m) (by omega)
          have S11 : SRs g11 t M _ _ (c2) d B := b11.2
          refine x_st (T := 8 * (21 - d) + 1) h4 a11 b11 (by show c2 + 0 ≤ _; omega) (by omega) ?_
          show ∃ h2 L2, _ = some (none, h2) ∧ RSp g11 h2 t M (c2) d B L2 _ _ ∧ c2 + L2.length ≤ _
          rw [t_150_22 S11.1]
          obtain ⟨g12, a12, b12⟩ := d_61 S11 z4 (x := 44) (by decide) (by decide) (n := m) (by omega)
          have S12 : SRs g12 t M _ _ (c2) d B := b12.2
          refine x_st (T := 8 * (21 - d) + 1) h4 a12 b12 (by show c2 + 0 ≤ _; omega) (by omega) ?_
          show ∃ h2 L2, _ = some (none, h2) ∧ RSp g12 h2 t M (c2) d B L2 _ _ ∧ c2 + L2.length ≤ _
          rw [t_150_28 S12.1]
          obtain ⟨g13, a13, b13⟩ := d_131 S12 z4 (by omega) hd (n := m) (by omega)
          have S13 : SRs g13 t M _ _ (c2) d B := b13.2
          refine x_st (T := 8 * (21 - d) + 1) h4 a13 b13 (by show c2 + 0 ≤ _; omega) (by omega) ?_
          show ∃ h2 L2, _ = some (none, h2) ∧ RSp g13 h2 t M (c2) d B L2 _ _ ∧ c2 + L2.length ≤ _
          rw [t_150_32 S13.1]
          exact x_em (T := 8 * (21 - d) + 1) S13 h4 (by omega) (by omega) (by omega) (by omega) (fun v h' S' => t_150_39 S'.1 _ _ _)
      · have := b3
        rw [t_150_14 S3.1]
        obtain ⟨g14, a14, b14⟩ := d_139 S3 z3 (by omega) hd (n := m) (by omega)
        have S14 : SRs g14 t M _ _ (c2 + 1) d B := b14.2
        refine x_st (T := 0 + 1) h4 a14 b14 (by show c2 + 1 ≤ _; omega) (by omega) ?_
        show ∃ h2 L2, _ = some (none, h2) ∧ RSp g14 h2 t M (c2 + 1) d B L2 _ _ ∧ c2 + 1 + L2.length ≤ _
        rw [t_150_18 S14.1]
        obtain ⟨g15, a15, b15⟩ := d_131 S14 z3 (by omega) hd (n := m) (by omega)
        have S15 : SRs g15 t M _ _ (c2 + 1) d B := b15.2
        refine x_st (T := 0 + 1) h4 a15 b15 (by show c2 + 1 + 0 ≤ _; omega) (by omega) ?_
        show ∃ h2 L2, _ = some (none, h2) ∧ RSp g15 h2 t M (c2 + 1) d B L2 _ _ ∧ c2 + 1 + L2.length ≤ _
        rw [t_150_22 S15.1]
        obtain ⟨g16, a16, b16⟩ := d_61 S15 z3 (x := 44) (by decide) (by decide) (n := m) (by omega)
        have S16 : SRs g16 t M _ _ (c2 + 1) d B := b16.2
        refine x_st (T := 0 + 1) h4 a16 b16 (by show c2 + 1 + 0 ≤ _; omega) (by omega) ?_
        show ∃ h2 L2, _ = some (none, h2) ∧ RSp g16 h2 t M (c2 + 1) d B L2 _ _ ∧ c2 + 1 + L2.length ≤ _
        rw [t_150_28 S16.1]
        obtain ⟨g17, a17, b17⟩ := d_131 S16 z3 (by omega) hd (n := m) (by omega)
        have S17 : SRs g17 t M _ _ (c2 + 1) d B := b17.2
        refine x_st (T := 0 + 1) h4 a17 b17 (by show c2 + 1 + 0 ≤ _; omega) (by omega) ?_
        show ∃ h2 L2, _ = some (none, h2) ∧ RSp g17 h2 t M (c2 + 1) d B L2 _ _ ∧ c2 + 1 + L2.length ≤ _
        rw [t_150_32 S17.1]
        exact x_em (T := 0 + 1) S17 h4 (by omega) (by omega) (by omega) (by omega) (fun v h' S' => t_150_39 S'.1 _ _ _)
    · have := b2
      rw [t_150_8 S2.1]
      obtain ⟨g18, a18, b18⟩ := d_61 S2 z2 (x := 44) (by decide) (by decide) (n := m) (by omega)
      have S18 : SRs g18 t M _ _ (c2) d B := b18.2
      refine x_st (T := 8 * (21 - d) + 3) h4 a18 b18 (by show c2 + 0 ≤ _; omega) (by omega) ?_
      show ∃ h2 L2, _ = some (none, h2) ∧ RSp g18 h2 t M (c2) d B L2 _ _ ∧ c2 + L2.length ≤ _
      rw [t_150_14 S18.1]
      obtain ⟨g19, a19, b19⟩ := d_139 S18 z2 (by omega) hd (n := m) (by omega)
      have S19 : SRs g19 t M _ _ (c2 + 1) d B := b19.2
      refine x_st (T := 8 * (21 - d) + 3 + 1) h4 a19 b19 (by show c2 + 1 ≤ _; omega) (by omega) ?_
      show ∃ h2 L2, _ = some (none, h2) ∧ RSp g19 h2 t M (c2 + 1) d B L2 _ _ ∧ c2 + 1 + L2.length ≤ _
      rw [t_150_18 S19.1]
      obtain ⟨g20, a20, b20⟩ := d_131 S19 z2 (by omega) hd (n := m) (by omega)
      have S20 : SRs g20 t M _ _ (c2 + 1) d B := b20.2
      refine x_st (T := 8 * (21 - d) + 3 + 1) h4 a20 b20 (by show c2 + 1 + 0 ≤ _; omega) (by omega) ?_
      show ∃ h2 L2, _ = some (none, h2) ∧ RSp g20 h2 t M (c2 + 1) d B L2 _ _ ∧ c2 + 1 + L2.length ≤ _
      rw [t_150_22 S20.1]
      obtain ⟨g21, a21, b21⟩ := d_61 S20 z2 (x := 44) (by decide) (by decide) (n := m) (by omega)
      have S21 : SRs g21 t M _ _ (c2 + 1) d B := b21.2
      refine x_st (T := 8 * (21 - d) + 3 + 1) h4 a21 b21 (by show c2 + 1 + 0 ≤ _; omega) (by omega) ?_
      show ∃ h2 L2, _ = some (none, h2) ∧ RSp g21 h2 t M (c2 + 1) d B L2 _ _ ∧ c2 + 1 + L2.length ≤ _
      rw [t_150_28 S21.1]
      obtain ⟨g22, a22, b22⟩ := d_131 S21 z2 (by omega) hd (n := m) (by omega)
      have S22 : SRs g22 t M _ _ (c2 + 1) d B := b22.2
      refine x_st (T := 8 * (21 - d) + 3 + 1) h4 a22 b22 (by show c2 + 1 + 0 ≤ _; omega) (by omega) ?_
      show ∃ h2 L2, _ = some (none, h2) ∧ RSp g22 h2 t M (c2 + 1) d B L2 _ _ ∧ c2 + 1 + L2.length ≤ _
      rw [t_150_32 S22.1]
      exact x_em (T := 8 * (21 - d) + 3 + 1) S22 h4 (by omega) (by omega) (by omega) (by omega) (fun v h' S' => t_150_39 S'.1 _ _ _)
  · have := b1
    rw [t_150_4 S1.1]
    obtain ⟨g23, a23, b23⟩ := d_131 S1 z1 (by omega) hd (n := m) (by omega)
    have S23 : SRs g23 t M _ _ (c2) d B := b23.2
    refine x_st (T := 8 * (21 - d) + 1) h4 a23 b23 (by show c2 + 0 ≤ _; omega) (by omega) ?_
    show ∃ h2 L2, _ = some (none, h2) ∧ RSp g23 h2 t M (c2) d B L2 _ _ ∧ c2 + L2.length ≤ _
    rw [t_150_8 S23.1]
    obtain ⟨g24, a24, b24⟩ := d_61 S23 z1 (x := 44) (by decide) (by decide) (n := m) (by omega)
    have S24 : SRs g24 t M _ _ (c2) d B := b24.2
    refine x_st (T := 8 * (21 - d) + 1) h4 a24 b24 (by show c2 + 0 ≤ _; omega) (by omega) ?_
    show ∃ h2 L2, _ = some (none, h2) ∧ RSp g24 h2 t M (c2) d B L2 _ _ ∧ c2 + L2.length ≤ _
    rw [t_150_14 S24.1]
    obtain ⟨g25, a25, b25⟩ := d_139 S24 z1 (by omega) hd (n := m) (by omega)
    have S25 : SRs g25 t M _ _ (c2 + 1) d B := b25.2
    refine x_st (T := 8 * (21 - d) + 1 + 1) h4 a25 b25 (by show c2 + 1 ≤ _; omega) (by omega) ?_
    show ∃ h2 L2, _ = some (none, h2) ∧ RSp g25 h2 t M (c2 + 1) d B L2 _ _ ∧ c2 + 1 + L2.length ≤ _
    rw [t_150_18 S25.1]
    obtain ⟨g26, a26, b26⟩ := d_131 S25 z1 (by omega) hd (n := m) (by omega)
    have S26 : SRs g26 t M _ _ (c2 + 1) d B := b26.2
    refine x_st (T := 8 * (21 - d) + 1 + 1) h4 a26 b26 (by show c2 + 1 + 0 ≤ _; omega) (by omega) ?_
    show ∃ h2 L2, _ = some (none, h2) ∧ RSp g26 h2 t M (c2 + 1) d B L2 _ _ ∧ c2 + 1 + L2.length ≤ _
    rw [t_150_22 S26.1]
    obtain ⟨g27, a27, b27⟩ := d_61 S26 z1 (x := 44) (by decide) (by decide) (n := m) (by omega)
    have S27 : SRs g27 t M _ _ (c2 + 1) d B := b27.2
    refine x_st (T := 8 * (21 - d) + 1 + 1) h4 a27 b27 (by show c2 + 1 + 0 ≤ _; omega) (by omega) ?_
    show ∃ h2 L2, _ = some (none, h2) ∧ RSp g27 h2 t M (c2 + 1) d B L2 _ _ ∧ c2 + 1 + L2.length ≤ _
    rw [t_150_28 S27.1]
    obtain ⟨g28, a28, b28⟩ := d_131 S27 z1 (by omega) hd (n := m) (by omega)
    have S28 : SRs g28 t M _ _ (c2 + 1) d B := b28.2
    refine x_st (T := 8 * (21 - d) + 1 + 1) h4 a28 b28 (by show c2 + 1 + 0 ≤ _; omega) (by omega) ?_
    show ∃ h2 L2, _ = some (none, h2) ∧ RSp g28 h2 t M (c2 + 1) d B L2 _ _ ∧ c2 + 1 + L2.length ≤ _
    rw [t_150_32 S28.1]
    exact x_em (T := 8 * (21 - d) + 1 + 1) S28 h4 (by omega) (by omega) (by omega) (by omega) (fun v h' S' => t_150_39 S'.1 _ _ _)
theorem st_128 {m : Nat} (ih : PRH t M B N) (h4 : M ≤ 4000) (q0 : lk t k = 128) (S : SRs h t M (k + 1) 0 (c + 1) d B) (hc : c ≤ k) (hk : k + 1 ≤ M) (hd : d ≤ 20) (hn : 20 + 7 * (20 - d) ≤ m) (e : (sq (px t N 10 d (k + 1)) fun k => sq (if 160 ≤ lk t k ∧ lk t k ≤ 171 then some (0, k + 1) else some (fX t 1 k, 0)) fun k => px t N 3 d k) = some r) : RPo (CW1 t (CE t N) d k) (cK (E m 139 [.ref 189] h) (Q m 149 13 [some (.ref 189), none, none]) []) h t M k (c + 1) d B r (tlS d) := by
  have tl3 : tlR 3 d = 8 * (21 - d) + 3 := rfl
  have tl9 : tlR 9 d = 8 * (21 - d) := rfl
  have tl10 : tlR 10 d = 8 * (21 - d) + 1 := rfl
  have tl11 : tlR 11 d = 8 * (21 - d) + 3 := rfl
  have tls : tlS d = 10 * (21 - d) + 8 := rfl
  obtain ⟨r29, e29, c29⟩ := sq_s e
  refine RPo.st  h4 (by omega) ((ih 10 d (k + 1) r29 m _ (c + 1) e29 S (by omega) (by omega) hd (by show 16 + 7 * (20 - d) ≤ m; omega)).2.2.2.2.2.2.2.1 rfl) c29 (by omega) (fun z29 f29 le29 hp29 L29 p29 b29 S29 => ?_) (fun z29 hp29 c2 S29 b29 => ?_)
  · have := b29
    rw [t_149_13 S29.1]
    obtain ⟨r30, e30, c30⟩ := sq_s f29
    by_cases w30 : 160 ≤ lk t r29.2 ∧ lk t r29.2 ≤ 171
    · rw [if_pos w30] at e30
      cases e30
      obtain ⟨x30, y30⟩ : ∃ w0, lk t r29.2 = w0 + 98 := ⟨lk t r29.2 - 98, by omega⟩
      obtain ⟨g30, a30, b30⟩ := r_56 S29 (a := 62) (b := 73) (w0 := x30) (n := m) (by decide) (by omega) (fun w _ _ => by omega) (by omega) (by omega) (by unfold wix; rw [if_neg (by omega), if_neg (by omega), if_neg (by omega), if_neg (by omega), y30]; omega)
      have S30 : SRs g30 t M (r29.2 + 1) 0 (((c + 1) + L29.length)) d B := b30.2
      have lm30 := S30.me.lk (k := r29.2) (by omega)
      have f30 := c30.elim (fun z => z.2) (fun z => absurd rfl z.1)
      rw [a30, cK_v, t_149_21 S30.1, nI_add]
      refine RPo.pre b30 (by omega) ?_
      refine RPo.st (F := True) h4 (by omega) ((ih 3 d (r29.2 + 1) r m _ ((c + 1) + L29.length) f30 S30 (by omega) (by omega) hd (by show 18 + 7 * (20 - d) ≤ m; omega)).1 rfl) (rr r) (by omega) (fun zz _ le31 hp31 L31 p31 b31 S31 => ?_) (fun z31 hp31 c2 S31 b31 => ?_)
      · have := b31
        rw [t_149_28 S31.1]
        exact o_em S31 (by omega) h4 le31 (by omega) (by omega) zz rfl (fun v h' S' => t_149_35 S'.1 _ _ _ _) (Or.inl ⟨q0, r29.2, L29, L31, p29, w30, p31, by rw [y30, show x30 + 98 - 160 + 1 = x30 - 62 + 1 by omega]⟩)
      · have := b31
        rw [t_149_28 S31.1]
        exact x_em (T := 8 * (21 - d) + 3) S31 h4 (by omega) (by omega) (by omega) (by omega) (fun v h' S' => t_149_35 S'.1 _ _ _ _)
    · rw [if_neg w30] at e30
      cases e30
      have f30 := c30.elim (fun z => absurd z.1 (fX_0 (by decide))) (fun z => z.2)
      have nm30 : ∀ w, 62 ≤ w → w ≤ 73 → ¬ (0 = 0 ∧ lk t r29.2 = 128 + wix w) := fun w y1 y2 y3 => w30 (by have := y3.2; unfold wix at this; rw [if_neg (by omega), if_neg (by omega), if_neg (by omega), if_neg (by omega)] at this; omega)
      obtain ⟨mm, hmm⟩ : ∃ mm, m = mm + 1 := ⟨m - 1, by omega⟩
      obtain ⟨g30, a30, b30⟩ := r_56n (a := 62) (b := 73) (f := 0) (n := mm) (by decide) (fun w _ _ => by omega) (by omega) (by omega) nm30 12 62 _ (by omega) (by omega) S29
      rw [if_pos rfl] at b30
      have S30x : SRs g30 t M r29.2 (fX t 1 r29.2) (((c + 1) + L29.length)) d B := b30.2
      have a30' := (t_56 (d := mm) S29.1 (nI 62) (nI 73)).trans a30
      rw [← hmm] at a30'
      have X : ∃ h2 L2, _ = some (none, h2) ∧ RSp _ h2 t M (((c + 1) + L29.length)) d B L2 r29.2 (fX t 1 r29.2) ∧ ((c + 1) + L29.length) + L2.length ≤ M + tlS d := x_sv (d1 := d) (d2 := d) (T := 0) (K := Q m 149 21 [some (.ref 189), none, none]) h4 a30' b30 (by omega) (by decide) (by
        rw [t_149_21 S30x.1]
        obtain ⟨g32, a32, b32⟩ := d_131 S30x (fX_0 (by decide)) (by omega) hd (n := m) (by omega)
        have S32 : SRs g32 t M _ _ (((c + 1) + L29.length)) d B := b32.2
        refine x_st (T := 0) h4 a32 b32 (by show ((c + 1) + L29.length) + 0 ≤ _; omega) (by omega) ?_
        show ∃ h2 L2, _ = some (none, h2) ∧ RSp g32 h2 t M (((c + 1) + L29.length)) d B L2 _ _ ∧ ((c + 1) + L29.length) + L2.length ≤ _
        rw [t_149_28 S32.1]
        exact x_em (T := 0) S32 h4 (by omega) (by omega) (by omega) (by omega) (fun v h' S' => t_149_35 S'.1 _ _ _ _))
      obtain ⟨h2, L2, X1, X2, X3⟩ := X
      exact ⟨h2, L2, X1, by rw [f30]; exact X2.any (fX_0 (by decide)) 0, fun z => absurd (by rw [f30] at z; exact z) (fX_0 (by decide)), fun _ => X3⟩
  · have := b29
    rw [t_149_13 S29.1]
    obtain ⟨g33, a33, b33⟩ := d_56 S29 z29 (a := 62) (b := 73) (n := m) (by decide) (by decide) (fun w _ _ => by omega) (by omega) (by omega)
    have S33 : SRs g33 t M _ _ (c2) d B := b33.2
    refine x_sv (T := 8 * (21 - d) + 1) h4 a33 b33 (by omega) (by omega) ?_
    rw [t_149_21 S33.1]
    obtain ⟨g34, a34, b34⟩ := d_131 S33 z29 (by omega) hd (n := m) (by omega)
    have S34 : SRs g34 t M _ _ (c2) d B := b34.2
    refine x_st (T := 8 * (21 - d) + 1) h4 a34 b34 (by show c2 + 0 ≤ _; omega) (by omega) ?_
    show ∃ h2 L2, _ = some (none, h2) ∧ RSp g34 h2 t M (c2) d B L2 _ _ ∧ c2 + L2.length ≤ _
    rw [t_149_28 S34.1]
    exact x_em (T := 8 * (21 - d) + 1) S34 h4 (by omega) (by omega) (by omega) (by omega) (fun v h' S' => t_149_35 S'.1 _ _ _ _)
theorem st_129 {m : Nat} (ih : PRH t M B N) (h4 : M ≤ 4000) (q0 : lk t k = 129) (S : SRs h t M (k + 1) 0 (c + 1) d B) (hc : c ≤ k) (hk : k + 1 ≤ M) (hd : d ≤ 20) (hn : 20 + 7 * (20 - d) ≤ m) (e : (px t N 10 d (k + 1)) = some r) : RPo (CW1 t (CE t N) d k) (cK (E m 139 [.ref 189] h) (Q m 149 52 [some (.ref 189), none, none]) []) h t M k (c + 1) d B r (tlS d) := by
  have tl3 : tlR 3 d = 8 * (21 - d) + 3 := rfl
  have tl9 : tlR 9 d = 8 * (21 - d) := rfl
  have tl10 : tlR 10 d = 8 * (21 - d) + 1 := rfl
  have tl11 : tlR 11 d = 8 * (21 - d) + 3 := rfl
  have tls : tlS d = 10 * (21 - d) + 8 := rfl
  refine RPo.st (F := True) h4 (by omega) ((ih 10 d (k + 1) r m _ (c + 1) e S (by omega) (by omega) hd (by show 16 + 7 * (20 - d) ≤ m; omega)).2.2.2.2.2.2.2.1 rfl) (rr r) (by omega) (fun zz _ le35 hp35 L35 p35 b35 S35 => ?_) (fun z35 hp35 c2 S35 b35 => ?_)
  · have := b35
    rw [t_149_52 S35.1]
    exact o_em S35 (by omega) h4 le35 (by omega) (by omega) zz rfl (fun v h' S' => t_149_59 S'.1 _ _ _ _) (Or.inr (Or.inl ⟨q0, L35, p35, rfl⟩))
  · have := b35
    rw [t_149_52 S35.1]
    exact x_em (T := 8 * (21 - d) + 1) S35 h4 (by omega) (by omega) (by omega) (by omega) (fun v h' S' => t_149_59 S'.1 _ _ _ _)
theorem st_130 {m : Nat} (ih : PRH t M B N) (h4 : M ≤ 4000) (q0 : lk t k = 130) (S : SRs h t M (k + 1) 0 (c + 1) d B) (hc : c ≤ k) (hk : k + 1 ≤ M) (hd : d ≤ 20) (hn : 20 + 7 * (20 - d) ≤ m) (e : (sq (px t N 10 d (k + 1)) fun k => px t N 10 d k) = some r) : RPo (CW1 t (CE t N) d k) (cK (E m 139 [.ref 189] h) (Q m 149 76 [some (.ref 189), none, none]) []) h t M k (c + 1) d B r (tlS d) := by
  have tl3 : tlR 3 d = 8 * (21 - d) + 3 := rfl
  have tl9 : tlR 9 d = 8 * (21 - d) := rfl
  have tl10 : tlR 10 d = 8 * (21 - d) + 1 := rfl
  have tl11 : tlR 11 d = 8 * (21 - d) + 3 := rfl
  have tls : tlS d = 10 * (21 - d) + 8 := rfl
  obtain ⟨r36, e36, c36⟩ := sq_s e
  refine RPo.st  h4 (by omega) ((ih 10 d (k + 1) r36 m _ (c + 1) e36 S (by omega) (by omega) hd (by show 16 + 7 * (20 - d) ≤ m; omega)).2.2.2.2.2.2.2.1 rfl) c36 (by omega) (fun z36 f36 le36 hp36 L36 p36 b36 S36 => ?_) (fun z36 hp36 c2 S36 b36 => ?_)
  · have := b36
    rw [t_149_76 S36.1]
    refine RPo.st (F := True) h4 (by omega) ((ih 10 d r36.2 r m _ ((c + 1) + L36.length) f36 S36 (by omega) (by omega) hd (by show 16 + 7 * (20 - d) ≤ m; omega)).2.2.2.2.2.2.2.1 rfl) (rr r) (by omega) (fun zz _ le37 hp37 L37 p37 b37 S37 => ?_) (fun z37 hp37 c2 S37 b37 => ?_)
    · have := b37
      rw [t_149_80 S37.1]
      exact o_em S37 (by omega) h4 le37 (by omega) (by omega) zz rfl (fun v h' S' => t_149_87 S'.1 _ _ _ _) (Or.inr (Or.inr (Or.inl ⟨q0, r36.2, L36, L37, p36, p37, rfl⟩)))
    · have := b37
      rw [t_149_80 S37.1]
      exact x_em (T := 8 * (21 - d) + 1) S37 h4 (by omega) (by omega) (by omega) (by omega) (fun v h' S' => t_149_87 S'.1 _ _ _ _)
  · have := b36
    rw [t_149_76 S36.1]
    obtain ⟨g38, a38, b38⟩ := d_139 S36 z36 (by omega) hd (n := m) (by omega)
    have S38 : SRs g38 t M _ _ (c2 + 1) d B := b38.2
    refine x_st (T := 8 * (21 - d) + 1 + 1) h4 a38 b38 (by show c2 + 1 ≤ _; omega) (by omega) ?_
    show ∃ h2 L2, _ = some (none, h2) ∧ RSp g38 h2 t M (c2 + 1) d B L2 _ _ ∧ c2 + 1 + L2.length ≤ _
    rw [t_149_80 S38.1]
    exact x_em (T := 8 * (21 - d) + 1 + 1) S38 h4 (by omega) (by omega) (by omega) (by omega) (fun v h' S' => t_149_87 S'.1 _ _ _ _)
theorem st_131 {m : Nat} (ih : PRH t M B N) (h4 : M ≤ 4000) (q0 : lk t k = 131) (S : SRs h t M (k + 1) 0 (c + 1) d B) (hc : c ≤ k) (hk : k + 1 ≤ M) (hd : d ≤ 20) (hn : 20 + 7 * (20 - d) ≤ m) (e : (sq (px t N 11 d (k + 1)) fun k => px t N 3 d k) = some r) : RPo (CW1 t (CE t N) d k) (cK (E m 139 [.ref 189] h) (Q m 149 104 [some (.ref 189), none, none]) []) h t M k (c + 1) d B r (tlS d) := by
  have tl3 : tlR 3 d = 8 * (21 - d) + 3 := rfl
  have tl9 : tlR 9 d = 8 * (21 - d) := rfl
  have tl10 : tlR 10 d = 8 * (21 - d) + 1 := rfl
  have tl11 : tlR 11 d = 8 * (21 - d) + 3 := rfl
  have tls : tlS d = 10 * (21 - d) + 8 := rfl
  obtain ⟨r39, e39, c39⟩ := sq_s e
  obtain ⟨q39, x39, y39, z39⟩ := ((ih 11 d (k + 1) r39 m _ (c + 1) e39 S (by omega) (by omega) hd (by show 19 + 7 * (20 - d) ≤ m; omega)).2.2.2.2.2.2.2.2 rfl)
  rw [x39, cK_n, t_149_104 y39]
  refine RPo.st  h4 (by omega) z39 c39 (by omega) (fun z39 f39 le39 hp39 L39 p39 b39 S39 => ?_) (fun z39 hp39 c2 S39 b39 => ?_)
  · have := b39
    rw [t_149_108 S39.1]
    refine RPo.st (F := True) h4 (by omega) ((ih 3 d r39.2 r m _ ((c + 1) + L39.length) f39 S39 (by omega) (by omega) hd (by show 18 + 7 * (20 - d) ≤ m; omega)).1 rfl) (rr r) (by omega) (fun zz _ le40 hp40 L40 p40 b40 S40 => ?_) (fun z40 hp40 c2 S40 b40 => ?_)
    · have := b40
      rw [t_149_112 S40.1]
      exact o_em S40 (by omega) h4 le40 (by omega) (by omega) zz rfl (fun v h' S' => t_149_119 S'.1 _ _ _ _) (Or.inr (Or.inr (Or.inr (Or.inl ⟨q0, r39.2, L39, L40, p39, p40, rfl⟩))))
    · have := b40
      rw [t_149_112 S40.1]
      exact x_em (T := 8 * (21 - d) + 3) S40 h4 (by omega) (by omega) (by omega) (by omega) (fun v h' S' => t_149_119 S'.1 _ _ _ _)
  · have := b39
    rw [t_149_108 S39.1]
    obtain ⟨g41, a41, b41⟩ := d_131 S39 z39 (by omega) hd (n := m) (by omega)
    have S41 : SRs g41 t M _ _ (c2) d B := b41.2
    refine x_st (T := 8 * (21 - d) + 3) h4 a41 b41 (by show c2 + 0 ≤ _; omega) (by omega) ?_
    show ∃ h2 L2, _ = some (none, h2) ∧ RSp g41 h2 t M (c2) d B L2 _ _ ∧ c2 + L2.length ≤ _
    rw [t_149_112 S41.1]
    exact x_em (T := 8 * (21 - d) + 3) S41 h4 (by omega) (by omega) (by omega) (by omega) (fun v h' S' => t_149_119 S'.1 _ _ _ _)
theorem st_132 {m : Nat} (ih : PRH t M B N) (h4 : M ≤ 4000) (q0 : lk t k = 132) (S : SRs h t M (k + 1) 0 (c + 1) d B) (hc : c ≤ k) (hk : k + 1 ≤ M) (hd : d ≤ 20) (hn : 20 + 7 * (20 - d) ≤ m) (e : (sq (px t N 11 d (k + 1)) fun k => px t N 9 d k) = some r) : RPo (CW1 t (CE t N) d k) (cK (E m 139 [.ref 189] h) (Q m 149 136 [some (.ref 189), none, none]) []) h t M k (c + 1) d B r (tlS d) := by
  have tl3 : tlR 3 d = 8 * (21 - d) + 3 := rfl
  have tl9 : tlR 9 d = 8 * (21 - d) := rfl
  have tl10 : tlR 10 d = 8 * (21 - d) + 1 := rfl
  have tl11 : tlR 11 d = 8 * (21 - d) + 3 := rfl
  have tls : tlS d = 10 * (21 - d) + 8 := rfl
  obtain ⟨r42, e42, c42⟩ := sq_s e
  obtain ⟨q42, x42, y42, z42⟩ := ((ih 11 d (k + 1) r42 m _ (c + 1) e42 S (by omega) (by omega) hd (by show 19 + 7 * (20 - d) ≤ m; omega)).2.2.2.2.2.2.2.2 rfl)
  rw [x42, cK_n, t_149_136 y42]
  refine RPo.st  h4 (by omega) z42 c42 (by omega) (fun z42 f42 le42 hp42 L42 p42 b42 S42 => ?_) (fun z42 hp42 c2 S42 b42 => ?_)
  · have := b42
    rw [t_149_140 S42.1]
    refine RPo.st (F := True) h4 (by omega) ((ih 9 d r42.2 r m _ ((c + 1) + L42.length) f42 S42 (by omega) (by omega) hd (by show 15 + 7 * (20 - d) ≤ m; omega)).2.2.2.2.2.2.1 rfl) (rr r) (by omega) (fun zz _ le43 hp43 L43 p43 b43 S43 => ?_) (fun z43 hp43 c2 S43 b43 => ?_)
    · have := b43
      rw [t_149_144 S43.1]
      exact o_em S43 (by omega) h4 le43 (by omega) (by omega) zz rfl (fun v h' S' => t_149_151 S'.1 _ _ _ _) (Or.inr (Or.inr (Or.inr (Or.inr (Or.inl ⟨q0, r42.2, L42, L43, p42, p43, rfl⟩)))))
    · have := b43
      rw [t_149_144 S43.1]
      exact x_em (T := 8 * (21 - d)) S43 h4 (by omega) (by omega) (by omega) (by omega) (fun v h' S' => t_149_151 S'.1 _ _ _ _)
  · have := b42
    rw [t_149_140 S42.1]
    obtain ⟨g44, a44, b44⟩ := d_142 S42 z42 (by omega) hd (n := m) (by omega)
    have S44 : SRs g44 t M _ _ (c2) d B := b44.2
    refine x_st (T := 8 * (21 - d) + 3) h4 a44 b44 (by show c2 + 0 ≤ _; omega) (by omega) ?_
    show ∃ h2 L2, _ = some (none, h2) ∧ RSp g44 h2 t M (c2) d B L2 _ _ ∧ c2 + L2.length ≤ _
    rw [t_149_144 S44.1]
    exact x_em (T := 8 * (21 - d) + 3) S44 h4 (by omega) (by omega) (by omega) (by omega) (fun v h' S' => t_149_151 S'.1 _ _ _ _)
theorem st_134 {m : Nat} (ih : PRH t M B N) (h4 : M ≤ 4000) (q0 : lk t k = 134) (S : SRs h t M (k + 1) 0 (c + 1) d B) (hc : c ≤ k) (hk : k + 1 ≤ M) (hd : d ≤ 20) (hn : 20 + 7 * (20 - d) ≤ m) (e : (sq (px t N 9 d (k + 1)) fun k => sq (tk1 t 44 k) fun k => px t N 3 d k) = some r) : RPo (CW1 t (CE t N) d k) (cK (E m 142 [.ref 189] h) (Q m 149 184 [some (.ref 189), none, none]) []) h t M k (c + 1) d B r (tlS d) := by
  have tl3 : tlR 3 d = 8 * (21 - d) + 3 := rfl
  have tl9 : tlR 9 d = 8 * (21 - d) := rfl
  have tl10 : tlR 10 d = 8 * (21 - d) + 1 := rfl
  have tl11 : tlR 11 d = 8 * (21 - d) + 3 := rfl
  have tls : tlS d = 10 * (21 - d) + 8 := rfl
  obtain ⟨r45, e45, c45⟩ := sq_s e
  refine RPo.st  h4 (by omega) ((ih 9 d (k + 1) r45 m _ (c + 1) e45 S (by omega) (by omega) hd (by show 15 + 7 * (20 - d) ≤ m; omega)).2.2.2.2.2.2.1 rfl) c45 (by omega) (fun z45 f45 le45 hp45 L45 p45 b45 S45 => ?_) (fun z45 hp45 c2 S45 b45 => ?_)
  · have := b45
    rw [t_149_184 S45.1]
    obtain ⟨r46, e46, c46⟩ := sq_s f45
    refine RPo.st  h4 (by omega) (o_tk (tl := 0) S45 (by omega) (by omega) (by decide) (by decide) (by omega) e46) c46 (by omega) (fun z46 f46 le46 hp46 L46 p46 b46 S46 => ?_) (fun z46 hp46 c2 S46 b46 => ?_)
    · have := b46
      obtain ⟨u46, v46, w46⟩ := p46
      subst w46
      rw [v46] at S46 le46 f46
      rw [show ((c + 1) + L45.length) + ([] : Cds).length = ((c + 1) + L45.length) from rfl] at S46 ⊢
      rw [t_149_190 S46.1]
      refine RPo.st (F := True) h4 (by omega) ((ih 3 d (r45.2 + 1) r m _ ((c + 1) + L45.length) f46 S46 (by omega) (by omega) hd (by show 18 + 7 * (20 - d) ≤ m; omega)).1 rfl) (rr r) (by omega) (fun zz _ le47 hp47 L47 p47 b47 S47 => ?_) (fun z47 hp47 c2 S47 b47 => ?_)
      · have := b47
        rw [t_149_194 S47.1]
        exact o_em S47 (by omega) h4 le47 (by omega) (by omega) zz rfl (fun v h' S' => t_149_201 S'.1 _ _ _ _) (Or.inr (Or.inr (Or.inr (Or.inr (Or.inr (Or.inr (Or.inl ⟨q0, r45.2, L45, L47, p45, u46, p47, rfl⟩)))))))
      · have := b47
        rw [t_149_194 S47.1]
        exact x_em (T := 8 * (21 - d) + 3) S47 h4 (by omega) (by omega) (by omega) (by omega) (fun v h' S' => t_149_201 S'.1 _ _ _ _)
    · have := b46
      rw [t_149_190 S46.1]
      obtain ⟨g48, a48, b48⟩ := d_131 S46 z46 (by omega) hd (n := m) (by omega)
      have S48 : SRs g48 t M _ _ (c2) d B := b48.2
      refine x_st (T := 0) h4 a48 b48 (by show c2 + 0 ≤ _; omega) (by omega) ?_
      show ∃ h2 L2, _ = some (none, h2) ∧ RSp g48 h2 t M (c2) d B L2 _ _ ∧ c2 + L2.length ≤ _
      rw [t_149_194 S48.1]
      exact x_em (T := 0) S48 h4 (by omega) (by omega) (by omega) (by omega) (fun v h' S' => t_149_201 S'.1 _ _ _ _)
  · have := b45
    rw [t_149_184 S45.1]
    obtain ⟨g49, a49, b49⟩ := d_61 S45 z45 (x := 44) (by decide) (by decide) (n := m) (by omega)
    have S49 : SRs g49 t M _ _ (c2) d B := b49.2
    refine x_st (T := 8 * (21 - d)) h4 a49 b49 (by show c2 + 0 ≤ _; omega) (by omega) ?_
    show ∃ h2 L2, _ = some (none, h2) ∧ RSp g49 h2 t M (c2) d B L2 _ _ ∧ c2 + L2.length ≤ _
    rw [t_149_190 S49.1]
    obtain ⟨g50, a50, b50⟩ := d_131 S49 z45 (by omega) hd (n := m) (by omega)
    have S50 : SRs g50 t M _ _ (c2) d B := b50.2
    refine x_st (T := 8 * (21 - d)) h4 a50 b50 (by show c2 + 0 ≤ _; omega) (by omega) ?_
    show ∃ h2 L2, _ = some (none, h2) ∧ RSp g50 h2 t M (c2) d B L2 _ _ ∧ c2 + L2.length ≤ _
    rw [t_149_194 S50.1]
    exact x_em (T := 8 * (21 - d)) S50 h4 (by omega) (by omega) (by omega) (by omega) (fun v h' S' => t_149_201 S'.1 _ _ _ _)
theorem st_135 {m : Nat} (ih : PRH t M B N) (h4 : M ≤ 4000) (q0 : lk t k = 135) (S : SRs h t M (k + 1) 0 (c + 1) d B) (hc : c ≤ k) (hk : k + 1 ≤ M) (hd : d ≤ 20) (hn : 20 + 7 * (20 - d) ≤ m) (e : (px t N 3 d (k + 1)) = some r) : RPo (CW1 t (CE t N) d k) (cK (E m 131 [.ref 189] h) (Q m 149 218 [some (.ref 189), none, none]) []) h t M k (c + 1) d B r (tlS d) := by
  have tl3 : tlR 3 d = 8 * (21 - d) + 3 := rfl
  have tl9 : tlR 9 d = 8 * (21 - d) := rfl
  have tl10 : tlR 10 d = 8 * (21 - d) + 1 := rfl
  have tl11 : tlR 11 d = 8 * (21 - d) + 3 := rfl
  have tls : tlS d = 10 * (21 - d) + 8 := rfl
  refine RPo.st (F := True) h4 (by omega) ((ih 3 d (k + 1) r m _ (c + 1) e S (by omega) (by omega) hd (by show 18 + 7 * (20 - d) ≤ m; omega)).1 rfl) (rr r) (by omega) (fun zz _ le51 hp51 L51 p51 b51 S51 => ?_) (fun z51 hp51 c2 S51 b51 => ?_)
  · have := b51
    rw [t_149_218 S51.1]
    exact o_em S51 (by omega) h4 le51 (by omega) (by omega) zz rfl (fun v h' S' => t_149_225 S'.1 _ _ _ _) (Or.inr (Or.inr (Or.inr (Or.inr (Or.inr (Or.inr (Or.inr (Or.inl ⟨q0, L51, p51, rfl⟩))))))))
  · have := b51
    rw [t_149_218 S51.1]
    exact x_em (T := 8 * (21 - d) + 3) S51 h4 (by omega) (by omega) (by omega) (by omega) (fun v h' S' => t_149_225 S'.1 _ _ _ _)
end RSS2
