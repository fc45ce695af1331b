/-! ===== read AS A CALL (component) ===== -/
section CRD3
variable {d : Nat} {t : Tp} {x0 x1 x2 z : Nat}
theorem lsE_g {E : Nat → Bool} {n k : Nat} (h : k < (lsE E n).length) : (lsE E (n + 1)).getD k 0 = (lsE E n).getD k 0 := by
  rw [lsE_s]
  split
  · rw [List.getD_eq_getElem?_getD, List.getD_eq_getElem?_getD, List.getElem?_append_left h]
  · rfl
theorem c_mdlp (hB : isB t) (hx0 : 296 ≤ x0) (h01 : x0 < x1) (h12 : x1 < x2) (h2z : x2 < z) : ∀ (r i : Nat) {h : AH}, r + i = 11 → Sh h → gC h x0 = 60 → gK h x0 = 11 → gC h x1 = 63 → gK h x1 = 11 → (∀ p, p < 11 → gA h x1 p = nI (if uB t p then 1 else 0)) → gC h x2 = 60 → gK h x2 = 5 → (lsE (uB t) i).length ≤ 4 → (∀ p, p < 11 → gA h x0 p = nI (if p < i ∧ uB t p = true then 0 else rvJ t p 3)) → (∀ k, k < (lsE (uB t) i).length → gA h x2 k = nI ((lsE (uB t) i).getD k 0)) → ∃ h', Fr [] [x0, x2] h h' ∧ (4 < uN t ∧ Q (d + 4) 200 17 [some (.ref x0), some (.ref x1), some (.ref x2), some (.ref z), some (.int (nI (lsE (uB t) i).length)), some (.int (nI i))] [] h = some (some (.int (-1)), h') ∨ uN t ≤ 4 ∧ Q (d + 4) 200 17 [some (.ref x0), some (.ref x1), some (.ref x2), some (.ref z), some (.int (nI (lsE (uB t) i).length)), some (.int (nI i))] [] h = cK (E (d + 4) 246 [.ref x0, .ref x2, .int (nI (uN t)), .ref z] h') (Q (d + 4) 200 67 [some (.ref x0), some (.ref x1), some (.ref x2), some (.ref z), some (.int (nI (uN t))), some (.int (nI 11))]) [] ∧ (∀ p, p < 11 → gA h' x0 p = nI (sgT t p)) ∧ ∀ k, k < uN t → gA h' x2 k = nI (sqE (uB t) k))
  | 0, i, h, e, hs, c0, k0, c1, k1, u1, c2, k2, l4, A, P => by
    have : i = 11 := by omega
    subst this
    refine ⟨h, Fr.rfl, Or.inr ⟨l4, by rw [t_200_17 hs, if_neg (by decide)]; rfl, fun p hp => ?_, P⟩⟩
    rw [A p hp]
    cases hu : uB t p with
    | true =>
      rw [if_pos ⟨hp, rfl⟩]
      unfold sgT; rw [hu, if_pos rfl]
    | false =>
      rw [if_neg (fun w => absurd w.2 (by decide)), rv_3 hu]
  | r + 1, i, h, e, hs, c0, k0, c1, k1, u1, c2, k2, l4, A, P => by
    have hi : i < 11 := by omega
    have st : Q (d + 4) 200 17 [some (.ref x0), some (.ref x1), some (.ref x2), some (.ref z), some (.int (nI (lsE (uB t) i).length)), some (.int (nI i))] [] h = if uB t i then (if (lsE (uB t) i).length < 4 then Q (d + 4) 200 17 [some (.ref x0), some (.ref x1), some (.ref x2), some (.ref z), some (.int (nI ((lsE (uB t) i).length + 1))), some (.int (nI (i + 1)))] [] (sA (sA h x0 i (nI 0)) x2 (lsE (uB t) i).length (nI i)) else some (some (.int (-1)), h)) else Q (d + 4) 200 17 [some (.ref x0), some (.ref x1), some (.ref x2), some (.ref z), some (.int (nI (lsE (uB t) i).length)), some (.int (nI (i + 1)))] [] h := by
      rw [t_200_17 hs, if_pos (nI_lt hi (by decide)), ck_ok c1, k1, gd_nI hi (by decide), ix_nI (show i < 2 ^ 31 by omega), u1 i hi, nI_add]
      cases uB t i with
      | false => rw [if_pos (by decide), if_neg (by decide)]
      | true =>
        rw [if_neg (by decide), if_pos rfl]
        by_cases q : (lsE (uB t) i).length < 4
        · rw [if_pos (nI_lt q (by decide)), if_pos q, cw_ok c0 (by omega), k0, gd_nI hi (by decide), cw_ok c2 (by omega), k2, gd_nI (by omega) (by decide), ix_nI (by omega), nI_add]
        · rw [if_neg (nI_nlt (by omega) (by omega)), if_neg q]
    rw [st]
    cases hu : uB t i with
    | false =>
      rw [if_neg (by decide)]
      have ls : lsE (uB t) (i + 1) = lsE (uB t) i := by rw [lsE_s, hu, if_neg (by decide)]
      have := c_mdlp hB hx0 h01 h12 h2z r (i + 1) (h := h) (by omega) hs c0 k0 c1 k1 u1 c2 k2 (by rw [ls]; exact l4) (fun p hp => by
        rw [A p hp]
        by_cases w : p = i
        · subst w
          rw [if_neg (fun q => by omega), if_neg (fun q => by rw [hu] at q; exact absurd q.2 (by decide))]
        · by_cases v : p < i ∧ uB t p = true
          · rw [if_pos v, if_pos ⟨by omega, v.2⟩]
          · rw [if_neg v, if_neg fun q => v ⟨by omega, q.2⟩]) (by rw [ls]; exact P)
      rw [ls] at this
      exact this
    | true =>
      rw [if_pos rfl]
      have ls : lsE (uB t) (i + 1) = lsE (uB t) i ++ [i] := by rw [lsE_s, hu, if_pos rfl]
      have ll : (lsE (uB t) (i + 1)).length = (lsE (uB t) i).length + 1 := by rw [ls, List.length_append]; rfl
      by_cases q : (lsE (uB t) i).length < 4
      · rw [if_pos q]
        have f1 : Fr [] [x0, x2] h (sA (sA h x0 i (nI 0)) x2 (lsE (uB t) i).length (nI i)) := (Fr.rfl.sA (by simp)).sA (by simp)
        obtain ⟨h', a1, a2⟩ := c_mdlp hB hx0 h01 h12 h2z r (i + 1) (by omega) (f1.sh hs) c0 k0 c1 k1 (fun p hp => by rw [f1.A (by simp; omega)]; exact u1 p hp) c2 k2 (by omega) (fun p hp => by
          rw [gA_k (by omega), gA_s]
          by_cases w : p = i
          · subst w
            rw [up1_s, if_pos ⟨by omega, hu⟩]
          · rw [up1_x w, A p hp]
            by_cases v : p < i ∧ uB t p = true
            · rw [if_pos v, if_pos ⟨by omega, v.2⟩]
            · rw [if_neg v, if_neg fun q => v ⟨by omega, q.2⟩]) (fun k hk => by
          rw [gA_s, gA_k (show x2 ≠ x0 by omega)]
          by_cases w : k = (lsE (uB t) i).length
          · subst w
            rw [up1_s, ls, List.getD_eq_getElem?_getD, List.getElem?_append_right (Nat.le_refl _), Nat.sub_self]; rfl
          · rw [up1_x w, lsE_g (by omega)]
            exact P k (by omega))
        rw [ll] at a2
        exact ⟨h', f1.trans a1, a2⟩
      · rw [if_neg q]
        refine ⟨h, Fr.rfl, Or.inl ⟨?_, rfl⟩⟩
        have := lsE_mo (E := uB t) (n := i + 1) (11 - (i + 1))
        rw [show i + 1 + (11 - (i + 1)) = 11 by omega] at this
        unfold uN
        omega
theorem c_mend {h : AH} (hB : isB t) (hs : Sh h) (w : HW h) (K : KS h) (h01 : x0 < x1) (hx0 : 296 ≤ x0) (c0 : gC h x0 = 60) (k0 : gK h x0 = 11) (c1 : gC h x1 = 63) (k1 : gK h x1 = 11) (R : ∀ p, p < 11 → gA h x0 p = nI (rvJ t p 3) ∧ gA h x1 p = nI (if uB t p then 1 else 0)) : ∃ h' v, E (d + 5) 200 [.ref x0, .ref x1] h = some (some (.int v), h') ∧ NFr x0 h h' ∧ Sh h' ∧ HW h' ∧ gN h' = gN h + 6 ∧ gS h' = gS h + 29 ∧ (v = -1 ∧ RdN t ∨ ∃ m T, v = nI m ∧ m ≤ 4 ∧ RdY t m T ∧ SA h' x0 T) := by
  have g296 := hs.2
  have l0 := w.lt c0 (by decide)
  have l1 := w.lt c1 (by decide)
  obtain ⟨x2, x2E⟩ : ∃ x, x = gN h := ⟨_, rfl⟩
  obtain ⟨z, zE⟩ : ∃ x, x = gN h + 1 := ⟨_, rfl⟩
  obtain ⟨u, uE⟩ : ∃ g, g = nwA h 60 5 := ⟨_, rfl⟩
  have nu : gN u = z := by rw [uE, zE]; rfl
  have s1 : Sh u := by rw [uE]; exact hs.nw
  have w1 : HW u := by rw [uE]; exact HW.nw w
  obtain ⟨g, gE⟩ : ∃ g, g = nwM u 4 5 := ⟨_, rfl⟩
  have s2 : Sh g := by rw [gE]; exact s1.nwM
  have w2 : HW g := by rw [gE]; exact HW.nwM w1
  have N2 : NFr x0 h g := by rw [gE, uE]; exact (NFr.rfl.nw).nwM
  have NG : NFr (gN h) h g := by rw [gE, uE]; exact (NFr.rfl.nw).nwM
  have c0' : gC g x0 = 60 := by rw [(N2.2.1 x0 l0).1]; exact c0
  have k0' : gK g x0 = 11 := by rw [(N2.2.1 x0 l0).2]; exact k0
  have c1' : gC g x1 = 63 := by rw [(N2.2.1 x1 l1).1]; exact c1
  have k1' : gK g x1 = 11 := by rw [(N2.2.1 x1 l1).2]; exact k1
  have c2' : gC g x2 = 60 := by rw [gE, (nwM_C (by omega)).1, uE, x2E]; exact nw_C0
  have k2' : gK g x2 = 5 := by rw [gE, (nwM_C (by omega)).2.1, uE, x2E]; exact nw_K0
  have A0 : gA g x0 = gA h x0 := (NG.2.2.2.2.2.1 x0 l0 (by omega)).1
  have A1 : gA g x1 = gA h x1 := (NG.2.2.2.2.2.1 x1 l1 (by omega)).1
  have L : LnC g z := by rw [gE, ← nu]; exact LnC.nw (by omega)
  have K2 : KS g := K.nf NG (by omega) (by omega)
  have cz : gN g = gN h + 6 ∧ gS g = gS h + 29 := by rw [gE, uE]; exact ⟨rfl, rfl⟩
  have e0 : E (d + 5) 200 [.ref x0, .ref x1] h = Q (d + 4) 200 17 [some (.ref x0), some (.ref x1), some (.ref x2), some (.ref z), some (.int (nI (lsE (uB t) 0).length)), some (.int (nI 0))] [] g := by
    rw [t_200 hs, ← uE, ← x2E, t_200_3 s1, nu, ← gE, t_200_10 s2]; rfl
  obtain ⟨h1, b1, b2⟩ := c_mdlp (d := d) (z := z) hB hx0 h01 (show x1 < x2 by omega) (show x2 < z by omega) 11 0 rfl s2 c0' k0' c1' k1' (fun p hp => by rw [A1]; exact (R p hp).2) c2' k2' (Nat.zero_le _) (fun p hp => by rw [A0, if_neg (fun q => absurd q.1 (Nat.not_lt_zero _))]; exact (R p hp).1) (fun k hk => absurd hk (Nat.not_lt_zero _))
  rw [← e0] at b2
  have s3 := b1.sh s2
  have nf1 : NFr x0 h h1 := N2.trans (Fr.nf' b1 fun q hq => by simp only [List.mem_cons, List.not_mem_nil, or_false] at hq; omega)
  rcases b2 with ⟨b2, b3⟩ | ⟨b2, b3, b4, b5⟩
  · exact ⟨h1, -1, b3, nf1, s3, b1.hw w2, by rw [b1.ct.1]; exact cz.1, by rw [b1.ct.2]; exact cz.2, Or.inl ⟨rfl, Or.inl b2⟩⟩
  have A3 : SA h1 x0 (sgT t) := ⟨by rw [b1.2.1]; exact c0', by rw [b1.2.2.1]; exact k0', hx0, b4⟩
  have xx : ∀ q, q ∈ [x0, x2] → 61 ≤ q ∧ q ≠ x1 := fun q hq => by simp only [List.mem_cons, List.not_mem_nil, or_false] at hq; omega
  have M1 : MdR h1 x0 x1 x2 z t := ⟨s3, K2.fr b1 (by decide) (fun q hq => (xx q hq).1), L.fr b1, A3, ⟨by rw [b1.2.1]; exact c1', by rw [b1.2.2.1]; exact k1', fun p hp => by rw [b1.A (fun q => (xx _ q).2 rfl), A1]; exact (R p hp).2⟩, by rw [b1.2.1]; exact c2', by rw [b1.2.2.1]; exact k2'⟩
  have D := sqE_d (E := uB t) (show (lsE (uB t) 11).length ≤ 4 from b2)
  obtain ⟨h2, v, d1, d2, d3⟩ := c_solve (d := d + 1) (x0 := x0) (x1 := x2) (z := z) (n := uN t) (K := 5) (S := sgT t) D (sgT_lt hB) (by omega) (by omega) (by omega) s3 M1.2.1 M1.2.2.1 A3 ⟨M1.2.2.2.2.2.1, M1.2.2.2.2.2.2, by omega, by decide, by omega, b5⟩
  have s4 := d2.sh s3
  have nx : ∀ q, q ∈ x0 :: Xz z → x0 ≤ q := fun q hq => by simp only [Xz, List.mem_cons, List.not_mem_nil, or_false] at hq; omega
  have nx' : ∀ q, q ∈ x0 :: Xz z → 61 ≤ q ∧ q ≠ x1 := fun q hq => by simp only [Xz, List.mem_cons, List.not_mem_nil, or_false] at hq; omega
  have nf2 : NFr x0 h h2 := nf1.trans (Fr.nf' d2 nx)
  have xm : ∀ q, q ∈ XMd x0 x2 z → x0 ≤ q := fun q hq => by have := xmd_b hq; omega
  have cz2 : gN h2 = gN h + 6 ∧ gS h2 = gS h + 29 := by rw [d2.ct.1, d2.ct.2, b1.ct.1, b1.ct.2]; exact cz
  have e1 : E (d + 5) 200 [.ref x0, .ref x1] h = Q (d + 4) 200 67 [some (.ref x0), some (.ref x1), some (.ref x2), some (.ref z), some (.int (nI (uN t))), some (.int (nI 11))] [.int (nI v)] h2 := by
    rw [b3, d1, cK_v]
  rcases d3 with ⟨rfl, T, d3, d4⟩ | ⟨rfl, d3, d4⟩
  · refine ⟨h2, nI (uN t), ?_, nf2, s4, d2.hw (b1.hw w2), cz2.1, cz2.2, Or.inr ⟨uN t, T, rfl, b2, ⟨b2, Or.inl ⟨rfl, SolE.s.mpr d3⟩⟩, d4⟩⟩
    rw [e1, t_200_67 s4, if_neg (by decide)]
  have no0 : ∀ T', ¬ SolE (uB t) (sgT t) T' := fun T' q => d3 T' (SolE.s.mp q)
  have M2 : MdR h2 x0 x1 x2 z t := M1.go d2 nx' d4
  have P2 : ∀ k, k < uN t → gA h2 x2 k = nI (sqE (uB t) k) := fun k hk => by
    rw [d2.A (fun q => by simp only [Xz, List.mem_cons, List.not_mem_nil, or_false] at q; omega)]; exact b5 k hk
  by_cases q2 : 2 < uN t
  · refine ⟨h2, -1, ?_, nf2, s4, d2.hw (b1.hw w2), cz2.1, cz2.2, Or.inl ⟨rfl, Or.inr ⟨no0, fun q => by omega, fun q => by omega⟩⟩⟩
    rw [e1, t_200_67 s4, if_pos rfl, if_pos (nI_lt q2 (by omega)), if_neg (by rw [nI_eq (by omega) (by decide)]; omega)]
  have e2 : E (d + 5) 200 [.ref x0, .ref x1] h = cK (E (d + 4) 247 [.ref x0, .ref x1, .ref x2, .int (nI (uN t)), .ref z] h2) (Q (d + 4) 200 88 [some (.ref x0), some (.ref x1), some (.ref x2), some (.ref z), some (.int (nI (uN t))), some (.int (nI 11))]) [] := by
    rw [e1, t_200_67 s4, if_pos rfl, if_neg (nI_nlt (by omega) (by omega))]
  obtain ⟨h3, v, f1, f2, f3⟩ := c_mend1 (d := d) (x0 := x0) (x1 := x1) (x2 := x2) (z := z) hB (by omega) (by omega) (by omega) h01 (by omega) hx0 11 0 rfl M2 P2 (fun i' hi' => absurd hi' (Nat.not_lt_zero _))
  have s5 := f2.sh s4
  have nf3 : NFr x0 h h3 := nf2.trans (Fr.nf' f2 xm)
  have cz3 : gN h3 = gN h + 6 ∧ gS h3 = gS h + 29 := by rw [f2.ct.1, f2.ct.2]; exact cz2
  have e3 : E (d + 5) 200 [.ref x0, .ref x1] h = Q (d + 4) 200 88 [some (.ref x0), some (.ref x1), some (.ref x2), some (.ref z), some (.int (nI (uN t))), some (.int (nI 11))] [.int (nI v)] h3 := by
    rw [e2, t_247 s4, f1, cK_v]
  rcases f3 with ⟨rfl, i, T, f4, f5, f6, f7⟩ | ⟨rfl, f4, f5⟩
  · refine ⟨h3, nI (uN t + 1), ?_, nf3, s5, f2.hw (d2.hw (b1.hw w2)), cz3.1, cz3.2, Or.inr ⟨uN t + 1, T, rfl, by omega, ⟨b2, Or.inr (Or.inl ⟨rfl, by omega, no0, i, f4, f5, f6⟩)⟩, f7⟩⟩
    rw [e3, t_200_88 s5, if_neg (by decide), nI_add]
  by_cases q0 : uN t = 0
  · have all0 : ∀ p, p < 11 → uB t p = false := fun p hp => by
      cases hu : uB t p with
      | false => rfl
      | true =>
        have hm := lsE_m.mpr ⟨hp, hu⟩
        have : (lsE (uB t) 11) = [] := List.eq_nil_of_length_eq_zero q0
        rw [this] at hm
        exact absurd hm List.not_mem_nil
    obtain ⟨h4, v, g1, g2, g3⟩ := c_mend3 (d := d) (x0 := x0) (x1 := x1) (x2 := x2) (z := z) hB (by omega) (by omega) h01 (by omega) hx0 11 0 rfl f5 (fun i' j' hi' => absurd hi' (Nat.not_lt_zero _))
    have s6 := g2.sh s5
    have nf4 : NFr x0 h h4 := nf3.trans (Fr.nf' g2 xm)
    have cz4 : gN h4 = gN h + 6 ∧ gS h4 = gS h + 29 := by rw [g2.ct.1, g2.ct.2]; exact cz3
    have e4 : E (d + 5) 200 [.ref x0, .ref x1] h = Q (d + 4) 200 108 [some (.ref x0), some (.ref x1), some (.ref x2), some (.ref z), some (.int (nI (uN t))), none] [.int (nI v)] h4 := by
      rw [e3, t_200_88 s5, if_pos rfl, if_pos (by rw [q0]), t_248 s5, g1, cK_v]
    rcases g3 with ⟨rfl, i, j, T, g4, g5, g6, g7, g8⟩ | ⟨rfl, g4⟩
    · refine ⟨h4, nI 2, ?_, nf4, s6, g2.hw (f2.hw (d2.hw (b1.hw w2))), cz4.1, cz4.2, Or.inr ⟨2, T, rfl, by decide, ⟨b2, Or.inr (Or.inr ⟨rfl, q0, fun i hi T' => f4 i hi (all0 i hi) T', i, j, g4, g5, g6, g7⟩)⟩, g8⟩⟩
      rw [e4, t_200_108 s6, if_neg (by decide)]
    · refine ⟨h4, -1, ?_, nf4, s6, g2.hw (f2.hw (d2.hw (b1.hw w2))), cz4.1, cz4.2, Or.inl ⟨rfl, Or.inr ⟨no0, fun _ i hi hu T' => f4 i hi hu T', fun _ => g4⟩⟩⟩
      rw [e4, t_200_108 s6, if_pos rfl]
  · refine ⟨h3, -1, ?_, nf3, s5, f2.hw (d2.hw (b1.hw w2)), cz3.1, cz3.2, Or.inl ⟨rfl, Or.inr ⟨no0, fun _ i hi hu T' => f4 i hi hu T', fun q => absurd q q0⟩⟩⟩
    rw [e3, t_200_88 s5, if_pos rfl, if_neg (by rw [nI_eq (by omega) (by decide)]; exact q0)]
end CRD3
section CRD4
variable {d : Nat} {h : AH} {b : Nat} {bk : Bk} {G Cp : Nat → Nat → Nat} {s : St} {t : Tp} {x0 : Nat} {T : Nat → Nat}
theorem c_hasS (hs : Sh h) {x y : Nat} {S : Nat → Nat} (cx : gC h x = 5) (rx : gR h 1285 x = some y) (A : SA h y S) (B : SA h x0 T) (hS : ∀ p, p < 11 → S p < 64) (hT : ∀ p, p < 11 → T p < 64) : ∀ (r p : Nat), r + p = 11 → ((∀ p', p ≤ p' → p' < 11 → S p' = T p') → Q d 249 2 [some (.ref x), some (.ref x0), some (.int (nI p))] [] h = some (some (.int (nI 1)), h)) ∧ ((¬ ∀ p', p ≤ p' → p' < 11 → S p' = T p') → Q d 249 2 [some (.ref x), some (.ref x0), some (.int (nI p))] [] h = some (some (.int (nI 0)), h))
  | 0, p, e => ⟨fun _ => by rw [t_249_2 hs, if_neg (nI_nlt (by omega) (by omega))], fun q => absurd (fun p' h1 h2 => by omega) q⟩
  | r + 1, p, e => by
    have hp : p < 11 := by omega
    obtain ⟨i1, i2⟩ := c_hasS hs cx rx A B hS hT r (p + 1) (by omega)
    obtain ⟨a1, a2, a3, a4⟩ := A
    obtain ⟨b1, b2, b3, b4⟩ := B
    have l1 := hS p hp
    have l2 := hT p hp
    have st : Q d 249 2 [some (.ref x), some (.ref x0), some (.int (nI p))] [] h = if S p = T p then Q d 249 2 [some (.ref x), some (.ref x0), some (.int (nI (p + 1)))] [] h else some (some (.int (nI 0)), h) := by
      rw [t_249_2 hs, if_pos (nI_lt hp (by decide)), ck_ok cx, rx, Option.bind_some, ck_ok a1, a2, gd_nI hp (by decide), ck_ok b1, b2, gd_nI hp (by decide), ix_nI (by omega), a4 p hp, b4 p hp, nI_add]
      simp only [show (nI (S p) = nI (T p)) = (S p = T p) from propext (nI_eq (by omega) (by omega))]
    rw [st]
    by_cases q : S p = T p
    · rw [if_pos q]
      refine ⟨fun z => i1 fun p' h1 h2 => z p' (by omega) h2, fun z => i2 fun z' => z fun p' h1 h2 => ?_⟩
      by_cases w : p' = p
      · rw [w]; exact q
      · exact z' p' (by omega) h2
    · rw [if_neg q]
      exact ⟨fun z => absurd (z p (Nat.le_refl _) hp) q, fun _ => rfl⟩
theorem c_itlp (C : CSt h b bk s G Cp) (W : WB bk) (w : WS bk s) (C5 : CS5 h s G) (B : SA h x0 T) (hT : ∀ p, p < 11 → T p < 64) (hV : ∀ j, j < 4 → vsS T j = 0) : ∀ (r i : Nat), r + i = zN s 2 → Q (d + 4) 201 2 [some (.ref 156), some (.ref x0), some (.int (nI i))] [] h = some (some (.int (if (64 * T 3 + T 4 < zN s 2 ∧ ∀ p, p < 7 → sgB s (64 * T 3 + T 4) p = T p) ∧ i ≤ 64 * T 3 + T 4 then nI (64 * T 3 + T 4) else -1)), h)
  | 0, i, e => by
    have hs := C.1
    have wz := w.1
    have A1 := C.2.2.2.2.2.2.2 0 (Or.inl (by decide)) (Or.inl (by decide))
    have lX0 : (lX s 0).length = zN s 2 := List.length_range
    rw [lX0] at A1
    have A1 : Ar h 164 (la G 0) (lc Cp 0) (zN s 2) (fun k => G 4 ((lX s 0).getD k 0)) := A1
    rw [t_201_2 hs, al_size hs A1, cK_v, t_201_10 hs, if_neg (nI_nlt (by omega) (by omega)), if_neg (by omega)]
  | r + 1, i, e => by
    have ih := c_itlp C W w C5 B hT hV r (i + 1) (by omega)
    have hs := C.1
    have wz := w.1
    have w8 := W.1.2.2.1
    have hi : i < zN s 2 := by omega
    have A1 := C.2.2.2.2.2.2.2 0 (Or.inl (by decide)) (Or.inl (by decide))
    have lX0 : (lX s 0).length = zN s 2 := List.length_range
    rw [lX0] at A1
    have A1 : Ar h 164 (la G 0) (lc Cp 0) (zN s 2) (fun k => G 4 ((lX s 0).getD k 0)) := A1
    have gi : (lX s 0).getD i 0 = i := by
      show (List.range (zN s 2)).getD i 0 = i
      rw [List.getD_eq_getElem?_getD, List.getElem?_range hi]; rfl
    obtain ⟨g1, g2, S, g3, g4⟩ := C5 i hi
    have ci := (C.2.2.2.2.1.2.2.2 i hi).1
    obtain ⟨v0, v1, v2, v3, v4, -⟩ := w.2.2.2.1 i hi
    have hsg := sgB_lt (s := s) (i := i) (by omega) v4 (by omega) v2
    have eq7 : (∀ p', 0 ≤ p' → p' < 11 → S p' = T p') ↔ ∀ p, p < 7 → sgB s i p = T p := by
      have off : ∀ p, p < 11 → ((∀ k, k < 4 → p ≠ sp7 k) ↔ p < 7) := fun p hp => by
        constructor
        · intro q
          by_cases z : p < 7
          · exact z
          · exact absurd (show p = sp7 (p - 7) by unfold sp7; omega) (q (p - 7) (by omega))
        · intro q k hk z
          unfold sp7 at z; omega
      constructor
      · intro q p hp
        rw [← q p (Nat.zero_le _) (by omega)]
        exact (g3.2.1 p (by omega) ((off p (by omega)).mpr hp)).symm
      · intro q p _ hp
        exact SolS.one sp7_d (fun p _ => hsg p) g3 ⟨hT, fun p hp hk => (q p ((off p hp).mp hk)).symm, hV⟩ p hp
    obtain ⟨o1, o2⟩ := c_hasS (d := d + 3) (x0 := x0) (T := T) hs ci g1 g4 B g3.1 hT 11 0 rfl
    rw [t_201_2 hs, al_size hs A1, cK_v, t_201_10 hs, if_pos (nI_lt hi (by omega)), al_get hs A1 hi, cK_v, gi, t_201_21 hs, ck_ok ci, ck_ok ci, t_249 hs]
    by_cases q : ∀ p, p < 7 → sgB s i p = T p
    · have e3 : i / 64 = T 3 := q 3 (by decide)
      have e4 : i % 64 = T 4 := q 4 (by decide)
      have eI : 64 * T 3 + T 4 = i := by omega
      rw [o1 (eq7.mpr q), cK_v, t_201_28 hs, if_neg (by decide), eI, if_pos ⟨⟨hi, q⟩, Nat.le_refl _⟩]
    · rw [o2 (fun z => q (eq7.mp z)), cK_v, t_201_28 hs, if_pos rfl, nI_add, ih]
      have : ((64 * T 3 + T 4 < zN s 2 ∧ ∀ p, p < 7 → sgB s (64 * T 3 + T 4) p = T p) ∧ i + 1 ≤ 64 * T 3 + T 4) = ((64 * T 3 + T 4 < zN s 2 ∧ ∀ p, p < 7 → sgB s (64 * T 3 + T 4) p = T p) ∧ i ≤ 64 * T 3 + T 4) := propext ⟨fun z => ⟨z.1, by omega⟩, fun z => ⟨z.1, by
        have : i ≠ 64 * T 3 + T 4 := fun y => q (by have := z.1.2; rw [← y] at this; exact this)
        omega⟩⟩
      simp only [this]
abbrev RdF (N : Nat) (h h' : AH) : Prop := GF (fun k x => N ≤ x ∨ k = 3073 ∨ k = 3337) (fun _ x => N ≤ x) (fun x => N ≤ x) (fun x => N ≤ x) h h'
theorem c_read (W : WB bk) (C : CSt h b bk s G Cp) (w : WS bk s) (K : KS h) (C5 : CS5 h s G) (T : CT h t) {fd ff md : Int32} (F : CF h fd ff md) : ∃ h' r, E (d + 6) 7 [.ref 100] h = some (some (.int r.1), h') ∧ RdR s t md r ∧ RdF (gN h) h h' ∧ CSt h' b bk s G Cp ∧ CT h' (0, t.2) ∧ CF h' fd ff r.2 ∧ gN h' ≤ gN h + 8 ∧ gS h' ≤ gS h + 51 := by
  have hs := C.1
  have w0 := C.2.1
  have g296 := hs.2
  obtain ⟨x0, x0E⟩ : ∃ x, x = gN h := ⟨_, rfl⟩
  obtain ⟨x1, x1E⟩ : ∃ x, x = gN h + 1 := ⟨_, rfl⟩
  obtain ⟨u, uE⟩ : ∃ g, g = nwA h 60 11 := ⟨_, rfl⟩
  obtain ⟨g, gE⟩ : ∃ g, g = nwA u 63 11 := ⟨_, rfl⟩
  have nu : gN u = x1 := by rw [uE, x1E]; rfl
  have s1 : Sh u := by rw [uE]; exact hs.nw
  have s2 : Sh g := by rw [gE]; exact s1.nw
  have w2 : HW g := by rw [gE, uE]; exact HW.nw (h := nwA h 60 11) (HW.nw w0)
  have NG : NFr (gN h) h g := by rw [gE, uE]; exact (NFr.rfl.nw).nw
  have cz : gN g = gN h + 2 ∧ gS g = gS h + 22 := by rw [gE, uE]; exact ⟨rfl, rfl⟩
  have c0 : gC g x0 = 60 ∧ gK g x0 = 11 ∧ gA g x0 = fun _ => 0 := by
    rw [gE]
    refine ⟨(nw_C (by omega)).trans ?_, (nw_K (by omega)).trans ?_, (nw_A (by omega)).trans ?_⟩
    · rw [uE, x0E]; exact nw_C0
    · rw [uE, x0E]; exact nw_K0
    · rw [uE, x0E]; exact nw_A0
  have c1 : gC g x1 = 63 ∧ gK g x1 = 11 ∧ gA g x1 = fun _ => 0 := by
    rw [gE, ← nu]; exact ⟨nw_C0, nw_K0, nw_A0⟩
  have T2 : CT g t := ⟨by rw [NG.2.2.1 3073 101 (by omega) (by omega)]; exact T.1, T.2.1, fun i hi => by rw [(NG.2.2.2.2.2.1 102 (by omega) (by omega)).1]; exact T.2.2 i hi⟩
  obtain ⟨h1, v, a1, a2, a3⟩ := c_rdB (d := d + 4) (x0 := x0) (x1 := x1) (by omega) (by omega) (by omega) s2 T2 c0.1 c0.2.1 c1.1 c1.2.1 c0.2.2 c1.2.2
  have s3 := a2.sh s2
  have NG1 : NFr (gN h) h h1 := NG.trans (Fr.nf' a2 fun q hq => by simp only [List.mem_cons, List.not_mem_nil, or_false] at hq; omega)
  obtain ⟨h2, h2E⟩ : ∃ g, g = sI h1 3073 101 (nI 0) := ⟨_, rfl⟩
  have s4 : Sh h2 := by rw [h2E]; exact s3.sI
  have w4 : HW h2 := by rw [h2E]; exact a2.hw w2
  have cz1 : gN h1 = gN h + 2 ∧ gS h1 = gS h + 22 := by rw [a2.ct.1, a2.ct.2]; exact cz
  have cz2 : gN h2 = gN h + 2 ∧ gS h2 = gS h + 22 := by rw [h2E]; exact cz1
  have F2 : RdF (gN h) h h2 := by
    rw [h2E]
    exact (GF.wk NG1 (fun k x q => Or.inl q) (fun _ _ q => q) (fun _ q => q) (fun _ q => q)).trans (GF.sI (Or.inr (Or.inl rfl)))
  have C1 := C.nf NG1 s3 (a2.hw w2)
  have f12 : Fr [3073] [] h1 h2 := by rw [h2E]; exact Fr.rfl.sI (by decide)
  have C2 : CSt h2 b bk s G Cp := C1.fr f12 (by decide) (fun x q => absurd q List.not_mem_nil) (fun _ => rfl) (C1.2.2.2.2.1.fr f12 (by decide))
  have CT2 : CT h2 (0, t.2) := ⟨by rw [h2E]; exact gI_s, Nat.zero_le _, fun i hi => absurd hi (Nat.not_lt_zero _)⟩
  have kF : ∀ k, k ≠ 3073 → gI h2 k 100 = gI h k 100 := fun k hk => by
    rw [h2E, gI_k hk, NG1.2.2.1 k 100 (by omega) (by omega)]
  have F2' : CF h2 fd ff md := by
    unfold CF at F ⊢
    rw [kF _ (by decide), kF _ (by decide), kF _ (by decide)]; exact F
  have e0 : E (d + 6) 7 [.ref 100] h = Q (d + 5) 7 27 [some (.ref 100), some (.ref x0), some (.ref x1), some (.int (nI v)), none, none] [] h2 := by
    rw [t_7 hs, ← uE, ← x0E, t_7_4 s1, nu, ← gE, t_7_9 s2, a1, cK_v, t_7_19 s3, t_195 s3, cK_n, ← h2E]
  rcases a3 with ⟨rfl, hB, R⟩ | ⟨rfl, nB⟩
  · have NG2 : NFr (gN h) h1 h2 → True := fun _ => trivial
    have K2 : KS h2 := (K.nf NG1 (by omega) (by omega)).fr f12 (by decide) (fun x q => absurd q List.not_mem_nil)
    have d0 : gC h2 x0 = 60 ∧ gK h2 x0 = 11 := by rw [f12.2.1, f12.2.2.1, a2.2.1, a2.2.2.1]; exact ⟨c0.1, c0.2.1⟩
    have d1 : gC h2 x1 = 63 ∧ gK h2 x1 = 11 := by rw [f12.2.1, f12.2.2.1, a2.2.1, a2.2.2.1]; exact ⟨c1.1, c1.2.1⟩
    obtain ⟨h3, v, b1, b2, b3, b4, b5, b6, b7⟩ := c_mend (d := d) (x0 := x0) (x1 := x1) hB s4 w4 K2 (by omega) (by omega) d0.1 d0.2 d1.1 d1.2 (fun p hp => by rw [f12.A List.not_mem_nil, f12.A List.not_mem_nil]; exact R p hp)
    have e1 : E (d + 6) 7 [.ref 100] h = Q (d + 5) 7 39 [some (.ref 100), some (.ref x0), some (.ref x1), some (.int (nI 1)), none, none] [.int v] h3 := by
      rw [e0, t_7_27 s4, if_neg (by decide), b1, cK_v]
    have F3 : RdF (gN h) h h3 := F2.trans (GF.wk b2 (fun k x q => Or.inl (by omega)) (fun k x q => by omega) (fun x q => by omega) (fun x q => by omega))
    have NG13 : NFr (gN h) h2 h3 := GF.wk b2 (fun k x q => by omega) (fun k x q => by omega) (fun x q => by omega) (fun x q => by omega)
    have C3 : CSt h3 b bk s G Cp := by
      -- old cells are left alone
      obtain ⟨p1, p2, p3, p4, p5, p6⟩ := C
      have OF : GF (fun k x => gN h ≤ x ∨ k = 3073 ∨ k = 3337) (fun _ x => gN h ≤ x) (fun x => gN h ≤ x) (fun x => gN h ≤ x) h h3 := F3
      refine ⟨b3, b4, by rw [OF.2.2.2.2.1 2048 156 (by omega) (by omega)]; exact p3, ?_, ?_, p6.1, fun r hr => ⟨(p6.2.1 r hr).1.up OF.1.1, (p6.2.1 r hr).2⟩, fun r hr h0 => ?_⟩
      · exact p4.g2 p2 OF (fun k hk x hx q => by
          rcases q with q | q | q
          · omega
          · subst q; revert hk; decide
          · subst q; revert hk; decide) (fun j hj => by
          have A := (p4.2.2.1 j hj).2
          have l1 := p2.lt A.1 (by decide)
          have l2 := p2.lt A.2.2.1 (by decide)
          exact ⟨by omega, by omega, by omega⟩) (fun k hk x hx => by omega) (fun x hx hl => by omega)
      · obtain ⟨q1, q2, q3, q4⟩ := p5
        have kI : ∀ k x, x < gN h → k ≠ 3073 → k ≠ 3337 → gI h3 k x = gI h k x := fun k x hx n1 n2 => OF.2.2.1 k x hx (by omega)
        refine ⟨by rw [kI _ _ (by omega) (by decide) (by decide)]; exact q1, by rw [kI _ _ (by omega) (by decide) (by decide)]; exact q2, q3, fun i hi => ?_⟩
        obtain ⟨r1, r2, r3⟩ := q4 i hi
        rw [(OF.2.1 _ r2).1, kI _ _ r2 (by decide) (by decide), kI _ _ r2 (by decide) (by decide), kI _ _ r2 (by decide) (by decide), kI _ _ r2 (by decide) (by decide), kI _ _ r2 (by decide) (by decide), kI _ _ r2 (by decide) (by decide), kI _ _ r2 (by decide) (by decide), kI _ _ r2 (by decide) (by decide), kI _ _ r2 (by decide) (by decide), kI _ _ r2 (by decide) (by decide), kI _ _ r2 (by decide) (by decide), kI _ _ r2 (by decide) (by decide), kI _ _ r2 (by decide) (by decide), kI _ _ r2 (by decide) (by decide)]
        exact ⟨r1, Nat.lt_of_lt_of_le r2 OF.1.1, r3⟩
      · have A := p6.2.2 r hr h0
        have l1 := p2.lt A.1 (by decide)
        have l2 := p2.lt A.2.2.1 (by decide)
        exact A.gf p2 OF (by omega) (by omega) (by omega)
    have CT3 : CT h3 (0, t.2) := ⟨by rw [NG13.2.2.1 3073 101 (by omega) (by omega)]; exact CT2.1, Nat.zero_le _, fun i hi => absurd hi (Nat.not_lt_zero _)⟩
    have kF3 : ∀ k, gI h3 k 100 = gI h2 k 100 := fun k => NG13.2.2.1 k 100 (by omega) (by omega)
    rcases b7 with ⟨rfl, b8⟩ | ⟨m, Y, rfl, b8, b9, b10⟩
    · refine ⟨h3, (-1, md), ?_, Or.inr ⟨hB, Or.inl ⟨b8, rfl⟩⟩, F3, C3, CT3, ?_, by omega, by omega⟩
      · rw [e1, t_7_39 b3, if_pos rfl]
      · unfold CF at F2' ⊢; rw [kF3, kF3, kF3]; exact F2'
    · obtain ⟨h4, h4E⟩ : ∃ g, g = sI h3 3337 100 (nI m) := ⟨_, rfl⟩
      have s5 : Sh h4 := by rw [h4E]; exact b3.sI
      have f34 : Fr [3337] [] h3 h4 := by rw [h4E]; exact Fr.rfl.sI (by decide)
      have C4 : CSt h4 b bk s G Cp := C3.fr f34 (by decide) (fun x q => absurd q List.not_mem_nil) (fun _ => rfl) (C3.2.2.2.2.1.fr f34 (by decide))
      have F4 : RdF (gN h) h h4 := by rw [h4E]; exact F3.trans (GF.sI (Or.inr (Or.inr rfl)))
      have C54 : CS5 h4 s G := fun i hi => by
        obtain ⟨q1, q2, V, q3, q4, q5, q6, q7⟩ := C5 i hi
        have e := (C.2.2.2.2.1.2.2.2 i hi).2.1
        exact ⟨by rw [F4.2.2.2.2.1 _ _ e (by omega)]; exact q1, Nat.lt_of_lt_of_le q2 F4.1.1, V, q3, by rw [(F4.2.1 _ q2).1]; exact q4, by rw [(F4.2.1 _ q2).2]; exact q5, q6, fun p hp => by rw [(F4.2.2.2.2.2.1 _ q2 (by omega)).1]; exact q7 p hp⟩
      have B4 : SA h4 x0 Y := by
        obtain ⟨q1, q2, q3, q4⟩ := b10
        exact ⟨by rw [f34.2.1]; exact q1, by rw [f34.2.2.1]; exact q2, q3, by rw [f34.A List.not_mem_nil]; exact q4⟩
      have hY : (∀ p, p < 11 → Y p < 64) ∧ ∀ j, j < 4 → vsS Y j = 0 := by
        rcases b9.2 with ⟨-, q⟩ | ⟨-, -, -, i, -, -, q⟩ | ⟨-, -, -, i, j, -, -, -, q⟩
        · exact ⟨q.1, q.2.2⟩
        · exact ⟨q.1, q.2.2⟩
        · exact ⟨q.1, q.2.2⟩
      have lp := c_itlp (d := d) (x0 := x0) (T := Y) C4 W w C54 B4 hY.1 hY.2 (zN s 2) 0 rfl
      refine ⟨h4, (itA2 s Y, nI m), ?_, Or.inr ⟨hB, Or.inr ⟨m, Y, b9, rfl⟩⟩, F4, C4, ?_, ?_, ?_, ?_⟩
      · have ne : ¬ nI m = -1 := nn1 (by omega)
        rw [e1, t_7_39 b3, if_neg ne, ← h4E, t_201 s5, lp, cK_v, t_7_63 s5]
        have wz := w.1
        unfold itA2
        by_cases q : 64 * Y 3 + Y 4 < zN s 2 ∧ ∀ p, p < 7 → sgB s (64 * Y 3 + Y 4) p = Y p
        · have n2 : ¬ nI (64 * Y 3 + Y 4) = -1 := nn1 (by omega)
          have hc : (64 * Y 3 + Y 4 < zN s 2 ∧ ∀ p, p < 7 → sgB s (64 * Y 3 + Y 4) p = Y p) ∧ 0 ≤ 64 * Y 3 + Y 4 := ⟨q, Nat.zero_le _⟩
          rw [if_pos hc, if_neg n2, if_pos q]
        · have hc : ¬ ((64 * Y 3 + Y 4 < zN s 2 ∧ ∀ p, p < 7 → sgB s (64 * Y 3 + Y 4) p = Y p) ∧ 0 ≤ 64 * Y 3 + Y 4) := fun z => q z.1
          rw [if_neg hc, if_pos rfl, if_neg q]
      · exact ⟨by rw [f34.I (by decide)]; exact CT3.1, Nat.zero_le _, fun i hi => absurd hi (Nat.not_lt_zero _)⟩
      · obtain ⟨y1, y2, y3⟩ := F2'
        exact ⟨by rw [f34.I (by decide), kF3]; exact y1, by rw [f34.I (by decide), kF3]; exact y2, by rw [h4E]; exact gI_s⟩
      · have := f34.ct.1; omega
      · have := f34.ct.2; omega
  · refine ⟨h2, (-3, md), ?_, Or.inl ⟨nB, rfl⟩, F2, C2, CT2, F2', by omega, by omega⟩
    rw [e0, t_7_27 s4, if_pos rfl]
end CRD4
