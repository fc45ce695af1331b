/-! ===== RUN: an item, on both sides ===== -/
theorem ce_d {t : Tp} {N tag d k k' : Nat} {L : Cds} (h : tag = 8 ∨ tag = 9) (e : CE t (N + 1) tag d k k' L) : d < 20 := by
  by_cases q : d < 20
  · exact q
  · exfalso
    have e1 := e.1
    rcases h with h | h <;> subst h
    · have e1 : pxU t (px t N) d k = some (0, k') := e1
      unfold pxU at e1
      by_cases z : ¬ (lk t k = 3 ∨ lk t k = 4 ∨ lk t k = 40 ∨ lk t k = 45 ∨ 143 ≤ lk t k ∧ lk t k ≤ 153)
      · rw [if_pos z] at e1
        exact absurd (congrArg Prod.fst (Option.some.inj e1)) (fX_0 (by decide))
      · rw [if_neg z, if_pos (by omega)] at e1
        exact absurd (congrArg Prod.fst (Option.some.inj e1)) (fX_0 (by decide))
    · have e1 : pxI t (px t N) d k = some (0, k') := e1
      unfold pxI at e1
      by_cases z : ¬ (lk t k = 5 ∨ 154 ≤ lk t k ∧ lk t k ≤ 159)
      · rw [if_pos z] at e1
        exact absurd (congrArg Prod.fst (Option.some.inj e1)) (fX_0 (by decide))
      · rw [if_neg z, if_pos (by omega)] at e1
        exact absurd (congrArg Prod.fst (Option.some.inj e1)) (fX_0 (by decide))
section LEI
variable {c : CXm} {M N d k k' D T p n : Nat} {hc hr h1 : AH} {L : Cds}
theorem pre_363 (K : KXs c) (G : Gs c D T p k hc hr) (hk : k < 2 ^ 31) (hd : d < 20) (hn : 3 ≤ n) : ∃ v, E (n + 1) 363 [.ref 175, .int (nI d)] hc = Q n 363 26 [some (.ref 175), some (.int (nI d)), some (.int (nI (lk (kT c) k))), none] [.int v] hc ∧ (v35 (lk (kT c) k) → v = nI (lkV (kT c) k)) := by
  have s := G.sC
  have sc := s.scr K.2.2.2.1
  obtain ⟨v, a1, a2, -⟩ := cm_vl (n := n) G.1.ci K (by omega) hk
  refine ⟨v, ?_, a2⟩
  rw [t_363 s, cm_deep s (by omega) hd, cK_v, t_363_5 s, if_pos rfl, cm_peek G.1.ci K (by omega) hk G.2.2.1, cK_v, t_363_14 s, (G.1.ci.scr K).2.1, Option.bind_some, ck_ok sc.1, G.2.2.1, a1, cK_v]
theorem pre_384 (K : KXs c) (G : Gs c D T p k hc hr) (hk : k < 2 ^ 31) (hd : d < 20) (hn : 3 ≤ n) : ∃ v, E (n + 1) 384 [.ref 175, .int (nI d)] hc = Q n 384 26 [some (.ref 175), some (.int (nI d)), some (.int (nI (lk (kT c) k))), none] [.int v] hc ∧ (v35 (lk (kT c) k) → v = nI (lkV (kT c) k)) := by
  have s := G.sC
  have sc := s.scr K.2.2.2.1
  obtain ⟨v, a1, a2, -⟩ := cm_vl (n := n) G.1.ci K (by omega) hk
  refine ⟨v, ?_, a2⟩
  rw [t_384 s, cm_deep s (by omega) hd, cK_v, t_384_5 s, if_pos rfl, cm_peek G.1.ci K (by omega) hk G.2.2.1, cK_v, t_384_14 s, (G.1.ci.scr K).2.1, Option.bind_some, ck_ok sc.1, G.2.2.1, a1, cK_v]
theorem at_1 (hc : AH) : Fr KE XE hc (sI hc 1545 175 ((gI hc 1545 175) + (nI 1))) ∧ stp1 hc (sI hc 1545 175 ((gI hc 1545 175) + (nI 1))) ∧ Fr [1545] [] hc (sI hc 1545 175 ((gI hc 1545 175) + (nI 1))) :=
  ⟨Fr.rfl.sI (by decide), stp1.of (K := [1545]) (X := []) (Fr.rfl.sI (by decide)) (by decide), Fr.rfl.sI (by decide)⟩
theorem Gs.at1 (G : Gs c D T p k hc hr) : Gs c D T p (k + 1) (sI hc 1545 175 ((gI hc 1545 175) + (nI 1))) hr := by
  rw [G.2.2.1, nI_add]; exact G.atC
theorem gB_fet {p : Nat} : gB (fet hr p) = gB hr := funext fun z => fet_fr.B (k := z) List.not_mem_nil
theorem gA_fet {p : Nat} : gA (fet hr p) = gA hr := funext fun z => fet_fr.A (k := z) List.not_mem_nil
theorem Gs.fT (G : Gs c D T p k hc hr) {q : Nat} : gI (fet hr q) 3723 189 = nI T := by rw [fet_fr.I (by decide)]; exact G.2.2.2.2.1
theorem PSt.ff {s : St} {G Cp : Nat → Nat → Nat} {q : Nat} (a : PSt c hc hr s G Cp) (r : CRm c hc hr) (K : KXs c) : RB (fet hr q) (kn c 2) (kB c) ∧ gI (fet hr q) 3597 189 = nI (kn c 2) ∧ RS1 (fet hr q) s ∧ gI (fet hr q) 3726 189 = nI (kn c 3) := by
  obtain ⟨b1, b2, b3, b4⟩ := a.rb r K
  exact ⟨b1.fr (fet_fr (h := hr) (p := q)) (by decide), by rw [fet_fr.I (by decide)]; exact b2, a.2.2.2.2.1.1, by rw [fet_fr.I (by decide)]; exact b4⟩
theorem dead_387 {P : Int32 → Prop} (a : Dd c D hc hr) (x1 x2 : Int32) (hn : 2 ≤ n) {T' p' k' : Nat} : EvI c P (E n 387 [.ref 175, .int x1, .int x2] hc) h1 hr D T' p' k' := by
  obtain ⟨m, rfl⟩ : ∃ m, n = m + 1 := ⟨n - 1, by omega⟩
  have s := a.shC
  rw [t_387 s, cm_ngo s (by omega) a.ne, cK_v, t_387_4 s, if_pos rfl, t_387_38 s, cm_ngo s (by omega) a.ne, cK_v, t_387_42 s, if_pos rfl]
  exact ⟨_, _, rfl, Or.inr a⟩
theorem EvI.nx {P : Int32 → Prop} {q : Option Ot} (a : EvI c P q hc hr D T p k) {u : Vs → AH → Option Ot} (hu : ∀ x h', Sh h' → u [.int x] h' = some (some (.int x), h')) : EvI c P (cK q u []) hc hr D T p k := by
  obtain ⟨x, hc', a1, a2⟩ := a
  refine ⟨x, hc', ?_, a2⟩
  rw [a1, cK_v]
  rcases a2 with ⟨-, -, -, hr', -, g, -⟩ | dd
  · exact hu _ _ g.sC
  · exact hu _ _ dd.shC
theorem EvL.nx {q : Option Ot} (a : EvL c q hc hr D T p k) {u : Vs → AH → Option Ot} (hu : ∀ x h', Sh h' → u [.long x] h' = some (some (.long x), h')) : EvL c (cK q u []) hc hr D T p k := by
  obtain ⟨x, hc', a1, a2⟩ := a
  refine ⟨x, hc', ?_, a2⟩
  rw [a1, cK_v]
  rcases a2 with ⟨-, -, hr', -, g, -⟩ | dd
  · exact hu _ _ g.sC
  · exact hu _ _ dd.shC
theorem dead_385 {P : Int32 → Prop} (a : Dd c D hc hr) (x1 : Int64) (hn : 2 ≤ n) {T' p' k' : Nat} : EvI c P (E n 385 [.ref 175, .long x1] hc) h1 hr D T' p' k' := by
  obtain ⟨m, rfl⟩ : ∃ m, n = m + 1 := ⟨n - 1, by omega⟩
  have s := a.shC
  rw [t_385 s, cm_ngo s (by omega) a.ne, cK_v, t_385_4 s, if_pos rfl]
  exact ⟨_, _, rfl, Or.inr a⟩
/-- of a sort, on both sides -/
theorem b_387 (K : KXs c) {x : Int32} {kd : Nat} (hkd : kd ≤ 2) (g : Gs c D (T + 1) p k hc hr) (v : gB hr 289 T = x.toInt64) (px : itv (kn c 6) x) (h4 : p < 4400) (hT : T < 2000) (A : AT (hR c) (4400 * kn c 5 + p) [(nI 28, nI kd)]) (hn : 5 ≤ n) : EvI c (itv (kn c 6)) (E n 387 [.ref 175, .int (nI kd), .int x] hc) hc hr D T (p + 1) k := by
  obtain ⟨m, rfl⟩ : ∃ m, n = m + 1 := ⟨n - 1, by omega⟩
  have s := g.sC
  have sr := g.sR K
  have sf : Sh (fet hr p) := fet_fr.sh sr
  obtain ⟨-, -, ⟨st, G, Cp, q⟩, -⟩ := id g.1
  obtain ⟨b1, b2, b3, b4⟩ := q.ff (q := p) g.1 K
  have W := K.2.2.1
  have hz := q.2.2.2.2.2.2.2.2.1
  have wi := q.2.1.i
  have vf : gB (fet hr p) 289 T = x.toInt64 := by rw [gB_fet]; exact v
  rw [t_387 s, cm_go s (by omega) g.2.1, cK_v, t_387_4 s, if_neg (by decide)]
  rcases px.u (by have := wi.1; omega) with ⟨x0, -⟩ | ⟨i, hi, xi, -, xn⟩
  · rw [if_pos x0, t_387_38 s, cm_go s (by omega) g.2.1, cK_v, t_387_42 s, if_neg (by decide)]
    have ok := o_28n (n := kn c 8 + 20) sf g.fT hT (by omega) (nI kd) (by rw [vf, x0])
    rw [← x0] at ok
    exact EvI.of px Fr.rfl stp1.rf (Gv.op K g h4 A ok Fr.rfl g.2.2.1 rfl)
  · obtain ⟨e1, e2⟩ := cm_it (n := m) q hi (by omega)
    rw [if_neg xn, xi, e1, cK_v, t_387_23 s, ck_ok e2, ck_ok e2, cm_388 q W hi hkd (by omega), cK_v, t_387_30 s]
    have o28 := o_28 (n := kn c 8 + 20) (T := T) sf W K.2.2.2.2.2.2.2.2.2.2.2.1 b2 b1 b3 wi (i := i) (by omega) g.fT fet_c hT (by omega) hkd (by rw [vf, xi])
    cases o : ofS (kB c) st i kd with
    | true =>
      rw [if_pos rfl, if_neg (by decide), t_387_38 s, cm_go s (by omega) g.2.1, cK_v, t_387_42 s, if_neg (by decide)]
      exact EvI.of (Or.inr ⟨i, hi, rfl⟩) Fr.rfl stp1.rf (Gv.op K g h4 A (o28.1 o) Fr.rfl g.2.2.1 rfl)
    | false =>
      obtain ⟨hc4, z1, z2, z3⟩ := Dd.op K g h4 A (o28.2 o) (by decide) (Fr.rfl : Fr [1545] [] hc hc) (n := m) (by omega)
      have s4 := z3.shC
      rw [if_pos (show nI (if false = true then 1 else 0) = nI 0 by decide), z1, cK_n, t_387_38 s4, cm_ngo s4 (by omega) z3.ne, cK_v, t_387_42 s4, if_pos rfl]
      exact EvI.dd z3
/-- on the shelf -/
theorem b_385 (K : KXs c) {l : Int64} (g : Gs c D (T + 1) p k hc hr) (v : gB hr 289 T = l) (h4 : p < 4400) (hT : T < 2000) {y : Int32} (A : AT (hR c) (4400 * kn c 5 + p) [(nI 26, y)]) (hn : 6 ≤ n) : EvI c (itv (kn c 6)) (E n 385 [.ref 175, .long l] hc) hc hr D T (p + 1) k := by
  obtain ⟨m, rfl⟩ : ∃ m, n = m + 3 + 1 := ⟨n - 4, by omega⟩
  have s := g.sC
  have sr := g.sR K
  have sf : Sh (fet hr p) := fet_fr.sh sr
  obtain ⟨-, -, ⟨st, G, Cp, q⟩, -⟩ := id g.1
  obtain ⟨b1, b2, b3, b4⟩ := q.ff (q := p) g.1 K
  have W := K.2.2.1
  have w0 := W.1.1
  have ho := K.2.2.2.2.2.2.2.2.1
  have e46 := (g.1.ci.scr K).2.2.1
  obtain ⟨f1, f2, f3, f4, f5, f6, f7, f8, f9, f10, f11⟩ := shf_b q W ho
  have vf : gB (fet hr p) 289 T = l := by rw [gB_fet]; exact v
  have o26 := o_26 (n := kn c 8 + 20) (T := T) sf g.fT fet_c hT (by omega) y (o := kn c 3) (by omega) b4 (len := (sH st (kn c 3)).length) (by rw [gA_fet]; exact f11) f10
  obtain ⟨f5a, f5b⟩ := f5 m (kn c 3) ho
  have pre : E (m + 3 + 1) 385 [.ref 175, .long l] hc = if lg_cmp l 0 < nI 0 then cK (E (m + 3) 365 [.ref 175, .int (nI 3)] hc) (Q (m + 3) 385 54 [some (.ref 175), none, none, none]) [] else Q (m + 3) 385 44 [some (.ref 175), some (.long l), none, some (.ref (G 5 (kn c 3)))] [.int (nI (sH st (kn c 3)).length), .long l] hc := by
    rw [t_385 s, cm_go s (by omega) g.2.1, cK_v, t_385_4 s, if_neg (by decide), f1, Option.bind_some, ck_ok f2, f3, Option.bind_some, ck_ok f4, e46, f5a, cK_v, t_385_26 s, ck_ok f5b, ck_ok f5b, f6, Option.bind_some]
    by_cases z : lg_cmp l 0 < nI 0
    · rw [if_pos z, if_pos z]
    · rw [if_neg z, if_neg z, ck_ok f7, f8 (m + 2), cK_v]
  have rf : (l < 0 ∨ ¬ l < (nI (sH st (kn c 3)).length).toInt64) → EvI c (itv (kn c 6)) (cK (E (m + 3) 365 [.ref 175, .int (nI 3)] hc) (Q (m + 3) 385 54 [some (.ref 175), none, none, none]) []) hc hr D T (p + 1) k := fun z => by
    obtain ⟨hc4, z1, z2, z3⟩ := Dd.op K g h4 A (o26.2 (by rw [vf]; exact z)) (by decide) (Fr.rfl : Fr [1545] [] hc hc) (n := m + 3) (by omega)
    rw [z1, cK_n, t_385_54 z3.shC]
    exact EvI.dd z3
  rw [pre]
  simp only [c_lt]
  by_cases z : l < 0
  · rw [if_pos z]; exact rf (Or.inl z)
  · rw [if_neg z, t_385_44 s]
    simp only [c_lt]
    by_cases z2 : l < (nI (sH st (kn c 3)).length).toInt64
    · obtain ⟨a, a1, a2⟩ := spot_in z z2 (by omega)
      obtain ⟨y1, y2, y3, y4, y5⟩ := f9 m a a1
      have ok := o26.1 a a1 (by rw [vf, a2])
      rw [gA_fet, y5] at ok
      rw [if_pos z2, ck_ok f7, a2, lN_32, y1, cK_v, t_385_62 s, ck_ok y2, ck_ok y2, y3]
      exact EvI.of (Or.inr ⟨_, y4, rfl⟩) Fr.rfl stp1.rf (Gv.op K g h4 A ok Fr.rfl g.2.2.1 rfl)
    · rw [if_neg z2]; exact rf (Or.inr z2)
end LEI
