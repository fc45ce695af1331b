/-! ===== PROGRAMMES: the reference writes rows of ons ===== -/
section STR
variable {t : Tp} {M N d k n m f c y o sd T : Nat} {r : Nat × Nat} {h : AH} {p : Option Nat}
/-- a frame is enough to lead on -/
theorem RTs.fr {ex : Nat → Nat → Prop} {P : Nat → Cds → C3 → C3 → AH → Prop} {q : Option Ot} {h1 : AH} {be tl : Nat} (g : FRg (fun x i => mTs sd c y o x i ∨ ex x i) h h1) (p : RTs ex P q h1 t M be c y o d sd r tl) : RTs ex P q h t M be c y o d sd r tl := by
  obtain ⟨h2, g1, g2, g3, g4⟩ := p
  exact ⟨h2, g1, g.trans g2, g3, g4⟩
/-- a row of the third table that is written already -/
theorem RTs.ro {ex : Nat → Nat → Prop} {P : Nat → Cds → C3 → C3 → AH → Prop} {q : Option Ot} {be tl : Nat} {a b : Int32} (hx : exA ex sd c y o) (ho : o < 700) (h9 : gA h 279 (700 * (1 - sd) + o) = a) (h0 : gA h 280 (700 * (1 - sd) + o) = b) (p : RTs (fun x i => ex x i ∨ x = 281 ∧ i = 700 * (1 - sd) + o) (fun k' L Y O h' => P k' L Y ([(a, b, gA h' 281 (700 * (1 - sd) + o))] ++ O) h') q h t M be c y (o + 1) d sd r tl) : RTs ex P q h t M be c y o d sd r tl := by
  obtain ⟨h2, g1, g2, g3, g4⟩ := p
  have g2' : FRg (fun x i => mTs sd c y o x i ∨ ex x i) h h2 := g2.wk fun x i q => by
    rcases q with q | q | ⟨q1, q2⟩
    · exact Or.inl (q.up (Nat.le_refl _) (Nat.le_refl _) (Nat.le_succ _))
    · exact Or.inr q
    · subst q1; subst q2
      exact Or.inl (Or.inr (Or.inr ⟨by decide, Nat.le_refl _, by omega⟩))
  refine ⟨h2, g1, g2', fun w => ?_, fun w => ?_⟩
  · obtain ⟨L, Y, O, x1, x2, x3, x4, x5, x6, x7⟩ := g3 w
    refine ⟨L, Y, [(a, b, gA h2 281 (700 * (1 - sd) + o))] ++ O, x1, x2, x3, x4, x5, T3_app.mpr ⟨T3_one.mpr ⟨?_, ?_, rfl⟩, by rw [List.length_singleton, Nat.add_assoc]; exact x6⟩, ?_⟩
    · rw [g2.2 279 (by decide) (by decide) _ (fun q => ?_)]
      · exact h9
      · rcases q with q | q | ⟨q, -⟩
        · unfold mTs at q; omega
        · have := (hx _ _ q).2.2 (by decide); omega
        · exact absurd q (by decide)
    · rw [g2.2 280 (by decide) (by decide) _ (fun q => ?_)]
      · exact h0
      · rcases q with q | q | ⟨q, -⟩
        · unfold mTs at q; omega
        · have := (hx _ _ q).2.2 (by decide); omega
        · exact absurd q (by decide)
    · rw [List.length_append, List.length_singleton, ← Nat.add_assoc]; exact x7
  · obtain ⟨c', y', o', x1, x2, x3, x4, x5⟩ := g4 w
    exact ⟨c', y', o', x1, x2, by omega, x4, x5⟩
theorem ps_12 (ih : PSH t M sd N) (h4 : M ≤ 4000) (e : px t (N + 1) 12 d k = some r) (S : SRt h t M k 0 c y o d sd) (hc : c ≤ k) (hk : k ≤ M) (hd : d ≤ 20) (hn : ndT 12 d ≤ n) (I : IBs t 0 k d y o) (hT : T < 820 * (1 - sd) + y) (hp : ∀ i, p = some i → i < 700 * (1 - sd) + o) (hv : gA h (slX p) (slI T p) = -1) : ∃ h' x', Q n 147 63 [some (.ref 189), some (.int (nI T)), none, some (.int (slV p))] [] h = Q n 147 69 [some (.ref 189), some (.int (nI T)), none, some (.int x')] [.int (nI 0)] h' ∧ RTs (fun x i => x = slX p ∧ i = slI T p) (fun k' L Y O h' => CSg t sd (CE t N) (CSx t sd N) 12 d k k' T c y o L Y O (gA h' (slX p) (slI T p)) ∧ IBs t 0 k' d (y + Y.length) (o + O.length)) (some (none, h')) h t M k c y o d sd r (tlT 12 d) := by
  have hn0 : 21 + 10 * (20 - d) ≤ n := hn
  have tl12 : tlT 12 d = 10 * (21 - d) + 2 := rfl
  have tl2 : tlT 2 d = 10 * (21 - d) := rfl
  have t4 := S.1.2.2.1.1.2.1
  have sl : slX p = 276 ∨ slX p = 281 := by
    cases p with
    | none => exact Or.inl rfl
    | some j => exact Or.inr rfl
  have exs : exA (fun x i => x = slX p ∧ i = slI T p) sd c y o := fun x i q => by
    obtain ⟨q1, q2⟩ := q
    cases p with
    | none =>
      have q1 : x = 276 := q1
      have q2 : i = T := q2
      exact ⟨fun z => by omega, fun _ _ => by omega, fun z => by omega⟩
    | some j =>
      have q1 : x = 281 := q1
      have q2 : i = j := q2
      have := hp j rfl
      exact ⟨fun z => by omega, fun _ z => by omega, fun _ => by omega⟩
  have e : (if lk t k = 141 then (if lk t (k + 1) = 3 ∧ 9 < tV t (k + 1) then some (fX t 4 (k + 1), 0) else sq (tk1 t 3 (k + 1)) fun k => sq (px t N 2 d k) fun k => px t N 12 d k) else some (0, k)) = some r := e
  have stop : ∀ {h1 : AH} {k1 f1 c1 y1 o1 : Nat} {x : Int32}, SRt h1 t M k1 f1 c1 y1 o1 d sd → ¬ (f1 = 0 ∧ lk t k1 = 141) → ∃ h2, Q n 147 63 [some (.ref 189), some (.int (nI T)), none, some (.int x)] [] h1 = Q n 147 69 [some (.ref 189), some (.int (nI T)), none, some (.int x)] [.int (nI 0)] h2 ∧ RSp h1 h2 t M c1 d (4400 * (1 - sd)) [] k1 f1 := fun {h1 k1 f1 c1 y1 o1 x} S1 q => by
    obtain ⟨h2, a1, a2⟩ := hw_0 S1.1 (w := 47) (n := n) (by decide) (by omega) (by omega) q
    exact ⟨h2, by rw [t_147_63 S1.1.1, a1, cK_v], a2⟩
  by_cases q : lk t k = 141
  · rw [if_pos q] at e
    have e : (sq (if lk t (k + 1) = 3 ∧ 9 < tV t (k + 1) then some (fX t 4 (k + 1), 0) else tk1 t 3 (k + 1)) fun k => sq (px t N 2 d k) fun k => px t N 12 d k) = some r := by
      by_cases w : lk t (k + 1) = 3 ∧ 9 < tV t (k + 1)
      · rw [if_pos w] at e ⊢
        rw [← e]
        unfold sq
        dsimp only
        rw [if_neg (fX_0 (by decide))]
      · rw [if_neg w] at e ⊢; exact e
    have lm := S.1.me.lk (k := k) (by omega)
    obtain ⟨h1, a1, a2⟩ := hw_1 S.1 (w := 47) (n := n) (by decide) (by omega) (by omega) (by rw [q]; decide)
    have S1 : SRt h1 t M (k + 1) 0 c y o d sd := S.kp a2.1.1 kp3 a2.2
    obtain ⟨m, hm⟩ : ∃ m, n = m + 3 := ⟨n - 3, by omega⟩
    obtain ⟨h2, v, b1, b2, b3, b4⟩ := r_tN (d := m) S1.1.1 S1.1.2.2.1 (lo := 0) (hi := 9) (x1 := nI 0) (x2 := nI 9) (fun _ => ⟨rfl, by decide⟩) rfl (by decide)
    have s0 : st 0 (fN t (k + 1) 0 9) = fN t (k + 1) 0 9 := if_pos rfl
    rw [s0] at b3 b4
    have S2 := S1.1.mv b2 b3
    have S2' : SRt h2 t M (k + 1 + 1) (fN t (k + 1) 0 9) c y o d sd := S1.kp b2 (by decide) S2
    have e63 : Q n 147 63 [some (.ref 189), some (.int (nI T)), none, some (.int (slV p))] [] h = cK (cK (some (some (.int v), h2)) (Q (m + 2) 148 7 [some (.ref 189), some (.int (nI T)), some (.int (slV p)), none, none, none]) []) (Q n 147 78 [some (.ref 189), some (.int (nI T)), none, some (.int (slV p))]) [] := by
      rw [t_147_63 S.1.1, a1, cK_v, t_147_69 S1.1.1, if_neg (by decide), hm, t_148 S1.1.1, b1]
    have g0 : FRg (fun x i => mTs sd c y o x i ∨ x = slX p ∧ i = slI T p) h h2 := ((PW.fg S a2.1).wk fun x i q => Or.inl q).trans (FRg.of b2 (by decide))
    obtain ⟨r1, e1, c1⟩ := sq_s e
    by_cases ok : lk t (k + 1) = 3 ∧ ¬ 9 < tV t (k + 1)
    · obtain ⟨q3, q9⟩ := ok
      have k3 := lk_n3.mp q3
      have fn0 : fN t (k + 1) 0 9 = 0 := by unfold fN; rw [if_neg (by omega), if_neg (by omega)]
      rw [fn0] at S2'
      have ev := b4 fn0
      rw [if_neg (fun w => q9 w.2)] at e1
      unfold tk1 at e1
      rw [if_pos q3] at e1
      cases e1
      have f := c1.elim (fun z => z.2) (fun z => absurd rfl z.1)
      have lm3 := S1.1.me.lk (k := k + 1) (by omega)
      obtain ⟨iy, io⟩ := I.r t4 hd (by decide)
      obtain ⟨hA, eA, SA, fA, r9, r0, rm, rs⟩ := r_148w (m := m + 2) (p := p) (v := v) S2' hT iy io hp
      have I2 : IBs t 2 (k + 1 + 1) d y (o + 1) := by
        have := tkP_on q q3
        unfold IBs at I ⊢
        have e2 : tkP t (k + 1 + 1) = tkP t (k + 2) := rfl
        omega
      obtain ⟨r2, e2, c2⟩ := sq_s f
      obtain ⟨hb, ab, pb⟩ := ((ih 2 d (k + 1 + 1) r2 (m + 2) hA c y (o + 1) e2 SA (by omega) lm3 hd (by show 20 + 10 * (20 - d) ≤ m + 2; omega)).2.1 rfl I2).q
      have fA2 : FRg (fun x i => mTs sd c y o x i ∨ x = slX p ∧ i = slI T p) h hA := g0.trans fA
      rw [e63, cK_v, eA, ab, cK_n]
      rcases c2 with ⟨z2, f2⟩ | ⟨z2, f2⟩
      · obtain ⟨gb, L1, Y1, O1, w1, w2, w3, w4, w5, w6, S3⟩ := pb.all z2
        have le2 := w3
        obtain ⟨he, v1, v2, v3⟩ := r_emit S3.1 (n := m + 2) (by omega) (by omega) (nI 42) (nI T)
        have S4 : SRt he t M r2.2 0 (c + L1.length + 1) (y + Y1.length) (o + 1 + O1.length) d sd := S3.kp v2.1 kp3 v3
        have hv' : gA he 281 (700 * (1 - sd) + o) = -1 := by
          rw [v2.1.A (by decide), gb.2 281 (by decide) (by decide) _ (fun w => ?_)]
          · exact rm
          · rcases w with w | w
            · unfold mTs at w; omega
            · exact w
        obtain ⟨h', x', y1, y2⟩ := (ih 12 d r2.2 r n he _ _ _ f2 S4 (by omega) le2 hd hn).2.2.2.1 rfl (by omega) w1.2 T (some (700 * (1 - sd) + o)) (by omega) (fun i hi => by cases hi; omega) hv'
        refine ⟨h', x', ?_, ?_⟩
        · rw [t_148_98 S3.1.1, v1, cK_v, t_148_105 S4.1.1, cK_v, t_147_78 S4.1.1]; exact y1
        · refine RTs.fr fA2 (RTs.ro exs io r9 r0 (RTs.cat (fun x i w => ?_) (gb.wk fun x i w => w.imp (fun w => w) (fun w => w.elim)) w4 w5 w6 (RTs.cat (L1 := [(nI 42, nI T)]) (Y1 := []) (O1 := []) (fun x i w => ?_) ((PW.fg S3 v2).wk fun x i w => Or.inl w) v2.2.2 T3.nil T3.nil (y2.wk (fun w L2 Y2 O2 g fg q2 => ?_) (by show k + L1.length + 1 ≤ r2.2; omega) (Nat.le_refl _) (fun x i w => Or.inr w)))))
          · rcases w with w | ⟨w, w'⟩
            · exact (exs.up (Nat.le_refl c) (Nat.le_refl y) (Nat.le_succ o)) x i w
            · subst w; subst w'; exact ⟨fun z => absurd z (by decide), fun _ z => absurd z (by decide), fun _ => by omega⟩
          · rcases w with w | ⟨w, w'⟩
            · exact (exs.up (c' := c + L1.length) (y' := y + Y1.length) (o' := o + 1 + O1.length) (by omega) (by omega) (by omega)) x i w
            · subst w; subst w'; exact ⟨fun z => absurd z (by decide), fun _ z => absurd z (by decide), fun _ => by omega⟩
          · have es : gA g (slX p) (slI T p) = nI (700 * (1 - sd) + o) := by
              rw [fg.2 _ (by omega) (by omega) _ (fun w => ?_), v2.1.A (by rcases sl with w | w <;> rw [w] <;> decide), gb.2 _ (by omega) (by omega) _ (fun w => ?_)]
              · exact rs
              · rcases w with w | w
                · have := exs _ _ ⟨rfl, rfl⟩
                  unfold mTs at w; omega
                · exact w
              · rcases w with w | ⟨w, w'⟩
                · have := exs _ _ ⟨rfl, rfl⟩
                  unfold mTs at w; omega
                · have w : slX p = 281 := w
                  have w' : slI T p = 700 * (1 - sd) + o := w'
                  have := (exs _ _ ⟨rfl, rfl⟩).2.2 (by omega)
                  omega
            refine ⟨Or.inl ⟨q, r2.2, L1, Y1, O1, L2, Y2, O2, _, q3, by omega, w1.1, q2.1, rfl, rfl, by rw [← ev]; rfl, es⟩, ?_⟩
            have i2 := q2.2
            show IBs t 0 r.2 d (y + (Y1 ++ Y2).length) (o + ([(v, nI c, _)] ++ (O1 ++ O2)).length)
            rw [List.length_append, List.length_append, List.length_append, List.length_singleton]
            unfold IBs at i2 ⊢; omega
      · subst f2
        obtain ⟨hb', x1, x2, x3, x4⟩ := id pb
        have eb : hb = hb' := by injection x1 with e; exact congrArg Prod.snd e
        subst eb
        obtain ⟨c', y', o', w1, w2, w3, w4, S3⟩ := x4 z2
        clear x3 x4 pb c1 f
        obtain ⟨he, v1, v2, v3⟩ := r_emit S3.1 (n := m + 2) (by omega) (by omega) (nI 42) (nI T)
        have S4 := S3.kp v2.1 kp3 v3
        obtain ⟨h3, d1, d2⟩ := stop (x := nI (700 * (1 - sd) + o)) S4 (fun w => z2 w.1)
        refine ⟨h3, nI (700 * (1 - sd) + o), ?_, ?_⟩
        · rw [t_148_98 S3.1.1, v1, cK_v, t_148_105 S4.1.1, cK_v, t_147_78 S4.1.1]; exact d1
        · have S5 := S4.kp d2.1.1 kp3 d2.2
          refine ⟨h3, rfl, fA2.trans ((x2.wk fun x i w => ?_).trans (((PW.fg S3 v2).wk fun x i w => Or.inl (w.up w1 w2 (by omega))).trans ((PW.fg S4 d2.1).wk fun x i w => Or.inl (w.up (by omega) w2 (by omega))))), fun w => absurd w z2, fun _ => ⟨c' + 1, y', o', by omega, w2, by omega, by omega, S5⟩⟩
          rcases w with w | w
          · exact Or.inl (w.up (Nat.le_refl _) (Nat.le_refl _) (Nat.le_succ _))
          · exact w.elim
    · have fn : fN t (k + 1) 0 9 ≠ 0 ∧ r1 = (fN t (k + 1) 0 9, 0) := by
        by_cases q3 : lk t (k + 1) = 3
        · have k3 := lk_n3.mp q3
          have q9 : 9 < tV t (k + 1) := by
            by_cases w : 9 < tV t (k + 1)
            · exact w
            · exact absurd ⟨q3, w⟩ ok
          rw [if_pos ⟨q3, q9⟩] at e1
          have : fN t (k + 1) 0 9 = fX t 4 (k + 1) := by unfold fN; rw [if_neg (by omega), if_pos (Or.inr q9)]
          rw [this]; exact ⟨fX_0 (by decide), (Option.some.inj e1).symm⟩
        · rw [if_neg (fun w => q3 w.1)] at e1
          unfold tk1 at e1
          rw [if_neg q3] at e1
          have : fN t (k + 1) 0 9 = fX t 1 (k + 1) := by unfold fN; rw [if_pos (fun w => q3 (lk_n3.mpr w))]
          rw [this]; exact ⟨fX_0 (by decide), (Option.some.inj e1).symm⟩
      obtain ⟨fn1, fn2⟩ := fn
      have hr : r = r1 := by
        rcases c1 with ⟨z, -⟩ | ⟨-, z⟩
        · rw [fn2] at z; exact absurd z fn1
        · exact z
      obtain ⟨h3, d1, d2⟩ := stop (x := slV p) S2' (fun w => fn1 w.1)
      refine ⟨h3, slV p, ?_, ?_⟩
      · rw [e63, cK_v, t_148_7 S2.1, S2.2.2.1.2.1, if_pos (nI_lt (by omega) (by have := S2.2.2.1.2.2.1; omega)), cK_v, t_147_78 S2.1]; exact d1
      · have S3 : SRt h3 t M (k + 1 + 1) (fN t (k + 1) 0 9) c y o d sd := S2'.kp d2.1.1 kp3 d2.2
        refine RTs.fr g0 (RTs.fr ((PW.fg S2' d2.1).wk fun x i q => Or.inl q) ⟨h3, rfl, FRg.rf, fun w => ?_, fun w => ⟨c, y, o, Nat.le_refl _, Nat.le_refl _, Nat.le_refl _, by omega, ?_⟩⟩)
        · rw [hr, fn2] at w; exact absurd w fn1
        · rw [hr, fn2]; exact S3.any fn1 0
  · rw [if_neg q] at e
    cases e
    obtain ⟨h1, a1, a2⟩ := stop (x := slV p) S (fun w => q w.2)
    refine ⟨h1, slV p, a1, RTs.pre S a2 fun S1 => ⟨h1, rfl, FRg.rf, fun _ => ⟨[], [], [], ⟨Or.inr ⟨q, rfl, rfl, rfl, rfl, ?_⟩, I⟩, Nat.le_refl _, hk, AT.nil, T3.nil, T3.nil, S1⟩, fun z => absurd rfl z⟩⟩
    rw [a2.1.1.A (by rcases sl with w | w <;> rw [w] <;> decide)]; exact hv
end STR
