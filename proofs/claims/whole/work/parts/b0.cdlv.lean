/-! ===== WALKS: the component's deliver ===== -/
/-- only these keys, these arrays of numbers; lists may grow -/
abbrev GFk (K X : List Nat) (h h' : AH) : Prop := GF (fun k _ => k ∈ K) (fun k _ => k = 257) (fun _ => True) (fun x => x ∈ X) h h'
theorem Fr.gfk {K X K' X' : List Nat} {h h' : AH} (f : Fr K X h h') (hK : K ⊆ K') (hX : X ⊆ X') : GFk K' X' h h' := by
  obtain ⟨a1, a2, a3, a4, a5, a6, a7, a8, a9⟩ := f
  have e1 : gN h' = gN h := congrArg (fun p : Nat × Nat => p.1) a1
  have e2 : gS h' = gS h := congrArg (fun p : Nat × Nat => p.2) a1
  exact ⟨⟨by omega, by omega⟩, fun x _ => ⟨by rw [a2], by rw [a3]⟩, fun k x _ q => by rw [a6 k fun w => q (hK w)], fun k x _ q => by rw [a7 k fun w => q (hK w)], fun k x _ _ => by rw [a4], fun x _ q => ⟨a8 x fun w => q (hX w), a9 x fun w => q (hX w)⟩, fun x _ _ => by rw [a5]⟩
theorem GFc.k {K X : List Nat} {h h' : AH} (g : GFc h h') (hK : KC ⊆ K) : GFk K X h h' := g.wk (fun k x q => hK q) (fun k x q => q) (fun _ _ => trivial) (fun _ q => q.elim)
abbrev KDc : List Nat := [256, 258, 1286, 1287, 1288, 1289, 1290, 1292, 1293, 1294, 2051, 2052, 2064]
abbrev XDc : List Nat := [171, 172, 173, 174]
section WC5
variable {d : Nat} {b : Nat} {bk : Bk} {G Cp : Nat → Nat → Nat}
theorem c_walk (W : WB bk) {h : AH} {s : St} (C : CSt h b bk s G Cp) (C4 : CS4 h s) (w : WS bk s) {f wk : Nat} (hf : f < bk 0 0) (hwk : wk ≤ 9) : ∃ h', E (d + 7) 206 [.ref 156, .int (nI f), .int (nI wk)] h = some (some (.int (wkA bk s f wk).1), h') ∧ CSt h' b bk (wkA bk s f wk).2 G Cp ∧ CS4 h' (wkA bk s f wk).2 ∧ WS bk (wkA bk s f wk).2 ∧ zN (wkA bk s f wk).2 2 = zN s 2 ∧ h'.1 = h.1 ∧ GFk KDc XDc h h' := by
  have w0 := W.1.1
  have hs := C.1
  have f0 : Fr [2064] [] h (sI h 2064 156 (nI 0)) := Fr.rfl.sI (by decide)
  have C0 : CSt (sI h 2064 156 (nI 0)) b bk s G Cp := C.fr f0 (by decide) (by decide) (fun r => rfl) (C.2.2.2.2.1.same f0 (by decide))
  have C40 : CS4 (sI h 2064 156 (nI 0)) s := C4.fr f0 (by decide) (by decide) (by decide) rfl
  have P0 : CSp (sI h 2064 156 (nI 0)) [] := ⟨(up2_s : up2 (gI h) 2064 156 (nI 0) 2064 156 = nI 0), fun k hk => absurd hk (Nat.not_lt_zero _)⟩
  obtain ⟨hs0, hw0, hb0, B0, C10, C20⟩ := id C0
  obtain ⟨p0, q0⟩ := B0.2.2.1 0 (by decide)
  have bo := B0.2.2.2.2.1 f hf
  have nd := (w.2.2.2.2.1 f).1
  obtain ⟨a1, a2, a3, a4, a5, a6, a7, a8⟩ := tsL_w W (f := f) (wk := wk) (sH s f) s [] w ⟨Nat.zero_le _, fun q hq => absurd hq List.not_mem_nil⟩ (fun i hi => (((w.2.2.2.2.1 f).2 i).mp hi).1)
  obtain ⟨h1, b1, b2, b3, b4, b5, b6⟩ := cts_lp (d := d + 1) W (wk := wk) hf hwk nd (sH s f) [] [] _ s [] rfl rfl rfl C0 C40 w ⟨Nat.zero_le _, fun q hq => absurd hq List.not_mem_nil⟩ P0 (fun k hk => absurd hk (Nat.not_lt_zero _))
  rw [List.nil_append] at b5
  have b1 : Q (d + 6) 206 26 [some (.ref 156), some (.int (nI f)), some (.int (nI wk)), some (.ref (G 5 f)), some (.int (nI 0)), none] [] (sI h 2064 156 (nI 0)) = _ := b1
  obtain ⟨hs1, hw1, hb1', B1, C11, C21⟩ := id b2
  obtain ⟨p1, q1⟩ := B1.2.2.1 0 (by decide)
  have bo1 := B1.2.2.2.2.1 f hf
  have A1 := C21.2.2 (10 + f) (Or.inr (Or.inl ⟨by omega, by omega⟩)) (Or.inr (by omega))
  rw [lX_sh (by omega), lo_sh (by omega), a3] at A1
  have lb : (sH s f).length ≤ 200 := (w.len f).1
  have h8 := a2.1
  have F1 : Fr KSt [171, 172, 173] h h1 := (f0.wk (by decide) (by decide)).trans b6
  have pre : E (d + 7) 206 [.ref 156, .int (nI f), .int (nI wk)] h = (if nI (tsL bk f wk (sH s f) s []).2.1.length = nI 0 then some (some (.int (-1)), h1) else cK (E (d + 6) 212 [.ref (G 7 0), .int (nI f)] h1) (Q (d + 6) 206 111 [some (.ref 156), some (.int (nI f)), some (.int (nI wk)), some (.ref (G 5 f)), some (.int (nI (sH s f).length)), none]) [.int (nI (tsL bk f wk (sH s f) s []).2.1.length), .ref 172]) := by
    have hbb : gR h 2048 156 = some b := C.2.2.1
    have Bb := C.2.2.2.1
    obtain ⟨pp, qq⟩ := Bb.2.2.1 0 (by decide)
    rw [t_206 hs, hbb, Option.bind_some, ck_ok Bb.1, pp, Option.bind_some, ck_ok qq.1, al_get hs0 q0 hf, cK_v, t_206_16 hs0, ck_ok bo.1, ck_ok bo.1, bo.2.2.2.2.2.1, Option.bind_some, b1, t_206_26 hs1, ck_ok A1.1, al_size hs1 A1, cK_v, t_206_32 hs1, if_neg (nI_nlt (Nat.le_refl _) (by omega)), b4.1, hb1', Option.bind_some, ck_ok B1.1, p1, Option.bind_some, ck_ok q1.1]
  rw [pre]
  simp only [show (nI (tsL bk f wk (sH s f) s []).2.1.length = nI 0) = ((tsL bk f wk (sH s f) s []).2.1.length = 0) from propext (nI_eq (by omega) (by decide))]
  unfold wkA
  by_cases q00 : (tsL bk f wk (sH s f) s []).2.1 = []
  · simp only [if_pos (show (tsL bk f wk (sH s f) s []).2.1.length = 0 by rw [q00]; rfl), if_pos q00]
    exact ⟨h1, rfl, b2, b3, a1, a5, F1.1, F1.gfk (by decide) (by decide)⟩
  · have hl0 : (tsL bk f wk (sH s f) s []).2.1.length ≠ 0 := fun w => q00 (List.length_eq_zero_iff.mp w)
    simp only [if_neg hl0, if_neg q00]
    generalize hSg : (tsL bk f wk (sH s f) s []).2.1 = S at *
    -- the office's place
    have f2 : Fr [] [172] h1 (sA h1 172 S.length (nI (bk 3 f))) := Fr.rfl.sA (by decide)
    have C2' : CSt (sA h1 172 S.length (nI (bk 3 f))) b bk (tsL bk f wk (sH s f) s []).1 G Cp := b2.fr f2 (by decide) (by decide) (fun r => rfl) (C11.same f2 (by decide))
    have f3 : Fr [] [173] (sA h1 172 S.length (nI (bk 3 f))) (sA (sA h1 172 S.length (nI (bk 3 f))) 173 S.length (nI (bk 4 f))) := Fr.rfl.sA (by decide)
    have C3' : CSt (sA (sA h1 172 S.length (nI (bk 3 f))) 173 S.length (nI (bk 4 f))) b bk (tsL bk f wk (sH s f) s []).1 G Cp := C2'.fr f3 (by decide) (by decide) (fun r => rfl) (C2'.2.2.2.2.1.same f3 (by decide))
    obtain ⟨hs2, hw2, hb2, B2, C12, C22⟩ := id C2'
    obtain ⟨p2, q2⟩ := B2.2.2.1 0 (by decide)
    have bo2 := B2.2.2.2.2.1 f hf
    have hs3 := C3'.1
    have P3 : CP (sA (sA h1 172 S.length (nI (bk 3 f))) 173 S.length (nI (bk 4 f))) bk f S := by
      refine ⟨b4.1, fun a ha => ?_⟩
      show up2 (up2 (gA h1) 172 S.length (nI (bk 3 f))) 173 S.length (nI (bk 4 f)) 172 (cI S.length a) = _ ∧ up2 (up2 (gA h1) 172 S.length (nI (bk 3 f))) 173 S.length (nI (bk 4 f)) 173 (cI S.length a) = _
      rw [up2_k (by decide), up2_r, up2_r, up2_k (by decide)]
      unfold qX qY
      by_cases q : a = 8
      · rw [q, cI_8, up1_s, up1_s, if_pos rfl, if_pos rfl]
        exact ⟨sC_o, sC_o⟩
      · have ha : a < S.length := by unfold gdA at ha; omega
        have eS : S.getD a (0, 0) = S[a] := by rw [List.getD_eq_getElem?_getD, List.getElem?_eq_getElem ha]; rfl
        rw [cI_lt h8 ha, up1_x (by omega), up1_x (by omega), if_neg q, if_neg q, eS]
        exact b4.2 a ha
    obtain ⟨h4, c1, c2, c3⟩ := wo_s (d := d + 1) W hf a2 (2 ^ S.length) 0 _ (by omega) hs3 P3 (fun st hst => by omega)
    have C4' : CSt h4 b bk (tsL bk f wk (sH s f) s []).1 G Cp := C3'.fr c2 (by decide) (by decide) (fun r => rfl) (C3'.2.2.2.2.1.same c2 (by decide))
    have F14 : Fr [] [172, 173, 174] h1 h4 := (f2.wk (by decide) (by decide)).trans ((f3.wk (by decide) (by decide)).trans (c2.wk (by decide) (by decide)))
    have F4 : Fr KSt XDc h h4 := (F1.wk (by decide) (by decide)).trans (F14.wk (by decide) (by decide))
    have P4 := P3.fr c2 (by decide) (by decide) (by decide)
    have hs4 := C4'.1
    have hpos : 0 < 2 ^ S.length := Nat.two_pow_pos _
    have h9 := two8 h8
    have hall : 2 ^ S.length - 1 ≠ 0 := by
      have : 2 ^ 1 ≤ 2 ^ S.length := Nat.pow_le_pow_right (by decide) (by omega)
      omega
    have cl := c_least (d := d + 1) hs4 W hf a2 P4 c3 (show 2 ^ S.length - 1 ≤ 2 ^ S.length by omega) (by omega) hall (show gdA S.length 8 from Or.inr rfl)
    rw [cI_8] at cl
    have so8 : ∀ k c, (tsL bk f wk (sH s f) s []).2.2.getD k none = some c → c < S.length := fun k c e => by
      have := osD (f := f) (wk := wk) W w k c e
      rw [hSg] at this; exact this
    have hos : ∀ k (hk : k < (sH s f).length), (fun i => (tsL bk f wk (sH s f) s []).2.2.getD ((sH s f).idxOf i) none) (sH s f)[k] = (tsL bk f wk (sH s f) s []).2.2.getD k none := fun k hk => by
      have h1 : (sH s f).idxOf (sH s f)[k] = k := by
        have h2 := List.idxOf_lt_length_of_mem (List.getElem_mem hk)
        exact nd_inj nd h2 hk (List.getElem_idxOf h2)
      show (tsL bk f wk (sH s f) s []).2.2.getD ((sH s f).idxOf (sH s f)[k]) none = _
      rw [h1]
    obtain ⟨h5, e1, e2, e3, e4, e5, e6, e7⟩ := cgw_lp (d := d) W hf a2 (l := sH s f) (os := (tsL bk f wk (sH s f) s []).2.2) (so := fun i => (tsL bk f wk (sH s f) s []).2.2.getD ((sH s f).idxOf i) none) (fun i k e => by have := so8 _ k e; omega) hos (z := nI (wkW S.length (dsS bk f S) (2 ^ S.length - 1) 8)) S.length 0 (2 ^ S.length - 1) 8 h4 _ (by omega) (by omega) (bcN_a _ h8) (Or.inr rfl) C4' (b3.fr F14 (by decide) (by decide) (by decide) rfl) a1 ⟨fun i hi => by rw [a3] at hi; exact hi, fun c _ _ => by rw [a3]⟩ P4 c3 (fun i hi => by
      rw [F14.A (by decide)]
      obtain ⟨k, hk, ek⟩ := List.getElem_of_mem hi
      rw [← ek, b5 k hk]
      exact congrArg oI (hos k hk).symm)
    refine ⟨h5, ?_, e2, e3, e4, e5.trans a5, e6.trans F4.1, (F4.gfk (by decide) (by decide)).trans (e7.k (by decide))⟩
    have b4' : gI h1 2064 156 = nI S.length := b4.1
    have k1 : gI (sA h1 172 S.length (nI (bk 3 f))) 2064 156 = nI S.length := b4'
    have k4 : gI h4 2064 156 = nI S.length := P4.1
    have e261 : E (d + 6) 261 [.ref 156] (sA (sA h1 172 S.length (nI (bk 3 f))) 173 S.length (nI (bk 4 f))) = some (none, h4) := by
      rw [t_261 hs3]; exact c1
    have e262 : E (d + 6) 262 [.ref 156, .ref (G 5 f), .int (nI f)] h4 = some (some (.int (nI (wkW S.length (dsS bk f S) (2 ^ S.length - 1) 8))), h5) := by
      rw [cI_8] at e1
      rw [t_262 hs4, k4, bt_sh _ h8, pk_sub hpos, cl, cK_v, t_262_18 hs4, k4]
      exact e1
    rw [al_get hs1 q1 hf, cK_v, t_206_111 hs1, ck_ok bo1.1, ck_ok bo1.1, cw_ok (show gC h1 172 = 60 from ShC hs1 (by decide)) (by decide), show gK h1 172 = 9 from ShK hs1 (by decide), gd_nI (by omega) (by decide), ix_nI (by omega), bo1.2.2.2.1, hb1', Option.bind_some, ck_ok B1.1, p1, Option.bind_some, ck_ok q1.1, al_get hs2 q2 hf, cK_v, b4', t_206_137 hs2, ck_ok bo2.1, ck_ok bo2.1, cw_ok (show gC _ 173 = 60 from ShC hs2 (by decide)) (by decide), show gK (sA h1 172 S.length (nI (bk 3 f))) 173 = 9 from ShK hs2 (by decide), gd_nI (by omega) (by decide), ix_nI (by omega), bo2.2.2.2.2.1, e261, cK_n, t_206_148 hs4, e262, cK_v, t_206_154 e2.1]
theorem c_deliver (W : WB bk) {h : AH} {s : St} (C : CSt h b bk s G Cp) (C4 : CS4 h s) (w : WS bk s) (hcb : capB bk s Cp) (x y : Int32) : ∃ h', E (d + 8) 11 [.ref 100, .int x, .int y] h = some (some (.int (dlvA bk s x y).1), h') ∧ CSt h' b bk (dlvA bk s x y).2 G Cp ∧ CS4 h' (dlvA bk s x y).2 ∧ WS bk (dlvA bk s x y).2 ∧ capB bk (dlvA bk s x y).2 Cp ∧ h'.1 = h.1 ∧ GFk KDc XDc h h' := by
  have w0 := W.1.1
  obtain ⟨hs, hw, hb, B, C1, C2⟩ := id C
  unfold dlvA
  have same : ∃ h', some (some (Value.int (-2)), h) = some (some (Value.int (-2)), h') ∧ CSt h' b bk s G Cp ∧ CS4 h' s ∧ WS bk s ∧ capB bk s Cp ∧ h'.1 = h.1 ∧ GFk KDc XDc h h' := ⟨h, rfl, C, C4, w, hcb, rfl, GF.rfl⟩
  rw [t_11 hs, hb, Option.bind_some, ck_ok B.1, (c_has hs W B x).1, cK_v, t_11_11 hs]
  rcases hv_c x (show bk 0 0 < 2 ^ 31 by omega) with ⟨e, -⟩ | ⟨f, hf, rfl, e⟩
  · rw [hb1_n e, if_pos rfl, e]; exact same
  · rw [hb1_s e, if_neg (by decide), e]
    dsimp only
    rcases hv_c y (show 11 < 2 ^ 31 by decide) with ⟨e2, q | ⟨q, r⟩⟩ | ⟨j, hj, rfl, e2⟩
    · rw [if_pos q, e2]; exact same
    · have r2 : nI 10 < y := by
        rcases Int32.lt_or_le (nI 10) y with z | z
        · exact z
        · exact absurd (Int32.lt_of_le_of_lt z (show nI 10 < nI 11 by decide)) r
      rw [if_neg q, if_pos r2, e2]; exact same
    · rw [if_neg (nI_nlt (by omega) (by omega)), if_neg (nI_nlt (by omega) (by omega)), e2]
      dsimp only
      simp only [show (nI j = nI 10) = (j = 10) from propext (nI_eq (by omega) (by decide))]
      by_cases q : j = 10
      · simp only [if_pos q]
        obtain ⟨p0, q0⟩ := B.2.2.1 0 (by decide)
        have bo := B.2.2.2.2.1 f hf
        have A := C2.2.2 (10 + f) (Or.inr (Or.inl ⟨by omega, by omega⟩)) (Or.inr (by omega))
        rw [lX_sh (by omega), lo_sh (by omega)] at A
        have lb := (w.len f).1
        obtain ⟨h1, a1, a2, a3, a4, a5, a6⟩ := c_back_lp (d := d + 2) W hf (sH s f).length 0 0 h s G Cp (by omega) (by omega) C w hcb
        have e205 : E (d + 7) 205 [.ref 156, .int (nI f)] h = some (some (.int (nI (gbF bk f (sH s f).length 0 0 s).2)), h1) := by
          rw [t_205 hs, hb, Option.bind_some, ck_ok B.1, p0, Option.bind_some, ck_ok q0.1, al_get hs q0 hf, cK_v, t_205_11 hs, ck_ok bo.1, ck_ok bo.1, bo.2.2.2.2.2.1, Option.bind_some, ck_ok A.1, al_size hs A, cK_v, t_205_27 hs]
          exact a1
        rw [e205, cK_v, t_11_41 a2.1, t_11_53 a2.1]
        refine ⟨h1, rfl, a2, C4.gfc a6 hs ?_, a3, a4, a5, a6.k (by decide)⟩
        have : ∀ (m k n : Nat) (s : St), sM (gbF bk f m k n s).1 = sM s := fun m => by
          induction m with
          | zero => intro k n s; rfl
          | succ m ih =>
            intro k n s
            unfold gbF
            split
            · rw [ih]; exact dlS_m
            · exact ih _ _ _
        exact this _ _ _ _
      · simp only [if_neg q]
        obtain ⟨h1, a1, a2, a3, a4, a5, a6, a7⟩ := c_walk (d := d) W C C4 w hf (wk := j) (by omega)
        rw [a1, cK_v, t_11_53 a2.1]
        exact ⟨h1, rfl, a2, a3, a4, fun r r1 r2 => by rw [a5]; exact hcb r r1 r2, a6, a7⟩
end WC5
