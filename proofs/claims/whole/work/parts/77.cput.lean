/-! ===== ITEMS MOVE: putInBag ===== -/
/-- what the component's moves may touch -/
abbrev KC : List Nat := [256, 258, 1286, 1287, 1288, 1289, 1290, 1292, 1293, 1294, 2051, 2052]
abbrev GFc (h h' : AH) : Prop := GF (fun k _ => k ∈ KC) (fun k _ => k = 257) (fun _ => True) (fun _ => False) h h'
theorem Fr.gfc {K : List Nat} {h h' : AH} (f : Fr K [] h h') (hK : K ⊆ KC) : GFc h h' := by
  obtain ⟨a1, a2, a3, a4, a5, a6, a7, a8, a9⟩ := f
  have e1 : gN h' = gN h := congrArg (fun p : Nat × Nat => p.1) a1
  have e2 : gS h' = gS h := congrArg (fun p : Nat × Nat => p.2) a1
  exact ⟨⟨by omega, by omega⟩, fun x _ => ⟨by rw [a2], by rw [a3]⟩, fun k x _ q => by rw [a6 k fun w => q (hK w)], fun k x _ q => by rw [a7 k fun w => q (hK w)], fun k x _ _ => by rw [a4], fun x _ _ => ⟨a8 x List.not_mem_nil, a9 x List.not_mem_nil⟩, fun x _ _ => by rw [a5]⟩
theorem gfc_l {l e : Nat} {h h' : AH} (g : GF (lI l) (lR l) (fun y => y = e ∧ 296 ≤ e) (fun _ => False) h h') : GFc h h' := g.wk (fun k x q => by
    rcases q.2 with q | q <;> (subst q; decide)) (fun k x q => q.2) (fun _ _ => trivial) (fun _ q => q)
section CPUT
variable {d : Nat} {h : AH} {b : Nat} {bk : Bk} {G Cp : Nat → Nat → Nat} {s : St}
theorem CS1.nums {h : AH} {s s' : St} {G G' : Nat → Nat → Nat} (C : CS1 h bk s G) (e4 : G' 4 = G 4) (e : (zN s', iN s', iP s', iC s', iM s') = (zN s, iN s, iP s, iC s, iM s)) : CS1 h bk s' G' := by
  simp only [Prod.mk.injEq] at e
  obtain ⟨e1, e2, e3, e5, e6⟩ := e
  unfold CS1 at C ⊢
  rw [e1, e2, e3, e5, e6, e4]; exact C
theorem CSt.fr {K X : List Nat} {h h' : AH} {s' : St} (C : CSt h b bk s G Cp) (f : Fr K X h h') (hK : ∀ k, k ∈ [258, 518, 768, 769, 770, 771, 772, 773, 774, 1792, 1794, 1795, 1796, 2560, 2561, 2562, 2563, 2817, 2818, 2819, 2820, 2821, 2822, 2823, 2824] → k ∉ K) (hX : ∀ x, x ∈ X → x < 157 ∨ 163 < x ∧ x < 296) (hL : ∀ r, lX s' r = lX s r) (hS : CS1 h' bk s' G) : CSt h' b bk s' G Cp :=
  ⟨f.sh C.1, f.hw C.2.1, by rw [f.2.2.2.1]; exact C.2.2.1, C.2.2.2.1.fr f hK hX, hS, C.2.2.2.2.2.fr f (hK 258 (by decide)) hL⟩
theorem lX_nt (i w o : Nat) (r : Nat) : lX (ntS bk s i w o) r = lX s r := by
  unfold ntS
  by_cases e : bk 18 (iN s 0 i) = 2
  · rw [if_pos e]; rfl
  · rw [if_neg e]
theorem lX_sh {o : Nat} (ho : o < 20) : lX s (10 + o) = sH s o := by
  unfold lX
  rw [if_neg (by omega), if_neg (by omega), if_neg (by omega), if_pos (by omega), show 10 + o - 10 = o from by omega]
theorem lX_bg {c : Nat} : lX s (30 + c) = sG s c := by
  unfold lX
  rw [if_neg (by omega), if_neg (by omega), if_neg (by omega), if_neg (by omega), show 30 + c - 30 = c from by omega]
theorem lo_sh {o : Nat} (ho : o < 20) : lo G (10 + o) = G 5 o := by
  unfold lo
  rw [if_neg (by omega), if_neg (by omega), if_neg (by omega), if_pos (by omega), show 10 + o - 10 = o from by omega]
theorem lo_bg {c : Nat} : lo G (30 + c) = G 6 c := by
  unfold lo
  rw [if_neg (by omega), if_neg (by omega), if_neg (by omega), if_neg (by omega), show 30 + c - 30 = c from by omega]
theorem la_r {r : Nat} (h0 : r < 2 ∨ 10 ≤ r) : la G r = G 9 r ∧ lc Cp r = Cp 9 r := by
  unfold la lc
  rw [if_neg (by omega), if_neg (by omega)]; exact ⟨rfl, rfl⟩
theorem lX_H {o : Nat} {l : List Nat} {r : Nat} (q : r ≠ 10 + o) : lX (stH s o l) r = lX s r := by
  unfold lX
  by_cases q1 : r = 0
  · rw [if_pos q1, if_pos q1]; rfl
  · rw [if_neg q1, if_neg q1]
    by_cases q2 : r = 1
    · rw [if_pos q2, if_pos q2]; rfl
    · rw [if_neg q2, if_neg q2]
      by_cases q5 : r < 10
      · rw [if_pos q5, if_pos q5]
      · rw [if_neg q5, if_neg q5]
        by_cases q3 : r < 30
        · rw [if_pos q3, if_pos q3]
          exact up1_x (by omega)
        · rw [if_neg q3, if_neg q3]; rfl
theorem lX_G {c : Nat} {l : List Nat} {r : Nat} (q : r ≠ 30 + c) : lX (stG s c l) r = lX s r := by
  unfold lX
  by_cases q1 : r = 0
  · rw [if_pos q1, if_pos q1]; rfl
  · rw [if_neg q1, if_neg q1]
    by_cases q2 : r = 1
    · rw [if_pos q2, if_pos q2]; rfl
    · rw [if_neg q2, if_neg q2]
      by_cases q5 : r < 10
      · rw [if_pos q5, if_pos q5]
      · rw [if_neg q5, if_neg q5]
        by_cases q3 : r < 30
        · rw [if_pos q3, if_pos q3]; rfl
        · rw [if_neg q3, if_neg q3]
          exact up1_x (by omega)
/-- an item is taken from its shelf -/
theorem c_take (W : WB bk) (C : CSt h b bk s G Cp) (w : WS bk s) {i o : Nat} (ho : o < bk 0 0) (hi : i < zN s 2) (h0 : iN s 5 i = 0) (h6 : iN s 6 i = o) : ∃ h', E (d + 5) 308 [.ref 156, .ref (G 4 i)] h = some (none, h') ∧ CSt h' b bk (stH s o ((sH s o).erase i)) G Cp ∧ h'.1 = h.1 ∧ GFc h h' := by
  have w0 := W.1.1
  obtain ⟨hs, hw, hb, B, C1, C2⟩ := id C
  have hm : i ∈ sH s o := ((w.2.2.2.2.1 o).2 i).mpr ⟨hi, h0, h6⟩
  obtain ⟨p, hp, he⟩ := List.getElem_of_mem hm
  have nd := (w.2.2.2.2.1 o).1
  have ee := eraseIdx_of nd hp he
  have hr : lV bk (10 + o) := Or.inr (Or.inl ⟨by omega, by omega⟩)
  have A := C2.2.2 (10 + o) hr (Or.inr (by omega))
  have O := C2.2.1 (10 + o) hr
  rw [lX_sh (by omega)] at A
  obtain ⟨h', a1, a2, a3, a4, a5, a6⟩ := take_lp (d := d) hs A O.1 (fun j hj => (((w.2.2.2.2.1 o).2 j).mp hj).1) C1 hw nd hi hp he p 0 (by omega)
  obtain ⟨p0, q0⟩ := B.2.2.1 0 (by decide)
  have ci := C1.2.2.2 i hi
  have bo := B.2.2.2.2.1 o ho
  have eq1 : E (d + 5) 308 [.ref 156, .ref (G 4 i)] h = some (none, h') := by
    rw [t_308 hs, hb, Option.bind_some, ck_ok B.1, p0, Option.bind_some, ck_ok ci.1, ck_ok q0.1, ci.2.2.2.2.2.2.2.2.2.2.1, h6, al_get hs q0 ho, cK_v, t_308_14 hs, ck_ok bo.1, ck_ok bo.1, bo.2.2.2.2.2.1, Option.bind_some]
    rw [lo_sh (by omega)] at a1
    exact a1
  refine ⟨h', eq1, ?_, Prod.ext a5 a6, gfc_l a3⟩
  have O' : AO h' (lo G (10 + o)) (la G (10 + o)) (lc Cp (10 + o)) := by
    obtain ⟨o1, o2, o3⟩ := O.1
    exact ⟨by rw [a5]; exact o1, by rw [a5]; exact o2, o3⟩
  refine C.one (G' := G) (Cp' := Cp) (e' := la G (10 + o)) (cap' := lc Cp (10 + o)) hr (Or.inr (by omega)) (fun _ _ _ => ⟨rfl, rfl⟩) ⟨(la_r (Cp := Cp) (Or.inr (by omega))).1.symm, (la_r (G := G) (Or.inr (by omega))).2.symm⟩ a3 a4 ((E_mx eq1).1 hw) ?_ O' O.2 (Or.inl rfl) (fun r q => ?_) (fun q => q.nums rfl rfl)
  · rw [lX_sh (by omega)]
    have : sH (stH s o ((sH s o).erase i)) o = (sH s o).eraseIdx p := by rw [ee]; exact up1_s
    rw [this]; exact a2
  · exact lX_H q
theorem c_putInBag (W : WB bk) (C : CSt h b bk s G Cp) (w : WS bk s) (hcb : capB bk s Cp) {i c : Nat} (hc : c < bk 0 3) (hi : i < zN s 2) (h0 : iN s 5 i = 0) (h6 : iN s 6 i = bk 25 c) : ∃ h' G' Cp', E (d + 8) 255 [.ref 156, .ref (G 4 i), .int (nI c)] h = some (none, h') ∧ CSt h' b bk (ibS bk s i c) G' Cp' ∧ RM h Cp h' Cp' ∧ capB bk (ibS bk s i c) Cp' ∧ (∀ k, k ≠ 9 → G' k = G k) ∧ GFc h h' := by
  have w0 := W.1.1
  have w3 := W.1.2.2.2.1
  have q1 := (W.2.2.2.2.2 c hc).1
  obtain ⟨h1, a1, a2, a3, a4⟩ := c_take (d := d + 2) W C w q1 hi h0 h6
  obtain ⟨hs1, hw1, hb1', B1, C11, C21⟩ := id a2
  obtain ⟨p3, q3⟩ := B1.2.2.1 3 (by decide)
  obtain ⟨d1, d2, -, -, -, -, -, -, d9⟩ := B1.2.2.2.2.2.2.2 c hc
  have ci := C11.2.2.2 i hi
  obtain ⟨h2, x1, x2, x3⟩ := c_comes (d := d + 6) (wh := 1) (o := bk 25 c) (c := some c) hs1 C11 hi (by decide)
  have C2' : CSt h2 b bk (cmS (stH s (bk 25 c) ((sH s (bk 25 c)).erase i)) i 1 (bk 25 c) (some c)) G Cp := a2.fr x2 (by decide) (by decide) (fun r => rfl) x3
  obtain ⟨hs2, hw2, hb2, B2, C12, C22⟩ := id C2'
  obtain ⟨e1, e2, -, -, -, -, -, -, e9⟩ := B2.2.2.2.2.2.2.2 c hc
  have ni : i ∉ sG s c := fun q => by
    have := (((w.2.2.2.2.2.1 c).2 i).mp q).2.1
    omega
  have hl2 : (sG s c).length < zN s 2 := by
    have := nd_len (zN s 2) (i :: sG s c) (List.nodup_cons.mpr ⟨ni, (w.2.2.2.2.2.1 c).1⟩) fun x hx => by
      rcases List.mem_cons.mp hx with rfl | hx
      · exact hi
      · exact (((w.2.2.2.2.2.1 c).2 x).mp hx).1
    rw [List.length_cons] at this
    omega
  obtain ⟨h3, G', Cp', y1, y2, y3, y4, y5, y6⟩ := c_add (d := d) C2' hcb (r0 := 30 + c) (i := i) (s' := cmS (stG (stH s (bk 25 c) ((sH s (bk 25 c)).erase i)) c (sG s c ++ [i])) i 1 (bk 25 c) (some c)) (Or.inr (Or.inr ⟨by omega, by omega⟩)) (Or.inr (by omega)) hi rfl (by omega) (by rw [lX_bg]; exact hl2) w.1 (by rw [lX_bg, lX_bg]; exact up1_s) (fun r q => lX_G (s := cmS (stH s (bk 25 c) ((sH s (bk 25 c)).erase i)) i 1 (bk 25 c) (some c)) q) (fun h' G' e4 q => q.nums e4 rfl)
  obtain ⟨hs3, hw3, hb3, B3, C13, C23⟩ := id y2
  obtain ⟨f1, f2, -⟩ := B3.2.2.2.2.2.2.2 c hc
  have g3 : G' 3 = G 3 := y5 3 (by decide)
  have g4 : G' 4 = G 4 := y5 4 (by decide)
  rw [g3] at f1 f2
  obtain ⟨h4, z1, z2, z3⟩ := c_log (d := d + 6) (wh := 1) (o := bk 25 c) (i := i) hs3 W (show WI bk (cmS (stG (stH s (bk 25 c) ((sH s (bk 25 c)).erase i)) c (sG s c ++ [i])) i 1 (bk 25 c) (some c)) from w.i) C13 hi (by decide) (by omega)
  rw [g4] at z1
  refine ⟨h4, G', Cp', ?_, y2.fr z2 (by decide) (by decide) (fun r => lX_nt i 1 (bk 25 c) r) z3, ((RM.rfl a3).trans (RM.rfl x2.1)).trans (y3.trans (RM.rfl z2.1)), fun r r1 r2 => ?_, y5, a4.trans ((x2.gfc (by decide)).trans ((gfc_l y6).trans (z2.gfc (by decide))))⟩
  · rw [t_255 C.1, a1, cK_n, t_255_5 hs1, hb1', Option.bind_some, ck_ok B1.1, p3, Option.bind_some, ck_ok q3.1, al_get hs1 q3 hc, cK_v, t_255_16 hs1, ck_ok d1, ck_ok d1, ck_ok ci.1, d2, C11.1, show nI c = oI (some c) from rfl]
    rw [lo_bg] at y1
    have x1' : E (d + 7) 257 [.ref (G 4 i), .int (nI 1), .int (nI (bk 25 c)), .int (oI (some c)), .int (nI (zN (stH s (bk 25 c) ((sH s (bk 25 c)).erase i)) 0))] h1 = some (none, h2) := x1
    rw [x1', cK_n, t_255_34 hs2, ck_ok e1, e9, Option.bind_some, ck_ok (show gC h2 (G 6 c) = 1 from by have := (C22.2.2 (30 + c) (Or.inr (Or.inr ⟨by omega, by omega⟩)) (Or.inr (by omega))).1; rw [lo_bg] at this; exact this), y1, cK_v, t_255_42 hs3, ck_ok f1, f2, z1, cK_n, t_255_53 (z2.sh hs3)]
  · have := y4 r r1 r2
    have e : zN (ibS bk s i c) 2 = zN s 2 := by
      unfold ibS ntS
      split
      · rfl
      · rfl
    rw [e]; exact this
end CPUT
