/-! ===== find as a call ===== -/
def KF : List Nat := [1028, 1029, 1030, 1031]
def XF : List Nat := 104 :: 105 :: 106 :: XTb
theorem xf {x : Nat} : x ∈ XF ↔ 104 ≤ x ∧ x ≤ 106 ∨ 108 ≤ x ∧ x < 156 := by
  unfold XF; rw [List.mem_cons, List.mem_cons, List.mem_cons, xtb]; omega
theorem xt_xf : XTb ⊆ XF := fun x q => xf.mpr (Or.inr (xtb.mp q))
theorem x3_xf : [104, 105, 106] ⊆ XF := fun x q => xf.mpr (Or.inl ((by decide : ∀ x, x ∈ [104, 105, 106] → 104 ≤ x ∧ x ≤ 106) x q))
section FND
variable {d : Nat} {bk : Bk} {G Cp : Nat → Nat → Nat} {b w0 : Nat} {t : Tp}
theorem c_seek {h : AH} (hs : Sh h) (W : WB bk) (N : WN bk) (B : CB h b bk G Cp) (T : CT h t) : ∃ h', E (d + 6) 198 [.ref 103, .ref 101, .ref b] h = some (some (.int (adR bk t)), h') ∧ Fr KF XF h h' ∧ ∀ v D F r, adS bk t = some (v, D, F, r) → gI h' 1030 103 = nI D ∧ gI h' 1031 103 = nI F := by
  have t1 := T.2.1
  rw [t_198 hs, ck_ok hs.t101.1, T.1]
  unfold adR adS
  by_cases q : 80 < t.1
  · rw [if_pos (nI_lt q (by omega)), if_pos (c := 80 < t.1 ∨ (wdS bk t).length < 3) (Or.inl q)]
    exact ⟨h, rfl, Fr.rfl, fun _ _ _ _ z => by cases z⟩
  · obtain ⟨g, eg, C, fg⟩ := c_words (d := d + 1) hs W N B T (by omega)
    have V := wd_b (t := t) N
    have hg := fg.sh hs
    have Bg := B.fw fg
    have f1 : Fr KF XF h g := fg.wk (by decide) x3_xf
    have v1 := V.1
    generalize wdS bk t = ws at *
    rw [if_neg (nI_nlt (by omega) (by omega)), eg, cK_n, t_198_17 hg, C.1]
    by_cases q1 : ws.length < 3
    · rw [if_pos (nI_lt q1 (by decide)), if_pos (c := 80 < t.1 ∨ ws.length < 3) (Or.inr q1)]
      exact ⟨g, rfl, f1, fun _ _ _ _ z => by cases z⟩
    · rw [if_neg (nI_nlt (by omega) (by omega)), if_neg (c := 80 < t.1 ∨ ws.length < 3) (fun z => z.elim q q1)]
      have e0 := gtD (ws := ws) (i := 0) (by omega)
      obtain ⟨k, ek, fk, dk⟩ := c_rdDoor (d := d + 4) hg C V e0 (by omega)
      have hw : ∀ i, i < (ws.getD 0 []).length → (ws.getD 0 []).getD i 0 < 37 := fun i hi => (V.cd e0 hi).2
      have hk := fk.sh hg
      have f2 : Fr KF XF h k := f1.trans (fk.wk (by decide) (List.nil_subset _))
      rw [ek, cK_v, t_198_29 hk]
      cases e : doS (ws.getD 0 []) with
      | none =>
        rw [show (if (none : Option (Nat × Nat)).isSome = true then 1 else 0) = 0 from rfl, if_pos rfl]
        exact ⟨k, rfl, f2, fun _ _ _ _ z => by cases z⟩
      | some vl =>
        obtain ⟨v, l⟩ := vl
        have vb := do_b hw e
        have Ck := C.fr fk (by decide) (by decide)
        have hm : Sh (sI k 1029 103 (coI (fcL ws (ws.length - 2) 2))) := hk.sI
        have fm : Fr [1029, 1030] [] g (sI k 1029 103 (coI (fcL ws (ws.length - 2) 2))) := (fk.wk (by decide) (List.nil_subset _)).sI (by decide)
        have c103 : gC k 103 = 4 := by rw [← congrFun hk.c 103]; rfl
        have ed : gI (sI k 1029 103 (coI (fcL ws (ws.length - 2) 2))) 1030 103 = nI (27 * v + l) := by
          show up2 (gI k) 1029 103 (coI (fcL ws (ws.length - 2) 2)) 1030 103 = _
          rw [up2_k (by decide)]; exact dk v l e
        obtain ⟨h', e', i', f'⟩ := c_near (d := d) (D := 27 * v + l) (n := v) W V (by omega) (by omega) (by omega) (by omega) (bk 0 1) 0 4 (-1) (-1) (nI 0) hm (C.fr fm (by decide) (by decide)) (Bg.fr fm (by decide) (fun x hx => absurd hx List.not_mem_nil)) gI_s ed rfl ⟨by decide, Or.inl ⟨rfl, rfl, rfl⟩⟩
        refine ⟨h', ?_, (f2.sI (by decide)).trans (f'.wk (by decide) xt_xf), fun v' D' F' r' z => ?_⟩
        · rw [show (if (some (v, l)).isSome = true then 1 else 0) = 1 from rfl, if_neg (by decide), c_fcode hk Ck V (by omega) (by omega), cK_v, t_198_39 hk, ck_ok c103, t_245 hm, e', cK_v, t_198_47 (f'.sh hm)]
        · have z := Option.some.inj z
          have z1 : 27 * v + l = D' := congrArg (fun q => q.2.1) z
          have z2 : (nsL bk ws (fcL ws (ws.length - 2) 2) v (bk 0 1) 0 (4, -1)).1 = F' := congrArg (fun q => q.2.2.1) z
          exact ⟨by rw [← z1, f'.I (by decide)]; exact ed, by rw [← z2]; exact i'⟩
theorem c_takeA {h : AH} (hs : Sh h) (hb : gR h 2048 156 = some b) (W : WB bk) (N : WN bk) (B : CB h b bk G Cp) (T : CT h t) : ∃ h', E (d + 7) 5 [.ref 100] h = some (some (.int (adR bk t)), h') ∧ CT h' (0, t.2) ∧ Fr (3073 :: KF) XF h h' ∧ ∀ v D F r, adS bk t = some (v, D, F, r) → gI h' 1030 103 = nI D ∧ gI h' 1031 103 = nI F := by
  obtain ⟨g, eg, fg, dg⟩ := c_seek (d := d) hs W N B T
  have hg := fg.sh hs
  refine ⟨sI g 3073 101 (nI 0), ?_, ⟨gI_s, Nat.zero_le _, fun i hi => absurd hi (Nat.not_lt_zero _)⟩, (fg.wk (List.subset_cons_self _ _) (List.Subset.refl _)).sI (List.mem_cons_self ..), fun v D F r z => ?_⟩
  · rw [t_5 hs, hb, Option.bind_some, eg, cK_v, t_5_18 hg, t_195 hg, cK_n, t_5_26 hg.sI]
  · have := dg v D F r z
    show up2 (gI g) 3073 101 (nI 0) 1030 103 = _ ∧ up2 (gI g) 3073 101 (nI 0) 1031 103 = _
    rw [up2_k (by decide), up2_k (by decide)]; exact this
/-- what was found last -/
def adE (bk : Bk) (t : Tp) (o : Int32 × Int32) : Int32 × Int32 := match adS bk t with
  | none => o
  | some q => if q.2.2.2 < nI 0 then o else (nI q.2.1, nI q.2.2.1)
theorem c_find {h : AH} {o : Int32 × Int32} {md : Int32} (hs : Sh h) (hb : gR h 2048 156 = some b) (W : WB bk) (N : WN bk) (B : CB h b bk G Cp) (T : CT h t) (F : CF h o.1 o.2 md) : ∃ h', E (d + 8) 4 [.ref 100] h = some (some (.int (adR bk t)), h') ∧ CT h' (0, t.2) ∧ CF h' (adE bk t o).1 (adE bk t o).2 md ∧ Fr (3335 :: 3336 :: 3073 :: KF) XF h h' := by
  obtain ⟨g, eg, Tg, fg, dg⟩ := c_takeA (d := d) hs hb W N B T
  have hg := fg.sh hs
  have fg' : Fr (3335 :: 3336 :: 3073 :: KF) XF h g := fg.wk (fun x q => List.mem_cons_of_mem _ (List.mem_cons_of_mem _ q)) (List.Subset.refl _)
  have Fg : CF g o.1 o.2 md := by unfold CF at F ⊢; rw [fg.I (by decide), fg.I (by decide), fg.I (by decide)]; exact F
  rw [t_4 hs, eg, cK_v, t_4_4 hg]
  cases e : adS bk t with
  | none =>
    have eR : adR bk t = -1 := by unfold adR; rw [e]
    have eE : adE bk t o = o := by unfold adE; rw [e]
    rw [eR, eE, if_pos (by decide)]
    exact ⟨g, rfl, Tg, Fg, fg'⟩
  | some q =>
    obtain ⟨v, D, F', r⟩ := q
    have dd := dg v D F' r e
    have eR : adR bk t = r := by unfold adR; rw [e]
    have eE : adE bk t o = if r < nI 0 then o else (nI D, nI F') := by unfold adE; rw [e]
    rw [eR, eE]
    by_cases z : r < nI 0
    · rw [if_pos z, if_pos z]
      exact ⟨g, rfl, Tg, Fg, fg'⟩
    · rw [if_neg z, if_neg z, dd.1, dd.2]
      have f3 : Fr [3335, 3336] [] g (sI (sI g 3335 100 (nI D)) 3336 100 (nI F')) := (Fr.rfl.sI (by decide)).sI (by decide)
      refine ⟨_, rfl, Tg.fr f3 (by decide) (by decide), ⟨?_, gI_s, ?_⟩, (fg'.sI (List.mem_cons_self ..)).sI (List.mem_cons_of_mem _ (List.mem_cons_self ..))⟩
      · show up2 (up2 (gI g) 3335 100 (nI D)) 3336 100 (nI F') 3335 100 = _
        rw [up2_k (by decide), up2_s]
      · show up2 (up2 (gI g) 3335 100 (nI D)) 3336 100 (nI F') 3337 100 = _
        rw [up2_k (by decide), up2_k (by decide)]; exact Fg.2.2
/-- what the reference's address may touch -/
def KA : List Nat := [3638, 3639, 3640, 3641, 3642, 3643]
def XA : List Nat := [233, 234, 235, 236]
theorem r_addr {h : AH} (hs : Sh h) (W : WB bk) (N : WN bk) (R : RB h w0 bk) (hw : w0 ≤ 1) (ew : gI h 3597 189 = nI w0) (T : RTk h t) : ∃ h', E (d + 4) 63 [.ref 189] h = some (some (.int (adR bk t)), h') ∧ Fr KA XA h h' ∧ ∀ v D F r, adS bk t = some (v, D, F, r) → gI h' 3641 189 = nI D ∧ gI h' 3643 189 = nI F := by
  have t1 := T.2.1
  have hf : Fr KA XA h (sI h 3643 189 (nI 4)) := Fr.rfl.sI (by decide)
  rw [t_63 hs, T.1]
  unfold adR adS
  by_cases q : 80 < t.1
  · rw [if_pos (nI_lt q (by omega)), if_pos (c := 80 < t.1 ∨ (wdS bk t).length < 3) (Or.inl q)]
    exact ⟨_, rfl, hf, fun _ _ _ _ z => by cases z⟩
  · obtain ⟨g, eg, C, fg⟩ := r_words (d := d) (hf.sh hs) W N (R.fn hf (by decide)) hw (by rw [hf.I (by decide)]; exact ew) (T.fr hf (by decide) (by decide)) (by omega)
    have V := wd_b (t := t) N
    have f1 : Fr KA XA h g := hf.trans (fg.wk (by decide) (by decide))
    have hg := f1.sh hs
    have v1 := V.1
    have e43 : gI g 3643 189 = nI 4 := by rw [fg.I (by decide), gI_s]
    generalize wdS bk t = ws at *
    rw [if_neg (nI_nlt (by omega) (by omega)), eg, cK_n, t_63_20 hg, C.1]
    by_cases q0 : ws.length < 2
    · rw [if_pos (nI_lt q0 (by decide)), if_pos (c := 80 < t.1 ∨ ws.length < 3) (Or.inr (by omega))]
      exact ⟨g, rfl, f1, fun _ _ _ _ z => by cases z⟩
    · rw [if_neg (nI_nlt (by omega) (by omega))]
      have e0 := gtD (ws := ws) (i := 0) (by omega)
      obtain ⟨k, ek, fk, dk⟩ := r_rdDoor (d := d + 1) hg C V e0 (by omega)
      have hwd : ∀ i, i < (ws.getD 0 []).length → (ws.getD 0 []).getD i 0 < 37 := fun i hi => (V.cd e0 hi).2
      have hk := fk.sh hg
      have f2 : Fr KA XA h k := f1.trans (fk.wk (by decide) (List.nil_subset _))
      rw [ek, cK_v, t_63_32 hk]
      cases e : doS (ws.getD 0 []) with
      | none =>
        rw [show (if (none : Option (Nat × Nat)).isSome = true then 1 else 0) = 0 from rfl, if_pos rfl, ite_self]
        exact ⟨k, rfl, f2, fun _ _ _ _ z => by cases z⟩
      | some vl =>
        obtain ⟨v, l⟩ := vl
        have vb := do_b hwd e
        have dd := dk v l e
        have Ck := C.fr fk (by decide) (by decide)
        have fm : Fr [3642] [] k (sI k 3642 189 (-1)) := Fr.rfl.sI (by decide)
        rw [show (if (some (v, l)).isSome = true then 1 else 0) = 1 from rfl, if_neg (by decide), Ck.1, pk_sub (by omega)]
        obtain ⟨m, em, cm, fm'⟩ := r_fcl (d := d + 1) V (by omega) (ws.length - 2) (fm.sh hk) (Ck.fr fm (by decide) (by decide)) (by omega) (by rw [gI_s, Nat.sub_self]; rfl)
        rw [show ws.length - 2 + 1 = ws.length - 1 from by omega] at em
        have f3 : Fr [3642] [] k m := fm.trans fm'
        have hm := f3.sh hk
        have Cm := Ck.fr f3 (by decide) (by decide)
        have f4 : Fr KA XA h m := f2.trans (f3.wk (by decide) (List.nil_subset _))
        rw [em, t_63_49 hm, if_neg (by decide), cm, Cm.1]
        by_cases q1 : ws.length < 3
        · rw [show ws.length - 2 = 0 from by omega, if_pos (show coI (fcL ws 0 2) < nI 0 from (by decide : coI none < nI 0)), if_pos (nI_lt q1 (by decide)), if_pos (c := 80 < t.1 ∨ ws.length < 3) (Or.inr q1)]
          exact ⟨m, rfl, f4, fun _ _ _ _ z => by cases z⟩
        · rw [if_neg (show ¬ nI ws.length < nI 3 from nI_nlt (by omega) (by omega)), ite_self, if_neg (c := 80 < t.1 ∨ ws.length < 3) (fun z => z.elim q q1)]
          have i2 : ∀ x, x ∉ KA → gI m x 189 = gI h x 189 := fun x hx => by rw [f4.I hx]
          obtain ⟨h', e', i', f'⟩ := r_near (d := d) (n := v) W N V (by omega) (by omega) hw vb.1 (bk 0 1) 0 4 (-1) hm Cm (R.fn f4 (by decide)) (by rw [i2 _ (by decide)]; exact ew) cm (by rw [f3.I (by decide)]; exact dd.1) (by rw [f3.I (by decide), fk.I (by decide)]; exact e43) (by decide) rfl
          refine ⟨h', e', f4.trans (f'.wk (by decide) (by decide)), fun v' D' F' r' z => ?_⟩
          have z := Option.some.inj z
          have z1 : 27 * v + l = D' := congrArg (fun q => q.2.1) z
          have z2 : (nsL bk ws (fcL ws (ws.length - 2) 2) v (bk 0 1) 0 (4, -1)).1 = F' := congrArg (fun q => q.2.2.1) z
          exact ⟨by rw [← z1, f'.I (by decide), f3.I (by decide)]; exact dd.2, by rw [← z2]; exact i'⟩
theorem RT.tk {h : AH} (T : RT h t) : RTk (sI (sI h 3591 189 (gI h 3590 189)) 3590 189 (nI 0)) t := by
  refine ⟨?_, T.2.1, fun i hi => ⟨(T.2.2 i hi).1, by have := (T.2.2 i hi).2; omega⟩⟩
  show up2 (up2 (gI h) 3591 189 (gI h 3590 189)) 3590 189 (nI 0) 3591 189 = _
  rw [up2_k (by decide), up2_s, T.1]
theorem RT.z {h' : AH} (e : gI h' 3590 189 = nI 0) : RT h' (0, t.2) := ⟨e, Nat.zero_le _, fun i hi => absurd hi (Nat.not_lt_zero _)⟩
theorem r_find {h : AH} {o : Int32 × Int32} {md : Int32} (hs : Sh h) (W : WB bk) (N : WN bk) (R : RB h w0 bk) (hw : w0 ≤ 1) (ew : gI h 3597 189 = nI w0) (T : RT h t) (F : RF h o.1 o.2 md) : ∃ h', E (d + 5) 62 [.ref 189] h = some (some (.int (adR bk t)), h') ∧ gI h' 3586 189 = nI 0 ∧ RT h' (0, t.2) ∧ RF h' (adE bk t o).1 (adE bk t o).2 md ∧ Fr (3586 :: 3590 :: 3591 :: 3644 :: 3645 :: KA) XA h h' := by
  have hs0 : Sh (sI h 3586 189 (nI 0)) := hs.sI
  have T0 : RT (sI h 3586 189 (nI 0)) t := by
    refine ⟨?_, T.2⟩
    show up2 (gI h) 3586 189 (nI 0) 3590 189 = _
    rw [up2_k (by decide)]; exact T.1
  have T1 := T0.tk
  have f1 : Fr (3586 :: 3590 :: 3591 :: 3644 :: 3645 :: KA) XA h (sI (sI (sI h 3586 189 (nI 0)) 3591 189 (gI (sI h 3586 189 (nI 0)) 3590 189)) 3590 189 (nI 0)) := ((Fr.rfl.sI (by decide)).sI (by decide)).sI (by decide)
  have hs1 := f1.sh hs
  have e86 : gI (sI (sI (sI h 3586 189 (nI 0)) 3591 189 (gI (sI h 3586 189 (nI 0)) 3590 189)) 3590 189 (nI 0)) 3586 189 = nI 0 := by
    show up2 (up2 (up2 (gI h) 3586 189 (nI 0)) 3591 189 (gI (sI h 3586 189 (nI 0)) 3590 189)) 3590 189 (nI 0) 3586 189 = _
    rw [up2_k (by decide), up2_k (by decide), up2_s]
  obtain ⟨g, eg, fg, dg⟩ := r_addr (d := d) hs1 W N (R.fn f1 (by decide)) hw (by rw [f1.I (by decide)]; exact ew) T1
  have hg := fg.sh hs1
  have f2 : Fr (3586 :: 3590 :: 3591 :: 3644 :: 3645 :: KA) XA h g := f1.trans (fg.wk (by decide) (by decide))
  have g86 : gI g 3586 189 = nI 0 := by rw [fg.I (by decide)]; exact e86
  have g90 : gI g 3590 189 = nI 0 := by rw [fg.I (by decide), gI_s]
  have Fg : RF g o.1 o.2 md := by
    obtain ⟨a1, a2, a3⟩ := F
    have i2 : ∀ x, x ∉ KA → x ≠ 3586 → x ≠ 3590 → x ≠ 3591 → gI g x 189 = gI h x 189 := fun x hx h1 h2 h3 => by
      rw [fg.I hx]
      show up2 (up2 (up2 (gI h) 3586 189 (nI 0)) 3591 189 (gI (sI h 3586 189 (nI 0)) 3590 189)) 3590 189 (nI 0) x 189 = _
      rw [up2_k h2, up2_k h3, up2_k h1]
    exact ⟨by rw [i2 _ (by decide) (by decide) (by decide) (by decide)]; exact a1, by rw [i2 _ (by decide) (by decide) (by decide) (by decide)]; exact a2, by rw [i2 _ (by decide) (by decide) (by decide) (by decide)]; exact a3⟩
  rw [t_62 hs, t_36 hs0, cK_n, t_62_9 hs1, eg, cK_v, t_62_13 hg]
  cases e : adS bk t with
  | none =>
    have eR : adR bk t = -1 := by unfold adR; rw [e]
    have eE : adE bk t o = o := by unfold adE; rw [e]
    rw [eR, eE, if_pos (by decide)]
    exact ⟨g, rfl, g86, RT.z g90, Fg, f2⟩
  | some q =>
    obtain ⟨v, D, F', r⟩ := q
    have dd := dg v D F' r e
    have eR : adR bk t = r := by unfold adR; rw [e]
    have eE : adE bk t o = if r < nI 0 then o else (nI D, nI F') := by unfold adE; rw [e]
    rw [eR, eE]
    by_cases z : r < nI 0
    · rw [if_pos z, if_pos z]
      exact ⟨g, rfl, g86, RT.z g90, Fg, f2⟩
    · rw [if_neg z, if_neg z, dd.1, dd.2]
      have f3 : Fr [3644, 3645] [] g (sI (sI g 3644 189 (nI D)) 3645 189 (nI F')) := (Fr.rfl.sI (by decide)).sI (by decide)
      refine ⟨_, rfl, by rw [f3.I (by decide)]; exact g86, RT.z (by rw [f3.I (by decide)]; exact g90), ⟨?_, gI_s, by rw [f3.I (by decide)]; exact Fg.2.2⟩, (f2.sI (by decide)).sI (by decide)⟩
      show up2 (up2 (gI g) 3644 189 (nI D)) 3645 189 (nI F') 3644 189 = _
      rw [up2_k (by decide), up2_s]
end FND
