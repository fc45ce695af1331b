/-! ===== THE BOOK: one more in a list; shorts and coaches (component) ===== -/
section CAB
variable {d : Nat} {h : AH} {N0 b : Nat} {t : Tp} {k : Nat} {bk : Bk} {G Cp : Nat → Nat → Nat}
theorem lo_b {j : Nat} (hj : j < 4) : lo G (2 + j) = G 7 j ∧ la G (2 + j) = G 8 j ∧ lc Cp (2 + j) = Cp 8 j := by
  refine ⟨?_, ?_, ?_⟩
  · unfold lo; rw [if_neg (by omega), if_neg (by omega), if_pos (by omega), show 2 + j - 2 = j from by omega]
  · unfold la; rw [if_pos (by omega), show 2 + j - 2 = j from by omega]
  · unfold lc; rw [if_pos (by omega), show 2 + j - 2 = j from by omega]
theorem CLb.old (L : CLb h N0 bk G Cp) (hs : Sh h) : ∀ r, 2 ≤ r → lV bk r → lo G r < gN h ∧ la G r < gN h := fun r h2 hr => by
  have := hs.2
  obtain ⟨y1, y2, y3⟩ := L.1 r h2 hr
  refine ⟨y2.1, ?_⟩
  rcases y2.2.1 with ⟨-, z⟩ | z
  · rw [z]; omega
  · exact z.2.2
theorem c_addB {j0 x : Nat} (hj0 : j0 < 4) (C : CPs h b t k) (B : CB h b bk G Cp) (L : CLb h N0 bk G Cp) (hc : bk 0 j0 ≤ 60) (hx : gC h x ≠ 0 ∧ gC h x < 15) (hxN : x < gN h) : ∃ h' e' cap', E (d + 7) 273 [.ref (G 7 j0), .ref x] h = some (some (.int (nI 1)), h') ∧ CPs h' b t k ∧ CBx j0 h' b bk G Cp ∧ BFr N0 h h' ∧ Ar h' (G 7 j0) e' cap' (bk 0 j0 + 1) (up1 (G j0) (bk 0 j0) x) ∧ AO h' (G 7 j0) e' cap' ∧ GF (lI (G 7 j0)) (lR (G 7 j0)) (fun y => y = G 8 j0 ∧ 296 ≤ G 8 j0) (fun _ => False) h h' ∧ cap' ≤ 10 + 2 * (bk 0 j0 + 1) ∧ gN h' ≤ gN h + 1 ∧ gS h' ≤ gS h + 100 ∧ (e' = G 8 j0 ∨ gN h ≤ e') ∧ gI h' 519 b = gI h 519 b := by
  have hs := C.1
  have g := hs.2
  obtain ⟨p1, A⟩ := B.2.2.1 j0 hj0
  obtain ⟨lo0, la0, lc0⟩ := lo_b (G := G) (Cp := Cp) hj0
  have lv : lV bk (2 + j0) := Or.inl (by omega)
  obtain ⟨l1, O, l3⟩ := L.1 (2 + j0) (by omega) lv
  rw [lo0, la0, lc0] at O
  rw [lo0] at l1
  rw [la0] at l3
  have cap0 := L.2.1 j0 hj0
  obtain ⟨h', e', cap', s1, s2, s3, s4, s5, s6⟩ := al_add (d := d) hs A O (by omega) hx hxN
  have w' : HW h' := (E_mx s1).1 C.2.1
  have hb := C.2.1.lt C.2.2.2.2.2.1 (by decide)
  have dis : ∀ r, 2 ≤ r → lV bk r → r ≠ 2 + j0 → lo G r ≠ G 7 j0 ∧ (la G r = G 8 j0 → la G r = 61) := fun r h2 hr hne => by
    have := L.2.2.2 r (2 + j0) h2 (by omega) hr lv
    rw [lo0, la0] at this
    exact ⟨fun e => hne (this.1 e), fun e => (this.2 e).resolve_left hne⟩
  have nK : ∀ kk xx, kk ≠ 256 → kk ≠ 258 → ¬ lI (G 7 j0) kk xx := fun kk xx y1 y2 z => z.2.elim y1 y2
  refine ⟨h', e', cap', s1, ?_, ?_, ?_, s2, s3, s4, ?_, ?_, ?_, ?_, ?_⟩
  · obtain ⟨u1, u2, u3, u4, u5, u6, u7⟩ := C
    obtain ⟨-, r1, r2, r3, r4, r5, r6⟩ := s4
    refine ⟨s5, w', ⟨fun x y1 y2 y3 => ?_, fun x hx => ?_⟩, ⟨?_, u4.2.1, fun i hi => ?_⟩, ?_, (r1 b hb).1.trans u6, (r4 520 b hb (fun z => absurd z.2 (by decide))).trans u7⟩
    · rw [(r5 x (by omega) (fun z => z)).1]; exact u3.1 x y1 y2 y3
    · rw [r2 3841 x (by omega) (nK _ _ (by decide) (by decide))]; exact u3.2 x hx
    · rw [r2 3073 101 (by omega) (nK _ _ (by decide) (by decide))]; exact u4.1
    · rw [(r5 102 (by omega) (fun z => z)).1]; exact u4.2.2 i hi
    · unfold TkC at u5 ⊢
      rw [r2 3076 101 (by omega) (nK _ _ (by decide) (by decide)), r2 3077 101 (by omega) (nK _ _ (by decide) (by decide)), r3 3078 101 (by omega) (nK _ _ (by decide) (by decide)), r2 3074 101 (by omega) (nK _ _ (by decide) (by decide)), r2 3075 101 (by omega) (nK _ _ (by decide) (by decide))]; exact u5
  · exact B.g3 j0 C.2.1 s4 (fun kk hk x hx y => by
      have : ∀ kk, kk ∈ kI → kk ≠ 256 ∧ kk ≠ 258 := by decide
      rcases y.2 with y | y
      · exact (this kk hk).1 y
      · exact (this kk hk).2 y) (fun j hj hne => by
      obtain ⟨e1, e2, -⟩ := lo_b (G := G) (Cp := Cp) hj
      have dd := dis (2 + j) (by omega) (Or.inl (by omega)) (by omega)
      rw [e1, e2] at dd
      exact ⟨fun y => dd.1 y.1, fun y => dd.1 y.1, fun y => by have := dd.2 y.1; omega⟩) (fun kk hk x hx y => by
      have : ∀ kk, kk ∈ kR → kk ≠ 257 := by decide
      exact this kk hk y.2) (fun x _ _ y => y)
  · exact GF.wk s4 (fun k' x' z => Or.inl (by rw [z.1]; exact l1)) (fun k' x' z => by rw [z.1]; exact l1) (fun y z => by
      rcases l3 with t1 | t1
      · have := z.2; omega
      · rw [z.1]; exact t1) (fun y z => z.elim)
  · rcases s6 with ⟨z1, z2, z3, z4, z5⟩ | ⟨z1, z2, z3, z4, z5⟩
    · omega
    · have nc : ncap (Cp 8 j0) ≤ 10 + 2 * bk 0 j0 + 2 := by unfold ncap; split <;> omega
      omega
  · rcases s6 with ⟨z1, z2, z3, z4, z5⟩ | ⟨z1, z2, z3, z4, z5⟩ <;> omega
  · rcases s6 with ⟨z1, z2, z3, z4, z5⟩ | ⟨z1, z2, z3, z4, z5⟩
    · omega
    · have nc : ncap (Cp 8 j0) ≤ 100 := by unfold ncap; split <;> omega
      omega
  · rcases s6 with ⟨z1, z2, -⟩ | ⟨z1, z2, -⟩
    · exact Or.inl z2
    · right; omega
  · exact s4.2.2.1 519 b hb (nK _ _ (by decide) (by decide))

abbrev KTm : List Nat := [770, 771, 772, 519, 3074, 3075, 3076, 3077, 3078]
def tmF (t : Tp) (k : Nat) : List Nat := [fW t (k + 1) (kw 29), fN t (k + 2) 0 1439, fW t (k + 3) (kw 30), fN t (k + 4) 1 1440, fW t (k + 5) (kw 31), fN t (k + 6) (tV t (k + 2)) 1439]
theorem c_times {x : Nat} (C : CPs h b t k) (hx : gC h x = 3) (hxN : x ≤ x) : ∃ h', E (d + 10) 293 [.ref b, .ref x] h = some (some (.int (bz (ff (tmF t k)))), h') ∧ BFr x h h' ∧ gN h' ≤ gN h ∧ gS h' ≤ gS h ∧ (∃ kk, CPs h' b t kk) ∧ (ff (tmF t k) ≠ 0 → gI h' 519 b = nI (ff (tmF t k))) ∧ (ff (tmF t k) = 0 → gI h' 519 b = gI h 519 b ∧ CPs h' b t (k + 6) ∧ Fr KTm [] h h' ∧ gI h' 770 x = nI (tV t (k + 2)) ∧ gI h' 771 x = nI (tV t (k + 4)) ∧ gI h' 772 x = nI (tV t (k + 6))) := by
  have eF : ff (tmF t k) = ff [fW t (k + 1) (kw 29), fN t (k + 2) 0 1439, fW t (k + 3) (kw 30), fN t (k + 4) 1 1440, fW t (k + 5) (kw 31), fN t (k + 6) (tV t (k + 2)) 1439] := rfl
  have ct0 : gN h = gN h + 0 ∧ gS h = gS h + 0 := ⟨rfl, rfl⟩
  obtain ⟨g1, a1, C1, F1, I1⟩ := c_tWd (d := d + 1) C (z := 13) (v := kw 29) (by decide) (by decide +kernel) (wi_z (by decide +kernel)) (by decide +kernel)
  rw [t_293 C.1, ck_ok C.2.2.2.2.2.1, a1, cK_v, t_293_7 C1.1]
  have bf1 : BFr (x) h g1 := (BFr.rfl).trans (Fr.bf F1)
  have ct1 : gN g1 = gN h + 0 ∧ gS g1 = gS h + 0 := ⟨by rw [F1.ct.1]; exact ct0.1, by rw [F1.ct.2]; exact ct0.2⟩
  by_cases q1 : ¬ (fW t (k + 1) (kw 29) = 0)
  · have ef : ff (tmF t k) = fW t (k + 1) (kw 29) := by rw [eF, ff_n q1]
    rw [bz_n q1, if_pos rfl, ef]
    exact ⟨g1, by rw [bz_n q1], bf1, by rw [ct1.1]; exact Nat.le_refl _, by rw [ct1.2]; exact Nat.le_refl _, ⟨_, C1⟩, fun _ => (by rw [I1, if_neg q1]), fun z => absurd z q1⟩
  have q1 := Decidable.not_not.mp q1
  have eF1 : ff (tmF t k) = ff [fN t (k + 2) 0 1439, fW t (k + 3) (kw 30), fN t (k + 4) 1 1440, fW t (k + 5) (kw 31), fN t (k + 6) (tV t (k + 2)) 1439] := by rw [eF, q1]; rfl
  rw [q1, if_pos rfl] at I1
  have x1 : gC g1 x = 3 := by rw [F1.2.1]; exact hx
  obtain ⟨g2, a2, C2, F2, I2⟩ := c_tNu (d := d + 1) C1 (lo := 0) (hi := 1439) (by decide) (by decide)
  rw [q1, bz_0, if_neg (by decide), ck_ok C1.2.2.2.2.2.1, a2, cK_v, t_293_18 C2.1]
  have bf2 : BFr (x) h g2 := (bf1).trans (Fr.bf F2)
  have ct2 : gN g2 = gN h + 0 ∧ gS g2 = gS h + 0 := ⟨by rw [F2.ct.1]; exact ct1.1, by rw [F2.ct.2]; exact ct1.2⟩
  by_cases q2 : ¬ (fN t (k + 2) 0 1439 = 0)
  · have ef : ff (tmF t k) = fN t (k + 2) 0 1439 := by rw [eF1, ff_n q2]
    rw [bz_n q2, if_pos rfl, ef]
    exact ⟨g2, by rw [bz_n q2], bf2, by rw [ct2.1]; exact Nat.le_refl _, by rw [ct2.2]; exact Nat.le_refl _, ⟨_, C2⟩, fun _ => (by rw [I2, if_neg q2]), fun z => absurd z q2⟩
  have q2 := Decidable.not_not.mp q2
  have eF2 : ff (tmF t k) = ff [fW t (k + 3) (kw 30), fN t (k + 4) 1 1440, fW t (k + 5) (kw 31), fN t (k + 6) (tV t (k + 2)) 1439] := by rw [eF1, q2]; rfl
  rw [q2, if_pos rfl] at I2
  have x2 : gC g2 x = 3 := by rw [F2.2.1]; exact x1
  have k2 := (fN_0 q2).1
  have hv2 : gI g2 3077 101 = nI (tV t (k + 2)) := C2.2.2.2.2.1.2.1 k2
  have F2' : Fr [770] [] g2 (sI g2 770 x (nI (tV t (k + 2)))) := Fr.rfl.sI (by decide)
  have C2' := C2.fr F2' (by decide)
  obtain ⟨g3, a3, C3, F3, I3⟩ := c_tWd (d := d + 1) C2' (z := 14) (v := kw 30) (by decide) (by decide +kernel) (wi_z (by decide +kernel)) (by decide +kernel)
  rw [q2, bz_0, if_neg (by decide), ck_ok C2.2.2.2.2.2.1, C2.2.2.2.2.2.2, Option.bind_some, ck_ok C2.1.t101.1, ck_ok x2, ck_ok C2.2.2.2.2.2.1, hv2, a3, cK_v, t_293_41 C3.1]
  have bf3 : BFr (x) h g3 := (bf2.sI (Nat.le_refl _)).trans (Fr.bf F3)
  have ct3 : gN g3 = gN h + 0 ∧ gS g3 = gS h + 0 := ⟨by rw [F3.ct.1]; exact ct2.1, by rw [F3.ct.2]; exact ct2.2⟩
  by_cases q3 : ¬ (fW t (k + 3) (kw 30) = 0)
  · have ef : ff (tmF t k) = fW t (k + 3) (kw 30) := by rw [eF2, ff_n q3]
    rw [bz_n q3, if_pos rfl, ef]
    exact ⟨g3, by rw [bz_n q3], bf3, by rw [ct3.1]; exact Nat.le_refl _, by rw [ct3.2]; exact Nat.le_refl _, ⟨_, C3⟩, fun _ => (by rw [I3, if_neg q3]), fun z => absurd z q3⟩
  have q3 := Decidable.not_not.mp q3
  have eF3 : ff (tmF t k) = ff [fN t (k + 4) 1 1440, fW t (k + 5) (kw 31), fN t (k + 6) (tV t (k + 2)) 1439] := by rw [eF2, q3]; rfl
  rw [q3, if_pos rfl] at I3
  have x3 : gC g3 x = 3 := by rw [F3.2.1]; exact x2
  obtain ⟨g4, a4, C4, F4, I4⟩ := c_tNu (d := d + 1) C3 (lo := 1) (hi := 1440) (by decide) (by decide)
  rw [q3, bz_0, if_neg (by decide), ck_ok C3.2.2.2.2.2.1, a4, cK_v, t_293_52 C4.1]
  have bf4 : BFr (x) h g4 := (bf3).trans (Fr.bf F4)
  have ct4 : gN g4 = gN h + 0 ∧ gS g4 = gS h + 0 := ⟨by rw [F4.ct.1]; exact ct3.1, by rw [F4.ct.2]; exact ct3.2⟩
  by_cases q4 : ¬ (fN t (k + 4) 1 1440 = 0)
  · have ef : ff (tmF t k) = fN t (k + 4) 1 1440 := by rw [eF3, ff_n q4]
    rw [bz_n q4, if_pos rfl, ef]
    exact ⟨g4, by rw [bz_n q4], bf4, by rw [ct4.1]; exact Nat.le_refl _, by rw [ct4.2]; exact Nat.le_refl _, ⟨_, C4⟩, fun _ => (by rw [I4, if_neg q4]), fun z => absurd z q4⟩
  have q4 := Decidable.not_not.mp q4
  have eF4 : ff (tmF t k) = ff [fW t (k + 5) (kw 31), fN t (k + 6) (tV t (k + 2)) 1439] := by rw [eF3, q4]; rfl
  rw [q4, if_pos rfl] at I4
  have x4 : gC g4 x = 3 := by rw [F4.2.1]; exact x3
  have k4 := (fN_0 q4).1
  have hv4 : gI g4 3077 101 = nI (tV t (k + 4)) := C4.2.2.2.2.1.2.1 k4
  have F4' : Fr [771] [] g4 (sI g4 771 x (nI (tV t (k + 4)))) := Fr.rfl.sI (by decide)
  have C4' := C4.fr F4' (by decide)
  obtain ⟨g5, a5, C5, F5, I5⟩ := c_tWd (d := d + 1) C4' (z := 15) (v := kw 31) (by decide) (by decide +kernel) (wi_z (by decide +kernel)) (by decide +kernel)
  rw [q4, bz_0, if_neg (by decide), ck_ok C4.2.2.2.2.2.1, C4.2.2.2.2.2.2, Option.bind_some, ck_ok C4.1.t101.1, ck_ok x4, ck_ok C4.2.2.2.2.2.1, hv4, a5, cK_v, t_293_75 C5.1]
  have bf5 : BFr (x) h g5 := (bf4.sI (Nat.le_refl _)).trans (Fr.bf F5)
  have ct5 : gN g5 = gN h + 0 ∧ gS g5 = gS h + 0 := ⟨by rw [F5.ct.1]; exact ct4.1, by rw [F5.ct.2]; exact ct4.2⟩
  by_cases q5 : ¬ (fW t (k + 5) (kw 31) = 0)
  · have ef : ff (tmF t k) = fW t (k + 5) (kw 31) := by rw [eF4, ff_n q5]
    rw [bz_n q5, if_pos rfl, ef]
    exact ⟨g5, by rw [bz_n q5], bf5, by rw [ct5.1]; exact Nat.le_refl _, by rw [ct5.2]; exact Nat.le_refl _, ⟨_, C5⟩, fun _ => (by rw [I5, if_neg q5]), fun z => absurd z q5⟩
  have q5 := Decidable.not_not.mp q5
  have eF5 : ff (tmF t k) = ff [fN t (k + 6) (tV t (k + 2)) 1439] := by rw [eF4, q5]; rfl
  rw [q5, if_pos rfl] at I5
  have x5 : gC g5 x = 3 := by rw [F5.2.1]; exact x4
  have i770 : gI g5 770 x = nI (tV t (k + 2)) := by rw [F5.I (by decide), gI_k (by decide), F4.I (by decide), F3.I (by decide), gI_s]
  obtain ⟨g6, a6, C6, F6, I6⟩ := c_tNu (d := d + 1) C5 (lo := tV t (k + 2)) (hi := 1439) (Nat.lt_of_le_of_lt (fN_0 q2).2.2 (by decide)) (by decide)
  rw [q5, bz_0, if_neg (by decide), ck_ok x5, ck_ok C5.2.2.2.2.2.1, i770, a6, cK_v, t_293_89 C6.1]
  have bf6 : BFr (x) h g6 := (bf5).trans (Fr.bf F6)
  have ct6 : gN g6 = gN h + 0 ∧ gS g6 = gS h + 0 := ⟨by rw [F6.ct.1]; exact ct5.1, by rw [F6.ct.2]; exact ct5.2⟩
  by_cases q6 : ¬ (fN t (k + 6) (tV t (k + 2)) 1439 = 0)
  · have ef : ff (tmF t k) = fN t (k + 6) (tV t (k + 2)) 1439 := by rw [eF5, ff_n q6]
    rw [bz_n q6, if_pos rfl, ef]
    exact ⟨g6, by rw [bz_n q6], bf6, by rw [ct6.1]; exact Nat.le_refl _, by rw [ct6.2]; exact Nat.le_refl _, ⟨_, C6⟩, fun _ => (by rw [I6, if_neg q6]), fun z => absurd z q6⟩
  have q6 := Decidable.not_not.mp q6
  have eF6 : ff (tmF t k) = ff [] := by rw [eF5, q6]; rfl
  rw [q6, if_pos rfl] at I6
  have x6 : gC g6 x = 3 := by rw [F6.2.1]; exact x5
  have k6 := (fN_0 q6).1
  have hv6 : gI g6 3077 101 = nI (tV t (k + 6)) := C6.2.2.2.2.1.2.1 k6
  rw [q6, bz_0, if_neg (by decide), ck_ok C6.2.2.2.2.2.1, C6.2.2.2.2.2.2, Option.bind_some, ck_ok C6.1.t101.1, ck_ok x6, hv6]
  have F6' : Fr [772] [] g6 (sI g6 772 x (nI (tV t (k + 6)))) := Fr.rfl.sI (by decide)
  have C6' := C6.fr F6' (by decide)
  refine ⟨_, by rw [eF6]; rfl, bf6.sI (Nat.le_refl _), by show gN g6 ≤ _; rw [ct6.1]; exact Nat.le_refl _, by show gS g6 ≤ _; rw [ct6.2]; exact Nat.le_refl _, ⟨_, C6'⟩, fun z => absurd eF6 z, fun _ => ⟨?_, C6', ((((((F1.wk (by decide) (by decide)).trans (F2.wk (by decide) (by decide))).sI (by decide)).trans ((F3.wk (K' := KTm) (X' := []) (by decide) (by decide)).trans (F4.wk (by decide) (by decide)))).sI (by decide)).trans ((F5.wk (by decide) (by decide)).trans (F6.wk (by decide) (by decide)))).sI (by decide), ?_, ?_, gI_s⟩⟩
  · rw [gI_k (by decide), I6, I5, gI_k (by decide), I4, I3, gI_k (by decide), I2, I1]
  · rw [gI_k (by decide), F6.I (by decide), F5.I (by decide), gI_k (by decide), F4.I (by decide), F3.I (by decide), gI_s]
  · rw [gI_k (by decide), F6.I (by decide), F5.I (by decide), gI_s]
theorem ff_app : ∀ (l m : List Nat), ff (l ++ m) = st (ff l) (ff m)
  | [], m => by show ff m = st 0 (ff m); rfl
  | a :: l, m => by
    show (if a = 0 then ff (l ++ m) else a) = st (if a = 0 then ff l else a) (ff m)
    by_cases q : a = 0
    · rw [if_pos q, if_pos q]; exact ff_app l m
    · rw [if_neg q, if_neg q]; unfold st; rw [if_neg q]
theorem bz_ret {c : Nat} {g : AH} : (if bz c = 0 ∨ bz c = 1 then some (some (.int (bz c)), g) else none : Option Ot) = some (some (.int (bz c)), g) := by
  unfold bz
  by_cases z : c = 0
  · rw [b1 z]; rfl
  · rw [b0 z]; rfl
theorem c_coach (X : WX bk) (R : CRd h N0 b t k bk G Cp) : ∃ h' r, E (d + 11) 236 [.ref b] h = some (some (.int r), h') ∧ SRd h h' N0 b t (st (ff (cFs t k bk)) (fS t (k + 13) 59)) (k + 13) (cBk t k bk) := by
  obtain ⟨C, B, L, hNb, hN, hNg, hSh⟩ := R
  have hs := C.1
  have hg := hs.2
  have c0 := X.1.1.1
  have c3 := X.1.1.2.2.2.1
  obtain ⟨b1', b2', b3', b4', b5', b6', b7', b8'⟩ := id B
  obtain ⟨e1, A⟩ := b3' 3 (by decide)
  have cb := C.2.2.2.2.2.1
  rw [t_236 hs, ck_ok cb, e1, Option.bind_some, ck_ok A.1, al_size hs A, cK_v, t_236_7 hs, ifl (by omega) (by decide)]
  by_cases q : ¬ (bk 0 3 < 40)
  · have q16 : bk 0 3 = 40 := by omega
    obtain ⟨h1, a1, a2, a3, a4⟩ := c_fail (d := d + 9) C (c := 5) (by decide)
    have nz : fX t 5 k ≠ 0 := fX_n (by decide)
    have ef : st (ff (cFs t k bk)) (fS t (k + 13) 59) = fX t 5 k := by unfold cFs; rw [if_pos q16, ff_n nz]; exact if_neg nz
    rw [if_neg q, ck_ok cb, a1, cK_v, t_236_17 a2.1, if_pos (by decide), ef]
    exact ⟨h1, _, rfl, stop_f k nz (Fr.bf a3) (by rw [a3.ct.1]; omega) (by rw [a3.ct.2]; omega) a2 a4⟩
  have q := Decidable.not_not.mp q
  have e16 : (if bk 0 3 = 40 then fX t 5 k else 0) = 0 := if_neg (by omega)
  have eF : ff (cFs t k bk) = ff [fO t (k + 1) (bk 1) (bk 0 0), fO t (k + 2) (bk 1) (bk 0 0), if ofI bk (tV t (k + 2)) = ofI bk (tV t (k + 1)) then fX t 3 (k + 2) else 0, fW t (k + 3) (kw 29), fN t (k + 4) 0 1439, fW t (k + 5) (kw 30), fN t (k + 6) 1 1440, fW t (k + 7) (kw 31), fN t (k + 8) (tV t (k + 4)) 1439, fW t (k + 9) (kw 32), fN t (k + 10) 1 3000, fW t (k + 11) (kw 33), fN t (k + 12) 1 20] := by unfold cFs; rw [e16]; rfl
  have hs1 : Sh (nwO h 3 8) := hs.nw
  have x1 : gC (nwO h 3 8) (gN h) = 3 := nw_C0
  have hs1' : Sh (sI (nwO h 3 8) 771 (gN h) (nI 1)) := hs1.sI
  have hs2a : Sh (nwO (sI (nwO h 3 8) 771 (gN h) (nI 1)) 1 3) := hs1'.nw
  have cl : gC (nwO (sI (nwO h 3 8) 771 (gN h) (nI 1)) 1 3) (gN h + 1) = 1 := nw_C0 (h := sI (nwO h 3 8) 771 (gN h) (nI 1))
  have cx2 : gC (nwO (sI (nwO h 3 8) 771 (gN h) (nI 1)) 1 3) (gN h) = 3 := (nw_C (h := sI (nwO h 3 8) 771 (gN h) (nI 1)) (show gN h ≠ gN h + 1 by omega)).trans x1
  have hs2b : Sh (sR (sI (nwO (sI (nwO h 3 8) 771 (gN h) (nI 1)) 1 3) 256 (gN h + 1) (nI 0)) 257 (gN h + 1) (some 61)) := hs2a.sI.sR (Or.inl (inS_ge (by omega)))
  obtain ⟨h2, h2E⟩ : ∃ h2, h2 = sR (sR (sI (nwO (sI (nwO h 3 8) 771 (gN h) (nI 1)) 1 3) 256 (gN h + 1) (nI 0)) 257 (gN h + 1) (some 61)) 775 (gN h) (some (gN h + 1)) := ⟨_, rfl⟩
  have hs2 : Sh h2 := by rw [h2E]; exact hs2b.sR (Or.inl (inS_ge (by omega)))
  have ctor : E (d + 10) 292 [.ref (gN h)] (nwO h 3 8) = some (none, h2) := by
    rw [t_292 hs1, ck_ok x1, t_292_13 hs2a, show gN (nwO h 3 8) = gN h + 1 from rfl, c_newAL hs2a cl (by omega), cK_n, t_292_17 hs2b, ck_ok (show gC (sR (sI (nwO (sI (nwO h 3 8) 771 (gN h) (nI 1)) 1 3) 256 (gN h + 1) (nI 0)) 257 (gN h + 1) (some 61)) (gN h) = 3 from cx2), h2E]
  have w2 : HW h2 := by rw [h2E]; exact HW.cg (h := nwO (sI (nwO h 3 8) 771 (gN h) (nI 1)) 1 3) (HW.nw (k := 0) (c := 1) (n := 3) (HW.cg (h := nwO h 3 8) (HW.nw C.2.1) rfl rfl)) rfl rfl
  have n2 : NFr (gN h) h h2 := by
    rw [h2E]
    exact (((((NFr.rfl.nw).sI (Nat.le_refl _)).nw).sI (by omega)).sR (by omega)).sR (Nat.le_refl _)
  have ct0 : gN h2 = gN h + 2 ∧ gS h2 = gS h + 11 := by rw [h2E]; exact ⟨rfl, rfl⟩
  have C2 : CPs h2 b t k := C.nf n2 (Nat.le_refl _) hs2 w2
  have B2 : CB h2 b bk G Cp := B.bf C.2.1 n2.bf (Nat.le_refl _)
  have f2c : gC h2 (gN h) = 3 ∧ gC h2 (gN h + 1) = 1 := by rw [h2E]; exact ⟨cx2, cl⟩
  have f2r : gR h2 775 (gN h) = some (gN h + 1) ∧ gR h2 257 (gN h + 1) = some 61 ∧ gI h2 258 (gN h + 1) = 0 := by
    rw [h2E]
    refine ⟨gR_s, ?_, ?_⟩
    · rw [gR_k (by decide), gR_s]
    · rw [gIR, gIR, gI_k (by decide)]; exact nw_I0 (h := sI (nwO h 3 8) 771 (gN h) (nI 1))
  have hbl := C.2.1.lt cb (by decide)
  have i19 : gI h2 519 b = gI h 519 b := n2.2.2.1 519 b hbl (by omega)
  obtain ⟨g3, a3, C3, F3, I3⟩ := c_tOf (d := d + 1) X C2 B2
  rw [if_pos q, t_236_21 hs1, ctor, cK_n, t_236_25 hs2, ck_ok C2.2.2.2.2.2.1, a3, cK_v, t_236_30 C3.1]
  have bf3 : BFr (gN h) h g3 := (n2.bf).trans (Fr.bf F3)
  have ct3 : gN g3 = gN h + 2 ∧ gS g3 = gS h + 11 := ⟨by rw [F3.ct.1]; exact ct0.1, by rw [F3.ct.2]; exact ct0.2⟩
  by_cases q3 : ¬ (fO t (k + 1) (bk 1) (bk 0 0) = 0)
  · have ef : st (ff (cFs t k bk)) (fS t (k + 13) 59) = fO t (k + 1) (bk 1) (bk 0 0) := by rw [eF, ff_n q3]; exact if_neg q3
    rw [bz_n q3, if_pos rfl, ef]
    exact ⟨g3, _, rfl, stop_f (k + 1) q3 (bf3.lo hNg) (by omega) (by omega) C3 (by rw [I3, if_neg q3])⟩
  have q3 := Decidable.not_not.mp q3
  have eF3 : ff (cFs t k bk) = ff [fO t (k + 2) (bk 1) (bk 0 0), if ofI bk (tV t (k + 2)) = ofI bk (tV t (k + 1)) then fX t 3 (k + 2) else 0, fW t (k + 3) (kw 29), fN t (k + 4) 0 1439, fW t (k + 5) (kw 30), fN t (k + 6) 1 1440, fW t (k + 7) (kw 31), fN t (k + 8) (tV t (k + 4)) 1439, fW t (k + 9) (kw 32), fN t (k + 10) 1 3000, fW t (k + 11) (kw 33), fN t (k + 12) 1 20] := by rw [eF, q3]; rfl
  rw [q3, if_pos rfl] at I3
  have x3 : gC g3 (gN h) = 3 := by rw [F3.2.1]; exact f2c.1
  have k3 := (fO_0 q3).1
  have hv3 : gL g3 3078 101 = lN (tV t (k + 1)) := C3.2.2.2.2.1.2.2.1 k3
  have B3 : CB g3 b bk G Cp := B.bf C.2.1 bf3 (Nat.le_refl _)
  have ov3 := fO_v q3
  have F3' : Fr [768] [] g3 (sI g3 768 (gN h) (nI (ofI bk (tV t (k + 1))))) := Fr.rfl.sI (by decide)
  have C3' := C3.fr F3' (by decide)
  have B3' : CB (sI g3 768 (gN h) (nI (ofI bk (tV t (k + 1))))) b bk G Cp := B.bf C.2.1 (bf3.sI (Nat.le_refl _)) (Nat.le_refl _)
  obtain ⟨g4, a4, C4, F4, I4⟩ := c_tOf (d := d + 1) X C3' B3'
  rw [q3, bz_0, if_neg (by decide), ck_ok C3.2.2.2.2.2.1, C3.2.2.2.2.2.2, Option.bind_some, ck_ok C3.1.t101.1, ck_ok C3.2.2.2.2.2.1, hv3, c_of C3.1 X B3 ((tV_b (t := t) (k := k + 1)).1 k3), cK_v, t_236_47 C3.1, ck_ok x3, ck_ok C3.2.2.2.2.2.1, ov3.1, a4, cK_v, t_236_54 C4.1]
  have bf4 : BFr (gN h) h g4 := (bf3.sI (Nat.le_refl _)).trans (Fr.bf F4)
  have ct4 : gN g4 = gN h + 2 ∧ gS g4 = gS h + 11 := ⟨by rw [F4.ct.1]; exact ct3.1, by rw [F4.ct.2]; exact ct3.2⟩
  by_cases q4 : ¬ (fO t (k + 2) (bk 1) (bk 0 0) = 0)
  · have ef : st (ff (cFs t k bk)) (fS t (k + 13) 59) = fO t (k + 2) (bk 1) (bk 0 0) := by rw [eF3, ff_n q4]; exact if_neg q4
    rw [bz_n q4, if_pos rfl, ef]
    exact ⟨g4, _, rfl, stop_f (k + 2) q4 (bf4.lo hNg) (by omega) (by omega) C4 (by rw [I4, if_neg q4])⟩
  have q4 := Decidable.not_not.mp q4
  have eF4 : ff (cFs t k bk) = ff [if ofI bk (tV t (k + 2)) = ofI bk (tV t (k + 1)) then fX t 3 (k + 2) else 0, fW t (k + 3) (kw 29), fN t (k + 4) 0 1439, fW t (k + 5) (kw 30), fN t (k + 6) 1 1440, fW t (k + 7) (kw 31), fN t (k + 8) (tV t (k + 4)) 1439, fW t (k + 9) (kw 32), fN t (k + 10) 1 3000, fW t (k + 11) (kw 33), fN t (k + 12) 1 20] := by rw [eF3, q4]; rfl
  rw [q4, if_pos rfl] at I4
  have x4 : gC g4 (gN h) = 3 := by rw [F4.2.1]; exact x3
  have k4 := (fO_0 q4).1
  have hv4 : gL g4 3078 101 = lN (tV t (k + 2)) := C4.2.2.2.2.1.2.2.1 k4
  have B4 : CB g4 b bk G Cp := B.bf C.2.1 bf4 (Nat.le_refl _)
  have ov4 := fO_v q4
  have F4' : Fr [769] [] g4 (sI g4 769 (gN h) (nI (ofI bk (tV t (k + 2))))) := Fr.rfl.sI (by decide)
  have C4' := C4.fr F4' (by decide)
  have i768 : gI g4 768 (gN h) = nI (ofI bk (tV t (k + 1))) := by rw [F4.I (by decide), gI_s]
  rw [q4, bz_0, if_neg (by decide), ck_ok C4.2.2.2.2.2.1, C4.2.2.2.2.2.2, Option.bind_some, ck_ok C4.1.t101.1, ck_ok C4.2.2.2.2.2.1, hv4, c_of C4.1 X B4 ((tV_b (t := t) (k := k + 2)).1 k4), cK_v, t_236_71 C4.1, ck_ok x4, ck_ok x4, ck_ok x4, ov4.1, gI_s, i768, ife (by have := ov4.2.1; omega) (by have := ov3.2.1; omega)]
  by_cases qc : ofI bk (tV t (k + 2)) = ofI bk (tV t (k + 1))
  · have nz : fX t 3 (k + 2) ≠ 0 := fX_n (by decide)
    have ef : st (ff (cFs t k bk)) (fS t (k + 13) 59) = fX t 3 (k + 2) := by rw [eF4, if_pos qc, ff_n nz]; exact if_neg nz
    obtain ⟨g5, d1, d2, d3, d4⟩ := c_fail (d := d + 9) C4' (c := 3) (by decide)
    rw [if_pos qc, ck_ok C4.2.2.2.2.2.1, d1, cK_v, t_236_90 d2.1, if_pos (by decide), ef]
    exact ⟨g5, _, rfl, stop_f (k + 2) nz (((bf4.sI (Nat.le_refl _)).trans (Fr.bf d3)).lo hNg) (by rw [d3.ct.1]; exact Nat.le_trans (Nat.le_of_eq ct4.1) (by omega)) (by rw [d3.ct.2]; exact Nat.le_trans (Nat.le_of_eq ct4.2) (by omega)) d2 d4⟩
  have eFc : ff (cFs t k bk) = ff [fW t (k + 3) (kw 29), fN t (k + 4) 0 1439, fW t (k + 5) (kw 30), fN t (k + 6) 1 1440, fW t (k + 7) (kw 31), fN t (k + 8) (tV t (k + 4)) 1439, fW t (k + 9) (kw 32), fN t (k + 10) 1 3000, fW t (k + 11) (kw 33), fN t (k + 12) 1 20] := by rw [eF4, if_neg qc]; rfl
  have eFs : ff (cFs t k bk) = st (ff (tmF t (k + 2))) (ff [fW t (k + 9) (kw 32), fN t (k + 10) 1 3000, fW t (k + 11) (kw 33), fN t (k + 12) 1 20]) := by rw [eFc]; exact (ff_app (tmF t (k + 2)) _)
  obtain ⟨g5, a5, bt5, n5, s5, ⟨kk5, K5⟩, e5, v5⟩ := c_times (d := d) (x := gN h) C4' x4 (Nat.le_refl _)
  have bf5 : BFr (gN h) h g5 := (bf4.sI (Nat.le_refl _)).trans bt5
  rw [if_neg qc, ck_ok C4.2.2.2.2.2.1, a5, cK_v, t_236_96 K5.1]
  have n5 : gN g5 ≤ gN h + 2 := Nat.le_trans n5 (Nat.le_of_eq ct4.1)
  have s5 : gS g5 ≤ gS h + 11 := Nat.le_trans s5 (Nat.le_of_eq ct4.2)
  by_cases qt : ¬ (ff (tmF t (k + 2)) = 0)
  · have ef : st (ff (cFs t k bk)) (fS t (k + 13) 59) = ff (tmF t (k + 2)) := by rw [eFs, show ∀ a c, ff (tmF t (k + 2)) ≠ 0 → st (st (ff (tmF t (k + 2))) a) c = ff (tmF t (k + 2)) from fun a c z => by unfold st; rw [if_neg z, if_neg z]]; exact qt
    rw [bz_n qt, if_pos rfl, ef]
    exact ⟨g5, _, rfl, stop_f kk5 qt (bf5.lo hNg) (by omega) (by omega) K5 (e5 qt)⟩
  have qt := Decidable.not_not.mp qt
  obtain ⟨I5, C5, F5, f70, f71, f72⟩ := v5 qt
  have eF5 : ff (cFs t k bk) = ff [fW t (k + 9) (kw 32), fN t (k + 10) 1 3000, fW t (k + 11) (kw 33), fN t (k + 12) 1 20] := by rw [eFs, qt]; rfl
  have ct5 : gN g5 = gN h + 2 ∧ gS g5 = gS h + 11 := ⟨F5.ct.1.trans ct4.1, F5.ct.2.trans ct4.2⟩
  have x5 : gC g5 (gN h) = 3 := by rw [F5.2.1]; exact x4
  obtain ⟨g6, a6, C6, F6, I6⟩ := c_tWd (d := d + 2) C5 (z := 16) (v := kw 32) (by decide) (by decide +kernel) (wi_z (by decide +kernel)) (by decide +kernel)
  rw [qt, bz_0, if_neg (by decide), ck_ok C5.2.2.2.2.2.1, a6, cK_v, t_236_106 C6.1]
  have bf6 : BFr (gN h) h g6 := (bf5).trans (Fr.bf F6)
  have ct6 : gN g6 = gN h + 2 ∧ gS g6 = gS h + 11 := ⟨by rw [F6.ct.1]; exact ct5.1, by rw [F6.ct.2]; exact ct5.2⟩
  by_cases q6 : ¬ (fW t (k + 9) (kw 32) = 0)
  · have ef : st (ff (cFs t k bk)) (fS t (k + 13) 59) = fW t (k + 9) (kw 32) := by rw [eF5, ff_n q6]; exact if_neg q6
    rw [bz_n q6, if_pos rfl, ef]
    exact ⟨g6, _, rfl, stop_f (k + 9) q6 (bf6.lo hNg) (by omega) (by omega) C6 (by rw [I6, if_neg q6])⟩
  have q6 := Decidable.not_not.mp q6
  have eF6 : ff (cFs t k bk) = ff [fN t (k + 10) 1 3000, fW t (k + 11) (kw 33), fN t (k + 12) 1 20] := by rw [eF5, q6]; rfl
  rw [q6, if_pos rfl] at I6
  have x6 : gC g6 (gN h) = 3 := by rw [F6.2.1]; exact x5
  obtain ⟨g7, a7, C7, F7, I7⟩ := c_tNu (d := d + 2) C6 (lo := 1) (hi := 3000) (by decide) (by decide)
  rw [q6, bz_0, if_neg (by decide), ck_ok C6.2.2.2.2.2.1, a7, cK_v, t_236_117 C7.1]
  have bf7 : BFr (gN h) h g7 := (bf6).trans (Fr.bf F7)
  have ct7 : gN g7 = gN h + 2 ∧ gS g7 = gS h + 11 := ⟨by rw [F7.ct.1]; exact ct6.1, by rw [F7.ct.2]; exact ct6.2⟩
  by_cases q7 : ¬ (fN t (k + 10) 1 3000 = 0)
  · have ef : st (ff (cFs t k bk)) (fS t (k + 13) 59) = fN t (k + 10) 1 3000 := by rw [eF6, ff_n q7]; exact if_neg q7
    rw [bz_n q7, if_pos rfl, ef]
    exact ⟨g7, _, rfl, stop_f (k + 10) q7 (bf7.lo hNg) (by omega) (by omega) C7 (by rw [I7, if_neg q7])⟩
  have q7 := Decidable.not_not.mp q7
  have eF7 : ff (cFs t k bk) = ff [fW t (k + 11) (kw 33), fN t (k + 12) 1 20] := by rw [eF6, q7]; rfl
  rw [q7, if_pos rfl] at I7
  have x7 : gC g7 (gN h) = 3 := by rw [F7.2.1]; exact x6
  have k7 := (fN_0 q7).1
  have hv7 : gI g7 3077 101 = nI (tV t (k + 10)) := C7.2.2.2.2.1.2.1 k7
  have F7' : Fr [773] [] g7 (sI g7 773 (gN h) (nI (tV t (k + 10)))) := Fr.rfl.sI (by decide)
  have C7' := C7.fr F7' (by decide)
  obtain ⟨g8, a8, C8, F8, I8⟩ := c_tWd (d := d + 2) C7' (z := 17) (v := kw 33) (by decide) (by decide +kernel) (wi_z (by decide +kernel)) (by decide +kernel)
  rw [q7, bz_0, if_neg (by decide), ck_ok C7.2.2.2.2.2.1, C7.2.2.2.2.2.2, Option.bind_some, ck_ok C7.1.t101.1, ck_ok x7, ck_ok C7.2.2.2.2.2.1, hv7, a8, cK_v, t_236_140 C8.1]
  have bf8 : BFr (gN h) h g8 := (bf7.sI (Nat.le_refl _)).trans (Fr.bf F8)
  have ct8 : gN g8 = gN h + 2 ∧ gS g8 = gS h + 11 := ⟨by rw [F8.ct.1]; exact ct7.1, by rw [F8.ct.2]; exact ct7.2⟩
  by_cases q8 : ¬ (fW t (k + 11) (kw 33) = 0)
  · have ef : st (ff (cFs t k bk)) (fS t (k + 13) 59) = fW t (k + 11) (kw 33) := by rw [eF7, ff_n q8]; exact if_neg q8
    rw [bz_n q8, if_pos rfl, ef]
    exact ⟨g8, _, rfl, stop_f (k + 11) q8 (bf8.lo hNg) (by omega) (by omega) C8 (by rw [I8, if_neg q8])⟩
  have q8 := Decidable.not_not.mp q8
  have eF8 : ff (cFs t k bk) = ff [fN t (k + 12) 1 20] := by rw [eF7, q8]; rfl
  rw [q8, if_pos rfl] at I8
  have x8 : gC g8 (gN h) = 3 := by rw [F8.2.1]; exact x7
  obtain ⟨g9, a9, C9, F9, I9⟩ := c_tNu (d := d + 2) C8 (lo := 1) (hi := 20) (by decide) (by decide)
  rw [q8, bz_0, if_neg (by decide), ck_ok C8.2.2.2.2.2.1, a9, cK_v, t_236_150 C9.1]
  have bf9 : BFr (gN h) h g9 := (bf8).trans (Fr.bf F9)
  have ct9 : gN g9 = gN h + 2 ∧ gS g9 = gS h + 11 := ⟨by rw [F9.ct.1]; exact ct8.1, by rw [F9.ct.2]; exact ct8.2⟩
  by_cases q9 : ¬ (fN t (k + 12) 1 20 = 0)
  · have ef : st (ff (cFs t k bk)) (fS t (k + 13) 59) = fN t (k + 12) 1 20 := by rw [eF8, ff_n q9]; exact if_neg q9
    rw [bz_n q9, if_pos rfl, ef]
    exact ⟨g9, _, rfl, stop_f (k + 12) q9 (bf9.lo hNg) (by omega) (by omega) C9 (by rw [I9, if_neg q9])⟩
  have q9 := Decidable.not_not.mp q9
  have eF9 : ff (cFs t k bk) = ff [] := by rw [eF8, q9]; rfl
  rw [q9, if_pos rfl] at I9
  have x9 : gC g9 (gN h) = 3 := by rw [F9.2.1]; exact x8
  have k9 := (fN_0 q9).1
  have hv9 : gI g9 3077 101 = nI (tV t (k + 12)) := C9.2.2.2.2.1.2.1 k9
  have F9' : Fr [774] [] g9 (sI g9 774 (gN h) (nI (tV t (k + 12)))) := Fr.rfl.sI (by decide)
  have C9' := C9.fr F9' (by decide)
  obtain ⟨h9, h9E⟩ : ∃ h9, h9 = (sI g9 774 (gN h) (nI (tV t (k + 12)))) := ⟨_, rfl⟩
  rw [← h9E] at C9'
  have bf9' : BFr (gN h) h h9 := by rw [h9E]; exact bf9.sI (Nat.le_refl _)
  have B9 : CB h9 b bk G Cp := B.bf C.2.1 bf9' (Nat.le_refl _)
  have L9 : CLb h9 N0 bk G Cp := L.bf C.2.1 bf9' (Nat.le_refl _)
  have ct9' : gN h9 = gN h + 2 ∧ gS h9 = gS h + 11 := by rw [h9E]; exact ct9
  have c9 : gC h9 = gC h2 := by rw [h9E]; show gC g9 = _; rw [F9.2.1, F8.2.1]; show gC g7 = _; rw [F7.2.1, F6.2.1, F5.2.1]; show gC g4 = _; rw [F4.2.1]; show gC g3 = _; rw [F3.2.1]
  have r9 : gR h9 = gR h2 := by rw [h9E]; show gR g9 = _; rw [F9.2.2.2.1, F8.2.2.2.1]; show gR g7 = _; rw [F7.2.2.2.1, F6.2.2.2.1, F5.2.2.2.1]; show gR g4 = _; rw [F4.2.2.2.1]; show gR g3 = _; rw [F3.2.2.2.1]
  have j68 : gI h9 768 (gN h) = nI (ofI bk (tV t (k + 1))) := by rw [h9E, gI_k (by decide), F9.I (by decide), F8.I (by decide), gI_k (by decide), F7.I (by decide), F6.I (by decide), F5.I (by decide), gI_k (by decide), F4.I (by decide), gI_s]
  have j69 : gI h9 769 (gN h) = nI (ofI bk (tV t (k + 2))) := by rw [h9E, gI_k (by decide), F9.I (by decide), F8.I (by decide), gI_k (by decide), F7.I (by decide), F6.I (by decide), F5.I (by decide), gI_s]
  have j73 : gI h9 773 (gN h) = nI (tV t (k + 10)) := by rw [h9E, gI_k (by decide), F9.I (by decide), F8.I (by decide), gI_s]
  have j74 : gI h9 774 (gN h) = nI (tV t (k + 12)) := by rw [h9E, gI_s]
  have j70 : gI h9 770 (gN h) = nI (tV t (k + 4)) := by rw [h9E, gI_k (by decide), F9.I (by decide), F8.I (by decide), gI_k (by decide), F7.I (by decide), F6.I (by decide)]; exact f70
  have j71 : gI h9 771 (gN h) = nI (tV t (k + 6)) := by rw [h9E, gI_k (by decide), F9.I (by decide), F8.I (by decide), gI_k (by decide), F7.I (by decide), F6.I (by decide)]; exact f71
  have j72 : gI h9 772 (gN h) = nI (tV t (k + 8)) := by rw [h9E, gI_k (by decide), F9.I (by decide), F8.I (by decide), gI_k (by decide), F7.I (by decide), F6.I (by decide)]; exact f72
  have j19 : gI h9 519 b = gI h 519 b := by rw [h9E, gI_k (by decide), I9, I8, gI_k (by decide), I7, I6, I5, gI_k (by decide), I4, gI_k (by decide), I3]; exact i19
  have j58 : gI h9 258 = gI h2 258 := by rw [h9E, gI_k (by decide), F9.I (by decide), F8.I (by decide), gI_k (by decide), F7.I (by decide), F6.I (by decide), F5.I (by decide), gI_k (by decide), F4.I (by decide), gI_k (by decide), F3.I (by decide)]
  have ar61 : ∀ f, Ar h9 (gN h + 1) 61 0 0 f := fun f => by
    have hs9 := C9'.1
    exact ⟨by rw [c9]; exact f2c.2, by rw [r9]; exact f2r.2.1, (hs9.aN 61 (by decide)).1, (hs9.aN 61 (by decide)).2, by rw [j58]; exact f2r.2.2, Nat.le_refl _, by decide, fun i hi => absurd hi (by omega)⟩
  have oldr := L.old hs
  obtain ⟨p1, A9⟩ := B9.2.2.1 3 (by decide)
  obtain ⟨h10, e', cap', s1, C10, Bx, bx10, s2, s3, s4, u1, u2, u3, u4, u5⟩ := c_addB (d := d + 3) (j0 := 3) (x := gN h) (by decide) C9' B9 L9 (by omega) (by rw [c9, f2c.1]; decide) (by omega)
  have cl8 : gC g9 (G 7 3) = 1 := by have := A9.1; rw [h9E] at this; exact this
  have p1' : gR g9 515 b = some (G 7 3) := by rw [h9E] at p1; exact p1
  obtain ⟨h11, a11, C11, F11, I11⟩ := c_tEn (d := d + 2) C10
  rw [q9, bz_0, if_neg (by decide), ck_ok C9.2.2.2.2.2.1, C9.2.2.2.2.2.2, Option.bind_some, ck_ok C9.1.t101.1, ck_ok x9, ck_ok C9.2.2.2.2.2.1, p1', Option.bind_some, ck_ok cl8, hv9, ← h9E, s1, cK_v, t_236_174 C10.1, ck_ok C10.2.2.2.2.2.1, a11, cK_v, t_236_179 C11.1, bz_ret]
  have stE : st (ff (cFs t k bk)) (fS t (k + 13) 59) = fS t (k + 13) 59 := by rw [eF9]; rfl
  rw [stE]
  have bf10 : BFr N0 h h10 := (bf9'.lo hNg).trans bx10
  refine ⟨h11, _, rfl, bf10.trans (Fr.bf F11), by rw [F11.ct.1]; omega, by rw [F11.ct.2]; omega, ⟨k + 13, C11⟩, fun z => by rw [I11, if_neg z], fun z => ⟨?_, ?_⟩⟩
  · rw [I11, if_pos z, u5]; exact j19
  · obtain ⟨G', G'E⟩ : ∃ G', G' = up2 (up2 (up2 (up2 G 3 (bk 0 3) (gN h)) 6 (bk 0 3) (gN h + 1)) 8 3 e') 9 (30 + bk 0 3) 61 := ⟨_, rfl⟩
    obtain ⟨Cp', Cp'E⟩ : ∃ Cp', Cp' = up2 (up2 Cp 8 3 cap') 9 (30 + bk 0 3) 0 := ⟨_, rfl⟩
    have gk : ∀ j, j ≠ 3 → j ≠ 6 → j ≠ 8 → j ≠ 9 → G' j = G j := fun j m0 m1 m3 m4 => by rw [G'E, up2_k m4, up2_k m3, up2_k m1, up2_k m0]
    have g0 : G' 3 = up1 (G 3) (bk 0 3) (gN h) := by rw [G'E, up2_k (by decide), up2_k (by decide), up2_k (by decide)]; unfold up2; rw [if_pos rfl]
    have g5 : ∀ i, G' 6 i = if i = bk 0 3 then gN h + 1 else G 6 i := fun i => by rw [G'E]; simp [up2, up1]
    have g8 : ∀ i, G' 8 i = if i = 3 then e' else G 8 i := fun i => by rw [G'E]; simp [up2, up1]
    have g9 : ∀ i, G' 9 i = if i = 30 + bk 0 3 then 61 else G 9 i := fun i => by rw [G'E]; simp [up2, up1]
    have p8 : ∀ i, Cp' 8 i = if i = 3 then cap' else Cp 8 i := fun i => by rw [Cp'E]; simp [up2, up1]
    have p9 : ∀ i, Cp' 9 i = if i = 30 + bk 0 3 then 0 else Cp 9 i := fun i => by rw [Cp'E]; simp [up2, up1]
    have k0 : cBk t k bk 0 3 = bk 0 3 + 1 := up2_s
    have kx : ∀ j, j ≠ 3 → cBk t k bk 0 j = bk 0 j := fun j hj => by
      unfold cBk; rw [up2_x hj, up2_k (by decide), up2_k (by decide), up2_k (by decide), up2_k (by decide), up2_k (by decide), up2_k (by decide), up2_k (by decide)]
    have kk : ∀ j, j ≠ 0 → j < 25 → cBk t k bk j = bk j := fun j m0 m1 => by
      unfold cBk; rw [up2_k m0, up2_k (by omega), up2_k (by omega), up2_k (by omega), up2_k (by omega), up2_k (by omega), up2_k (by omega), up2_k (by omega)]
    have kn : ∀ j v i, (j = 25 ∧ v = ofI bk (tV t (k + 1)) ∨ j = 26 ∧ v = ofI bk (tV t (k + 2)) ∨ j = 27 ∧ v = tV t (k + 4) ∨ j = 28 ∧ v = tV t (k + 6) ∨ j = 29 ∧ v = tV t (k + 8) ∨ j = 30 ∧ v = tV t (k + 10) ∨ j = 31 ∧ v = tV t (k + 12)) → cBk t k bk j i = if i = bk 0 3 then v else bk j i := fun j v i hj => by
      unfold cBk
      rcases hj with ⟨rfl, rfl⟩ | ⟨rfl, rfl⟩ | ⟨rfl, rfl⟩ | ⟨rfl, rfl⟩ | ⟨rfl, rfl⟩ | ⟨rfl, rfl⟩ | ⟨rfl, rfl⟩ <;> simp [up2, up1]
    have nK : ∀ kk xx, kk ≠ 256 → kk ≠ 258 → ¬ lI (G 7 3) kk xx := fun kk xx y1 y2 z => z.2.elim y1 y2
    have nR : ∀ kk xx, kk ≠ 257 → ¬ lR (G 7 3) kk xx := fun kk xx y z => y z.2
    have B10 : CB h10 b (cBk t k bk) G' Cp' := by
      obtain ⟨v1, v2, v3, v4, v5', v6, v7, v8⟩ := Bx
      refine ⟨v1, v2, fun j hj => ?_, ?_, fun i hi => ?_, fun p hp => ?_, fun s hS => ?_, fun i hi => ?_⟩
      · rw [gk 7 (by decide) (by decide) (by decide) (by decide)]
        refine ⟨(v3 j hj).1, ?_⟩
        by_cases ej : j = 3
        · subst ej
          rw [g8, if_pos rfl, p8, if_pos rfl, k0, g0]; exact s2
        · rw [g8, if_neg ej, p8, if_neg ej, kx j ej]
          have gj : G' j = G j := by
            have : j = 0 ∨ j = 1 ∨ j = 2 := by omega
            rcases this with rfl | rfl | rfl <;> exact gk _ (by decide) (by decide) (by decide) (by decide)
          rw [gj]; exact (v3 j hj).2 ej
      · rw [gk 16 (by decide) (by decide) (by decide) (by decide), kx 4 (by decide), kk 5 (by decide) (by decide), kk 6 (by decide) (by decide)]; exact v4
      · rw [kx 0 (by decide)] at hi
        rw [gk 0 (by decide) (by decide) (by decide) (by decide), gk 5 (by decide) (by decide) (by decide) (by decide), gk 14 (by decide) (by decide) (by decide) (by decide), kk 1 (by decide) (by decide), kk 2 (by decide) (by decide), kk 3 (by decide) (by decide), kk 4 (by decide) (by decide)]; exact v5' i hi
      · rw [kx 1 (by decide)] at hp
        rw [gk 1 (by decide) (by decide) (by decide) (by decide), gk 15 (by decide) (by decide) (by decide) (by decide), kk 7 (by decide) (by decide), kk 8 (by decide) (by decide), kk 9 (by decide) (by decide), kk 10 (by decide) (by decide), kk 11 (by decide) (by decide), kk 12 (by decide) (by decide), kk 13 (by decide) (by decide), kk 14 (by decide) (by decide), kk 15 (by decide) (by decide), kk 16 (by decide) (by decide)]; exact v6 p hp
      · rw [kx 2 (by decide)] at hS
        rw [gk 2 (by decide) (by decide) (by decide) (by decide), gk 10 (by decide) (by decide) (by decide) (by decide), gk 11 (by decide) (by decide) (by decide) (by decide), gk 12 (by decide) (by decide) (by decide) (by decide), gk 13 (by decide) (by decide) (by decide) (by decide), kk 17 (by decide) (by decide), kk 18 (by decide) (by decide), kk 19 (by decide) (by decide), kk 20 (by decide) (by decide), kk 21 (by decide) (by decide), kk 22 (by decide) (by decide), kk 23 (by decide) (by decide), kk 24 (by decide) (by decide)]
        obtain ⟨y1, y2, y3, y4, y5, y6, y7⟩ := v7 s hS
        refine ⟨y1, y2, y3, y4, y5, fun j hj => ?_, y7⟩
        rw [gk (10 + j) (by omega) (by omega) (by omega) (by omega)]; exact y6 j hj
      · rw [k0] at hi
        rw [g0, g5, kn 25 _ i (Or.inl ⟨rfl, rfl⟩), kn 26 _ i (Or.inr (Or.inl ⟨rfl, rfl⟩)), kn 27 _ i (Or.inr (Or.inr (Or.inl ⟨rfl, rfl⟩))), kn 28 _ i (Or.inr (Or.inr (Or.inr (Or.inl ⟨rfl, rfl⟩)))), kn 29 _ i (Or.inr (Or.inr (Or.inr (Or.inr (Or.inl ⟨rfl, rfl⟩))))), kn 30 _ i (Or.inr (Or.inr (Or.inr (Or.inr (Or.inr (Or.inl ⟨rfl, rfl⟩)))))), kn 31 _ i (Or.inr (Or.inr (Or.inr (Or.inr (Or.inr (Or.inr ⟨rfl, rfl⟩))))))]
        by_cases ei : i = bk 0 3
        · rw [ei, up1_s]
          simp only [if_true]
          have gi : ∀ kk v, kk ≠ 256 → kk ≠ 258 → gI h9 kk (gN h) = v → gI h10 kk (gN h) = v := fun kk v y1 y2 y3 => by rw [s4.2.2.1 kk _ (by omega) (nK _ _ y1 y2)]; exact y3
          refine ⟨by rw [(s4.2.1 _ (by omega)).1, c9]; exact f2c.1, gi 768 _ (by decide) (by decide) j68, gi 769 _ (by decide) (by decide) j69, gi 770 _ (by decide) (by decide) j70, gi 771 _ (by decide) (by decide) j71, gi 772 _ (by decide) (by decide) j72, gi 773 _ (by decide) (by decide) j73, gi 774 _ (by decide) (by decide) j74, by rw [s4.2.2.2.2.1 775 _ (by omega) (nR _ _ (by decide)), r9]; exact f2r.1⟩
        · rw [up1_x ei]
          simp only [if_neg ei]
          exact v8 i (by omega)
    have ne10 : ∀ r, lV bk r → r ≠ 30 + bk 0 3 := fun r hr e => by rcases hr with a | a | a <;> omega
    have L10 : CLb h10 N0 (cBk t k bk) G' Cp' := by
      refine CLb.add (j0 := 3) (rn := 30 + bk 0 3) (l := gN h + 1) (N1 := gN h) (e' := e') (cap' := cap') (by decide) L9 C9'.2.1 hNg (by omega) oldr s4 s3 u4 (by rw [k0]; exact u1) (fun j hj hj0 => kx j hj0) (fun r hr => ?_) (fun r h2 hr => ?_) (fun r h2 hr hne => ?_) ⟨?_, ?_⟩ (fun j hj hj0 => by rw [p8, if_neg hj0]) (by rw [p8, if_pos rfl]) (fun _ _ => ?_)
      · unfold lV at hr ⊢
        rw [k0, kx 0 (by decide)] at hr
        rcases hr with a | a | a
        · exact Or.inl (Or.inl a)
        · exact Or.inl (Or.inr (Or.inl a))
        · by_cases e : r = 30 + bk 0 3
          · right; refine ⟨e, by omega, ?_⟩
            rintro (y | y | y) <;> omega
          · exact Or.inl (Or.inr (Or.inr (by omega)))
      · have n10 := ne10 r hr
        unfold lo
        rw [gk 7 (by decide) (by decide) (by decide) (by decide), gk 5 (by decide) (by decide) (by decide) (by decide), g5]
        rcases hr with a | a | a
        · rw [if_neg (by omega), if_neg (by omega), if_pos a, if_neg (by omega), if_neg (by omega), if_pos a]
        · rw [if_neg (by omega), if_neg (by omega), if_neg (by omega), if_pos (by omega), if_neg (by omega), if_neg (by omega), if_neg (by omega), if_pos (by omega)]
        · rw [if_neg (by omega), if_neg (by omega), if_neg (by omega), if_neg (by omega), if_neg (by omega), if_neg (by omega), if_neg (by omega), if_neg (by omega), if_neg (by omega)]
      · have n10 := ne10 r hr
        have e9 : G' 9 r = G 9 r ∧ Cp' 9 r = Cp 9 r := by rw [g9, p9, if_neg n10, if_neg n10]; exact ⟨rfl, rfl⟩
        refine ⟨?_, ?_, fun _ => e9⟩
        · unfold la
          by_cases z : 2 ≤ r ∧ r < 6
          · rw [if_pos z, if_pos z, g8, if_neg (by omega)]
          · rw [if_neg z, if_neg z]; exact e9.1
        · unfold lc
          by_cases z : 2 ≤ r ∧ r < 6
          · rw [if_pos z, if_pos z, p8, if_neg (by omega)]
          · rw [if_neg z, if_neg z]; exact e9.2
      · show G' 8 3 = e'; rw [g8, if_pos rfl]
      · show Cp' 8 3 = cap'; rw [p8, if_pos rfl]
      · have e9 : G' 9 (30 + bk 0 3) = 61 ∧ Cp' 9 (30 + bk 0 3) = 0 := by rw [g9, p9, if_pos rfl, if_pos rfl]; exact ⟨rfl, rfl⟩
        refine ⟨?_, ?_, ?_, e9.1, e9.2, by omega, by omega, ⟨by omega, Or.inl ⟨rfl, rfl⟩, Or.inl (inS_ge (by omega))⟩, ar61⟩
        · unfold lo
          rw [if_neg (by omega), if_neg (by omega), if_neg (by omega), if_neg (by omega), g5, if_pos (by omega)]
        · unfold la; rw [if_neg (by omega)]; exact e9.1
        · unfold lc; rw [if_neg (by omega)]; exact e9.2
    have gn11 := F11.ct.1
    exact ⟨G', Cp', C11, B10.bf C10.2.1 (Fr.bf (N := gN h10) F11) (Nat.le_refl _), L10.bf C10.2.1 (Fr.bf (N := gN h10) F11) (Nat.le_refl _), hNb, hN, by have := s4.1.1; omega, by rw [gk 16 (by decide) (by decide) (by decide) (by decide)]; exact hSh⟩
end CAB
