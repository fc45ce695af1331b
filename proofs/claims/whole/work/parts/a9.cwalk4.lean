/-! ===== WALKS: the component delivers ===== -/
theorem itB_f : ∀ (l : List Nat) (os : List (Option Nat)) (so : Nat → Option Nat) (b : Nat), (∀ k (hk : k < l.length), so l[k] = os.getD k none) → itB l os b = l.filter fun i => decide (so i = some b)
  | [], os, so, b, _ => by cases os <;> rfl
  | i :: l, [], so, b, h => by
    have h0 : so i = none := h 0 (Nat.succ_pos _)
    rw [List.filter_cons_of_neg (by rw [decide_eq_true_iff, h0]; exact fun w => by cases w)]
    have := itB_f l [] so b fun k hk => h (k + 1) (Nat.succ_lt_succ hk)
    rw [← this]
    cases l <;> rfl
  | i :: l, o :: os, so, b, h => by
    have h0 : so i = o := h 0 (Nat.succ_pos _)
    have ih := itB_f l os so b fun k hk => h (k + 1) (Nat.succ_lt_succ hk)
    unfold itB
    by_cases q : o = some b
    · rw [if_pos q, List.filter_cons_of_pos (by rw [decide_eq_true_iff, h0]; exact q), ih]
    · rw [if_neg q, List.filter_cons_of_neg (by rw [decide_eq_true_iff, h0]; exact q), ih]
theorem gfc_A {h h' : AH} (g : GFc h h') (hs : Sh h) {x : Nat} (hx : x < 296) : gA h' x = gA h x ∧ gB h' x = gB h x := g.2.2.2.2.2.1 x (by have := hs.2; omega) fun q => q
theorem gfc_I {h h' : AH} (g : GFc h h') (hs : Sh h) {k x : Nat} (hx : x < 296) (hk : k ∉ KC) : gI h' k x = gI h k x := g.2.2.1 k x (by have := hs.2; omega) hk
theorem CS4.gfc {h h' : AH} {s s' : St} (C : CS4 h s) (g : GFc h h') (hs : Sh h) (e : sM s' = sM s) : CS4 h' s' := by
  unfold CS4 at C ⊢
  rw [gfc_I g hs (by decide) (by decide), (gfc_A g hs (x := 166) (by decide)).1, (gfc_A g hs (x := 167) (by decide)).1, e]; exact C
section WC4
variable {d : Nat} {b : Nat} {bk : Bk} {G Cp : Nat → Nat → Nat}
theorem dlS_m {s : St} {i f wh wt : Nat} : sM (dlS bk s i f wh wt) = sM s := (ntS_f (bk := bk) (s := cmS (stH s f ((sH s f).erase i)) i wh f none) i wt f).2.2.2.2.2.2.2.1
theorem er_mid {kept rest : List Nat} {i : Nat} (h : i ∉ kept) : (kept ++ i :: rest).erase i = kept ++ rest := by
  rw [List.erase_append_right _ h, List.erase_cons_head]
theorem cdv_lp (W : WB bk) {f st : Nat} (hf : f < bk 0 0) (hst : st < 8) {so : Nat → Option Nat} (hso : ∀ i k, so i = some k → k < 8) : ∀ (rest kept : List Nat) (h : AH) (s : St), sH s f = kept ++ rest → CSt h b bk s G Cp → WS bk s → (∀ i, i ∈ rest → gA h 171 i = oI (so i)) →
    ∃ h', Q (d + 4) 316 9 [some (.ref 156), some (.int (nI st)), some (.ref (G 5 f)), some (.int (nI f)), some (.int (nI kept.length)), some (.int (nI rest.length)), none] [] h = some (none, h') ∧ CSt h' b bk (dvL bk f (rest.filter fun i => decide (so i = some st)) s) G Cp ∧ sH (dvL bk f (rest.filter fun i => decide (so i = some st)) s) f = kept ++ rest.filter (fun i => decide (so i ≠ some st)) ∧ WS bk (dvL bk f (rest.filter fun i => decide (so i = some st)) s) ∧ sM (dvL bk f (rest.filter fun i => decide (so i = some st)) s) = sM s ∧ zN (dvL bk f (rest.filter fun i => decide (so i = some st)) s) 2 = zN s 2 ∧ h'.1 = h.1 ∧ GFc h h'
  | [], kept, h, s, e, C, w, K => by
    refine ⟨h, ?_, C, e, w, rfl, rfl, rfl, GF.rfl⟩
    rw [t_316_9 C.1, if_neg (by decide)]
  | i :: rest, kept, h, s, e, C, w, K => by
    have w0 := W.1.1
    have w1 := w.1
    obtain ⟨hs, hw, hb, B, C1, C2⟩ := id C
    have A := C2.2.2 (10 + f) (Or.inr (Or.inl ⟨by omega, by omega⟩)) (Or.inr (by omega))
    rw [lX_sh (by omega), lo_sh (by omega), e] at A
    have lb : (kept ++ i :: rest).length ≤ 100000 := by
      obtain ⟨-, -, -, -, -, a6, a7, -⟩ := A
      omega
    have ll : (kept ++ i :: rest).length = kept.length + (rest.length + 1) := by rw [List.length_append, List.length_cons]
    have hk : kept.length < (kept ++ i :: rest).length := by omega
    have ei : (kept ++ i :: rest).getD kept.length 0 = i := by
      rw [getD_ix hk, List.getElem_append_right (Nat.le_refl _)]
      simp
    have im : i ∈ sH s f := by rw [e]; exact List.mem_append_right _ List.mem_cons_self
    obtain ⟨il, i5, i6⟩ := ((w.2.2.2.2.1 f).2 i).mp im
    have ci := C1.2.2.2 i il
    have k1 := K i List.mem_cons_self
    have nd := (w.2.2.2.2.1 f).1
    rw [e] at nd
    have nk : i ∉ kept := fun q => (List.nodup_append.mp nd).2.2 i q i List.mem_cons_self rfl
    have ob := oI_b (o := so i) (b := st) (fun k q => hso i k q) hst
    have pre : Q (d + 4) 316 9 [some (.ref 156), some (.int (nI st)), some (.ref (G 5 f)), some (.int (nI f)), some (.int (nI kept.length)), some (.int (nI (i :: rest).length)), none] [] h = (if so i = some st then cK (E (d + 4) 256 [.ref (G 5 f), .int (nI kept.length)] h) (Q (d + 4) 316 45 [some (.ref 156), some (.int (nI st)), some (.ref (G 5 f)), some (.int (nI f)), some (.int (nI kept.length)), some (.int (nI (rest.length + 1))), some (.ref (G 4 i))]) [] else Q (d + 4) 316 9 [some (.ref 156), some (.int (nI st)), some (.ref (G 5 f)), some (.int (nI f)), some (.int (nI (kept.length + 1))), some (.int (nI rest.length)), none] [] h) := by
      rw [t_316_9 hs, List.length_cons, if_pos (nI_lt (by omega) (by omega)), ck_ok A.1, al_get hs A hk, cK_v, ei, t_316_20 hs, ck_ok ci.1, ck_ok ci.1, ci.2.2.1, gd_nI (by omega) (by decide), ix_nI (by omega), k1, ck_ok A.1, nI_add, m1]
      simp only [show (oI (so i) = nI st) = (so i = some st) from propext ob]
    rw [pre]
    by_cases q : so i = some st
    · rw [if_pos q, List.filter_cons_of_pos (by rw [decide_eq_true_iff]; exact q), List.filter_cons_of_neg (by rw [decide_eq_true_iff]; exact fun y => y q)]
      have hk2 : kept.length < (sH s f).length := by rw [e]; exact hk
      obtain ⟨h1, a1, a2, a3, a4⟩ := c_rm (d := d) W C w hf hk2
      have ei2 : (sH s f).getD kept.length 0 = i := by rw [e]; exact ei
      rw [ei2] at a1 a2
      obtain ⟨hs1, hw1, hb1', B1, C11, C21⟩ := id a2
      obtain ⟨h2, x1, x2, x3⟩ := c_comes (d := d + 3) (wh := 3) (o := f) (c := none) (i := i) hs1 C11 il (by decide)
      have C2' : CSt h2 b bk (cmS (stH s f ((sH s f).erase i)) i 3 f none) G Cp := a2.fr x2 (by decide) (by decide) (fun r => rfl) x3
      have wi2 : WI bk (cmS (stH s f ((sH s f).erase i)) i 3 f none) := w.i
      obtain ⟨h3, z1, z2, z3⟩ := c_log (d := d + 3) (wh := 4) (o := f) (i := i) C2'.1 W wi2 C2'.2.2.2.2.1 il (by decide) (by omega)
      have C3 : CSt h3 b bk (dlS bk s i f 3 4) G Cp := C2'.fr z2 (by decide) (by decide) (fun r => lX_nt _ 4 f r) z3
      obtain ⟨d1, d2, d3⟩ := dlS_z (bk := bk) (s := s) (i := i) (f := f) (wh := 3) (wt := 4)
      have g3 : GFc h h3 := a4.trans ((x2.gfc (by decide)).trans (z2.gfc (by decide)))
      obtain ⟨h4, y1, y2, y3, y4, y5, y6, y7, y8⟩ := cdv_lp W hf hst hso rest kept h3 (dlS bk s i f 3 4) (by rw [d3, e, er_mid nk]) C3 (w.dl hf il i5 i6 (by decide) (by decide)) (fun j hj => by
        rw [(gfc_A g3 hs (by decide)).1]; exact K j (List.mem_cons_of_mem _ hj))
      refine ⟨h4, ?_, y2, y3, y4, y5.trans dlS_m, y6.trans d2, y7.trans (z2.1.trans (x2.1.trans a3)), g3.trans y8⟩
      have x1' : E (d + 4) 257 [.ref (G 4 i), .int (nI 3), .int (nI f), .int (-1), .int (nI (zN s 0))] h1 = some (none, h2) := x1
      rw [a1, cK_v, t_316_45 hs1, ck_ok (C11.2.2.2 i il).1, show gI h1 2051 156 = nI (zN s 0) from C11.1, x1', cK_n, t_316_58 C2'.1, z1, cK_n, t_316_66 C3.1, m1]
      exact y1
    · rw [if_neg q, List.filter_cons_of_neg (by rw [decide_eq_true_iff]; exact q), List.filter_cons_of_pos (by rw [decide_eq_true_iff]; exact q)]
      obtain ⟨h4, y1, y2, y3, y4⟩ := cdv_lp W hf hst hso rest (kept ++ [i]) h s (by rw [List.append_assoc]; exact e) C w (fun j hj => K j (List.mem_cons_of_mem _ hj))
      rw [List.length_append] at y1
      rw [List.append_assoc] at y3
      exact ⟨h4, y1, y2, y3, y4⟩
/-- the items of the stops of a set are on the shelf, in their order -/
def Clf (f : Nat) (l : List Nat) (so : Nat → Option Nat) (set : Nat) (s : St) : Prop := (∀ i, i ∈ sH s f → i ∈ l) ∧ ∀ c, c < 8 → set.testBit c = true → (sH s f).filter (fun i => decide (so i = some c)) = l.filter fun i => decide (so i = some c)
theorem LRk.gfc {h h' : AH} {n : Nat} {D : Nat → Nat → Nat} {N : Nat} (L : LRk h n D N) (g : GFc h h') (hs : Sh h) : LRk h' n D N := by
  unfold LRk at L ⊢
  rw [(gfc_A g hs (x := 174) (by decide)).1]; exact L
theorem CP.gfc {h h' : AH} {bk : Bk} {f : Nat} {S : List (Nat × Nat)} (R : CP h bk f S) (g : GFc h h') (hs : Sh h) : CP h' bk f S := by
  unfold CP at R ⊢
  rw [gfc_I g hs (by decide) (by decide), (gfc_A g hs (x := 172) (by decide)).1, (gfc_A g hs (x := 173) (by decide)).1]; exact R
theorem cgw_lp (W : WB bk) {f : Nat} (hf : f < bk 0 0) {S : List (Nat × Nat)} (hS : SB S) {l : List Nat} {os : List (Option Nat)} {so : Nat → Option Nat} (hso : ∀ i k, so i = some k → k < 8) (hos : ∀ k (hk : k < l.length), so l[k] = os.getD k none) {z : Int32} : ∀ (m k set a : Nat) (h : AH) (s : St), k + m = S.length → set < 2 ^ S.length → bcN set = m → gdA S.length a → CSt h b bk s G Cp → CS4 h s → WS bk s → Clf f l so set s → CP h bk f S → LRk h S.length (dsS bk f S) (2 ^ S.length) → (∀ i, i ∈ l → gA h 171 i = oI (so i)) →
    ∃ h', Q (d + 5) 262 29 [some (.ref 156), some (.ref (G 5 f)), some (.int (nI f)), some (.int (nI set)), some (.int z), some (.int (nI (cI S.length a))), some (.int (nI k)), none, none] [] h = some (some (.int z), h') ∧ CSt h' b bk (gwF bk f l os S.length (dsS bk f S) m set a s) G Cp ∧ CS4 h' (gwF bk f l os S.length (dsS bk f S) m set a s) ∧ WS bk (gwF bk f l os S.length (dsS bk f S) m set a s) ∧ zN (gwF bk f l os S.length (dsS bk f S) m set a s) 2 = zN s 2 ∧ h'.1 = h.1 ∧ GFc h h'
  | 0, k, set, a, h, s, e, hset, hbc, ha, C, C4, w, cl, R, L, K => by
    have h8 := hS.1
    refine ⟨h, ?_, C, C4, w, rfl, rfl, GF.rfl⟩
    rw [t_262_29 C.1, R.1, if_neg (nI_nlt (by omega) (by omega))]
  | m + 1, k, set, a, h, s, e, hset, hbc, ha, C, C4, w, cl, R, L, K => by
    have h8 := hS.1
    have h9 := two8 h8
    have hs := C.1
    have w0 := W.1.1
    have h0 : set ≠ 0 := fun q => by rw [q, bcN_0] at hbc; omega
    obtain ⟨n1, n2⟩ := nxF_ok (D := dsS bk f S) (a := a) h8 (dsS_b W hf hS) hset h0
    have hb8 : nxF S.length (dsS bk f S) set a S.length 0 < 8 := by omega
    have nx := c_nx (d := d + 1) (y := G 5 f) (z := z) (x6 := nI k) hs W hf hS R L hset ha S.length 0 (by omega) n1
    have cl1 := c_least (d := d + 1) hs W hf hS R L (by omega) hset h0 ha
    have A := C.2.2.2.2.2.2.2 (10 + f) (Or.inr (Or.inl ⟨by omega, by omega⟩)) (Or.inr (by omega))
    rw [lX_sh (by omega), lo_sh (by omega)] at A
    obtain ⟨h1, a1, a2, a3, a4, a5, a6, a7, a8⟩ := cdv_lp (d := d) W hf hb8 hso (sH s f) [] h s rfl C w (fun i hi => K i (cl.1 i hi))
    rw [List.nil_append] at a3
    have eit : itB l os (nxF S.length (dsS bk f S) set a S.length 0) = (sH s f).filter fun i => decide (so i = some (nxF S.length (dsS bk f S) set a S.length 0)) := by
      rw [itB_f l os so _ hos, cl.2 _ hb8 n2]
    rw [← eit] at a2 a3 a4 a5 a6
    have le := tb_le n2
    have hp2 : 0 < 2 ^ nxF S.length (dsS bk f S) set a S.length 0 := Nat.two_pow_pos _
    have cl' : Clf f l so (set - 2 ^ nxF S.length (dsS bk f S) set a S.length 0) (dvL bk f (itB l os (nxF S.length (dsS bk f S) set a S.length 0)) s) := by
      refine ⟨fun i hi => ?_, fun c hc tc => ?_⟩
      · rw [a3] at hi; exact cl.1 i (List.mem_filter.mp hi).1
      · rw [tb_sub set (by omega) _ hb8 c hc n2] at tc
        have t1 : set.testBit c = true := by
          cases h : set.testBit c with
          | true => rfl
          | false => rw [h] at tc; cases tc
        have t2 : c ≠ nxF S.length (dsS bk f S) set a S.length 0 := fun e => by
          rw [e, Nat.beq_refl, Bool.not_true, Bool.and_false] at tc; cases tc
        rw [a3, List.filter_filter, ← cl.2 c hc t1]
        apply List.filter_congr
        intro i _
        by_cases q : so i = some c
        · rw [decide_eq_true q, Bool.true_and]
          exact decide_eq_true fun y => t2 (Option.some.inj (q.symm.trans y))
        · rw [decide_eq_false q, Bool.false_and]
    obtain ⟨h2, b1, b2, b3, b4, b5, b6, b7⟩ := cgw_lp W hf hS hso hos (z := z) m (k + 1) (set - 2 ^ nxF S.length (dsS bk f S) set a S.length 0) (nxF S.length (dsS bk f S) set a S.length 0) h1 _ (by omega) (by omega) (by have := bcN_r set (by omega) _ hb8 n2; omega) (Or.inl n1) a2 (C4.gfc a8 hs a5) a4 cl' (R.gfc a8 hs) (L.gfc a8 hs) (fun i hi => by rw [(gfc_A a8 hs (by decide)).1]; exact K i hi)
    refine ⟨h2, ?_, b2, b3, b4, b5.trans a6, b6.trans a7, a8.trans b7⟩
    have e316 : E (d + 5) 316 [.ref 156, .int (nI (nxF S.length (dsS bk f S) set a S.length 0)), .ref (G 5 f), .int (nI f)] h = some (none, h1) := by
      rw [t_316 hs, ck_ok A.1, al_size hs A, cK_v, t_316_7 hs]; exact a1
    rw [cI_lt h8 n1] at b1
    rw [t_262_29 hs, R.1, if_pos (nI_lt (by omega) (by omega)), cl1, cK_v, t_262_45 hs, nx, e316, cK_n, t_262_96 a2.1, bt_sh _ (by omega), bt_an set (by omega) _ hb8 n2, nI_add]
    exact b1
end WC4
