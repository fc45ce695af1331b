/-! ===== WALKS: the reference delivers ===== -/
def bcN (s : Nat) : Nat := ((List.range 8).filter fun b => s.testBit b).length
theorem bcN_r : ∀ s, s < 256 → ∀ b, b < 8 → s.testBit b = true → bcN (s - 2 ^ b) + 1 = bcN s := by decide +kernel
theorem bcN_a : ∀ n, n ≤ 8 → bcN (2 ^ n - 1) = n := by decide +kernel
theorem bcN_0 : bcN 0 = 0 := by decide +kernel
section WK5
variable {bk : Bk}
theorem dlS_n {s : St} {i f wh wt k j : Nat} (e : j ≠ i) : iN (dlS bk s i f wh wt) k j = iN s k j := by
  unfold dlS
  rw [(ntS_f (bk := bk) (s := cmS (stH s f ((sH s f).erase i)) i wh f none) i wt f).1]
  exact (cm_n e).1
theorem WS.dv (W : WB bk) {f : Nat} (hf : f < bk 0 0) : ∀ (xs : List Nat) (s : St), WS bk s → xs.Nodup → (∀ i, i ∈ xs → i < zN s 2 ∧ iN s 5 i = 0 ∧ iN s 6 i = f) → WS bk (dvL bk f xs s) ∧ (∀ j, j ∉ xs → ∀ k, iN (dvL bk f xs s) k j = iN s k j) ∧ zN (dvL bk f xs s) 0 = zN s 0 ∧ zN (dvL bk f xs s) 2 = zN s 2
  | [], s, w, _, _ => ⟨w, fun _ _ _ => rfl, rfl, rfl⟩
  | i :: r, s, w, nd, h => by
    obtain ⟨n1, n2⟩ := List.nodup_cons.mp nd
    obtain ⟨i1, i2, i3⟩ := h i List.mem_cons_self
    obtain ⟨d1, d2, d3⟩ := dlS_z (bk := bk) (s := s) (i := i) (f := f) (wh := 3) (wt := 4)
    obtain ⟨a1, a2, a3, a4⟩ := WS.dv W hf r (dlS bk s i f 3 4) (w.dl hf i1 i2 i3 (by decide) (by decide)) n2 (fun j hj => by
      have ne : j ≠ i := fun e => n1 (e ▸ hj)
      rw [d2, dlS_n ne, dlS_n ne]; exact h j (List.mem_cons_of_mem _ hj))
    refine ⟨a1, fun j hj k => ?_, a3.trans d1, a4.trans d2⟩
    have h1 : j ≠ i := fun e => hj (e ▸ List.mem_cons_self)
    have h2 : j ∉ r := fun e => hj (List.mem_cons_of_mem _ e)
    exact (a2 j h2 k).trans (dlS_n h1)
theorem itB_sub : ∀ (l : List Nat) (os : List (Option Nat)) (b : Nat), (itB l os b).Sublist l
  | [], os, b => by cases os <;> exact List.Sublist.refl _
  | i :: l, [], b => List.nil_sublist _
  | i :: l, o :: os, b => by
    unfold itB
    by_cases q : o = some b
    · rw [if_pos q]; exact (itB_sub l os b).cons_cons i
    · rw [if_neg q]; exact (itB_sub l os b).cons i
theorem itB_m : ∀ (l : List Nat) (os : List (Option Nat)) (b i : Nat), i ∈ itB l os b → ∃ k, ∃ hk : k < l.length, l[k] = i ∧ os.getD k none = some b
  | [], os, b, i, h => by cases os <;> cases h
  | j :: l, [], b, i, h => by cases h
  | j :: l, o :: os, b, i, h => by
    unfold itB at h
    by_cases q : o = some b
    · rw [if_pos q] at h
      rcases List.mem_cons.mp h with r | r
      · exact ⟨0, Nat.succ_pos _, r.symm, q⟩
      · obtain ⟨k, hk, e1, e2⟩ := itB_m l os b i r
        exact ⟨k + 1, Nat.succ_lt_succ hk, e1, e2⟩
    · rw [if_neg q] at h
      obtain ⟨k, hk, e1, e2⟩ := itB_m l os b i h
      exact ⟨k + 1, Nat.succ_lt_succ hk, e1, e2⟩
/-- items whose stop is still to come are on the shelf -/
def Rem (f : Nat) (l : List Nat) (os : List (Option Nat)) (set : Nat) (s : St) : Prop := ∀ k (hk : k < l.length) b, os.getD k none = some b → set.testBit b = true → l[k] < zN s 2 ∧ iN s 5 l[k] = 0 ∧ iN s 6 l[k] = f
theorem tb_sub : ∀ s, s < 256 → ∀ b, b < 8 → ∀ c, c < 8 → s.testBit b = true → (s - 2 ^ b).testBit c = (s.testBit c && !(Nat.beq c b)) := by decide +kernel
theorem Rem.st (W : WB bk) {f : Nat} (hf : f < bk 0 0) {l : List Nat} {os : List (Option Nat)} {set b : Nat} {s : St} (R : Rem f l os set s) (w : WS bk s) (nd : l.Nodup) (hset : set < 256) (hb : b < 8) (tb : set.testBit b = true) (h8 : ∀ k c, os.getD k none = some c → c < 8) : Rem f l os (set - 2 ^ b) (dvL bk f (itB l os b) s) ∧ WS bk (dvL bk f (itB l os b) s) ∧ zN (dvL bk f (itB l os b) s) 0 = zN s 0 := by
  have hit : ∀ i, i ∈ itB l os b → i < zN s 2 ∧ iN s 5 i = 0 ∧ iN s 6 i = f := fun i hi => by
    obtain ⟨k, hk, e1, e2⟩ := itB_m l os b i hi
    rw [← e1]; exact R k hk b e2 tb
  obtain ⟨a1, a2, a3, a4⟩ := WS.dv W hf (itB l os b) s w (nd.sublist (itB_sub l os b)) hit
  refine ⟨fun k hk c ec tc => ?_, a1, a3⟩
  have hc := h8 k c ec
  rw [tb_sub set hset b hb c hc tb] at tc
  have t1 : set.testBit c = true := by
    cases h : set.testBit c with
    | true => rfl
    | false => rw [h] at tc; cases tc
  have t2 : c ≠ b := fun e => by
    rw [e, Nat.beq_refl, Bool.not_true, Bool.and_false] at tc; cases tc
  have ni : l[k] ∉ itB l os b := fun hm => by
    obtain ⟨k', hk', e1, e2⟩ := itB_m l os b _ hm
    have := nd_inj nd hk' hk e1
    subst this
    rw [ec] at e2
    exact t2 (Option.some.inj e2)
  rw [a2 _ ni, a2 _ ni, a4]
  exact R k hk c ec t1
end WK5
section WK6
variable {d : Nat} {bk : Bk} {v : Nat}
theorem oI_b {o : Option Nat} {b : Nat} (ho : ∀ k, o = some k → k < 8) (hb : b < 8) : oI o = nI b ↔ o = some b := by
  cases o with
  | none => exact ⟨fun e => absurd e (by have : ∀ j, j < 8 → ¬ (-1 : Int32) = nI j := by decide
                                         exact this b hb), fun e => by cases e⟩
  | some k =>
    have := ho k rfl
    exact ⟨fun e => by rw [(nI_eq (by omega) (by omega)).mp e], fun e => by cases e; rfl⟩
theorem dv_lp (W : WB bk) (hv' : v ≤ 1) {f b : Nat} (hf : f < bk 0 0) (hb : b < 8) {l : List Nat} {os : List (Option Nat)} (hl : l.length ≤ 200) {x4 x6 : Int32} : ∀ (ys : List Nat) (zs : List (Option Nat)) (pre : List Nat) (po : List (Option Nat)) (h : AH) (s : St), pre ++ ys = l → po ++ zs = os → po.length = pre.length → zs.length = ys.length → Sh h → gI h 3597 189 = nI v → RB h v bk → RS h s → WS bk s → ys.Nodup → (∀ i, i ∈ itB ys zs b → i < zN s 2 ∧ iN s 5 i = 0 ∧ iN s 6 i = f) → (∀ k c, os.getD k none = some c → c < 8) → (∀ k (hk : k < l.length), gA h 272 k = nI l[k] ∧ gA h 271 k = oI (os.getD k none)) →
    ∃ h', Q (d + 3) 118 150 [some (.ref 189), some (.int (nI f)), none, some (.int (nI l.length)), some (.int x4), none, some (.int x6), some (.int (nI b)), some (.int (nI pre.length))] [] h = Q (d + 3) 118 75 [some (.ref 189), some (.int (nI f)), none, some (.int (nI l.length)), some (.int (x4 ||| (nI 1 <<< (nI b &&& 31)))), some (.int (nI b)), some (.int (x6 + nI 1)), none, none] [] h' ∧ RS h' (dvL bk f (itB ys zs b) s) ∧ Fr [3678] [248, 249, 250, 253, 254, 255] h h'
  | [], zs, pre, po, h, s, e, eo, el, ez, hs, hN, B, R, w, nd, hi, h8, K => by
    have e : pre = l := by rw [← e, List.append_nil]
    subst e
    refine ⟨h, ?_, ?_, Fr.rfl⟩
    · rw [t_118_150 hs, if_neg (nI_nlt (Nat.le_refl _) (by omega))]
    · have : itB [] zs b = [] := by cases zs <;> rfl
      rw [this]; exact R
  | i :: ys, [], pre, po, h, s, e, eo, el, ez, hs, hN, B, R, w, nd, hi, h8, K => by cases ez
  | i :: ys, o :: zs, pre, po, h, s, e, eo, el, ez, hs, hN, B, R, w, nd, hi, h8, K => by
    have w0 := W.1.1
    obtain ⟨n1, n2⟩ := List.nodup_cons.mp nd
    have ell : pre.length + (ys.length + 1) = l.length := by rw [← e, List.length_append, List.length_cons]
    have hpl : pre.length < l.length := by omega
    have ei : l[pre.length] = i := by
      simp only [← e]
      rw [List.getElem_append_right (Nat.le_refl _)]
      simp
    have eo2 : os.getD pre.length none = o := by
      rw [← eo, List.getD_eq_getElem?_getD, List.getElem?_append_right (by omega), el, Nat.sub_self]; rfl
    obtain ⟨k1, k2⟩ := K pre.length hpl
    rw [ei] at k1
    rw [eo2] at k2
    have ob := oI_b (o := o) (b := b) (fun k q => h8 pre.length k (by rw [eo2]; exact q)) hb
    have ih := dv_lp W hv' (b := b) hf hb (os := os) hl (x4 := x4) (x6 := x6) ys zs (pre ++ [i]) (po ++ [o])
    rw [t_118_150 hs, if_pos (nI_lt hpl (by omega)), gd_nI (by omega) (by decide), ix_nI (by omega), k2]
    simp only [show (oI o = nI b) = (o = some b) from propext ob]
    by_cases q : o = some b
    · have eit : itB (i :: ys) (o :: zs) b = i :: itB ys zs b := if_pos q
      rw [eit] at hi ⊢
      obtain ⟨i1, i2, i3⟩ := hi i List.mem_cons_self
      have hm : i ∈ sH s f := ((w.2.2.2.2.1 f).2 i).mpr ⟨i1, i2, i3⟩
      obtain ⟨p, hp, he⟩ := List.getElem_of_mem hm
      have ee := eraseIdx_of (w.2.2.2.2.1 f).1 hp he
      obtain ⟨h1, b1, b2, b3⟩ := r_unshelve (d := d + 1) hs R w (show f < 16 by omega) hp he
      rw [ee] at b3
      have hs1 := b2.sh hs
      have wi1 : WI bk (stH s f ((sH s f).erase i)) := w.i
      obtain ⟨h2, x1, x2, x3⟩ := r_comes (d := d + 2) (bk := bk) (i := i) (wh := 3) (o := f) (c := none) hs1 b3 wi1 i1
      have hs2 := x2.sh hs1
      have f2 : Fr [] [248, 249, 250, 253, 254, 255] h h2 := (b2.wk (by decide) (by decide)).trans (x2.wk (by decide) (by decide))
      have wi2 : WI bk (cmS (stH s f ((sH s f).erase i)) i 3 f none) := w.i
      obtain ⟨h3, z1, z2, z3⟩ := r_note (d := d + 1) (i := i) (wh := 4) (o := f) hs2 W hv' (by rw [f2.I (by decide)]; exact hN) (B.fr f2 (by decide)) x3 wi2 i1 (by decide) (by omega)
      have hs3 := z2.sh hs2
      have f3 : Fr [3678] [248, 249, 250, 253, 254, 255] h h3 := (f2.wk (by decide) (by decide)).trans (z2.wk (by decide) (by decide))
      obtain ⟨d1, d2, d3⟩ := dlS_z (bk := bk) (s := s) (i := i) (f := f) (wh := 3) (wt := 4)
      have z3 : RS h3 (dlS bk s i f 3 4) := z3
      obtain ⟨h4, y1, y2, y3⟩ := ih h3 (dlS bk s i f 3 4) (by rw [List.append_assoc]; exact e) (by rw [List.append_assoc]; exact eo) (by rw [List.length_append, List.length_append, el]; rfl) (Nat.succ.inj ez) hs3 (by rw [f3.I (by decide)]; exact hN) (B.fr f3 (by decide)) z3 (w.dl hf i1 i2 i3 (by decide) (by decide)) n2 (fun j hj => by
        have ne : j ≠ i := fun q => n1 (q ▸ (itB_sub ys zs b).subset hj)
        rw [d2, dlS_n ne, dlS_n ne]; exact hi j (List.mem_cons_of_mem _ hj)) h8 (fun k hk => by rw [f3.A (by decide), f3.A (by decide)]; exact K k hk)
      refine ⟨h4, ?_, y2, f3.trans y3⟩
      have x1' : E (d + 3) 99 [.ref 189, .int (nI i), .int (nI 3), .int (nI f), .int (-1)] h1 = some (none, h2) := x1
      have k11 : gA h1 272 pre.length = nI i := by rw [b2.A (by decide)]; exact k1
      have k12 : gA h2 272 pre.length = nI i := by rw [f2.A (by decide)]; exact k1
      rw [List.length_append] at y1
      rw [if_pos q, gd_nI (by omega) (by decide), k1, b1, cK_n, t_118_180 hs1, gd_nI (by omega) (by decide), ix_nI (by omega), k11, x1', cK_n, t_118_194 hs2, gd_nI (by omega) (by decide), ix_nI (by omega), k12, z1, cK_n, t_118_207 hs3, nI_add]
      exact y1
    · have eit : itB (i :: ys) (o :: zs) b = itB ys zs b := if_neg q
      rw [eit] at hi ⊢
      obtain ⟨h4, y1, y2, y3⟩ := ih h s (by rw [List.append_assoc]; exact e) (by rw [List.append_assoc]; exact eo) (by rw [List.length_append, List.length_append, el]; rfl) (Nat.succ.inj ez) hs hN B R w n2 hi h8 K
      rw [List.length_append] at y1
      rw [if_neg q, t_118_207 hs, nI_add]
      exact ⟨h4, y1, y2, y3⟩
/-- the next stop is found -/
theorem nx_lp (W : WB bk) {f : Nat} (hf : f < bk 0 0) {S : List (Nat × Nat)} (hS : SB S) {set a L : Nat} {x6 : Int32} (hset : set < 2 ^ S.length) (ha : gdA S.length a) {h : AH} (hs : Sh h) (R : RP h bk f S) (T : TG h S.length (dsS bk f S) (2 ^ S.length)) : ∀ (m b : Nat), b + m = S.length → nxF S.length (dsS bk f S) set a m b < S.length →
    Q (d + 3) 118 87 [some (.ref 189), some (.int (nI f)), none, some (.int (nI L)), some (.int (nI (2 ^ S.length - 1 - set))), some (.int (nI a)), some (.int x6), some (.int (nI b)), none] [] h = Q (d + 3) 118 150 [some (.ref 189), some (.int (nI f)), none, some (.int (nI L)), some (.int (nI (2 ^ S.length - 1 - set))), none, some (.int x6), some (.int (nI (nxF S.length (dsS bk f S) set a m b))), some (.int (nI 0))] [] h
  | 0, b, e, hn => by
    have : nxF S.length (dsS bk f S) set a 0 b = b := rfl
    omega
  | m + 1, b, e, hn => by
    have h8 := hS.1
    have h9 := two8 h8
    have a9 : a < 9 := by unfold gdA at ha; omega
    have hb : b < S.length := by omega
    obtain ⟨c1, c2⟩ := cmpl h8 hset hb
    rw [t_118_87 hs, c1]
    unfold nxF at hn ⊢
    cases hq : set.testBit b with
    | false =>
      rw [hq] at hn
      rw [if_neg (fun w => by cases w.1)] at hn
      rw [if_neg (show ¬ false = true by decide), if_pos rfl, if_neg (fun w => by cases w.1), nI_add]
      exact nx_lp W hf hS hset ha hs R T m (b + 1) (by omega) hn
    | true =>
      rw [hq] at hn
      have h2 : 0 < 2 ^ b := Nat.two_pow_pos b
      have h3 := tb_le hq
      have t1 := T (set - 2 ^ b) (by omega) b (Or.inl hb)
      have t2 := T set hset a ha
      have w1 := wkW_b (D := dsS bk f S) h8 (dsS_b W hf hS) (set - 2 ^ b) (set - 2 ^ b) b (Nat.le_refl _) (by omega)
      have w1' : 10000 * (set - 2 ^ b + 1) ≤ 10000 * 256 := Nat.mul_le_mul_left _ (by omega)
      have w2 := wkW_b (D := dsS bk f S) h8 (dsS_b W hf hS) set set a (Nat.le_refl _) hset
      have w2' : 10000 * (set + 1) ≤ 10000 * 256 := Nat.mul_le_mul_left _ (by omega)
      have hd := dsS_b W hf hS a b
      rw [if_pos (show true = true from rfl), if_neg (show ¬ nI 0 = nI 1 by decide), r_btw hs W hf hS R ha (Or.inl hb), cK_v, t_118_106 hs, c2 hq, pk_mul, nI_add, gd_nI (by omega) (by decide), ix_nI (by omega), t1, nI_add, pk_mul, nI_add, gd_nI (by omega) (by decide), ix_nI (by omega), t2, nI_add]
      simp only [show (nI (dsS bk f S a b + wkW S.length (dsS bk f S) (set - 2 ^ b) b) = nI (wkW S.length (dsS bk f S) set a)) = (dsS bk f S a b + wkW S.length (dsS bk f S) (set - 2 ^ b) b = wkW S.length (dsS bk f S) set a) from propext (nI_eq (by omega) (by omega))]
      by_cases q2 : dsS bk f S a b + wkW S.length (dsS bk f S) (set - 2 ^ b) b = wkW S.length (dsS bk f S) set a
      · rw [if_pos q2, if_pos ⟨trivial, q2⟩]
      · rw [if_neg fun w => q2 w.2] at hn
        rw [if_neg q2, if_neg fun w => q2 w.2]
        exact nx_lp W hf hS hset ha hs R T m (b + 1) (by omega) hn
theorem gw_lp (W : WB bk) (hv' : v ≤ 1) {f : Nat} (hf : f < bk 0 0) {S : List (Nat × Nat)} (hS : SB S) {l : List Nat} {os : List (Option Nat)} (hl : l.length ≤ 200) (nd : l.Nodup) (ho : os.length = l.length) (h8' : ∀ k c, os.getD k none = some c → c < S.length) : ∀ (m k set a : Nat) (h : AH) (s : St), k + m = S.length → set < 2 ^ S.length → bcN set = m → gdA S.length a → Sh h → gI h 3597 189 = nI v → RB h v bk → RS h s → WS bk s → Rem f l os set s → RP h bk f S → TG h S.length (dsS bk f S) (2 ^ S.length) → (∀ k (hk : k < l.length), gA h 272 k = nI l[k] ∧ gA h 271 k = oI (os.getD k none)) →
    ∃ h', Q (d + 3) 118 75 [some (.ref 189), some (.int (nI f)), none, some (.int (nI l.length)), some (.int (nI (2 ^ S.length - 1 - set))), some (.int (nI a)), some (.int (nI k)), none, none] [] h = some (some (.int (nI (wkW S.length (dsS bk f S) (2 ^ S.length - 1) 8))), h') ∧ RS h' (gwF bk f l os S.length (dsS bk f S) m set a s) ∧ WS bk (gwF bk f l os S.length (dsS bk f S) m set a s) ∧ zN (gwF bk f l os S.length (dsS bk f S) m set a s) 0 = zN s 0 ∧ Fr [3678] [248, 249, 250, 253, 254, 255] h h'
  | 0, k, set, a, h, s, e, hset, hbc, ha, hs, hN, B, R, w, Rm, RP', T, K => by
    have h8 := hS.1
    have hpos : 0 < 2 ^ S.length := Nat.two_pow_pos _
    refine ⟨h, ?_, R, w, rfl, Fr.rfl⟩
    have t1 := T (2 ^ S.length - 1) (by omega) 8 (Or.inr rfl)
    rw [show 9 * (2 ^ S.length - 1 - (2 ^ S.length - 1)) + 8 = 8 from by omega] at t1
    rw [t_118_75 hs, RP'.1, if_neg (nI_nlt (by omega) (by omega)), t1]
  | m + 1, k, set, a, h, s, e, hset, hbc, ha, hs, hN, B, R, w, Rm, RP', T, K => by
    have h8 := hS.1
    have h9 := two8 h8
    have h0 : set ≠ 0 := fun q => by rw [q, bcN_0] at hbc; omega
    obtain ⟨n1, n2⟩ := nxF_ok (D := dsS bk f S) (a := a) h8 (dsS_b W hf hS) hset h0
    have nx := nx_lp (d := d) W hf hS (L := l.length) (x6 := nI k) hset ha hs RP' T S.length 0 (by omega) n1
    have hb8 : nxF S.length (dsS bk f S) set a S.length 0 < 8 := by omega
    obtain ⟨q1, q2, q3⟩ := Rm.st W hf w nd (by omega) hb8 n2 (fun k c q => by have := h8' k c q; omega)
    obtain ⟨h1, a1, a2, a3⟩ := dv_lp (d := d) W hv' hf hb8 hl (x4 := nI (2 ^ S.length - 1 - set)) (x6 := nI k) (os := os) l os [] [] h s rfl rfl rfl ho hs hN B R w nd (fun i hi => by
      obtain ⟨k, hk, e1, e2⟩ := itB_m l os _ i hi
      rw [← e1]; exact Rm k hk _ e2 n2) (fun k c q => by have := h8' k c q; omega) K
    have hs1 := a3.sh hs
    have le := tb_le n2
    have hp2 : 0 < 2 ^ nxF S.length (dsS bk f S) set a S.length 0 := Nat.two_pow_pos _
    obtain ⟨h2, b1, b2, b3, b4, b5⟩ := gw_lp W hv' hf hS hl nd ho h8' m (k + 1) (set - 2 ^ nxF S.length (dsS bk f S) set a S.length 0) (nxF S.length (dsS bk f S) set a S.length 0) h1 _ (by omega) (by omega) (by have := bcN_r set (by omega) _ hb8 n2; omega) (Or.inl n1) hs1 (by rw [a3.I (by decide)]; exact hN) (B.fr a3 (by decide)) a2 q2 q1 (RP'.fr a3 (by decide) (by decide) (by decide)) (fun st hst a' ha' => by rw [a3.A (by decide)]; exact T st hst a' ha') (fun k hk => by rw [a3.A (by decide), a3.A (by decide)]; exact K k hk)
    refine ⟨h2, ?_, b2, b3, b4.trans q3, a3.trans b5⟩
    have c2 := (cmpl h8 hset n1).2 n2
    have a1 : Q (d + 3) 118 150 [some (.ref 189), some (.int (nI f)), none, some (.int (nI l.length)), some (.int (nI (2 ^ S.length - 1 - set))), none, some (.int (nI k)), some (.int (nI (nxF S.length (dsS bk f S) set a S.length 0))), some (.int (nI 0))] [] h = _ := a1
    rw [t_118_75 hs, RP'.1, if_pos (nI_lt (by omega) (by omega)), nx, a1, c2, nI_add]
    exact b1
end WK6
