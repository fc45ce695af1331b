/-! ===== MINUTES: what every state keeps to ===== -/
theorem up2_r {α : Type} {f : Nat → Nat → α} {k x : Nat} {v : α} : up2 f k x v k = up1 (f k) x v := if_pos rfl
theorem fm_sub {α β : Type} {f : α → List β} {p : α → Bool} : ∀ l : List α, ((l.filter p).flatMap f).Sublist (l.flatMap f)
  | [] => List.Sublist.refl _
  | a :: l => by
    rw [List.flatMap_cons]
    by_cases q : p a = true
    · rw [List.filter_cons_of_pos q, List.flatMap_cons]
      exact List.Sublist.append (List.Sublist.refl _) (fm_sub l)
    · rw [List.filter_cons_of_neg q]
      exact (fm_sub l).trans (List.sublist_append_right _ _)
theorem stG_id {s : St} {c : Nat} {g : List Nat} (e : sG s c = g) : stG s c g = s := by
  have : up1 (sG s) c g = sG s := funext fun x => by
    by_cases q : x = c
    · rw [q, up1_s, e]
    · rw [up1_x q]
  unfold stG
  rw [this]; rfl
theorem stG_G {s : St} {c : Nat} {g g' : List Nat} : stG (stG s c g) c g' = stG s c g' := by
  have : up1 (up1 (sG s) c g) c g' = up1 (sG s) c g' := funext fun x => by
    by_cases q : x = c
    · rw [q, up1_s, up1_s]
    · rw [up1_x q, up1_x q, up1_x q]
  show (zN s, iN s, iP s, iC s, iM s, sH s, up1 (up1 (sG s) c g) c g', s.2.2.2.2.2.2.2) = _
  rw [this]; rfl
theorem stZ_Z {s : St} {k a b : Nat} : stZ (stZ s k a) k b = stZ s k b := by
  have : up1 (up1 (zN s) k a) k b = up1 (zN s) k b := funext fun x => by
    by_cases q : x = k
    · rw [q, up1_s, up1_s]
    · rw [up1_x q, up1_x q, up1_x q]
  show (up1 (up1 (zN s) k a) k b, s.2) = _
  rw [this]; rfl
theorem zZ {s : St} {a : Nat} : zN (stZ s 0 a) 0 = a := (up1_s : up1 (zN s) 0 a 0 = a)
theorem zZ2 {s : St} {a : Nat} : zN (stZ s 0 a) 2 = zN s 2 := (up1_x (by decide) : up1 (zN s) 0 a 2 = zN s 2)
section MIN2
variable {bk : Bk}
theorem dpJ_G {s : St} {c i : Nat} {l : List Nat} : dpJ bk c (stG s c l) i = stG (dpJ bk c s i) c l := ntS_G (s := stI (cmS s i 2 (bk 26 c) (some c)) 9 i (zN s 0 + bk 30 c)) i 2 (bk 25 c) c l
theorem dpL_G {c : Nat} {g : List Nat} : ∀ (l : List Nat) (s : St), dpL bk c l (stG s c g) = stG (dpL bk c l s) c g
  | [], s => rfl
  | i :: r, s => by
    unfold dpL
    rw [dpJ_G]; exact dpL_G r _
theorem WSc.re {s : St} {rl rl2 : List Nat} (w : WSc bk s rl) (nd : rl2.Nodup) (h : ∀ j, j ∈ rl2 ↔ j ∈ rl) : WSc bk s rl2 := by
  obtain ⟨w1, w2, w3, w4, w5, w6, w7, w10⟩ := w
  exact ⟨w1, w2, w3, w4, w5, w6, ⟨nd, fun j => (h j).trans (w7.2 j)⟩, w10⟩
theorem avL_g {j : Nat} : ∀ (l : List Nat) (s : St), iN s 9 j ≠ zN s 0 → (∀ k, iN (avL bk l s) k j = iN s k j) ∧ iC (avL bk l s) j = iC s j
  | [], s, _ => ⟨fun _ => rfl, rfl⟩
  | i :: r, s, h => by
    unfold avL
    by_cases q : iN s 9 i = zN s 0
    · rw [if_pos q]
      have ne : j ≠ i := fun e => h (e ▸ q)
      obtain ⟨b1, -, -, -, -, -, -, -, -, -, b11, -⟩ := sh_f (bk := bk) (s := s) i (iN s 6 i)
      obtain ⟨a1, a2⟩ := avL_g r (shS bk s i (iN s 6 i)) (by rw [(b1 9 j ne).1, b11]; exact h)
      exact ⟨fun k => (a1 k).trans (b1 k j ne).1, a2.trans (b1 0 j ne).2⟩
    · rw [if_neg q]; exact avL_g r s h
theorem avL_q : ∀ (l : List Nat) (s : St), (∀ i, i ∈ l → iN s 9 i ≠ zN s 0) → avL bk l s = s
  | [], _, _ => rfl
  | i :: r, s, h => by
    unfold avL
    rw [if_neg (h i List.mem_cons_self)]
    exact avL_q r s fun j hj => h j (List.mem_cons_of_mem _ hj)
theorem WSc.ar : ∀ (l : List Nat) (s : St) (rl : List Nat), WSc bk s rl → l.Nodup → (∀ i, i ∈ l → i ∈ rl) → ∃ rl', WSc bk (avL bk l s) rl' ∧ ∀ j, j ∈ rl' ↔ j ∈ rl ∧ ¬ (j ∈ l ∧ iN s 9 j = zN s 0)
  | [], s, rl, w, _, _ => ⟨rl, w, fun j => ⟨fun q => ⟨q, fun r => absurd r.1 List.not_mem_nil⟩, fun q => q.1⟩⟩
  | i :: r, s, rl, w, nd, h => by
    obtain ⟨n1, n2⟩ := List.nodup_cons.mp nd
    unfold avL
    have hi := h i List.mem_cons_self
    have hlt := (w.2.2.2.2.2.2.1.2 i).mp hi
    by_cases q : iN s 9 i = zN s 0
    · rw [if_pos q]
      obtain ⟨b1, b2, -, -, -, -, -, -, -, -, b11, -⟩ := sh_f (bk := bk) (s := s) i (iN s 6 i)
      have nr := w.2.2.2.2.2.2.1.1
      obtain ⟨rl', a1, a2⟩ := WSc.ar r (shS bk s i (iN s 6 i)) (rl.erase i) (w.sh hi (w.2.2.2.1 i hlt.1).2.2.2.2.2.2.2.2.1) n2 (fun j hj => nr.mem_erase_iff.mpr ⟨fun e => n1 (e ▸ hj), h j (List.mem_cons_of_mem _ hj)⟩)
      refine ⟨rl', a1, fun j => ?_⟩
      rw [a2 j, nr.mem_erase_iff, b11, List.mem_cons]
      by_cases e : j = i
      · subst e
        exact ⟨fun x => absurd rfl x.1.1, fun x => absurd ⟨Or.inl rfl, q⟩ x.2⟩
      · rw [(b1 9 j e).1]
        exact ⟨fun x => ⟨x.1.2, fun y => x.2 ⟨y.1.resolve_left e, y.2⟩⟩, fun x => ⟨⟨e, x.1⟩, fun y => x.2 ⟨Or.inr y.1, y.2⟩⟩⟩
    · rw [if_neg q]
      obtain ⟨rl', a1, a2⟩ := WSc.ar r s rl w n2 (fun j hj => h j (List.mem_cons_of_mem _ hj))
      refine ⟨rl', a1, fun j => ?_⟩
      rw [a2 j, List.mem_cons]
      by_cases e : j = i
      · subst e
        exact ⟨fun x => ⟨x.1, fun y => q y.2⟩, fun x => ⟨x.1, fun y => q y.2⟩⟩
      · exact ⟨fun x => ⟨x.1, fun y => x.2 ⟨y.1.resolve_left e, y.2⟩⟩, fun x => ⟨x.1, fun y => x.2 ⟨Or.inr y.1, y.2⟩⟩⟩
/-- those that are due have come -/
theorem WS.ar {s : St} (w : WSc bk s (rid s)) (t : TrC bk s (sT s)) : WS bk (avS bk s) ∧ zN (avS bk s) 0 = zN s 0 ∧ zN (avS bk s) 2 = zN s 2 ∧ sT (avS bk s) = (sT s).filter (fun t => decide (t.2.1 ≠ zN s 0)) := by
  obtain ⟨f1, f2, f3, f4, f5, f6, f7, f8⟩ := avL_f (bk := bk) (rid s) s
  obtain ⟨rl', a1, a2⟩ := WSc.ar (rid s) s (rid s) w w.2.2.2.2.2.2.1.1 (fun _ q => q)
  have er : rid (avS bk s) = ((sT s).filter (fun t => decide (t.2.1 ≠ zN s 0))).flatMap fun t => t.2.2 := rfl
  refine ⟨WS.of (WSc.re (rl := rl') (a1.T _) ?_ fun j => ?_) ⟨fun x hx => ?_, ?_⟩ fun x hx => ?_, f5, f6, rfl⟩
  · rw [er]; exact w.2.2.2.2.2.2.1.1.sublist (fm_sub _)
  · rw [er, a2 j, List.mem_flatMap]
    constructor
    · rintro ⟨x, hx, hj⟩
      obtain ⟨x1, x2⟩ := List.mem_filter.mp hx
      have hr : j ∈ rid s := List.mem_flatMap.mpr ⟨x, x1, hj⟩
      refine ⟨hr, fun y => ?_⟩
      have := ((t.1 x x1).2.2.2.2.2 j hj).2.1
      exact (of_decide_eq_true x2) (this.symm.trans y.2)
    · rintro ⟨hr, y⟩
      obtain ⟨x, x1, hj⟩ := List.mem_flatMap.mp hr
      refine ⟨x, List.mem_filter.mpr ⟨x1, decide_eq_true fun e => y ⟨hr, ?_⟩⟩, hj⟩
      rw [((t.1 x x1).2.2.2.2.2 j hj).2.1, e]
  · obtain ⟨x1, x2⟩ := List.mem_filter.mp (show x ∈ (sT s).filter (fun t => decide (t.2.1 ≠ zN s 0)) from hx)
    obtain ⟨b1, b2, b3, b4, b5, b6⟩ := t.1 x x1
    refine ⟨b1, ?_, ?_, b4, b5, fun j hj => ?_⟩
    · show zN (avL bk (rid s) s) 0 ≤ _
      rw [f5]; exact b2
    · show _ ≤ zN (avL bk (rid s) s) 0 + _
      rw [f5]; exact b3
    · obtain ⟨c1, c2, c3⟩ := b6 j hj
      obtain ⟨g1, g2⟩ := avL_g (bk := bk) (j := j) (rid s) s (by rw [c2]; exact of_decide_eq_true x2)
      exact ⟨g2.trans c1, (g1 9).trans c2, (g1 6).trans c3⟩
  · exact t.2.sublist (List.filter_sublist)
  · obtain ⟨x1, x2⟩ := List.mem_filter.mp (show x ∈ (sT s).filter (fun t => decide (t.2.1 ≠ zN s 0)) from hx)
    have b2 := (t.1 x x1).2.1
    have := of_decide_eq_true x2
    show zN (avL bk (rid s) s) 0 < _
    rw [f5]; omega
theorem WSc.dL (W : WB bk) {c : Nat} (hc : c < bk 0 3) {g : List Nat} : ∀ (l : List Nat) (s : St) (rl : List Nat), WSc bk s rl → sG s c = l ++ g → WSc bk (stG (dpL bk c l s) c g) (rl ++ l)
  | [], s, rl, w, e => by
    rw [List.append_nil]
    show WSc bk (stG s c g) rl
    rw [stG_id (show sG s c = g from e)]; exact w
  | i :: r, s, rl, w, e => by
    have a := WSc.dL W hc r (stG (dpJ bk c s i) c (r ++ g)) (rl ++ [i]) (w.dp W hc e) up1_s
    rw [dpL_G, stG_G, List.append_assoc] at a
    exact a
theorem WS.dp (W : WB bk) {s : St} (w : WS bk s) {c : Nat} (hc : c < bk 0 3) (hg : sG s c ≠ []) (hl : ∀ t, t ∈ sT s → t.1 = c → t.2.1 < zN s 0 + bk 30 c) : WS bk (dpS bk c s) ∧ zN (dpS bk c s) 0 = zN s 0 ∧ zN (dpS bk c s) 2 = zN s 2 ∧ (∀ c', c' ≠ c → sG (dpS bk c s) c' = sG s c') ∧ sT (dpS bk c s) = sT s ++ [(c, zN s 0 + bk 30 c, (sG s c).take (bk 31 c))] := by
  obtain ⟨w1, w2, w3⟩ := w.c
  obtain ⟨-, -, -, -, -, -, u7, u8, u9, u10⟩ := W.2.2.2.2.2 c hc
  obtain ⟨f1, f0, f2, f3, f4, f5, f6, f7, f8, f9⟩ := dpL_f (bk := bk) (c := c) ((sG s c).take (bk 31 c)) s
  have nd : ((sG s c).take (bk 31 c)).Nodup := (w1.2.2.2.2.2.1 c).1.sublist (List.take_sublist _ _)
  have er : rid (dpS bk c s) = rid s ++ (sG s c).take (bk 31 c) := by
    show (sT s ++ [(c, zN s 0 + bk 30 c, (sG s c).take (bk 31 c))]).flatMap (fun t => t.2.2) = _
    rw [List.flatMap_append]
    show rid s ++ ((sG s c).take (bk 31 c) ++ []) = _
    rw [List.append_nil]
  have ni : ∀ t, t ∈ sT s → ∀ j, j ∈ t.2.2 → j ∉ (sG s c).take (bk 31 c) := fun t ht j hj hm => by
    have h1 := ((w1.2.2.2.2.2.2.1.2 j).mp (List.mem_flatMap.mpr ⟨t, ht, hj⟩)).2
    have h2 := (((w1.2.2.2.2.2.1 c).2 j).mp (List.mem_of_mem_take hm)).2.1
    omega
  refine ⟨WS.of ?_ ⟨fun t ht => ?_, ?_⟩ fun t ht => ?_, f6, f7, fun c' q => ?_, rfl⟩
  · rw [er]
    exact (WSc.dL W hc ((sG s c).take (bk 31 c)) s (rid s) w1 (List.take_append_drop _ _).symm).T _
  · show t.1 < bk 0 3 ∧ zN (dpL bk c ((sG s c).take (bk 31 c)) s) 0 ≤ t.2.1 ∧ t.2.1 ≤ zN (dpL bk c ((sG s c).take (bk 31 c)) s) 0 + bk 30 t.1 ∧ 1 ≤ t.2.2.length ∧ t.2.2.length ≤ 20 ∧ ∀ i, i ∈ t.2.2 → iC (dpL bk c ((sG s c).take (bk 31 c)) s) i = some t.1 ∧ iN (dpL bk c ((sG s c).take (bk 31 c)) s) 9 i = t.2.1 ∧ iN (dpL bk c ((sG s c).take (bk 31 c)) s) 6 i = bk 26 t.1
    rw [f6]
    rcases List.mem_append.mp (show t ∈ sT s ++ [(c, zN s 0 + bk 30 c, (sG s c).take (bk 31 c))] from ht) with q | q
    · obtain ⟨b1, b2, b3, b4, b5, b6⟩ := w2.1 t q
      refine ⟨b1, b2, b3, b4, b5, fun j hj => ?_⟩
      have := ni t q j hj
      rw [(f1 9 j this).1, (f1 6 j this).1, (f1 0 j this).2]
      exact b6 j hj
    · rw [List.mem_singleton] at q
      subst q
      refine ⟨hc, by dsimp only; omega, by dsimp only; omega, ?_, ?_, fun j hj => f0 nd j hj⟩
      · show 1 ≤ ((sG s c).take (bk 31 c)).length
        rw [List.length_take]
        have := List.length_pos_iff.mpr hg
        omega
      · show ((sG s c).take (bk 31 c)).length ≤ 20
        rw [List.length_take]; omega
  · show (sT s ++ [(c, zN s 0 + bk 30 c, (sG s c).take (bk 31 c))]).Pairwise _
    refine List.pairwise_append.mpr ⟨w2.2, List.pairwise_singleton _ _, fun a ha b hb => ?_⟩
    rw [List.mem_singleton] at hb
    subst hb
    by_cases e : a.1 = c
    · have := hl a ha e
      exact Or.inr (by dsimp only; omega)
    · exact Or.inl e
  · show zN (dpL bk c ((sG s c).take (bk 31 c)) s) 0 < t.2.1
    rw [f6]
    rcases List.mem_append.mp (show t ∈ sT s ++ [(c, zN s 0 + bk 30 c, (sG s c).take (bk 31 c))] from ht) with q | q
    · exact w3 t q
    · rw [List.mem_singleton] at q
      subst q
      dsimp only; omega
  · show up1 (sG (dpL bk c ((sG s c).take (bk 31 c)) s)) c _ c' = _
    rw [up1_x q, f3]
theorem WS.gc (W : WB bk) {s : St} (w : WS bk s) {c : Nat} (hc : c < bk 0 3) (hl : ∀ t, t ∈ sT s → c ≤ t.1 → t.2.1 < zN s 0 + bk 30 t.1) : WS bk (gcS bk c s) ∧ zN (gcS bk c s) 0 = zN s 0 ∧ zN (gcS bk c s) 2 = zN s 2 ∧ (∀ t, t ∈ sT (gcS bk c s) → c + 1 ≤ t.1 → t.2.1 < zN s 0 + bk 30 t.1) := by
  unfold gcS
  by_cases q : sG s c ≠ [] ∧ tbC bk c (zN s 0 - 1) = zN s 0
  · rw [if_pos q]
    obtain ⟨a1, a2, a3, a4, a5⟩ := w.dp W hc q.1 (fun t ht e => by have := hl t ht (by omega); rw [e] at this; exact this)
    refine ⟨a1, a2, a3, fun t ht e => ?_⟩
    rw [a5] at ht
    rcases List.mem_append.mp ht with r | r
    · exact hl t r (by omega)
    · rw [List.mem_singleton] at r
      subst r
      dsimp only at e; omega
  · rw [if_neg q]
    exact ⟨w, rfl, rfl, fun t ht e => hl t ht (by omega)⟩
theorem WS.gF (W : WB bk) : ∀ (m c : Nat) (s : St), c + m = bk 0 3 → WS bk s → (∀ t, t ∈ sT s → c ≤ t.1 → t.2.1 < zN s 0 + bk 30 t.1) → WS bk (goF bk m c s) ∧ zN (goF bk m c s) 0 = zN s 0 ∧ zN (goF bk m c s) 2 = zN s 2
  | 0, _, s, _, w, _ => ⟨w, rfl, rfl⟩
  | m + 1, c, s, e, w, hl => by
    obtain ⟨a1, a2, a3, a4⟩ := w.gc W (show c < bk 0 3 by omega) hl
    obtain ⟨b1, b2, b3⟩ := WS.gF W m (c + 1) (gcS bk c s) (by omega) a1 (fun t ht q => by rw [a2]; exact a4 t ht q)
    exact ⟨b1, b2.trans a2, b3.trans a3⟩
/-- the clock goes on by one: nothing is late -/
theorem WS.z {s : St} (w : WS bk s) {n : Nat} (hn : n < 2 ^ 29) (h0 : zN s 0 < n) (hd : ∀ t, t ∈ sT s → n ≤ t.2.1) : WSc bk (stZ s 0 n) (rid (stZ s 0 n)) ∧ TrC bk (stZ s 0 n) (sT (stZ s 0 n)) ∧ ∀ t, t ∈ sT (stZ s 0 n) → t.2.1 < n + bk 30 t.1 := by
  obtain ⟨w1, w2, w3⟩ := w.c
  obtain ⟨v1, v2, v3, v4, v5⟩ := w1
  refine ⟨⟨v1, by rw [zZ]; exact hn, v3, fun i hi => ?_, v5⟩, ⟨fun t ht => ?_, w2.2⟩, fun t ht => ?_⟩
  · obtain ⟨a1, a2, a3, a4, a5, a6, a7, a8, a9, a10, a11, a12⟩ := v4 i hi
    exact ⟨a1, a2, a3, a4, a5, a6, a7, a8, a9, a10, by rw [zZ]; show iN s 8 i ≤ n; omega, a12⟩
  · obtain ⟨b1, b2, b3, b4⟩ := w2.1 t ht
    have := hd t ht
    exact ⟨b1, by rw [zZ]; exact this, by rw [zZ]; omega, b4⟩
  · have := (w2.1 t ht).2.2.1
    omega
theorem WS.mn (W : WB bk) {s : St} (w : WS bk s) (h0 : zN s 0 + 1 < 2 ^ 29) : WS bk (mnS bk s) ∧ zN (mnS bk s) 0 = zN s 0 + 1 ∧ zN (mnS bk s) 2 = zN s 2 := by
  obtain ⟨a1, a2, a3⟩ := w.z h0 (by omega) (fun t ht => w.c.2.2 t ht)
  obtain ⟨b1, b2, b3, b4⟩ := WS.ar a1 a2
  rw [zZ] at b2
  obtain ⟨c1, c2, c3⟩ := WS.gF W (bk 0 3) 0 (avS bk (stZ s 0 (zN s 0 + 1))) (by omega) b1 (fun t ht _ => by
    rw [b4] at ht
    rw [b2]
    exact a3 t (List.mem_filter.mp ht).1)
  exact ⟨c1, c2.trans b2, c3.trans (b3.trans zZ2)⟩
theorem WS.tk (W : WB bk) : ∀ (n : Nat) (s : St), WS bk s → zN s 0 + n < 2 ^ 29 → WS bk (tmnS bk n s) ∧ zN (tmnS bk n s) 0 = zN s 0 + n ∧ zN (tmnS bk n s) 2 = zN s 2
  | 0, s, w, _ => ⟨w, rfl, rfl⟩
  | n + 1, s, w, h => by
    obtain ⟨a1, a2, a3⟩ := w.mn W (by omega)
    obtain ⟨b1, b2, b3⟩ := WS.tk W n (mnS bk s) a1 (by omega)
    exact ⟨b1, by rw [show tmnS bk (n + 1) s = tmnS bk n (mnS bk s) from rfl]; omega, b3.trans a3⟩
/-- a minute in which nothing happens -/
theorem goF_q : ∀ (m c : Nat) (s : St), c + m = bk 0 3 → (∀ c, c < bk 0 3 → sG s c ≠ [] → tbC bk c (zN s 0 - 1) ≠ zN s 0) → goF bk m c s = s
  | 0, _, _, _, _ => rfl
  | m + 1, c, s, e, h => by
    have : gcS bk c s = s := if_neg fun q => h c (by omega) q.1 q.2
    unfold goF
    rw [this]; exact goF_q m (c + 1) s (by omega) h
theorem mn_q {s : St} (hd : ∀ t, t ∈ sT s → ∀ i, i ∈ t.2.2 → iN s 9 i = t.2.1) (h1 : ∀ t, t ∈ sT s → t.2.1 ≠ zN s 0 + 1) (h2 : ∀ c, c < bk 0 3 → sG s c ≠ [] → tbC bk c (zN s 0) ≠ zN s 0 + 1) : mnS bk s = stZ s 0 (zN s 0 + 1) := by
  have e1 : avS bk (stZ s 0 (zN s 0 + 1)) = stZ s 0 (zN s 0 + 1) := by
    unfold avS
    rw [avL_q _ _ fun i hi => by
      rw [zZ]
      obtain ⟨t, ht, hj⟩ := List.mem_flatMap.mp hi
      show iN s 9 i ≠ zN s 0 + 1
      rw [hd t ht i hj]; exact h1 t ht]
    rw [List.filter_eq_self.mpr fun t ht => decide_eq_true (by rw [zZ]; exact h1 t ht)]
    rfl
  unfold mnS
  rw [e1]
  exact goF_q _ _ _ (by omega) fun c hc hg => by
    rw [zZ]; exact h2 c hc hg
theorem tmn_q (W : WB bk) : ∀ (k : Nat) (s : St), (∀ t, t ∈ sT s → ∀ i, i ∈ t.2.2 → iN s 9 i = t.2.1) → (∀ t, t ∈ sT s → zN s 0 + k < t.2.1) → (∀ c, c < bk 0 3 → sG s c ≠ [] → zN s 0 + k < tbC bk c (zN s 0)) → tmnS bk k s = stZ s 0 (zN s 0 + k)
  | 0, s, _, _, _ => by
    have : up1 (zN s) 0 (zN s 0) = zN s := funext fun x => by
      by_cases q : x = 0
      · rw [q, up1_s]
      · rw [up1_x q]
    show s = (up1 (zN s) 0 (zN s 0), s.2)
    rw [this]; rfl
  | k + 1, s, hd, h1, h2 => by
    have e := mn_q (bk := bk) hd (fun t ht => by have := h1 t ht; omega) (fun c hc hg => by have := h2 c hc hg; omega)
    unfold tmnS
    rw [e, tmn_q W k (stZ s 0 (zN s 0 + 1)) hd (fun t ht => by rw [zZ]; have := h1 t ht; omega) (fun c hc hg => by
      rw [zZ]
      have h3 := h2 c hc hg
      obtain ⟨-, -, u3, u4, u5, -⟩ := W.2.2.2.2.2 c hc
      unfold tbC at h3 ⊢
      rw [tbS_step u5 u4 u3 (by omega)]; omega), stZ_Z, zZ]
    rw [show zN s 0 + 1 + k = zN s 0 + (k + 1) from by omega]
theorem tmnS_add : ∀ (a b : Nat) (s : St), tmnS bk (a + b) s = tmnS bk b (tmnS bk a s)
  | 0, b, s => by rw [Nat.zero_add]; rfl
  | a + 1, b, s => by
    rw [show a + 1 + b = (a + b) + 1 from by omega]
    exact tmnS_add a b (mnS bk s)
end MIN2
