/-! ===== THE BOOK: the component's steps among the tokens ===== -/
theorem CB.g2 {mI mR : Nat → Nat → Prop} {mO mA : Nat → Prop} {h h' : AH} {b : Nat} {bk : Bk} {G Cp : Nat → Nat → Nat} (B : CB h b bk G Cp) (w : HW h) (g : GF mI mR mO mA h h') (c1 : ∀ k, k ∈ kI → ∀ x, x < gN h → ¬ mI k x) (c2 : ∀ j, j < 4 → ¬ mI 258 (G 7 j) ∧ ¬ mR 257 (G 7 j) ∧ ¬ mO (G 8 j)) (c3 : ∀ k, k ∈ kR → ∀ x, x < gN h → ¬ mR k x) (c4 : ∀ x, idB x → x < gN h → ¬ mA x) : CB h' b bk G Cp := by
  have g0 := g
  obtain ⟨-, g1, g2, g3, g4, g5, g6⟩ := g
  have C : ∀ {x c : Nat}, gC h x = c → c ≠ 0 → gC h' x = c := fun e hc => (g1 _ (w.lt e hc)).1.trans e
  have I : ∀ {x c k : Nat} {v : Int32}, gC h x = c → c ≠ 0 → k ∈ kI → gI h k x = v → gI h' k x = v := fun e hc hk q => (g2 _ _ (w.lt e hc) (c1 _ hk _ (w.lt e hc))).trans q
  have L : ∀ {x c k : Nat} {v : Int64}, gC h x = c → c ≠ 0 → k ∈ kI → gL h k x = v → gL h' k x = v := fun e hc hk q => (g3 _ _ (w.lt e hc) (c1 _ hk _ (w.lt e hc))).trans q
  have R : ∀ {x c k : Nat} {v : Option Nat}, gC h x = c → c ≠ 0 → k ∈ kR → gR h k x = v → gR h' k x = v := fun e hc hk q => (g4 _ _ (w.lt e hc) (c3 _ hk _ (w.lt e hc))).trans q
  have K : ∀ {x c n : Nat}, gC h x = c → c ≠ 0 → gK h x = n → gK h' x = n := fun e hc q => (g1 _ (w.lt e hc)).2.trans q
  have aN : ∀ x l, AN h x l → AN h' x l := fun x l ⟨a1, a2, a3, a4⟩ => ⟨C a1 (by decide), K a1 (by decide) a2, a3, fun i hi => by rw [(g5 x (w.lt a1 (by decide)) (c4 x a3 (w.lt a1 (by decide)))).1]; exact a4 i hi⟩
  obtain ⟨b1, b2, b3, b4, b5, b6, b7, b8⟩ := B
  refine ⟨C b1 (by decide), R b1 (by decide) (by decide) b2, fun j hj => ?_, ?_, fun i hi => ?_, fun p hp => ?_, fun s hS => ?_, fun c hc => ?_⟩
  · obtain ⟨d1, d2⟩ := b3 j hj
    obtain ⟨e1, e2, e3⟩ := c2 j hj
    have hk : 512 + j ∈ kR := by
      have : j = 0 ∨ j = 1 ∨ j = 2 ∨ j = 3 := by omega
      rcases this with rfl | rfl | rfl | rfl <;> decide
    exact ⟨R b1 (by decide) hk d1, d2.gf w g0 e1 e2 e3⟩
  · obtain ⟨d1, d2, d3, d4, d5, d6, d7, d8, d9, d10⟩ := b4
    exact ⟨R b1 (by decide) (by decide) d1, C d2 (by decide), K d2 (by decide) d3, d4, d5, R b1 (by decide) (by decide) d6, C d7 (by decide), K d7 (by decide) d8, I b1 (by decide) (by decide) d9, fun i hi => by rw [(g5 _ (w.lt d2 (by decide)) (c4 _ d4 (w.lt d2 (by decide)))).2, (g5 _ (w.lt d7 (by decide)) (c4 _ d5 (w.lt d7 (by decide)))).2]; exact d10 i hi⟩
  · obtain ⟨d1, d2, d3, d4, d5, d6, d7, d8⟩ := b5 i hi
    exact ⟨C d1 (by decide), L d1 (by decide) (by decide) d2, I d1 (by decide) (by decide) d3, I d1 (by decide) (by decide) d4, I d1 (by decide) (by decide) d5, R d1 (by decide) (by decide) d6, R d1 (by decide) (by decide) d7, aN _ _ d8⟩
  · obtain ⟨d1, d2, d3, d4, d5, d6, d7, d8, d9, d10, d11⟩ := b6 p hp
    exact ⟨C d1 (by decide), I d1 (by decide) (by decide) d2, I d1 (by decide) (by decide) d3, I d1 (by decide) (by decide) d4, I d1 (by decide) (by decide) d5, I d1 (by decide) (by decide) d6, I d1 (by decide) (by decide) d7, I d1 (by decide) (by decide) d8, I d1 (by decide) (by decide) d9, R d1 (by decide) (by decide) d10, aN _ _ d11⟩
  · obtain ⟨d1, d2, d3, d4, d5, d6, d7⟩ := b7 s hS
    obtain ⟨-, i0, -, i0'⟩ := d6 0 (by decide)
    obtain ⟨-, i1, -, i1'⟩ := d6 1 (by decide)
    obtain ⟨-, i2, -, i2'⟩ := d6 2 (by decide)
    obtain ⟨-, i3, -, i3'⟩ := d6 3 (by decide)
    refine ⟨C d1 (by decide), L d1 (by decide) (by decide) d2, I d1 (by decide) (by decide) d3, I d1 (by decide) (by decide) d4, I d1 (by decide) (by decide) d5, fun j hj => ?_, fun k hk => ?_⟩
    · obtain ⟨e1, e2, e3, e4⟩ := d6 j hj
      have hk : 2564 + j ∈ kR := by
        have : j = 0 ∨ j = 1 ∨ j = 2 ∨ j = 3 := by omega
        rcases this with rfl | rfl | rfl | rfl <;> decide
      exact ⟨R d1 (by decide) hk e1, C e2 (by decide), K e2 (by decide) e3, e4⟩
    · rw [(g5 _ (w.lt i0 (by decide)) (c4 _ i0' (w.lt i0 (by decide)))).1, (g5 _ (w.lt i1 (by decide)) (c4 _ i1' (w.lt i1 (by decide)))).1, (g5 _ (w.lt i2 (by decide)) (c4 _ i2' (w.lt i2 (by decide)))).1, (g5 _ (w.lt i3 (by decide)) (c4 _ i3' (w.lt i3 (by decide)))).1]; exact d7 k hk
  · obtain ⟨d1, d2, d3, d4, d5, d6, d7, d8, d9⟩ := b8 c hc
    exact ⟨C d1 (by decide), I d1 (by decide) (by decide) d2, I d1 (by decide) (by decide) d3, I d1 (by decide) (by decide) d4, I d1 (by decide) (by decide) d5, I d1 (by decide) (by decide) d6, I d1 (by decide) (by decide) d7, I d1 (by decide) (by decide) d8, R d1 (by decide) (by decide) d9⟩
/-- new cells from N on, the tape's token, a fault: nothing else -/
def BFr (N : Nat) (h h' : AH) : Prop := GF (fun k x => N ≤ x ∨ 3074 ≤ k ∧ k ≤ 3078 ∨ k = 519) (fun _ x => N ≤ x) (fun x => N ≤ x) (fun x => N ≤ x) h h'
abbrev KTk : List Nat := [519, 3074, 3075, 3076, 3077, 3078]
section BFS
variable {N : Nat} {h h' h'' : AH}
theorem BFr.rfl : BFr N h h := GF.rfl
theorem BFr.trans (a : BFr N h h') (b : BFr N h' h'') : BFr N h h'' := GF.trans a b
theorem BFr.lo {N' : Nat} (a : BFr N h h') (q : N' ≤ N) : BFr N' h h' := GF.wk a (fun k x w => by omega) (fun k x w => by omega) (fun x w => by omega) (fun x w => by omega)
theorem Fr.bf (f : Fr KTk [] h h') : BFr N h h' := by
  obtain ⟨a1, a2, a3, a4, a5, a6, a7, a8, a9⟩ := f
  have n : ∀ k, ¬ (3074 ≤ k ∧ k ≤ 3078 ∨ k = 519) → k ∉ KTk := fun k q w => q (by
    have : ∀ k, k ∈ KTk → (3074 ≤ k ∧ k ≤ 3078 ∨ k = 519) := by decide
    exact this k w)
  refine ⟨⟨by show h.1.1 ≤ h'.1.1; rw [a1]; exact Nat.le_refl _, by show h.1.2 ≤ h'.1.2; rw [a1]; exact Nat.le_refl _⟩, fun x _ => ⟨by rw [a2], by rw [a3]⟩, fun k x _ q => by rw [a6 k (n k fun z => q (Or.inr z))], fun k x _ q => by rw [a7 k (n k fun z => q (Or.inr z))], fun k x _ _ => by rw [a4], fun x _ _ => ⟨by rw [a8 x List.not_mem_nil], by rw [a9 x List.not_mem_nil]⟩, fun x _ _ => by rw [a5]⟩
theorem BFr.nw {c k n : Nat} (a : BFr N h h') : BFr N h (nw h' c k n) := a.trans GF.nw
theorem BFr.sI (a : BFr N h h') {k x : Nat} {v : Int32} (q : N ≤ x) : BFr N h (sI h' k x v) := a.trans (GF.sI (Or.inl q))
theorem BFr.sR (a : BFr N h h') {k x : Nat} {v : Option Nat} (q : N ≤ x) : BFr N h (sR h' k x v) := a.trans (GF.sR q)
theorem BFr.sL (a : BFr N h h') {k x : Nat} {v : Int64} (q : N ≤ x) : BFr N h (sL h' k x v) := a.trans ⟨⟨Nat.le_refl _, Nat.le_refl _⟩, fun _ _ => ⟨Eq.refl _, Eq.refl _⟩, fun _ _ _ _ => Eq.refl _, fun k' x' _ w => by
    by_cases e : k' = k
    · rw [e]
      by_cases e2 : x' = x
      · exact absurd (Or.inl (e2 ▸ q)) w
      · exact up2_x (f := gL h') e2
    · rw [gL_k e], fun _ _ _ _ => Eq.refl _, fun _ _ _ => ⟨Eq.refl _, Eq.refl _⟩, fun _ _ _ => Eq.refl _⟩
theorem BFr.sA (a : BFr N h h') {x i : Nat} {v : Int32} (q : N ≤ x) : BFr N h (sA h' x i v) := a.trans ⟨⟨Nat.le_refl _, Nat.le_refl _⟩, fun _ _ => ⟨Eq.refl _, Eq.refl _⟩, fun _ _ _ _ => Eq.refl _, fun _ _ _ _ => Eq.refl _, fun _ _ _ _ => Eq.refl _, fun x' _ w => ⟨gA_k fun e => w (e ▸ q), Eq.refl _⟩, fun _ _ _ => Eq.refl _⟩
theorem BFr.sB (a : BFr N h h') {x i : Nat} {v : Int64} (q : N ≤ x) : BFr N h (sB h' x i v) := a.trans ⟨⟨Nat.le_refl _, Nat.le_refl _⟩, fun _ _ => ⟨Eq.refl _, Eq.refl _⟩, fun _ _ _ _ => Eq.refl _, fun _ _ _ _ => Eq.refl _, fun _ _ _ _ => Eq.refl _, fun x' _ w => ⟨Eq.refl _, gB_k fun e => w (e ▸ q)⟩, fun _ _ _ => Eq.refl _⟩
theorem BFr.cpA (a : BFr N h h') {x sp y dp n : Nat} (q : N ≤ y) : BFr N h (cpA h' x sp y dp n) := a.trans ⟨⟨Nat.le_refl _, Nat.le_refl _⟩, fun _ _ => ⟨Eq.refl _, Eq.refl _⟩, fun _ _ _ _ => Eq.refl _, fun _ _ _ _ => Eq.refl _, fun _ _ _ _ => Eq.refl _, fun x' _ w => ⟨up1_x fun e => w (e ▸ q), Eq.refl _⟩, fun _ _ _ => Eq.refl _⟩
theorem BFr.gN (a : BFr N h h') : gN h ≤ gN h' ∧ gS h ≤ gS h' := a.1
theorem CB.bf {b : Nat} {bk : Bk} {G Cp : Nat → Nat → Nat} (B : CB h b bk G Cp) (w : HW h) (a : BFr N h h') (hN : Jvm.Pilot.CPostRoomLaw_law_r9321_2ac549.gN h ≤ N) : CB h' b bk G Cp := by
  have hl : ∀ j, j < 4 → G 7 j < Jvm.Pilot.CPostRoomLaw_law_r9321_2ac549.gN h ∧ G 8 j < Jvm.Pilot.CPostRoomLaw_law_r9321_2ac549.gN h := fun j hj => by
    obtain ⟨-, -, b3, -⟩ := B
    have := (b3 j hj).2
    exact ⟨w.lt this.1 (by decide), w.lt this.2.2.1 (by decide)⟩
  refine B.g2 w a (fun k hk x hx q => ?_) (fun j hj => ⟨fun q => ?_, fun q => ?_, fun q => ?_⟩) (fun k hk x hx q => by omega) (fun x _ hx q => by omega)
  · have : ∀ k, k ∈ kI → ¬ (3074 ≤ k ∧ k ≤ 3078 ∨ k = 519) := by decide
    rcases q with q | q
    · omega
    · exact this k hk q
  · have := (hl j hj).1
    rcases q with q | q
    · omega
    · omega
  · have := (hl j hj).1; omega
  · have := (hl j hj).2; omega
end BFS
/-- the component among the tokens: the book b that is read, the token k -/
def CPs (h : AH) (b : Nat) (t : Tp) (k : Nat) : Prop := Sh h ∧ HW h ∧ KS h ∧ CT h t ∧ TkC h (tok t (tkP t k)) ∧ gC h b = 2 ∧ gR h 520 b = some 101
section COP
variable {d : Nat} {h h' : AH} {b : Nat} {t : Tp} {k : Nat}
theorem HW.fr {K X : List Nat} (w : HW h) (f : Fr K X h h') : HW h' := fun x hx => by
  rw [f.2.1]; exact w x (by have : gN h' = gN h := congrArg Prod.fst f.1; omega)
theorem CPs.fr {K : List Nat} (C : CPs h b t k) (f : Fr K [] h h') (hK : ∀ q, q ∈ [3073, 3074, 3075, 3076, 3077, 3078, 3841] → q ∉ K) : CPs h' b t k := by
  obtain ⟨c1, c2, c3, c4, c5, c6, c7⟩ := C
  refine ⟨f.sh c1, c2.fr f, c3.fr f (hK _ (by decide)) (fun x hx => absurd hx List.not_mem_nil), c4.fr f (hK _ (by decide)) List.not_mem_nil, c5.fr f (fun q hq => hK q ?_), by rw [f.2.1]; exact c6, by rw [f.2.2.2.1]; exact c7⟩
  have : ∀ q, q ∈ [3074, 3075, 3076, 3077, 3078] → q ∈ [3073, 3074, 3075, 3076, 3077, 3078, 3841] := by decide
  exact this q hq
theorem CPs.nx (C : CPs h b t k) : ∃ h', E (d + 7) 238 [.ref 101] h = some (none, h') ∧ CPs h' b t (k + 1) ∧ Fr KTk [] h h' ∧ gI h' 519 = gI h 519 := by
  obtain ⟨c1, c2, c3, c4, c5, c6, c7⟩ := C
  obtain ⟨h', a1, a2, a3⟩ := c_nxt (d := d) c1 c3 c4 c5
  exact ⟨h', a1, ⟨a2.sh c1, c2.fr a2, c3.fr a2 (by decide) (fun x hx => absurd hx List.not_mem_nil), c4.fr a2 (by decide) (by decide), a3, by rw [a2.2.1]; exact c6, by rw [a2.2.2.2.1]; exact c7⟩, a2.wk (by decide) (by decide), a2.I (by decide)⟩
theorem c_fail (C : CPs h b t k) {c : Nat} (h0 : 0 < c) : ∃ h', E (d + 1) 237 [.ref b, .int (nI c)] h = some (some (.int (nI 0)), h') ∧ CPs h' b t k ∧ Fr KTk [] h h' ∧ gI h' 519 b = nI (fX t c k) := by
  obtain ⟨c1, c2, c3, c4, c5, c6, c7⟩ := id C
  have F : Fr KTk [] h (sI h 519 b (nI (fX t c k))) := Fr.rfl.sI (by decide)
  have F' : Fr [519] [] h (sI h 519 b (nI (fX t c k))) := Fr.rfl.sI (by decide)
  refine ⟨_, ?_, C.fr F' (by decide), F, gI_s⟩
  rw [t_237 c1, ck_ok c6, c7, Option.bind_some, ck_ok c1.t101.1, ck_ok c6, c5.2.2.2.1, pk_mul, nI_add]; rfl
/-- what a step comes to: the fault c at the token k + 1 -/
def OpR (h h' : AH) (b : Nat) (t : Tp) (k c : Nat) : Prop := CPs h' b t k ∧ Fr KTk [] h h' ∧ gI h' 519 b = if c = 0 then gI h 519 b else nI c
def fm (t : Tp) (k : Nat) : Nat := if tK t k = 2 then 0 else fX t 1 k
abbrev bz (c : Nat) : Int32 := nI (if c = 0 then 1 else 0)
theorem bz_0 : bz 0 = nI 1 := rfl
theorem bz_n {c : Nat} (h : c ≠ 0) : bz c = nI 0 := by unfold bz; rw [b0 h]
theorem tK_b : tK t k < 128 := by
  by_cases q : 4 ≤ tK t k
  · exact ((tV_b (t := t) (k := k)).2.2 q).2
  · omega
theorem c_tNm (C : CPs h b t k) : ∃ h', E (d + 8) 277 [.ref b] h = some (some (.int (bz (fm t (k + 1)))), h') ∧ OpR h h' b t (k + 1) (fm t (k + 1)) := by
  obtain ⟨h1, a1, a2, a3, a4⟩ := C.nx (d := d)
  have c6 := C.2.2.2.2.2.1
  have c7 := C.2.2.2.2.2.2
  have hk := a2.2.2.2.2.1.1
  have tb := tK_b (t := t) (k := k + 1)
  rw [t_277 C.1, ck_ok c6, c7, Option.bind_some, ck_ok C.1.t101.1, a1, cK_n, t_277_7 a2.1, ck_ok a2.2.2.2.2.2.1, a2.2.2.2.2.2.2, Option.bind_some, ck_ok a2.1.t101.1, hk, ife (show (tok t (tkP t (k + 1))).1 < 2 ^ 31 from Nat.lt_trans tb (by decide)) (by decide)]
  unfold fm
  by_cases q : tK t (k + 1) = 2
  · rw [if_pos (show (tok t (tkP t (k + 1))).1 = 2 from q), if_pos q]
    exact ⟨h1, rfl, a2, a3, by rw [if_pos rfl, a4]⟩
  · obtain ⟨h2, b1', b2, b3, b4⟩ := c_fail (d := d + 6) a2 (c := 1) (by decide)
    rw [if_neg (show ¬ (tok t (tkP t (k + 1))).1 = 2 from q), if_neg q, ck_ok a2.2.2.2.2.2.1, b1', cK_v, t_277_23 b2.1, if_pos rfl, bz_n (fX_n (by decide))]
    exact ⟨h2, rfl, b2, a3.trans b3, by rw [if_neg (fX_n (by decide))]; exact b4⟩
theorem c_tNu (C : CPs h b t k) {lo hi : Nat} (hl : lo < 100000) (hh : hi < 100000) : ∃ h', E (d + 8) 280 [.ref b, .int (nI lo), .int (nI hi)] h = some (some (.int (bz (fN t (k + 1) lo hi))), h') ∧ OpR h h' b t (k + 1) (fN t (k + 1) lo hi) := by
  obtain ⟨h1, a1, a2, a3, a4⟩ := C.nx (d := d)
  have c6 := C.2.2.2.2.2.1
  have c7 := C.2.2.2.2.2.2
  have hk := a2.2.2.2.2.1.1
  have tb := tK_b (t := t) (k := k + 1)
  have d6 := a2.2.2.2.2.2.1
  have d7 := a2.2.2.2.2.2.2
  have t1 := a2.1.t101.1
  rw [t_280 C.1, ck_ok c6, c7, Option.bind_some, ck_ok C.1.t101.1, a1, cK_n, t_280_7 a2.1, ck_ok d6, d7, Option.bind_some, ck_ok t1, hk, ife (show (tok t (tkP t (k + 1))).1 < 2 ^ 31 from Nat.lt_trans tb (by decide)) (by decide)]
  unfold fN
  by_cases q : tK t (k + 1) = 3
  · have hv : gI h1 3077 101 = nI (tV t (k + 1)) := a2.2.2.2.2.1.2.1 q
    have vb := (tV_b (t := t) (k := k + 1)).2.1 q
    rw [if_pos (show (tok t (tkP t (k + 1))).1 = 3 from q), if_neg (by rw [q]; decide), ck_ok d6, Option.bind_some, ck_ok t1, hv, ifl (by omega) (by omega)]
    have bad : tV t (k + 1) < lo ∨ hi < tV t (k + 1) → ∃ h', cK (E (d + 7) 237 [.ref b, .int (nI 4)] h1) (Q (d + 7) 280 51 [some (.ref b), none, none]) [] = some (some (.int (bz (fX t 4 (k + 1)))), h') ∧ OpR h h' b t (k + 1) (fX t 4 (k + 1)) := fun _ => by
      obtain ⟨h2, b1', b2, b3, b4⟩ := c_fail (d := d + 6) a2 (c := 4) (by decide)
      rw [b1', cK_v, t_280_51 b2.1, if_pos rfl, bz_n (fX_n (by decide))]
      exact ⟨h2, rfl, b2, a3.trans b3, by rw [if_neg (fX_n (by decide))]; exact b4⟩
    by_cases q1 : tV t (k + 1) < lo
    · rw [if_pos q1, ck_ok d6, if_pos (Or.inl q1)]; exact bad (Or.inl q1)
    · rw [if_neg q1, ck_ok d6, Option.bind_some, ck_ok t1, hv, ifl (by omega) (by omega)]
      by_cases q2 : hi < tV t (k + 1)
      · rw [if_pos q2, ck_ok d6, if_pos (Or.inr q2)]; exact bad (Or.inr q2)
      · rw [if_neg q2, if_neg (by omega)]
        exact ⟨h1, rfl, a2, a3, by rw [if_pos rfl, a4]⟩
  · obtain ⟨h2, b1', b2, b3, b4⟩ := c_fail (d := d + 6) a2 (c := 1) (by decide)
    rw [if_neg (show ¬ (tok t (tkP t (k + 1))).1 = 3 from q), if_pos q, ck_ok d6, b1', cK_v, t_280_23 b2.1, if_pos (by decide), bz_n (fX_n (by decide))]
    exact ⟨h2, rfl, b2, a3.trans b3, by rw [if_neg (fX_n (by decide))]; exact b4⟩
theorem c_tEn (C : CPs h b t k) : ∃ h', E (d + 8) 282 [.ref b] h = some (some (.int (bz (fS t (k + 1) 59))), h') ∧ OpR h h' b t (k + 1) (fS t (k + 1) 59) := by
  obtain ⟨h1, a1, a2, a3, a4⟩ := C.nx (d := d)
  have c6 := C.2.2.2.2.2.1
  have c7 := C.2.2.2.2.2.2
  have hk := a2.2.2.2.2.1.1
  have tb := tK_b (t := t) (k := k + 1)
  rw [t_282 C.1, ck_ok c6, c7, Option.bind_some, ck_ok C.1.t101.1, a1, cK_n, t_282_7 a2.1, ck_ok a2.2.2.2.2.2.1, a2.2.2.2.2.2.2, Option.bind_some, ck_ok a2.1.t101.1, hk, ife (show (tok t (tkP t (k + 1))).1 < 2 ^ 31 from Nat.lt_trans tb (by decide)) (by decide)]
  unfold fS
  by_cases q : tK t (k + 1) = 59
  · rw [if_pos (show (tok t (tkP t (k + 1))).1 = 59 from q), if_pos q]
    exact ⟨h1, rfl, a2, a3, by rw [if_pos rfl, a4]⟩
  · obtain ⟨h2, b1', b2, b3, b4⟩ := c_fail (d := d + 6) a2 (c := 1) (by decide)
    rw [if_neg (show ¬ (tok t (tkP t (k + 1))).1 = 59 from q), if_neg q, ck_ok a2.2.2.2.2.2.1, b1', cK_v, t_282_24 b2.1, if_pos rfl, bz_n (fX_n (by decide))]
    exact ⟨h2, rfl, b2, a3.trans b3, by rw [if_neg (fX_n (by decide))]; exact b4⟩
/-- which word of a string the token is -/
def wI (t : Tp) (k : Nat) (l : List Nat) : Option Nat := if tK t k = 2 then l.findIdx? (fun w => decide (w = tV t k)) else none
theorem c_wI (C : CPs h b t k) {z : Nat} {l : List Nat} (hz : z < 28) (hl : ∀ c, c ∈ chS z → c = 32 ∨ 97 ≤ c) (hw : ∀ v : Int64, wiS v (chS z) 0 0 = l.findIdx? (fun w => decide (lN w = v))) (hb : ∀ w, w ∈ l → w < 37 ^ 12) : E (d + 5) 231 [.ref 101, .ref z] h = some (some (.int (oI (wI t k l))), h) := by
  obtain ⟨c1, c2, c3, c4, c5, c6, c7⟩ := C
  rw [c_wordIn c1 c3 hz hl, c5.1, ife (show (tok t (tkP t k)).1 < 2 ^ 31 from Nat.lt_trans tK_b (by decide)) (by decide)]
  unfold wI
  by_cases q : tK t k = 2
  · have vb := (tV_b (t := t) (k := k)).1 q
    have hv : gL h 3078 101 = lN (tV t k) := c5.2.2.1 q
    rw [if_pos (show (tok t (tkP t k)).1 = 2 from q), if_pos q, hw, hv]
    have e : ∀ l : List Nat, (∀ w, w ∈ l → w < 37 ^ 12) → l.findIdx? (fun w => decide (lN w = lN (tV t k))) = l.findIdx? (fun w => decide (w = tV t k)) := fun l => by
      induction l with
      | nil => intro _; rfl
      | cons a l ih =>
        intro hb
        rw [List.findIdx?_cons, List.findIdx?_cons, ih fun w hw => hb w (List.mem_cons_of_mem _ hw)]
        have : decide (lN a = lN (tV t k)) = decide (a = tV t k) := decide_eq_decide.mpr (pk_lEQ (lt37 (hb a List.mem_cons_self) (by decide)) (lt37 vb (by decide)))
        rw [this]
    rw [e l hb]
  · rw [if_neg (show ¬ (tok t (tkP t k)).1 = 2 from q), if_neg q]; rfl
theorem c_tWd (C : CPs h b t k) {z v : Nat} (hz : z < 28) (hl : ∀ c, c ∈ chS z → c = 32 ∨ 97 ≤ c) (hw : ∀ x : Int64, wiS x (chS z) 0 0 = [v].findIdx? (fun w => decide (lN w = x))) (hb : v < 37 ^ 12) : ∃ h', E (d + 8) 288 [.ref b, .ref z] h = some (some (.int (bz (fW t (k + 1) v))), h') ∧ OpR h h' b t (k + 1) (fW t (k + 1) v) := by
  obtain ⟨h1, a1, a2, a3, a4⟩ := C.nx (d := d)
  have c6 := C.2.2.2.2.2.1
  have c7 := C.2.2.2.2.2.2
  have wi := c_wI (d := d + 2) a2 (z := z) (l := [v]) hz hl hw (fun w hw => by rw [List.mem_singleton.mp hw]; exact hb)
  rw [t_288 C.1, ck_ok c6, c7, Option.bind_some, ck_ok C.1.t101.1, a1, cK_n, t_288_7 a2.1, ck_ok a2.2.2.2.2.2.1, a2.2.2.2.2.2.2, Option.bind_some, ck_ok a2.1.t101.1, wi, cK_v, t_288_15 a2.1]
  unfold fW
  by_cases q : isW t (k + 1) v
  · have e : wI t (k + 1) [v] = some 0 := by
      unfold wI; rw [if_pos q.1, List.findIdx?_cons, decide_eq_true q.2.symm]; rfl
    rw [e, if_pos (show oI (some 0) = nI 0 from rfl), if_pos q]
    exact ⟨h1, rfl, a2, a3, by rw [if_pos rfl, a4]⟩
  · have e : wI t (k + 1) [v] = none := by
      unfold wI
      by_cases q1 : tK t (k + 1) = 2
      · rw [if_pos q1, List.findIdx?_cons, decide_eq_false (fun z => q ⟨q1, z.symm⟩)]; rfl
      · rw [if_neg q1]
    obtain ⟨h2, b1', b2, b3, b4⟩ := c_fail (d := d + 6) a2 (c := 1) (by decide)
    rw [e, if_neg (show ¬ oI none = nI 0 by decide), if_neg q, ck_ok a2.2.2.2.2.2.1, b1', cK_v, t_288_23 b2.1, if_pos rfl, bz_n (fX_n (by decide))]
    exact ⟨h2, rfl, b2, a3.trans b3, by rw [if_neg (fX_n (by decide))]; exact b4⟩
end COP
/-- the packed words of a string -/
def pkW : List Nat → Nat → List Nat
  | [], w => [w]
  | c :: t, w => if c = 32 then w :: pkW t 0 else pkW t (37 * w + (c - 96))
theorem wi_pk {v : Int64} : ∀ (l : List Nat) (i w : Nat), wiS v l i w = ((pkW l w).findIdx? (fun a => decide (lN a = v))).map (fun j => i + j)
  | [], i, w => by
    rw [wiS, pkW, List.findIdx?_cons]
    by_cases q : lN w = v
    · rw [if_pos q, decide_eq_true q]; rfl
    · rw [if_neg q, decide_eq_false q]; rfl
  | c :: t, i, w => by
    rw [wiS, pkW]
    by_cases q : c = 32
    · rw [if_pos q, if_pos q, List.findIdx?_cons]
      by_cases q2 : lN w = v
      · rw [if_pos q2, decide_eq_true q2]; rfl
      · rw [if_neg q2, decide_eq_false q2, wi_pk t (i + 1) 0]
        show _ = Option.map _ (Option.map _ _)
        rw [Option.map_map]
        congr 1
        funext j
        show i + 1 + j = i + (j + 1)
        omega
    · rw [if_neg q, if_neg q]; exact wi_pk t i _
theorem wi_z {z : Nat} {l : List Nat} (h : pkW (chS z) 0 = l) : ∀ v : Int64, wiS v (chS z) 0 0 = l.findIdx? (fun w => decide (lN w = v)) := fun v => by
  rw [wi_pk, h]
  have : (fun j : Nat => 0 + j) = id := by funext j; exact Nat.zero_add j
  rw [this, Option.map_id]; rfl
