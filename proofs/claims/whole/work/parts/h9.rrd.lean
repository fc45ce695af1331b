/-! ===== read AS A CALL (reference) ===== -/
def tvJ (t : Tp) (p : Nat) : Nat → Nat
  | 0 => 0
  | j + 1 => 4 * tvJ t p j + (if t.2 (3 * p + j) = 63 then 0 else t.2 (3 * p + j) - 48)
theorem tv_3 {t : Tp} {p : Nat} (h : uB t p = false) : tvJ t p 3 = sgT t p := by
  obtain ⟨n1, n2, n3⟩ := uB_f.mp h
  unfold sgT
  rw [h, if_neg (by decide)]
  show 4 * (4 * (4 * 0 + (if t.2 (3 * p + 0) = 63 then 0 else t.2 (3 * p + 0) - 48)) + (if t.2 (3 * p + 1) = 63 then 0 else t.2 (3 * p + 1) - 48)) + (if t.2 (3 * p + 2) = 63 then 0 else t.2 (3 * p + 2) - 48) = _
  rw [if_neg n3, if_neg n2, if_neg (show ¬ t.2 (3 * p + 0) = 63 from n1)]
  show 4 * (4 * (4 * 0 + (t.2 (3 * p) - 48)) + (t.2 (3 * p + 1) - 48)) + (t.2 (3 * p + 2) - 48) = _
  omega
theorem tv_b {t : Tp} {p : Nat} (h : isB t) (hp : p < 11) : ∀ j, j ≤ 3 → tvJ t p j < 4 ^ j
  | 0, _ => show 0 < 1 by decide
  | j + 1, hj => by
    have a := tv_b h hp j (by omega)
    have b := h.2 (3 * p + j) (by omega)
    unfold tvJ
    rw [Nat.pow_succ]
    split <;> omega
section RRD
variable {d : Nat} {t : Tp}
/-- told signs, and which are told -/
def RTo (h : AH) (t : Tp) : Prop := (∀ p, p < 11 → gA h 241 p = nI (if uB t p then 0 else 1)) ∧ ∀ p, p < 11 → uB t p = false → gA h 240 p = nI (sgT t p)
theorem RTo.fr {K X : List Nat} {h h' : AH} (a : RTo h t) (f : Fr K X h h') (h1 : 240 ∉ X) (h2 : 241 ∉ X) : RTo h' t := by
  unfold RTo at a ⊢; rw [f.A h1, f.A h2]; exact a
theorem r_tb1 {h : AH} (hs : Sh h) (T : RTk h t) (h33 : t.1 = 33) : ∀ (r k : Nat), r + k = 33 → ((∀ i, k ≤ i → i < 33 → t.2 i = 63 ∨ 48 ≤ t.2 i ∧ t.2 i ≤ 51) → Q d 93 17 [some (.ref 189), some (.int (nI 1)), some (.int (nI k)), none] [] h = Q d 93 74 [some (.ref 189), some (.int (nI 1)), some (.int (nI 0)), none] [] h) ∧ ((¬ ∀ i, k ≤ i → i < 33 → t.2 i = 63 ∨ 48 ≤ t.2 i ∧ t.2 i ≤ 51) → Q d 93 17 [some (.ref 189), some (.int (nI 1)), some (.int (nI k)), none] [] h = Q d 93 74 [some (.ref 189), some (.int (nI 0)), some (.int (nI 0)), none] [] h)
  | 0, k, e => ⟨fun _ => by rw [t_93_17 hs, if_neg (nI_nlt (by omega) (by omega))], fun q => absurd (fun i h1 h2 => by omega) q⟩
  | r + 1, k, e => by
    have hk : k < 33 := by omega
    obtain ⟨i1, i2⟩ := r_tb1 hs T h33 r (k + 1) (by omega)
    obtain ⟨tk, tb⟩ := T.2.2 k (by omega)
    have z17 : Q d 93 17 [some (.ref 189), some (.int (nI 0)), some (.int (nI (k + 1))), none] [] h = Q d 93 74 [some (.ref 189), some (.int (nI 0)), some (.int (nI 0)), none] [] h := by
      rw [t_93_17 hs]
      by_cases q : k + 1 < 33
      · rw [if_pos (nI_lt q (by decide)), if_pos rfl]
      · rw [if_neg (nI_nlt (by omega) (by omega))]
    have st : Q d 93 17 [some (.ref 189), some (.int (nI 1)), some (.int (nI k)), none] [] h = if t.2 k = 63 ∨ 48 ≤ t.2 k ∧ t.2 k ≤ 51 then Q d 93 17 [some (.ref 189), some (.int (nI 1)), some (.int (nI (k + 1))), none] [] h else Q d 93 74 [some (.ref 189), some (.int (nI 0)), some (.int (nI 0)), none] [] h := by
      have g : ∀ x, gd (nI k) 4000 x = x := fun x => gd_nI (by omega) (by decide)
      rw [t_93_17 hs, if_pos (nI_lt hk (by decide)), if_neg (by decide)]
      simp only [g]
      rw [ix_nI (by omega), tk, nI_add, z17]
      simp only [show (nI (t.2 k) = nI 63) = (t.2 k = 63) from propext (nI_eq (by omega) (by decide)), show (nI (t.2 k) < nI 48) = (t.2 k < 48) from propext (nI_ltI (by omega) (by decide)), show (nI 51 < nI (t.2 k)) = (51 < t.2 k) from propext (nI_ltI (by decide) (by omega))]
      by_cases q : t.2 k = 63
      · rw [if_pos (show t.2 k = 63 ∨ 48 ≤ t.2 k ∧ t.2 k ≤ 51 from Or.inl q), if_neg (show ¬ t.2 k < 48 by omega), if_pos (show 51 < t.2 k by omega), if_pos q]
      · by_cases q1 : t.2 k < 48
        · rw [if_pos q1, if_neg q, if_neg (by omega)]
        · rw [if_neg q1]
          by_cases q2 : 51 < t.2 k
          · rw [if_pos q2, if_neg q, if_neg (by omega)]
          · rw [if_neg q2, if_pos (show t.2 k = 63 ∨ 48 ≤ t.2 k ∧ t.2 k ≤ 51 by omega)]
    rw [st]
    by_cases q : t.2 k = 63 ∨ 48 ≤ t.2 k ∧ t.2 k ≤ 51
    · rw [if_pos q]
      refine ⟨fun z => i1 fun i h1 h2 => z i (by omega) h2, fun z => i2 fun z' => z fun i h1 h2 => ?_⟩
      by_cases w : i = k
      · rw [w]; exact q
      · exact z' i (by omega) h2
    · rw [if_neg q]
      exact ⟨fun z => absurd (z k (Nat.le_refl _) hk) q, fun _ => rfl⟩
theorem r_tb2 (hB : isB t) {p : Nat} (hp : p < 11) : ∀ (r j : Nat) {h : AH}, r + j = 3 → Sh h → RTk h t → gA h 241 p = nI (if uvJ t p j then 0 else 1) → gA h 240 p = nI (tvJ t p j) → ∃ h', Q d 93 102 [some (.ref 189), some (.int (nI 1)), some (.int (nI p)), some (.int (nI (3 * p + j)))] [] h = Q d 93 74 [some (.ref 189), some (.int (nI 1)), some (.int (nI (p + 1))), none] [] h' ∧ Fr [] [240, 241] h h' ∧ (∀ q, q ≠ p → gA h' 240 q = gA h 240 q ∧ gA h' 241 q = gA h 241 q) ∧ gA h' 241 p = nI (if uvJ t p 3 then 0 else 1) ∧ gA h' 240 p = nI (tvJ t p 3)
  | 0, j, h, e, hs, T, A1, A0 => by
    have : j = 3 := by omega
    subst this
    refine ⟨h, ?_, Fr.rfl, fun _ _ => ⟨rfl, rfl⟩, A1, A0⟩
    rw [t_93_102 hs, pk_mul, nI_add, if_neg (nI_nlt (by omega) (by omega)), nI_add]
  | r + 1, j, h, e, hs, T, A1, A0 => by
    have hj : j < 3 := by omega
    have h33 := hB.1
    obtain ⟨tk, tb⟩ := T.2.2 (3 * p + j) (by omega)
    have vb := hB.2 (3 * p + j) (by omega)
    obtain ⟨h1, h1E⟩ : ∃ g, g = sA (sA h 241 p (nI (if uvJ t p (j + 1) then 0 else 1))) 240 p (nI (tvJ t p (j + 1))) := ⟨_, rfl⟩
    have f1 : Fr [] [240, 241] h h1 := by rw [h1E]; exact (Fr.rfl.sA (by decide)).sA (by decide)
    have st : Q d 93 102 [some (.ref 189), some (.int (nI 1)), some (.int (nI p)), some (.int (nI (3 * p + j)))] [] h = Q d 93 102 [some (.ref 189), some (.int (nI 1)), some (.int (nI p)), some (.int (nI (3 * p + (j + 1))))] [] h1 := by
      have e1 : uvJ t p (j + 1) = (uvJ t p j || decide (t.2 (3 * p + j) = 63)) := rfl
      have e2 : tvJ t p (j + 1) = 4 * tvJ t p j + (if t.2 (3 * p + j) = 63 then 0 else t.2 (3 * p + j) - 48) := rfl
      have g1 : ∀ x, gd (nI p) 11 x = x := fun x => gd_nI hp (by decide)
      have g2 : ∀ x, gd (nI (3 * p + j)) 4000 x = x := fun x => gd_nI (by omega) (by decide)
      have n0 : nrA 63 (nI 0) = nI 0 := rfl
      have n1 : nrA 63 (nI 1) = nI 1 := rfl
      rw [t_93_102 hs, pk_mul, nI_add, if_pos (nI_lt (by omega) (by omega))]
      simp only [g1, g2]
      rw [ix_nI (show p < 2 ^ 31 by omega), A1, ix_nI (show 3 * p + j < 2 ^ 31 by omega), tk, n0, n1, A0, pk_mul, nI_add, nI_add]
      simp only [show (nI (t.2 (3 * p + j)) = nI 63) = (t.2 (3 * p + j) = 63) from propext (nI_eq (by omega) (by decide))]
      rw [h1E, e1, e2]
      by_cases q : t.2 (3 * p + j) = 63
      · simp only [if_pos q]
        rw [decide_eq_true q, Bool.or_true, if_pos rfl]
        cases uvJ t p j with
        | true => rw [if_pos rfl]; rfl
        | false => rw [if_neg (by decide)]; rfl
      · simp only [if_neg q]
        rw [decide_eq_false q, Bool.or_false, pk_sub (by omega), nI_add]
        cases uvJ t p j with
        | true => rw [if_pos rfl, if_pos rfl]; rfl
        | false => rw [if_neg (by decide), if_neg (by decide)]; rfl
    obtain ⟨h', a1, a2, a3, a4, a5⟩ := r_tb2 hB hp r (j + 1) (by omega) (f1.sh hs) (T.fr f1 (by decide) (by decide)) (by rw [h1E, gA_k (by decide), gA_s, up1_s]) (by rw [h1E, gA_s, up1_s])
    refine ⟨h', st.trans a1, f1.trans a2, fun q hq => ?_, a4, a5⟩
    rw [(a3 q hq).1, (a3 q hq).2, h1E, gA_s, gA_k (by decide), gA_k (by decide), gA_s, up1_x hq, up1_x hq]
    exact ⟨rfl, rfl⟩
theorem r_tb3 (hB : isB t) : ∀ (r p : Nat) {h : AH}, r + p = 11 → Sh h → RTk h t → (∀ q, q < p → gA h 241 q = nI (if uB t q then 0 else 1) ∧ gA h 240 q = nI (tvJ t q 3)) → ∃ h', Q d 93 74 [some (.ref 189), some (.int (nI 1)), some (.int (nI p)), none] [] h = some (some (.int (nI 1)), h') ∧ Fr [] [240, 241] h h' ∧ RTo h' t
  | 0, p, h, e, hs, T, I => by
    have : p = 11 := by omega
    subst this
    refine ⟨h, ?_, Fr.rfl, fun q hq => (I q hq).1, fun q hq hu => by rw [(I q hq).2, tv_3 hu]⟩
    rw [t_93_74 hs, if_neg (by decide), if_pos (by decide)]
  | r + 1, p, h, e, hs, T, I => by
    have hp : p < 11 := by omega
    obtain ⟨h1, h1E⟩ : ∃ g, g = sA (sA h 240 p (nI 0)) 241 p (nI 1) := ⟨_, rfl⟩
    have f1 : Fr [] [240, 241] h h1 := by rw [h1E]; exact (Fr.rfl.sA (by decide)).sA (by decide)
    obtain ⟨h2, b1, b2, b3, b4, b5⟩ := r_tb2 (d := d) hB hp 3 0 rfl (f1.sh hs) (T.fr f1 (by decide) (by decide)) (by rw [h1E, gA_s, up1_s]; rfl) (by rw [h1E, gA_k (by decide), gA_s, up1_s]; rfl)
    rw [uv_3] at b4
    have f2 := f1.trans b2
    obtain ⟨h', a1, a2, a3⟩ := r_tb3 hB r (p + 1) (by omega) (f2.sh hs) (T.fr f2 (by decide) (by decide)) (fun q hq => by
      by_cases w : q = p
      · rw [w]; exact ⟨b4, b5⟩
      · rw [(b3 q w).1, (b3 q w).2, h1E, gA_s, gA_k (by decide), gA_k (by decide), gA_s, up1_x w, up1_x w]
        exact I q (by omega))
    refine ⟨h', ?_, f2.trans a2, a3⟩
    rw [t_93_74 hs, if_pos (nI_lt hp (by decide)), if_neg (by decide), gd_nI hp (by decide), gd_nI hp (by decide), ix_nI (by omega), show nrA 63 (nI 1) = nI 1 from rfl, ← h1E, pk_mul]
    exact b1.trans a1
theorem r_takeB {h : AH} (hs : Sh h) (T : RTk h t) : ∃ h' v, E (d + 1) 93 [.ref 189] h = some (some (.int (nI v)), h') ∧ Fr [] [240, 241] h h' ∧ (v = 1 ∧ isB t ∧ RTo h' t ∨ v = 0 ∧ ¬ isB t) := by
  have t4 := T.2.1
  have z74 : Q d 93 74 [some (.ref 189), some (.int (nI 0)), some (.int (nI 0)), none] [] h = some (some (.int (nI 0)), h) := by
    rw [t_93_74 hs, if_pos (by decide), if_pos rfl, if_pos (by decide)]
  rw [t_93 hs, T.1]
  simp only [show (nI t.1 = nI 33) = (t.1 = 33) from propext (nI_eq (by omega) (by decide))]
  by_cases q : t.1 = 33
  · rw [if_pos q]
    obtain ⟨i1, i2⟩ := r_tb1 (d := d) hs T q 33 0 rfl
    by_cases hB : ∀ i, 0 ≤ i → i < 33 → t.2 i = 63 ∨ 48 ≤ t.2 i ∧ t.2 i ≤ 51
    · have hb : isB t := ⟨q, fun i hi => hB i (Nat.zero_le _) hi⟩
      obtain ⟨h', a1, a2, a3⟩ := r_tb3 (d := d) hb 11 0 rfl hs T (fun q hq => absurd hq (Nat.not_lt_zero _))
      exact ⟨h', 1, by rw [i1 hB, a1], a2, Or.inl ⟨rfl, hb, a3⟩⟩
    · exact ⟨h, 0, by rw [i2 hB, z74], Fr.rfl, Or.inr ⟨rfl, fun w => hB fun i _ hi => w.2 i hi⟩⟩
  · rw [if_neg q]
    refine ⟨h, 0, ?_, Fr.rfl, Or.inr ⟨rfl, fun w => q w.1⟩⟩
    rw [t_93_17 hs, if_pos (by decide), if_pos rfl, z74]
/-- one try -/
theorem r_trlp {E : Nat → Bool} {a b : Int32} (hE : ∀ p, p < 11 → (E p = true ↔ uB t p = true ∨ nI p = a ∨ nI p = b)) : ∀ (r p : Nat) {h : AH}, r + p = 11 → Sh h → RTo h t → gI h 3649 189 = nI (lsE E p).length → (∀ k, k < (lsE E p).length → gA h 238 k = nI ((lsE E p).getD k 0)) → (∀ q, q < p → uB t q = false → gA h 237 q = nI (sgT t q)) → ∃ h', Q d 95 7 [some (.ref 189), some (.int a), some (.int b), some (.int (nI p))] [] h = cK (Jvm.Pilot.CPostRoomLaw_law_r9321_2ac549.E d 88 [.ref 189] h') (Q d 95 74 [some (.ref 189), some (.int a), some (.int b), some (.int (nI 11))]) [] ∧ Fr [3649] [237, 238] h h' ∧ RU h' (lsE E 11).length (sqE E) ∧ ∀ q, q < 11 → uB t q = false → gA h' 237 q = nI (sgT t q)
  | 0, p, h, e, hs, T, I, U, R => by
    have : p = 11 := by omega
    subst this
    exact ⟨h, by rw [t_95_7 hs, if_neg (by decide)], Fr.rfl, ⟨I, U⟩, R⟩
  | r + 1, p, h, e, hs, T, I, U, R => by
    have hp : p < 11 := by omega
    have ll : (lsE E p).length ≤ p := by
      have := List.length_filter_le E (List.range p)
      rw [List.length_range] at this
      exact this
    have rows : ∀ {h1 : AH}, gA h1 237 = up1 (gA h 237) p (gA h 240 p) → ∀ q, q < p + 1 → uB t q = false → gA h1 237 q = nI (sgT t q) := fun e1 q hq hu => by
      rw [e1]
      by_cases w : q = p
      · rw [w, up1_s]; rw [w] at hu; exact T.2 p hp hu
      · rw [up1_x w]; exact R q (by omega) hu
    have st : Q d 95 7 [some (.ref 189), some (.int a), some (.int b), some (.int (nI p))] [] h = if E p = true then Q d 95 7 [some (.ref 189), some (.int a), some (.int b), some (.int (nI (p + 1)))] [] (sI (sA (sA h 237 p (gA h 240 p)) 238 (lsE E p).length (nI p)) 3649 189 (nI ((lsE E p).length + 1))) else Q d 95 7 [some (.ref 189), some (.int a), some (.int b), some (.int (nI (p + 1)))] [] (sA h 237 p (gA h 240 p)) := by
      rw [t_95_7 hs, if_pos (nI_lt hp (by decide)), gd_nI hp (by decide), gd_nI hp (by decide), gd_nI hp (by decide), ix_nI (show p < 2 ^ 31 by omega), T.1 p hp, I, gd_nI (by omega) (by decide), ix_nI (by omega), nI_add, nI_add]
      by_cases q : E p = true
      · rw [if_pos q]
        rcases (hE p hp).mp q with q1 | q1 | q1
        · rw [q1, if_pos (by decide)]
        · by_cases q2 : uB t p = true
          · rw [q2, if_pos (by decide)]
          · rw [if_neg q2, if_neg (by decide), if_pos q1]
        · by_cases q2 : uB t p = true
          · rw [q2, if_pos (by decide)]
          · rw [if_neg q2, if_neg (by decide)]
            by_cases q3 : nI p = a
            · rw [if_pos q3]
            · rw [if_neg q3, if_pos q1]
      · rw [if_neg q]
        have nn := fun z => q ((hE p hp).mpr z)
        rw [if_neg (fun z => nn (Or.inl z)), if_neg (by decide), if_neg (fun z => nn (Or.inr (Or.inl z))), if_neg (fun z => nn (Or.inr (Or.inr z)))]
    rw [st]
    by_cases q : E p = true
    · rw [if_pos q]
      have ls : lsE E (p + 1) = lsE E p ++ [p] := by rw [lsE_s, if_pos q]
      have lw : (lsE E (p + 1)).length = (lsE E p).length + 1 := by rw [ls, List.length_append]; rfl
      have f1 : Fr [3649] [237, 238] h (sI (sA (sA h 237 p (gA h 240 p)) 238 (lsE E p).length (nI p)) 3649 189 (nI ((lsE E p).length + 1))) := ((Fr.rfl.sA (by decide)).sA (by decide)).sI (by decide)
      obtain ⟨h', a1, a2, a3⟩ := r_trlp hE r (p + 1) (by omega) (f1.sh hs) (T.fr f1 (by decide) (by decide)) (by rw [gI_s, lw]) (fun k hk => by
        show gA (sA (sA h 237 p (gA h 240 p)) 238 (lsE E p).length (nI p)) 238 k = _
        rw [gA_s, gA_k (by decide)]
        by_cases w : k = (lsE E p).length
        · subst w
          rw [up1_s, ls, List.getD_eq_getElem?_getD, List.getElem?_append_right (Nat.le_refl _), Nat.sub_self]; rfl
        · rw [up1_x w, lsE_g (by omega)]
          exact U k (by omega)) (rows (by
        show gA (sA (sA h 237 p (gA h 240 p)) 238 (lsE E p).length (nI p)) 237 = _
        rw [gA_k (by decide), gA_s]))
      exact ⟨h', a1, f1.trans a2, a3⟩
    · rw [if_neg q]
      have ls : lsE E (p + 1) = lsE E p := by rw [lsE_s, if_neg q]
      have f1 : Fr [3649] [237, 238] h (sA h 237 p (gA h 240 p)) := Fr.rfl.sA (by decide)
      obtain ⟨h', a1, a2, a3⟩ := r_trlp hE r (p + 1) (by omega) (f1.sh hs) (T.fr f1 (by decide) (by decide)) (by rw [ls]; exact I) (fun k hk => by
        rw [ls] at hk ⊢
        rw [gA_k (by decide)]; exact U k hk) (rows gA_s)
      exact ⟨h', a1, f1.trans a2, a3⟩
theorem r_tries {h : AH} {E : Nat → Bool} {a b : Int32} {M : Nat → Nat → Nat} (hB : isB t) (hE : ∀ p, p < 11 → (E p = true ↔ uB t p = true ∨ nI p = a ∨ nI p = b)) (h4 : (lsE E 11).length ≤ 4) (hs : Sh h) (K : KP h) (T : RTo h t) (MM : MRt h M) : ∃ h' v M', Jvm.Pilot.CPostRoomLaw_law_r9321_2ac549.E (d + 4) 95 [.ref 189, .int a, .int b] h = some (some (.int (nI v)), h') ∧ Fr [3649] [237, 238, 239] h h' ∧ MRt h' M' ∧ gI h' 3649 189 = nI (lsE E 11).length ∧ (v = 1 ∧ (∃ W, SolE E (sgT t) W ∧ ∀ p, p < 11 → gA h' 237 p = nI (W p)) ∨ v = 0 ∧ ∀ W, ¬ SolE E (sgT t) W) := by
  have f0 : Fr [3649] [] h (sI h 3649 189 (nI 0)) := Fr.rfl.sI (by decide)
  obtain ⟨h1, a1, a2, a3, a4⟩ := r_trlp (d := d + 3) hE 11 0 rfl (f0.sh hs) (T.fr f0 (by decide) (by decide)) gI_s (fun k hk => absurd hk (Nat.not_lt_zero _)) (fun q hq => absurd hq (Nat.not_lt_zero _))
  have f1 : Fr [3649] [237, 238] h h1 := (f0.wk (fun _ q => q) (by decide)).trans a2
  have s1 := f1.sh hs
  have ku : ∀ p, p < 11 → (∀ k, k < (lsE E 11).length → p ≠ sqE E k) → uB t p = false := fun p hp hk => by
    have := (sqE_m hp).mp hk
    cases hu : uB t p with
    | false => rfl
    | true => rw [(hE p hp).mpr (Or.inl hu)] at this; exact absurd this (by decide)
  obtain ⟨h2, v, M', b1, b2, b3, b4⟩ := r_solve (d := d) (S := sgT t) s1 (K.fr f1 (by decide) (by decide)) (sqE_d h4) a3 (fun p hp hk => a4 p hp (ku p hp hk)) (fun p hp _ => sgT_lt hB p hp) (M := M) (fun j k hj hk => by rw [f1.A (by decide)]; exact MM j k hj hk)
  refine ⟨h2, v, M', ?_, (f1.wk (fun _ q => q) (by decide)).trans (b2.wk (by decide) (by decide)), b3, by rw [b2.I (by decide)]; exact a3.1, ?_⟩
  · rw [t_95 hs, a1, b1, cK_v, t_95_74 (b2.sh s1)]
    rcases b4 with ⟨rfl, -⟩ | ⟨rfl, -⟩
    · rw [if_pos (by decide)]
    · rw [if_pos (by decide)]
  · rcases b4 with ⟨c1, W, c2, c3⟩ | ⟨c1, c2, -⟩
    · exact Or.inl ⟨c1, W, SolE.s.mpr c2, c3⟩
    · exact Or.inr ⟨c1, fun W q => c2 W (SolE.s.mp q)⟩
end RRD
