/-! ===== BARS AS CALLS ===== -/
def sp7 (k : Nat) : Nat := 7 + k
theorem sp7_d : SD sp7 4 := ⟨Nat.le_refl _, fun k hk => by unfold sp7; omega, fun k k' _ _ e => by unfold sp7 at e; omega⟩
/-- an item's signs ahead of the checks -/
def sgB (s : St) (i : Nat) : Nat → Nat
  | 0 => iN s 0 i
  | 1 => iN s 3 i / 64
  | 2 => iN s 3 i % 64
  | 3 => i / 64
  | 4 => i % 64
  | 5 => iN s 1 i / 64
  | 6 => iN s 1 i % 64
  | _ => 0
theorem sgB_lt {s : St} {i : Nat} (h0 : iN s 0 i < 64) (h1 : iN s 3 i ≤ 999) (h2 : i < 4096) (h3 : iN s 1 i ≤ 4000) (p : Nat) : sgB s i p < 64 := by
  unfold sgB
  split <;> omega
theorem SolS.ex {sp S : Nat → Nat} (D : SD sp 4) (hS : ∀ p, p < 11 → S p < 64) : ∃ T, SolS sp 4 S T := by
  have h : ∀ j k, j < 4 → k < 4 → M0s sp S 4 4 j k = pw ((j + 1) * (10 - sp k)) := fun j k _ hk => if_pos hk
  have hR : ∀ j, j < 4 → M0s sp S 4 4 j 4 = vsS S j := fun j _ => rfl
  have E := (Ei.all D.xd D.1 (Ei.spt (R := 4) D hS h hR)) 4 (Nat.le_refl _)
  exact ⟨_, (Ei.sol D hS h hR E).1 fun j h1 h2 => by omega⟩
/-- the component's rows of signs -/
def CS5 (h : AH) (s : St) (G : Nat → Nat → Nat) : Prop := ∀ i, i < zN s 2 → gR h 1285 (G 4 i) = some (G 17 i) ∧ G 17 i < gN h ∧ ∃ T, SolS sp7 4 (sgB s i) T ∧ SA h (G 17 i) T
/-- bar j of signs -/
def brS (T : Nat → Nat) (j : Nat) : Nat := (T (j / 3) >>> (4 - 2 * (j % 3))) % 4
theorem br_b : ∀ a, a < 64 → ∀ m, m < 3 → ((nI a) >>> ((nI (4 - 2 * m)) &&& 31)) &&& (nI 3) = nI ((a >>> (4 - 2 * m)) % 4) := by decide +kernel
section BAR
variable {d : Nat} {h : AH} {b : Nat} {bk : Bk} {G Cp : Nat → Nat → Nat} {s : St}
theorem c_bar (C : CSt h b bk s G Cp) (w : WS bk s) (C5 : CS5 h s G) {i j : Nat} (hi : i < zN s 2) (hj : j < 33) : ∃ T, SolS sp7 4 (sgB s i) T ∧ E (d + 4) 23 [.ref 100, .int (nI i), .int (nI j)] h = some (some (.int (nI (brS T j))), h) := by
  have hs := C.1
  have w1 := w.1
  obtain ⟨g1, g2, T, g3, g4, g5, g6, g7⟩ := C5 i hi
  have ci := (C.2.2.2.2.1.2.2.2 i hi).1
  have A0 := C.2.2.2.2.2.2.2 0 (Or.inl (by decide)) (Or.inl (by decide))
  have e0 : (lX s 0) = List.range (zN s 2) := rfl
  rw [e0, List.length_range] at A0
  have A0 : Ar h 164 (la G 0) (lc Cp 0) (zN s 2) (fun k => G 4 ((List.range (zN s 2)).getD k 0)) := A0
  have gi : (List.range (zN s 2)).getD i 0 = i := by
    rw [List.getD_eq_getElem?_getD, List.getElem?_range hi]; rfl
  refine ⟨T, g3, ?_⟩
  have j3 : j % 3 < 3 := Nat.mod_lt _ (by decide)
  rw [t_23 hs, t_223 hs, if_neg (nI_nlt (by omega) (by omega)), al_size hs A0, cK_v, t_223_12 hs, if_pos (nI_lt hi (by omega)), cK_v, t_23_8 hs, if_neg (by decide), if_neg (nI_nlt (by omega) (by omega)), if_pos (nI_lt hj (by decide)), al_get hs A0 hi, cK_v, gi, t_23_42 hs, ck_ok ci, ck_ok ci, g1, Option.bind_some, dz_ok (by decide), ck_ok g4, g5, pk_div (by omega) (by decide) (by decide), gd_nI (by omega) (by decide), dz_ok (by decide), ix_nI (by omega), g7 _ (by omega), ← pk_div (by omega) (by decide) (by decide), pk_remN (by omega) (by decide) (by decide), pk_mul, pk_sub (by omega), Nat.mul_comm (j % 3) 2, br_b _ (g3.1 _ (by omega)) _ j3]
  rfl
/-- the first signs of an item are laid out -/
theorem r_tell (hs : Sh h) (w : WS bk s) (W : WB bk) (R : RS1 h s) {i : Nat} (hi : i < zN s 2) : ∃ h', E (d + 1) 87 [.ref 189, .int (nI i)] h = some (none, h') ∧ Fr [] [237] h h' ∧ ∀ p, p < 7 → gA h' 237 p = nI (sgB s i p) := by
  have w1 := w.1
  obtain ⟨v0, v1, v2, v3, v4, -⟩ := w.2.2.2.1 i hi
  have w8 := W.1.2.2.1
  obtain ⟨a1, a2, a3, a4, -⟩ := R.2.2.2.2 i hi
  have v5 : iN s 3 i ≤ 999 := (w.2.2.2.1 i hi).2.2.2.2.1
  rw [t_87 hs, gd_nI (by omega) (by decide), gd_nI (by omega) (by decide), dz_ok (by decide), dz_ok (by decide), dz_ok (by decide), dz_ok (by decide), gd_nI (by omega) (by decide), dz_ok (by decide), gd_nI (by omega) (by decide), dz_ok (by decide), ix_nI (by omega), a1, a4, a2, pk_remN (by omega) (by decide) (by decide), pk_remN (by omega) (by decide) (by decide), pk_remN (by omega) (by decide) (by decide), pk_div (by omega) (by decide) (by decide), pk_div (by omega) (by decide) (by decide), pk_div (by omega) (by decide) (by decide)]
  refine ⟨_, rfl, ((((((Fr.rfl.sA (by decide)).sA (by decide)).sA (by decide)).sA (by decide)).sA (by decide)).sA (by decide)).sA (by decide), fun p hp => ?_⟩
  rw [gA_s, gA_s, gA_s, gA_s, gA_s, gA_s, gA_s]
  have : p = 0 ∨ p = 1 ∨ p = 2 ∨ p = 3 ∨ p = 4 ∨ p = 5 ∨ p = 6 := by omega
  rcases this with q | q | q | q | q | q | q <;> subst q
  · rw [up1_x (by decide), up1_x (by decide), up1_x (by decide), up1_x (by decide), up1_x (by decide), up1_x (by decide), up1_s]; rfl
  · rw [up1_x (by decide), up1_x (by decide), up1_x (by decide), up1_x (by decide), up1_x (by decide), up1_s]; rfl
  · rw [up1_x (by decide), up1_x (by decide), up1_x (by decide), up1_x (by decide), up1_s]; rfl
  · rw [up1_x (by decide), up1_x (by decide), up1_x (by decide), up1_s]; rfl
  · rw [up1_x (by decide), up1_x (by decide), up1_s]; rfl
  · rw [up1_x (by decide), up1_s]; rfl
  · rw [up1_s]; rfl
theorem rb_lp {x2 : Int32} : ∀ (r k : Nat) {h : AH}, r + k = 4 → Sh h → (∀ k', k' < k → gA h 238 k' = nI (sp7 k')) → ∃ h', Q d 86 52 [some (.ref 189), none, some (.int x2), some (.int (nI k))] [] h = cK (E d 88 [.ref 189] h') (Q d 86 77 [some (.ref 189), none, some (.int x2), some (.int (nI 4))]) [] ∧ Fr [] [238] h h' ∧ ∀ k', k' < 4 → gA h' 238 k' = nI (sp7 k')
  | 0, k, h, e, hs, I => by
    have : k = 4 := by omega
    subst this
    exact ⟨h, by rw [t_86_52 hs, if_neg (by decide)], Fr.rfl, I⟩
  | r + 1, k, h, e, hs, I => by
    have f1 : Fr [] [238] h (sA h 238 k (nI (7 + k))) := Fr.rfl.sA (by decide)
    obtain ⟨h', a1, a2, a3⟩ := rb_lp r (k + 1) (by omega) (f1.sh hs) (fun k' hk' => by
      rw [gA_s]
      by_cases q : k' = k
      · rw [q, up1_s]; rfl
      · rw [up1_x q]; exact I k' (by omega))
    refine ⟨h', ?_, f1.trans a2, a3⟩
    rw [t_86_52 hs, if_pos (nI_lt (by omega) (by decide)), gd_nI (by omega) (by decide), ix_nI (by omega), nI_add, nI_add]
    exact a1
theorem r_bar (hs : Sh h) (w : WS bk s) (W : WB bk) (R : RS1 h s) (K : KP h) {M : Nat → Nat → Nat} (T : MRt h M) {i j : Nat} (hi : i < zN s 2) (hj : j < 33) : ∃ h' M' W', SolS sp7 4 (sgB s i) W' ∧ E (d + 4) 86 [.ref 189, .int (nI i), .int (nI j)] h = some (some (.int (nI (brS W' j))), h') ∧ gI h' 3586 189 = nI 0 ∧ Fr [3586, 3649] [237, 238, 239] h h' ∧ MRt h' M' := by
  have w1 := w.1
  have w8 := W.1.2.2.1
  obtain ⟨v0, v1, v2, v3, v4, -⟩ := w.2.2.2.1 i hi
  have f0 : Fr [3586, 3649] [] h (sI h 3586 189 (nI 0)) := Fr.rfl.sI (by decide)
  have hs0 := f0.sh hs
  have R0 : RS1 (sI h 3586 189 (nI 0)) s := R.fr f0 (by decide) (by decide)
  obtain ⟨h1, a1, a2, a3⟩ := r_tell (d := d + 2) hs0 w W R0 hi
  have hs1 := a2.sh hs0
  have f2 : Fr [3586, 3649] [237, 238, 239] h (sI h1 3649 189 (nI 4)) := ((f0.wk (fun _ q => q) (by decide)).trans (a2.wk (by decide) (by decide))).sI (by decide)
  obtain ⟨h3, b1, b2, b3⟩ := rb_lp (d := d + 3) (x2 := nI j) 4 0 rfl (f2.sh hs) (fun k' q => absurd q (Nat.not_lt_zero _))
  have f3 := f2.trans (b2.wk (by decide) (by decide))
  have hs3 := f3.sh hs
  obtain ⟨h4, v, M', c1, c2, c3, c4⟩ := r_solve (d := d) (S := sgB s i) hs3 (K.fr f3 (by decide) (by decide)) sp7_d ⟨by rw [b2.I (by decide), gI_s], b3⟩ (fun p hp hk => by
    have h7 : p < 7 := by
      by_cases q : p < 7
      · exact q
      · exact absurd (show p = sp7 (p - 7) by unfold sp7; omega) (hk (p - 7) (by omega))
    rw [b2.A (by decide)]
    exact a3 p h7) (fun p _ _ => sgB_lt (by omega) v4 (by omega) v2 p) (M := M) (fun j k hj hk => by
    have := T j k hj hk
    rw [b2.A (by decide)]
    show gA h1 239 (5 * j + k) = _ ∧ _
    rw [a2.A (by decide)]; exact this)
  obtain ⟨W0, hW0⟩ := SolS.ex sp7_d (fun p _ => sgB_lt (s := s) (i := i) (by omega) v4 (by omega) v2 p)
  rcases c4 with ⟨c5, W', c6, c7⟩ | ⟨-, c6, -⟩
  · have f4 := f3.trans (c2.wk (fun _ q => absurd q List.not_mem_nil) (by decide))
    refine ⟨h4, M', W', c6, ?_, ?_, f4, c3⟩
    · have e : E (d + 4) 86 [.ref 189, .int (nI i), .int (nI j)] h = cK (E (d + 3) 87 [.ref 189, .int (nI i)] (sI h 3586 189 (nI 0))) (Q (d + 3) 86 45 [some (.ref 189), some (.int (nI i)), some (.int (nI j)), none]) [] := by
        rw [t_86 hs, if_neg (nI_nlt (by omega) (by omega)), R.1, if_pos (nI_lt hi (by omega)), if_neg (nI_nlt (by omega) (by omega)), if_pos (nI_lt hj (by decide)), if_neg (by decide)]
      rw [e, a1, cK_n, t_86_45 hs1, b1, c1, cK_v, t_86_77 (f4.sh hs), dz_ok (by decide), pk_div (by omega) (by decide) (by decide), gd_nI (by omega) (by decide), dz_ok (by decide), ix_nI (by omega), c7 _ (by omega), ← pk_div (by omega) (by decide) (by decide), pk_remN (by omega) (by decide) (by decide), pk_mul, pk_sub (by omega), br_b _ (c6.1 _ (by omega)) _ (Nat.mod_lt _ (by decide))]
      rfl
    · rw [c2.I (by decide), b2.I (by decide), gI_k (by decide), a2.I (by decide), gI_s]
  · exact absurd hW0 (c6 W0)
end BAR
