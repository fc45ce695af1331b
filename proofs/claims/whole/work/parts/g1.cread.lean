/-! ===== THE BOOK: all its lines (component) ===== -/
/-- after the end there is only the end -/
theorem tK_e {t : Tp} {k : Nat} (z : tK t k = 0) : tK t (k + 1) = 0 := by
  obtain ⟨a, b, c, e, -⟩ := tok_b (tkP_b (t := t) k)
  have e' := e z
  have p : tkP t (k + 1) = t.1 := by
    have : tkP t (k + 1) = (tok t (tkP t k)).2.2.2 := rfl
    omega
  show (tok t (tkP t (k + 1))).1 = 0
  rw [p]
  unfold tok
  rw [Nat.sub_self, skB]
  unfold tokB
  rw [if_pos (Nat.le_refl _)]
theorem tK_e' {t : Tp} {k : Nat} (z : tK t k = 0) : ∀ j, tK t (k + j) = 0
  | 0 => z
  | j + 1 => tK_e (tK_e' z j)
theorem fS_0' {t : Tp} {k c : Nat} (z : fS t k c = 0) : tK t k = c := by
  unfold fS at z
  by_cases q : tK t k = c
  · exact q
  · rw [if_neg q] at z; exact absurd z (fX_n (by decide))
theorem stF_e {t : Tp} {k : Nat} {bk : Bk} (z : stF t k bk = 0) : tK t (stN t k - 1) = 59 := by
  unfold stF at z
  unfold stN
  by_cases q1 : isW t k (kw 1)
  · rw [if_pos q1] at z ⊢; exact fS_0' (st_0.mp z).2
  rw [if_neg q1] at z ⊢
  by_cases q2 : isW t k (kw 2)
  · rw [if_pos q2] at z ⊢; exact fS_0' (st_0.mp z).2
  rw [if_neg q2] at z ⊢
  by_cases q3 : isW t k (kw 3)
  · rw [if_pos q3] at z ⊢; exact fS_0' (st_0.mp z).2
  rw [if_neg q3] at z ⊢
  by_cases q4 : isW t k (kw 15)
  · rw [if_pos q4] at z ⊢; exact fS_0' (st_0.mp z).2
  rw [if_neg q4] at z ⊢
  by_cases q5 : isW t k (kw 28)
  · rw [if_pos q5] at z; exact fS_0' (st_0.mp z).2
  · rw [if_neg q5] at z; exact absurd z (fX_n (by decide))
/-- faults are small -/
def fbd (t : Tp) (f : Nat) : Prop := f ≤ 9 + 16 * t.1
section FBD
variable {t : Tp} {k c : Nat}
theorem fb_0 : fbd t 0 := Nat.zero_le _
theorem fb_X (h : c ≤ 9) : fbd t (fX t c k) := by
  have := (tS_b (t := t) (k := k)).1
  show c + 16 * tS t k ≤ 9 + 16 * t.1
  omega
theorem fb_i {p : Prop} [Decidable p] {a b : Nat} (x : fbd t a) (y : fbd t b) : fbd t (if p then a else b) := by split <;> assumption
theorem fb_ff : ∀ {l : List Nat}, (∀ c, c ∈ l → fbd t c) → fbd t (ff l)
  | [], _ => fb_0
  | a :: l, h => by
    rw [ff]
    exact fb_i (fb_ff fun c hc => h c (List.mem_cons_of_mem _ hc)) (h a (List.mem_cons_self ..))
theorem fb_st {f c : Nat} (a : fbd t f) (b : fbd t c) : fbd t (st f c) := fb_i b a
theorem fb_W {v : Nat} : fbd t (fW t k v) := fb_i fb_0 (fb_X (by decide))
theorem fb_N {lo hi : Nat} : fbd t (fN t k lo hi) := fb_i (fb_X (by decide)) (fb_i (fb_X (by decide)) fb_0)
theorem fb_S : fbd t (fS t k c) := fb_i fb_0 (fb_X (by decide))
theorem fb_M {nm : Nat → Nat} {m : Nat} : fbd t (fM t k nm m) := fb_i (fb_X (by decide)) (fb_i (fb_X (by decide)) fb_0)
theorem fb_O {nm : Nat → Nat} {m : Nat} : fbd t (fO t k nm m) := fb_i (fb_X (by decide)) (fb_i (fb_X (by decide)) fb_0)
theorem fb_1 {w n : Nat} : fbd t (f1 t k w n) := fb_i (fb_X (by decide)) fb_0
theorem fb_d {nm : Nat → Nat} {m i : Nat} : fbd t (dpF t k nm m i) := fb_i (fb_X (by decide)) fb_0
theorem fb_5 {p : Prop} [Decidable p] : fbd t (if p then fX t 5 k else 0) := fb_i (fb_X (by decide)) fb_0
theorem fb_nil : ∀ c, c ∈ ([] : List Nat) → fbd t c := fun _ h => absurd h List.not_mem_nil
theorem fb_cons {a : Nat} {l : List Nat} (x : fbd t a) (y : ∀ c, c ∈ l → fbd t c) : ∀ c, c ∈ a :: l → fbd t c := fun c h => (List.mem_cons.mp h).elim (fun e => e ▸ x) (y c)
theorem fb_r1 {p i : Nat} : fbd t (r1F t p i) := by
  unfold r1F
  cases rKd t p with
  | none => exact fb_X (by decide)
  | some κ =>
    refine fb_i (fb_X (by decide)) (fb_ff ?_)
    unfold ruF
    by_cases q1 : κ = 1
    · rw [if_pos q1]; exact fb_cons fb_N (fb_cons fb_N (fb_cons fb_W (fb_cons fb_N (fb_nil))))
    rw [if_neg q1]
    by_cases q2 : κ = 2
    · rw [if_pos q2]; exact fb_cons fb_N (fb_cons fb_N (fb_nil))
    rw [if_neg q2]
    by_cases q3 : κ = 6
    · rw [if_pos q3]; exact fb_cons fb_N (fb_nil)
    · rw [if_neg q3]; exact fb_cons fb_N (fb_nil)
theorem fb_rl {q : Nat} : ∀ (r i : Nat), fbd t (rlF t q r i).1
  | 0, i => fb_X (by decide)
  | r + 1, i => by
    rw [rlF]
    split
    · exact fb_0
    · split
      · exact fb_rl r (i + 1)
      · exact fb_r1
theorem fb_stF {bk : Bk} : fbd t (stF t k bk) := by
  unfold stF oFs sFs pFs pFs' vFs cFs
  refine fb_i (fb_st (fb_ff ?_) fb_S) (fb_i (fb_st (fb_ff ?_) fb_S) (fb_i (fb_st (fb_ff ?_) fb_S) (fb_i (fb_st (fb_ff ?_) fb_S) (fb_i (fb_st (fb_ff ?_) fb_S) (fb_X (by decide))))))
  · exact fb_cons fb_5 (fb_cons fb_M (fb_cons fb_N (fb_cons fb_d (fb_cons fb_N (fb_cons fb_N (fb_nil))))))
  · exact fb_cons fb_5 (fb_cons fb_M (fb_cons fb_M (fb_nil)))
  · exact fb_cons fb_5 (fb_cons (fb_i (fb_X (c := 1) (by decide)) fb_0) (fb_cons fb_W (fb_cons fb_O (fb_cons fb_W (fb_cons fb_N (fb_cons fb_W (fb_cons fb_N (fb_cons fb_W (fb_cons fb_N (fb_cons fb_N (fb_cons fb_1 (fb_cons fb_W (fb_cons fb_N (fb_nil))))))))))))))
  · exact fb_cons fb_5 (fb_cons fb_M (fb_cons fb_1 (fb_cons fb_W (fb_cons fb_N (fb_cons (fb_rl _ _) (fb_nil))))))
  · exact fb_cons fb_5 (fb_cons fb_O (fb_cons fb_O (fb_cons (fb_i (fb_X (c := 3) (by decide)) fb_0) (fb_cons fb_W (fb_cons fb_N (fb_cons fb_W (fb_cons fb_N (fb_cons fb_W (fb_cons fb_N (fb_cons fb_W (fb_cons fb_N (fb_cons fb_W (fb_cons fb_N (fb_nil))))))))))))))
end FBD
section CRA
variable {d : Nat} {h : AH} {N0 b : Nat} {t : Tp} {k : Nat} {bk : Bk} {G Cp : Nat → Nat → Nat}
theorem wi_1 : ∀ v : Int64, wiS v (chS 1) 0 0 = [kw 1, kw 2, kw 3, kw 15, kw 28].findIdx? (fun w => decide (lN w = v)) := wi_z (by decide +kernel)
/-- one line: up to its last token -/
theorem c_bkl (X : WX bk) (R : CRd h N0 b t k bk G Cp) : ∃ h', (∀ j : Int32, cK (E (d + 12) 231 [.ref 101, .ref 1] h) (Q (d + 12) 194 47 [some (.ref b), some (.int j)]) [] = cK (E (d + 12) 238 [.ref 101] h') (Q (d + 12) 194 133 [some (.ref b), some (.int j)]) []) ∧ SRd h h' N0 b t (stF t k bk) (stN t k - 1) (stB t k bk) := by
  have C := R.1
  have hs := C.1
  have cb := C.2.2.2.2.2.1
  have wi := c_wI (d := d + 7) C (z := 1) (l := [kw 1, kw 2, kw 3, kw 15, kw 28]) (by decide) (by decide +kernel) wi_1 (by decide +kernel)
  rw [wI_c, wI_c, wI_c, wI_c, wI_c, wI_n] at wi
  have kd : kw 1 ≠ kw 2 ∧ True := ⟨by decide +kernel, trivial⟩
  have out : ∀ {h' : AH} {f k' : Nat} {B' : Bk}, SRd h h' N0 b t f k' B' → gC h' b = 2 ∧ gR h' 520 b = some 101 ∧ Sh h' := fun {h' f k' B'} S => by
    obtain ⟨-, -, -, ⟨kk, K⟩, -⟩ := S
    exact ⟨K.2.2.2.2.2.1, K.2.2.2.2.2.2, K.1⟩
  unfold stF stN stB
  by_cases q1 : isW t k (kw 1)
  · obtain ⟨h', r, a, S⟩ := c_office (d := d + 2) X R
    obtain ⟨o1, o2, o3⟩ := out S
    rw [if_pos q1] at wi
    refine ⟨h', fun j => ?_, ?_⟩
    · rw [wi, cK_v, t_194_47 hs, if_pos (show oI (some 0) = nI 0 from rfl), ck_ok cb, a, cK_v, t_194_84 o3, ck_ok o1, o2, Option.bind_some, ck_ok o3.t101.1]
    · rw [if_pos q1, if_pos q1, if_pos q1]; exact S
  rw [if_neg q1] at wi
  by_cases q2 : isW t k (kw 2)
  · obtain ⟨h', r, a, S⟩ := c_short' (d := d + 2) X R
    obtain ⟨o1, o2, o3⟩ := out S
    rw [if_pos q2] at wi
    refine ⟨h', fun j => ?_, ?_⟩
    · rw [wi, cK_v, t_194_47 hs]
      show (if nI 1 = nI 0 then _ else if nI 1 = nI 1 then _ else _) = _
      rw [if_neg (by decide), if_pos rfl, ck_ok cb, a, cK_v, t_194_92 o3, ck_ok o1, o2, Option.bind_some, ck_ok o3.t101.1]
    · rw [if_neg q1, if_neg q1, if_neg q1, if_pos q2, if_pos q2, if_pos q2]; exact S
  rw [if_neg q2] at wi
  by_cases q3 : isW t k (kw 3)
  · obtain ⟨h', r, a, S⟩ := c_street (d := d + 2) X R
    obtain ⟨o1, o2, o3⟩ := out S
    rw [if_pos q3] at wi
    refine ⟨h', fun j => ?_, ?_⟩
    · rw [wi, cK_v, t_194_47 hs]
      show (if nI 2 = nI 0 then _ else if nI 2 = nI 1 then _ else if nI 2 = nI 2 then _ else _) = _
      rw [if_neg (by decide), if_neg (by decide), if_pos rfl, ck_ok cb, a, cK_v, t_194_100 o3, ck_ok o1, o2, Option.bind_some, ck_ok o3.t101.1]
    · rw [if_neg q1, if_neg q1, if_neg q1, if_neg q2, if_neg q2, if_neg q2, if_pos q3, if_pos q3, if_pos q3]; exact S
  rw [if_neg q3] at wi
  by_cases q4 : isW t k (kw 15)
  · obtain ⟨h', r, a, S⟩ := c_service (d := d + 1) X R
    obtain ⟨o1, o2, o3⟩ := out S
    rw [if_pos q4] at wi
    refine ⟨h', fun j => ?_, ?_⟩
    · rw [wi, cK_v, t_194_47 hs]
      show (if nI 3 = nI 0 then _ else if nI 3 = nI 1 then _ else if nI 3 = nI 2 then _ else if nI 3 = nI 3 then _ else _) = _
      rw [if_neg (by decide), if_neg (by decide), if_neg (by decide), if_pos rfl, ck_ok cb, a, cK_v, t_194_108 o3, ck_ok o1, o2, Option.bind_some, ck_ok o3.t101.1]
    · rw [if_neg q1, if_neg q1, if_neg q1, if_neg q2, if_neg q2, if_neg q2, if_neg q3, if_neg q3, if_neg q3, if_pos q4, if_pos q4, if_pos q4]; exact S
  rw [if_neg q4] at wi
  by_cases q5 : isW t k (kw 28)
  · obtain ⟨h', r, a, S⟩ := c_coach (d := d + 1) X R
    obtain ⟨o1, o2, o3⟩ := out S
    rw [if_pos q5] at wi
    refine ⟨h', fun j => ?_, ?_⟩
    · rw [wi, cK_v, t_194_47 hs]
      show (if nI 4 = nI 0 then _ else if nI 4 = nI 1 then _ else if nI 4 = nI 2 then _ else if nI 4 = nI 3 then _ else if nI 4 = nI 4 then _ else _) = _
      rw [if_neg (by decide), if_neg (by decide), if_neg (by decide), if_neg (by decide), if_pos rfl, ck_ok cb, a, cK_v, t_194_116 o3, ck_ok o1, o2, Option.bind_some, ck_ok o3.t101.1]
    · rw [if_neg q1, if_neg q1, if_neg q1, if_neg q2, if_neg q2, if_neg q2, if_neg q3, if_neg q3, if_neg q3, if_neg q4, if_neg q4, if_neg q4, if_pos q5]; exact S
  · rw [if_neg q5] at wi
    obtain ⟨h', d1, d2, d3, d4⟩ := c_fail (d := d + 11) C (c := 1) (by decide)
    refine ⟨h', fun j => ?_, ?_⟩
    · rw [wi, cK_v, t_194_47 hs]
      show (if (-1 : Int32) = nI 0 then _ else if (-1 : Int32) = nI 1 then _ else if (-1 : Int32) = nI 2 then _ else if (-1 : Int32) = nI 3 then _ else if (-1 : Int32) = nI 4 then _ else _) = _
      rw [if_neg (by decide), if_neg (by decide), if_neg (by decide), if_neg (by decide), if_neg (by decide), ck_ok cb, d1, cK_v, t_194_125 d2.1, ck_ok d2.2.2.2.2.2.1, d2.2.2.2.2.2.2, Option.bind_some, ck_ok d2.1.t101.1]
    · rw [if_neg q1, if_neg q2, if_neg q3, if_neg q4, if_neg q5]
      exact stop_f k (fX_n (by decide)) (Fr.bf d3) (by rw [d3.ct.1]; omega) (by rw [d3.ct.2]; omega) d2 d4
theorem CRd.nx (R : CRd h N0 b t k bk G Cp) : ∃ h', E (d + 7) 238 [.ref 101] h = some (none, h') ∧ CRd h' N0 b t (k + 1) bk G Cp ∧ Fr KTk [] h h' ∧ gI h' 519 b = gI h 519 b := by
  obtain ⟨C, B, L, r1, r2, r3, r4⟩ := R
  obtain ⟨h', a1, C1, F1, I1⟩ := C.nx (d := d)
  exact ⟨h', a1, ⟨C1, B.bf C.2.1 (Fr.bf (N := gN h) F1) (Nat.le_refl _), L.bf C.2.1 (Fr.bf (N := gN h) F1) (Nat.le_refl _), r1, r2, by rw [F1.ct.1]; exact r3, r4⟩, F1, by rw [I1]⟩
/-- six tokens at least pay for a line that makes cells -/
theorem stN_6 : k + 4 ≤ stN t k := by
  have a := pQ_b (t := t) (k := k)
  have b := ruP_b (t := t) (k := k + 5) (rlF t (k + 5) 9 0).2
  unfold stN; (repeat' split) <;> omega
theorem c_ralp {M : Nat} (hM : M ≤ 4000 ∧ tK t M = 0 ∧ ∀ j, j < M → tK t j ≠ 0) : ∀ (n k i : Nat) (bk : Bk) (G Cp : Nat → Nat → Nat) {h : AH}, M < n + k → k ≤ M → i ≤ k → WX bk → CRd h N0 b t k bk G Cp → gI h 519 b = nI 0 → ∃ h', Q (d + 12) 194 14 [some (.ref b), some (.int (nI i))] [] h = some (some (.int (nI (bkS t n k bk).1)), h') ∧ BFr N0 h h' ∧ gN h' ≤ gN h + 10 + 3 * (M - k) ∧ gS h' ≤ gS h + 250 + 63 * (M - k) ∧ (∃ kk, CPs h' b t kk) ∧ ((bkS t n k bk).1 = 0 → WX (bkS t n k bk).2 ∧ ∃ k' G' Cp', CRd h' N0 b t k' (bkS t n k bk).2 G' Cp') := by
  intro n
  induction n with
  | zero => intro k i bk G Cp h h1 h2; omega
  | succ n ih =>
    intro k i bk G Cp h h1 h2 hi X R I0
    have C := R.1
    have hs := C.1
    have cb := C.2.2.2.2.2.1
    have tb := tK_b (t := t) (k := k)
    rw [bkS]
    have hk : gI h 3076 101 = nI (tK t k) := C.2.2.2.2.1.1
    by_cases q : tK t k = 0
    · rw [if_pos q]
      refine ⟨h, ?_, BFr.rfl, by omega, by omega, ⟨_, C⟩, fun _ => ⟨X, k, G, Cp, R⟩⟩
      by_cases z : i < 4000
      · rw [t_194_14 hs, if_pos (nI_lt z (by decide)), ck_ok cb, I0, if_pos rfl, ck_ok cb, C.2.2.2.2.2.2, Option.bind_some, ck_ok hs.t101.1, hk, q, if_pos rfl, ck_ok cb]
      · rw [t_194_14 hs, if_neg (nI_nlt (by omega) (by omega)), ck_ok cb, I0]
    · rw [if_neg q]
      have kM : k < M := by
        by_cases z : k = M
        · rw [z] at q; exact absurd hM.2.1 q
        · omega
      obtain ⟨h1', a1, S⟩ := c_bkl (d := d) X R
      have step : Q (d + 12) 194 14 [some (.ref b), some (.int (nI i))] [] h = cK (E (d + 12) 238 [.ref 101] h1') (Q (d + 12) 194 133 [some (.ref b), some (.int (nI i))]) [] := by
        rw [t_194_14 hs, if_pos (nI_lt (by omega) (by decide)), ck_ok cb, I0, if_pos rfl, ck_ok cb, C.2.2.2.2.2.2, Option.bind_some, ck_ok hs.t101.1, hk, ife (by omega) (by decide), if_neg q, ck_ok cb, Option.bind_some, ck_ok hs.t101.1]
        exact a1 (nI i)
      rw [step]
      obtain ⟨F, n1, s1, ⟨kk, K⟩, e1, v1⟩ := S
      by_cases z : stF t k bk = 0
      · rw [if_pos z]
        obtain ⟨I1, G', Cp', R1⟩ := v1 z
        obtain ⟨h2', a2, R2, F2, I2⟩ := R1.nx (d := d + 5)
        have s6 := stN_6 (t := t) (k := k)
        rw [show stN t k - 1 + 1 = stN t k from by omega] at R2
        have le : stN t k ≤ M := by
          have z59 := stF_e z
          by_cases w : stN t k ≤ M
          · exact w
          · have := tK_e' hM.2.1 (stN t k - 1 - M)
            rw [show M + (stN t k - 1 - M) = stN t k - 1 from by omega, z59] at this
            omega
        obtain ⟨h3, o1, o2, o3, o4, o5, o6⟩ := ih (stN t k) (i + 1) (stB t k bk) G' Cp' (by omega) le (by omega) (X.st z) R2 (by rw [I2, I1, I0])
        rw [a2, cK_n, t_194_133 R2.1.1, nI_add]
        refine ⟨h3, o1, (F.trans (Fr.bf F2)).trans o2, ?_, ?_, o5, o6⟩
        · have := F2.ct.1; omega
        · have := F2.ct.2; omega
      · rw [if_neg z]
        obtain ⟨h2', a2, C2, F2, I2⟩ := K.nx (d := d + 5)
        have e2 : gI h2' 519 b = nI (stF t k bk) := by rw [I2]; exact e1 z
        have fb := fb_stF (t := t) (k := k) (bk := bk)
        have t4 := C.2.2.2.1.2.1
        have f4 : stF t k bk < 100000 := by
          have : stF t k bk ≤ 9 + 16 * t.1 := fb
          omega
        have cb2 := C2.2.2.2.2.2.1
        refine ⟨h2', ?_, F.trans (Fr.bf F2), ?_, ?_, ⟨_, C2⟩, fun e => absurd e z⟩
        · rw [a2, cK_n, t_194_133 C2.1, nI_add, t_194_14 C2.1, ck_ok cb2, e2, ife (by omega) (by decide), if_neg z]
          by_cases y : i + 1 < 4000
          · rw [if_pos (nI_lt y (by decide)), ck_ok cb2]
          · rw [if_neg (nI_nlt (by omega) (by omega)), ck_ok cb2]
        · have := F2.ct.1; omega
        · have := F2.ct.2; omega
end CRA
