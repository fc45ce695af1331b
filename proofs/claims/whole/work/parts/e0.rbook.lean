/-! ===== THE WHOLE BOOK (reference) ===== -/
theorem RB.cg {h h' : AH} {w : Nat} {bk : Bk} (R : RB h w bk) (a : gA h' = gA h) (b : gB h' = gB h) : RB h' w bk := by
  unfold RB at R ⊢; rw [a, b]; exact R
/-- a book as it is read: the fault, and what was read -/
def bkS (t : Tp) : Nat → Nat → Bk → Nat × Bk
  | 0, _, bk => (0, bk)
  | n + 1, k, bk => if tK t k = 0 then (0, bk) else if stF t k bk = 0 then bkS t n (stN t k) (stB t k bk) else (stF t k bk, bk)
section RTO
variable {d : Nat} {h0 h : AH} {t : Tp} {M w k f : Nat} {bk : Bk}
theorem r_told (hw : w ≤ 1) (X : WX bk) (I : RIb h0 t M w k 0 h) (B : RB h w bk) (q0 : tK t k ≠ 0) : ∃ h', E (d + 6) 44 [.ref 189] h = some (none, h') ∧ RIb h0 t M w (stN t k) (stF t k bk) h' ∧ (stF t k bk = 0 → RB h' w (stB t k bk)) := by
  have W := X.1
  have hs := I.1
  have fin : ∀ {g : AH} {p f : Nat} {B' : Bk}, RIb h0 t M w p f g → (f = 0 → RB g w B') → ∃ h', Q (d + 5) 44 82 [some (.ref 189)] [] g = some (none, h') ∧ RIb h0 t M w (p + 1) (st f (fS t p 59)) h' ∧ (st f (fS t p 59) = 0 → RB h' w B') := fun {g p f B'} I' RB' => by
    obtain ⟨h', a1, a2, a3⟩ := r_tS (d := d + 3) I'.1 I'.2.2.1 (c := 59) (by decide) (by decide)
    rw [t_44_82 I'.1, a1, cK_n, t_44_88 (a2.sh I'.1)]
    exact ⟨h', rfl, I'.op a2 a3, fun z => (RB' (st_0.mp z).1).cg a2.gA' a2.gB'⟩
  have iw : ∀ j, j < 74 → E (d + 5) 45 [.ref 189, .int (nI j)] h = some (some (.int (nI (if isW t k (kw j) then 1 else 0))), h) := fun j hj => by
    rw [r_isW hs I.2.1 I.2.2.1 hj]
    by_cases q : isW t k (kw j)
    · rw [b1 q, b1 (show 0 = 0 ∧ isW t k (kw j) from ⟨rfl, q⟩)]
    · rw [b0 q, b0 (show ¬ (0 = 0 ∧ isW t k (kw j)) from fun z => q z.2)]
  rw [t_44 hs, iw 1 (by decide), cK_v, t_44_5 hs]
  unfold stF stN stB
  by_cases q1 : isW t k (kw 1)
  · obtain ⟨h1, a1, I1, B1⟩ := r_office (d := d + 1) hw W I B q0
    rw [b1 q1, if_neg (by decide), a1, cK_n, t_44_12 I1.1, if_pos q1, if_pos q1, if_pos q1]
    exact fin I1 B1
  rw [b0 q1, if_pos rfl, iw 2 (by decide), cK_v, t_44_20 hs, if_neg q1, if_neg q1, if_neg q1]
  by_cases q2 : isW t k (kw 2)
  · obtain ⟨h1, a1, I1, B1⟩ := r_short' (d := d + 1) hw W I B q0
    rw [b1 q2, if_neg (by decide), a1, cK_n, t_44_27 I1.1, if_pos q2, if_pos q2, if_pos q2]
    exact fin I1 B1
  rw [b0 q2, if_pos rfl, iw 3 (by decide), cK_v, t_44_35 hs, if_neg q2, if_neg q2, if_neg q2]
  by_cases q3 : isW t k (kw 3)
  · obtain ⟨h1, a1, I1, B1⟩ := r_street (d := d + 1) hw W I B q0
    rw [b1 q3, if_neg (by decide), a1, cK_n, t_44_42 I1.1, if_pos q3, if_pos q3, if_pos q3]
    exact fin I1 B1
  rw [b0 q3, if_pos rfl, iw 15 (by decide), cK_v, t_44_51 hs, if_neg q3, if_neg q3, if_neg q3]
  by_cases q4 : isW t k (kw 15)
  · obtain ⟨h1, a1, I1, B1⟩ := r_service (d := d) hw W X.2.2.1 I B q0
    rw [b1 q4, if_neg (by decide), a1, cK_n, t_44_58 I1.1, if_pos q4, if_pos q4, if_pos q4]
    exact fin I1 B1
  rw [b0 q4, if_pos rfl, iw 28 (by decide), cK_v, t_44_67 hs, if_neg q4, if_neg q4, if_neg q4]
  by_cases q5 : isW t k (kw 28)
  · obtain ⟨h1, a1, I1, B1⟩ := r_coach (d := d + 1) hw W I B q0
    rw [b1 q5, if_neg (by decide), a1, cK_n, t_44_74 I1.1, if_pos q5]
    exact fin I1 B1
  · obtain ⟨h1, a1, a2, a3⟩ := r_wrong (d := d + 4) hs I.2.2.1 (c := 1) (by decide) (by decide)
    rw [b0 q5, if_pos rfl, a1, cK_n, if_neg q5]
    have nz : fX t 1 k ≠ 0 := fX_n (by decide)
    obtain ⟨h2, o1, o2, o3⟩ := fin (B' := cBk t k bk) (I.op (a2.wk (by decide) (by decide)) a3) (fun z => absurd z nz)
    have e : ∀ c, st (st 0 (fX t 1 k)) c = fX t 1 k := fun c => if_neg nz
    rw [e] at o2
    exact ⟨h2, o1, o2.op Fr.rfl (o2.2.2.1.any nz _), fun z => absurd z nz⟩
theorem r_bklp (hw : w ≤ 1) : ∀ (n k : Nat) (bk : Bk) {h : AH}, M < n + k → WX bk → RIb h0 t M w k 0 h → RB h w bk → ∃ h' k', RIb h0 t M w k' (bkS t n k bk).1 h' ∧ ((bkS t n k bk).1 ≠ 0 → Q (d + 6) 35 73 [some (.ref 189)] [] h = some (some (.int (nI (bkS t n k bk).1)), h')) ∧ ((bkS t n k bk).1 = 0 → Q (d + 6) 35 73 [some (.ref 189)] [] h = cK (E (d + 6) 31 [.ref 189] (sI h' 3597 189 (nI w))) (Q (d + 6) 35 123 [some (.ref 189)]) [] ∧ RB h' w (bkS t n k bk).2 ∧ WX (bkS t n k bk).2) := by
  intro n
  induction n with
  | zero =>
    intro k bk h hM X I B
    have := (I.2.2.1.at rfl).2.1
    omega
  | succ n ih =>
    intro k bk h hM X I B
    have hs := I.1
    obtain ⟨c1, c2, c3, c4⟩ := I.2.2.1.at rfl
    rw [bkS]
    by_cases q : tK t k = 0
    · rw [if_pos q]
      refine ⟨h, k, I, fun z => absurd rfl z, fun _ => ⟨?_, B, X⟩⟩
      rw [t_35_73 hs, I.2.2.1.2.1, if_pos rfl, c1, gd_nI (by omega) (by decide), ix_nI (by omega), c4.1, if_pos (by rw [q]; rfl), if_neg (by decide), I.2.2.2.1]
    · rw [if_neg q]
      obtain ⟨h1, a1, I1, B1⟩ := r_told (d := d) hw X I B q
      have stp : Q (d + 6) 35 73 [some (.ref 189)] [] h = Q (d + 6) 35 73 [some (.ref 189)] [] h1 := by
        rw [t_35_73 hs, I.2.2.1.2.1, if_pos rfl, c1, gd_nI (by omega) (by decide), ix_nI (by omega), c4.1, if_neg (fun z => q (rk_1.2.2.1.mp ((nI_eq (by have := (rk_1 (x := tK t k)).2.2.2.2; omega) (by decide)).mp z))), a1, cK_n, t_35_96 I1.1]
      rw [stp]
      by_cases z : stF t k bk = 0
      · rw [if_pos z]
        have I2 := I1
        rw [z] at I2
        have := stN_b (t := t) (k := k)
        exact ih (stN t k) (stB t k bk) (by omega) (X.st z) I2 (B1 z)
      · rw [if_neg z]
        have lt := I1.2.2.1.2.2.1
        refine ⟨h1, _, I1, fun _ => ?_, fun y => absurd y z⟩
        rw [t_35_73 I1.1, I1.2.2.1.2.1, if_neg fun y => z ((nI_eq (Nat.lt_trans lt (by decide)) (by decide)).mp y), if_pos (nI_lt (by omega) (Nat.lt_trans lt (by decide)))]
/-- all that came after a book is forgotten -/
theorem lpA {y pc x n : Nat} {v : Int32} {T : AH → Option Ot} (hst : ∀ (g : AH) (i : Nat), Sh g → i ≤ n → Q d y pc [some (.ref 189), some (.int (nI i))] [] g = if i < n then Q d y pc [some (.ref 189), some (.int (nI (i + 1)))] [] (sA g x i v) else T g) : ∀ (r i : Nat) {h : AH}, r + i = n → Sh h → (∀ j, j < i → gA h x j = v) → ∃ h', Q d y pc [some (.ref 189), some (.int (nI i))] [] h = T h' ∧ Fr [] [x] h h' ∧ ∀ j, j < n → gA h' x j = v := by
  intro r
  induction r with
  | zero => intro i h e hs hj; exact ⟨h, by rw [hst h i hs (by omega), if_neg (by omega)], Fr.rfl, fun j q => hj j (by omega)⟩
  | succ r ih =>
    intro i h e hs hj
    have F : Fr [] [x] h (sA h x i v) := Fr.rfl.sA (List.mem_singleton.mpr rfl)
    obtain ⟨h', o1, o2, o3⟩ := ih (i + 1) (by omega) (F.sh hs) (fun j q => by
      rw [gA_s]
      by_cases z : j = i
      · rw [z, up1_s]
      · rw [up1_x z]; exact hj j (by omega))
    exact ⟨h', by rw [hst h i hs (by omega), if_pos (by omega)]; exact o1, F.trans o2, o3⟩
theorem lpB {y pc x n : Nat} {v : Int64} {T : AH → Option Ot} (hst : ∀ (g : AH) (i : Nat), Sh g → i ≤ n → Q d y pc [some (.ref 189), some (.int (nI i))] [] g = if i < n then Q d y pc [some (.ref 189), some (.int (nI (i + 1)))] [] (sB g x i v) else T g) : ∀ (r i : Nat) {h : AH}, r + i = n → Sh h → (∀ j, j < i → gB h x j = v) → ∃ h', Q d y pc [some (.ref 189), some (.int (nI i))] [] h = T h' ∧ Fr [] [x] h h' ∧ ∀ j, j < n → gB h' x j = v := by
  intro r
  induction r with
  | zero => intro i h e hs hj; exact ⟨h, by rw [hst h i hs (by omega), if_neg (by omega)], Fr.rfl, fun j q => hj j (by omega)⟩
  | succ r ih =>
    intro i h e hs hj
    have F : Fr [] [x] h (sB h x i v) := Fr.rfl.sB (List.mem_singleton.mpr rfl)
    obtain ⟨h', o1, o2, o3⟩ := ih (i + 1) (by omega) (F.sh hs) (fun j q => by
      rw [gB_s]
      by_cases z : j = i
      · rw [z, up1_s]
      · rw [up1_x z]; exact hj j (by omega))
    exact ⟨h', by rw [hst h i hs (by omega), if_pos (by omega)]; exact o1, F.trans o2, o3⟩
/-- the reference's numbers, hands and trays are as at first -/
def RZ (h : AH) : Prop := (∀ k, k < 10 → gB h 282 k = 0) ∧ (∀ k, k < 4 → gA h 283 k = -1) ∧ ∀ k, k < 12 → gA h 284 k = -1
theorem r_fgRun (hs : Sh h) : ∃ h', E (d + 1) 32 [.ref 189] h = some (none, h') ∧ Fr [] [282, 283, 284] h h' ∧ RZ h' := by
  obtain ⟨h1, a1, a2, a3⟩ := lpB (d := d) (y := 32) (pc := 2) (x := 282) (n := 10) (v := 0) (T := fun g => Q d 32 23 [some (.ref 189), some (.int (nI 0))] [] g) (fun g i hg hi => by
    rw [t_32_2 hg, ifl (by omega) (by decide)]
    by_cases q : i < 10
    · rw [if_pos q, if_pos q, gd_nI q (by decide), ix_nI (by omega), nI_add]
    · rw [if_neg q, if_neg q]) 10 0 rfl hs (fun j q => absurd q (by omega))
  have hs1 := a2.sh hs
  obtain ⟨h2, b1, b2, b3⟩ := lpA (d := d) (y := 32) (pc := 23) (x := 283) (n := 4) (v := -1) (T := fun g => Q d 32 43 [some (.ref 189), some (.int (nI 0))] [] g) (fun g i hg hi => by
    rw [t_32_23 hg, ifl (by omega) (by decide)]
    by_cases q : i < 4
    · rw [if_pos q, if_pos q, gd_nI q (by decide), ix_nI (by omega), nI_add]
    · rw [if_neg q, if_neg q]) 4 0 rfl hs1 (fun j q => absurd q (by omega))
  have hs2 := b2.sh hs1
  obtain ⟨h3, c1, c2, c3⟩ := lpA (d := d) (y := 32) (pc := 43) (x := 284) (n := 12) (v := -1) (T := fun g => some (none, g)) (fun g i hg hi => by
    rw [t_32_43 hg, ifl (by omega) (by decide)]
    by_cases q : i < 12
    · rw [if_pos q, if_pos q, gd_nI q (by decide), ix_nI (by omega), nI_add]
    · rw [if_neg q, if_neg q]) 12 0 rfl hs2 (fun j q => absurd q (by omega))
  refine ⟨h3, ?_, ((a2.wk (by decide) (by decide)).trans (b2.wk (by decide) (by decide))).trans (c2.wk (by decide) (by decide)), fun k hk => ?_, fun k hk => ?_, c3⟩
  · rw [t_32 hs, a1, b1, c1]
  · rw [c2.B (by decide), b2.B (by decide)]; exact a3 k hk
  · rw [c2.A (by decide)]; exact b3 k hk
/-- all fields that are forgotten -/
def RZ0 (h : AH) : Prop := RZ h ∧ (∀ k, k < 40 → gA h 257 k = nI 0) ∧ (∀ k, k < 16 → gA h 255 k = nI 0) ∧ gI h 3654 189 = nI 0 ∧ gI h 3677 189 = nI 0 ∧ gI h 3678 189 = nI 7 ∧ gI h 3688 189 = nI 0 ∧ gI h 3676 189 = nI 0 ∧ gI h 3720 189 = nI 0 ∧ gI h 3667 189 = nI 0 ∧ gI h 3644 189 = -1 ∧ gI h 3645 189 = -1 ∧ gI h 3653 189 = -1 ∧ gI h 3695 189 = nI 0 ∧ gI h 3679 189 = -1
abbrev KZ : List Nat := [3654, 3677, 3678, 3688, 3676, 3720, 3667, 3644, 3645, 3653, 3695, 3679]
abbrev XZ : List Nat := [255, 257, 282, 283, 284]
theorem r_forget (hs : Sh h) : ∃ h', E (d + 2) 31 [.ref 189] h = some (none, h') ∧ Fr KZ XZ h h' ∧ RZ0 h' := by
  have F0 : Fr KZ XZ h (sI (sI (sI (sI (sI (sI (sI (sI (sI (sI (sI (sI h 3654 189 (nI 0)) 3677 189 (nI 0)) 3678 189 (nI 7)) 3688 189 (nI 0)) 3676 189 (nI 0)) 3720 189 (nI 0)) 3667 189 (nI 0)) 3644 189 (-1)) 3645 189 (-1)) 3653 189 (-1)) 3695 189 (nI 0)) 3679 189 (-1)) := ((((((((((((Fr.rfl.sI (by decide)).sI (by decide)).sI (by decide)).sI (by decide)).sI (by decide)).sI (by decide)).sI (by decide)).sI (by decide)).sI (by decide)).sI (by decide)).sI (by decide)).sI (by decide))
  have hs0 := F0.sh hs
  obtain ⟨h1, a1, a2, a3⟩ := lpA (d := d + 1) (y := 31) (pc := 63) (x := 257) (n := 40) (v := nI 0) (T := fun g => Q (d + 1) 31 84 [some (.ref 189), some (.int (nI 0))] [] g) (fun g i hg hi => by
    rw [t_31_63 hg, ifl (by omega) (by decide)]
    by_cases q : i < 40
    · rw [if_pos q, if_pos q, gd_nI q (by decide), ix_nI (by omega), nI_add]
    · rw [if_neg q, if_neg q]) 40 0 rfl hs0 (fun j q => absurd q (by omega))
  have hs1 := a2.sh hs0
  obtain ⟨h2, b1, b2, b3⟩ := lpA (d := d + 1) (y := 31) (pc := 84) (x := 255) (n := 16) (v := nI 0) (T := fun g => cK (E (d + 1) 32 [.ref 189] g) (Q (d + 1) 31 107 [some (.ref 189), some (.int (nI 16))]) []) (fun g i hg hi => by
    rw [t_31_84 hg, ifl (by omega) (by decide)]
    by_cases q : i < 16
    · rw [if_pos q, if_pos q, gd_nI q (by decide), ix_nI (by omega), nI_add]
    · rw [if_neg q, if_neg q, show i = 16 from by omega]) 16 0 rfl hs1 (fun j q => absurd q (by omega))
  have hs2 := b2.sh hs1
  obtain ⟨h3, c1, c2, c3⟩ := r_fgRun (d := d) hs2
  have F := ((F0.trans (a2.wk (by decide) (by decide))).trans (b2.wk (by decide) (by decide))).trans (c2.wk (K' := KZ) (X' := XZ) (by decide) (by decide))
  have gi : ∀ k, gI h3 k = gI (sI (sI (sI (sI (sI (sI (sI (sI (sI (sI (sI (sI h 3654 189 (nI 0)) 3677 189 (nI 0)) 3678 189 (nI 7)) 3688 189 (nI 0)) 3676 189 (nI 0)) 3720 189 (nI 0)) 3667 189 (nI 0)) 3644 189 (-1)) 3645 189 (-1)) 3653 189 (-1)) 3695 189 (nI 0)) 3679 189 (-1)) k := fun k => by
    rw [c2.I List.not_mem_nil, b2.I List.not_mem_nil, a2.I List.not_mem_nil]
  refine ⟨h3, ?_, F, c3, fun k hk => ?_, fun k hk => ?_, ?_⟩
  · rw [t_31 hs, a1, b1, c1, cK_n, t_31_107 (c2.sh hs2)]
  · rw [c2.A (by decide), b2.A (by decide)]; exact a3 k hk
  · rw [c2.A (by decide)]; exact b3 k hk
  · rw [gi, gi, gi, gi, gi, gi, gi, gi, gi, gi, gi, gi]
    simp (decide := true) only [gI_s, gI_k, ne_eq, not_false_eq_true, and_self]
end RTO
