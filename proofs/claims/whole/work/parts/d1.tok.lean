/-! ===== TOKENS: what they are; the component goes from one to the next ===== -/
def tcd (c : Nat) : Nat := if 97 ≤ c ∧ c ≤ 122 then c - 96 else if 48 ≤ c ∧ c ≤ 57 then c - 21 else 0
theorem tcd_b {c : Nat} : tcd c < 37 := by unfold tcd; (repeat' split) <;> omega
def sgL : List Nat := [59, 44, 61, 60, 43, 45, 42, 47, 37, 40, 41, 123, 125, 91, 93, 64]
theorem sg_ch : chS 0 = sgL := by decide +kernel
/-- blanks are passed by; a run of codes is passed by -/
def skB (t : Tp) : Nat → Nat → Nat
  | 0, a => a
  | k + 1, a => if t.2 a = 32 ∨ t.2 a = 10 then skB t k (a + 1) else a
def rnB (t : Tp) (m : Nat) : Nat → Nat → Nat
  | 0, a => a
  | k + 1, a => if m ≤ tcd (t.2 a) then rnB t m k (a + 1) else a
theorem sk_b {t : Tp} : ∀ (k a : Nat), a ≤ skB t k a ∧ skB t k a ≤ a + k
  | 0, a => ⟨Nat.le_refl _, Nat.le_refl _⟩
  | k + 1, a => by
    have := sk_b (t := t) k (a + 1)
    rw [skB]; split <;> omega
theorem sk_n {t : Tp} : ∀ (k a : Nat), skB t k a < a + k → ¬ (t.2 (skB t k a) = 32 ∨ t.2 (skB t k a) = 10)
  | 0, a, q => absurd q (by rw [skB]; omega)
  | k + 1, a, q => by
    rw [skB] at q ⊢
    split
    · rename_i w
      rw [if_pos w] at q
      exact sk_n k (a + 1) (by omega)
    · rename_i w; exact w
theorem rn_b {t : Tp} {m : Nat} : ∀ (k a : Nat), a ≤ rnB t m k a ∧ rnB t m k a ≤ a + k
  | 0, a => ⟨Nat.le_refl _, Nat.le_refl _⟩
  | k + 1, a => by
    have := rn_b (t := t) (m := m) k (a + 1)
    rw [rnB]; split <;> omega
theorem rn_in {t : Tp} {m : Nat} : ∀ (k a i : Nat), a ≤ i → i < rnB t m k a → m ≤ tcd (t.2 i)
  | 0, a, i, h1, h2 => absurd h2 (by rw [rnB]; omega)
  | k + 1, a, i, h1, h2 => by
    rw [rnB] at h2
    by_cases w : m ≤ tcd (t.2 a)
    · rw [if_pos w] at h2
      by_cases e : i = a
      · rw [e]; exact w
      · exact rn_in k (a + 1) i (by omega) h2
    · rw [if_neg w] at h2; omega
def dgN (a : Nat) (l : List Nat) : Nat := l.foldl (fun a x => 10 * a + (x - 27)) a
def tcS (t : Tp) (i : Nat) : Nat := tcd (t.2 i)
/-- a token that begins at b: kind (0 END, 1 BAD, 2 NAME, 3 NUMBER, or the sign), value, where it begins, where it ends -/
def tokR (m : Nat) (t : Tp) (b e : Nat) : Nat × Nat × Nat × Nat := if m = 27 then (if 9 < e - b then 1 else 3, dgN 0 (sl (tcS t) b (e - b)), b, e) else (if 12 < e - b then 1 else 2, pkN 0 (sl (tcS t) b (e - b)), b, e)
def tokB (t : Tp) (b : Nat) : Nat × Nat × Nat × Nat :=
  if t.1 ≤ b then (0, 0, b, b)
  else if tcS t b = 0 then (if t.2 b ∈ sgL then t.2 b else 1, t.2 b, b, b + 1)
  else if 27 ≤ tcS t b then tokR 27 t b (rnB t 27 (t.1 - b) b) else tokR 1 t b (rnB t 1 (t.1 - b) b)
def tok (t : Tp) (a : Nat) : Nat × Nat × Nat × Nat := tokB t (skB t (t.1 - a) a)
/-- where the k-th token is looked for -/
def tkP (t : Tp) : Nat → Nat
  | 0 => 0
  | k + 1 => (tok t (tkP t k)).2.2.2
def tK (t : Tp) (k : Nat) : Nat := (tok t (tkP t k)).1
def tV (t : Tp) (k : Nat) : Nat := (tok t (tkP t k)).2.1
def tS (t : Tp) (k : Nat) : Nat := (tok t (tkP t k)).2.2.1
def tE (t : Tp) (k : Nat) : Nat := (tok t (tkP t k)).2.2.2
/-- what the component's tape says of the token that it looks at -/
def TkC (h : AH) (q : Nat × Nat × Nat × Nat) : Prop := gI h 3076 101 = nI q.1 ∧ (q.1 = 3 → gI h 3077 101 = nI q.2.1) ∧ (q.1 = 2 → gL h 3078 101 = lN q.2.1) ∧ gI h 3074 101 = nI q.2.2.1 ∧ gI h 3075 101 = nI q.2.2.2
theorem TkC.fr {K X : List Nat} {h h' : AH} {q : Nat × Nat × Nat × Nat} (T : TkC h q) (f : Fr K X h h') (hK : ∀ k, k ∈ [3074, 3075, 3076, 3077, 3078] → k ∉ K) : TkC h' q := by
  unfold TkC at T ⊢
  rw [f.I (hK 3076 (by decide)), f.I (hK 3077 (by decide)), f.L (hK 3078 (by decide)), f.I (hK 3074 (by decide)), f.I (hK 3075 (by decide))]; exact T
theorem tok_b {t : Tp} {a : Nat} (ha : a ≤ t.1) : a ≤ (tok t a).2.2.1 ∧ (tok t a).2.2.1 ≤ (tok t a).2.2.2 ∧ (tok t a).2.2.2 ≤ t.1 ∧ ((tok t a).1 = 0 → (tok t a).2.2.1 = t.1) ∧ ((tok t a).1 ≠ 0 → (tok t a).2.2.1 < (tok t a).2.2.2) := by
  have s1 := sk_b (t := t) (t.1 - a) a
  unfold tok tokB
  by_cases q : t.1 ≤ skB t (t.1 - a) a
  · rw [if_pos q]
    dsimp only
    exact ⟨by omega, by omega, by omega, fun _ => by omega, fun w => absurd rfl w⟩
  · rw [if_neg q]
    by_cases q1 : tcS t (skB t (t.1 - a) a) = 0
    · rw [if_pos q1]
      dsimp only
      refine ⟨by omega, by omega, by omega, fun w => absurd w ?_, fun _ => by omega⟩
      split
      · rename_i z
        intro w; rw [w] at z; exact absurd z (by decide)
      · decide
    · rw [if_neg q1]
      have nz : ∀ m, m = 27 ∨ m = 1 → m ≤ tcS t (skB t (t.1 - a) a) → skB t (t.1 - a) a < rnB t m (t.1 - skB t (t.1 - a) a) (skB t (t.1 - a) a) := fun m hm hc => by
        obtain ⟨j, hj⟩ : ∃ j, t.1 - skB t (t.1 - a) a = j + 1 := ⟨t.1 - skB t (t.1 - a) a - 1, by omega⟩
        rw [hj, rnB, if_pos (show m ≤ tcd (t.2 (skB t (t.1 - a) a)) from hc)]
        have := (rn_b (t := t) (m := m) j (skB t (t.1 - a) a + 1)).1
        omega
      have k : ∀ m e, (tokR m t (skB t (t.1 - a) a) e).2.2 = (skB t (t.1 - a) a, e) ∧ (tokR m t (skB t (t.1 - a) a) e).1 ≠ 0 := fun m e => by
        unfold tokR
        split
        · refine ⟨rfl, ?_⟩
          dsimp only
          split <;> decide
        · refine ⟨rfl, ?_⟩
          dsimp only
          split <;> decide
      by_cases q2 : 27 ≤ tcS t (skB t (t.1 - a) a)
      · rw [if_pos q2]
        have r := rn_b (t := t) (m := 27) (t.1 - skB t (t.1 - a) a) (skB t (t.1 - a) a)
        have z := nz 27 (Or.inl rfl) q2
        rw [(k 27 _).1]
        dsimp only
        exact ⟨by omega, by omega, by omega, fun w => absurd w (k 27 _).2, fun _ => z⟩
      · rw [if_neg q2]
        have r := rn_b (t := t) (m := 1) (t.1 - skB t (t.1 - a) a) (skB t (t.1 - a) a)
        have z := nz 1 (Or.inr rfl) (by omega)
        rw [(k 1 _).1]
        dsimp only
        exact ⟨by omega, by omega, by omega, fun w => absurd w (k 1 _).2, fun _ => z⟩
theorem tkP_b {t : Tp} : ∀ k, tkP t k ≤ t.1
  | 0 => Nat.zero_le _
  | k + 1 => (tok_b (tkP_b k)).2.2.1
theorem tS_b {t : Tp} {k : Nat} : tS t k ≤ t.1 ∧ tE t k ≤ t.1 ∧ tS t k ≤ tE t k := by
  have := tok_b (tkP_b (t := t) k)
  unfold tS tE; omega
section CTOK
variable {d : Nat} {t : Tp}
/-- what a run of codes comes to -/
noncomputable def xT (d : Nat) (x1 x2 : Int32) (h : AH) : Option Ot :=
   if gI h 3074 101 < gI h 3073 101 then
    if x1 = gI h 3074 101 then
     gd (gI h 3074 101) 4000 <|
     cK (E d 295 [.ref 0, .int (gA h 102 (ix (gI h 3074 101)))] (sI h 3075 101 x1)) (Q d 238 224 [some (.ref 101), some (.int x1), some (.int x2), none, none]) [.ref 101]
    else
     if x2 = nI 0 then
      if (nI 12) < x1 - (gI h 3074 101) then
       some (none, sI (sI h 3075 101 x1) 3076 101 (nI 1))
      else
       some (none, sI (sI h 3075 101 x1) 3076 101 (nI 2))
     else
      if (nI 9) < x1 - (gI h 3074 101) then
       some (none, sI (sI h 3075 101 x1) 3076 101 (nI 1))
      else
       some (none, sI (sI h 3075 101 x1) 3076 101 (nI 3))
   else
    some (none, sI (sI h 3075 101 x1) 3076 101 (nI 0))
theorem CT.sg' {h : AH} (T : CT h t) {i : Nat} (hi : i < t.1) : gA h 102 i = nI (t.2 i) ∧ t.2 i < 128 := by
  obtain ⟨a, b⟩ := T.2.2 i hi
  exact ⟨a, by omega⟩
theorem c_tcd {h : AH} (hs : Sh h) {c : Nat} (hc : c < 128) : E (d + 1) 294 [.int (nI c)] h = some (some (.int (nI (tcd c))), h) := c_code hs hc
theorem c_rn {b m : Nat} (hm : b = 0 ∧ m = 1 ∨ b = 1 ∧ m = 27) : ∀ (k a acc v : Nat) {h : AH}, Sh h → CT h t → k + a = t.1 → gL h 3078 101 = lN acc → gI h 3077 101 = nI v → ∃ h', Q (d + 1) 238 95 [some (.ref 101), some (.int (nI a)), some (.int (nI b)), some (.int (nI m)), none] [] h = xT (d + 1) (nI (rnB t m k a)) (nI b) h' ∧ Fr [3077, 3078] [] h h' ∧ gL h' 3078 101 = lN (pkN acc (sl (tcS t) a (rnB t m k a - a))) ∧ (b = 1 → gI h' 3077 101 = nI (dgN v (sl (tcS t) a (rnB t m k a - a))))
  | 0, a, acc, v, h, hs, T, e, e1, e2 => by
    refine ⟨h, ?_, Fr.rfl, ?_, fun _ => ?_⟩
    · have := T.2.1
      rw [t_238_95 hs, T.1, if_neg (nI_nlt (by omega) (by omega))]
      unfold xT
      rw [T.1]; rfl
    · rw [rnB, Nat.sub_self]; exact e1
    · rw [rnB, Nat.sub_self]; exact e2
  | k + 1, a, acc, v, h, hs, T, e, e1, e2 => by
    have t4 := T.2.1
    obtain ⟨g1, g2⟩ := T.sg' (show a < t.1 by omega)
    have hb := tcd_b (c := t.2 a)
    have hmb : m ≤ 27 := by omega
    rw [t_238_95 hs, T.1, if_pos (nI_lt (by omega) (by omega)), gd_nI (by omega) (by decide), ix_nI (by omega), g1, c_tcd hs g2, cK_v, t_238_112 hs, T.1, ifl (by omega) (by omega), rnB]
    by_cases q : m ≤ tcd (t.2 a)
    · rw [if_neg (by omega), if_pos q, gd_nI (by omega) (by decide), ix_nI (by omega), g1, c_tcd hs g2, cK_v, t_238_125 hs]
      have rb := (rn_b (t := t) (m := m) k (a + 1)).1
      have sE : sl (tcS t) a (rnB t m k (a + 1) - a) = tcd (t.2 a) :: sl (tcS t) (a + 1) (rnB t m k (a + 1) - (a + 1)) := by
        rw [show rnB t m k (a + 1) - a = (rnB t m k (a + 1) - (a + 1)) + 1 from by omega, sl]; rfl
      have eL : gL h 3078 101 * 37 + (nI (tcd (t.2 a))).toInt64 = lN (37 * acc + tcd (t.2 a)) := by
        rw [e1, nI_l (by omega), show (37 : Int64) = lN 37 from rfl, lN_mul, lN_add, Nat.mul_comm]
      rw [sE, eL, nI_add]
      rcases hm with ⟨hb0, hm1⟩ | ⟨hb1, hm1⟩
      · subst hb0
        have hf : Fr [3077, 3078] [] h (sL (sI h 3077 101 (nI 0)) 3078 101 (lN (37 * acc + tcd (t.2 a)))) := (Fr.rfl.sI (by decide)).sL (by decide)
        obtain ⟨h', f1, f2, f3, f4⟩ := c_rn (Or.inl ⟨rfl, hm1⟩) k (a + 1) (37 * acc + tcd (t.2 a)) 0 (hf.sh hs) (T.fr hf (by decide) (by decide)) (by omega) gL_s (by rw [gIL, gI_s])
        rw [if_pos rfl]
        exact ⟨h', f1, hf.trans f2, f3, fun w => absurd w (by decide)⟩
      · subst hb1
        have eI : gI h 3077 101 * nI 10 + nI (tcd (t.2 a)) - nI 27 = nI (10 * v + (tcd (t.2 a) - 27)) := by
          rw [e2, pk_mul, nI_add, pk_sub (by omega)]; congr 1; omega
        have hf : Fr [3077, 3078] [] h (sL (sI h 3077 101 (nI (10 * v + (tcd (t.2 a) - 27)))) 3078 101 (lN (37 * acc + tcd (t.2 a)))) := (Fr.rfl.sI (by decide)).sL (by decide)
        obtain ⟨h', f1, f2, f3, f4⟩ := c_rn (Or.inr ⟨rfl, hm1⟩) k (a + 1) (37 * acc + tcd (t.2 a)) (10 * v + (tcd (t.2 a) - 27)) (hf.sh hs) (T.fr hf (by decide) (by decide)) (by omega) gL_s (by rw [gIL, gI_s])
        rw [if_neg (by decide), eI]
        exact ⟨h', f1, hf.trans f2, f3, f4⟩
    · rw [if_pos (by omega), if_neg q]
      refine ⟨h, ?_, Fr.rfl, by rw [Nat.sub_self]; exact e1, fun _ => by rw [Nat.sub_self]; exact e2⟩
      unfold xT
      rw [T.1]
theorem c_sk {h : AH} (hs : Sh h) (T : CT h t) : ∀ (k a : Nat), k + a = t.1 → Q d 238 5 [some (.ref 101), some (.int (nI a)), none, none, none] [] h = Q d 238 5 [some (.ref 101), some (.int (nI (skB t k a))), none, none, none] [] h
  | 0, a, e => rfl
  | k + 1, a, e => by
    have t4 := T.2.1
    obtain ⟨g1, g2⟩ := T.sg' (show a < t.1 by omega)
    rw [skB]
    by_cases q : t.2 a = 32 ∨ t.2 a = 10
    · rw [if_pos q, ← c_sk hs T k (a + 1) (by omega), t_238_5 hs, T.1, if_pos (nI_lt (by omega) (by omega)), gd_nI (by omega) (by decide), gd_nI (by omega) (by decide), ix_nI (by omega), g1, nI_add]
      rcases q with q | q
      · rw [if_pos (by rw [q])]
      · rw [q, if_neg (by decide), if_pos rfl]
    · rw [if_neg q]
/-- the next token -/
theorem c_adv {a : Nat} {h : AH} (hs : Sh h) (k : KS h) (T : CT h t) (ha : a ≤ t.1) (e : gI h 3075 101 = nI a) : ∃ h', E (d + 7) 238 [.ref 101] h = some (none, h') ∧ Fr [3074, 3075, 3076, 3077, 3078] [] h h' ∧ TkC h' (tok t a) := by
  have t4 := T.2.1
  have sb := sk_b (t := t) (t.1 - a) a
  have hn := sk_n (t := t) (t.1 - a) a
  rw [t_238 hs, e, c_sk hs T (t.1 - a) a (by omega)]
  unfold tok
  generalize skB t (t.1 - a) a = b at *
  have hf : Fr [3074, 3075, 3076, 3077, 3078] [] h (sL (sI (sI h 3074 101 (nI b)) 3077 101 (nI 0)) 3078 101 0) := ((Fr.rfl.sI (by decide)).sI (by decide)).sL (by decide)
  have hs1 := hf.sh hs
  have T1 := T.fr hf (by decide) (by decide)
  have w1 : gL (sL (sI (sI h 3074 101 (nI b)) 3077 101 (nI 0)) 3078 101 0) 3078 101 = lN 0 := by rw [gL_s]; rfl
  have w2 : gI (sL (sI (sI h 3074 101 (nI b)) 3077 101 (nI 0)) 3078 101 0) 3077 101 = nI 0 := by rw [gIL, gI_s]
  have w3 : gI (sL (sI (sI h 3074 101 (nI b)) 3077 101 (nI 0)) 3078 101 0) 3074 101 = nI b := by rw [gIL, gI_k (by decide), gI_s]
  have fin : ∀ (g : AH) (kd en : Nat), Fr [3077, 3078] [] (sL (sI (sI h 3074 101 (nI b)) 3077 101 (nI 0)) 3078 101 0) g → Fr [3074, 3075, 3076, 3077, 3078] [] h (sI (sI g 3075 101 (nI en)) 3076 101 (nI kd)) ∧ gI (sI (sI g 3075 101 (nI en)) 3076 101 (nI kd)) 3076 101 = nI kd ∧ gI (sI (sI g 3075 101 (nI en)) 3076 101 (nI kd)) 3075 101 = nI en ∧ gI (sI (sI g 3075 101 (nI en)) 3076 101 (nI kd)) 3074 101 = nI b ∧ gI (sI (sI g 3075 101 (nI en)) 3076 101 (nI kd)) 3077 101 = gI g 3077 101 := fun g kd en fg => by
    refine ⟨(((hf.trans (fg.wk (by decide) (by decide))).sI (by decide)).sI (by decide)), ?_, ?_, ?_, ?_⟩
    · rw [gI_s]
    · rw [gI_k (by decide), gI_s]
    · rw [gI_k (by decide), gI_k (by decide), fg.I (by decide)]; exact w3
    · rw [gI_k (by decide), gI_k (by decide)]
  unfold tokB
  by_cases q : t.1 ≤ b
  · rw [if_pos q, t_238_5 hs, T.1, if_neg (nI_nlt q (by omega)), if_neg (nI_nlt q (by omega)), if_pos rfl]
    obtain ⟨g, f1, f2, f3, f4⟩ := c_rn (d := d + 5) (t := t) (Or.inl ⟨rfl, rfl⟩) 0 b 0 0 hs1 T1 (by omega) w1 w2
    rw [f1]
    unfold xT
    rw [f2.I (show 3074 ∉ [3077, 3078] by decide), f2.I (show 3073 ∉ [3077, 3078] by decide), w3, T1.1, if_neg (nI_nlt q (by omega)), rnB]
    obtain ⟨y1, y2, y3, y4, y5⟩ := fin g 0 b f2
    exact ⟨_, rfl, y1, y2, fun z => absurd z (by dsimp only; decide), fun z => absurd z (by dsimp only; decide), y4, y3⟩
  · rw [if_neg q]
    obtain ⟨g1, g2⟩ := T.sg' (show b < t.1 by omega)
    have nb : ¬ (t.2 b = 32 ∨ t.2 b = 10) := hn (by omega)
    have go : ∀ (bb m : Nat), bb = 0 ∧ m = 1 ∨ bb = 1 ∧ m = 27 → (27 ≤ tcS t b ↔ bb = 1) → Q (d + 6) 238 5 [some (.ref 101), some (.int (nI b)), none, none, none] [] h = Q (d + 6) 238 95 [some (.ref 101), some (.int (nI b)), some (.int (nI bb)), some (.int (nI m)), none] [] (sL (sI (sI h 3074 101 (nI b)) 3077 101 (nI 0)) 3078 101 0) := fun bb m hm hi => by
      have hb := tcd_b (c := t.2 b)
      rw [t_238_5 hs, T.1, if_pos (nI_lt (by omega) (by omega)), gd_nI (by omega) (by decide), gd_nI (by omega) (by decide), ix_nI (by omega), g1, if_neg (fun z => nb (Or.inl ((nI_eq (by omega) (by decide)).mp z))), if_neg (fun z => nb (Or.inr ((nI_eq (by omega) (by decide)).mp z))), if_pos (nI_lt (by omega) (by omega)), gd_nI (by omega) (by decide), c_tcd hs1 g2, cK_v, t_238_73 hs1, ifl (by omega) (by omega)]
      rcases hm with ⟨rfl, rfl⟩ | ⟨rfl, rfl⟩
      · rw [if_pos (by have : ¬ 27 ≤ tcd (t.2 b) := fun z => absurd (hi.mp z) (by decide); omega), if_pos rfl]
      · rw [if_neg (by have : 27 ≤ tcd (t.2 b) := hi.mpr rfl; omega), if_neg (by decide)]
    by_cases q1 : tcS t b = 0
    · rw [if_pos q1, go 0 1 (Or.inl ⟨rfl, rfl⟩) ⟨fun z => by omega, fun z => absurd z (by decide)⟩]
      obtain ⟨g, f1, f2, f3, f4⟩ := c_rn (d := d + 5) (t := t) (Or.inl ⟨rfl, rfl⟩) (t.1 - b) b 0 0 hs1 T1 (by omega) w1 w2
      have rE : rnB t 1 (t.1 - b) b = b := by
        obtain ⟨j, hj⟩ : ∃ j, t.1 - b = j + 1 := ⟨t.1 - b - 1, by omega⟩
        rw [hj, rnB, if_neg (by have : tcd (t.2 b) = 0 := q1; omega)]
      rw [f1, rE]
      have hsg := f2.sh hs1
      have Tg := T1.fr f2 (by decide) (by decide)
      have hse : Sh (sI g 3075 101 (nI b)) := hsg.sI
      have kg : KS (sI g 3075 101 (nI b)) := ((k.fr hf (by decide) (by decide)).fr f2 (by decide) (by decide)).fr (Fr.rfl.sI (List.mem_singleton.mpr rfl)) (by decide) (fun x hx => absurd hx List.not_mem_nil) (K := [3075]) (X := [])
      obtain ⟨r, r1, r2⟩ := c_ixOf (d := d + 1) hse kg (z := 0) (c := t.2 b) (by decide) g2 (by rw [sg_ch]; decide)
      rw [sg_ch] at r2
      have c101 : gC (sI g 3075 101 (nI b)) 101 = 12 := hse.t101.1
      unfold xT
      rw [f2.I (show 3074 ∉ [3077, 3078] by decide), f2.I (show 3073 ∉ [3077, 3078] by decide), w3, T1.1, if_pos (nI_lt (by omega) (by omega)), if_pos rfl, gd_nI (by omega) (by decide), ix_nI (by omega), (Tg.sg' (show b < t.1 by omega)).1, r1, cK_v, t_238_224 hse, ck_ok c101, ck_ok c101]
      have eI : gI (sI g 3075 101 (nI b)) 3074 101 = nI b := by
        rw [gI_k (by decide), f2.I (by decide)]; exact w3
      have eA : gA (sI g 3075 101 (nI b)) 102 b = nI (t.2 b) := (Tg.sg' (show b < t.1 by omega)).1
      rw [eI, gd_nI (by omega) (by decide), ix_nI (by omega), eA, nI_add]
      have out : ∀ kd : Nat, kd ≠ 2 → kd ≠ 3 → Fr [3074, 3075, 3076, 3077, 3078] [] h (sI (sI (sI g 3075 101 (nI b)) 3076 101 (nI kd)) 3075 101 (nI (b + 1))) ∧ TkC (sI (sI (sI g 3075 101 (nI b)) 3076 101 (nI kd)) 3075 101 (nI (b + 1))) (kd, t.2 b, b, b + 1) := fun kd n2 n3 => by
        refine ⟨((((hf.trans (f2.wk (by decide) (by decide))).sI (by decide)).sI (by decide)).sI (by decide)), ?_, fun z => absurd z n3, fun z => absurd z n2, ?_, ?_⟩
        · rw [gI_k (by decide), gI_s]
        · rw [gI_k (by decide), gI_k (by decide)]; exact eI
        · rw [gI_s]
      by_cases q3 : t.2 b ∈ sgL
      · rw [if_neg fun z => (r2.mp z) q3, if_pos q3]
        have ne : ∀ c, c ∈ sgL → c ≠ 2 ∧ c ≠ 3 := by decide
        obtain ⟨o1, o2⟩ := out (t.2 b) (ne _ q3).1 (ne _ q3).2
        exact ⟨_, rfl, o1, o2⟩
      · rw [if_pos (r2.mpr q3), if_neg q3]
        obtain ⟨o1, o2⟩ := out 1 (by decide) (by decide)
        exact ⟨_, rfl, o1, o2⟩
    · rw [if_neg q1]
      have nz : ∀ m, m ≤ tcS t b → b < rnB t m (t.1 - b) b := fun m hc => by
        obtain ⟨j, hj⟩ : ∃ j, t.1 - b = j + 1 := ⟨t.1 - b - 1, by omega⟩
        rw [hj, rnB, if_pos (show m ≤ tcd (t.2 b) from hc)]
        have := (rn_b (t := t) (m := m) j (b + 1)).1
        omega
      by_cases q2 : 27 ≤ tcS t b
      · rw [if_pos q2, go 1 27 (Or.inr ⟨rfl, rfl⟩) ⟨fun _ => rfl, fun _ => q2⟩]
        have rb := rn_b (t := t) (m := 27) (t.1 - b) b
        have z := nz 27 q2
        obtain ⟨g, f1, f2, f3, f4⟩ := c_rn (d := d + 5) (t := t) (Or.inr ⟨rfl, rfl⟩) (t.1 - b) b 0 0 hs1 T1 (by omega) w1 w2
        rw [f1]
        unfold xT tokR
        rw [f2.I (show 3074 ∉ [3077, 3078] by decide), f2.I (show 3073 ∉ [3077, 3078] by decide), w3, T1.1, if_pos (nI_lt (by omega) (by omega)), if_neg (fun w => by have := (nI_eq (by omega) (by omega)).mp w; omega), if_neg (by decide), pk_sub (by omega), ifl (by decide) (by omega), if_pos (rfl : 27 = 27)]
        by_cases q4 : 9 < rnB t 27 (t.1 - b) b - b
        · rw [if_pos q4, if_pos q4]
          obtain ⟨y1, y2, y3, y4, y5⟩ := fin g 1 (rnB t 27 (t.1 - b) b) f2
          exact ⟨_, rfl, y1, y2, fun z => absurd z (by dsimp only; decide), fun z => absurd z (by dsimp only; decide), y4, y3⟩
        · rw [if_neg q4, if_neg q4]
          obtain ⟨y1, y2, y3, y4, y5⟩ := fin g 3 (rnB t 27 (t.1 - b) b) f2
          exact ⟨_, rfl, y1, y2, fun _ => by rw [y5]; exact f4 rfl, fun z => absurd z (by dsimp only; decide), y4, y3⟩
      · rw [if_neg q2, go 0 1 (Or.inl ⟨rfl, rfl⟩) ⟨fun z => absurd z q2, fun z => absurd z (by decide)⟩]
        have rb := rn_b (t := t) (m := 1) (t.1 - b) b
        have z := nz 1 (by omega)
        obtain ⟨g, f1, f2, f3, f4⟩ := c_rn (d := d + 5) (t := t) (Or.inl ⟨rfl, rfl⟩) (t.1 - b) b 0 0 hs1 T1 (by omega) w1 w2
        rw [f1]
        unfold xT tokR
        rw [f2.I (show 3074 ∉ [3077, 3078] by decide), f2.I (show 3073 ∉ [3077, 3078] by decide), w3, T1.1, if_pos (nI_lt (by omega) (by omega)), if_neg (fun w => by have := (nI_eq (by omega) (by omega)).mp w; omega), if_pos rfl, pk_sub (by omega), ifl (by decide) (by omega), if_neg (show ¬ (1 : Nat) = 27 by decide)]
        by_cases q4 : 12 < rnB t 1 (t.1 - b) b - b
        · rw [if_pos q4, if_pos q4]
          obtain ⟨y1, y2, y3, y4, y5⟩ := fin g 1 (rnB t 1 (t.1 - b) b) f2
          exact ⟨_, rfl, y1, y2, fun z => absurd z (by dsimp only; decide), fun z => absurd z (by dsimp only; decide), y4, y3⟩
        · rw [if_neg q4, if_neg q4]
          obtain ⟨y1, y2, y3, y4, y5⟩ := fin g 2 (rnB t 1 (t.1 - b) b) f2
          exact ⟨_, rfl, y1, y2, fun z => absurd z (by dsimp only; decide), fun _ => by exact f3, y4, y3⟩
/-- to begin with, and on -/
theorem c_nxt {j : Nat} {h : AH} (hs : Sh h) (k : KS h) (T : CT h t) (e : TkC h (tok t (tkP t j))) : ∃ h', E (d + 7) 238 [.ref 101] h = some (none, h') ∧ Fr [3074, 3075, 3076, 3077, 3078] [] h h' ∧ TkC h' (tok t (tkP t (j + 1))) :=
  c_adv hs k T (tkP_b (j + 1)) e.2.2.2.2
theorem c_rewind {h : AH} (hs : Sh h) (k : KS h) (T : CT h t) : ∃ h', E (d + 8) 230 [.ref 101] h = some (none, h') ∧ Fr [3074, 3075, 3076, 3077, 3078] [] h h' ∧ TkC h' (tok t (tkP t 0)) := by
  have hf : Fr [3074, 3075, 3076, 3077, 3078] [] h (sI h 3075 101 (nI 0)) := Fr.rfl.sI (by decide)
  obtain ⟨h', f1, f2, f3⟩ := c_adv (d := d) (a := 0) (hf.sh hs) (k.fr hf (by decide) (by decide)) (T.fr hf (by decide) (by decide)) (Nat.zero_le _) gI_s
  exact ⟨h', by rw [t_230 hs, f1, cK_n, t_230_9 (f2.sh (hf.sh hs))], hf.trans f2, f3⟩
end CTOK
