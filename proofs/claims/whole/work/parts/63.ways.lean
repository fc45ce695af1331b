/-! ===== WAYS: the earliest arrivals, without the machine ===== -/
section WAY
variable {bk : Bk}
/-- where and when one is behind coaches (the last one first), from the office s at t0 on -/
def wk (bk : Bk) (s t0 : Nat) : List Nat → Option (Nat × Nat)
  | [] => some (s, t0)
  | c :: cs => match wk bk s t0 cs with
    | some (o, t) => if c < bk 0 3 ∧ bk 25 c = o then some (bk 26 c, tbC bk c t + bk 30 c) else none
    | none => none
/-- labels that are reached -/
def LSnd (bk : Bk) (s t0 : Nat) (L : Nat → Option Nat) : Prop := ∀ o t, L o = some t → ∃ cs, wk bk s t0 cs = some (o, t)
/-- labels that no coach betters, from times up to T on -/
def LFix (bk : Bk) (s t0 T : Nat) (L : Nat → Option Nat) : Prop := (∃ x, L s = some x ∧ x ≤ t0) ∧ ∀ c, c < bk 0 3 → ∀ t, L (bk 25 c) = some t → t ≤ T → ∃ t', L (bk 26 c) = some t' ∧ t' ≤ tbC bk c t + bk 30 c
theorem tbC_mono (W : WB bk) {c s t : Nat} (hc : c < bk 0 3) (h : s ≤ t) : tbC bk c s ≤ tbC bk c t := by
  obtain ⟨-, -, w3, w4, w5, -⟩ := W.2.2.2.2.2 c hc
  exact tbS_mono w5 w4 w3 h
theorem tbC_gt (W : WB bk) {c t : Nat} (hc : c < bk 0 3) : t < tbC bk c t := by
  obtain ⟨-, -, w3, w4, w5, -⟩ := W.2.2.2.2.2 c hc
  exact tbS_gt w5 w4 w3
theorem tbC_le (W : WB bk) {c t : Nat} (hc : c < bk 0 3) : tbC bk c t ≤ t + 2880 := by
  obtain ⟨-, -, w3, w4, w5, -⟩ := W.2.2.2.2.2 c hc
  exact tbS_le w5 w4 w3
theorem LFix.le (W : WB bk) {s t0 T : Nat} {L : Nat → Option Nat} (F : LFix bk s t0 T L) : ∀ (cs : List Nat) (o t : Nat), wk bk s t0 cs = some (o, t) → t ≤ T → ∃ t', L o = some t' ∧ t' ≤ t
  | [], o, t, e, _ => by
    cases e
    exact F.1
  | c :: cs, o, t, e, hT => by
    unfold wk at e
    cases hw : wk bk s t0 cs with
    | none => rw [hw] at e; cases e
    | some ot =>
      obtain ⟨o1, t1⟩ := ot
      rw [hw] at e
      dsimp only at e
      by_cases hc : c < bk 0 3 ∧ bk 25 c = o1
      · rw [if_pos hc] at e
        cases e
        have g := tbC_gt W (t := t1) hc.1
        obtain ⟨t2, h1, h2⟩ := LFix.le W F cs o1 t1 hw (by omega)
        obtain ⟨t3, h3, h4⟩ := F.2 c hc.1 t2 (by rw [hc.2]; exact h1) (by omega)
        have := tbC_mono W hc.1 h2
        exact ⟨t3, h3, by omega⟩
      · rw [if_neg hc] at e; cases e
/-- the least time, if it is at most T -/
noncomputable def btT (bk : Bk) (s t0 T o : Nat) : Option Nat := @dite _ (∃ t, t ≤ T ∧ (∃ cs, wk bk s t0 cs = some (o, t)) ∧ ∀ t' cs, wk bk s t0 cs = some (o, t') → t ≤ t') (Classical.propDecidable _) (fun e => some (Classical.choose e)) (fun _ => none)
theorem btT_of {s t0 T o : Nat} {L : Nat → Option Nat} (W : WB bk) (S : LSnd bk s t0 L) (F : LFix bk s t0 T L) : btT bk s t0 T o = (match L o with
    | some t => if t ≤ T then some t else none
    | none => none) := by
  unfold btT
  by_cases e : ∃ t, t ≤ T ∧ (∃ cs, wk bk s t0 cs = some (o, t)) ∧ ∀ t' cs, wk bk s t0 cs = some (o, t') → t ≤ t'
  · rw [dif_pos e]
    obtain ⟨h1, ⟨cs, h2⟩, h3⟩ := Classical.choose_spec e
    obtain ⟨t', h4, h5⟩ := F.le W cs _ _ h2 h1
    obtain ⟨cs', h6⟩ := S o t' h4
    have h7 := h3 t' cs' h6
    have : t' = Classical.choose e := by omega
    rw [h4]
    dsimp only
    rw [if_pos (by omega), this]
  · rw [dif_neg e]
    cases hL : L o with
    | none => rfl
    | some t =>
      dsimp only
      rw [if_neg]
      intro ht
      obtain ⟨cs, hcs⟩ := S o t hL
      refine e ⟨t, ht, ⟨cs, hcs⟩, fun t' cs' h' => ?_⟩
      by_cases q : t' ≤ T
      · obtain ⟨t2, h2, h3⟩ := F.le W cs' o t' h' q
        rw [hL] at h2; cases h2; exact h3
      · omega
/-- one round over the coaches c .. -/
def rlx (bk : Bk) (T : Nat) (c : Nat) (L : Nat → Option Nat) : Nat → Option Nat := match L (bk 25 c) with
  | some t => if t ≤ T then (match L (bk 26 c) with
    | some t' => if tbC bk c t + bk 30 c < t' then up1 L (bk 26 c) (some (tbC bk c t + bk 30 c)) else L
    | none => up1 L (bk 26 c) (some (tbC bk c t + bk 30 c))) else L
  | none => L
def leL (L M : Nat → Option Nat) : Prop := ∀ o t, M o = some t → ∃ t', L o = some t' ∧ t' ≤ t
theorem leL.refl (L : Nat → Option Nat) : leL L L := fun o t h => ⟨t, h, Nat.le_refl _⟩
theorem leL.trans {A B C : Nat → Option Nat} (a : leL A B) (b : leL B C) : leL A C := fun o t h => by
  obtain ⟨t1, h1, h2⟩ := b o t h
  obtain ⟨t2, h3, h4⟩ := a o t1 h1
  exact ⟨t2, h3, by omega⟩
theorem rlx_spec {T c : Nat} (L : Nat → Option Nat) : leL (rlx bk T c L) L ∧ (∀ t, L (bk 25 c) = some t → t ≤ T → ∃ t', rlx bk T c L (bk 26 c) = some t' ∧ t' ≤ tbC bk c t + bk 30 c) := by
  unfold rlx
  cases h1 : L (bk 25 c) with
  | none => exact ⟨leL.refl L, fun t e => by cases e⟩
  | some t =>
    dsimp only
    by_cases hT : t ≤ T
    · rw [if_pos hT]
      cases h2 : L (bk 26 c) with
      | none =>
        dsimp only
        refine ⟨fun o u hu => ?_, fun t1 e _ => ?_⟩
        · by_cases ho : o = bk 26 c
          · rw [ho, h2] at hu; cases hu
          · rw [up1_x ho]; exact ⟨u, hu, Nat.le_refl _⟩
        · cases e; exact ⟨_, up1_s, Nat.le_refl _⟩
      | some t' =>
        dsimp only
        by_cases h3 : tbC bk c t + bk 30 c < t'
        · rw [if_pos h3]
          refine ⟨fun o u hu => ?_, fun t1 e _ => ?_⟩
          · by_cases ho : o = bk 26 c
            · rw [ho, h2] at hu; cases hu
              rw [ho]; exact ⟨_, up1_s, by omega⟩
            · rw [up1_x ho]; exact ⟨u, hu, Nat.le_refl _⟩
          · cases e; exact ⟨_, up1_s, Nat.le_refl _⟩
        · rw [if_neg h3]
          exact ⟨leL.refl L, fun t1 e _ => by cases e; exact ⟨t', h2, by omega⟩⟩
    · rw [if_neg hT]
      exact ⟨leL.refl L, fun t1 e w => by cases e; exact absurd w hT⟩
theorem rlx_snd {s t0 T c : Nat} {L : Nat → Option Nat} (hc : c < bk 0 3) (S : LSnd bk s t0 L) : LSnd bk s t0 (rlx bk T c L) := by
  have key : ∀ t, L (bk 25 c) = some t → LSnd bk s t0 (up1 L (bk 26 c) (some (tbC bk c t + bk 30 c))) := fun t ht o u hu => by
    by_cases ho : o = bk 26 c
    · rw [ho, up1_s] at hu; cases hu
      obtain ⟨cs, hcs⟩ := S _ _ ht
      refine ⟨c :: cs, ?_⟩
      unfold wk
      rw [hcs]
      dsimp only
      rw [if_pos ⟨hc, rfl⟩, ho]
    · rw [up1_x ho] at hu; exact S o u hu
  unfold rlx
  cases h1 : L (bk 25 c) with
  | none => exact S
  | some t =>
    dsimp only
    by_cases hT : t ≤ T
    · rw [if_pos hT]
      cases h2 : L (bk 26 c) with
      | none => exact key t h1
      | some t' =>
        dsimp only
        by_cases h3 : tbC bk c t + bk 30 c < t'
        · rw [if_pos h3]; exact key t h1
        · rw [if_neg h3]; exact S
    · rw [if_neg hT]; exact S
/-- the coaches c, c + 1 .., n of them -/
def rnd (bk : Bk) (T : Nat) : Nat → Nat → (Nat → Option Nat) → Nat → Option Nat
  | 0, _, L => L
  | n + 1, c, L => rnd bk T n (c + 1) (rlx bk T c L)
theorem rnd_snd {s t0 T : Nat} : ∀ (n c : Nat) (L : Nat → Option Nat), c + n ≤ bk 0 3 → LSnd bk s t0 L → LSnd bk s t0 (rnd bk T n c L)
  | 0, _, _, _, S => S
  | n + 1, c, L, h, S => rnd_snd n (c + 1) _ (by omega) (rlx_snd (by omega) S)
theorem rnd_le {T : Nat} : ∀ (n c : Nat) (L : Nat → Option Nat), leL (rnd bk T n c L) L
  | 0, _, L => leL.refl L
  | n + 1, c, L => leL.trans (rnd_le n (c + 1) _) (rlx_spec L).1
/-- a time that stood ahead of the round and that reaches on is used -/
theorem rnd_use (W : WB bk) {T : Nat} : ∀ (n c : Nat) (L : Nat → Option Nat) (k t : Nat), c + n ≤ bk 0 3 → c ≤ k → k < c + n → L (bk 25 k) = some t → t ≤ T → ∃ t', rnd bk T n c L (bk 26 k) = some t' ∧ t' ≤ tbC bk k t + bk 30 k
  | 0, c, L, k, t, _, h1, h2, _, _ => by omega
  | n + 1, c, L, k, t, hn, h1, h2, h3, h4 => by
    show ∃ t', rnd bk T n (c + 1) (rlx bk T c L) (bk 26 k) = some t' ∧ _
    by_cases e : k = c
    · subst e
      obtain ⟨t1, a1, a2⟩ := (rlx_spec (bk := bk) (T := T) (c := k) L).2 t h3 h4
      obtain ⟨t2, b1, b2⟩ := rnd_le (bk := bk) (T := T) n (k + 1) _ _ _ a1
      exact ⟨t2, b1, by omega⟩
    · obtain ⟨t1, a1, a2⟩ := (rlx_spec (bk := bk) (T := T) (c := c) L).1 _ _ h3
      obtain ⟨t2, b1, b2⟩ := rnd_use W (T := T) n (c + 1) (rlx bk T c L) k t1 (by omega) (by omega) (by omega) a1 (by omega)
      have := tbC_mono W (show k < bk 0 3 by omega) a2
      exact ⟨t2, b1, by omega⟩
/-- a round that changes nothing: nothing is bettered -/
theorem rnd_fix (W : WB bk) {s t0 T : Nat} {L : Nat → Option Nat} (hs : ∃ x, L s = some x ∧ x ≤ t0) (e : rnd bk T (bk 0 3) 0 L = L) : LFix bk s t0 T L := by
  refine ⟨hs, fun c hc t ht hT => ?_⟩
  obtain ⟨t', a, b⟩ := rnd_use W (bk 0 3) 0 L c t (by omega) (by omega) (by omega) ht hT
  rw [e] at a
  exact ⟨t', a, b⟩
/-- how many below n -/
def cn (p : Nat → Prop) [DecidablePred p] : Nat → Nat
  | 0 => 0
  | n + 1 => cn p n + if p n then 1 else 0
theorem cn_le (p : Nat → Prop) [DecidablePred p] : ∀ n, cn p n ≤ n
  | 0 => Nat.le_refl _
  | n + 1 => by
    have := cn_le p n
    unfold cn
    split <;> omega
theorem cn_lt (p : Nat → Prop) [DecidablePred p] {x : Nat} (hp : ¬ p x) : ∀ n, x < n → cn p n < n
  | 0, h => by omega
  | n + 1, h => by
    unfold cn
    by_cases e : x = n
    · subst e
      have := cn_le p x
      rw [if_neg hp]; omega
    · have := cn_lt p hp n (by omega)
      split <;> omega
theorem cn_mono (p q : Nat → Prop) [DecidablePred p] [DecidablePred q] (hpq : ∀ x, p x → q x) : ∀ n, cn p n ≤ cn q n
  | 0 => Nat.le_refl _
  | n + 1 => by
    have := cn_mono p q hpq n
    unfold cn
    by_cases e : p n
    · rw [if_pos e, if_pos (hpq n e)]; omega
    · rw [if_neg e]; omega
theorem cn_slt (p q : Nat → Prop) [DecidablePred p] [DecidablePred q] (hpq : ∀ x, p x → q x) {x : Nat} (h1 : q x) (h2 : ¬ p x) : ∀ n, x < n → cn p n < cn q n
  | 0, h => by omega
  | n + 1, h => by
    unfold cn
    by_cases e : x = n
    · subst e
      have := cn_mono p q hpq x
      rw [if_neg h2, if_pos h1]; omega
    · have := cn_slt p q hpq h1 h2 n (by omega)
      by_cases e : p n
      · rw [if_pos e, if_pos (hpq n e)]; omega
      · rw [if_neg e]; omega
theorem btT_ex {s t0 T o : Nat} (t : Nat) : ∀ (cs : List Nat), wk bk s t0 cs = some (o, t) → t ≤ T → ∃ m, btT bk s t0 T o = some m ∧ m ≤ t := by
  induction t using Nat.strongRecOn with
  | ind t ih =>
    intro cs h hT
    by_cases e : ∃ t' cs', wk bk s t0 cs' = some (o, t') ∧ t' < t
    · obtain ⟨t', cs', h1, h2⟩ := e
      obtain ⟨m, h3, h4⟩ := ih t' h2 cs' h1 (by omega)
      exact ⟨m, h3, by omega⟩
    · have w : ∃ t, t ≤ T ∧ (∃ cs, wk bk s t0 cs = some (o, t)) ∧ ∀ t' cs, wk bk s t0 cs = some (o, t') → t ≤ t' := ⟨t, hT, ⟨cs, h⟩, fun t' cs' h' => by
        by_cases q : t ≤ t'
        · exact q
        · exact absurd ⟨t', cs', h', by omega⟩ e⟩
      refine ⟨Classical.choose w, ?_, (Classical.choose_spec w).2.2 t cs h⟩
      unfold btT
      rw [dif_pos w]
theorem btT_sp {s t0 T o m : Nat} (e : btT bk s t0 T o = some m) : m ≤ T ∧ (∃ cs, wk bk s t0 cs = some (o, m)) ∧ ∀ t' cs, wk bk s t0 cs = some (o, t') → m ≤ t' := by
  unfold btT at e
  by_cases w : ∃ t, t ≤ T ∧ (∃ cs, wk bk s t0 cs = some (o, t)) ∧ ∀ t' cs, wk bk s t0 cs = some (o, t') → t ≤ t'
  · rw [dif_pos w] at e
    cases e
    exact Classical.choose_spec w
  · rw [dif_neg w] at e; cases e
/-- the labels have all least times -/
def LSet (bk : Bk) (s t0 T : Nat) (L : Nat → Option Nat) : Prop := ∀ o m, btT bk s t0 T o = some m → ∃ t, L o = some t ∧ t ≤ m
theorem LFix.set (W : WB bk) {s t0 T : Nat} {L : Nat → Option Nat} (F : LFix bk s t0 T L) : LSet bk s t0 T L := fun o m e => by
  obtain ⟨h1, ⟨cs, h2⟩, -⟩ := btT_sp e
  exact F.le W cs o m h2 h1
theorem btT_set {s t0 T o : Nat} {L : Nat → Option Nat} (S : LSnd bk s t0 L) (F : LSet bk s t0 T L) : btT bk s t0 T o = (match L o with
    | some t => if t ≤ T then some t else none
    | none => none) := by
  cases hL : L o with
  | none =>
    cases hb : btT bk s t0 T o with
    | none => rfl
    | some m =>
      obtain ⟨t, h, -⟩ := F o m hb
      rw [hL] at h; cases h
  | some t =>
    dsimp only
    obtain ⟨cs, hcs⟩ := S o t hL
    by_cases hT : t ≤ T
    · rw [if_pos hT]
      obtain ⟨m, h1, h2⟩ := btT_ex t cs hcs hT
      obtain ⟨t', h3, h4⟩ := F o m h1
      rw [hL] at h3; cases h3
      rw [h1, show m = t from by omega]
    · rw [if_neg hT]
      cases hb : btT bk s t0 T o with
      | none => rfl
      | some m =>
        obtain ⟨t', h3, h4⟩ := F o m hb
        rw [hL] at h3; cases h3
        have := (btT_sp hb).1
        omega
/-- so many rounds -/
def itR (bk : Bk) (T : Nat) : Nat → (Nat → Option Nat) → Nat → Option Nat
  | 0, L => L
  | k + 1, L => rnd bk T (bk 0 3) 0 (itR bk T k L)
theorem itR_le {T : Nat} : ∀ (k : Nat) (L : Nat → Option Nat), leL (itR bk T k L) L
  | 0, L => leL.refl L
  | k + 1, L => leL.trans (rnd_le _ _ _) (itR_le k L)
theorem itR_snd {s t0 T : Nat} : ∀ (k : Nat) (L : Nat → Option Nat), LSnd bk s t0 L → LSnd bk s t0 (itR bk T k L)
  | 0, _, S => S
  | k + 1, L, S => rnd_snd _ _ _ (by omega) (itR_snd k L S)
/-- an office that has a smaller least time -/
noncomputable def rkB (bk : Bk) (s t0 T o : Nat) (x : Nat) : Prop := ∃ a b, btT bk s t0 T x = some a ∧ btT bk s t0 T o = some b ∧ a < b
noncomputable def rkN (bk : Bk) (s t0 T o : Nat) : Nat := @cn (rkB bk s t0 T o) (fun _ => Classical.propDecidable _) 16
theorem itR_set (W : WB bk) {s t0 T : Nat} (hs : s < 16) {L : Nat → Option Nat} (h0 : ∃ x, L s = some x ∧ x ≤ t0) : ∀ (k o m : Nat), o < 16 → btT bk s t0 T o = some m → rkN bk s t0 T o ≤ k → ∃ t, itR bk T k L o = some t ∧ t ≤ m
  | k, o, m, ho, e, hk => by
    obtain ⟨h1, ⟨cs, h2⟩, h3⟩ := btT_sp e
    cases cs with
    | nil =>
      cases h2
      obtain ⟨x, hx, hx2⟩ := h0
      obtain ⟨t, a, b⟩ := itR_le k L s x hx
      exact ⟨t, a, by omega⟩
    | cons c cs =>
      unfold wk at h2
      cases hw : wk bk s t0 cs with
      | none => rw [hw] at h2; cases h2
      | some ot =>
        obtain ⟨o1, t1⟩ := ot
        rw [hw] at h2
        dsimp only at h2
        by_cases hc : c < bk 0 3 ∧ bk 25 c = o1
        · rw [if_pos hc] at h2
          cases h2
          have g := tbC_gt W (t := t1) hc.1
          obtain ⟨m1, e1, e2⟩ := btT_ex t1 cs hw (show t1 ≤ T by omega)
          have hlt : m1 < tbC bk c t1 + bk 30 c := by omega
          have w := W.2.2.2.2.2 c hc.1
          have w0 := W.1.1
          have ho1 : o1 < 16 := by rw [← hc.2]; omega
          have hr : rkN bk s t0 T o1 < rkN bk s t0 T (bk 26 c) := by
            unfold rkN
            refine @cn_slt _ _ (fun _ => Classical.propDecidable _) (fun _ => Classical.propDecidable _) ?_ o1 ⟨m1, _, e1, e, hlt⟩ ?_ 16 ho1
            · rintro x ⟨a, b, ha, hb, hab⟩
              rw [e1] at hb; cases hb
              exact ⟨a, _, ha, e, by omega⟩
            · rintro ⟨a, b, ha, hb, hab⟩
              rw [ha] at hb; cases hb; omega
          cases k with
          | zero => omega
          | succ k =>
            obtain ⟨t2, a1, a2⟩ := itR_set W hs h0 k o1 m1 ho1 e1 (by omega)
            obtain ⟨t3, b1, b2⟩ := rnd_use W (T := T) (bk 0 3) 0 (itR bk T k L) c t2 (by omega) (by omega) (by omega) (by rw [hc.2]; exact a1) (by omega)
            have := tbC_mono W hc.1 (show t2 ≤ t1 by omega)
            exact ⟨t3, b1, by omega⟩
        · rw [if_neg hc] at h2; cases h2
theorem rkN_lt {s t0 T o : Nat} (ho : o < 16) : rkN bk s t0 T o < 16 := by
  unfold rkN
  refine @cn_lt _ (fun _ => Classical.propDecidable _) o ?_ 16 ho
  rintro ⟨a, b, ha, hb, hab⟩
  rw [ha] at hb; cases hb; omega
/-- nobody is where no coach comes -/
theorem wk_lt (W : WB bk) {s t0 : Nat} (hs : s < 16) : ∀ (cs : List Nat) (o t : Nat), wk bk s t0 cs = some (o, t) → o < 16
  | [], o, t, e => by cases e; exact hs
  | c :: cs, o, t, e => by
    unfold wk at e
    cases hw : wk bk s t0 cs with
    | none => rw [hw] at e; cases e
    | some ot =>
      obtain ⟨o1, t1⟩ := ot
      rw [hw] at e
      dsimp only at e
      by_cases hc : c < bk 0 3 ∧ bk 25 c = o1
      · rw [if_pos hc] at e
        cases e
        have := (W.2.2.2.2.2 c hc.1).2.1
        have := W.1.1
        omega
      · rw [if_neg hc] at e; cases e
/-- sixteen rounds are enough -/
theorem itR_16 (W : WB bk) {s t0 T : Nat} (hs : s < 16) {L : Nat → Option Nat} (h0 : ∃ x, L s = some x ∧ x ≤ t0) {k : Nat} (hk : 16 ≤ k) : LSet bk s t0 T (itR bk T k L) := fun o m e => by
  obtain ⟨-, ⟨cs, h2⟩, -⟩ := btT_sp e
  have ho := wk_lt W hs cs o m h2
  exact itR_set W hs h0 k o m ho e (by have := rkN_lt (bk := bk) (s := s) (t0 := t0) (T := T) ho; omega)
end WAY
