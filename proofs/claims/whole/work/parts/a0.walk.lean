/-! ===== WALKS: what is delivered, and how ===== -/
/-- a coordinate: they may be below 0 -/
def sC (c : Nat) : Int32 := nI c - nI 1000
def pX (bk : Bk) (p n : Nat) : Nat := if bk 15 p = 0 then bk 13 p + 1000 + n - bk 11 p else if bk 15 p = 2 then bk 13 p + 1000 + bk 11 p - n else bk 13 p + 1000
def pY (bk : Bk) (p n : Nat) : Nat := if bk 15 p = 1 then bk 14 p + 1000 + n - bk 11 p else if bk 15 p = 3 then bk 14 p + 1000 + bk 11 p - n else bk 14 p + 1000
/-- an item is sent after, or back -/
def saS (bk : Bk) (s : St) (i : Nat) (to : Option (Nat × Nat)) (o : Nat) : St := match to with
  | some q => if iN s 7 i < 2 then ntS bk (stI (stI (stP s i (some q.1)) 4 i q.2) 7 i (iN s 7 i + 1)) i 6 o else ntS bk (stP s i none) i 7 o
  | none => ntS bk (stP s i none) i 7 o
/-- the place of a stop -/
def fdF (q : Nat × Nat) : List (Nat × Nat) → Nat → Option Nat
  | [], _ => none
  | a :: l, k => if a = q then some k else fdF q l (k + 1)
/-- an item on the shelf of f, walk wk, stops so far: the state, the stops, its stop -/
def tsI (bk : Bk) (f wk : Nat) (s : St) (S : List (Nat × Nat)) (i : Nat) : St × List (Nat × Nat) × Option Nat := match iP s i with
  | none => (s, S, none)
  | some p => if bk 9 p = f ∧ bk 16 p = wk then (match mvI s p (iN s 4 i) with
      | some k => (saS bk s i ((sM s).getD k (0, 0, none)).2.2 f, S, none)
      | none => (match fdF (pX bk p (iN s 4 i / 27), pY bk p (iN s 4 i / 27)) S 0 with
        | some k => (s, S, some k)
        | none => if S.length < 8 then (s, S ++ [(pX bk p (iN s 4 i / 27), pY bk p (iN s 4 i / 27))], some S.length) else (s, S, none))) else (s, S, none)
def tsL (bk : Bk) (f wk : Nat) : List Nat → St → List (Nat × Nat) → St × List (Nat × Nat) × List (Option Nat)
  | [], s, S => (s, S, [])
  | i :: r, s, S => ((tsL bk f wk r (tsI bk f wk s S i).1 (tsI bk f wk s S i).2.1).1, (tsL bk f wk r (tsI bk f wk s S i).1 (tsI bk f wk s S i).2.1).2.1, (tsI bk f wk s S i).2.2 :: (tsL bk f wk r (tsI bk f wk s S i).1 (tsI bk f wk s S i).2.1).2.2)
/-- the least of f b, for b that p has, from b on, m of them -/
def mnF (p : Nat → Bool) (f : Nat → Nat) : Nat → Nat → Nat → Nat
  | 0, _, x => x
  | m + 1, b, x => mnF p f m (b + 1) (if p b then min x (f b) else x)
def wkF (n : Nat) (D : Nat → Nat → Nat) : Nat → Nat → Nat → Nat
  | 0, _, a => D a 8
  | k + 1, set, a => if set = 0 then D a 8 else mnF (fun b => set.testBit b) (fun b => D a b + wkF n D k (set - 2 ^ b) b) n 0 2000000000
/-- the least walk from a through the stops of a set, and to the office (8) -/
def wkW (n : Nat) (D : Nat → Nat → Nat) (set a : Nat) : Nat := wkF n D set set a
/-- the first stop of that walk, from b on -/
def nxF (n : Nat) (D : Nat → Nat → Nat) (set a : Nat) : Nat → Nat → Nat
  | 0, b => b
  | m + 1, b => if set.testBit b = true ∧ D a b + wkW n D (set - 2 ^ b) b = wkW n D set a then b else nxF n D set a m (b + 1)
/-- these items are delivered -/
def dvL (bk : Bk) (f : Nat) : List Nat → St → St
  | [], s => s
  | i :: r, s => dvL bk f r (dlS bk s i f 3 4)
/-- the items of a stop -/
def itB : List Nat → List (Option Nat) → Nat → List Nat
  | i :: l, o :: os, b => if o = some b then i :: itB l os b else itB l os b
  | _, _, _ => []
def gwF (bk : Bk) (f : Nat) (l : List Nat) (os : List (Option Nat)) (n : Nat) (D : Nat → Nat → Nat) : Nat → Nat → Nat → St → St
  | 0, _, _, s => s
  | m + 1, set, a, s => gwF bk f l os n D m (set - 2 ^ nxF n D set a n 0) (nxF n D set a n 0) (dvL bk f (itB l os (nxF n D set a n 0)) s)
/-- how far two stops are; 8: the office -/
def dsS (bk : Bk) (f : Nat) (S : List (Nat × Nat)) (a b : Nat) : Nat := dfN (if a = 8 then bk 3 f + 1000 else (S.getD a (0, 0)).1) (if b = 8 then bk 3 f + 1000 else (S.getD b (0, 0)).1) + dfN (if a = 8 then bk 4 f + 1000 else (S.getD a (0, 0)).2) (if b = 8 then bk 4 f + 1000 else (S.getD b (0, 0)).2)
/-- a walk: what it tells, the state behind it -/
def wkA (bk : Bk) (s : St) (f wk : Nat) : Int32 × St :=
  if (tsL bk f wk (sH s f) s []).2.1 = [] then (-1, (tsL bk f wk (sH s f) s []).1) else
  (nI (wkW (tsL bk f wk (sH s f) s []).2.1.length (dsS bk f (tsL bk f wk (sH s f) s []).2.1) (2 ^ (tsL bk f wk (sH s f) s []).2.1.length - 1) 8), gwF bk f (sH s f) (tsL bk f wk (sH s f) s []).2.2 (tsL bk f wk (sH s f) s []).2.1.length (dsS bk f (tsL bk f wk (sH s f) s []).2.1) (tsL bk f wk (sH s f) s []).2.1.length (2 ^ (tsL bk f wk (sH s f) s []).2.1.length - 1) 8 (tsL bk f wk (sH s f) s []).1)
theorem mnF_c {p : Nat → Bool} {f g : Nat → Nat} (h : ∀ b, p b = true → f b = g b) : ∀ (m b x : Nat), mnF p f m b x = mnF p g m b x
  | 0, _, _ => rfl
  | m + 1, b, x => by
    unfold mnF
    rw [mnF_c h m]
    cases hp : p b with
    | true => rw [h b hp]
    | false => rfl
theorem mnF_le {p : Nat → Bool} {f : Nat → Nat} : ∀ (m b x : Nat), mnF p f m b x ≤ x ∧ ∀ c, b ≤ c → c < b + m → p c = true → mnF p f m b x ≤ f c
  | 0, b, x => ⟨Nat.le_refl _, fun c h1 h2 => by omega⟩
  | m + 1, b, x => by
    unfold mnF
    obtain ⟨a1, a2⟩ := mnF_le (p := p) (f := f) m (b + 1) (if p b then min x (f b) else x)
    refine ⟨Nat.le_trans a1 ?_, fun c h1 h2 h3 => ?_⟩
    · split <;> omega
    · by_cases q : c = b
      · subst q
        rw [if_pos h3] at a1 ⊢; omega
      · exact a2 c (by omega) (by omega) h3
theorem mnF_at {p : Nat → Bool} {f : Nat → Nat} : ∀ (m b x : Nat), mnF p f m b x = x ∨ ∃ c, b ≤ c ∧ c < b + m ∧ p c = true ∧ mnF p f m b x = f c
  | 0, b, x => Or.inl rfl
  | m + 1, b, x => by
    unfold mnF
    rcases mnF_at (p := p) (f := f) m (b + 1) (if p b then min x (f b) else x) with q | ⟨c, c1, c2, c3, c4⟩
    · rw [q]
      cases hp : p b with
      | true =>
        rw [if_pos rfl]
        by_cases q2 : x ≤ f b
        · exact Or.inl (by omega)
        · exact Or.inr ⟨b, Nat.le_refl _, by omega, hp, by omega⟩
      | false => exact Or.inl rfl
    · exact Or.inr ⟨c, by omega, by omega, c3, c4⟩
theorem mnF_x {p : Nat → Bool} {f : Nat → Nat} {m b x x' c : Nat} (h1 : b ≤ c) (h2 : c < b + m) (hp : p c = true) (hx : f c < x) (hx' : f c < x') : mnF p f m b x = mnF p f m b x' := by
  have a1 := (mnF_le (p := p) (f := f) m b x).2 c h1 h2 hp
  have b1 := (mnF_le (p := p) (f := f) m b x').2 c h1 h2 hp
  rcases mnF_at (p := p) (f := f) m b x with q | ⟨c1, d1, d2, d3, d4⟩
  · omega
  · rcases mnF_at (p := p) (f := f) m b x' with q | ⟨c2, e1, e2, e3, e4⟩
    · omega
    · have := (mnF_le (p := p) (f := f) m b x').2 c1 d1 d2 d3
      have := (mnF_le (p := p) (f := f) m b x).2 c2 e1 e2 e3
      omega
theorem tb_le {set b : Nat} (h : set.testBit b = true) : 2 ^ b ≤ set := Nat.ge_two_pow_of_testBit h
section WKW
variable {n : Nat} {D : Nat → Nat → Nat}
theorem wkF_st : ∀ (k k' set a : Nat), set ≤ k → set ≤ k' → wkF n D k set a = wkF n D k' set a
  | 0, 0, _, _, _, _ => rfl
  | 0, k' + 1, set, a, h, _ => by
    have : set = 0 := by omega
    subst this
    rfl
  | k + 1, 0, set, a, _, h => by
    have : set = 0 := by omega
    subst this
    rfl
  | k + 1, k' + 1, set, a, h, h' => by
    unfold wkF
    by_cases q : set = 0
    · rw [if_pos q, if_pos q]
    · rw [if_neg q, if_neg q]
      refine mnF_c (fun b hb => ?_) _ _ _
      have h2 : 0 < 2 ^ b := Nat.two_pow_pos b
      rw [wkF_st k k' (set - 2 ^ b) b (by omega) (by omega)]
theorem wkW_eq (set a : Nat) : wkW n D set a = if set = 0 then D a 8 else mnF (fun b => set.testBit b) (fun b => D a b + wkW n D (set - 2 ^ b) b) n 0 2000000000 := by
  unfold wkW
  cases set with
  | zero => rfl
  | succ k =>
    rw [if_neg (by omega)]
    show mnF (fun b => (k + 1).testBit b) (fun b => D a b + wkF n D k (k + 1 - 2 ^ b) b) n 0 2000000000 = _
    refine mnF_c (fun b hb => ?_) _ _ _
    have h2 : 0 < 2 ^ b := Nat.two_pow_pos b
    rw [wkF_st k (k + 1 - 2 ^ b) (k + 1 - 2 ^ b) b (by omega) (Nat.le_refl _)]
theorem exB (hn : n ≤ 8) : ∀ set, set < 2 ^ n → set ≠ 0 → ∃ b, b < n ∧ set.testBit b = true := fun set hs h0 => by
  obtain ⟨b, hb⟩ := Nat.exists_testBit_of_ne_zero h0
  refine ⟨b, ?_, hb⟩
  have h1 := Nat.ge_two_pow_of_testBit hb
  by_cases q : b < n
  · exact q
  · have := Nat.pow_le_pow_right (show 0 < 2 by decide) (show n ≤ b by omega)
    omega
/-- walks are short -/
theorem wkW_b (hn : n ≤ 8) (hD : ∀ a b, D a b ≤ 10000) : ∀ (k set a : Nat), set ≤ k → set < 2 ^ n → wkW n D set a ≤ 10000 * (set + 1)
  | k, set, a, hk, hs => by
    rw [wkW_eq]
    by_cases q : set = 0
    · rw [if_pos q]; have := hD a 8; omega
    · rw [if_neg q]
      obtain ⟨b, hb, tb⟩ := exB hn set hs q
      have h1 := (mnF_le (p := fun b => set.testBit b) (f := fun b => D a b + wkW n D (set - 2 ^ b) b) n 0 2000000000).2 b (by omega) (by omega) tb
      have h2 : 0 < 2 ^ b := Nat.two_pow_pos b
      have h3 := tb_le tb
      cases k with
      | zero => omega
      | succ k =>
        have h4 := wkW_b hn hD k (set - 2 ^ b) b (by omega) (by omega)
        have h5 := hD a b
        have h6 : 10000 * (set - 2 ^ b + 1) + 10000 ≤ 10000 * (set + 1) := by omega
        omega
theorem two8 (hn : n ≤ 8) : 2 ^ n ≤ 256 := Nat.pow_le_pow_right (show 0 < 2 by decide) hn
/-- a set that is not empty: any start will do -/
theorem wkW_s (hn : n ≤ 8) (hD : ∀ a b, D a b ≤ 10000) {set a x : Nat} (hs : set < 2 ^ n) (h0 : set ≠ 0) (hx : 2000000000 ≤ x) : mnF (fun b => set.testBit b) (fun b => D a b + wkW n D (set - 2 ^ b) b) n 0 x = wkW n D set a := by
  rw [wkW_eq, if_neg h0]
  obtain ⟨b, hb, tb⟩ := exB hn set hs h0
  have h2 : 0 < 2 ^ b := Nat.two_pow_pos b
  have h3 := tb_le tb
  have h8 := two8 hn
  have h4 := wkW_b hn hD (set - 2 ^ b) (set - 2 ^ b) b (Nat.le_refl _) (by omega)
  have h5 := hD a b
  have h6 : 10000 * (set - 2 ^ b + 1) ≤ 10000 * 256 := Nat.mul_le_mul_left _ (by omega)
  exact mnF_x (c := b) (by omega) (by omega) tb (by omega) (by omega)
/-- there is a first stop -/
theorem nxF_ok (hn : n ≤ 8) (hD : ∀ a b, D a b ≤ 10000) {set a : Nat} (hs : set < 2 ^ n) (h0 : set ≠ 0) : nxF n D set a n 0 < n ∧ set.testBit (nxF n D set a n 0) = true := by
  have ex : ∃ c, c < n ∧ set.testBit c = true ∧ D a c + wkW n D (set - 2 ^ c) c = wkW n D set a := by
    obtain ⟨b, hb, tb⟩ := exB hn set hs h0
    have h2 : 0 < 2 ^ b := Nat.two_pow_pos b
    have h3 := tb_le tb
    have h8 := two8 hn
    have e := wkW_s (D := D) (a := a) hn hD hs h0 (Nat.le_refl 2000000000)
    rcases mnF_at (p := fun b => set.testBit b) (f := fun b => D a b + wkW n D (set - 2 ^ b) b) n 0 2000000000 with q | ⟨c, c1, c2, c3, c4⟩
    · have h4 := wkW_b hn hD set set a (Nat.le_refl _) hs
      have h6 : 10000 * (set + 1) ≤ 10000 * 256 := Nat.mul_le_mul_left _ (by omega)
      omega
    · exact ⟨c, by omega, c3, by rw [← e]; exact c4.symm⟩
  obtain ⟨c, c1, c2, c3⟩ := ex
  have go : ∀ (m b : Nat), b + m = n → b ≤ c → nxF n D set a m b < n ∧ set.testBit (nxF n D set a m b) = true := fun m => by
    induction m with
    | zero => intro b h1 h2; omega
    | succ m ih =>
      intro b h1 h2
      unfold nxF
      by_cases q : set.testBit b = true ∧ D a b + wkW n D (set - 2 ^ b) b = wkW n D set a
      · rw [if_pos q]; exact ⟨by omega, q.1⟩
      · rw [if_neg q]
        have : b ≠ c := fun e => q (e ▸ ⟨c2, c3⟩)
        exact ih (b + 1) (by omega) (by omega)
  exact go n 0 (by omega) (by omega)
end WKW
theorem bt_N : ∀ n, n < 256 → ∀ b, b < 8 → (nI n >>> (nI b &&& 31)) &&& nI 1 = if n.testBit b then nI 1 else nI 0 := by decide +kernel
theorem bt_sh : ∀ b, b ≤ 8 → nI 1 <<< (nI b &&& 31) = nI (2 ^ b) := by decide +kernel
theorem bt_an : ∀ n, n < 256 → ∀ b, b < 8 → n.testBit b = true → nI n &&& (nI (2 ^ b) ^^^ (-1)) = nI (n - 2 ^ b) := by decide +kernel
theorem bt_or : ∀ n, n < 256 → ∀ b, b < 8 → nI n ||| nI (2 ^ b) = nI (n ||| 2 ^ b) := by decide +kernel
theorem bt_cp : ∀ n, n ≤ 8 → ∀ s, s < 2 ^ n → ∀ b, b < n → ((2 ^ n - 1 - s).testBit b = !s.testBit b) ∧ (s.testBit b = true → (2 ^ n - 1 - s) ||| 2 ^ b = 2 ^ n - 1 - (s - 2 ^ b)) := by decide +kernel
