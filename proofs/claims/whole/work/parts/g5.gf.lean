/-! ===== THE FIELD OF 64 ===== -/
def mZ (x : Nat) : Nat := if 64 ≤ 2 * x then (2 * x) ^^^ 67 else 2 * x
/-- the product as the component reckons it, from bit 5 on -/
def gmR (a b : Nat) : Nat → Nat → Nat
  | 0, p => p
  | i + 1, p => gmR a b i (if (b >>> i) % 2 = 1 then mZ p ^^^ a else mZ p)
def gm (a b : Nat) : Nat := gmR a b 6 0
def pwrs : List Nat := [1, 2, 4, 8, 16, 32, 3, 6, 12, 24, 48, 35, 5, 10, 20, 40, 19, 38, 15, 30, 60, 59, 53, 41, 17, 34, 7, 14, 28, 56, 51, 37, 9, 18, 36, 11, 22, 44, 27, 54, 47, 29, 58, 55, 45, 25, 50, 39, 13, 26, 52, 43, 21, 42, 23, 46, 31, 62, 63, 61, 57, 49, 33]
def pw (i : Nat) : Nat := pwrs.getD (i % 63) 0
/-- the product as a sum over the bits of b -/
def gmL (a b : Nat) : Nat := (bif b.testBit 0 then a else 0) ^^^ ((bif b.testBit 1 then mZ a else 0) ^^^ ((bif b.testBit 2 then mZ (mZ a) else 0) ^^^ ((bif b.testBit 3 then mZ (mZ (mZ a)) else 0) ^^^ ((bif b.testBit 4 then mZ (mZ (mZ (mZ a))) else 0) ^^^ (bif b.testBit 5 then mZ (mZ (mZ (mZ (mZ a)))) else 0)))))
theorem gm_tb : ∀ a, a < 64 → ∀ b, b < 64 → gm a b = gmL a b ∧ gm a b < 64 ∧ gm a b = gm b a := by decide +kernel
theorem pw_b : ∀ i, i < 63 → pw i < 64 ∧ pw i ≠ 0 := by decide +kernel
theorem pw_lg : ∀ a, a < 64 → a = 0 ∨ ∃ i, i < 63 ∧ a = pw i := by decide +kernel
theorem pw_gm : ∀ i, i < 63 → ∀ j, j < 63 → gm (pw i) (pw j) = pw (i + j) := by decide +kernel
theorem gm_z : ∀ a, a < 64 → gm a 0 = 0 ∧ gm 0 a = 0 ∧ gm a 1 = a ∧ gm 1 a = a := by decide +kernel
theorem pw_m {i : Nat} : pw (i % 63) = pw i := by unfold pw; rw [Nat.mod_mod]
theorem pw_lt {i : Nat} : pw i < 64 ∧ pw i ≠ 0 := by rw [← pw_m]; exact pw_b _ (Nat.mod_lt _ (by decide))
theorem pw_mul {i j : Nat} : gm (pw i) (pw j) = pw (i + j) := by
  rw [← pw_m (i := i), ← pw_m (i := j), pw_gm _ (Nat.mod_lt _ (by decide)) _ (Nat.mod_lt _ (by decide)), ← pw_m (i := i % 63 + j % 63), ← pw_m (i := i + j), ← Nat.add_mod]
theorem gm_lt {a b : Nat} (ha : a < 64) (hb : b < 64) : gm a b < 64 := (gm_tb a ha b hb).2.1
theorem gm_c {a b : Nat} (ha : a < 64) (hb : b < 64) : gm a b = gm b a := (gm_tb a ha b hb).2.2
theorem gm_as {a b c : Nat} (ha : a < 64) (hb : b < 64) (hc : c < 64) : gm (gm a b) c = gm a (gm b c) := by
  rcases pw_lg a ha with rfl | ⟨i, hi, rfl⟩
  · rw [(gm_z b hb).2.1, (gm_z c hc).2.1, (gm_z _ (gm_lt hb hc)).2.1]
  rcases pw_lg b hb with rfl | ⟨j, hj, rfl⟩
  · rw [(gm_z _ ha).1, (gm_z c hc).2.1, (gm_z _ ha).1]
  rcases pw_lg c hc with rfl | ⟨k, hk, rfl⟩
  · rw [(gm_z _ (gm_lt ha hb)).1, (gm_z _ hb).1, (gm_z _ ha).1]
  rw [pw_mul, pw_mul, pw_mul, pw_mul, Nat.add_assoc]
theorem gm_n0 {a b : Nat} (ha : a < 64) (hb : b < 64) (h1 : a ≠ 0) (h2 : b ≠ 0) : gm a b ≠ 0 := by
  rcases pw_lg a ha with rfl | ⟨i, hi, rfl⟩
  · exact absurd rfl h1
  rcases pw_lg b hb with rfl | ⟨j, hj, rfl⟩
  · exact absurd rfl h2
  rw [pw_mul]; exact pw_lt.2
theorem xor64 {a b : Nat} (ha : a < 64) (hb : b < 64) : a ^^^ b < 64 := Nat.xor_lt_two_pow (n := 6) ha hb
theorem xlc (a b c : Nat) : a ^^^ (b ^^^ c) = b ^^^ (a ^^^ c) := by rw [← Nat.xor_assoc, Nat.xor_comm a b, Nat.xor_assoc]
theorem bif_x (x y : Bool) (v : Nat) : (bif x ^^ y then v else 0) = (bif x then v else 0) ^^^ (bif y then v else 0) := by
  cases x <;> cases y <;> simp
theorem gm_d {a b c : Nat} (ha : a < 64) (hb : b < 64) (hc : c < 64) : gm a (b ^^^ c) = gm a b ^^^ gm a c := by
  rw [(gm_tb a ha _ (xor64 hb hc)).1, (gm_tb a ha b hb).1, (gm_tb a ha c hc).1]
  unfold gmL
  simp only [Nat.testBit_xor, bif_x]
  simp only [Nat.xor_assoc, xlc, Nat.xor_comm]
theorem gm_d' {a b c : Nat} (ha : a < 64) (hb : b < 64) (hc : c < 64) : gm (a ^^^ b) c = gm a c ^^^ gm b c := by
  rw [gm_c (xor64 ha hb) hc, gm_d hc ha hb, gm_c hc ha, gm_c hc hb]
/-- the other one with whose product 1 is -/
def gi (a : Nat) : Nat := ((List.range 63).find? fun i => pw i == a).elim 0 fun i => pw (63 - i)
theorem gi_s : ∀ a, a < 64 → gi a < 64 ∧ (a ≠ 0 → gm (gi a) a = 1 ∧ gi a ≠ 0) := by decide +kernel
theorem xx0 {a b : Nat} : a ^^^ b = 0 ↔ a = b := by
  constructor
  · intro h
    have : (a ^^^ b) ^^^ b = 0 ^^^ b := by rw [h]
    rw [Nat.xor_assoc, Nat.xor_self, Nat.xor_zero, Nat.zero_xor] at this
    exact this
  · rintro rfl; exact Nat.xor_self _
/-! ===== POLYNOMIALS, LINES OF EQUATIONS ===== -/
def pev (x : Nat) : List Nat → Nat → Nat
  | [], a => a
  | c :: l, a => pev x l (gm a x ^^^ c)
def l64 (l : List Nat) : Prop := ∀ c, c ∈ l → c < 64
theorem pev_lt {x : Nat} (hx : x < 64) : ∀ (l : List Nat) (a : Nat), l64 l → a < 64 → pev x l a < 64
  | [], a, _, ha => ha
  | c :: l, a, hl, ha => pev_lt hx l _ (fun e q => hl e (List.mem_cons_of_mem _ q)) (xor64 (gm_lt ha hx) (hl c List.mem_cons_self))
def sdv (r : Nat) : List Nat → Nat → List Nat
  | [], _ => []
  | c :: l, a => a :: sdv r l (gm a r ^^^ c)
theorem sdv_l {r : Nat} (hr : r < 64) : ∀ (l : List Nat) (a : Nat), l64 l → a < 64 → (sdv r l a).length = l.length ∧ l64 (sdv r l a)
  | [], a, _, ha => ⟨rfl, fun _ q => absurd q List.not_mem_nil⟩
  | c :: l, a, hl, ha => by
    obtain ⟨e1, e2⟩ := sdv_l hr l (gm a r ^^^ c) (fun e q => hl e (List.mem_cons_of_mem _ q)) (xor64 (gm_lt ha hr) (hl c List.mem_cons_self))
    refine ⟨congrArg (· + 1) e1, fun e q => ?_⟩
    rcases List.mem_cons.mp q with rfl | q
    · exact ha
    · exact e2 e q
theorem pev_dv {x r : Nat} (hx : x < 64) (hr : r < 64) : ∀ (l : List Nat) (a q : Nat), l64 l → a < 64 → q < 64 → pev x l (gm (x ^^^ r) q ^^^ a) = gm (x ^^^ r) (pev x (sdv r l a) q) ^^^ pev r l a
  | [], a, q, _, ha, hq => rfl
  | c :: l, a, q, hl, ha, hq => by
    have hc := hl c List.mem_cons_self
    have hxr := xor64 hx hr
    have key : gm (gm (x ^^^ r) q ^^^ a) x ^^^ c = gm (x ^^^ r) (gm q x ^^^ a) ^^^ (gm a r ^^^ c) := by
      rw [gm_d' (gm_lt hxr hq) ha hx, gm_d hxr (gm_lt hq hx) ha, gm_as hxr hq hx, gm_d' hx hr ha, gm_c hx ha, gm_c hr ha]
      simp only [Nat.xor_assoc]
      congr 2
      rw [← Nat.xor_assoc, Nat.xor_self, Nat.zero_xor]
    show pev x l (gm (gm (x ^^^ r) q ^^^ a) x ^^^ c) = gm (x ^^^ r) (pev x (sdv r l (gm a r ^^^ c)) (gm q x ^^^ a)) ^^^ pev r l (gm a r ^^^ c)
    rw [key]
    exact pev_dv hx hr l _ _ (fun e w => hl e (List.mem_cons_of_mem _ w)) (xor64 (gm_lt ha hr) hc) (xor64 (gm_lt hq hx) ha)
/-- one of degree n has not n + 1 roots -/
theorem mon_no : ∀ (xs l : List Nat), xs.length = l.length + 1 → l64 l → l64 xs → xs.Nodup → (∀ x, x ∈ xs → pev x l 1 = 0) → False
  | [], l, e, _, _, _, _ => by simp at e
  | r :: xs, [], e, _, _, _, h => absurd (h r List.mem_cons_self) (by decide : (1 : Nat) ≠ 0)
  | r :: xs, c :: l, e, hl, hx, nd, h => by
    have hr := hx r List.mem_cons_self
    obtain ⟨n1, n2⟩ := List.nodup_cons.mp nd
    have h0 := h r List.mem_cons_self
    have hc := hl c List.mem_cons_self
    have hl' : l64 l := fun e w => hl e (List.mem_cons_of_mem _ w)
    obtain ⟨s1, s2⟩ := sdv_l hr l (gm 1 r ^^^ c) hl' (xor64 (gm_lt (by decide) hr) hc)
    refine mon_no xs (sdv r l (gm 1 r ^^^ c)) (by rw [s1]; simpa using e) s2 (fun y w => hx y (List.mem_cons_of_mem _ w)) n2 fun x hxm => ?_
    have hx' := hx x (List.mem_cons_of_mem _ hxm)
    have ne : x ^^^ r ≠ 0 := fun z => n1 ((xx0.mp z) ▸ hxm)
    have d := pev_dv hx' hr (c :: l) 1 0 hl (by decide) (by decide)
    rw [(gm_z _ (xor64 hx' hr)).1, Nat.zero_xor, h x (List.mem_cons_of_mem _ hxm), h0, Nat.xor_zero] at d
    have d : 0 = gm (x ^^^ r) (pev x (sdv r l (gm 1 r ^^^ c)) (gm 0 x ^^^ 1)) := d
    rw [(gm_z x hx').2.1, Nat.zero_xor] at d
    by_cases w : pev x (sdv r l (gm 1 r ^^^ c)) 1 = 0
    · exact w
    · exact absurd d.symm (gm_n0 (xor64 hx' hr) (pev_lt hx' _ _ s2 (by decide)) ne w)
theorem pev_zw {x g : Nat} (hx : x < 64) (hg : g < 64) : ∀ (l m : List Nat) (a b : Nat), l.length = m.length → l64 l → l64 m → a < 64 → b < 64 → pev x (List.zipWith (fun c e => c ^^^ gm g e) l m) (a ^^^ gm g b) = pev x l a ^^^ gm g (pev x m b)
  | [], [], a, b, _, _, _, _, _ => rfl
  | [], _ :: _, a, b, e, _, _, _, _ => by simp at e
  | _ :: _, [], a, b, e, _, _, _, _ => by simp at e
  | c :: l, e :: m, a, b, h, hl, hm, ha, hb => by
    have hc := hl c List.mem_cons_self
    have he := hm e List.mem_cons_self
    show pev x (List.zipWith (fun c e => c ^^^ gm g e) l m) (gm (a ^^^ gm g b) x ^^^ (c ^^^ gm g e)) = pev x l (gm a x ^^^ c) ^^^ gm g (pev x m (gm b x ^^^ e))
    rw [← pev_zw hx hg l m _ _ (by simpa using h) (fun y w => hl y (List.mem_cons_of_mem _ w)) (fun y w => hm y (List.mem_cons_of_mem _ w)) (xor64 (gm_lt ha hx) hc) (xor64 (gm_lt hb hx) he)]
    congr 1
    rw [gm_d' ha (gm_lt hg hb) hx, gm_d hg (gm_lt hb hx) he, gm_as hg hb hx]
    simp only [Nat.xor_assoc]
    rw [xlc (gm g (gm b x)) c]
theorem pev_z {x : Nat} (hx : x < 64) : ∀ (n : Nat) (l : List Nat), pev x (List.replicate n 0 ++ l) 0 = pev x l 0
  | 0, l => rfl
  | n + 1, l => by
    show pev x (List.replicate n 0 ++ l) (gm 0 x ^^^ 0) = _
    rw [(gm_z x hx).2.1]; exact pev_z hx n l
/-- a line, less a multiple of one of smaller degree, keeps its degree -/
theorem pev_mix {g : Nat} (hg : g < 64) {l m : List Nat} (hl : l64 l) (hm : l64 m) (e : m.length < l.length) : ∃ l', l'.length = l.length ∧ l64 l' ∧ ∀ x, x < 64 → pev x l 1 ^^^ gm g (pev x m 1) = pev x l' 1 := by
  have hm' : l64 (List.replicate (l.length - m.length - 1) 0 ++ 1 :: m) := fun y w => by
    rcases List.mem_append.mp w with w | w
    · rw [List.mem_replicate] at w; omega
    · rcases List.mem_cons.mp w with rfl | w
      · decide
      · exact hm y w
  have el : (List.replicate (l.length - m.length - 1) 0 ++ 1 :: m).length = l.length := by
    rw [List.length_append, List.length_replicate, List.length_cons]; omega
  refine ⟨List.zipWith (fun c e => c ^^^ gm g e) l (List.replicate (l.length - m.length - 1) 0 ++ 1 :: m), by rw [List.length_zipWith, el, Nat.min_self], fun y w => ?_, fun x hx => ?_⟩
  · obtain ⟨i, hi, rfl⟩ := List.getElem_of_mem w
    rw [List.getElem_zipWith]
    exact xor64 (hl _ (List.getElem_mem _)) (gm_lt hg (hm' _ (List.getElem_mem _)))
  · have := pev_zw hx hg l _ 1 0 el.symm hl hm' (by decide) (by decide)
    rw [(gm_z g hg).1, Nat.xor_zero, pev_z hx] at this
    rw [this]
    show _ = pev x l 1 ^^^ gm g (pev x m (gm 0 x ^^^ 1))
    rw [(gm_z x hx).2.1, Nat.zero_xor]
/-- sums -/
def Sx (f : Nat → Nat) : Nat → Nat
  | 0 => 0
  | n + 1 => Sx f n ^^^ f n
theorem Sx_lt {f : Nat → Nat} : ∀ n, (∀ k, k < n → f k < 64) → Sx f n < 64
  | 0, _ => show 0 < 64 by decide
  | n + 1, h => xor64 (Sx_lt n fun k q => h k (by omega)) (h n (by omega))
theorem Sx_cg {f g : Nat → Nat} : ∀ n, (∀ k, k < n → f k = g k) → Sx f n = Sx g n
  | 0, _ => rfl
  | n + 1, h => by unfold Sx; rw [Sx_cg n fun k q => h k (by omega), h n (by omega)]
theorem Sx_x {f g : Nat → Nat} : ∀ n, Sx (fun k => f k ^^^ g k) n = Sx f n ^^^ Sx g n
  | 0 => (Nat.xor_self 0).symm
  | n + 1 => by
    unfold Sx
    rw [Sx_x n]
    simp only [Nat.xor_assoc, xlc]
theorem Sx_m {f : Nat → Nat} {g : Nat} (hg : g < 64) : ∀ n, (∀ k, k < n → f k < 64) → Sx (fun k => gm (f k) g) n = gm (Sx f n) g
  | 0, _ => ((gm_z g hg).2.1).symm
  | n + 1, h => by
    unfold Sx
    rw [Sx_m hg n fun k q => h k (by omega), gm_d' (Sx_lt n fun k q => h k (by omega)) (h n (by omega)) hg]
theorem Sx_1 {f : Nat → Nat} {i v : Nat} : ∀ n, (∀ k, k < n → f k = if k = i then v else 0) → Sx f n = if i < n then v else 0
  | 0, _ => rfl
  | n + 1, h => by
    unfold Sx
    rw [Sx_1 n fun k q => h k (by omega), h n (by omega)]
    by_cases q : n = i
    · subst q; rw [if_neg (by omega), if_pos rfl, if_pos (by omega), Nat.zero_xor]
    · rw [if_neg q, Nat.xor_zero]
      by_cases w : i < n
      · rw [if_pos w, if_pos (by omega)]
      · rw [if_neg w, if_neg (by omega)]
/-! ===== EQUATIONS ARE SOLVED ===== -/
def Ml (M : Nat → Nat → Nat) (n : Nat) (x : Nat → Nat) (j : Nat) : Nat := Sx (fun k => gm (M j k) (x k)) n
/-- column i is cleared -/
def clr (M : Nat → Nat → Nat) (i j k : Nat) : Nat := if j = i then gm (M i k) (gi (M i i)) else M j k ^^^ gm (gm (M i k) (gi (M i i))) (M j i)
def Ei (X : Nat → Nat) (n R i : Nat) (M0 M : Nat → Nat → Nat) : Prop := (∀ j k, j < 4 → k < n ∨ k = R → M j k < 64) ∧ (∀ c j, c < i → j < 4 → M j c = if j = c then 1 else 0) ∧ (∀ j, i ≤ j → j < 4 → ∃ l : List Nat, l.length = j ∧ l64 l ∧ ∀ k, k < n → M j k = gm (X k) (pev (X k) l 1)) ∧
  ∀ x : Nat → Nat, (∀ k, k < n → x k < 64) → ((∀ j, j < 4 → Ml M0 n x j = M0 j R) ↔ ∀ j, j < 4 → Ml M n x j = M j R)
def xdX (X : Nat → Nat) (n : Nat) : Prop := (∀ k, k < n → X k < 64 ∧ X k ≠ 0) ∧ ∀ k k', k < n → k' < n → X k = X k' → k = k'
section EI
variable {X : Nat → Nat} {n R i : Nat} {M0 M M' : Nat → Nat → Nat}
theorem Ei.piv (E : Ei X n R i M0 M) (D : xdX X n) (hi : i < n) (hn : n ≤ 4) : M i i ≠ 0 := fun z => by
  obtain ⟨e1, e2, e3, -⟩ := E
  obtain ⟨l, l1, l2, l3⟩ := e3 i (Nat.le_refl _) (by omega)
  refine mon_no ((List.range (i + 1)).map X) l (by rw [List.length_map, List.length_range, l1]) l2 (fun c hc => ?_) ?_ fun c hc => ?_
  · obtain ⟨k, hk, rfl⟩ := List.mem_map.mp hc
    rw [List.mem_range] at hk
    exact (D.1 k (by omega)).1
  · rw [List.nodup_iff_pairwise_ne, List.pairwise_map]
    have := List.nodup_range (n := i + 1)
    rw [List.nodup_iff_pairwise_ne] at this
    refine List.Pairwise.imp_of_mem (fun {a b} ha hb q w => q (D.2 a b ?_ ?_ w)) this
    · rw [List.mem_range] at ha; omega
    · rw [List.mem_range] at hb; omega
  · obtain ⟨k, hk, rfl⟩ := List.mem_map.mp hc
    rw [List.mem_range] at hk
    obtain ⟨x1, x2⟩ := D.1 k (by omega)
    have v : M i k = 0 := by
      by_cases q : k = i
      · rw [q]; exact z
      · rw [e2 k i (by omega) (by omega), if_neg (by omega)]
    rw [l3 k (by omega)] at v
    by_cases w : pev (X k) l 1 = 0
    · exact w
    · exact absurd v (gm_n0 x1 (pev_lt x1 l 1 l2 (by decide)) x2 w)
theorem Ei.step (E : Ei X n R i M0 M) (D : xdX X n) (hi : i < n) (hn : n ≤ 4) (h : ∀ j k, j < 4 → k < n ∨ k = R → M' j k = clr M i j k) : Ei X n R (i + 1) M0 M' := by
  have pv := E.piv D hi hn
  obtain ⟨e1, e2, e3, e4⟩ := E
  have bi := e1 i i (by omega) (Or.inl hi)
  obtain ⟨g1, g2⟩ := gi_s _ bi
  obtain ⟨g3, g4⟩ := g2 pv
  have bp : ∀ k, k < n ∨ k = R → gm (M i k) (gi (M i i)) < 64 := fun k hk => gm_lt (e1 i k (by omega) hk) g1
  refine ⟨fun j k hj hk => ?_, fun c j hc hj => ?_, fun j h1 h2 => ?_, fun x hx => (e4 x hx).trans ?_⟩
  · rw [h j k hj hk]
    unfold clr
    split
    · exact bp k hk
    · exact xor64 (e1 j k hj hk) (gm_lt (bp k hk) (e1 j i hj (Or.inl hi)))
  · rw [h j c hj (Or.inl (by omega))]
    unfold clr
    by_cases q : c = i
    · subst q
      by_cases w : j = c
      · rw [if_pos w, if_pos w, gm_c bi g1]; exact g3
      · rw [if_neg w, if_neg w, gm_c bi g1, g3, (gm_z _ (e1 j c hj (Or.inl hi))).2.2.2, Nat.xor_self]
    · have z : M i c = 0 := by rw [e2 c i (by omega) (by omega), if_neg (by omega)]
      rw [z, (gm_z _ g1).2.1, (gm_z _ (e1 j i hj (Or.inl hi))).2.1, Nat.xor_zero]
      by_cases w : j = i
      · subst w
        rw [if_pos rfl, if_neg (by omega)]
      · rw [if_neg w]
        exact e2 c j (by omega) hj
  · obtain ⟨l, l1, l2, l3⟩ := e3 j (by omega) h2
    obtain ⟨m, m1, m2, m3⟩ := e3 i (Nat.le_refl _) (by omega)
    have bj := e1 j i h2 (Or.inl hi)
    obtain ⟨l', p1, p2, p3⟩ := pev_mix (g := gm (gi (M i i)) (M j i)) (gm_lt g1 bj) l2 m2 (by omega)
    refine ⟨l', by omega, p2, fun k hk => ?_⟩
    rw [h j k h2 (Or.inl hk)]
    unfold clr
    obtain ⟨x1, x2⟩ := D.1 k hk
    have pl := pev_lt x1 l 1 l2 (by decide)
    have pm := pev_lt x1 m 1 m2 (by decide)
    rw [if_neg (by omega), l3 k hk, m3 k hk, ← p3 _ x1, gm_d x1 pl (gm_lt (gm_lt g1 bj) pm)]
    congr 1
    rw [gm_as (gm_lt x1 pm) g1 bj, gm_as x1 pm (gm_lt g1 bj), gm_c pm (gm_lt g1 bj)]
  · have rw' : ∀ j, j < 4 → Ml M' n x j = if j = i then gm (Ml M n x i) (gi (M i i)) else Ml M n x j ^^^ gm (gm (Ml M n x i) (gi (M i i))) (M j i) := fun j hj => by
      have bx : ∀ k, k < n → gm (M i k) (x k) < 64 := fun k hk => gm_lt (e1 i k (by omega) (Or.inl hk)) (hx k hk)
      unfold Ml
      by_cases q : j = i
      · subst q
        rw [if_pos rfl, ← Sx_m g1 n bx]
        refine Sx_cg n fun k hk => ?_
        have a := e1 j k hj (Or.inl hk)
        rw [h j k hj (Or.inl hk)]
        unfold clr
        rw [if_pos rfl, gm_as a g1 (hx k hk), gm_c g1 (hx k hk), ← gm_as a (hx k hk) g1]
      · rw [if_neg q, ← Sx_m g1 n bx, ← Sx_m (e1 j i hj (Or.inl hi)) n (fun k hk => gm_lt (bx k hk) g1), ← Sx_x]
        refine Sx_cg n fun k hk => ?_
        have a := e1 i k (by omega) (Or.inl hk)
        have bj := e1 j i hj (Or.inl hi)
        rw [h j k hj (Or.inl hk)]
        unfold clr
        rw [if_neg q, gm_d' (e1 j k hj (Or.inl hk)) (gm_lt (gm_lt a g1) bj) (hx k hk)]
        congr 1
        rw [gm_as (gm_lt a g1) bj (hx k hk), gm_c bj (hx k hk), ← gm_as (gm_lt a g1) (hx k hk) bj, gm_as a g1 (hx k hk), gm_c g1 (hx k hk), ← gm_as a (hx k hk) g1]
    have bS : Ml M n x i < 64 := Sx_lt n fun k hk => gm_lt (e1 i k (by omega) (Or.inl hk)) (hx k hk)
    have bR := e1 i R (by omega) (Or.inr rfl)
    constructor
    · intro H j hj
      rw [rw' j hj, h j R hj (Or.inr rfl)]
      unfold clr
      rw [H i (by omega), H j hj]
    · intro H
      have Hi : Ml M n x i = M i R := by
        have := H i (by omega)
        rw [rw' i (by omega), h i R (by omega) (Or.inr rfl)] at this
        unfold clr at this
        rw [if_pos rfl, if_pos rfl] at this
        have := congrArg (fun v => gm v (M i i)) this
        rw [gm_as bS g1 bi, gm_as bR g1 bi, g3, (gm_z _ bS).2.2.1, (gm_z _ bR).2.2.1] at this
        exact this
      intro j hj
      by_cases q : j = i
      · rw [q]; exact Hi
      · have := H j hj
        rw [rw' j hj, h j R hj (Or.inr rfl)] at this
        unfold clr at this
        rw [if_neg q, if_neg q, Hi] at this
        have := congrArg (fun v => v ^^^ gm (gm (M i R) (gi (M i i))) (M j i)) this
        rw [Nat.xor_assoc, Nat.xor_assoc, Nat.xor_self, Nat.xor_zero, Nat.xor_zero] at this
        exact this
theorem Ei.fin (E : Ei X n R n M0 M) (hn : n ≤ 4) : ((∀ j, n ≤ j → j < 4 → M j R = 0) → ∀ j, j < 4 → Ml M0 n (fun k => M k R) j = M0 j R) ∧ ∀ x : Nat → Nat, (∀ k, k < n → x k < 64) → (∀ j, j < 4 → Ml M0 n x j = M0 j R) → (∀ j, n ≤ j → j < 4 → M j R = 0) ∧ ∀ k, k < n → x k = M k R := by
  obtain ⟨e1, e2, -, e4⟩ := E
  have v : ∀ x : Nat → Nat, (∀ k, k < n → x k < 64) → ∀ j, j < 4 → Ml M n x j = if j < n then x j else 0 := fun x hx j hj => by
    unfold Ml
    refine Sx_1 (i := j) (v := x j) n fun k hk => ?_
    rw [e2 k j hk hj]
    by_cases q : k = j
    · rw [if_pos q, if_pos q.symm, q, (gm_z _ (hx j (q ▸ hk))).2.2.2]
    · rw [if_neg q, if_neg (fun w => q w.symm), (gm_z _ (hx k hk)).2.1]
  refine ⟨fun H => ?_, fun x hx H => ?_⟩
  · refine (e4 _ fun k hk => e1 k R (by omega) (Or.inr rfl)).mpr fun j hj => ?_
    rw [v _ (fun k hk => e1 k R (by omega) (Or.inr rfl)) j hj]
    by_cases q : j < n
    · rw [if_pos q]
    · rw [if_neg q, H j (by omega) hj]
  · have H' := (e4 x hx).mp H
    refine ⟨fun j h1 h2 => ?_, fun k hk => ?_⟩
    · rw [← H' j h2, v x hx j h2, if_neg (by omega)]
    · rw [← H' k (by omega), v x hx k (by omega), if_pos hk]
theorem Ei.init (D : xdX X n) (h : ∀ j k, j < 4 → k < n → M j k = gm (X k) (pev (X k) (List.replicate j 0) 1)) (hR : ∀ j, j < 4 → M j R < 64) : Ei X n R 0 M M := by
  have lz : ∀ j : Nat, l64 (List.replicate j 0) := fun j c hc => by rw [List.mem_replicate] at hc; omega
  refine ⟨fun j k hj hk => ?_, fun c j hc _ => absurd hc (Nat.not_lt_zero _), fun j _ hj => ⟨List.replicate j 0, List.length_replicate, lz j, fun k hk => h j k hj hk⟩, fun x _ => Iff.rfl⟩
  by_cases q : k < n
  · rw [h j k hj q]
    exact gm_lt (D.1 k q).1 (pev_lt (D.1 k q).1 _ _ (lz j) (by decide))
  · rw [hk.resolve_left q]; exact hR j hj
end EI
theorem pw_X : ∀ e, e < 11 → ∀ j, j < 4 → pw ((j + 1) * e) = gm (pw e) (pev (pw e) (List.replicate j 0) 1) := by decide +kernel
theorem pw_in : ∀ i, i < 11 → ∀ j, j < 11 → pw i = pw j → i = j := by decide +kernel
/-- what is 0 of good signs -/
def vsS (S : Nat → Nat) (j : Nat) : Nat := Sx (fun p => gm (S p) (pw ((j + 1) * (10 - p)))) 11
def SD (sp : Nat → Nat) (n : Nat) : Prop := n ≤ 4 ∧ (∀ k, k < n → sp k < 11) ∧ ∀ k k', k < n → k' < n → sp k = sp k' → k = k'
def dl (sp x : Nat → Nat) (n p : Nat) : Nat := Sx (fun k => if p = sp k then x k else 0) n
def SolS (sp : Nat → Nat) (n : Nat) (S T : Nat → Nat) : Prop := (∀ p, p < 11 → T p < 64) ∧ (∀ p, p < 11 → (∀ k, k < n → p ≠ sp k) → T p = S p) ∧ ∀ j, j < 4 → vsS T j = 0
theorem SD.xd {sp : Nat → Nat} {n : Nat} (D : SD sp n) : xdX (fun k => pw (10 - sp k)) n := ⟨fun k hk => pw_lt, fun k k' hk hk' e => D.2.2 k k' hk hk' (by
  have a := D.2.1 k hk
  have b := D.2.1 k' hk'
  have := pw_in (10 - sp k) (by omega) (10 - sp k') (by omega) e
  omega)⟩
theorem Sx_sw {f : Nat → Nat → Nat} {m : Nat} : ∀ n, Sx (fun p => Sx (fun k => f p k) n) m = Sx (fun k => Sx (fun p => f p k) m) n
  | 0 => by
    show Sx (fun _ => 0) m = 0
    induction m with
    | zero => rfl
    | succ m ih => show Sx (fun _ => 0) m ^^^ 0 = 0; rw [ih]; rfl
  | n + 1 => by
    show Sx (fun p => Sx (fun k => f p k) n ^^^ f p n) m = Sx (fun k => Sx (fun p => f p k) m) n ^^^ Sx (fun p => f p n) m
    rw [Sx_x, Sx_sw n]
theorem dl_off {sp x : Nat → Nat} {p : Nat} : ∀ n, (∀ k, k < n → p ≠ sp k) → dl sp x n p = 0
  | 0, _ => rfl
  | n + 1, h => by
    show dl sp x n p ^^^ (if p = sp n then x n else 0) = 0
    rw [dl_off n fun k q => h k (by omega), if_neg (h n (by omega))]; rfl
theorem dl_on {sp x : Nat → Nat} {n : Nat} (D : SD sp n) {k : Nat} (hk : k < n) : dl sp x n (sp k) = x k := by
  have := Sx_1 (f := fun k' => if sp k = sp k' then x k' else 0) (i := k) (v := x k) n fun k' hk' => by
    by_cases q : k' = k
    · rw [q, if_pos rfl, if_pos rfl]
    · rw [if_neg q, if_neg fun w => q (D.2.2 k k' hk hk' w).symm]
  rw [if_pos hk] at this
  exact this
theorem dl_lt {sp x : Nat → Nat} {n p : Nat} (hx : ∀ k, k < n → x k < 64) : dl sp x n p < 64 := Sx_lt n fun k hk => by
  split
  · exact hx k hk
  · decide
theorem Vs_lt {S : Nat → Nat} {j : Nat} (hS : ∀ p, p < 11 → S p < 64) : vsS S j < 64 := Sx_lt 11 fun p hp => gm_lt (hS p hp) pw_lt.1
theorem Vs_dl {sp x S : Nat → Nat} {n j : Nat} (D : SD sp n) (hx : ∀ k, k < n → x k < 64) (hS : ∀ p, p < 11 → S p < 64) : vsS (fun p => S p ^^^ dl sp x n p) j = vsS S j ^^^ Sx (fun k => gm (pw ((j + 1) * (10 - sp k))) (x k)) n := by
  unfold vsS
  rw [show (Sx (fun p => gm (S p ^^^ dl sp x n p) (pw ((j + 1) * (10 - p)))) 11) = Sx (fun p => gm (S p) (pw ((j + 1) * (10 - p))) ^^^ gm (dl sp x n p) (pw ((j + 1) * (10 - p)))) 11 from Sx_cg 11 fun p hp => gm_d' (hS p hp) (dl_lt hx) pw_lt.1, Sx_x]
  congr 1
  rw [show Sx (fun p => gm (dl sp x n p) (pw ((j + 1) * (10 - p)))) 11 = Sx (fun p => Sx (fun k => gm (if p = sp k then x k else 0) (pw ((j + 1) * (10 - p)))) n) 11 from Sx_cg 11 fun p hp => (Sx_m pw_lt.1 n fun k hk => by
    split
    · exact hx k hk
    · decide).symm, Sx_sw]
  refine Sx_cg n fun k hk => ?_
  rw [Sx_1 (i := sp k) (v := gm (x k) (pw ((j + 1) * (10 - sp k)))) 11 fun p hp => ?_, if_pos (D.2.1 k hk), gm_c (hx k hk) pw_lt.1]
  by_cases q : p = sp k
  · rw [if_pos q, if_pos q, q]
  · rw [if_neg q, if_neg q, (gm_z _ pw_lt.1).2.1]
/-- lines of equations for these spots -/
def M0s (sp S : Nat → Nat) (n R j k : Nat) : Nat := if k < n then pw ((j + 1) * (10 - sp k)) else if k = R then vsS S j else 0
section SOL
variable {sp S T : Nat → Nat} {n R : Nat} {M0 M : Nat → Nat → Nat}
theorem Ei.spt (D : SD sp n) (hS : ∀ p, p < 11 → S p < 64) (h : ∀ j k, j < 4 → k < n → M j k = pw ((j + 1) * (10 - sp k))) (hR : ∀ j, j < 4 → M j R = vsS S j) : Ei (fun k => pw (10 - sp k)) n R 0 M M :=
  Ei.init D.xd (fun j k hj hk => by rw [h j k hj hk]; exact pw_X _ (by omega) j hj) fun j hj => by rw [hR j hj]; exact Vs_lt hS
theorem Ei.sol (D : SD sp n) (hS : ∀ p, p < 11 → S p < 64) (h : ∀ j k, j < 4 → k < n → M0 j k = pw ((j + 1) * (10 - sp k))) (hR : ∀ j, j < 4 → M0 j R = vsS S j) (E : Ei (fun k => pw (10 - sp k)) n R n M0 M) : ((∀ j, n ≤ j → j < 4 → M j R = 0) → SolS sp n S (fun p => S p ^^^ dl sp (fun k => M k R) n p)) ∧ ∀ T, SolS sp n S T → (∀ j, n ≤ j → j < 4 → M j R = 0) ∧ ∀ p, p < 11 → T p = S p ^^^ dl sp (fun k => M k R) n p := by
  have bM : ∀ k, k < n → M k R < 64 := fun k hk => E.1 k R (by have := D.1; omega) (Or.inr rfl)
  obtain ⟨f1, f2⟩ := E.fin D.1
  have eqM : ∀ x : Nat → Nat, ∀ j, j < 4 → Ml M0 n x j = Sx (fun k => gm (pw ((j + 1) * (10 - sp k))) (x k)) n := fun x j hj => Sx_cg n fun k hk => by rw [h j k hj hk]
  refine ⟨fun H => ⟨fun p hp => xor64 (hS p hp) (dl_lt bM), fun p hp hk => by dsimp only; rw [dl_off n hk, Nat.xor_zero], fun j hj => ?_⟩, fun T hT => ?_⟩
  · rw [Vs_dl D bM hS, ← eqM _ j hj, f1 H j hj, hR j hj, Nat.xor_self]
  · obtain ⟨t1, t2, t3⟩ := hT
    have bx : ∀ k, k < n → S (sp k) ^^^ T (sp k) < 64 := fun k hk => xor64 (hS _ (D.2.1 k hk)) (t1 _ (D.2.1 k hk))
    have eT : ∀ p, p < 11 → T p = S p ^^^ dl sp (fun k => S (sp k) ^^^ T (sp k)) n p := fun p hp => by
      by_cases q : ∃ k, k < n ∧ p = sp k
      · obtain ⟨k, hk, rfl⟩ := q
        rw [dl_on D hk, ← Nat.xor_assoc, Nat.xor_self, Nat.zero_xor]
      · rw [dl_off n fun k hk w => q ⟨k, hk, w⟩, Nat.xor_zero]
        exact t2 p hp fun k hk w => q ⟨k, hk, w⟩
    obtain ⟨g1, g2⟩ := f2 _ bx fun j hj => by
      have v := t3 j hj
      rw [show vsS T j = vsS (fun p => S p ^^^ dl sp (fun k => S (sp k) ^^^ T (sp k)) n p) j from Sx_cg 11 fun p hp => by dsimp only; rw [← eT p hp], Vs_dl D bx hS] at v
      rw [eqM _ j hj, hR j hj]
      exact (xx0.mp v).symm
    refine ⟨g1, fun p hp => ?_⟩
    rw [eT p hp]
    congr 1
    exact Sx_cg n fun k hk => by dsimp only; rw [g2 k hk]
/-- all columns cleared -/
def clrs (M : Nat → Nat → Nat) : Nat → Nat → Nat → Nat
  | 0 => M
  | i + 1 => clr (clrs M i) i
theorem Ei.all {X : Nat → Nat} (D : xdX X n) (hn : n ≤ 4) (E : Ei X n R 0 M M) : ∀ i, i ≤ n → Ei X n R i M (clrs M i)
  | 0, _ => E
  | i + 1, h => (Ei.all D hn E i (by omega)).step D (by omega) hn fun _ _ _ _ => rfl
/-- there is one at most -/
theorem SolS.one (D : SD sp n) {T' : Nat → Nat} (hS : ∀ p, p < 11 → S p < 64) (a : SolS sp n S T) (b : SolS sp n S T') : ∀ p, p < 11 → T p = T' p := fun p hp => by
  have h : ∀ j k, j < 4 → k < n → M0s sp S n 4 j k = pw ((j + 1) * (10 - sp k)) := fun j k _ hk => if_pos hk
  have hR : ∀ j, j < 4 → M0s sp S n 4 j 4 = vsS S j := fun j _ => by
    unfold M0s
    have := D.1
    rw [if_neg (by omega), if_pos rfl]
  have E := (Ei.all D.xd D.1 (Ei.spt (R := 4) D hS h hR)) n (Nat.le_refl _)
  have s := (Ei.sol D hS h hR E).2
  rw [(s T a).2 p hp, (s T' b).2 p hp]
end SOL
