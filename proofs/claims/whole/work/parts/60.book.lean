/-! ===== WHAT A BOOK SAYS: the abstract book, as the reference keeps it, as the component keeps it ===== -/
/-- an ArrayList l, its array e of so many places, how many it holds, which -/
def Ar (h : AH) (l e cap n : Nat) (f : Nat → Nat) : Prop := gC h l = 1 ∧ gR h 257 l = some e ∧ gC h e = 65 ∧ gK h e = cap ∧ gI h 258 l = nI n ∧ n ≤ cap ∧ cap < 100000 ∧ ∀ i, i < n → gO h e i = some (f i)
section AL
variable {d : Nat} {h : AH} {l e cap n : Nat} {f : Nat → Nat}
theorem al_size (hs : Sh h) (A : Ar h l e cap n f) : E (d + 1) 213 [.ref l] h = some (some (.int (nI n)), h) := by
  rw [t_213 hs, ck_ok A.1, A.2.2.2.2.1]
theorem al_get (hs : Sh h) (A : Ar h l e cap n f) {i : Nat} (hi : i < n) : E (d + 3) 212 [.ref l, .int (nI i)] h = some (some (.ref (f i)), h) := by
  obtain ⟨a1, a2, a3, a4, a5, a6, a7, a8⟩ := A
  rw [t_212 hs, ck_ok a1, t_267 hs, t_344n hs, a5, if_neg (nI_nlt (by omega) (by omega)), if_pos (nI_lt hi (by omega)), cK_v, t_267_6 hs, cK_v, t_212_8 hs, ck_ok a1, t_268 hs, ck_ok a1, a2, Option.bind_some, ck_ok a3, gd_nI (by omega) (by omega), ix_nI (by omega), a8 i hi, Option.bind_some, cK_v, t_212_14 hs]
end AL
/-- a book: bk 0 0..4 how many offices, pieces, services, coaches, shorts; offices 1 name 2 code 3 x 4 y; shorts 5 name 6 meaning; pieces 7 names (3 p + k) 8 how many 9 office 10 side 11 low 12 high 13 x 14 y 15 goes 16 walk; services 17 name 18 sort 19 most 20 how many rules; rules (8 s + k) 21 kind 22 amount 23 part 24 over; coaches 25 from 26 to 27 first 28 every 29 last 30 takes 31 holds -/
abbrev Bk : Type := Nat → Nat → Nat
/-- what every book keeps to -/
def WB (bk : Bk) : Prop := (bk 0 0 ≤ 16 ∧ bk 0 1 ≤ 60 ∧ bk 0 2 ≤ 8 ∧ bk 0 3 ≤ 40 ∧ bk 0 4 ≤ 20) ∧
  (∀ i, i < bk 0 0 → 0 < bk 1 i ∧ bk 1 i < 37 ^ 12 ∧ 1 ≤ bk 2 i ∧ bk 2 i ≤ 999 ∧ bk 3 i ≤ 999 ∧ bk 4 i ≤ 999) ∧
  (∀ i, i < bk 0 4 → bk 5 i < 37 ^ 12 ∧ 0 < bk 6 i ∧ bk 6 i < 37 ^ 12) ∧
  (∀ p, p < bk 0 1 → (1 ≤ bk 8 p ∧ bk 8 p ≤ 3) ∧ (∀ k, k < bk 8 p → 0 < bk 7 (3 * p + k) ∧ bk 7 (3 * p + k) < 37 ^ 12) ∧ bk 9 p < bk 0 0 ∧ bk 10 p ≤ 2 ∧ 1 ≤ bk 11 p ∧ bk 11 p ≤ bk 12 p ∧ bk 12 p ≤ 999 ∧ bk 13 p ≤ 999 ∧ bk 14 p ≤ 999 ∧ bk 15 p ≤ 3 ∧ bk 16 p ≤ 9) ∧
  (∀ s, s < bk 0 2 → bk 18 s ≤ 2 ∧ 1 ≤ bk 19 s ∧ bk 19 s ≤ 4000 ∧ bk 20 s ≤ 8 ∧ ∀ k, k < bk 20 s → bk 21 (8 * s + k) ≤ 6 ∧ bk 22 (8 * s + k) ≤ 9999 ∧ bk 23 (8 * s + k) ≤ 4000 ∧ bk 24 (8 * s + k) ≤ 4000 ∧ (bk 21 (8 * s + k) = 1 → 1 ≤ bk 23 (8 * s + k))) ∧
  ∀ c, c < bk 0 3 → bk 25 c < bk 0 0 ∧ bk 26 c < bk 0 0 ∧ bk 27 c ≤ bk 29 c ∧ bk 29 c ≤ 1439 ∧ 1 ≤ bk 28 c ∧ bk 28 c ≤ 1440 ∧ 1 ≤ bk 30 c ∧ bk 30 c ≤ 3000 ∧ 1 ≤ bk 31 c ∧ bk 31 c ≤ 20
/-- the reference's number of a rule's kind -/
def rkR (k : Nat) : Nat := if k ≤ 1 then 20 + k else 21 + k
/-- the reference's book w -/
def RB (h : AH) (w : Nat) (bk : Bk) : Prop := (gA h 197 w = nI (bk 0 0) ∧ gA h 205 w = nI (bk 0 1) ∧ gA h 216 w = nI (bk 0 2) ∧ gA h 225 w = nI (bk 0 3) ∧ gA h 202 w = nI (bk 0 4)) ∧
  (∀ i, i < bk 0 0 → gB h 198 (16 * w + i) = lN (bk 1 i) ∧ gA h 199 (16 * w + i) = nI (bk 2 i) ∧ gA h 200 (16 * w + i) = nI (bk 3 i) ∧ gA h 201 (16 * w + i) = nI (bk 4 i)) ∧
  (∀ i, i < bk 0 4 → gB h 203 (20 * w + i) = lN (bk 5 i) ∧ gB h 204 (20 * w + i) = lN (bk 6 i)) ∧
  (∀ p, p < bk 0 1 → (∀ k, k < bk 8 p → gB h 206 (3 * (60 * w + p) + k) = lN (bk 7 (3 * p + k))) ∧ gA h 207 (60 * w + p) = nI (bk 8 p) ∧ gA h 208 (60 * w + p) = nI (bk 9 p) ∧ gA h 209 (60 * w + p) = nI (bk 10 p) ∧ gA h 210 (60 * w + p) = nI (bk 11 p) ∧ gA h 211 (60 * w + p) = nI (bk 12 p) ∧ gA h 212 (60 * w + p) = nI (bk 13 p) ∧ gA h 213 (60 * w + p) = nI (bk 14 p) ∧ gA h 214 (60 * w + p) = nI (bk 15 p) ∧ gA h 215 (60 * w + p) = nI (bk 16 p)) ∧
  (∀ s, s < bk 0 2 → gB h 217 (8 * w + s) = lN (bk 17 s) ∧ gA h 218 (8 * w + s) = nI (bk 18 s) ∧ gA h 219 (8 * w + s) = nI (bk 19 s) ∧ gA h 220 (8 * w + s) = nI (bk 20 s) ∧ ∀ k, k < bk 20 s →
    gA h 221 (8 * (8 * w + s) + k) = nI (rkR (bk 21 (8 * s + k))) ∧ gA h 222 (8 * (8 * w + s) + k) = nI (if bk 21 (8 * s + k) = 2 then bk 23 (8 * s + k) else bk 22 (8 * s + k)) ∧
    (bk 21 (8 * s + k) = 1 → gA h 223 (8 * (8 * w + s) + k) = nI (bk 23 (8 * s + k)) ∧ gA h 224 (8 * (8 * w + s) + k) = nI (bk 24 (8 * s + k))) ∧ (bk 21 (8 * s + k) = 2 → gA h 223 (8 * (8 * w + s) + k) = nI (bk 22 (8 * s + k)))) ∧
  ∀ c, c < bk 0 3 → gA h 226 (40 * w + c) = nI (bk 25 c) ∧ gA h 227 (40 * w + c) = nI (bk 26 c) ∧ gA h 228 (40 * w + c) = nI (bk 27 c) ∧ gA h 229 (40 * w + c) = nI (bk 28 c) ∧ gA h 230 (40 * w + c) = nI (bk 29 c) ∧ gA h 231 (40 * w + c) = nI (bk 30 c) ∧ gA h 232 (40 * w + c) = nI (bk 31 c)
/-- the codes of a packed name, the first one first -/
def ncod : Nat → Nat → List Nat
  | 0, _ => []
  | f + 1, v => if v = 0 then [] else ncod f (v / 37) ++ [v % 37]
/-- a cell of a book: a new one, or one of the first book -/
def idB (x : Nat) : Prop := 296 ≤ x ∨ 157 ≤ x ∧ x ≤ 163
/-- an int array of so many numbers -/
def AN (h : AH) (x : Nat) (l : List Nat) : Prop := gC h x = 60 ∧ gK h x = l.length ∧ idB x ∧ ∀ i (hi : i < l.length), gA h x i = nI l[i]
/-- the component's book b: G says which cell is which: 0 offices, 1 streets, 2 services, 3 coaches, 5 shelves of offices, 6 bags of coaches, 7 the lists of 0 to 3, 8 their arrays, 10 + j row j of a service, 14 and 15 texts of offices and streets, 16 the shorts' rows -/
def CB (h : AH) (b : Nat) (bk : Bk) (G Cp : Nat → Nat → Nat) : Prop := gC h b = 2 ∧ gR h 520 b = some 101 ∧
  (∀ j, j < 4 → gR h (512 + j) b = some (G 7 j) ∧ Ar h (G 7 j) (G 8 j) (Cp 8 j) (bk 0 j) (G j)) ∧
  (gR h 516 b = some (G 16 0) ∧ gC h (G 16 0) = 61 ∧ gK h (G 16 0) = 20 ∧ idB (G 16 0) ∧ idB (G 16 1) ∧ gR h 517 b = some (G 16 1) ∧ gC h (G 16 1) = 61 ∧ gK h (G 16 1) = 20 ∧ gI h 518 b = nI (bk 0 4) ∧ ∀ i, i < bk 0 4 → gB h (G 16 0) i = lN (bk 5 i) ∧ gB h (G 16 1) i = lN (bk 6 i)) ∧
  (∀ i, i < bk 0 0 → gC h (G 0 i) = 7 ∧ gL h 1792 (G 0 i) = lN (bk 1 i) ∧ gI h 1794 (G 0 i) = nI (bk 2 i) ∧ gI h 1795 (G 0 i) = nI (bk 3 i) ∧ gI h 1796 (G 0 i) = nI (bk 4 i) ∧ gR h 1797 (G 0 i) = some (G 5 i) ∧ gR h 1793 (G 0 i) = some (G 14 i) ∧ AN h (G 14 i) (ncod 12 (bk 1 i))) ∧
  (∀ p, p < bk 0 1 → gC h (G 1 p) = 11 ∧ gI h 2817 (G 1 p) = nI (bk 9 p) ∧ gI h 2818 (G 1 p) = nI (bk 10 p) ∧ gI h 2819 (G 1 p) = nI (bk 11 p) ∧ gI h 2820 (G 1 p) = nI (bk 12 p) ∧ gI h 2821 (G 1 p) = nI (bk 13 p) ∧ gI h 2822 (G 1 p) = nI (bk 14 p) ∧ gI h 2823 (G 1 p) = nI (bk 15 p) ∧ gI h 2824 (G 1 p) = nI (bk 16 p) ∧ gR h 2816 (G 1 p) = some (G 15 p) ∧
    AN h (G 15 p) (ncod 12 (bk 7 (3 * p)) ++ (if 1 < bk 8 p then 0 :: ncod 12 (bk 7 (3 * p + 1)) else []) ++ (if 2 < bk 8 p then 0 :: ncod 12 (bk 7 (3 * p + 2)) else []))) ∧
  (∀ s, s < bk 0 2 → gC h (G 2 s) = 10 ∧ gL h 2560 (G 2 s) = lN (bk 17 s) ∧ gI h 2561 (G 2 s) = nI (bk 18 s) ∧ gI h 2562 (G 2 s) = nI (bk 19 s) ∧ gI h 2563 (G 2 s) = nI (bk 20 s) ∧ (∀ j, j < 4 → gR h (2564 + j) (G 2 s) = some (G (10 + j) s) ∧ gC h (G (10 + j) s) = 60 ∧ gK h (G (10 + j) s) = 8 ∧ idB (G (10 + j) s)) ∧
    ∀ k, k < bk 20 s → gA h (G 10 s) k = nI (bk 21 (8 * s + k)) ∧ gA h (G 11 s) k = nI (bk 22 (8 * s + k)) ∧ (bk 21 (8 * s + k) = 1 ∨ bk 21 (8 * s + k) = 2 → gA h (G 12 s) k = nI (bk 23 (8 * s + k))) ∧ (bk 21 (8 * s + k) = 1 → gA h (G 13 s) k = nI (bk 24 (8 * s + k)))) ∧
  ∀ c, c < bk 0 3 → gC h (G 3 c) = 3 ∧ gI h 768 (G 3 c) = nI (bk 25 c) ∧ gI h 769 (G 3 c) = nI (bk 26 c) ∧ gI h 770 (G 3 c) = nI (bk 27 c) ∧ gI h 771 (G 3 c) = nI (bk 28 c) ∧ gI h 772 (G 3 c) = nI (bk 29 c) ∧ gI h 773 (G 3 c) = nI (bk 30 c) ∧ gI h 774 (G 3 c) = nI (bk 31 c) ∧ gR h 775 (G 3 c) = some (G 6 c)
/-- a change elsewhere leaves a book alone -/
theorem CB.fr {K X : List Nat} {h h' : AH} {b : Nat} {bk : Bk} {G Cp : Nat → Nat → Nat} (B : CB h b bk G Cp) (f : Fr K X h h') (hK : ∀ k, k ∈ [258, 518, 768, 769, 770, 771, 772, 773, 774, 1792, 1794, 1795, 1796, 2560, 2561, 2562, 2563, 2817, 2818, 2819, 2820, 2821, 2822, 2823, 2824] → k ∉ K) (hX : ∀ x, x ∈ X → x < 157 ∨ 163 < x ∧ x < 296) : CB h' b bk G Cp := by
  have fC := f.2.1
  have fK := f.2.2.1
  have fR := f.2.2.2.1
  have fO := f.2.2.2.2.1
  have nX : ∀ x, idB x → x ∉ X := fun x hx hm => by
    have := hX x hm
    unfold idB at hx
    omega
  have kI : ∀ k, k ∈ [258, 518, 768, 769, 770, 771, 772, 773, 774, 1792, 1794, 1795, 1796, 2560, 2561, 2562, 2563, 2817, 2818, 2819, 2820, 2821, 2822, 2823, 2824] → gI h' k = gI h k := fun k hk => f.I (hK k hk)
  have kL : ∀ k, k ∈ [258, 518, 768, 769, 770, 771, 772, 773, 774, 1792, 1794, 1795, 1796, 2560, 2561, 2562, 2563, 2817, 2818, 2819, 2820, 2821, 2822, 2823, 2824] → gL h' k = gL h k := fun k hk => f.L (hK k hk)
  have aN : ∀ x l, AN h x l → AN h' x l := fun x l ⟨a1, a2, a3, a4⟩ => ⟨by rw [fC]; exact a1, by rw [fK]; exact a2, a3, fun i hi => by rw [f.A (nX x a3)]; exact a4 i hi⟩
  obtain ⟨b1, b2, b3, b4, b5, b6, b7, b8⟩ := B
  refine ⟨by rw [fC]; exact b1, by rw [fR]; exact b2, fun j hj => ?_, ?_, fun i hi => ?_, fun p hp => ?_, fun s hS => ?_, fun c hc => ?_⟩
  · obtain ⟨c1, c2⟩ := b3 j hj
    refine ⟨by rw [fR]; exact c1, ?_⟩
    unfold Ar at c2 ⊢
    rw [fC, fR, fK, fO, kI 258 (by decide)]; exact c2
  · obtain ⟨c1, c2, c3, c4, c5, c6, c7, c8, c9, c10⟩ := b4
    exact ⟨by rw [fR]; exact c1, by rw [fC]; exact c2, by rw [fK]; exact c3, c4, c5, by rw [fR]; exact c6, by rw [fC]; exact c7, by rw [fK]; exact c8, by rw [kI 518 (by decide)]; exact c9, fun i hi => by rw [f.B (nX _ c4), f.B (nX _ c5)]; exact c10 i hi⟩
  · obtain ⟨c1, c2, c3, c4, c5, c6, c7, c8⟩ := b5 i hi
    exact ⟨by rw [fC]; exact c1, by rw [kL 1792 (by decide)]; exact c2, by rw [kI 1794 (by decide)]; exact c3, by rw [kI 1795 (by decide)]; exact c4, by rw [kI 1796 (by decide)]; exact c5, by rw [fR]; exact c6, by rw [fR]; exact c7, aN _ _ c8⟩
  · obtain ⟨c1, c2, c3, c4, c5, c6, c7, c8, c9, c10, c11⟩ := b6 p hp
    exact ⟨by rw [fC]; exact c1, by rw [kI 2817 (by decide)]; exact c2, by rw [kI 2818 (by decide)]; exact c3, by rw [kI 2819 (by decide)]; exact c4, by rw [kI 2820 (by decide)]; exact c5, by rw [kI 2821 (by decide)]; exact c6, by rw [kI 2822 (by decide)]; exact c7, by rw [kI 2823 (by decide)]; exact c8, by rw [kI 2824 (by decide)]; exact c9, by rw [fR]; exact c10, aN _ _ c11⟩
  · obtain ⟨c1, c2, c3, c4, c5, c6, c7⟩ := b7 s hS
    have i0 := (c6 0 (by decide)).2.2.2
    have i1 := (c6 1 (by decide)).2.2.2
    have i2 := (c6 2 (by decide)).2.2.2
    have i3 := (c6 3 (by decide)).2.2.2
    refine ⟨by rw [fC]; exact c1, by rw [kL 2560 (by decide)]; exact c2, by rw [kI 2561 (by decide)]; exact c3, by rw [kI 2562 (by decide)]; exact c4, by rw [kI 2563 (by decide)]; exact c5, fun j hj => ?_, fun k hk => ?_⟩
    · rw [fR, fC, fK]; exact c6 j hj
    · rw [f.A (nX _ i0), f.A (nX _ i1), f.A (nX _ i2), f.A (nX _ i3)]; exact c7 k hk
  · obtain ⟨c1, c2, c3, c4, c5, c6, c7, c8, c9⟩ := b8 c hc
    exact ⟨by rw [fC]; exact c1, by rw [kI 768 (by decide)]; exact c2, by rw [kI 769 (by decide)]; exact c3, by rw [kI 770 (by decide)]; exact c4, by rw [kI 771 (by decide)]; exact c5, by rw [kI 772 (by decide)]; exact c6, by rw [kI 773 (by decide)]; exact c7, by rw [kI 774 (by decide)]; exact c8, by rw [fR]; exact c9⟩
/-- the same of the reference's book -/
theorem RB.fr {K X : List Nat} {h h' : AH} {w : Nat} {bk : Bk} (B : RB h w bk) (f : Fr K X h h') (hX : ∀ x, x ∈ X → x < 197 ∨ 232 < x) : RB h' w bk := by
  have kA : ∀ x, 197 ≤ x → x ≤ 232 → gA h' x = gA h x := fun x h1 h2 => f.A fun hm => by have := hX x hm; omega
  have kB : ∀ x, 197 ≤ x → x ≤ 232 → gB h' x = gB h x := fun x h1 h2 => f.B fun hm => by have := hX x hm; omega
  unfold RB at B ⊢
  rw [kA 197 (by decide) (by decide), kA 199 (by decide) (by decide), kA 200 (by decide) (by decide), kA 201 (by decide) (by decide), kA 202 (by decide) (by decide), kA 205 (by decide) (by decide), kA 207 (by decide) (by decide), kA 208 (by decide) (by decide), kA 209 (by decide) (by decide), kA 210 (by decide) (by decide), kA 211 (by decide) (by decide), kA 212 (by decide) (by decide), kA 213 (by decide) (by decide), kA 214 (by decide) (by decide), kA 215 (by decide) (by decide), kA 216 (by decide) (by decide), kA 218 (by decide) (by decide), kA 219 (by decide) (by decide), kA 220 (by decide) (by decide), kA 221 (by decide) (by decide), kA 222 (by decide) (by decide), kA 223 (by decide) (by decide), kA 224 (by decide) (by decide), kA 225 (by decide) (by decide), kA 226 (by decide) (by decide), kA 227 (by decide) (by decide), kA 228 (by decide) (by decide), kA 229 (by decide) (by decide), kA 230 (by decide) (by decide), kA 231 (by decide) (by decide), kA 232 (by decide) (by decide), kB 198 (by decide) (by decide), kB 203 (by decide) (by decide), kB 204 (by decide) (by decide), kB 206 (by decide) (by decide), kB 217 (by decide) (by decide)]
  exact B
section HAS
variable {d : Nat} {h : AH} {b : Nat} {bk : Bk} {G Cp : Nat → Nat → Nat}
/-- hasOffice 203, hasPiece 207, hasService 218, hasCoach 214 -/
def bI (p : Prop) [Decidable p] : Int32 := if p then nI 1 else nI 0
def hasN (x : Int32) (n : Nat) : Prop := ¬ x < nI 0 ∧ x < nI n
theorem c_has0 (hs : Sh h) (B : CB h b bk G Cp) (x : Int32) : E (d + 2) 203 [.ref b, .int x] h = some (some (.int (if x < nI 0 then nI 0 else if x < nI (bk 0 0) then nI 1 else nI 0)), h) := by
  obtain ⟨c1, c2, c3, -⟩ := B
  obtain ⟨c4, c5⟩ := c3 0 (by decide)
  rw [t_203 hs]
  by_cases h0 : x < nI 0
  · rw [if_pos h0, if_pos h0]
  · rw [if_neg h0, if_neg h0, ck_ok c1, c4, Option.bind_some, ck_ok c5.1, al_size hs c5, cK_v, t_203_12 hs]
    split <;> rfl
end HAS
