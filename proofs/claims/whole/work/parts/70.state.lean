/-! ===== THE STATE OF A POST ROOM: abstract, as the reference keeps it, as the component keeps it ===== -/
/-- NONE or a number -/
def oI : Option Nat → Int32
  | none => -1
  | some n => nI n
/-- (numbers: 0 clock, 1 seal, 2 items), items' numbers (0 service 1 weight 2 from 3 code 4 door 5 where 6 office 7 sent after 8 since 9 due), pieces, coaches, prices, shelves, bags, trips (coach, due, items), moved doors (piece, door, to) -/
abbrev St : Type := (Nat → Nat) × (Nat → Nat → Nat) × (Nat → Option Nat) × (Nat → Option Nat) × (Nat → Int32) × (Nat → List Nat) × (Nat → List Nat) × List (Nat × Nat × List Nat) × List (Nat × Nat × Option (Nat × Nat))
def zN (s : St) : Nat → Nat := s.1
def iN (s : St) : Nat → Nat → Nat := s.2.1
def iP (s : St) : Nat → Option Nat := s.2.2.1
def iC (s : St) : Nat → Option Nat := s.2.2.2.1
def iM (s : St) : Nat → Int32 := s.2.2.2.2.1
def sH (s : St) : Nat → List Nat := s.2.2.2.2.2.1
def sG (s : St) : Nat → List Nat := s.2.2.2.2.2.2.1
def sT (s : St) : List (Nat × Nat × List Nat) := s.2.2.2.2.2.2.2.1
def sM (s : St) : List (Nat × Nat × Option (Nat × Nat)) := s.2.2.2.2.2.2.2.2
/-- all prices -/
def sumP (f : Nat → Int32) : Nat → Int32
  | 0 => 0
  | n + 1 => sumP f n + f n
/-- the items that ride, in their order -/
def rid (s : St) : List Nat := (sT s).flatMap fun t => t.2.2
/-- what every state keeps to -/
def WS (bk : Bk) (s : St) : Prop := zN s 2 ≤ 200 ∧ zN s 0 < 2 ^ 29 ∧ zN s 1 < 65521 ∧
  (∀ i, i < zN s 2 → iN s 0 i < bk 0 2 ∧ 1 ≤ iN s 1 i ∧ iN s 1 i ≤ 4000 ∧ iN s 2 i < bk 0 0 ∧ iN s 3 i ≤ 999 ∧ 27 ≤ iN s 4 i ∧ iN s 4 i < 27000 ∧ iN s 5 i ≤ 4 ∧ iN s 6 i < bk 0 0 ∧ iN s 7 i ≤ 2 ∧ iN s 8 i ≤ zN s 0 ∧ (∀ p, iP s i = some p → p < bk 0 1) ∧ ∀ c, iC s i = some c → c < bk 0 3) ∧
  (∀ o, (sH s o).Nodup ∧ ∀ i, i ∈ sH s o ↔ i < zN s 2 ∧ iN s 5 i = 0 ∧ iN s 6 i = o) ∧
  (∀ c, (sG s c).Nodup ∧ ∀ i, i ∈ sG s c ↔ i < zN s 2 ∧ iN s 5 i = 1 ∧ iC s i = some c) ∧
  ((rid s).Nodup ∧ ∀ i, i ∈ rid s ↔ i < zN s 2 ∧ iN s 5 i = 2) ∧
  (∀ t, t ∈ sT s → t.1 < bk 0 3 ∧ zN s 0 < t.2.1 ∧ t.2.1 ≤ zN s 0 + bk 30 t.1 ∧ 1 ≤ t.2.2.length ∧ t.2.2.length ≤ 20 ∧ ∀ i, i ∈ t.2.2 → iC s i = some t.1 ∧ iN s 9 i = t.2.1 ∧ iN s 6 i = bk 26 t.1) ∧
  ((sT s).Pairwise fun a b => a.1 ≠ b.1 ∨ a.2.1 ≠ b.2.1) ∧
  (∀ i, i < zN s 2 → iN s 5 i = 1 → ∃ c, iC s i = some c ∧ c < bk 0 3 ∧ iN s 6 i = bk 25 c) ∧ (∀ i, i < zN s 2 → (iN s 5 i = 0 ∨ 3 ≤ iN s 5 i) → iC s i = none) ∧
  (sM s).length ≤ 40 ∧ ((sM s).Pairwise fun a b => ¬ (a.1 = b.1 ∧ a.2.1 = b.2.1)) ∧ ∀ m, m ∈ sM s → m.1 < bk 0 1 ∧ 27 ≤ m.2.1 ∧ m.2.1 < 27000 ∧ ∀ q, m.2.2 = some q → q.1 < bk 0 1 ∧ 27 ≤ q.2 ∧ q.2 < 27000
/-- the reference's items, shelves, bags, trips, moved doors -/
def RS1 (h : AH) (s : St) : Prop := gI h 3654 189 = nI (zN s 2) ∧ gI h 3677 189 = nI (zN s 0) ∧ gI h 3678 189 = nI (zN s 1) ∧ gI h 3667 189 = sumP (iM s) (zN s 2) ∧
  ∀ i, i < zN s 2 → gA h 242 i = nI (iN s 0 i) ∧ gA h 243 i = nI (iN s 1 i) ∧ gA h 244 i = nI (iN s 2 i) ∧ gA h 245 i = nI (iN s 3 i) ∧ gA h 246 i = oI (iP s i) ∧ gA h 247 i = nI (iN s 4 i) ∧ gA h 248 i = nI (iN s 5 i) ∧ gA h 249 i = nI (iN s 6 i) ∧ gA h 250 i = oI (iC s i) ∧ gA h 251 i = iM s i ∧ gA h 252 i = nI (iN s 7 i) ∧ gA h 253 i = nI (iN s 8 i)
def RS2 (h : AH) (s : St) : Prop := (∀ o, o < 16 → gA h 255 o = nI (sH s o).length ∧ ∀ k (hk : k < (sH s o).length), gA h 254 (200 * o + k) = nI (sH s o)[k]) ∧
  ∀ c, c < 40 → gA h 257 c = nI (sG s c).length ∧ ∀ k (hk : k < (sG s c).length), gA h 256 (200 * c + k) = nI (sG s c)[k]
def RS3 (h : AH) (s : St) : Prop := gI h 3676 189 = nI (sT s).length ∧ ∀ t (ht : t < (sT s).length), gA h 260 t = nI (sT s)[t].1 ∧ gA h 261 t = nI (sT s)[t].2.1 ∧ gA h 259 t = nI (sT s)[t].2.2.length ∧ ∀ k (hk : k < (sT s)[t].2.2.length), gA h 258 (20 * t + k) = nI (sT s)[t].2.2[k]
def RS4 (h : AH) (s : St) : Prop := gI h 3688 189 = nI (sM s).length ∧ ∀ k (hk : k < (sM s).length), gA h 265 k = nI (sM s)[k].1 ∧ gA h 266 k = nI (sM s)[k].2.1 ∧ gA h 267 k = oI ((sM s)[k].2.2.map fun q => q.1) ∧ ∀ q, (sM s)[k].2.2 = some q → gA h 268 k = nI q.2
/-- the component: the lists' cells: 0 items, 1 riding, 2 to 5 of the book, 10 + o shelves, 30 + c bags -/
def lo (G : Nat → Nat → Nat) (r : Nat) : Nat := if r = 0 then 164 else if r = 1 then 165 else if r < 6 then G 7 (r - 2) else if r < 30 then G 5 (r - 10) else G 6 (r - 30)
def la (G : Nat → Nat → Nat) (r : Nat) : Nat := if 2 ≤ r ∧ r < 6 then G 8 (r - 2) else G 9 r
def lc (Cp : Nat → Nat → Nat) (r : Nat) : Nat := if 2 ≤ r ∧ r < 6 then Cp 8 (r - 2) else Cp 9 r
/-- which of the lists there are -/
def lV (bk : Bk) (r : Nat) : Prop := r < 6 ∨ 10 ≤ r ∧ r < 10 + bk 0 0 ∨ 30 ≤ r ∧ r < 30 + bk 0 3
/-- what a list holds, as numbers of items -/
def lX (s : St) (r : Nat) : List Nat := if r = 0 then List.range (zN s 2) else if r = 1 then rid s else if r < 10 then [] else if r < 30 then sH s (r - 10) else sG s (r - 30)
/-- no two lists share a cell -/
def DJ (bk : Bk) (G : Nat → Nat → Nat) : Prop := ∀ r r', lV bk r → lV bk r' → (lo G r = lo G r' → r = r') ∧ (la G r = la G r' → r = r' ∨ la G r = 61)
def CS1 (h : AH) (bk : Bk) (s : St) (G : Nat → Nat → Nat) : Prop := gI h 2051 156 = nI (zN s 0) ∧ gI h 2052 156 = nI (zN s 1) ∧ (∀ i j, i < zN s 2 → j < zN s 2 → G 4 i = G 4 j → i = j) ∧
  ∀ i, i < zN s 2 → gC h (G 4 i) = 5 ∧ G 4 i < gN h ∧ gI h 1280 (G 4 i) = nI i ∧ gI h 1281 (G 4 i) = nI (iN s 0 i) ∧ gI h 1282 (G 4 i) = nI (iN s 1 i) ∧ gI h 1283 (G 4 i) = nI (iN s 2 i) ∧ gI h 1284 (G 4 i) = nI (bk 18 (iN s 0 i)) ∧ gI h 1286 (G 4 i) = oI (iP s i) ∧ gI h 1287 (G 4 i) = nI (iN s 4 i) ∧ gI h 1288 (G 4 i) = nI (iN s 5 i) ∧ gI h 1289 (G 4 i) = nI (iN s 6 i) ∧ gI h 1290 (G 4 i) = oI (iC s i) ∧ gI h 1291 (G 4 i) = iM s i ∧ gI h 1292 (G 4 i) = nI (iN s 7 i) ∧ gI h 1293 (G 4 i) = nI (iN s 8 i) ∧ (iN s 5 i = 2 → gI h 1294 (G 4 i) = nI (iN s 9 i))
def CS2 (h : AH) (bk : Bk) (s : St) (G Cp : Nat → Nat → Nat) : Prop := DJ bk G ∧ (∀ r, lV bk r → AO h (lo G r) (la G r) (lc Cp r) ∧ lc Cp r < 50000) ∧ ∀ r, lV bk r → r < 2 ∨ 10 ≤ r → Ar h (lo G r) (la G r) (lc Cp r) (lX s r).length (fun k => G 4 ((lX s r).getD k 0))
def CS4 (h : AH) (s : St) : Prop := gI h 2055 156 = nI (sM s).length ∧ ∀ k (hk : k < (sM s).length), gA h 166 k = nI (27000 * (sM s)[k].1 + (sM s)[k].2.1) ∧ gA h 167 k = oI ((sM s)[k].2.2.map fun q => 27000 * q.1 + q.2)
/-- a list without twins below n is not longer than n -/
theorem nd_len : ∀ (n : Nat) (l : List Nat), l.Nodup → (∀ x, x ∈ l → x < n) → l.length ≤ n
  | 0, l, _, h => by
    cases l with
    | nil => exact Nat.le_refl _
    | cons a t => exact absurd (h a List.mem_cons_self) (by omega)
  | n + 1, l, hd, h => by
    by_cases e : n ∈ l
    · have h1 := nd_len n (l.erase n) (hd.erase n) fun x hx => by
        have := (List.Nodup.mem_erase_iff hd).mp hx
        have := h x this.2
        omega
      have h2 := List.length_erase_of_mem e
      have h3 : 0 < l.length := List.length_pos_of_mem e
      omega
    · have := nd_len n l hd fun x hx => by
        have h1 := h x hx
        have h2 : x ≠ n := fun w => e (w ▸ hx)
        omega
      omega
