/-! ===== STRINGS: their letters; where a sign stands; which word ===== -/
set_option maxRecDepth 16384 in
theorem t_351 {d : Nat} {h : AH} (hs : Sh h) (x0 : Nat) (x1 : Int32) (x2 : Int32) :
    E (d + 1) 351 [.ref x0, .int x1, .int x2] h =
  (ck (gC h x0) 15 <|
  cK (E d 228 [.ref x0] h) (Q d 351 4 [some (.ref x0), some (.int x1), some (.int x2)]) []) := by
  rw [← hs.1]
  exact entL (l := [some (.ref x0), some (.int x1), some (.int x2)]) rfl rfl ((blkM (fun p => Nat.beq p 4) 3 0 _ _ _).trans rfl)

set_option maxRecDepth 16384 in
theorem t_351_4 {d : Nat} {h : AH} (hs : Sh h) (x0 : Nat) (x1 : Int32) (x2 : Int32) (s0 : Int32) :
    Q d 351 4 [some (.ref x0), some (.int x1), some (.int x2)] [.int s0] h =
  if s0 = nI 0 then
   ck (gC h x0) 15 <|
   (gR h 3840 x0).bind fun y1 =>
    ck (gC h x0) 15 <|
    cK (E d 190 [.ref x0] h) (Q d 351 33 [some (.ref x0), some (.int x1), some (.int x2)]) [.int x2, .int x1, .ref y1]
  else
   ck (gC h x0) 15 <|
   (gR h 3840 x0).bind fun y2 =>
    ck (gC h x0) 15 <|
    cK (E d 190 [.ref x0] h) (Q d 351 17 [some (.ref x0), some (.int x1), some (.int x2)]) [.int x2, .int x1, .ref y2] := by
  rw [← hs.1]
  exact (blkM (fun p => Nat.beq p 17 || Nat.beq p 33) 8 4 _ _ _).trans rfl

set_option maxRecDepth 16384 in
theorem t_351_17 {d : Nat} {h : AH} (hs : Sh h) (u0 : Option Value) (u1 : Option Value) (u2 : Option Value) (s0 : Nat) (s1 : Int32) (s2 : Int32) (s3 : Int32) :
    Q d 351 17 [u0, u1, u2] [.int s3, .int s2, .int s1, .ref s0] h =
  cK (E d 378 [.ref s0, .int s1, .int s2, .int s3] h) (Q d 351 20 [u0, u1, u2]) [] := by
  rw [← hs.1]
  exact (blkM (fun p => Nat.beq p 20) 2 17 _ _ _).trans rfl

set_option maxRecDepth 16384 in

set_option maxRecDepth 16384 in
theorem t_351_20 {d : Nat} {h : AH} (hs : Sh h) (u0 : Option Value) (u1 : Option Value) (u2 : Option Value) (s0 : Int32) :
    Q d 351 20 [u0, u1, u2] [.int s0] h =
  some (some (.int s0), h) := by
  rw [← hs.1]
  exact (blkM (fun p => false) 3 20 _ _ _).trans rfl

theorem gL_s {h : AH} {k x : Nat} {v : Int64} : gL (sL h k x v) k x = v := up2_s (f := gL h)
theorem gI_k {h : AH} {k k' x : Nat} {v : Int32} (e : k' ≠ k) : gI (sI h k x v) k' = gI h k' := up2_k (f := gI h) e
theorem gI_x {h : AH} {k x x' : Nat} {v : Int32} (e : x' ≠ x) : gI (sI h k x v) k x' = gI h k x' := up2_x (f := gI h) e
theorem gL_k {h : AH} {k k' x : Nat} {v : Int64} (e : k' ≠ k) : gL (sL h k x v) k' = gL h k' := up2_k (f := gL h) e
theorem gA_k {h : AH} {k k' x : Nat} {v : Int32} (e : k' ≠ k) : gA (sA h k x v) k' = gA h k' := up2_k (f := gA h) e
theorem gB_k {h : AH} {k k' x : Nat} {v : Int64} (e : k' ≠ k) : gB (sB h k x v) k' = gB h k' := up2_k (f := gB h) e
theorem gB_s {h : AH} {k x : Nat} {v : Int64} : gB (sB h k x v) k = up1 (gB h k) x v := by unfold sB; show up2 (gB h) k x v k = _; unfold up2; rw [if_pos rfl]
theorem gIL {h : AH} {k x : Nat} {v : Int64} : gI (sL h k x v) = gI h := rfl
theorem gIA {h : AH} {k x : Nat} {v : Int32} : gI (sA h k x v) = gI h := rfl
theorem gIB {h : AH} {k x : Nat} {v : Int64} : gI (sB h k x v) = gI h := rfl
theorem gLI {h : AH} {k x : Nat} {v : Int32} : gL (sI h k x v) = gL h := rfl
theorem gLA {h : AH} {k x : Nat} {v : Int32} : gL (sA h k x v) = gL h := rfl
theorem gLB {h : AH} {k x : Nat} {v : Int64} : gL (sB h k x v) = gL h := rfl
theorem gAI {h : AH} {k x : Nat} {v : Int32} : gA (sI h k x v) = gA h := rfl
theorem gAL {h : AH} {k x : Nat} {v : Int64} : gA (sL h k x v) = gA h := rfl
theorem gAB {h : AH} {k x : Nat} {v : Int64} : gA (sB h k x v) = gA h := rfl
theorem gBI {h : AH} {k x : Nat} {v : Int32} : gB (sI h k x v) = gB h := rfl
theorem gBL {h : AH} {k x : Nat} {v : Int64} : gB (sL h k x v) = gB h := rfl
theorem gBA {h : AH} {k x : Nat} {v : Int32} : gB (sA h k x v) = gB h := rfl
theorem ifl {α : Type} {a b : Nat} {x y : α} (ha : a < 2 ^ 31) (hb : b < 2 ^ 31) : (if nI a < nI b then x else y) = if a < b then x else y := by simp only [nlt' ha hb]
theorem ife {α : Type} {a b : Nat} {x y : α} (ha : a < 2 ^ 31) (hb : b < 2 ^ 31) : (if nI a = nI b then x else y) = if a = b then x else y := by simp only [nI_eq ha hb]
/-- what is fixed: the letters of the strings, the powers -/
noncomputable def kA (x j : Nat) : Int32 := if x < 58 then (bS (x - 30)).getD j 0 else nthD pwL j 0
def KS (h : AH) : Prop := (∀ x, 30 ≤ x → x < 61 → x < 58 ∨ x = 60 → gA h x = kA x) ∧ ∀ x, x < 28 → gI h 3841 x = 0
theorem KS.fr {K X : List Nat} {h h' : AH} (a : KS h) (f : Fr K X h h') (hK : 3841 ∉ K) (hX : ∀ x, x ∈ X → 61 ≤ x) : KS h' :=
  ⟨fun x h1 h2 h3 => by rw [f.A fun q => by have := hX x q; omega]; exact a.1 x h1 h2 h3, fun x hx => by rw [f.I hK]; exact a.2 x hx⟩
theorem Sh.str {h : AH} (hs : Sh h) : ∀ z, z < 28 → gC h z = 15 ∧ gR h 3840 z = some (30 + z) ∧ gC h (30 + z) = 64 ∧ gK h (30 + z) = (bS z).length := fun z hz => by
  have e1 : ∀ z, z < 28 → cS z = 15 := by decide +kernel
  have e2 : ∀ z, z < 28 → rS 3840 z = some (30 + z) := by decide +kernel
  have e3 : ∀ z, z < 28 → cS (30 + z) = 64 := by decide +kernel
  have e4 : ∀ z, z < 28 → kS (30 + z) = (bS z).length := by decide +kernel
  refine ⟨?_, ?_, ?_, ?_⟩
  · rw [← congrFun hs.c z]; unfold cX; rw [inS_lt.mpr (by omega)]; exact e1 z hz
  · rw [← congrFun (congrFun hs.r 3840) z]; unfold rX; rw [inS_lt.mpr (by omega), e2 z hz]; rfl
  · rw [← congrFun hs.c (30 + z)]; unfold cX; rw [inS_lt.mpr (by omega)]; exact e3 z hz
  · rw [← congrFun hs.k (30 + z)]; unfold kX
    rw [inS_lt.mpr (by omega), show (Nat.beq (30 + z) 63 || Nat.beq (30 + z) 64) = false from by
      have q : ∀ z, z < 28 → (Nat.beq (30 + z) 63 || Nat.beq (30 + z) 64) = false := by decide +kernel
      exact q z hz]
    exact e4 z hz
/-- the letters as numbers -/
noncomputable def chS (z : Nat) : List Nat := (bS z).map fun x => x.toNatClampNeg
theorem bS_ch : ∀ z, z < 28 → bS z = (chS z).map nI ∧ ∀ c, c ∈ chS z → c < 128 := by decide +kernel
theorem bS_l {z : Nat} : (bS z).length = (chS z).length := by unfold chS; rw [List.length_map]
theorem KS.ch {h : AH} (a : KS h) {z i : Nat} (hz : z < 28) (hi : i < (chS z).length) : gA h (30 + z) i = nI ((chS z).getD i 0) ∧ (chS z).getD i 0 < 128 := by
  obtain ⟨e1, e2⟩ := bS_ch z hz
  constructor
  · rw [a.1 (30 + z) (by omega) (by omega) (by omega)]
    unfold kA
    rw [if_pos (by omega), show 30 + z - 30 = z from by omega, e1, List.getD_eq_getElem?_getD, List.getElem?_map, List.getElem?_eq_getElem hi, List.getD_eq_getElem?_getD, List.getElem?_eq_getElem hi]; rfl
  · rw [List.getD_eq_getElem?_getD, List.getElem?_eq_getElem hi]; exact e2 _ (List.getElem_mem hi)
theorem chr_u : ∀ c, c < 128 → ((((nI c) &&& (nI 255)).toUInt32 % 65536).toInt32) = nI c ∧ (nI c).toInt8.toInt32 = nI c := by decide +kernel
section STR
variable {d : Nat} {h : AH}
theorem c_len (hs : Sh h) (k : KS h) {z : Nat} (hz : z < 28) : E (d + 2) 190 [.ref z] h = some (some (.int (nI (chS z).length)), h) := by
  obtain ⟨a1, a2, a3, a4⟩ := hs.str z hz
  rw [t_190 hs, ck_ok a1, a2, Option.bind_some, if_pos (by rw [a3]; decide), ck_ok a1, t_227 hs, if_neg (by decide), ck_ok a1, k.2 z hz, if_pos (by decide), cK_v, t_190_9 hs, a4, bS_l, pk_shrN (n := (chS z).length) (by
    have q : ∀ z, z < 28 → (chS z).length < 1000 := by decide +kernel
    have := q z hz; omega) _ 0 (by decide), Nat.pow_zero, Nat.div_one]
theorem ch_len {z : Nat} (hz : z < 28) : (chS z).length < 1000 := by
  have q : ∀ z, z < 28 → (chS z).length < 1000 := by decide +kernel
  exact q z hz
theorem c_ckI (hs : Sh h) {i n : Nat} (hi : i < n) (hn : n < 2 ^ 31) : E (d + 2) 275 [.int (nI i), .int (nI n)] h = some (none, h) := by
  rw [t_275 hs]
  have e : E (d + 1) 344 [.int (nI i), .int (nI n), gsv h 64] h = some (some (.int (nI i)), h) := by
    unfold gsv
    cases Nat.beq 64 64 && Nat.beq (gK h 64) 1 with
    | true => rw [cond_true, t_344n hs, if_neg (nI_nlt (by omega) (by omega)), if_pos (nI_lt hi hn)]
    | false => rw [cond_false, t_344 hs, if_neg (nI_nlt (by omega) (by omega)), if_pos (nI_lt hi hn)]
  rw [e, cK_v, t_275_8 hs]
theorem c_chr (hs : Sh h) (k : KS h) {z i : Nat} (hz : z < 28) (hi : i < (chS z).length) : E (d + 4) 191 [.ref z, .int (nI i)] h = some (some (.int (nI ((chS z).getD i 0))), h) := by
  obtain ⟨a1, a2, a3, a4⟩ := hs.str z hz
  obtain ⟨b1, b2⟩ := k.ch hz hi
  have hl := ch_len hz
  rw [bS_l] at a4
  rw [t_191 hs, ck_ok a1, t_228 hs, if_neg (by decide), ck_ok a1, k.2 z hz, if_pos (by decide), cK_v, t_191_4 hs, if_neg (by decide), ck_ok a1, a2, Option.bind_some, t_229 hs, if_pos (by rw [a3]; decide), a4, c_ckI hs hi (by omega), cK_n, t_229_6 hs, ck_ok a3, a4, gd_nI hi (by omega), ix_nI (by omega), b1, (chr_u _ b2).1, if_pos (pk_charN (by omega)).1, cK_v, t_191_15 hs, if_pos (pk_charN (by omega)).1]
/-- where a sign stands -/
theorem c_ixlp (hs : Sh h) (k : KS h) {z c : Nat} (hz : z < 28) (hc : c < 128) : ∀ (m i : Nat), m + i = (chS z).length → ∃ r : Int32, Q d 392 7 [some (.ref (30 + z)), none, none, some (.int (nI (chS z).length)), some (.int (nI c)), some (.int (nI i))] [] h = some (some (.int r), h) ∧ (r < nI 0 ↔ c ∉ (chS z).drop i)
  | 0, i, e => ⟨-1, by rw [t_392_7 hs, if_neg (nI_nlt (by omega) (by have := ch_len hz; omega))], by
      rw [List.drop_eq_nil_of_le (by omega)]
      exact ⟨fun _ => List.not_mem_nil, fun _ => by decide⟩⟩
  | m + 1, i, e => by
    have hl := ch_len hz
    obtain ⟨a1, a2, a3, a4⟩ := hs.str z hz
    have hi : i < (chS z).length := by omega
    obtain ⟨b1, b2⟩ := k.ch hz hi
    have dr : (chS z).drop i = (chS z).getD i 0 :: (chS z).drop (i + 1) := by
      rw [List.drop_eq_getElem_cons hi, List.getD_eq_getElem?_getD, List.getElem?_eq_getElem hi]; rfl
    rw [bS_l] at a4
    rw [t_392_7 hs, if_pos (nI_lt hi (by omega)), ck_ok a3, a4, gd_nI hi (by omega), ix_nI (by omega), b1, dr]
    by_cases q : (chS z).getD i 0 = c
    · rw [if_pos (by rw [q])]
      exact ⟨_, rfl, fun w => absurd w (nI_nlt (by omega) (by omega)), fun w => absurd (by rw [q]; exact List.mem_cons_self) w⟩
    · rw [if_neg fun w => q ((nI_eq (by omega) (by omega)).mp w), nI_add]
      obtain ⟨r, r1, r2⟩ := c_ixlp hs k hz hc m (i + 1) (by omega)
      refine ⟨r, r1, r2.trans ?_⟩
      rw [List.mem_cons, not_or]
      exact ⟨fun w => ⟨fun w2 => q w2.symm, w⟩, fun w => w.2⟩
theorem c_ixOf (hs : Sh h) (k : KS h) {z c : Nat} (hz : z < 28) (hc : c < 128) (h0 : 0 < (chS z).length) : ∃ r : Int32, E (d + 5) 295 [.ref z, .int (nI c)] h = some (some (.int r), h) ∧ (r < nI 0 ↔ c ∉ chS z) := by
  obtain ⟨a1, a2, a3, a4⟩ := hs.str z hz
  have hl := ch_len hz
  rw [bS_l] at a4
  obtain ⟨r, r1, r2⟩ := c_ixlp (d := d + 1) hs k hz hc (chS z).length 0 rfl
  refine ⟨r, ?_, r2⟩
  rw [t_295 hs, ck_ok a1, t_351 hs, ck_ok a1, t_228 hs, if_neg (by decide), ck_ok a1, k.2 z hz, if_pos (by decide), cK_v, t_351_4 hs, if_neg (by decide), ck_ok a1, a2, Option.bind_some, ck_ok a1, c_len hs k hz, cK_v, t_351_17 hs, t_378 hs, t_390 hs, if_neg (nI_nlt (by omega) (by omega)), if_neg (nI_nlt (by omega) (by omega)), cK_v, t_378_4 hs, if_neg (by decide), t_391 hs, if_neg (by decide), cK_v, t_378_14 hs, if_pos (by rw [a3]; decide), a4, m_min hs (by omega) (by omega), Nat.min_self, cK_v, t_378_21 hs, if_pos (nI_lt h0 (by omega)), t_392 hs, (chr_u c hc).2, r1, cK_v, t_378_36 hs, cK_v, t_351_20 hs, cK_v, t_295_6 hs]
/-- which of the words it is -/
def wiS (v : Int64) : List Nat → Nat → Nat → Option Nat
  | [], i, w => if lN w = v then some i else none
  | c :: t, i, w => if c = 32 then (if lN w = v then some i else wiS v t (i + 1) 0) else wiS v t i (37 * w + (c - 96))
theorem cmp_0 {a b : Int64} : (lg_cmp a b = nI 0) = (a = b) := by
  apply propext
  unfold lg_cmp
  constructor
  · intro q
    (repeat' split at q) <;> first | assumption | exact absurd q (by decide) | skip
  · intro q
    subst q
    simp
    rfl
theorem c_wilp (hs : Sh h) (k : KS h) {z : Nat} (hz : z < 28) (hl : ∀ c, c ∈ chS z → c = 32 ∨ 97 ≤ c) : ∀ (m j i w : Nat), m + j = (chS z).length → i ≤ j → Q (d + 4) 231 17 [some (.ref 101), some (.ref z), some (.int (nI i)), some (.long (lN w)), none, some (.int (nI j)), none] [] h = some (some (.int (oI (wiS (gL h 3078 101) ((chS z).drop j) i w))), h)
  | 0, j, i, w, e, hi => by
    have hn := ch_len hz
    rw [t_231_17 hs, ck_ok (hs.str z hz).1, c_len hs k hz, cK_v, t_231_23 hs, if_neg (nI_nlt (by omega) (by omega)), List.drop_eq_nil_of_le (by omega), wiS]
    simp only [cmp_0]
    split <;> rfl
  | m + 1, j, i, w, e, hi => by
    have hn := ch_len hz
    have hj : j < (chS z).length := by omega
    have dr : (chS z).drop j = (chS z).getD j 0 :: (chS z).drop (j + 1) := by
      rw [List.drop_eq_getElem_cons hj, List.getD_eq_getElem?_getD, List.getElem?_eq_getElem hj]; rfl
    have hc := (k.ch hz hj).2
    have h9 := hl ((chS z).getD j 0) (by rw [List.getD_eq_getElem?_getD, List.getElem?_eq_getElem hj]; exact List.getElem_mem hj)
    rw [t_231_17 hs, ck_ok (hs.str z hz).1, c_len hs k hz, cK_v, t_231_23 hs, if_pos (nI_lt hj (by omega)), ck_ok (hs.str z hz).1, c_chr hs k hz hj, cK_v, t_231_32 hs, dr, wiS]
    simp only [cmp_0, show (nI ((chS z).getD j 0) = nI 32) = ((chS z).getD j 0 = 32) from propext (nI_eq (by omega) (by decide))]
    by_cases q : (chS z).getD j 0 = 32
    · rw [if_pos q, if_pos q]
      by_cases q2 : lN w = gL h 3078 101
      · rw [if_pos q2, if_pos q2]; rfl
      · rw [if_neg q2, if_neg q2, nI_add, nI_add]
        exact c_wilp hs k hz hl m (j + 1) (i + 1) 0 (by omega) (by omega)
    · rw [if_neg q, if_neg q, nI_add, nI_l (by omega), show (37 : Int64) = lN 37 from rfl, lN_mul, lN_add, show (97 : Int64) = lN 97 from rfl, lN_sub (by omega), lN_1, show w * 37 + (chS z).getD j 0 - 97 + 1 = 37 * w + ((chS z).getD j 0 - 96) from by omega]
      exact c_wilp hs k hz hl m (j + 1) i _ (by omega) (by omega)
theorem c_wordIn (hs : Sh h) (k : KS h) {z : Nat} (hz : z < 28) (hl : ∀ c, c ∈ chS z → c = 32 ∨ 97 ≤ c) : E (d + 5) 231 [.ref 101, .ref z] h = some (some (.int (if gI h 3076 101 = nI 2 then oI (wiS (gL h 3078 101) (chS z) 0 0) else -1)), h) := by
  rw [t_231 hs]
  by_cases q : gI h 3076 101 = nI 2
  · rw [if_pos q, if_pos q]
    exact c_wilp hs k hz hl _ 0 0 0 rfl (Nat.le_refl _)
  · rw [if_neg q, if_neg q]
end STR
