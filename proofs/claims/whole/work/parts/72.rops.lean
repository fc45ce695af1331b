/-! ===== ITEMS MOVE: the steps, and the reference's ===== -/
def stZ (s : St) (k v : Nat) : St := (up1 (zN s) k v, s.2)
def stI (s : St) (k i v : Nat) : St := (zN s, up2 (iN s) k i v, s.2.2)
def stC (s : St) (i : Nat) (v : Option Nat) : St := (zN s, iN s, iP s, up1 (iC s) i v, s.2.2.2.2)
def stP (s : St) (i : Nat) (v : Option Nat) : St := (zN s, iN s, up1 (iP s) i v, s.2.2.2)
def stH (s : St) (o : Nat) (l : List Nat) : St := (zN s, iN s, iP s, iC s, iM s, up1 (sH s) o l, s.2.2.2.2.2.2)
def stG (s : St) (c : Nat) (l : List Nat) : St := (zN s, iN s, iP s, iC s, iM s, sH s, up1 (sG s) c l, s.2.2.2.2.2.2.2)
/-- where an item goes -/
def goS (bk : Bk) (s : St) (i : Nat) : Nat := match iP s i with
  | some p => bk 9 p
  | none => iN s 2 i
/-- what is sealed -/
def ntS (bk : Bk) (s : St) (i w o : Nat) : St := if bk 18 (iN s 0 i) = 2 then stZ s 1 ((33 * zN s 1 + i + 8 * w + 64 * o + zN s 0) % 65521) else s
/-- an item comes somewhere -/
def cmS (s : St) (i w o : Nat) (c : Option Nat) : St := stC (stI (stI (stI s 5 i w) 6 i o) 8 i (zN s 0)) i c
/-- the bounds alone -/
def WI (bk : Bk) (s : St) : Prop := zN s 2 ≤ 200 ∧ zN s 0 < 2 ^ 29 ∧ zN s 1 < 65521 ∧ ∀ i, i < zN s 2 → iN s 0 i < bk 0 2 ∧ iN s 2 i < bk 0 0 ∧ ∀ p, iP s i = some p → p < bk 0 1
theorem WS.i {bk : Bk} {s : St} (w : WS bk s) : WI bk s := ⟨w.1, w.2.1, w.2.2.1, fun i hi => ⟨(w.2.2.2.1 i hi).1, (w.2.2.2.1 i hi).2.2.2.1, (w.2.2.2.1 i hi).2.2.2.2.2.2.2.2.2.2.2.1⟩⟩
theorem WI.nt {bk : Bk} {s : St} (w : WI bk s) (i wh o : Nat) : WI bk (ntS bk s i wh o) := by
  unfold ntS
  by_cases e : bk 18 (iN s 0 i) = 2
  · rw [if_pos e]
    refine ⟨w.1, w.2.1, ?_, w.2.2.2⟩
    show (33 * zN s 1 + i + 8 * wh + 64 * o + zN s 0) % 65521 < 65521
    exact Nat.mod_lt _ (by decide)
  · rw [if_neg e]; exact w
theorem WI.cm {bk : Bk} {s : St} (w : WI bk s) (i wh o : Nat) (c : Option Nat) : WI bk (cmS s i wh o c) := w
/-- the reference's state but the shelves and bags in order -/
def RS (h : AH) (s : St) : Prop := RS1 h s ∧ RS2 h s ∧ RS3 h s ∧ RS4 h s
theorem RS2.fr {K X : List Nat} {h h' : AH} {s : St} (R : RS2 h s) (f : Fr K X h h') (hX : ∀ x, x ∈ [254, 255, 256, 257] → x ∉ X) : RS2 h' s := by
  unfold RS2 at R ⊢
  rw [f.A (hX 254 (by decide)), f.A (hX 255 (by decide)), f.A (hX 256 (by decide)), f.A (hX 257 (by decide))]; exact R
theorem RS3.fr {K X : List Nat} {h h' : AH} {s : St} (R : RS3 h s) (f : Fr K X h h') (hK : 3676 ∉ K) (hX : ∀ x, x ∈ [258, 259, 260, 261] → x ∉ X) : RS3 h' s := by
  unfold RS3 at R ⊢
  rw [f.I hK, f.A (hX 258 (by decide)), f.A (hX 259 (by decide)), f.A (hX 260 (by decide)), f.A (hX 261 (by decide))]; exact R
theorem RS4.fr {K X : List Nat} {h h' : AH} {s : St} (R : RS4 h s) (f : Fr K X h h') (hK : 3688 ∉ K) (hX : ∀ x, x ∈ [265, 266, 267, 268] → x ∉ X) : RS4 h' s := by
  unfold RS4 at R ⊢
  rw [f.I hK, f.A (hX 265 (by decide)), f.A (hX 266 (by decide)), f.A (hX 267 (by decide)), f.A (hX 268 (by decide))]; exact R
theorem RS1.fr {K X : List Nat} {h h' : AH} {s : St} (R : RS1 h s) (f : Fr K X h h') (hK : ∀ x, x ∈ [3654, 3677, 3678, 3667] → x ∉ K) (hX : ∀ x, x ∈ [242, 243, 244, 245, 246, 247, 248, 249, 250, 251, 252, 253] → x ∉ X) : RS1 h' s := by
  unfold RS1 at R ⊢
  rw [f.I (hK 3654 (by decide)), f.I (hK 3677 (by decide)), f.I (hK 3678 (by decide)), f.I (hK 3667 (by decide)), f.A (hX 242 (by decide)), f.A (hX 243 (by decide)), f.A (hX 244 (by decide)), f.A (hX 245 (by decide)), f.A (hX 246 (by decide)), f.A (hX 247 (by decide)), f.A (hX 248 (by decide)), f.A (hX 249 (by decide)), f.A (hX 250 (by decide)), f.A (hX 251 (by decide)), f.A (hX 252 (by decide)), f.A (hX 253 (by decide))]; exact R
theorem RS.fr {K X : List Nat} {h h' : AH} {s : St} (R : RS h s) (f : Fr K X h h') (hK : ∀ x, x ∈ [3654, 3677, 3678, 3667, 3676, 3688] → x ∉ K) (hX : ∀ x, x ∈ X → x < 242 ∨ 268 < x ∨ x = 262 ∨ x = 263 ∨ x = 264) : RS h' s :=
  ⟨R.1.fr f (fun x hx => hK x (by simp only [List.mem_cons, List.not_mem_nil, or_false] at hx ⊢; omega)) (fun x hx hm => by have := hX x hm; simp only [List.mem_cons, List.not_mem_nil, or_false] at hx; omega), R.2.1.fr f (fun x hx hm => by have := hX x hm; simp only [List.mem_cons, List.not_mem_nil, or_false] at hx; omega), R.2.2.1.fr f (hK 3676 (by decide)) (fun x hx hm => by have := hX x hm; simp only [List.mem_cons, List.not_mem_nil, or_false] at hx; omega), R.2.2.2.fr f (hK 3688 (by decide)) (fun x hx hm => by have := hX x hm; simp only [List.mem_cons, List.not_mem_nil, or_false] at hx; omega)⟩
theorem nd_inj {l : List Nat} (nd : l.Nodup) {i j : Nat} (hi : i < l.length) (hj : j < l.length) (e : l[i] = l[j]) : i = j := by
  have p := List.pairwise_iff_getElem.mp nd
  rcases Nat.lt_trichotomy i j with q | q | q
  · exact absurd e (p i j hi hj q)
  · exact q
  · exact absurd e.symm (p j i hj hi q)
section ROPS
variable {d : Nat} {h : AH} {bk : Bk} {v : Nat} {s : St}
theorem r_sortOf (hs : Sh h) (W : WB bk) (hv' : v ≤ 1) (hN : gI h 3597 189 = nI v) (B : RB h v bk) (R : RS1 h s) (w : WI bk s) {i : Nat} (hi : i < zN s 2) : E (d + 1) 101 [.ref 189, .int (nI i)] h = some (some (.int (nI (bk 18 (iN s 0 i)))), h) := by
  have w1 := w.1
  have w2 := (w.2.2.2 i hi).1
  have w3 := W.1.2.2.1
  obtain ⟨a1, -⟩ := R.2.2.2.2 i hi
  rw [t_101 hs, gd_nI (by omega) (by decide), ix_nI (by omega), hN, a1, pk_mul, nI_add, gd_nI (by omega) (by decide), ix_nI (by omega), (B.2.2.2.2.1 _ w2).2.1]
theorem r_note (hs : Sh h) (W : WB bk) (hv' : v ≤ 1) (hN : gI h 3597 189 = nI v) (B : RB h v bk) (R : RS h s) (w : WI bk s) {i wh o : Nat} (hi : i < zN s 2) (hw : wh ≤ 7) (ho : o < 16) : ∃ h', E (d + 2) 100 [.ref 189, .int (nI i), .int (nI wh), .int (nI o)] h = some (none, h') ∧ Fr [3678] [] h h' ∧ RS h' (ntS bk s i wh o) := by
  have w1 := w.1
  have w2 := w.2.1
  have w3 := w.2.2.1
  have wb := W.2.2.2.2.1 _ ((w.2.2.2 i hi).1)
  unfold ntS
  rw [t_100 hs, r_sortOf hs W hv' hN B R.1 w hi, cK_v, t_100_5 hs]
  simp only [show (nI (bk 18 (iN s 0 i)) = nI 2) = (bk 18 (iN s 0 i) = 2) from propext (nI_eq (by omega) (by decide))]
  by_cases e : bk 18 (iN s 0 i) = 2
  · rw [if_pos e, if_pos e, dZ_ok (by decide), R.1.2.2.1, R.1.2.1]
    have e1 : ((((((33 * (nI (zN s 1)).toInt64) + (nI i).toInt64) + (8 * (nI wh).toInt64)) + (64 * (nI o).toInt64)) + (nI (zN s 0)).toInt64) - (((((33 * (nI (zN s 1)).toInt64) + (nI i).toInt64) + (8 * (nI wh).toInt64)) + (64 * (nI o).toInt64)) + (nI (zN s 0)).toInt64) / 65521 * 65521).toInt32 = nI ((33 * zN s 1 + i + 8 * wh + 64 * o + zN s 0) % 65521) := by
      rw [nI_l (show zN s 1 < 2 ^ 31 by omega), nI_l (show i < 2 ^ 31 by omega), nI_l (show wh < 2 ^ 31 by omega), nI_l (show o < 2 ^ 31 by omega), nI_l (show zN s 0 < 2 ^ 31 by omega), show (33 : Int64) = lN 33 from rfl, show (8 : Int64) = lN 8 from rfl, show (64 : Int64) = lN 64 from rfl, show (65521 : Int64) = lN 65521 from rfl, lN_mul, lN_add, lN_mul, lN_add, lN_mul, lN_add, lN_add, pk_lRem (by omega) (by decide) (by decide), lN_i]
    rw [e1]
    have f : Fr [3678] [] h (sI h 3678 189 (nI ((33 * zN s 1 + i + 8 * wh + 64 * o + zN s 0) % 65521))) := Fr.rfl.sI (by decide)
    refine ⟨_, rfl, f, ⟨R.1.1, R.1.2.1, rfl, R.1.2.2.2.1, R.1.2.2.2.2⟩, R.2.1.fr f (by decide), R.2.2.1.fr f (by decide) (by decide), R.2.2.2.fr f (by decide) (by decide)⟩
  · rw [if_neg e, if_neg e]
    exact ⟨h, rfl, Fr.rfl, R⟩
theorem r_comes (hs : Sh h) (R : RS h s) (w : WI bk s) {i wh o : Nat} {c : Option Nat} (hi : i < zN s 2) : ∃ h', E (d + 1) 99 [.ref 189, .int (nI i), .int (nI wh), .int (nI o), .int (oI c)] h = some (none, h') ∧ Fr [] [248, 249, 250, 253] h h' ∧ RS h' (cmS s i wh o c) := by
  have w1 := w.1
  rw [t_99 hs, gd_nI (by omega) (by decide), gd_nI (by omega) (by decide), gd_nI (by omega) (by decide), gd_nI (by omega) (by decide), ix_nI (by omega), R.1.2.1]
  have f : Fr [] [248, 249, 250, 253] h (sA (sA (sA (sA h 248 i (nI wh)) 249 i (nI o)) 250 i (oI c)) 253 i (nI (zN s 0))) := (((Fr.rfl.sA (by decide)).sA (by decide)).sA (by decide)).sA (by decide)
  refine ⟨_, rfl, f, ⟨R.1.1, R.1.2.1, R.1.2.2.1, R.1.2.2.2.1, fun j hj => ?_⟩, R.2.1.fr f (by decide), R.2.2.1.fr f (by decide) (by decide), R.2.2.2.fr f (by decide) (by decide)⟩
  obtain ⟨a1, a2, a3, a4, a5, a6, a7, a8, a9, a10, a11, a12⟩ := R.1.2.2.2.2 j hj
  refine ⟨a1, a2, a3, a4, a5, a6, ?_, ?_, ?_, a10, a11, ?_⟩
  · show up2 (gA h) 248 i (nI wh) 248 j = nI (up2 (iN s) 5 i wh 5 j)
    by_cases q : j = i
    · rw [q, up2_s, up2_s]
    · rw [up2_x q, up2_x q]; exact a7
  · show up2 (gA h) 249 i (nI o) 249 j = nI (up2 (up2 (iN s) 5 i wh) 6 i o 6 j)
    by_cases q : j = i
    · rw [q, up2_s, up2_s]
    · rw [up2_x q, up2_x q, up2_k (by decide)]; exact a8
  · show up2 (gA h) 250 i (oI c) 250 j = oI (up1 (iC s) i c j)
    by_cases q : j = i
    · rw [q, up2_s, up1_s]
    · rw [up2_x q, up1_x q]; exact a9
  · show up2 (gA h) 253 i (nI (zN s 0)) 253 j = nI (up2 (up2 (up2 (iN s) 5 i wh) 6 i o) 8 i (zN s 0) 8 j)
    by_cases q : j = i
    · rw [q, up2_s, up2_s]
    · rw [up2_x q, up2_x q, up2_k (by decide), up2_k (by decide)]; exact a12
theorem r_goesTo (hs : Sh h) (W : WB bk) (hv' : v ≤ 1) (hN : gI h 3597 189 = nI v) (B : RB h v bk) (R : RS1 h s) (w : WI bk s) {i : Nat} (hi : i < zN s 2) : E (d + 1) 110 [.ref 189, .int (nI i)] h = some (some (.int (nI (goS bk s i))), h) := by
  have w1 := w.1
  have w3 := W.1.2.1
  obtain ⟨-, -, a3, -, a5, -⟩ := R.2.2.2.2 i hi
  have wi := w.2.2.2 i hi
  unfold goS
  rw [t_110 hs, gd_nI (by omega) (by decide), ix_nI (by omega), a5]
  cases hp : iP s i with
  | none => rw [if_pos (by decide), gd_nI (by omega) (by decide), a3]
  | some p =>
    have hpb := wi.2.2 p hp
    rw [show oI (some p) = nI p from rfl, if_neg (nI_nlt (by omega) (by omega)), gd_nI (by omega) (by decide), hN, pk_mul, nI_add, gd_nI (by omega) (by decide), ix_nI (by omega), (B.2.2.2.1 p hpb).2.2.1]
/-- the place of an item on a shelf -/
theorem r_place (hs : Sh h) (R : RS2 h s) (w : WS bk s) {o i p : Nat} (ho : o < 16) (hp : p < (sH s o).length) (he : (sH s o)[p] = i) : ∀ (m k : Nat) (x : Int32), k + m = (sH s o).length → (p < k → x = nI p) → Q d 113 5 [some (.ref 189), some (.int (nI o)), some (.int (nI i)), some (.int x), some (.int (nI k))] [] h = some (some (.int (nI p)), h)
  | 0, k, x, e, hx => by
    have hl := (w.len o).1
    obtain ⟨a1, a2⟩ := R.1 o ho
    rw [t_113_5 hs, gd_nI (by omega) (by decide), ix_nI (by omega), a1, if_neg (nI_nlt (by omega) (by omega)), hx (by omega)]
  | m + 1, k, x, e, hx => by
    have hl := (w.len o).1
    have w1 := w.1
    obtain ⟨a1, a2⟩ := R.1 o ho
    have hk : k < (sH s o).length := by omega
    have nd := (w.2.2.2.2.1 o).1
    have b1 := (((w.2.2.2.2.1 o).2 (sH s o)[k]).mp (List.getElem_mem hk)).1
    have b2 := (((w.2.2.2.2.1 o).2 (sH s o)[p]).mp (List.getElem_mem hp)).1
    rw [t_113_5 hs, gd_nI (by omega) (by decide), ix_nI (by omega), a1, if_pos (nI_lt hk (by omega)), pk_mul, nI_add, gd_nI (by omega) (by decide), ix_nI (by omega), a2 k hk, nI_add]
    rw [he] at b2
    simp only [show (nI (sH s o)[k] = nI i) = ((sH s o)[k] = i) from propext (nI_eq (by omega) (by omega))]
    by_cases q : k = p
    · subst q
      rw [if_pos he]
      exact r_place hs R w ho hp he m (k + 1) _ (by omega) fun _ => rfl
    · rw [if_neg fun w2 => q (nd_inj nd hk hp (w2.trans he.symm))]
      exact r_place hs R w ho hp he m (k + 1) x (by omega) fun w2 => hx (by omega)
/-- the places behind p move down -/
theorem unsh_lp {o n : Nat} {f : Nat → Int32} (ho : o < 16) (hn : n ≤ 200) : ∀ (m k : Nat) (h : AH), k + m = n - 1 → Sh h → gA h 255 o = nI (n - 1) → (∀ j, k ≤ j → j < n → gA h 254 (200 * o + j) = f j) → ∃ h', Q d 112 20 [some (.ref 189), some (.int (nI o)), none, none, some (.int (nI k))] [] h = some (none, h') ∧ Fr [] [254] h h' ∧ (∀ j, j < 3200 → (j < 200 * o + k ∨ 200 * o + (n - 1) ≤ j) → gA h' 254 j = gA h 254 j) ∧ ∀ j, k ≤ j → j < n - 1 → gA h' 254 (200 * o + j) = f (j + 1)
  | 0, k, h, e, hs, h1, h2 => ⟨h, by rw [t_112_20 hs, gd_nI (by omega) (by decide), ix_nI (by omega), h1, if_neg (nI_nlt (by omega) (by omega))], Fr.rfl, fun _ _ _ => rfl, fun j q1 q2 => by omega⟩
  | m + 1, k, h, e, hs, h1, h2 => by
    rw [t_112_20 hs, gd_nI (by omega) (by decide), ix_nI (by omega), h1, if_pos (nI_lt (by omega) (by omega)), pk_mul, nI_add, nI_add, nI_add, gd_nI (by omega) (by decide), gd_nI (by omega) (by decide), ix_nI (by omega), ix_nI (by omega), show gA h 254 (200 * o + k + 1) = f (k + 1) from h2 (k + 1) (by omega) (by omega)]
    obtain ⟨h', a1, a2, a3, a4⟩ := unsh_lp (f := f) ho hn m (k + 1) (sA h 254 (200 * o + k) (f (k + 1))) (by omega) hs.sA h1 (fun j q1 q2 => by
      show up2 (gA h) 254 (200 * o + k) _ 254 (200 * o + j) = _
      rw [up2_x (by omega)]; exact h2 j (by omega) q2)
    refine ⟨h', a1, (Fr.rfl.sA (by decide)).trans a2, fun j q1 q2 => ?_, fun j q1 q2 => ?_⟩
    · rw [a3 j q1 (by omega)]
      show up2 (gA h) 254 (200 * o + k) _ 254 j = _
      rw [up2_x (by omega)]
    · by_cases q : j = k
      · subst q
        rw [a3 (200 * o + j) (by omega) (by omega)]
        show up2 (gA h) 254 (200 * o + j) _ 254 (200 * o + j) = _
        rw [up2_s]
      · exact a4 j (by omega) q2
theorem r_unshelve (hs : Sh h) (R : RS h s) (w : WS bk s) {o i p : Nat} (ho : o < 16) (hp : p < (sH s o).length) (he : (sH s o)[p] = i) : ∃ h', E (d + 2) 112 [.ref 189, .int (nI o), .int (nI i)] h = some (none, h') ∧ Fr [] [254, 255] h h' ∧ RS h' (stH s o ((sH s o).eraseIdx p)) := by
  have hl := (w.len o).1
  obtain ⟨a1, a2⟩ := R.2.1.1 o ho
  obtain ⟨h', b1, b2, b3, b4⟩ := unsh_lp (d := d + 1) (n := (sH s o).length) (f := fun j => gA h 254 (200 * o + j)) ho hl ((sH s o).length - 1 - p) p (sA h 255 o (nI ((sH s o).length - 1))) (by omega) hs.sA (show up2 (gA h) 255 o _ 255 o = _ from up2_s) (fun j _ _ => rfl)
  have f : Fr [] [254, 255] h h' := (Fr.rfl.sA (by decide)).trans (b2.wk (by decide) (by decide))
  have hlen : ((sH s o).eraseIdx p).length = (sH s o).length - 1 := List.length_eraseIdx_of_lt hp
  refine ⟨h', ?_, f, R.1.fr f (by decide) (by decide), ⟨fun o' ho' => ?_, ?_⟩, R.2.2.1.fr f (by decide) (by decide), R.2.2.2.fr f (by decide) (by decide)⟩
  · rw [t_112 hs, t_113 hs, r_place hs R.2.1 w ho hp he (sH s o).length 0 _ (by omega) (fun q => by omega), cK_v, t_112_6 hs, gd_nI (by omega) (by decide), gd_nI (by omega) (by decide), ix_nI (by omega), a1, pk_sub (by omega)]
    exact b1
  · show gA h' 255 o' = nI (up1 (sH s) o ((sH s o).eraseIdx p) o').length ∧ ∀ k (hk : k < (up1 (sH s) o ((sH s o).eraseIdx p) o').length), gA h' 254 (200 * o' + k) = nI (up1 (sH s) o ((sH s o).eraseIdx p) o')[k]
    by_cases q : o' = o
    · subst q
      have e1 : up1 (sH s) o' ((sH s o').eraseIdx p) o' = (sH s o').eraseIdx p := up1_s
      simp only [e1]
      refine ⟨?_, fun k hk => ?_⟩
      · rw [b2.A (by decide), hlen]
        show up2 (gA h) 255 o' _ 255 o' = _
        rw [up2_s]
      · rw [hlen] at hk
        rw [List.getElem_eraseIdx]
        by_cases q2 : k < p
        · rw [dif_pos q2, b3 _ (by omega) (by omega)]
          exact a2 k (by omega)
        · rw [dif_neg q2, b4 k (by omega) hk]
          exact a2 (k + 1) (by omega)
    · have e1 : up1 (sH s) o ((sH s o).eraseIdx p) o' = sH s o' := up1_x q
      obtain ⟨c1, c2⟩ := R.2.1.1 o' ho'
      have hl' := (w.len o').1
      simp only [e1]
      refine ⟨?_, fun k hk => ?_⟩
      · rw [b2.A (by decide)]
        show up2 (gA h) 255 o _ 255 o' = _
        rw [up2_x q]; exact c1
      · rw [b3 _ (by omega) (by omega)]
        exact c2 k hk
  · intro c hc
    rw [f.A (by decide), f.A (by decide)]
    exact R.2.1.2 c hc
/-- into a bag: from the shelf of the coach's office -/
def ibS (bk : Bk) (s : St) (i c : Nat) : St := ntS bk (cmS (stG (stH s (bk 25 c) ((sH s (bk 25 c)).erase i)) c (sG s c ++ [i])) i 1 (bk 25 c) (some c)) i 1 (bk 25 c)
theorem RS.H (R : RS h s) : RS h s := R
theorem eraseIdx_of {l : List Nat} (nd : l.Nodup) {p i : Nat} (hp : p < l.length) (he : l[p] = i) : l.eraseIdx p = l.erase i := by
  have e1 : l.idxOf i = p := by
    have h1 : i ∈ l := by rw [← he]; exact List.getElem_mem hp
    have h2 := List.idxOf_lt_length_of_mem h1
    have h3 : l[l.idxOf i] = i := List.getElem_idxOf h2
    exact nd_inj nd h2 hp (h3.trans he.symm)
  rw [List.erase_eq_eraseIdx_of_idxOf e1]
theorem r_intoBag (hs : Sh h) (W : WB bk) (hv' : v ≤ 1) (hN : gI h 3597 189 = nI v) (B : RB h v bk) (R : RS h s) (w : WS bk s) {i c : Nat} (hi : i < zN s 2) (hc : c < bk 0 3) (h0 : iN s 5 i = 0) (h6 : iN s 6 i = bk 25 c) : ∃ h', E (d + 4) 111 [.ref 189, .int (nI i), .int (nI c)] h = some (none, h') ∧ Fr [3678] [248, 249, 250, 253, 254, 255, 256, 257] h h' ∧ RS h' (ibS bk s i c) := by
  have w3 := W.1.2.2.2.1
  have w0 := W.1.1
  have q1 := (W.2.2.2.2.2 c hc).1
  have hm : i ∈ sH s (bk 25 c) := ((w.2.2.2.2.1 (bk 25 c)).2 i).mpr ⟨hi, h0, h6⟩
  obtain ⟨p, hp, he⟩ := List.getElem_of_mem hm
  have ee := eraseIdx_of (w.2.2.2.2.1 (bk 25 c)).1 hp he
  obtain ⟨h1, a1, a2, a3⟩ := r_unshelve (d := d + 1) hs R w (show bk 25 c < 16 by omega) hp he
  rw [ee] at a3
  have hs1 := a2.sh hs
  have hN1 : gI h1 3597 189 = nI v := by rw [a2.I (by decide)]; exact hN
  have B1 : RB h1 v bk := B.fr a2 (by decide)
  have hl := (w.len c).2
  have ni : i ∉ sG s c := fun q => by
    have := (((w.2.2.2.2.2.1 c).2 i).mp q).2.1
    omega
  have hl2 : (sG s c).length < 200 := by
    have := nd_len (zN s 2) (i :: sG s c) (List.nodup_cons.mpr ⟨ni, (w.2.2.2.2.2.1 c).1⟩) fun x hx => by
      rcases List.mem_cons.mp hx with rfl | hx
      · exact hi
      · exact (((w.2.2.2.2.2.1 c).2 x).mp hx).1
    rw [List.length_cons] at this
    have := w.1
    omega
  have g1 : gA h1 257 c = nI (sG s c).length := (a3.2.1.2 c (by omega)).1
  have f2 : Fr [] [256, 257] h1 (sA (sA h1 256 (200 * c + (sG s c).length) (nI i)) 257 c (nI ((sG s c).length + 1))) := (Fr.rfl.sA (by decide)).sA (by decide)
  have R2 : RS (sA (sA h1 256 (200 * c + (sG s c).length) (nI i)) 257 c (nI ((sG s c).length + 1))) (stG (stH s (bk 25 c) ((sH s (bk 25 c)).erase i)) c (sG s c ++ [i])) := by
    refine ⟨a3.1.fr f2 (by decide) (by decide), ⟨fun o ho => ?_, fun c' hc' => ?_⟩, a3.2.2.1.fr f2 (by decide) (by decide), a3.2.2.2.fr f2 (by decide) (by decide)⟩
    · rw [f2.A (by decide), f2.A (by decide)]; exact a3.2.1.1 o ho
    · obtain ⟨b1, b2⟩ := a3.2.1.2 c' hc'
      show up2 (gA h1) 257 c _ 257 c' = nI (up1 (sG s) c (sG s c ++ [i]) c').length ∧ ∀ k (hk : k < (up1 (sG s) c (sG s c ++ [i]) c').length), up2 (gA h1) 256 (200 * c + (sG s c).length) (nI i) 256 (200 * c' + k) = nI (up1 (sG s) c (sG s c ++ [i]) c')[k]
      by_cases q : c' = c
      · subst q
        have e1 : up1 (sG s) c' (sG s c' ++ [i]) c' = sG s c' ++ [i] := up1_s
        simp only [e1]
        refine ⟨by rw [up2_s, List.length_append]; rfl, fun k hk => ?_⟩
        rw [List.length_append] at hk
        by_cases q2 : k = (sG s c').length
        · subst q2
          rw [up2_s, List.getElem_append_right (Nat.le_refl _)]
          simp
        · have hk2 : k < (sG s c').length := by
            have : k < (sG s c').length + 1 := hk
            omega
          rw [up2_x (by omega), List.getElem_append_left hk2]
          exact b2 k hk2
      · have e1 : up1 (sG s) c (sG s c ++ [i]) c' = sG s c' := up1_x q
        have hl3 := (w.len c').2
        simp only [e1]
        refine ⟨by rw [up2_x q]; exact b1, fun k hk => ?_⟩
        rw [up2_x (by omega)]
        exact b2 k hk
  obtain ⟨h3, x1, x2, x3⟩ := r_comes (d := d + 2) (bk := bk) (i := i) (wh := 1) (o := bk 25 c) (c := some c) (hs1.sA.sA (k := 257) (x := c) (v := nI ((sG s c).length + 1)) : Sh (sA (sA h1 256 (200 * c + (sG s c).length) (nI i)) 257 c (nI ((sG s c).length + 1)))) R2 (show WI bk (stG (stH s (bk 25 c) ((sH s (bk 25 c)).erase i)) c (sG s c ++ [i])) from w.i) hi
  have hs3 := x2.sh hs1.sA.sA
  have f3 : Fr [] [248, 249, 250, 253, 256, 257] h1 h3 := (f2.wk (by decide) (by decide)).trans (x2.wk (by decide) (by decide))
  obtain ⟨h4, y1, y2, y3⟩ := r_note (d := d + 1) (i := i) (wh := 1) (o := bk 25 c) hs3 W hv' (by rw [f3.I (by decide)]; exact hN1) (B1.fr f3 (by decide)) x3 (w.i.cm i 1 (bk 25 c) (some c)) hi (by decide) (by omega)
  refine ⟨h4, ?_, ((a2.wk (by decide) (by decide)).trans (f3.wk (by decide) (by decide))).trans (y2.wk (by decide) (by decide)), y3⟩
  rw [t_111 hs, hN, pk_mul, nI_add, gd_nI (by omega) (by decide), ix_nI (by omega), (B.2.2.2.2.2 c hc).1, a1, cK_n, t_111_21 hs1, gd_nI (by omega) (by decide), ix_nI (by omega), g1, pk_mul, nI_add, gd_nI (by omega) (by decide), gd_nI (by omega) (by decide), gd_nI (by omega) (by decide), nI_add, ix_nI (by omega), show nI c = oI (some c) from rfl, x1, cK_n, t_111_57 hs3, y1, cK_n, t_111_64 (y2.sh hs3)]
end ROPS
