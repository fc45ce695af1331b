/-! ===== WORDS: what they are ===== -/
def sl (c : Nat → Nat) : Nat → Nat → List Nat
  | _, 0 => []
  | a, k + 1 => c a :: sl c (a + 1) k
theorem sl_l {c : Nat → Nat} : ∀ (k a : Nat), (sl c a k).length = k
  | 0, a => rfl
  | k + 1, a => by rw [sl, List.length_cons, sl_l k]
theorem sl_app {c : Nat → Nat} : ∀ (k a : Nat), sl c a (k + 1) = sl c a k ++ [c (a + k)]
  | 0, a => rfl
  | k + 1, a => by rw [sl, sl_app k (a + 1), sl, List.cons_append, show a + 1 + k = a + (k + 1) from by omega]
theorem sl_m {c : Nat → Nat} {P : Nat → Prop} : ∀ (k a : Nat), (∀ i, a ≤ i → i < a + k → P (c i)) → ∀ x, x ∈ sl c a k → P x
  | 0, a, _ => fun x hx => absurd hx List.not_mem_nil
  | k + 1, a, h => fun x hx => by
    rw [sl, List.mem_cons] at hx
    rcases hx with hx | hx
    · rw [hx]; exact h a (Nat.le_refl _) (by omega)
    · exact sl_m k (a + 1) (fun i h1 h2 => h i (by omega) (by omega)) x hx
theorem wr_cons {f : Nat → Int32} {s x : Nat} {l : List Nat} : wrL (up1 f s (nI x)) (s + 1) l = wrL f s (x :: l) := by
  funext i
  unfold wrL
  rw [List.length_cons]
  by_cases q : s + 1 ≤ i ∧ i < s + 1 + l.length
  · rw [if_pos q, if_pos (by omega), show i - s = (i - (s + 1)) + 1 from by omega, List.getD_cons_succ]
  · rw [if_neg q]
    by_cases w : i = s
    · rw [w, if_pos (by omega), up1, if_pos rfl, Nat.sub_self]; rfl
    · rw [if_neg (by omega), up1, if_neg w]
def pkN (a : Nat) (l : List Nat) : Nat := l.foldl (fun a x => 37 * a + x) a
theorem pk_b : ∀ (l : List Nat) (a m : Nat), a < 37 ^ m → (∀ x, x ∈ l → x < 37) → pkN a l < 37 ^ (m + l.length)
  | [], a, m, h, _ => h
  | x :: l, a, m, h, hx => by
    have h1 := hx x (List.mem_cons_self ..)
    have : 37 * a + x < 37 ^ (m + 1) := by rw [Nat.pow_succ]; omega
    have := pk_b l (37 * a + x) (m + 1) this fun y hy => hx y (List.mem_cons_of_mem _ hy)
    rw [show m + 1 + l.length = m + (x :: l).length from by rw [List.length_cons]; omega] at this
    exact this
/-- the first short with a name -/
def shL (bk : Bk) (p : Nat) : Nat → Nat → Option Nat
  | 0, _ => none
  | k + 1, j => if bk 5 j = p then some j else shL bk p k (j + 1)
theorem sh_b {bk : Bk} {p i : Nat} : ∀ (k j : Nat), shL bk p k j = some i → i < j + k
  | 0, j, e => by cases e
  | k + 1, j, e => by
    rw [shL] at e
    by_cases q : bk 5 j = p
    · rw [if_pos q] at e; cases e; omega
    · rw [if_neg q] at e; have := sh_b k (j + 1) e; omega
/-- a word, written out if it is a short -/
def exW (bk : Bk) (w : List Nat) : List Nat := if 12 < w.length then w else match shL bk (pkN 0 w) (bk 0 4) 0 with
  | none => w
  | some i => ncod 12 (bk 6 i)
def wl (bk : Bk) (n : Nat) (c : Nat → Nat) : Nat → Nat → Nat → List (List Nat) → List (List Nat)
  | 0, _, _, ws => ws
  | k + 1, fr, at', ws => if at' = n ∨ c at' = 0 then wl bk n c k (at' + 1) (at' + 1) (if fr < at' then ws ++ [exW bk (sl c fr (at' - fr))] else ws) else wl bk n c k fr (at' + 1) ws
/-- the words behind each other, a blank behind each -/
def FL : List (List Nat) → List Nat
  | [] => []
  | w :: ws => w ++ 0 :: FL ws
theorem FL_app : ∀ (ws : List (List Nat)) (w : List Nat), FL (ws ++ [w]) = FL ws ++ (w ++ [0])
  | [], w => rfl
  | v :: ws, w => by rw [List.cons_append, FL, FL_app ws w, FL, List.append_assoc, List.cons_append]
def off (ws : List (List Nat)) (k : Nat) : Nat := (FL (ws.take k)).length
theorem off_app {ws : List (List Nat)} {w : List Nat} {k : Nat} (h : k ≤ ws.length) : off (ws ++ [w]) k = off ws k := by
  unfold off; rw [List.take_append_of_le_length h]
theorem off_n {ws : List (List Nat)} : off ws ws.length = (FL ws).length := by unfold off; rw [List.take_length]
theorem off_s {ws : List (List Nat)} {k : Nat} {w : List Nat} (e : ws[k]? = some w) : off ws (k + 1) = off ws k + w.length + 1 := by
  unfold off
  rw [List.take_add_one, e, Option.toList_some, FL_app, List.length_append, List.length_append, List.length_singleton]; omega
/-- names of a book have no blank in them -/
def WN (bk : Bk) : Prop := (∀ i, i < bk 0 0 → nzN (bk 1 i)) ∧ (∀ i, i < bk 0 4 → nzN (bk 6 i)) ∧ ∀ p, p < bk 0 1 → ∀ k, k < bk 8 p → nzN (bk 7 (3 * p + k))
/-- how long words may be that begin before fr -/
def WWb (fr : Nat) (ws : List (List Nat)) : Prop := 2 * ws.length ≤ fr ∧ (FL ws).length ≤ 13 * ws.length + fr ∧ ∀ w, w ∈ ws → ∀ x, x ∈ w → x ≠ 0 ∧ x < 37
section WDS
variable {bk : Bk}
theorem ex_l {w : List Nat} : (exW bk w).length ≤ max 12 w.length := by
  unfold exW
  by_cases q : 12 < w.length
  · rw [if_pos q]; omega
  · rw [if_neg q]
    cases shL bk (pkN 0 w) (bk 0 4) 0 with
    | none => show w.length ≤ _; omega
    | some i => show (ncod 12 (bk 6 i)).length ≤ _; have := nc_l 12 (bk 6 i); omega
theorem ex_m (N : WN bk) {w : List Nat} (h : ∀ x, x ∈ w → x ≠ 0 ∧ x < 37) : ∀ x, x ∈ exW bk w → x ≠ 0 ∧ x < 37 := by
  unfold exW
  by_cases q : 12 < w.length
  · rw [if_pos q]; exact h
  · rw [if_neg q]
    cases e : shL bk (pkN 0 w) (bk 0 4) 0 with
    | none => exact h
    | some i => exact fun x hx => ⟨N.2.1 i (by have := sh_b _ _ e; omega) x hx, nc_b _ _ x hx⟩
theorem WWb.add {fr a : Nat} {ws : List (List Nat)} {w : List Nat} (W : WWb fr ws) (h : fr < a) (hl : w.length ≤ max 12 (a - fr)) (hw : ∀ x, x ∈ w → x ≠ 0 ∧ x < 37) : WWb (a + 1) (ws ++ [w]) := by
  obtain ⟨w1, w2, w3⟩ := W
  refine ⟨?_, ?_, fun v hv => ?_⟩
  · rw [List.length_append, List.length_singleton]; omega
  · rw [FL_app, List.length_append, List.length_append, List.length_append, List.length_singleton, List.length_singleton]; omega
  · rw [List.mem_append, List.mem_singleton] at hv
    rcases hv with hv | hv
    · exact w3 v hv
    · rw [hv]; exact hw
theorem WWb.up {fr a : Nat} {ws : List (List Nat)} (W : WWb fr ws) (h : fr ≤ a) : WWb a ws := ⟨by have := W.1; omega, by have := W.2.1; omega, W.2.2⟩
theorem WWb.wls (N : WN bk) {n : Nat} {c : Nat → Nat} (hc : ∀ i, c i < 37) : ∀ (k fr a : Nat) (ws : List (List Nat)), WWb fr ws → fr ≤ a → k + a = n + 1 → (∀ i, fr ≤ i → i < a → c i ≠ 0) → WWb (n + 1) (wl bk n c k fr a ws)
  | 0, fr, a, ws, W, h, e, _ => W.up (by omega)
  | k + 1, fr, a, ws, W, h, e, nz => by
    rw [wl]
    by_cases q : a = n ∨ c a = 0
    · rw [if_pos q]
      refine WWb.wls N hc k (a + 1) (a + 1) _ ?_ (Nat.le_refl _) (by omega) (fun i h1 h2 => absurd h2 (by omega))
      by_cases w : fr < a
      · rw [if_pos w]
        refine W.add w (by have := ex_l (bk := bk) (w := sl c fr (a - fr)); rw [sl_l] at this; exact this) (ex_m N ?_)
        exact sl_m _ _ fun i h1 h2 => ⟨nz i h1 (by omega), hc i⟩
      · rw [if_neg w]; exact W.up (by omega)
    · rw [if_neg q]
      exact WWb.wls N hc k fr (a + 1) ws W (by omega) (by omega) fun i h1 h2 => by
        by_cases w : i = a
        · rw [w]; exact fun z => q (Or.inr z)
        · exact nz i h1 (by omega)
theorem wl_rest {n : Nat} {c : Nat → Nat} {k a : Nat} {ws : List (List Nat)} (h : a = n ∨ c a = 0) : wl bk n c (k + 1) a a ws = wl bk n c k (a + 1) (a + 1) ws := by
  rw [wl, if_pos h, if_neg (Nat.lt_irrefl _)]
end WDS
/-- the component's words -/
def CWs (h : AH) (ws : List (List Nat)) : Prop := gI h 1028 103 = nI ws.length ∧ (∀ k w, ws[k]? = some w → gA h 105 k = nI (off ws k) ∧ gA h 106 k = nI (off ws k + w.length)) ∧ ∀ i, i + 1 < (FL ws).length → gA h 104 i = nI ((FL ws).getD i 0)
/-- the reference's words -/
def RWs (h : AH) (ws : List (List Nat)) : Prop := gI h 3638 189 = nI ws.length ∧ gI h 3639 189 = nI (FL ws).length ∧ (∀ k w, ws[k]? = some w → gA h 234 k = nI (off ws k) ∧ gA h 235 k = nI w.length) ∧ ∀ i, i < (FL ws).length → gA h 233 i = nI (asc ((FL ws).getD i 0))
theorem gI_n {α : Type} {f : Nat → α} {k x : Nat} {v : α} (e : k ≠ x) : up1 f x v k = f k := by unfold up1; rw [if_neg e]
theorem CWs.add {h h' : AH} {ws : List (List Nat)} {w : List Nat} (C : CWs h ws) (e1 : gI h' 1028 103 = nI (ws.length + 1)) (e2 : gA h' 105 = up1 (gA h 105) ws.length (nI (FL ws).length)) (e3 : gA h' 106 = up1 (gA h 106) ws.length (nI ((FL ws).length + w.length))) (e4 : ∀ i, i < (FL ws).length → gA h' 104 i = nI ((FL ws).getD i 0)) (e5 : ∀ i, i < w.length → gA h' 104 ((FL ws).length + i) = nI (w.getD i 0)) : CWs h' (ws ++ [w]) := by
  refine ⟨by rw [List.length_append, List.length_singleton]; exact e1, fun k v hv => ?_, fun i hi => ?_⟩
  · by_cases q : k < ws.length
    · rw [List.getElem?_append_left q] at hv
      rw [e2, e3, gI_n (by omega), gI_n (by omega), off_app (by omega)]
      exact C.2.1 k v hv
    · rw [List.getElem?_append_right (by omega)] at hv
      have : k = ws.length := by
        by_cases z : k - ws.length = 0
        · omega
        · rw [List.getElem?_eq_none (by rw [List.length_singleton]; omega)] at hv; cases hv
      subst this
      rw [Nat.sub_self] at hv
      cases hv
      rw [e2, e3, off_app (Nat.le_refl _), off_n, up1, if_pos rfl, up1, if_pos rfl]
      exact ⟨rfl, rfl⟩
  · rw [FL_app, List.length_append, List.length_append, List.length_singleton] at hi
    rw [FL_app, List.getD_eq_getElem?_getD]
    by_cases q : i < (FL ws).length
    · rw [List.getElem?_append_left q, e4 i q, List.getD_eq_getElem?_getD]
    · obtain ⟨j, rfl⟩ : ∃ j, i = (FL ws).length + j := ⟨i - (FL ws).length, by omega⟩
      rw [List.getElem?_append_right (by omega), Nat.add_sub_cancel_left, List.getElem?_append_left (by omega), e5 j (by omega), List.getD_eq_getElem?_getD]
theorem RWs.add {h h' : AH} {ws : List (List Nat)} {w : List Nat} (C : RWs h ws) (e0 : gI h' 3638 189 = nI (ws.length + 1)) (e1 : gI h' 3639 189 = nI ((FL ws).length + w.length + 1)) (e2 : gA h' 234 = up1 (gA h 234) ws.length (nI (FL ws).length)) (e3 : gA h' 235 = up1 (gA h 235) ws.length (nI w.length)) (e4 : ∀ i, i < (FL ws).length → gA h' 233 i = gA h 233 i) (e5 : ∀ i, i < w.length → gA h' 233 ((FL ws).length + i) = nI (asc (w.getD i 0))) (e6 : gA h' 233 ((FL ws).length + w.length) = nI 32) : RWs h' (ws ++ [w]) := by
  refine ⟨by rw [List.length_append, List.length_singleton]; exact e0, by rw [FL_app, List.length_append, List.length_append, List.length_singleton, ← Nat.add_assoc]; exact e1, fun k v hv => ?_, fun i hi => ?_⟩
  · by_cases q : k < ws.length
    · rw [List.getElem?_append_left q] at hv
      rw [e2, e3, gI_n (by omega), gI_n (by omega), off_app (by omega)]
      exact C.2.2.1 k v hv
    · rw [List.getElem?_append_right (by omega)] at hv
      have : k = ws.length := by
        by_cases z : k - ws.length = 0
        · omega
        · rw [List.getElem?_eq_none (by rw [List.length_singleton]; omega)] at hv; cases hv
      subst this
      rw [Nat.sub_self] at hv
      cases hv
      rw [e2, e3, off_app (Nat.le_refl _), off_n, up1, if_pos rfl, up1, if_pos rfl]
      exact ⟨rfl, rfl⟩
  · rw [FL_app, List.length_append, List.length_append, List.length_singleton] at hi
    rw [FL_app, List.getD_eq_getElem?_getD]
    by_cases q : i < (FL ws).length
    · rw [List.getElem?_append_left q, e4 i q, C.2.2.2 i q, List.getD_eq_getElem?_getD]
    · obtain ⟨j, rfl⟩ : ∃ j, i = (FL ws).length + j := ⟨i - (FL ws).length, by omega⟩
      rw [List.getElem?_append_right (by omega), Nat.add_sub_cancel_left]
      by_cases z : j < w.length
      · rw [List.getElem?_append_left z, e5 j z, List.getD_eq_getElem?_getD]
      · obtain rfl : j = w.length := by omega
        rw [e6, List.getElem?_append_right (Nat.le_refl _), Nat.sub_self]; rfl
