/-! ===== RUN: the reference's codes that work on the pile ===== -/
def binV (x : Nat) (a b : Int64) : Int64 := if x = 7 then a + b else if x = 8 then a - b else if x = 9 then a * b else if x = 10 then a / b else if x = 11 then a - a / b * b else if x = 12 then (if lg_cmp a b < nI 0 then 1 else 0) else if lg_cmp a b = nI 0 then 1 else 0
section OPS
variable {c : CXm} {hc hr h : AH} {n D T p k : Nat}
theorem o_152a (hs : Sh h) {x : Nat} (hx : 7 ≤ x ∧ x < 14) (y : Int32) : E (n + 1) 152 [.ref 189, .int (nI x), .int y] h = cK (E n 174 [.ref 189, .int (nI x)] h) (Q n 152 56 [some (.ref 189), some (.int (nI x)), some (.int y)]) [] := by
  rw [t_152 hs, if_pos (nI_lt (by omega) (by decide)), if_pos (nI_lt (by omega) (by decide)), if_pos (nI_lt (by omega) (by decide)), if_neg (nI_nlt (by omega) (by omega))]
theorem o_152b (hs : Sh h) {x : Nat} (hx : 14 ≤ x ∧ x < 29) (y : Int32) : E (n + 1) 152 [.ref 189, .int (nI x), .int y] h = cK (E n 171 [.ref 189, .int (nI x), .int y] h) (Q n 152 42 [some (.ref 189), some (.int (nI x)), some (.int y)]) [] := by
  rw [t_152 hs, if_pos (nI_lt (by omega) (by decide)), if_pos (nI_lt (by omega) (by decide)), if_neg (nI_nlt (by omega) (by omega))]
theorem o_152c (hs : Sh h) {x : Nat} (hx : 29 ≤ x ∧ x < 38) (y : Int32) : E (n + 1) 152 [.ref 189, .int (nI x), .int y] h = cK (E n 159 [.ref 189, .int (nI x), .int y] h) (Q n 152 27 [some (.ref 189), some (.int (nI x)), some (.int y)]) [] := by
  rw [t_152 hs, if_pos (nI_lt (by omega) (by decide)), if_neg (nI_nlt (by omega) (by omega))]
theorem o_152d (hs : Sh h) {x : Nat} (hx : 38 ≤ x ∧ x < 60) (y : Int32) : E (n + 1) 152 [.ref 189, .int (nI x), .int y] h = cK (E n 153 [.ref 189, .int (nI x), .int y] h) (Q n 152 12 [some (.ref 189), some (.int (nI x)), some (.int y)]) [] := by
  rw [t_152 hs, if_neg (nI_nlt (by omega) (by omega))]
theorem o_152e (hs : Sh h) {x : Nat} (hx : x < 7) (y : Int32) : E (n + 1) 152 [.ref 189, .int (nI x), .int y] h = cK (E n 175 [.ref 189, .int (nI x), .int y] h) (Q n 152 65 [none, none, none]) [] := by
  rw [t_152 hs, if_pos (nI_lt (by omega) (by decide)), if_pos (nI_lt (by omega) (by decide)), if_pos (nI_lt (by omega) (by decide)), if_pos (nI_lt (by omega) (by decide))]
/-- two values become one -/
theorem o_bin (hs : Sh h) {x : Nat} (hx : 7 ≤ x ∧ x < 14) (y : Int32) (hT : T + 1 < 2000) (e : gI h 3723 189 = nI (T + 1 + 1)) (nz : ¬ ((x = 10 ∨ x = 11) ∧ gB h 289 (T + 1) = 0)) (hn : 3 ≤ n) : Ok1 h T (binV x (gB h 289 T) (gB h 289 (T + 1))) (E n 152 [.ref 189, .int (nI x), .int y] h) := by
  obtain ⟨m, rfl⟩ : ∃ m, n = m + 1 + 1 := ⟨n - 2, by omega⟩
  have e1 : gI (sI h 3723 189 (nI (T + 1))) 3723 189 = nI (T + 1) := gI_s
  have e2 : gI (sI (sI h 3723 189 (nI (T + 1))) 3723 189 (nI T)) 3723 189 = nI T := gI_s
  obtain ⟨h0, hE⟩ : ∃ h0, h0 = sI (sI h 3723 189 (nI (T + 1))) 3723 189 (nI T) := ⟨_, rfl⟩
  rw [← hE] at e2
  have f0 : Fr [3723] [] h h0 := by rw [hE]; exact (Fr.rfl.sI (by decide)).sI (by decide)
  have hs0 := f0.sh hs
  have b0 : gB h0 = gB h := by rw [hE]; rfl
  have go : ∀ w, ∃ h1, cK (E m 172 [.ref 189, .long w] h0) (fun st h => some (none, h)) [] = some (none, h1) ∧ E m 172 [.ref 189, .long w] h0 = some (none, h1) ∧ Fr [3723] [289] h h1 ∧ gI h1 3723 189 = nI (T + 1) ∧ gB h1 289 T = w ∧ ∀ j, j < T → gB h1 289 j = gB h 289 j := fun w => by
    rw [rm_push hs0 (by omega) e2 (by omega)]
    refine ⟨_, rfl, rfl, (f0.wk (fun _ q => q) (fun _ q => absurd q List.not_mem_nil)).trans ((Fr.rfl.sB (by decide)).sI (by decide)), gI_s, ?_, fun j hj => ?_⟩
    · show gB (sB h0 289 T w) 289 T = w
      rw [gB_s, up1_s]
    · show gB (sB h0 289 T w) 289 j = _
      rw [gB_s, up1_x (by omega), b0]
  obtain ⟨h1, -, g1, g2, g3⟩ := go (binV x (gB h 289 T) (gB h 289 (T + 1)))
  have hs1 := g2.sh hs
  refine ⟨h1, ?_, g2, g3⟩
  rw [o_152a hs hx, t_174 hs, rm_pop hs (by omega) e (by omega), cK_v, t_174_4 hs.sI, rm_pop hs.sI (by omega) e1 (by omega), cK_v, ← hE, t_174_9 hs0]
  rw [show gB (sI h 3723 189 (nI (T + 1))) 289 T = gB h 289 T from rfl]
  have key : ∀ {u : Vs → AH → Option Ot} {v0 v1 v2 : Option Value}, (∀ h', Sh h' → u [] h' = some (none, h')) → cK (cK (E m 172 [.ref 189, .long (binV x (gB h 289 T) (gB h 289 (T + 1)))] h0) u []) (Q (m + 1) 152 56 [v0, v1, v2]) [] = some (none, h1) := fun {u v0 v1 v2} hu => by
    rw [g1, cK_n, hu h1 hs1, cK_n, t_152_56 hs1, t_152_65 hs1]
  have dz : x = 10 ∨ x = 11 → ¬ lg_cmp (gB h 289 (T + 1)) 0 = nI 0 := fun q z => nz ⟨q, (lg_cmp_eq _ _).mp z⟩
  have x7 : x = 7 ∨ x = 8 ∨ x = 9 ∨ x = 10 ∨ x = 11 ∨ x = 12 ∨ x = 13 := by omega
  rcases x7 with q | q | q | q | q | q | q <;> subst q
  · rw [if_neg (by decide), if_neg (by decide), if_pos rfl]
    exact key fun h' s' => by rw [t_174_84 s', t_174_166 s']
  · rw [if_neg (by decide), if_neg (by decide), if_neg (by decide), if_pos rfl]
    exact key fun h' s' => by rw [t_174_95 s', t_174_166 s']
  · rw [if_neg (by decide), if_neg (by decide), if_neg (by decide), if_neg (by decide), if_pos rfl]
    exact key fun h' s' => by rw [t_174_106 s', t_174_166 s']
  · rw [if_pos rfl, if_neg (dz (Or.inl rfl)), if_neg (by decide), if_neg (by decide), if_neg (by decide), if_pos rfl, dZ_ok (fun z => nz ⟨Or.inl rfl, z⟩)]
    exact key fun h' s' => by rw [t_174_117 s', t_174_166 s']
  · rw [if_neg (by decide), if_pos rfl, if_neg (dz (Or.inr rfl)), if_neg (by decide), if_neg (by decide), if_neg (by decide), if_neg (by decide), if_pos rfl, dZ_ok (fun z => nz ⟨Or.inr rfl, z⟩)]
    exact key fun h' s' => by rw [t_174_128 s', t_174_166 s']
  · rw [if_neg (by decide), if_neg (by decide), if_neg (by decide), if_neg (by decide), if_neg (by decide), if_neg (by decide), if_neg (by decide), if_pos rfl]
    have bv : binV 12 (gB h 289 T) (gB h 289 (T + 1)) = if lg_cmp (gB h 289 T) (gB h 289 (T + 1)) < nI 0 then 1 else 0 := rfl
    rw [bv] at key
    by_cases z : lg_cmp (gB h 289 T) (gB h 289 (T + 1)) < nI 0
    · rw [if_pos z] at key ⊢; exact key fun h' s' => by rw [t_174_147 s', t_174_166 s']
    · rw [if_neg z] at key ⊢; exact key fun h' s' => by rw [t_174_147 s', t_174_166 s']
  · rw [if_neg (by decide), if_neg (by decide), if_neg (by decide), if_neg (by decide), if_neg (by decide), if_neg (by decide), if_neg (by decide), if_neg (by decide)]
    have bv : binV 13 (gB h 289 T) (gB h 289 (T + 1)) = if lg_cmp (gB h 289 T) (gB h 289 (T + 1)) = nI 0 then 1 else 0 := rfl
    rw [bv] at key
    by_cases z : lg_cmp (gB h 289 T) (gB h 289 (T + 1)) = nI 0
    · rw [if_pos z] at key ⊢; exact key fun h' s' => by rw [t_174_166 s']
    · rw [if_neg z] at key ⊢; exact key fun h' s' => by rw [t_174_166 s']
/-- by 0 -/
theorem o_div0 (hs : Sh h) {x : Nat} (hx : x = 10 ∨ x = 11) (y : Int32) (hT : T + 1 < 2000) (e : gI h 3723 189 = nI (T + 1 + 1)) (e3 : gI h 3733 189 = nI 0) (z : gB h 289 (T + 1) = 0) (hn : 4 ≤ n) : Rf1 h 6 (E n 152 [.ref 189, .int (nI x), .int y] h) := by
  obtain ⟨m, rfl⟩ : ∃ m, n = m + 1 + 1 := ⟨n - 2, by omega⟩
  have e1 : gI (sI h 3723 189 (nI (T + 1))) 3723 189 = nI (T + 1) := gI_s
  obtain ⟨h0, hE⟩ : ∃ h0, h0 = sI (sI h 3723 189 (nI (T + 1))) 3723 189 (nI T) := ⟨_, rfl⟩
  have f0 : Fr [3723, 3733] [289] h h0 := by rw [hE]; exact (Fr.rfl.sI (by decide)).sI (by decide)
  have hs0 := f0.sh hs
  have c0 : gI h0 3733 189 = nI 0 := by rw [hE, gI_k (by decide), gI_k (by decide)]; exact e3
  refine ⟨sI h0 3733 189 (nI 6), ?_, f0.sI (by decide), gI_s⟩
  rw [o_152a hs (by omega), t_174 hs, rm_pop hs (by omega) e (by omega), cK_v, t_174_4 hs.sI, rm_pop hs.sI (by omega) e1 (by omega), cK_v, ← hE, t_174_9 hs0, z]
  rcases hx with q | q <;> subst q
  · rw [if_pos rfl, if_pos (show lg_cmp 0 0 = nI 0 from (lg_cmp_eq 0 0).mpr rfl), rm_refuse hs0 (by omega) c0, cK_n, t_174_35 hs0.sI, cK_n, t_152_56 hs0.sI, t_152_65 hs0.sI]
  · rw [if_neg (by decide), if_pos rfl, if_pos (show lg_cmp 0 0 = nI 0 from (lg_cmp_eq 0 0).mpr rfl), rm_refuse hs0 (by omega) c0, cK_n, t_174_35 hs0.sI, cK_n, t_152_56 hs0.sI, t_152_65 hs0.sI]
end OPS
