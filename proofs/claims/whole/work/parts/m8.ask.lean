/-! ===== RUN: the reference's codes that ask of items ===== -/
/-- an item's sort is x, or a letter's (0) where it is registered -/
def ofS (bk : Bk) (s : St) (i x : Nat) : Bool := decide (bk 18 (iN s 0 i) = x) || decide (x = 0) && decide (bk 18 (iN s 0 i) = 2)
section OIT
variable {h h0 : AH} {n T i v : Nat} {w : Int64} {bk : Bk} {s : St}
theorem o_26 (hs : Sh h) (e : gI h 3723 189 = nI (T + 1)) (e3 : gI h 3733 189 = nI 0) (hT : T < 2000) (hn : 4 ≤ n) (y : Int32) {o : Nat} (ho : o < 16) (eo : gI h 3726 189 = nI o) {len : Nat} (el : gA h 255 o = nI len) (hl : len ≤ 200) :
    (∀ a, a < len → gB h 289 T = lN a → Ok1 h T (gA h 254 (200 * o + a)).toInt64 (E n 152 [.ref 189, .int (nI 26), .int y] h)) ∧ ((gB h 289 T < 0 ∨ ¬ gB h 289 T < (nI len).toInt64) → Rf1 h 3 (E n 152 [.ref 189, .int (nI 26), .int y] h)) := by
  obtain ⟨m, rfl⟩ : ∃ m, n = m + 1 + 1 := ⟨n - 2, by omega⟩
  have f0 : Fr [3723] [] h (sI h 3723 189 (nI T)) := Fr.rfl.sI (by decide)
  have e0 : E (m + 1 + 1) 152 [.ref 189, .int (nI 26), .int y] h = cK (Q m 171 287 [some (.ref 189), some (.int (nI 26)), some (.int y), none, none, none, none] [.long (gB h 289 T)] (sI h 3723 189 (nI T))) (Q (m + 1) 152 42 [some (.ref 189), some (.int (nI 26)), some (.int y)]) [] := by
    rw [o_152b hs (by decide), t_171 hs, if_neg (by decide), if_neg (by decide), if_neg (by decide), if_neg (by decide), if_neg (by decide), if_neg (by decide), if_neg (by decide), if_neg (by decide), if_neg (by decide), if_neg (by decide), if_neg (by decide), if_neg (by decide), if_pos rfl, rm_pop hs (by omega) e (by omega), cK_v]
  have rf : Rf1 h 3 (cK (E m 161 [.ref 189, .int (nI 3)] (sI h 3723 189 (nI T))) (Q m 171 314 [some (.ref 189), none, none, none, none, none, none]) []) := Rf1.mk f0 hs e3 (by omega) fun h' s => by rw [t_171_314 s, t_171_347 s]
  have go : gI (sI h 3723 189 (nI T)) 3726 189 = nI o := by rw [gI_k (by decide)]; exact eo
  rw [e0, t_171_287 hs.sI, go]
  simp only [c_lt]
  rw [gd_nI ho (by decide), ix_nI (by omega), show gA (sI h 3723 189 (nI T)) 255 o = gA h 255 o from rfl, el]
  refine ⟨fun a ha e => ?_, fun q => ?_⟩
  · have a1 : ¬ gB h 289 T < 0 := by
      rw [e, Int64.lt_iff_toInt_lt, lN_toInt (by omega)]; show ¬ ((a : Int) < 0); omega
    have a2 : gB h 289 T < (nI len).toInt64 := by
      rw [e, Int64.lt_iff_toInt_lt, lN_toInt (by omega), nI_l (by omega), lN_toInt (by omega)]; omega
    rw [if_neg a1, if_pos a2, e, lN_32, pk_mul, nI_add, gd_nI (by omega) (by decide), ix_nI (by omega)]
    exact (Ok1.push f0 hs gI_s hT (by omega) fun h' s => by rw [t_171_338 s, t_171_347 s]).thru hs u152b
  · refine Rf1.thru ?_ hs u152b
    by_cases z : gB h 289 T < 0
    · rw [if_pos z]; exact rf
    · rw [if_neg z, if_neg (q.resolve_left z)]; exact rf
theorem u173 (h' : AH) (s : Sh h') : Q n 173 188 [none, none, none, none] [] h' = some (none, h') := t_173_188 s
/-- 18 to 22, 28 come to 173 -/
theorem o_173 (hs : Sh h) (e : gI h 3723 189 = nI (T + 1)) (hT : T < 2000) (hn : 1 ≤ n) {x : Nat} (hx : 18 ≤ x ∧ x ≤ 22 ∨ x = 28) (y : Int32) : E (n + 1 + 1 + 1) 152 [.ref 189, .int (nI x), .int y] h = cK (cK (Q n 173 4 [some (.ref 189), some (.int (nI x)), some (.int y), none] [.long (gB h 289 T)] (sI h 3723 189 (nI T))) (Q (n + 1) 171 347 [none, none, none, none, none, none, none]) []) (Q (n + 1 + 1) 152 42 [some (.ref 189), some (.int (nI x)), some (.int y)]) [] := by
  have e2 : E (n + 1 + 1) 171 [.ref 189, .int (nI x), .int y] h = cK (E (n + 1) 173 [.ref 189, .int (nI x), .int y] h) (Q (n + 1) 171 347 [none, none, none, none, none, none, none]) [] := by
    have x7 : x = 18 ∨ x = 19 ∨ x = 20 ∨ x = 21 ∨ x = 22 ∨ x = 28 := by omega
    rw [t_171 hs]
    rcases x7 with q | q | q | q | q | q <;> subst q
    · rw [if_neg (by decide), if_neg (by decide), if_neg (by decide), if_neg (by decide), if_pos rfl]
    · rw [if_neg (by decide), if_neg (by decide), if_neg (by decide), if_neg (by decide), if_neg (by decide), if_pos rfl]
    · rw [if_neg (by decide), if_neg (by decide), if_neg (by decide), if_neg (by decide), if_neg (by decide), if_neg (by decide), if_pos rfl]
    · rw [if_neg (by decide), if_neg (by decide), if_neg (by decide), if_neg (by decide), if_neg (by decide), if_neg (by decide), if_neg (by decide), if_pos rfl]
    · rw [if_neg (by decide), if_neg (by decide), if_neg (by decide), if_neg (by decide), if_neg (by decide), if_neg (by decide), if_neg (by decide), if_neg (by decide), if_pos rfl]
    · rw [if_neg (by decide), if_neg (by decide), if_neg (by decide), if_neg (by decide), if_neg (by decide), if_neg (by decide), if_neg (by decide), if_neg (by decide), if_neg (by decide), if_neg (by decide), if_neg (by decide), if_neg (by decide), if_neg (by decide), if_neg (by decide)]
  rw [o_152b hs (by omega), e2, t_173 hs, rm_pop hs (by omega) e hT, cK_v]
theorem u171 (h' : AH) (s : Sh h') : Q n 171 347 [none, none, none, none, none, none, none] [] h' = some (none, h') := t_171_347 s
theorem o_22 (hs : Sh h) (e : gI h 3723 189 = nI (T + 1)) (hT : T < 2000) (hn : 4 ≤ n) (y : Int32) {x : Int32} (ex : gB h 289 T = x.toInt64) : Ok1 h T (if x < nI 0 then 0 else 1) (E n 152 [.ref 189, .int (nI 22), .int y] h) := by
  obtain ⟨m, rfl⟩ : ∃ m, n = m + 1 + 1 + 1 := ⟨n - 3, by omega⟩
  have f0 : Fr [3723] [] h (sI h 3723 189 (nI T)) := Fr.rfl.sI (by decide)
  rw [o_173 hs e hT (by omega) (by decide), ex, t_173_4 hs.sI, if_pos rfl, i3264]
  refine Ok1.thru (Ok1.thru ?_ hs u171) hs u152b
  by_cases q : x < nI 0
  · rw [if_pos q, if_pos q]; exact Ok1.push f0 hs gI_s hT (by omega) fun h' s => by rw [t_173_25 s, t_173_188 s]
  · rw [if_neg q, if_neg q]; exact Ok1.push f0 hs gI_s hT (by omega) fun h' s => by rw [t_173_25 s, t_173_188 s]
/-- asked of no item -/
theorem o_nix (hs : Sh h) (e : gI h 3723 189 = nI (T + 1)) (e3 : gI h 3733 189 = nI 0) (hT : T < 2000) (hn : 4 ≤ n) (y : Int32) {x : Nat} (hx : 18 ≤ x ∧ x ≤ 21) (ex : gB h 289 T = (-1 : Int32).toInt64) : Rf1 h 1 (E n 152 [.ref 189, .int (nI x), .int y] h) := by
  obtain ⟨m, rfl⟩ : ∃ m, n = m + 1 + 1 + 1 := ⟨n - 3, by omega⟩
  have f0 : Fr [3723] [] h (sI h 3723 189 (nI T)) := Fr.rfl.sI (by decide)
  rw [o_173 hs e hT (by omega) (by omega), ex, t_173_4 hs.sI, if_neg (fun z => absurd ((nI_eq (by omega) (by decide)).mp z) (by omega)), i3264, if_neg (fun z => absurd ((nI_eq (by omega) (by decide)).mp z) (by omega)), if_pos (by decide)]
  exact ((Rf1.mk f0 hs e3 (by omega) fun h' s => by rw [t_173_73 s, t_173_188 s]).thru hs u171).thru hs u152b
theorem o_19 (hs : Sh h) (e : gI h 3723 189 = nI (T + 1)) (hT : T < 2000) (hn : 4 ≤ n) (y : Int32) {x : Nat} (hx : x = 19 ∨ x = 20) (hi : i < 200) (ex : gB h 289 T = (nI i).toInt64) : Ok1 h T (if x = 19 then (gA h 243 i).toInt64 else (gA h 242 i).toInt64) (E n 152 [.ref 189, .int (nI x), .int y] h) := by
  obtain ⟨m, rfl⟩ : ∃ m, n = m + 1 + 1 + 1 := ⟨n - 3, by omega⟩
  have f0 : Fr [3723] [] h (sI h 3723 189 (nI T)) := Fr.rfl.sI (by decide)
  rw [o_173 hs e hT (by omega) (by omega), ex, t_173_4 hs.sI, if_neg (fun z => absurd ((nI_eq (by omega) (by decide)).mp z) (by omega)), i3264, if_neg (fun z => absurd ((nI_eq (by omega) (by decide)).mp z) (by omega)), if_neg (nI_nlt (by omega) (by omega))]
  refine Ok1.thru (Ok1.thru ?_ hs u171) hs u152b
  rcases hx with q | q <;> subst q
  · rw [if_neg (show ¬ nI 19 = nI 21 by decide), if_neg (show ¬ nI 19 = nI 18 by decide), if_pos rfl, if_pos rfl, gd_nI hi (by decide), ix_nI (by omega)]
    exact Ok1.push f0 hs gI_s hT (by omega) u173
  · rw [if_neg (show ¬ nI 20 = nI 21 by decide), if_neg (show ¬ nI 20 = nI 18 by decide), if_neg (show ¬ nI 20 = nI 19 by decide), if_neg (by decide), gd_nI hi (by decide), ix_nI (by omega)]
    exact Ok1.push f0 hs gI_s hT (by omega) u173
theorem o_18 (hs : Sh h) (W : WB bk) (hv' : v ≤ 1) (hN : gI h 3597 189 = nI v) (B : RB h v bk) (R : RS1 h s) (wi : WI bk s) (hi : i < zN s 2) (e : gI h 3723 189 = nI (T + 1)) (hT : T < 2000) (hn : 5 ≤ n) (y : Int32) (ex : gB h 289 T = (nI i).toInt64) (hg : goS bk s i < bk 0 0) : Ok1 h T (nI (bk 2 (goS bk s i))).toInt64 (E n 152 [.ref 189, .int (nI 18), .int y] h) := by
  obtain ⟨m, rfl⟩ : ∃ m, n = m + 1 + 1 + 1 + 1 := ⟨n - 4, by omega⟩
  have w1 := wi.1
  have w0 := W.1.1
  have f0 : Fr [3723] [] h (sI h 3723 189 (nI T)) := Fr.rfl.sI (by decide)
  have B0 : RB (sI h 3723 189 (nI T)) v bk := B.fr f0 (by decide)
  have R0 : RS1 (sI h 3723 189 (nI T)) s := R
  have hN0 : gI (sI h 3723 189 (nI T)) 3597 189 = nI v := by rw [gI_k (by decide)]; exact hN
  rw [o_173 hs e hT (by omega) (by omega), ex, t_173_4 hs.sI, if_neg (by decide), i3264, if_neg (by decide), if_neg (nI_nlt (by omega) (by omega)), if_neg (by decide), if_pos rfl, r_goesTo hs.sI W hv' hN0 B0 R0 wi hi, cK_v, t_173_156 hs.sI, ck_ok (show gC (sI h 3723 189 (nI T)) 199 = 60 from ShC hs.sI (by decide)), show gK (sI h 3723 189 (nI T)) 199 = 32 from ShK hs.sI (by decide), hN0, pk_mul, nI_add, gd_nI (by omega) (by decide), ix_nI (by omega), ck_ok (k189 hs.sI), (B0.2.1 _ hg).2.1]
  exact ((Ok1.push f0 hs gI_s hT (by omega) u173).thru hs u171).thru hs u152b
theorem r_168 (hs : Sh h) (W : WB bk) (hv' : v ≤ 1) (hN : gI h 3597 189 = nI v) (B : RB h v bk) (R : RS1 h s) (wi : WI bk s) (hi : i < zN s 2) {x : Nat} (hx : x ≤ 2) (hn : 2 ≤ n) : E n 168 [.ref 189, .int (nI i), .int (nI x)] h = some (some (.int (nI (if ofS bk s i x = true then 1 else 0))), h) := by
  obtain ⟨m, rfl⟩ : ∃ m, n = m + 1 + 1 := ⟨n - 2, by omega⟩
  have hb := (W.2.2.2.2.1 _ (wi.2.2.2 i hi).1).1
  rw [t_168 hs, r_sortOf hs W hv' hN B R wi hi, cK_v, t_168_5 hs]
  unfold ofS
  simp only [show (nI (bk 18 (iN s 0 i)) = nI x) = (bk 18 (iN s 0 i) = x) from propext (nI_eq (by omega) (by omega)), show (nI x = nI 0) = (x = 0) from propext (nI_eq (by omega) (by omega)), show (nI (bk 18 (iN s 0 i)) = nI 2) = (bk 18 (iN s 0 i) = 2) from propext (nI_eq (by omega) (by omega))]
  by_cases q1 : bk 18 (iN s 0 i) = x
  · rw [if_pos q1]; simp [q1]
  · rw [if_neg q1]
    by_cases q2 : x = 0
    · rw [if_pos q2]
      by_cases q3 : bk 18 (iN s 0 i) = 2
      · rw [if_pos q3]; simp [q2, q3]
      · rw [if_neg q3]; simp [q2, q3]; rw [if_neg (show ¬ bk 18 (iN s 0 i) = 0 from fun z => q1 (z.trans q2.symm))]
    · rw [if_neg q2]; simp [q1, q2]
theorem o_28n (hs : Sh h) (e : gI h 3723 189 = nI (T + 1)) (hT : T < 2000) (hn : 4 ≤ n) (y : Int32) (ex : gB h 289 T = (-1 : Int32).toInt64) : Ok1 h T (-1 : Int32).toInt64 (E n 152 [.ref 189, .int (nI 28), .int y] h) := by
  obtain ⟨m, rfl⟩ : ∃ m, n = m + 1 + 1 + 1 := ⟨n - 3, by omega⟩
  have f0 : Fr [3723] [] h (sI h 3723 189 (nI T)) := Fr.rfl.sI (by decide)
  rw [o_173 hs e hT (by omega) (by omega), ex, t_173_4 hs.sI, if_neg (by decide), i3264, if_pos rfl, if_pos (by decide)]
  exact ((Ok1.push f0 hs gI_s hT (by omega) fun h' s => by rw [t_173_61 s, t_173_188 s]).thru hs u171).thru hs u152b
theorem o_28 (hs : Sh h) (W : WB bk) (hv' : v ≤ 1) (hN : gI h 3597 189 = nI v) (B : RB h v bk) (R : RS1 h s) (wi : WI bk s) (hi : i < zN s 2) (e : gI h 3723 189 = nI (T + 1)) (e3 : gI h 3733 189 = nI 0) (hT : T < 2000) (hn : 5 ≤ n) {x : Nat} (hx : x ≤ 2) (ex : gB h 289 T = (nI i).toInt64) : (ofS bk s i x = true → Ok1 h T (nI i).toInt64 (E n 152 [.ref 189, .int (nI 28), .int (nI x)] h)) ∧ (ofS bk s i x = false → Rf1 h 2 (E n 152 [.ref 189, .int (nI 28), .int (nI x)] h)) := by
  obtain ⟨m, rfl⟩ : ∃ m, n = m + 1 + 1 + 1 := ⟨n - 3, by omega⟩
  have w1 := wi.1
  have f0 : Fr [3723] [] h (sI h 3723 189 (nI T)) := Fr.rfl.sI (by decide)
  have B0 : RB (sI h 3723 189 (nI T)) v bk := B.fr f0 (by decide)
  have R0 : RS1 (sI h 3723 189 (nI T)) s := R
  have hN0 : gI (sI h 3723 189 (nI T)) 3597 189 = nI v := by rw [gI_k (by decide)]; exact hN
  rw [o_173 hs e hT (by omega) (by omega), ex, t_173_4 hs.sI, if_neg (by decide), i3264, if_pos rfl, if_neg (nI_nlt (by omega) (by omega)), r_168 hs.sI W hv' hN0 B0 R0 wi hi hx (by omega), cK_v, t_173_44 hs.sI]
  refine ⟨fun q => ?_, fun q => ?_⟩
  · rw [q, if_pos rfl, if_neg (by decide)]
    exact ((Ok1.push f0 hs gI_s hT (by omega) fun h' s => by rw [t_173_61 s, t_173_188 s]).thru hs u171).thru hs u152b
  · rw [q, if_pos (show nI (if false = true then 1 else 0) = nI 0 by decide)]
    exact ((Rf1.mk f0 hs e3 (by omega) fun h' s => by rw [t_173_52 s, t_173_188 s]).thru hs u171).thru hs u152b
end OIT
