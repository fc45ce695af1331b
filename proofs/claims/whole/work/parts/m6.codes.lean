/-! ===== RUN: the reference's other codes of expressions ===== -/
section OPT
variable {c : CXm} {hc hr h h0 : AH} {n D T p k : Nat} {w : Int64}
theorem k189 (hs : Sh h) : gC h 189 = 14 := ShC hs (by decide)
/-- the end of a code that pushes -/
theorem Ok1.push (f0 : Fr [3723] [] h h0) (hs : Sh h) (e : gI h0 3723 189 = nI T) (hT : T < 2000) (hn : 1 ≤ n) {u : Vs → AH → Option Ot} (hu : ∀ h', Sh h' → u [] h' = some (none, h')) : Ok1 h T w (cK (E n 172 [.ref 189, .long w] h0) u []) := by
  have hs0 := f0.sh hs
  have b0 : gB h0 = gB h := funext fun x => f0.B (k := x) List.not_mem_nil
  rw [rm_push hs0 hn e hT, cK_n, hu _ hs0.sB.sI]
  refine ⟨_, rfl, (f0.wk (fun _ q => q) (fun _ q => absurd q List.not_mem_nil)).trans ((Fr.rfl.sB (by decide)).sI (by decide)), gI_s, ?_, fun j hj => ?_⟩
  · show gB (sB h0 289 T w) 289 T = w
    rw [gB_s, up1_s]
  · show gB (sB h0 289 T w) 289 j = _
    rw [gB_s, up1_x (by omega), b0]
theorem Rf1.mk {e : Nat} (f0 : Fr [3723] [] h h0) (hs : Sh h) (e3 : gI h 3733 189 = nI 0) (hn : 1 ≤ n) {u : Vs → AH → Option Ot} (hu : ∀ h', Sh h' → u [] h' = some (none, h')) : Rf1 h e (cK (E n 161 [.ref 189, .int (nI e)] h0) u []) := by
  have hs0 := f0.sh hs
  rw [rm_refuse hs0 hn (by rw [f0.I (by decide)]; exact e3), cK_n, hu _ hs0.sI]
  exact ⟨_, rfl, (f0.wk (by decide) (fun _ q => absurd q List.not_mem_nil)).sI (by decide), gI_s⟩
theorem Ok1.thru {q : Option Ot} (a : Ok1 h T w q) (hs : Sh h) {u : Vs → AH → Option Ot} (hu : ∀ h', Sh h' → u [] h' = some (none, h')) : Ok1 h T w (cK q u []) := by
  obtain ⟨h1, a1, a2⟩ := a
  exact ⟨h1, by rw [a1, cK_n]; exact hu h1 (a2.1.sh hs), a2⟩
theorem Rf1.thru {e : Nat} {q : Option Ot} (a : Rf1 h e q) (hs : Sh h) {u : Vs → AH → Option Ot} (hu : ∀ h', Sh h' → u [] h' = some (none, h')) : Rf1 h e (cK q u []) := by
  obtain ⟨h1, a1, a2⟩ := a
  exact ⟨h1, by rw [a1, cK_n]; exact hu h1 (a2.1.sh hs), a2⟩
theorem u152e (h' : AH) (s : Sh h') : Q n 152 65 [none, none, none] [] h' = some (none, h') := t_152_65 s
theorem u152b {x y : Int32} (h' : AH) (s : Sh h') : Q n 152 42 [some (.ref 189), some (.int x), some (.int y)] [] h' = some (none, h') := by rw [t_152_42 s, t_152_65 s]
theorem o_1 (hs : Sh h) (e : gI h 3723 189 = nI T) (hT : T < 2000) (hn : 3 ≤ n) (y : Int32) : Ok1 h T y.toInt64 (E n 152 [.ref 189, .int (nI 1), .int y] h) := by
  obtain ⟨m, rfl⟩ : ∃ m, n = m + 1 + 1 := ⟨n - 2, by omega⟩
  rw [o_152e hs (by decide), t_175 hs, if_pos rfl]
  exact (Ok1.push Fr.rfl hs e hT (by omega) fun h' s => by rw [t_175_42 s, t_175_108 s]).thru hs u152e
theorem o_2 (hs : Sh h) (e : gI h 3723 189 = nI T) (hT : T < 2000) (hn : 3 ≤ n) {a : Nat} (ha : a < 10) : Ok1 h T (gB h 282 a) (E n 152 [.ref 189, .int (nI 2), .int (nI a)] h) := by
  obtain ⟨m, rfl⟩ : ∃ m, n = m + 1 + 1 := ⟨n - 2, by omega⟩
  rw [o_152e hs (by decide), t_175 hs, if_neg (by decide), if_pos rfl, gd_nI ha (by decide), ix_nI (by omega)]
  exact (Ok1.push Fr.rfl hs e hT (by omega) fun h' s => by rw [t_175_55 s, t_175_108 s]).thru hs u152e
theorem o_4 (hs : Sh h) (e : gI h 3723 189 = nI T) (hT : T < 2000) (hn : 3 ≤ n) {a : Nat} (ha : a < 4) : Ok1 h T (gA h 283 a).toInt64 (E n 152 [.ref 189, .int (nI 4), .int (nI a)] h) := by
  obtain ⟨m, rfl⟩ : ∃ m, n = m + 1 + 1 := ⟨n - 2, by omega⟩
  rw [o_152e hs (by decide), t_175 hs, if_neg (by decide), if_neg (by decide), if_neg (by decide), if_pos rfl, gd_nI ha (by decide), ix_nI (by omega)]
  exact (Ok1.push Fr.rfl hs e hT (by omega) fun h' s => by rw [t_175_82 s, t_175_108 s]).thru hs u152e
theorem o_6 (hs : Sh h) (e : gI h 3723 189 = nI (T + 1)) (hT : T < 2000) (hn : 3 ≤ n) (y : Int32) : Ok1 h T (- gB h 289 T) (E n 152 [.ref 189, .int (nI 6), .int y] h) := by
  obtain ⟨m, rfl⟩ : ∃ m, n = m + 1 + 1 := ⟨n - 2, by omega⟩
  rw [o_152e hs (by decide), t_175 hs, if_neg (by decide), if_neg (by decide), if_neg (by decide), if_neg (by decide), if_neg (by decide), rm_pop hs (by omega) e hT, cK_v, t_175_104 hs.sI, ck_ok (k189 hs.sI)]
  exact (Ok1.push (Fr.rfl.sI (by decide)) hs gI_s hT (by omega) fun h' s => by rw [t_175_108 s]).thru hs u152e
theorem o_23 (hs : Sh h) (e : gI h 3723 189 = nI T) (hT : T < 2000) (hn : 3 ≤ n) (y : Int32) {o : Nat} (ho : o < 16) (eo : gI h 3726 189 = nI o) : Ok1 h T (gA h 255 o).toInt64 (E n 152 [.ref 189, .int (nI 23), .int y] h) := by
  obtain ⟨m, rfl⟩ : ∃ m, n = m + 1 + 1 := ⟨n - 2, by omega⟩
  rw [o_152b hs (by decide), t_171 hs, if_neg (by decide), if_neg (by decide), if_neg (by decide), if_neg (by decide), if_neg (by decide), if_neg (by decide), if_neg (by decide), if_neg (by decide), if_neg (by decide), if_pos rfl, eo, gd_nI ho (by decide), ix_nI (by omega)]
  exact (Ok1.push Fr.rfl hs e hT (by omega) fun h' s => by rw [t_171_256 s, t_171_347 s]).thru hs u152b
theorem o_24 (hs : Sh h) (e : gI h 3723 189 = nI T) (hT : T < 2000) (hn : 3 ≤ n) (y : Int32) : Ok1 h T (gI h 3726 189).toInt64 (E n 152 [.ref 189, .int (nI 24), .int y] h) := by
  obtain ⟨m, rfl⟩ : ∃ m, n = m + 1 + 1 := ⟨n - 2, by omega⟩
  rw [o_152b hs (by decide), t_171 hs, if_neg (by decide), if_neg (by decide), if_neg (by decide), if_neg (by decide), if_neg (by decide), if_neg (by decide), if_neg (by decide), if_neg (by decide), if_neg (by decide), if_neg (by decide), if_pos rfl]
  exact (Ok1.push Fr.rfl hs e hT (by omega) fun h' s => by rw [t_171_268 s, t_171_347 s]).thru hs u152b
theorem o_25 (hs : Sh h) (e : gI h 3723 189 = nI T) (hT : T < 2000) (hn : 3 ≤ n) (y : Int32) : Ok1 h T (gI h 3677 189).toInt64 (E n 152 [.ref 189, .int (nI 25), .int y] h) := by
  obtain ⟨m, rfl⟩ : ∃ m, n = m + 1 + 1 := ⟨n - 2, by omega⟩
  rw [o_152b hs (by decide), t_171 hs, if_neg (by decide), if_neg (by decide), if_neg (by decide), if_neg (by decide), if_neg (by decide), if_neg (by decide), if_neg (by decide), if_neg (by decide), if_neg (by decide), if_neg (by decide), if_neg (by decide), if_pos rfl]
  exact (Ok1.push Fr.rfl hs e hT (by omega) fun h' s => by rw [t_171_280 s, t_171_347 s]).thru hs u152b
/-- a tray's number stays on the pile -/
theorem o_14 (hs : Sh h) (e : gI h 3723 189 = nI (T + 1)) (hT : T < 2000) (hn : 3 ≤ n) (y : Int32) (q : ¬ gB h 289 T < 0 ∧ ¬ (11 : Int64) < gB h 289 T) : Ok1 h T (gB h 289 T) (E n 152 [.ref 189, .int (nI 14), .int y] h) := by
  obtain ⟨m, rfl⟩ : ∃ m, n = m + 1 + 1 := ⟨n - 2, by omega⟩
  have i1 : ix (nI (T + 1) - nI 1) = T := by rw [pk_sub (by omega), show T + 1 - 1 = T by omega, ix_nI (by omega)]
  rw [o_152b hs (by decide), t_171 hs, if_pos rfl, e, pk_sub (by omega), show T + 1 - 1 = T by omega, gd_nI hT (by decide), gd_nI hT (by decide), ix_nI (by omega)]
  simp only [c_lt, c_gt]
  rw [if_neg q.1, if_neg q.2, t_171_347 hs, cK_n, t_152_42 hs, t_152_65 hs]
  exact ⟨h, rfl, Fr.rfl, e, rfl, fun _ _ => rfl⟩
theorem o_14r (hs : Sh h) (e : gI h 3723 189 = nI (T + 1)) (e3 : gI h 3733 189 = nI 0) (hT : T < 2000) (hn : 3 ≤ n) (y : Int32) (q : gB h 289 T < 0 ∨ (11 : Int64) < gB h 289 T) : Rf1 h 3 (E n 152 [.ref 189, .int (nI 14), .int y] h) := by
  obtain ⟨m, rfl⟩ : ∃ m, n = m + 1 + 1 := ⟨n - 2, by omega⟩
  have k1 : Rf1 h 3 (cK (E m 161 [.ref 189, .int (nI 3)] h) (Q m 171 111 [some (.ref 189), none, none, none, none, none, none]) []) := Rf1.mk Fr.rfl hs e3 (by omega) fun h' s => by rw [t_171_111 s, t_171_347 s]
  rw [o_152b hs (by decide), t_171 hs, if_pos rfl, e, pk_sub (by omega), show T + 1 - 1 = T by omega, gd_nI hT (by decide), gd_nI hT (by decide), ix_nI (by omega)]
  refine Rf1.thru ?_ hs u152b
  simp only [c_lt, c_gt]
  by_cases z : gB h 289 T < 0
  · rw [if_pos z]; exact k1
  · rw [if_neg z, if_pos (q.resolve_left z)]; exact k1
end OPT
