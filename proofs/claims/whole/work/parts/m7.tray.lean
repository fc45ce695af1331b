/-! ===== RUN: the reference's codes that look into trays ===== -/
theorem i3264 (x : Int32) : x.toInt64.toInt32 = x := Int32.toInt32_toInt64 x
theorem lN_32 {a : Nat} : (lN a).toInt32 = nI a := lN_i a
theorem spot_in {l : Int64} {z : Nat} (h0 : ¬ l < 0) (h1 : l < (nI z).toInt64) (hz : z < 2 ^ 31) : ∃ a, a < z ∧ l = lN a := by
  have e0 : 0 ≤ l.toInt := by
    have := h0; rw [Int64.lt_iff_toInt_lt] at this
    simpa using this
  have e1 : l.toInt < z := by
    rw [Int64.lt_iff_toInt_lt, nI_l hz, lN_toInt hz] at h1; exact h1
  refine ⟨l.toInt.toNat, by omega, Int64.toInt_inj.mp ?_⟩
  rw [lN_toInt (by omega)]; omega
section OTR
variable {h h0 : AH} {n T t q : Nat} {w : Int64}
theorem k284 (hs : Sh h) : gC h 284 = 60 := ShC hs (by decide)
theorem j284 (hs : Sh h) : gK h 284 = 12 := ShK hs (by decide)
theorem o_15 (hs : Sh h) (e : gI h 3723 189 = nI (T + 1)) (hT : T < 2000) (hn : 3 ≤ n) (y : Int32) (ht : t < 12) (et : gB h 289 T = (nI t).toInt64) (hq : q < 13) (eq : gA h 284 t = nI q) : Ok1 h T (gA h 287 q).toInt64 (E n 152 [.ref 189, .int (nI 15), .int y] h) := by
  obtain ⟨m, rfl⟩ : ∃ m, n = m + 1 + 1 := ⟨n - 2, by omega⟩
  rw [o_152b hs (by decide), t_171 hs, if_neg (by decide), if_pos rfl, rm_pop hs (by omega) e hT, cK_v, et, t_171_122 hs.sI, ck_ok (k284 hs.sI), j284 hs.sI, i3264, gd_nI ht (by decide), ix_nI (by omega), show gA (sI h 3723 189 (nI T)) 284 t = gA h 284 t from rfl, eq, if_neg (nI_nlt (by omega) (by omega)), gd_nI hq (by decide), ix_nI (by omega)]
  exact (Ok1.push (Fr.rfl.sI (by decide)) hs gI_s hT (by omega) fun h' s => by rw [t_171_148 s, t_171_347 s]).thru hs u152b
theorem o_15r (hs : Sh h) (e : gI h 3723 189 = nI (T + 1)) (e3 : gI h 3733 189 = nI 0) (hT : T < 2000) (hn : 3 ≤ n) (y : Int32) (ht : t < 12) (et : gB h 289 T = (nI t).toInt64) (eq : gA h 284 t = -1) : Rf1 h 1 (E n 152 [.ref 189, .int (nI 15), .int y] h) := by
  obtain ⟨m, rfl⟩ : ∃ m, n = m + 1 + 1 := ⟨n - 2, by omega⟩
  rw [o_152b hs (by decide), t_171 hs, if_neg (by decide), if_pos rfl, rm_pop hs (by omega) e hT, cK_v, et, t_171_122 hs.sI, ck_ok (k284 hs.sI), j284 hs.sI, i3264, gd_nI ht (by decide), ix_nI (by omega), show gA (sI h 3723 189 (nI T)) 284 t = gA h 284 t from rfl, eq, if_pos (by decide)]
  exact (Rf1.mk (Fr.rfl.sI (by decide)) hs e3 (by omega) fun h' s => by rw [t_171_134 s, t_171_347 s]).thru hs u152b
theorem o_16 (hs : Sh h) (e : gI h 3723 189 = nI (T + 1)) (hT : T < 2000) (hn : 3 ≤ n) (y : Int32) (ht : t < 12) (et : gB h 289 T = (nI t).toInt64) (hq : q < 13) (eq : gA h 284 t = nI q) : Ok1 h T (gA h 285 q).toInt64 (E n 152 [.ref 189, .int (nI 16), .int y] h) := by
  obtain ⟨m, rfl⟩ : ∃ m, n = m + 1 + 1 := ⟨n - 2, by omega⟩
  rw [o_152b hs (by decide), t_171 hs, if_neg (by decide), if_neg (by decide), if_pos rfl, rm_pop hs (by omega) e hT, cK_v, et, t_171_159 hs.sI, ck_ok (k284 hs.sI), j284 hs.sI, i3264, gd_nI ht (by decide), ix_nI (by omega), show gA (sI h 3723 189 (nI T)) 284 t = gA h 284 t from rfl, eq, if_neg (nI_nlt (by omega) (by omega)), gd_nI hq (by decide), ix_nI (by omega)]
  exact (Ok1.push (Fr.rfl.sI (by decide)) hs gI_s hT (by omega) fun h' s => by rw [t_171_181 s, t_171_347 s]).thru hs u152b
theorem o_16n (hs : Sh h) (e : gI h 3723 189 = nI (T + 1)) (hT : T < 2000) (hn : 3 ≤ n) (y : Int32) (ht : t < 12) (et : gB h 289 T = (nI t).toInt64) (eq : gA h 284 t = -1) : Ok1 h T 0 (E n 152 [.ref 189, .int (nI 16), .int y] h) := by
  obtain ⟨m, rfl⟩ : ∃ m, n = m + 1 + 1 := ⟨n - 2, by omega⟩
  rw [o_152b hs (by decide), t_171 hs, if_neg (by decide), if_neg (by decide), if_pos rfl, rm_pop hs (by omega) e hT, cK_v, et, t_171_159 hs.sI, ck_ok (k284 hs.sI), j284 hs.sI, i3264, gd_nI ht (by decide), ix_nI (by omega), show gA (sI h 3723 189 (nI T)) 284 t = gA h 284 t from rfl, eq, if_pos (by decide)]
  exact (Ok1.push (Fr.rfl.sI (by decide)) hs gI_s hT (by omega) fun h' s => by rw [t_171_181 s, t_171_347 s]).thru hs u152b
/-- which refusal a place of a row meets: none, 1, 2, 3 -/
def cfS (k : Nat) (z : Int32) (l : Int64) (ofI : Bool) : Nat := if k = 0 then 1 else if decide (9 ≤ k) ≠ ofI then 2 else if l < 0 then 3 else if l < z.toInt64 then 0 else 3
/-- the reference's row of a tray: kind 0 for none -/
def RRw (h : AH) (t k : Nat) (f z : Int32) : Prop := k = 0 ∧ gA h 284 t = -1 ∨ ∃ q, 1 ≤ k ∧ k ≤ 12 ∧ gA h 284 t = nI q ∧ q < 13 ∧ gA h 285 q = nI k ∧ gA h 286 q = f ∧ gA h 287 q = z
theorem r_164 (hs : Sh h) (hn : 1 ≤ n) {k : Nat} (hk : k ≤ 12) : E n 164 [.int (nI k)] h = some (some (.int (nI (if 9 ≤ k then 1 else 0))), h) := by
  obtain ⟨m, rfl⟩ : ∃ m, n = m + 1 := ⟨n - 1, by omega⟩
  rw [t_164 hs]
  by_cases q : 9 ≤ k
  · rw [if_pos (nI_lt (by omega) (by omega)), if_pos q]
  · rw [if_neg (nI_nlt (by omega) (by omega)), if_neg q]
theorem nb_i {a b : Bool} : (nI (if a = true then 1 else 0) = nI (if b = true then 1 else 0)) ↔ a = b := by
  cases a <;> cases b <;> simp <;> decide
theorem r_163 (hs : Sh h) (e3 : gI h 3733 189 = nI 0) (hn : 2 ≤ n) {k : Nat} {f z : Int32} (R : RRw h t k f z) (l : Int64) (b : Bool) : ∃ h1 x, E n 163 [.ref 189, .int (gA h 284 t), .long l, .int (nI (if b = true then 1 else 0))] h = some (some (.int x), h1) ∧ Fr [3733] [] h h1 ∧ gI h1 3733 189 = nI (cfS k z l b) ∧ (cfS k z l b = 0 → x = f + l.toInt32 ∧ h1 = h) := by
  obtain ⟨m, rfl⟩ : ∃ m, n = m + 1 := ⟨n - 1, by omega⟩
  rw [t_163 hs]
  rcases R with ⟨k0, r1⟩ | ⟨q, k1, k2, r1, hq, r2, r3, r4⟩
  · have c1 : cfS k z l b = 1 := by unfold cfS; rw [if_pos k0]
    rw [c1, r1, if_pos (by decide), rm_refuse hs (by omega) e3, cK_n, t_163_9 hs.sI, t_163_57 hs.sI, if_pos (by rw [gI_s]; decide)]
    exact ⟨_, _, rfl, Fr.rfl.sI (by decide), gI_s, fun w => by cases w⟩
  · have k0 : k ≠ 0 := by omega
    rw [r1, if_neg (nI_nlt (by omega) (by omega)), gd_nI hq (by decide), ix_nI (by omega), r2, r_164 hs (by omega) k2, cK_v, t_163_21 hs]
    have nb : (nI (if 9 ≤ k then 1 else 0) = nI (if b = true then 1 else 0)) ↔ decide (9 ≤ k) = b := by
      have := nb_i (a := decide (9 ≤ k)) (b := b)
      simpa using this
    by_cases w : decide (9 ≤ k) = b
    · rw [if_pos (nb.mpr w)]
      simp only [c_lt]
      by_cases l0 : l < 0
      · have cv : cfS k z l b = 3 := by unfold cfS; rw [if_neg k0, if_neg (show ¬ (decide (9 ≤ k) ≠ b) from fun z => z w), if_pos l0]
        rw [cv, if_pos l0, rm_refuse hs (by omega) e3, cK_n, t_163_57 hs.sI, if_pos (by rw [gI_s]; decide)]
        exact ⟨_, _, rfl, Fr.rfl.sI (by decide), gI_s, fun w => by cases w⟩
      · rw [if_neg l0, gd_nI hq (by decide), ix_nI (by omega), r4]
        by_cases l1 : l < z.toInt64
        · have cv : cfS k z l b = 0 := by unfold cfS; rw [if_neg k0, if_neg (show ¬ (decide (9 ≤ k) ≠ b) from fun z => z w), if_neg l0, if_pos l1]
          rw [cv, if_pos l1, t_163_57 hs, if_neg (by rw [e3]; decide), gd_nI hq (by decide), ix_nI (by omega), r3]
          exact ⟨_, _, rfl, Fr.rfl, e3, fun _ => ⟨rfl, rfl⟩⟩
        · have cv : cfS k z l b = 3 := by unfold cfS; rw [if_neg k0, if_neg (show ¬ (decide (9 ≤ k) ≠ b) from fun z => z w), if_neg l0, if_neg l1]
          rw [cv, if_neg l1, rm_refuse hs (by omega) e3, cK_n, t_163_57 hs.sI, if_pos (by rw [gI_s]; decide)]
          exact ⟨_, _, rfl, Fr.rfl.sI (by decide), gI_s, fun w => by cases w⟩
    · have cv : cfS k z l b = 2 := by unfold cfS; rw [if_neg k0, if_pos (show decide (9 ≤ k) ≠ b from w)]
      rw [cv, if_neg (fun z => w (nb.mp z)), rm_refuse hs (by omega) e3, cK_n, t_163_31 hs.sI, t_163_57 hs.sI, if_pos (by rw [gI_s]; decide)]
      exact ⟨_, _, rfl, Fr.rfl.sI (by decide), gI_s, fun w => by cases w⟩
theorem cfS_3 {k : Nat} {z : Int32} {l : Int64} {b : Bool} : cfS k z l b ≤ 3 := by
  unfold cfS; (repeat' split) <;> omega
/-- at, item: 17, 27 -/
theorem o_at (hs : Sh h) (e : gI h 3723 189 = nI (T + 1 + 1)) (e3 : gI h 3733 189 = nI 0) (hT : T + 1 < 2000) (hn : 4 ≤ n) (b : Bool) (y : Int32) (ht : t < 12) (et : gB h 289 T = (nI t).toInt64) {k : Nat} {f z : Int32} (R : RRw h t k f z) (hz : cfS k z (gB h 289 (T + 1)) b = 0 → ∃ a, f + (gB h 289 (T + 1)).toInt32 = nI a ∧ a < 2000) :
    (cfS k z (gB h 289 (T + 1)) b = 0 → Ok1 h T (gB h 288 (ix (f + (gB h 289 (T + 1)).toInt32))) (E n 152 [.ref 189, .int (nI (if b = true then 27 else 17)), .int y] h)) ∧ (cfS k z (gB h 289 (T + 1)) b ≠ 0 → Rf1 h (cfS k z (gB h 289 (T + 1)) b) (E n 152 [.ref 189, .int (nI (if b = true then 27 else 17)), .int y] h)) := by
  obtain ⟨m, rfl⟩ : ∃ m, n = m + 1 + 1 := ⟨n - 2, by omega⟩
  obtain ⟨h0, hE⟩ : ∃ h0, h0 = sI (sI h 3723 189 (nI (T + 1))) 3723 189 (nI T) := ⟨_, rfl⟩
  have f0 : Fr [3723] [] h h0 := by rw [hE]; exact (Fr.rfl.sI (by decide)).sI (by decide)
  have hs0 := f0.sh hs
  have e1 : gI (sI h 3723 189 (nI (T + 1))) 3723 189 = nI (T + 1) := gI_s
  have R0 : RRw h0 t k f z := by rw [hE]; exact R
  have x3 : gI h0 3733 189 = nI 0 := by rw [f0.I (by decide)]; exact e3
  obtain ⟨h1, x, a1, a2, a3, a4⟩ := r_163 (n := m) hs0 x3 (by omega) R0 (gB h 289 (T + 1)) b
  have hs1 := a2.sh hs0
  have e0 : E (m + 1 + 1) 152 [.ref 189, .int (nI (if b = true then 27 else 17)), .int y] h = cK (Q m 171 219 [some (.ref 189), none, none, none, none, none, none] [.int x] h1) (Q (m + 1) 152 42 [some (.ref 189), some (.int (nI (if b = true then 27 else 17))), some (.int y)]) [] := by
    have g0 : gA h0 284 t = gA h 284 t := by rw [hE]; rfl
    cases b with
    | true =>
      rw [if_pos rfl] at a1 ⊢
      rw [o_152b hs (by decide), t_171 hs, if_neg (by decide), if_neg (by decide), if_neg (by decide), if_neg (by decide), if_neg (by decide), if_neg (by decide), if_neg (by decide), if_neg (by decide), if_neg (by decide), if_neg (by decide), if_neg (by decide), if_neg (by decide), if_neg (by decide), if_pos rfl, rm_pop hs (by omega) e (by omega), cK_v, t_171_188 hs.sI, rm_pop hs.sI (by omega) e1 (by omega), cK_v, ← hE, show gB (sI h 3723 189 (nI (T + 1))) 289 T = gB h 289 T from rfl, et, t_171_197 hs0, ck_ok (k284 hs0), j284 hs0, i3264, gd_nI ht (by decide), ix_nI (by omega), if_pos rfl, a1, cK_v]
    | false =>
      rw [if_neg (by decide)] at a1 ⊢
      rw [o_152b hs (by decide), t_171 hs, if_neg (by decide), if_neg (by decide), if_neg (by decide), if_pos rfl, rm_pop hs (by omega) e (by omega), cK_v, t_171_188 hs.sI, rm_pop hs.sI (by omega) e1 (by omega), cK_v, ← hE, show gB (sI h 3723 189 (nI (T + 1))) 289 T = gB h 289 T from rfl, et, t_171_197 hs0, ck_ok (k284 hs0), j284 hs0, i3264, gd_nI ht (by decide), ix_nI (by omega), if_neg (by decide), a1, cK_v]
  have u42 : ∀ h' : AH, Sh h' → Q (m + 1) 152 42 [some (.ref 189), some (.int (nI (if b = true then 27 else 17))), some (.int y)] [] h' = some (none, h') := fun h' s => by rw [t_152_42 s, t_152_65 s]
  refine ⟨fun z0 => ?_, fun z0 => ?_⟩
  · rw [e0, t_171_219 hs1, if_pos (by rw [a3, z0])]
    obtain ⟨a, b1, b2⟩ := hz z0
    obtain ⟨y1, y2⟩ := a4 z0
    subst y2
    rw [y1, b1, gd_nI b2 (by decide), ix_nI (by omega)]
    have fz : gI h1 3723 189 = nI T := by rw [hE, gI_s]
    have b8 : gB h1 288 a = gB h 288 a := congrFun (f0.B List.not_mem_nil) a
    rw [show klV (none : Option Value) = none from rfl, b8]
    exact (Ok1.push (h := h) (h0 := h1) (w := gB h 288 a) (n := m) f0 hs fz (by omega) (by omega) (u := Q m 171 239 [some (.ref 189), none, none, none, none, none, some (.int (nI a))]) fun h' s => by rw [t_171_239 s, t_171_347 s]).thru hs u42
  · rw [e0, t_171_219 hs1, if_neg (by rw [a3]; exact fun w => z0 ((nI_eq (by have := cfS_3 (k := k) (z := z) (l := gB h 289 (T + 1)) (b := b); omega) (by decide)).mp w)), t_171_347 hs1, cK_n, u42 h1 hs1]
    exact ⟨h1, rfl, (f0.wk (by decide) (fun _ q => absurd q List.not_mem_nil)).trans (a2.wk (by decide) (fun _ q => absurd q List.not_mem_nil)), a3⟩
end OTR
