/-! ===== WORDS: spelling a packed name, codes of signs ===== -/
/-- a row with a list written at s -/
def wrL (f : Nat → Int32) (s : Nat) (l : List Nat) (i : Nat) : Int32 := if s ≤ i ∧ i < s + l.length then nI (l.getD (i - s) 0) else f i
theorem gA_s {h : AH} {k x : Nat} {v : Int32} : gA (sA h k x v) k = up1 (gA h k) x v := by
  show up2 (gA h) k x v k = up1 (gA h k) x v; exact up2_r
theorem gI_s {h : AH} {k x : Nat} {v : Int32} : gI (sI h k x v) k x = v := by
  show up2 (gI h) k x v k x = v; exact up2_s
theorem wr_nil {f : Nat → Int32} {s : Nat} : wrL f s [] = f := by
  funext i; unfold wrL; rw [if_neg (by simp)]
theorem wr_app {f : Nat → Int32} {s x : Nat} {l : List Nat} : wrL (up1 f (s + l.length) (nI x)) s l = wrL f s (l ++ [x]) := by
  funext i
  unfold wrL
  rw [List.length_append, List.length_singleton]
  by_cases q : s ≤ i ∧ i < s + l.length
  · rw [if_pos q, if_pos (by omega), List.getD_eq_getElem?_getD, List.getD_eq_getElem?_getD, List.getElem?_append_left (by omega)]
  · rw [if_neg q]
    by_cases w : i = s + l.length
    · rw [w, if_pos (by omega), up1, if_pos rfl, Nat.add_sub_cancel_left, List.getD_eq_getElem?_getD, List.getElem?_append_right (Nat.le_refl _), Nat.sub_self]; rfl
    · rw [if_neg (by omega), up1, if_neg w]
theorem wr_in {f : Nat → Int32} {s i : Nat} {l : List Nat} (h : i < l.length) : wrL f s l (s + i) = nI (l.getD i 0) := by
  unfold wrL; rw [if_pos (by omega), Nat.add_sub_cancel_left]
theorem wr_out {f : Nat → Int32} {s i : Nat} {l : List Nat} (h : i < s ∨ s + l.length ≤ i) : wrL f s l i = f i := by
  unfold wrL; rw [if_neg (by omega)]
theorem nc_s {f v : Nat} (h : ¬ v = 0) : ncod (f + 1) v = ncod f (v / 37) ++ [v % 37] := by rw [ncod, if_neg h]
theorem nc_0 {f : Nat} : ncod f 0 = [] := by cases f with
  | zero => rfl
  | succ f => rw [ncod, if_pos rfl]
theorem nc_l : ∀ (f v : Nat), (ncod f v).length ≤ f
  | 0, v => Nat.le_refl _
  | f + 1, v => by
    by_cases h : v = 0
    · rw [h, nc_0]; exact Nat.zero_le _
    · rw [nc_s h, List.length_append, List.length_singleton]; have := nc_l f (v / 37); omega
theorem nc_b : ∀ (f v : Nat), ∀ x ∈ ncod f v, x < 37
  | 0, v => fun x hx => absurd hx List.not_mem_nil
  | f + 1, v => fun x hx => by
    by_cases h : v = 0
    · rw [h, nc_0] at hx; exact absurd hx List.not_mem_nil
    · rw [nc_s h, List.mem_append, List.mem_singleton] at hx
      rcases hx with hx | hx
      · exact nc_b f _ x hx
      · omega
/-- no sign of a name is blank -/
def nzN (v : Nat) : Prop := ∀ x, x ∈ ncod 12 v → x ≠ 0
section SPL
variable {d : Nat}
theorem lt37 {f v : Nat} (h : v < 37 ^ f) (hf : f ≤ 12) : v < 2 ^ 63 := Nat.lt_of_lt_of_le h (Nat.le_trans (Nat.pow_le_pow_right (by decide) hf) (by decide))
theorem dv37 {f v : Nat} (h : v < 37 ^ (f + 1)) : v / 37 < 37 ^ f := by rw [Nat.div_lt_iff_lt_mul (by decide)]; exact h
theorem l_gt0 {v : Nat} (h : v < 2 ^ 63) : (nI 0 < lg_cmp (lN v) 0) = (0 < v) := by
  rw [c_gt, show (0 : Int64) = lN 0 from rfl]; exact propext (pk_lLT (by decide) h)
theorem l_dv {v : Nat} (h : v < 2 ^ 63) : lN v / 37 = lN (v / 37) := by rw [show (37 : Int64) = lN 37 from rfl]; exact pk_lDiv h (by decide) (by decide)
theorem l_rm {v : Nat} (h : v < 2 ^ 63) : (lN v - lN v / 37 * 37).toInt32 = nI (v % 37) := by rw [show (37 : Int64) = lN 37 from rfl, pk_lRem h (by decide) (by decide), lN_i]
theorem r_sign {h : AH} (hs : Sh h) {c : Nat} (h0 : c ≠ 0) (hc : c < 37) : E (d + 1) 69 [.int (nI c)] h = some (some (.int (nI (asc c))), h) := by
  rw [t_69 hs]; unfold asc
  by_cases q : c < 27
  · rw [if_pos (nI_lt q (by decide)), if_neg h0, if_pos q, nI_add]
  · rw [if_neg (nI_nlt (by omega) (by omega)), if_neg h0, if_neg q, nI_add]
theorem r_sp1 {h : AH} (hs : Sh h) {x : Int64} : ∀ (f v k : Nat), v < 37 ^ f → f ≤ 12 → Q d 68 5 [some (.ref 189), some (.long x), none, some (.int (nI k)), some (.long (lN v)), none, none] [] h = Q d 68 34 [some (.ref 189), none, none, some (.int (nI (k + (ncod f v).length))), some (.long x), none, some (.int (nI (k + (ncod f v).length) - nI 1))] [] h
  | 0, v, k, hv, hf => by
    have : v = 0 := by rw [Nat.pow_zero] at hv; omega
    subst this
    rw [t_68_5 hs, if_neg (by rw [l_gt0 (by decide)]; omega)]; rfl
  | f + 1, v, k, hv, hf => by
    have h63 := lt37 hv hf
    by_cases q : v = 0
    · subst q
      rw [t_68_5 hs, if_neg (by rw [l_gt0 (by decide)]; omega), nc_0]; rfl
    · rw [t_68_5 hs, if_pos (by rw [l_gt0 h63]; omega), dZ_ok (by decide), l_dv h63, nI_add, r_sp1 hs f (v / 37) (k + 1) (dv37 hv) (by omega), nc_s q, List.length_append, List.length_singleton, show k + 1 + (ncod f (v / 37)).length = k + ((ncod f (v / 37)).length + 1) from by omega]
theorem Sh.c233 {h : AH} (hs : Sh h) : gC h 233 = 60 ∧ gK h 233 = 1200 := ⟨by rw [← congrFun hs.c 233]; rfl, by rw [← congrFun hs.k 233]; rfl⟩
theorem r_sp2 {s n : Nat} : ∀ (f v : Nat) {h : AH}, Sh h → v < 37 ^ f → f ≤ 12 → s + 12 ≤ 1200 → gI h 3639 189 = nI s → (∀ x, x ∈ ncod f v → x ≠ 0) → ∃ h', Q (d + 1) 68 34 [some (.ref 189), none, none, some (.int (nI n)), some (.long (lN v)), none, some (.int (nI (ncod f v).length - nI 1))] [] h = some (none, sI h' 3639 189 (nI (s + n))) ∧ gA h' 233 = wrL (gA h 233) s ((ncod f v).map asc) ∧ Fr [] [233] h h'
  | 0, v, h, hs, hv, hf, hS, e, nz => by
    refine ⟨h, ?_, by rw [show ncod 0 v = [] from rfl, List.map_nil, wr_nil], Fr.rfl⟩
    rw [t_68_34 hs, show (ncod 0 v).length = 0 from rfl, if_pos (show nI 0 - nI 1 < nI 0 from pk_sneg (by decide) (by decide)), e, nI_add]
  | f + 1, v, h, hs, hv, hf, hS, e, nz => by
    have h63 := lt37 hv hf
    by_cases q : v = 0
    · subst q
      refine ⟨h, ?_, by rw [nc_0, List.map_nil, wr_nil], Fr.rfl⟩
      rw [t_68_34 hs, nc_0, List.length_nil, if_pos (show nI 0 - nI 1 < nI 0 from pk_sneg (by decide) (by decide)), e, nI_add]
    · have hl := nc_l f (v / 37)
      rw [nc_s q] at nz ⊢
      have n0 := nz (v % 37) (List.mem_append.mpr (Or.inr (List.mem_singleton.mpr rfl)))
      obtain ⟨h', e', w, fr⟩ := r_sp2 f (v / 37) (hs.sA (k := 233) (x := s + (ncod f (v / 37)).length) (v := nI (asc (v % 37)))) (dv37 hv) (by omega) hS e fun x hx => nz x (List.mem_append.mpr (Or.inl hx))
      refine ⟨h', ?_, ?_, (Fr.rfl.sA (List.mem_singleton.mpr rfl)).trans fr⟩
      · rw [t_68_34 hs, List.length_append, List.length_singleton, pk_sub (by omega), Nat.add_sub_cancel, if_neg (nI_nlt (by omega) (by omega)), dZ_ok (by decide), l_rm h63, r_sign hs n0 (by omega), cK_v, t_68_60 hs, cw_ok hs.c233.1 (by decide), e, nI_add, hs.c233.2, gd_nI (by omega) (by decide), dZ_ok (by decide), l_dv h63, ix_nI (by omega)]
        rw [show nI (ncod f (v / 37)).length + -1 = nI (ncod f (v / 37)).length - nI 1 from by rw [Int32.sub_eq_add_neg]; rfl]
        exact e'
      · rw [w, gA_s, List.map_append, List.map_singleton]
        have := wr_app (f := gA h 233) (s := s) (x := asc (v % 37)) (l := (ncod f (v / 37)).map asc)
        rw [List.length_map] at this
        exact this
/-- the reference spells a packed name behind its signs -/
theorem r_spell {h : AH} (hs : Sh h) {s v : Nat} (hv : v < 37 ^ 12) (nz : nzN v) (hS : s + 12 ≤ 1200) (e : gI h 3639 189 = nI s) : ∃ h', E (d + 2) 68 [.ref 189, .long (lN v)] h = some (none, h') ∧ gI h' 3639 189 = nI (s + (ncod 12 v).length) ∧ gA h' 233 = wrL (gA h 233) s ((ncod 12 v).map asc) ∧ Fr [3639] [233] h h' := by
  obtain ⟨h', e', w, f⟩ := r_sp2 (d := d) (n := (ncod 12 v).length) 12 v hs hv (by decide) hS e nz
  refine ⟨sI h' 3639 189 (nI (s + (ncod 12 v).length)), ?_, gI_s, w, (f.wk (List.nil_subset _) fun _ q => q).sI (List.mem_singleton.mpr rfl)⟩
  rw [t_68 hs, r_sp1 hs 12 v 0 hv (by decide), Nat.zero_add]
  exact e'
theorem c_sp1 {h : AH} (hs : Sh h) {x : Int64} {s : Int32} : ∀ (f v k : Nat), v < 37 ^ f → k + f = 12 → Q d 352 6 [some (.ref 103), some (.long x), none, some (.int s), some (.int (nI k)), some (.long (lN v)), none, none] [] h = Q d 352 43 [some (.ref 103), none, none, some (.int s), some (.int (nI (k + (ncod f v).length))), some (.long x), none, some (.int (nI (k + (ncod f v).length) - nI 1))] [] h
  | 0, v, k, hv, hf => by
    have : v = 0 := by rw [Nat.pow_zero] at hv; omega
    subst this
    rw [t_352_6 hs, if_neg (by rw [l_gt0 (by decide)]; omega)]; rfl
  | f + 1, v, k, hv, hf => by
    have h63 := lt37 hv (by omega)
    by_cases q : v = 0
    · subst q
      rw [t_352_6 hs, if_neg (by rw [l_gt0 (by decide)]; omega), nc_0]; rfl
    · rw [t_352_6 hs, if_pos (by rw [l_gt0 h63]; omega), if_pos (nI_lt (by omega) (by decide)), dZ_ok (by decide), l_dv h63, nI_add, c_sp1 hs f (v / 37) (k + 1) (dv37 hv) (by omega), nc_s q, List.length_append, List.length_singleton, show k + 1 + (ncod f (v / 37)).length = k + ((ncod f (v / 37)).length + 1) from by omega]
theorem c_sp2 {s n : Nat} : ∀ (f v : Nat) {h : AH}, Sh h → v < 37 ^ f → f ≤ 12 → s + 12 ≤ 613 → ∃ h', Q d 352 43 [some (.ref 103), none, none, some (.int (nI s)), some (.int (nI n)), some (.long (lN v)), none, some (.int (nI (ncod f v).length - nI 1))] [] h = some (some (.int (nI n)), h') ∧ gA h' 104 = wrL (gA h 104) s (ncod f v) ∧ Fr [] [104] h h'
  | 0, v, h, hs, hv, hf, hS => by
    refine ⟨h, ?_, by rw [show ncod 0 v = [] from rfl, wr_nil], Fr.rfl⟩
    rw [t_352_43 hs, show (ncod 0 v).length = 0 from rfl, if_pos (show nI 0 - nI 1 < nI 0 from pk_sneg (by decide) (by decide))]
  | f + 1, v, h, hs, hv, hf, hS => by
    have h63 := lt37 hv hf
    by_cases q : v = 0
    · subst q
      refine ⟨h, ?_, by rw [nc_0, wr_nil], Fr.rfl⟩
      rw [t_352_43 hs, nc_0, List.length_nil, if_pos (show nI 0 - nI 1 < nI 0 from pk_sneg (by decide) (by decide))]
    · have hl := nc_l f (v / 37)
      rw [nc_s q]
      obtain ⟨h', e', w, fr⟩ := c_sp2 f (v / 37) (hs.sA (k := 104) (x := s + (ncod f (v / 37)).length) (v := nI (v % 37))) (dv37 hv) (by omega) hS
      refine ⟨h', ?_, ?_, (Fr.rfl.sA (List.mem_singleton.mpr rfl)).trans fr⟩
      · rw [t_352_43 hs, List.length_append, List.length_singleton, pk_sub (by omega), Nat.add_sub_cancel, if_neg (nI_nlt (by omega) (by omega)), dZ_ok (by decide), l_rm h63, nI_add, gd_nI (by omega) (by decide), dZ_ok (by decide), l_dv h63, ix_nI (by omega)]
        rw [show nI (ncod f (v / 37)).length + -1 = nI (ncod f (v / 37)).length - nI 1 from by rw [Int32.sub_eq_add_neg]; rfl]
        exact e'
      · rw [w, gA_s]
        exact wr_app
theorem c_unpack {h : AH} (hs : Sh h) {s v : Nat} (hv : v < 37 ^ 12) (hS : s + 12 ≤ 613) : ∃ h', E (d + 1) 352 [.ref 103, .long (lN v), .int (nI s)] h = some (some (.int (nI (ncod 12 v).length)), h') ∧ gA h' 104 = wrL (gA h 104) s (ncod 12 v) ∧ Fr [] [104] h h' := by
  obtain ⟨h', e', w, f⟩ := c_sp2 (d := d) (s := s) (n := (ncod 12 v).length) 12 v hs hv (by decide) hS
  refine ⟨h', ?_, w, f⟩
  rw [t_352 hs, c_sp1 hs 12 v 0 hv (by decide), Nat.zero_add]
  exact e'
/-- the code of a sign, great letters as small ones -/
def pcd (c : Nat) : Nat := if 65 ≤ c ∧ c ≤ 90 then c - 64 else if 97 ≤ c ∧ c ≤ 122 then c - 96 else if 48 ≤ c ∧ c ≤ 57 then c - 21 else 0
theorem pcd_b {c : Nat} : pcd c < 37 := by unfold pcd; (repeat' split) <;> omega
def smN (c : Nat) : Nat := if 65 ≤ c ∧ c ≤ 90 then c + 32 else c
theorem sm_asc {c : Nat} (h : pcd c ≠ 0) : smN c = asc (pcd c) := by
  unfold pcd at h ⊢; unfold smN asc
  by_cases q1 : 65 ≤ c ∧ c ≤ 90
  · rw [if_pos q1, if_pos q1, if_neg (by omega), if_pos (by omega)]; omega
  · rw [if_neg q1] at h ⊢; rw [if_neg q1]
    by_cases q2 : 97 ≤ c ∧ c ≤ 122
    · rw [if_pos q2, if_neg (by omega), if_pos (by omega)]; omega
    · rw [if_neg q2] at h ⊢
      by_cases q3 : 48 ≤ c ∧ c ≤ 57
      · rw [if_pos q3, if_neg (by omega), if_neg (by omega)]; omega
      · rw [if_neg q3] at h; exact absurd rfl h
theorem nlt' {a b : Nat} (ha : a < 2 ^ 31) (hb : b < 2 ^ 31) : (nI a < nI b) = (a < b) := propext (nI_ltI ha hb)
theorem c_code {h : AH} (hs : Sh h) {c : Nat} (hc : c < 128) : E (d + 1) 294 [.int (nI c)] h = some (some (.int (nI (if 97 ≤ c ∧ c ≤ 122 then c - 96 else if 48 ≤ c ∧ c ≤ 57 then c - 21 else 0))), h) := by
  rw [t_294 hs]
  simp only [nlt' (show c < 2 ^ 31 by omega) (show 97 < 2 ^ 31 by decide), nlt' (show c < 2 ^ 31 by omega) (show 48 < 2 ^ 31 by decide), nlt' (show 57 < 2 ^ 31 by decide) (show c < 2 ^ 31 by omega), nlt' (show 122 < 2 ^ 31 by decide) (show c < 2 ^ 31 by omega)]
  by_cases q2 : 97 ≤ c ∧ c ≤ 122
  · rw [if_neg (by omega), if_neg (by omega), if_pos q2, pk_sub (by omega), nI_add, show c - 97 + 1 = c - 96 from by omega]
  · rw [if_neg q2]
    by_cases q3 : 48 ≤ c ∧ c ≤ 57
    · rw [if_pos (by omega), if_neg (by omega), if_neg (by omega), if_pos q3, pk_sub (by omega), nI_add, show c - 48 + 27 = c - 21 from by omega]
    · rw [if_neg q3]
      by_cases q4 : c < 97
      · rw [if_pos q4]
        by_cases q5 : c < 48
        · rw [if_pos q5]
        · rw [if_neg q5, if_pos (by omega)]
      · rw [if_neg q4, if_pos (by omega), if_neg (by omega), if_pos (by omega)]
theorem c_plain {h : AH} (hs : Sh h) {c : Nat} (hc : c < 128) : E (d + 2) 296 [.int (nI c)] h = some (some (.int (nI (pcd c))), h) := by
  rw [t_296 hs, c_code hs hc, cK_v]
  unfold pcd
  by_cases q : c < 65
  · rw [if_pos (nI_lt q (by decide)), t_296_25 hs, if_neg (c := 65 ≤ c ∧ c ≤ 90) (by omega)]
  · rw [if_neg (nI_nlt (by omega) (by omega))]
    by_cases w : 90 < c
    · rw [if_pos (nI_lt w (by omega)), t_296_25 hs, if_neg (c := 65 ≤ c ∧ c ≤ 90) (by omega)]
    · rw [if_neg (nI_nlt (by omega) (by omega)), t_296_25 hs, if_pos (c := 65 ≤ c ∧ c ≤ 90) (by omega), pk_sub (by omega), nI_add, show c - 65 + 1 = c - 64 from by omega]
theorem r_small {h : AH} (hs : Sh h) {c : Nat} (hc : c < 128) : E (d + 1) 66 [.int (nI c)] h = some (some (.int (nI (smN c))), h) := by
  rw [t_66 hs]; unfold smN
  by_cases q : c < 65
  · rw [if_pos (nI_lt q (by decide)), if_neg (by omega)]
  · rw [if_neg (nI_nlt (by omega) (by omega))]
    by_cases w : 90 < c
    · rw [if_pos (nI_lt w (by omega)), if_neg (by omega)]
    · rw [if_neg (nI_nlt (by omega) (by omega)), if_pos (by omega), nI_add]
theorem r_letter {h : AH} (hs : Sh h) {c : Nat} (hc : c < 1000) : E (d + 1) 38 [.int (nI c)] h = some (some (.int (nI (if 97 ≤ c ∧ c ≤ 122 then 1 else 0))), h) := by
  rw [t_38 hs]
  by_cases q : c < 97
  · rw [if_pos (nI_lt q (by decide)), if_neg (by omega)]
  · rw [if_neg (nI_nlt (by omega) (by omega))]
    by_cases w : 122 < c
    · rw [if_pos (nI_lt w (by omega)), if_neg (by omega)]
    · rw [if_neg (nI_nlt (by omega) (by omega)), if_pos (by omega)]
theorem r_digit {h : AH} (hs : Sh h) {c : Nat} (hc : c < 1000) : E (d + 1) 40 [.int (nI c)] h = some (some (.int (nI (if 48 ≤ c ∧ c ≤ 57 then 1 else 0))), h) := by
  rw [t_40 hs]
  by_cases q : c < 48
  · rw [if_pos (nI_lt q (by decide)), if_neg (by omega)]
  · rw [if_neg (nI_nlt (by omega) (by omega))]
    by_cases w : 57 < c
    · rw [if_pos (nI_lt w (by omega)), if_neg (by omega)]
    · rw [if_neg (nI_nlt (by omega) (by omega)), if_pos (by omega)]
theorem r_rank {h : AH} (hs : Sh h) {c : Nat} (hc : c < 1000) : E (d + 1) 30 [.int (nI c)] h = some (some (.int (nI (if 97 ≤ c ∧ c ≤ 122 then c - 96 else if 48 ≤ c ∧ c ≤ 57 then c - 21 else 0))), h) := by
  rw [t_30 hs]
  simp only [nlt' (show c < 2 ^ 31 by omega) (show 97 < 2 ^ 31 by decide), nlt' (show c < 2 ^ 31 by omega) (show 48 < 2 ^ 31 by decide), nlt' (show 57 < 2 ^ 31 by decide) (show c < 2 ^ 31 by omega), nlt' (show 122 < 2 ^ 31 by decide) (show c < 2 ^ 31 by omega)]
  by_cases q2 : 97 ≤ c ∧ c ≤ 122
  · rw [if_neg (by omega), if_neg (by omega), if_pos q2, pk_sub (by omega)]
  · rw [if_neg q2]
    by_cases q3 : 48 ≤ c ∧ c ≤ 57
    · rw [if_pos (by omega), if_neg (by omega), if_neg (by omega), if_pos q3, pk_sub (by omega)]
    · rw [if_neg q3]
      by_cases q4 : c < 97
      · rw [if_pos q4]
        by_cases q5 : c < 48
        · rw [if_pos q5]
        · rw [if_neg q5, if_pos (by omega)]
      · rw [if_neg q4, if_pos (by omega), if_neg (by omega), if_pos (by omega)]
theorem rk_sm {c : Nat} : (if 97 ≤ smN c ∧ smN c ≤ 122 then smN c - 96 else if 48 ≤ smN c ∧ smN c ≤ 57 then smN c - 21 else 0) = pcd c := by
  unfold smN pcd
  by_cases q1 : 65 ≤ c ∧ c ≤ 90
  · simp only [if_pos q1]; rw [if_pos (by omega)]; omega
  · simp only [if_neg q1]
theorem r_srank {h : AH} (hs : Sh h) {c : Nat} (hc : c < 128) : E (d + 1) 30 [.int (nI (smN c))] h = some (some (.int (nI (pcd c))), h) := by
  rw [r_rank hs (by unfold smN; split <;> omega), rk_sm]
end SPL
