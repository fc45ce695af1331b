/-! ===== THE START: what the claim gives of the strings, the statics, the script (made by wip/gen/gen26.py) ===== -/
def sByt : List (List Int32) := [[59, 44, 61, 60, 43, 45, 42, 47, 37, 40, 41, 123, 125, 91, 93, 64],
  [111, 102, 102, 105, 99, 101, 32, 115, 104, 111, 114, 116, 32, 115, 116, 114, 101, 101, 116, 32, 115, 101, 114, 118, 105, 99, 101, 32, 99, 111, 97, 99, 104],
  [105, 110],
  [102, 114, 111, 109, 32, 111, 100, 100, 32, 101, 118, 101, 110],
  [102, 114, 111, 109],
  [116, 111],
  [97, 116],
  [101, 32, 110, 32, 119, 32, 115],
  [119, 97, 108, 107],
  [108, 101, 116, 116, 101, 114, 32, 112, 97, 114, 99, 101, 108, 32, 114, 101, 103, 105, 115, 116, 101, 114],
  [109, 111, 115, 116],
  [98, 97, 115, 101, 32, 101, 97, 99, 104, 32, 122, 111, 110, 101, 32, 102, 97, 114, 32, 117, 112, 32, 108, 101, 97, 115, 116, 32, 99, 117, 116],
  [111, 118, 101, 114],
  [102, 105, 114, 115, 116],
  [101, 118, 101, 114, 121],
  [108, 97, 115, 116],
  [116, 97, 107, 101, 115],
  [104, 111, 108, 100, 115],
  [109, 97, 107, 101, 32, 100, 114, 111, 112, 32, 115, 97, 109, 101, 32, 112, 117, 116, 32, 108, 97, 121, 32, 115, 108, 105, 100, 101, 32, 98, 97, 103, 32, 114, 101, 102, 117, 115, 101, 32, 115, 116, 111, 112, 32, 105, 102, 32, 101, 108, 115, 101, 32, 119, 104, 105, 108, 101, 32, 116, 114, 121, 32, 111, 110, 32, 97, 108, 119, 97, 121, 115, 32, 108, 101, 110, 32, 115, 111, 114, 116, 32, 97, 116, 32, 99, 111, 100, 101, 32, 119, 101, 105, 103, 104, 116, 32, 107, 105, 110, 100, 32, 110, 101, 120, 116, 32, 105, 115, 32, 109, 97, 110, 121, 32, 104, 101, 114, 101, 32, 116, 105, 109, 101, 32, 110, 111, 110, 101, 32, 115, 104, 101, 108, 102, 32, 105, 116, 101, 109, 32, 108, 101, 116, 116, 101, 114, 32, 112, 97, 114, 99, 101, 108, 32, 114, 101, 103, 105, 115, 116, 101, 114, 32, 116, 114, 117, 116, 104, 115, 32, 98, 121, 116, 101, 115, 32, 115, 105, 103, 110, 115, 32, 115, 104, 111, 114, 116, 115, 32, 105, 110, 116, 115, 32, 108, 111, 110, 103, 115, 32, 102, 108, 111, 97, 116, 115, 32, 100, 111, 117, 98, 108, 101, 115, 32, 105, 116, 101, 109, 115, 32, 108, 101, 116, 116, 101, 114, 115, 32, 112, 97, 114, 99, 101, 108, 115, 32, 114, 101, 103, 105, 115, 116, 101, 114, 115],
  [110, 111, 32, 115, 117, 99, 104, 32, 115, 101, 114, 118, 105, 99, 101, 32, 111, 114, 32, 111, 102, 102, 105, 99, 101],
  [110, 111, 32, 115, 117, 99, 104, 32, 111, 102, 102, 105, 99, 101],
  [110, 111, 32, 115, 117, 99, 104, 32, 105, 116, 101, 109, 32, 111, 114, 32, 98, 97, 114],
  [110, 111, 32, 115, 117, 99, 104, 32, 110, 117, 109, 98, 101, 114],
  [110, 111, 32, 115, 117, 99, 104, 32, 104, 97, 110, 100],
  [110, 111, 32, 115, 117, 99, 104, 32, 116, 114, 97, 121],
  [110, 111, 32, 115, 117, 99, 104, 32, 116, 114, 97, 121, 32, 111, 114, 32, 112, 108, 97, 99, 101],
  [110, 111, 32, 115, 117, 99, 104, 32, 105, 116, 101, 109, 32, 111, 114, 32, 113, 117, 101, 115, 116, 105, 111, 110],
  [111, 102, 102, 105, 99, 101, 32, 115, 104, 111, 114, 116, 32, 115, 116, 114, 101, 101, 116, 32, 105, 110, 32, 111, 100, 100, 32, 101, 118, 101, 110, 32, 102, 114, 111, 109, 32, 116, 111, 32, 97, 116, 32, 101, 32, 110, 32, 119, 32, 115, 32, 119, 97, 108, 107, 32, 115, 101, 114, 118, 105, 99, 101, 32, 108, 101, 116, 116, 101, 114, 32, 112, 97, 114, 99, 101, 108, 32, 114, 101, 103, 105, 115, 116, 101, 114, 32, 109, 111, 115, 116, 32, 98, 97, 115, 101, 32, 101, 97, 99, 104, 32, 111, 118, 101, 114, 32, 122, 111, 110, 101, 32, 102, 97, 114, 32, 117, 112, 32, 108, 101, 97, 115, 116, 32, 99, 117, 116, 32, 99, 111, 97, 99, 104, 32, 102, 105, 114, 115, 116, 32, 101, 118, 101, 114, 121, 32, 108, 97, 115, 116, 32, 116, 97, 107, 101, 115, 32, 104, 111, 108, 100, 115, 32, 109, 97, 107, 101, 32, 100, 114, 111, 112, 32, 115, 97, 109, 101, 32, 112, 117, 116, 32, 108, 97, 121, 32, 115, 108, 105, 100, 101, 32, 98, 97, 103, 32, 114, 101, 102, 117, 115, 101, 32, 115, 116, 111, 112, 32, 105, 102, 32, 101, 108, 115, 101, 32, 119, 104, 105, 108, 101, 32, 116, 114, 121, 32, 111, 110, 32, 97, 108, 119, 97, 121, 115, 32, 108, 101, 110, 32, 115, 111, 114, 116, 32, 99, 111, 100, 101, 32, 119, 101, 105, 103, 104, 116, 32, 107, 105, 110, 100, 32, 110, 101, 120, 116, 32, 105, 115, 32, 109, 97, 110, 121, 32, 104, 101, 114, 101, 32, 116, 105, 109, 101, 32, 110, 111, 110, 101, 32, 115, 104, 101, 108, 102, 32, 105, 116, 101, 109, 32, 116, 114, 117, 116, 104, 115, 32, 98, 121, 116, 101, 115, 32, 115, 105, 103, 110, 115, 32, 115, 104, 111, 114, 116, 115, 32, 105, 110, 116, 115, 32, 108, 111, 110, 103, 115, 32, 102, 108, 111, 97, 116, 115, 32, 100, 111, 117, 98, 108, 101, 115, 32, 105, 116, 101, 109, 115, 32, 108, 101, 116, 116, 101, 114, 115, 32, 112, 97, 114, 99, 101, 108, 115, 32, 114, 101, 103, 105, 115, 116, 101, 114, 115, 32]]
def pwL : List Int32 := [1, 2, 4, 8, 16, 32, 3, 6, 12, 24, 48, 35, 5, 10, 20, 40, 19, 38, 15, 30, 60, 59, 53, 41, 17, 34, 7, 14, 28, 56, 51, 37, 9, 18, 36, 11, 22, 44, 27, 54, 47, 29, 58, 55, 45, 25, 50, 39, 13, 26, 52, 43, 21, 42, 23, 46, 31, 62, 63, 61, 57, 49, 33]
def sIx : List (Nat × Nat) := [(2, 187), (3, 34), (4, 27), (4, 50), (4, 51), (4, 52), (4, 53), (4, 54), (4, 55), (4, 102), (4, 103), (4, 108), (4, 113), (4, 165), (4, 166), (4, 167), (4, 168), (4, 169), (6, 26), (7, 155), (7, 216), (8, 89), (8, 113), (8, 127), (8, 135), (8, 147), (8, 155), (8, 170)]
noncomputable def sQ (i : Nat) : String × Nat × Nat := nthD exS i ("", 0, 0)
noncomputable def tmS (i : Nat) : Term := .string (sQ i).1 (sQ i).2.1
noncomputable def bS (i : Nat) : List Int32 := nthD sByt i []
noncomputable def strF (i : Nat) : List Cond := .exactly (tmS i) "java/lang/String" :: .eq (.field (tmS i) "java/lang/String" "coder" "B") (.int 0) :: .arrayOf (.field (tmS i) "java/lang/String" "value" "[B") .byte :: .eq (.length (.field (tmS i) "java/lang/String" "value" "[B")) (.int (Int32.ofNat (bS i).length)) ::
  (List.range (bS i).length).map fun j => .eq (.elem (.field (tmS i) "java/lang/String" "value" "[B") (.int (Int32.ofNat j))) (.int ((bS i).getD j 0))
abbrev gvn : Cond := Cond.and given_1 narrow_1
set_option maxRecDepth 100000 in
theorem strF_eq : ((flatC gvn).drop 130).take 1054 = (List.range 28).flatMap strF := rfl
def tmP : Term := .static "PostRoom$Item" "POWERS" "[I"
def tmE : Term := .static "java/util/ArrayList" "DEFAULTCAPACITY_EMPTY_ELEMENTDATA" "[Ljava/lang/Object;"
set_option maxRecDepth 16384 in
theorem pw_eq : ((flatC gvn).drop 16).take 63 = (List.range 63).map (fun j => Cond.eq (.elem tmP (.int (Int32.ofNat j))) (.int (nthD pwL j 0))) := rfl
set_option maxRecDepth 16384 in
theorem fl_3 : nth (flatC gvn) 5 = some (.arrayOf tmE (.object "java/lang/Object")) := rfl
set_option maxRecDepth 16384 in
theorem fl_4 : nth (flatC gvn) 6 = some (.exactly tmE "[Ljava/lang/Object;") := rfl
set_option maxRecDepth 16384 in
theorem fl_5 : nth (flatC gvn) 7 = some (.eq (.length tmE) (.int 0)) := rfl
set_option maxRecDepth 16384 in
theorem fl_6 : nth (flatC gvn) 8 = some (.eq (.static "java/lang/String" "COMPACT_STRINGS" "Z") (.int 1)) := rfl
set_option maxRecDepth 16384 in
theorem fl_7 : nth (flatC gvn) 9 = some (.isRef (.static "jdk/internal/util/Preconditions" "SIOOBE_FORMATTER" "Ljava/util/function/BiFunction;")) := rfl
set_option maxRecDepth 16384 in
theorem fl_12 : nth (flatC gvn) 14 = some (.arrayOf tmP .int) := rfl
set_option maxRecDepth 16384 in
theorem fl_13 : nth (flatC gvn) 15 = some (.eq (.length tmP) (.int 63)) := rfl
set_option maxRecDepth 16384 in
theorem fl_127 : nth (flatC gvn) 129 = some (.isRef (.mirror "[Ljava/lang/Object;")) := rfl
set_option maxRecDepth 16384 in
theorem w_zp : wt (5, 43) = some (.laysStatic "PostRoom$Item" "POWERS" "[I") ∧ wt (1, 30) = some (.initialized "PostRoom$Item") := ⟨rfl, rfl⟩
set_option maxRecDepth 16384 in
theorem w_ze : wt (1, 144) = some (.laysStatic "java/util/ArrayList" "DEFAULTCAPACITY_EMPTY_ELEMENTDATA" "[Ljava/lang/Object;") ∧ wt (1, 8) = some (.initialized "java/util/ArrayList") := ⟨rfl, rfl⟩
set_option maxRecDepth 16384 in
theorem w_zc : wt (2, 201) = some (.laysStatic "java/lang/String" "COMPACT_STRINGS" "Z") ∧ wt (1, 12) = some (.initialized "java/lang/String") := ⟨rfl, rfl⟩
set_option maxRecDepth 16384 in
theorem w_zs : wt (3, 4) = some (.laysStatic "jdk/internal/util/Preconditions" "SIOOBE_FORMATTER" "Ljava/util/function/BiFunction;") ∧ wt (1, 14) = some (.initialized "jdk/internal/util/Preconditions") := ⟨rfl, rfl⟩
set_option maxRecDepth 16384 in
theorem w_ar : wt (1, 118) = some (.arrayClass .int) ∧ wt (1, 198) = some (.arrayClass .long) ∧ wt (1, 82) = some (.arrayClass .char) ∧ wt (5, 73) = some (.arrayClass .boolean) ∧ wt (3, 109) = some (.arrayClass .byte) ∧ wt (3, 195) = some (.arrayOver (.object "java/lang/Object")) ∧ wt (1, 90) = some (.arrayOver (.array .int)) := ⟨rfl, rfl, rfl, rfl, rfl, rfl, rfl⟩
/-- the text of a word that names a string -/
def txW : Option Cond → String
  | some (.stringRef _ _ t) => t
  | _ => ""
set_option maxRecDepth 16384 in
theorem w_st : (List.range 28).map (fun i => wt (nthD sIx i (0, 0))) = (List.range 28).map (fun i => some (Cond.stringRef (sQ i).1 (sQ i).2.1 (txW (wt (nthD sIx i (0, 0)))))) := rfl
set_option maxRecDepth 16384 in
theorem exS_eq : exS = (List.range 28).map sQ := rfl
theorem sQ_i : (List.range 28).all (fun i => Nat.beq (sQ i).2.2 i) = true := by decide +kernel
theorem sB_le : sByt.all (fun l => Nat.ble l.length 400) = true := by decide +kernel
theorem bS_le (i : Nat) : (bS i).length ≤ 400 := by
  rcases nthD_mem (d := ([] : List Int32)) (l := sByt) (n := i) with e | e
  · unfold bS; rw [e]; exact Nat.zero_le _
  · exact Nat.le_of_ble_eq_true (List.all_eq_true.mp sB_le _ e)
theorem str1 {za : Array Value} {s : State} {t : Term} {bs : List Int32} {A : Nat → Prop} (hN : bs.length < 2 ^ 31) (h1 : (Cond.exactly t "java/lang/String").before za s = true) (h2 : (Cond.eq (.field t "java/lang/String" "coder" "B") (.int 0)).before za s = true) (h3 : (Cond.arrayOf (.field t "java/lang/String" "value" "[B") .byte).before za s = true)
    (h4 : (Cond.eq (.length (.field t "java/lang/String" "value" "[B")) (.int (Int32.ofNat bs.length))).before za s = true) (h5 : ∀ j, j < bs.length → (Cond.eq (.elem (.field t "java/lang/String" "value" "[B") (.int (Int32.ofNat j))) (.int (bs.getD j 0))).before za s = true) (hA : ∀ a : Nat, a < s.heap.size → ¬ A a) :
    ∃ q : Nat × Nat, t.eval za s none [] s = some (.ref q.1) ∧ va_O "java/lang/String" q.1 A s s.heap ∧ va_OF "java/lang/String" "coder" "B" (.int 0) q.1 A s s.heap ∧ va_OF "java/lang/String" "value" "[B" (.ref q.2) q.1 A s s.heap ∧ va_T .byte q.2 bs.length (fun j => .int (bs.getD j 0)) A s s.heap := by
  obtain ⟨adK, adV, hS, hE⟩ := vk_Sof (args := za) (s := s) (N := 1) (tm := fun _ => t) (len := [bs.length]) (byt := [bs]) (A := A) (fun i hi => by obtain rfl : i = 0 := (by omega); exact hN) (fun i hi => h1) (fun i hi => h2) (fun i hi => h3) (fun i hi => by obtain rfl : i = 0 := (by omega); exact h4)
    (fun i hi j hj => by obtain rfl : i = 0 := (by omega); exact h5 j hj) (fun i j hi hj hij => absurd (show i = j by omega) hij) hA
  exact ⟨(adK 0, adV 0), hE 0 (by omega), (hS.1 0 (by omega)).1, (hS.1 0 (by omega)).2.1, (hS.1 0 (by omega)).2.2.1, (hS.1 0 (by omega)).2.2.2⟩
theorem strs {za : Array Value} {s : State} {A : Nat → Prop} (h : gvn.before za s = true) (hA : ∀ a : Nat, a < s.heap.size → ¬ A a) (i : Nat) (hi : i < 28) :
    ∃ q : Nat × Nat, (tmS i).eval za s none [] s = some (.ref q.1) ∧ va_O "java/lang/String" q.1 A s s.heap ∧ va_OF "java/lang/String" "coder" "B" (.int 0) q.1 A s s.heap ∧ va_OF "java/lang/String" "value" "[B" (.ref q.2) q.1 A s s.heap ∧ va_T .byte q.2 (bS i).length (fun j => .int ((bS i).getD j 0)) A s s.heap := by
  have hm : ∀ w ∈ strF i, w.before za s = true := fun w hw => flat_of_before _ h w (List.mem_of_mem_drop (List.mem_of_mem_take (strF_eq ▸ List.mem_flatMap.mpr ⟨i, List.mem_range.mpr hi, hw⟩)))
  have hl := bS_le i
  exact str1 (by omega) (hm _ List.mem_cons_self) (hm _ (List.mem_cons_of_mem _ List.mem_cons_self)) (hm _ (List.mem_cons_of_mem _ (List.mem_cons_of_mem _ List.mem_cons_self))) (hm _ (List.mem_cons_of_mem _ (List.mem_cons_of_mem _ (List.mem_cons_of_mem _ List.mem_cons_self))))
    (fun j hj => hm _ (List.mem_cons_of_mem _ (List.mem_cons_of_mem _ (List.mem_cons_of_mem _ (List.mem_cons_of_mem _ (List.mem_map.mpr ⟨j, List.mem_range.mpr hj, rfl⟩)))))) hA
theorem fl_at {za : Array Value} {s : State} (h : gvn.before za s = true) {k : Nat} {w : Cond} (e : nth (flatC gvn) k = some w) : w.before za s = true := flat_of_before _ h w (nth_mem e)
theorem powers {za : Array Value} {s : State} {A : Nat → Prop} (h : gvn.before za s = true) (hA : ∀ a : Nat, a < s.heap.size → ¬ A a) : ∃ t : Nat, tmP.eval za s none [] s = some (.ref t) ∧ va_T .int t 63 (fun j => .int (nthD pwL j 0)) A s s.heap := by
  refine va_Tof (by omega) (fl_at h fl_12) (va_eqt (fl_at h fl_13)) (fun j hj => va_eqt ?_) hA
  exact flat_of_before _ h _ (List.mem_of_mem_drop (List.mem_of_mem_take (pw_eq ▸ List.mem_map.mpr ⟨j, List.mem_range.mpr hj, rfl⟩)))
/-- the pure heap at the start -/
noncomputable def h0 (L : Nat) (xs : Nat → Int32) (nl : Nat) : AH := ((100, 0), (fun x => if x < 28 then 15 else if 30 ≤ x ∧ x < 58 then 64 else if x = 60 ∨ x = 63 then 60 else if x = 61 then 65 else 0), (fun x => if 30 ≤ x ∧ x < 58 then (bS (x - 30)).length else if x = 60 then 63 else if x = 63 then L else if x = 64 then nl else 0), (fun _ _ => 0), (fun _ _ => 0), (fun k x => if k = 3840 ∧ x < 28 then some (30 + x) else none),
  (fun x j => if 30 ≤ x ∧ x < 58 then (bS (x - 30)).getD j 0 else if x = 60 then nthD pwL j 0 else if x = 63 then xs j else 0), (fun _ _ => 0), (fun _ _ => none))
def clsOf (s : State) (a : Nat) : ClassId := match s.heap[a]? with
  | some q => q.cls
  | none => 0
def svA : Value → Nat
  | .ref a => a
  | _ => 0
theorem arrOf_ty {s : State} {cell : Cell} {ty : FieldType} (h : s.isArrayOf cell ty) : ArrOfT s cell.cls ty := fun n z => ⟨(fun k h => by cases h), h.2⟩
theorem arrC {za : Array Value} {s : State} {ty : FieldType} (h : (Cond.arrayClass ty).before za s = true) : ∃ c, s.vm.findClass ("[" ++ ty.toString) = some c ∧ ArrOfT s c ty := by
  obtain ⟨c, k, comp, h1, h2, h3⟩ := Cond.arrayClass_spec h
  exact ⟨c, h1, fun n z => ⟨(fun k h => by cases h), k, h2, comp, h3⟩⟩
theorem arrO {za : Array Value} {s : State} (h : (Cond.arrayOver (.array .int)).before za s = true) : ∃ c, s.vm.findClass ("[" ++ (FieldType.array .int).toString) = some c ∧ ArrOfT s c (.array .int) := by
  simp only [Cond.before, Cond.holds, Cond.value, beq_iff_eq] at h
  obtain ⟨comp, hc, h⟩ := Option.bind_eq_some_iff.mp h
  obtain ⟨c, hi, h⟩ := Option.bind_eq_some_iff.mp h
  obtain ⟨k, hk, h⟩ := Option.map_eq_some_iff.mp h
  cases hkk : k.kind with
  | array cm ty =>
    rw [hkk] at h
    simp only [Bool.and_eq_true, decide_eq_true_eq] at h
    exact ⟨c, h.2, fun n z => ⟨(fun k h => by cases h), k, hk, cm, by rw [hkk, h.1]⟩⟩
  | _ => rw [hkk] at h; simp at h
theorem kinds {za : Array Value} {s : State} (hts : ∀ w ∈ lw_tbl, w.before za s = true) (t : Nat) : ∃ c, 60 ≤ t → t ≤ 66 → ArrOfT s c (aY t) ∧ va_RA s c (aY t) := by
  by_cases h : 60 ≤ t ∧ t ≤ 66
  · obtain ⟨w0, w1, w2, w3, w4, w5, w6⟩ := w_ar
    rcases (show t = 60 ∨ t = 61 ∨ t = 62 ∨ t = 63 ∨ t = 64 ∨ t = 65 ∨ t = 66 by omega) with rfl | rfl | rfl | rfl | rfl | rfl | rfl
    · obtain ⟨c, a, b⟩ := arrC (hts _ (wt_in w0)); exact ⟨c, fun _ _ => ⟨b, a⟩⟩
    · obtain ⟨c, a, b⟩ := arrC (hts _ (wt_in w1)); exact ⟨c, fun _ _ => ⟨b, a⟩⟩
    · obtain ⟨c, a, b⟩ := arrC (hts _ (wt_in w2)); exact ⟨c, fun _ _ => ⟨b, a⟩⟩
    · obtain ⟨c, a, b⟩ := arrC (hts _ (wt_in w3)); exact ⟨c, fun _ _ => ⟨b, a⟩⟩
    · obtain ⟨c, a, b⟩ := arrC (hts _ (wt_in w4)); exact ⟨c, fun _ _ => ⟨b, a⟩⟩
    · obtain ⟨comp, c, k, a1, -, a3, a4, a5⟩ := Cond.arrayOver_spec (hts _ (wt_in w5))
      exact ⟨c, fun _ _ => ⟨fun n z => ⟨(fun k h => by cases h), k, a3, comp, a4⟩, k, comp, a3, a4, a1, a5⟩⟩
    · obtain ⟨c, a, b⟩ := arrO (hts _ (wt_in w6)); exact ⟨c, fun _ _ => ⟨b, a⟩⟩
  · exact ⟨0, fun a b => absurd ⟨a, b⟩ h⟩
theorem clss {za : Array Value} {s : State} (hts : ∀ w ∈ lw_tbl, w.before za s = true) (t : Nat) : ∃ q : ClassId × (Nat → Nat), 1 ≤ t → t ≤ 14 → u_Kn s (cR t) (cT t) (cF t) q.1 q.2 := by
  by_cases h : 1 ≤ t ∧ t ≤ 14
  · obtain ⟨h1, h2⟩ := okCs t h.1 h.2
    obtain ⟨c, iS, hK⟩ := u_known (ws := lw_tbl) hts (fun w hw => (h1.1 w hw).1) (hts _ h2)
    exact ⟨(c, iS), fun _ _ => hK⟩
  · exact ⟨(0, fun _ => 0), fun a b => absurd ⟨a, b⟩ h⟩
section START
variable {s : State} {b L : Nat} {xs : Nat → Int32}
theorem FS_of {za : Array Value} (hts : ∀ w ∈ lw_tbl, w.before za s = true) {t j i : Nat} (h1 : 1 ≤ t) (h2 : t ≤ 14) (hj : j < cF t) (hS : SlotIs s (cT t j).1 (cT t j).2.1 (cT t j).2.2.1 i) : FS s (cT t j).1 (cT t j).2.1 (cT t j).2.2.1 i := by
  obtain ⟨cf, kf, fi, fd, e1, e2⟩ := hS
  refine ⟨cf, kf, fi, fd, e1, ?_, e2⟩
  rcases u_lays (ws := lw_tbl) hts (fun w hw => ((okCs t h1 h2).1.1 w hw).1) hj with h | h
  · obtain ⟨_, _, _, _, _, _, -, -, g1, g2, -⟩ := Cond.lays_spec h
    cases e1.symm.trans g1
    exact g2
  · obtain ⟨_, _, _, _, _, _, -, -, g1, g2, -⟩ := Cond.laysFinal_spec h
    cases e1.symm.trans g1
    exact g2
theorem isSt {cell : Cell} {ty : FieldType} (h : s.isArrayOf cell ty) : cell.vm.isStatics = false := by
  cases hv : cell.vm <;> first | rfl | exact absurd hv (h.1 _)
theorem cel_arr {D : va_G} {dA : Nat → ClassId} {φ : Nat → Nat} {h : AH} {x t N : Nat} {ty : FieldType} {f : Nat → Value} {A : Nat → Prop} (hT : va_T ty (φ x) N f A s s.heap) (hx : x < 100) (hC : gC h x = t) (ht : 60 ≤ t) (hcls : ∀ cell, s.heap[φ x]? = some cell → clA dA t x cell.cls) (hK : gK h x = N) (hf : ∀ j, j < N → eV φ h t x j = f j) : Cel D dA φ h x s.heap := by
  obtain ⟨cell, h1, h2, h3, h4, h5, h6, -⟩ := hT
  refine ⟨cell, h1, h3, isSt h2, fun q => by omega, fun q => by omega, fun _ => ?_, fun _ q => by omega⟩
  rw [hC, hK]
  exact ⟨hcls cell h1, ⟨h4, h5⟩, fun j hj => by rw [hf j hj]; exact h6 j hj⟩
theorem start (hok : ∀ y, (mK y).1 ≤ 2 → okY mY mB mL mT mK y) (hts : ∀ w ∈ lw_tbl, w.before #[Value.ref b] s = true) (hgv : gvn.before #[Value.ref b] s = true) (hX : va_X b L xs s s.heap) (hb : b < s.heap.size) :
    ∃ (D : va_G) (dA : Nat → ClassId) (ext : Nat → Nat) (nl : Nat), EV s #[Value.ref b] D dA ∧ GL mY mB mL mT mK exS exZ s ext ∧ HR s D dA ext (h0 L xs nl) s.heap ∧ ext 63 = b := by
  have hA : ∀ a : Nat, a < s.heap.size → ¬ (fun q => s.heap.size ≤ q) a := fun a h => Nat.not_le.mpr h
  obtain ⟨aS, hS⟩ := Classical.axiomOfChoice (fun i : Nat => (show ∃ q : Nat × Nat, i < 28 → _ from by
    by_cases hi : i < 28
    · obtain ⟨q, hq⟩ := strs (A := fun q => s.heap.size ≤ q) hgv hA i hi
      exact ⟨q, fun _ => hq⟩
    · exact ⟨(0, 0), fun h => absurd h hi⟩))
  obtain ⟨pa, hpe, hpT⟩ := powers (A := fun q => s.heap.size ≤ q) hgv hA
  obtain ⟨ea, cE, cellE, kE, hee, hfE, hcE, -, hsE, hclE, -⟩ := Cond.exactly_spec (fl_at hgv fl_4)
  obtain ⟨ea', hee', hET⟩ := va_Tof (N := 0) (f := fun _ => .null) (A := fun q => s.heap.size ≤ q) (by omega) (fl_at hgv fl_3) (va_eqt (fl_at hgv fl_5)) (fun j hj => by omega) hA
  cases hee.symm.trans hee'
  obtain ⟨mi, hmi⟩ := va_Mi.of (fl_at hgv fl_127)
  obtain ⟨sv, hsv, hsr⟩ := Cond.isRef_spec (fl_at hgv fl_7)
  obtain ⟨dC, hdC⟩ := Classical.axiomOfChoice (clss hts)
  obtain ⟨dK, hdK⟩ := Classical.axiomOfChoice (kinds hts)
  obtain ⟨cl0, h0a, -, hcS, -⟩ := (hS 0 (by omega)).2.1
  obtain ⟨cfc, kfc, ifc, fc, cellc, g1c, g2c, -, -, -, -⟩ := (hS 0 (by omega)).2.2.1
  obtain ⟨cfv, kfv, ifv, fv, cellv, g1v, g2v, -, -, -, -⟩ := (hS 0 (by omega)).2.2.2.1
  have hZs := va_Zof (A := fun q => s.heap.size ≤ q) (hts _ (wt_in w_zs.1)) (hts _ (wt_in w_zs.2)) hsv hA
  let ext : Nat → Nat := fun x => if x < 28 then (aS x).1 else if 30 ≤ x ∧ x < 58 then (aS (x - 30)).2 else if x = 60 then pa else if x = 61 then ea else if x = 62 then mi else if x = 63 then b else if x = 64 then svA sv else 0
  let dA : Nat → ClassId := fun t => if 130 ≤ t ∧ t < 158 then clsOf s (aS (t - 130)).2 else if t = 160 then clsOf s pa else if t = 163 then clsOf s b else if t = 158 ∨ t = 159 then dK 64 else dK t
  let D : va_G := (fun c => if c = 15 then cl0.cls else (dC c).1, fun c j => if c = 15 then (if j = 0 then fv.slot else fc.slot) else (dC c).2 j)
  have hdA : ∀ t, 60 ≤ t → t ≤ 66 → dA t = dK t := fun t a b => by
    show (if 130 ≤ t ∧ t < 158 then _ else _) = _
    rw [if_neg (by omega), if_neg (by omega), if_neg (by omega), if_neg (by omega)]
  have hS2 : ∀ i, i < 28 → ∃ cell, s.heap[(aS i).2]? = some cell ∧ s.isArrayOf cell .byte := fun i hi => by
    obtain ⟨cell, q1, q2, -⟩ := (hS i hi).2.2.2.2
    exact ⟨cell, q1, q2⟩
  obtain ⟨cellP, qP1, qP2, -⟩ := id hpT
  obtain ⟨cellX, qX1, qX2, qX3, qX4, qX5⟩ := id hX
  have hEV : EV s #[Value.ref b] D dA := by
    refine ⟨hts, fun c h1 h2 => ?_, fun c j h1 h2 hj => ?_, fun t h1 h2 => ⟨?_, fun x hx he => ?_⟩, ?_, fun c h1 h2 a d ha hd had => ?_⟩
    · show u_Kn s (cR c) (cT c) (cF c) (if c = 15 then cl0.cls else (dC c).1) (fun j => if c = 15 then (if j = 0 then fv.slot else fc.slot) else (dC c).2 j)
      simp only [if_neg (show ¬ c = 15 by omega)]
      exact hdC c h1 h2
    · by_cases hc : c = 15
      · subst hc
        show FS s _ _ _ (if (15 : Nat) = 15 then (if j = 0 then fv.slot else fc.slot) else (dC 15).2 j)
        rw [if_pos rfl]
        rcases (show j = 0 ∨ j = 1 from by have : j < 2 := hj; omega) with rfl | rfl
        · exact ⟨cfv, kfv, ifv, fv, g1v, g2v, rfl⟩
        · exact ⟨cfc, kfc, ifc, fc, g1c, g2c, rfl⟩
      · show FS s _ _ _ (if c = 15 then _ else (dC c).2 j)
        rw [if_neg hc]
        exact FS_of hts h1 (by omega) hj ((hdC c h1 (by omega)).1 j hj)
    · rw [hdA t h1 h2]
      exact hdK t h1 h2
    · unfold eK at he
      by_cases hx1 : 30 ≤ x ∧ x < 60
      · rw [if_pos hx1] at he
        subst he
        by_cases hx2 : x < 58
        · show ArrOfT s (if 130 ≤ 100 + x ∧ 100 + x < 158 then clsOf s (aS (100 + x - 130)).2 else _) .byte
          rw [if_pos (by omega), show 100 + x - 130 = x - 30 by omega]
          obtain ⟨cell, q1, q2⟩ := hS2 (x - 30) (by omega)
          unfold clsOf
          rw [q1]
          exact arrOf_ty q2
        · show ArrOfT s (if 130 ≤ 100 + x ∧ 100 + x < 158 then _ else _) .byte
          rw [if_neg (by omega), if_neg (by omega), if_neg (by omega), if_pos (by omega)]
          exact (hdK 64 (by omega) (by omega)).1
      · rw [if_neg hx1] at he
        by_cases hx2 : x = 60 ∨ x = 63
        · rw [if_pos hx2] at he
          subst he
          rcases hx2 with rfl | rfl
          · show ArrOfT s (clsOf s pa) .int
            unfold clsOf
            rw [qP1]
            exact arrOf_ty qP2
          · show ArrOfT s (clsOf s b) .int
            unfold clsOf
            rw [qX1]
            exact arrOf_ty qX2
        · rw [if_neg hx2] at he
          omega
    · exact hcS
    · show (if c = 15 then _ else (dC c).2 a) ≠ (if c = 15 then _ else (dC c).2 d)
      rw [if_neg (by omega), if_neg (by omega)]
      obtain ⟨cf, kf, fi, fd, e1, e2⟩ := (hdC c h1 h2).1 a ha
      obtain ⟨cf', kf', fi', fd', e1', e2'⟩ := (hdC c h1 h2).1 d hd
      rw [← e2, ← e2']
      refine u_apart (u_lays (ws := lw_tbl) hts (fun w hw => ((okCs c h1 h2).1.1 w hw).1) ha) (u_lays (ws := lw_tbl) hts (fun w hw => ((okCs c h1 h2).1.1 w hw).1) hd) e1 e1' ?_
      rw [(State.fieldFound?_type e1 ((okCs c h1 h2).1.2.1 a ha).1).1, (State.fieldFound?_type e1' ((okCs c h1 h2).1.2.1 d hd).1).1]
      exact nms c h1 h2 a ha d hd had
  have hGL : GL mY mB mL mT mK exS exZ s ext := by
    refine ⟨hok, fun t h1 h2 => (okCs t h1 h2).1, fun q hq => ?_, fun C n d v hz => ?_, fun C n d x hz => ?_, hmi⟩
    · rw [exS_eq] at hq
      obtain ⟨i, hi, rfl⟩ := List.mem_map.mp hq
      have hi := List.mem_range.mp hi
      have hi2 : (sQ i).2.2 = i := Nat.eq_of_beq_eq_true (List.all_eq_true.mp sQ_i i (List.mem_range.mpr hi))
      rw [hi2]
      refine ⟨by omega, txW (wt (nthD sIx i (0, 0))), ?_⟩
      have hw := List.map_inj_left.mp w_st i (List.mem_range.mpr hi)
      have hE : ext i = (aS i).1 := if_pos hi
      rw [hE]
      exact vk_R.of (hts _ (wt_in hw)) (hS i hi).1
    · simp only [exZ, List.mem_cons, Prod.mk.injEq, List.not_mem_nil, or_false, reduceCtorEq, and_false, false_or, Sum.inl.injEq] at hz
      obtain ⟨rfl, rfl, rfl, rfl⟩ := hz
      exact va_Zof (hts _ (wt_in w_zc.1)) (hts _ (wt_in w_zc.2)) (va_eqi (fl_at hgv fl_6)) hA
    · simp only [exZ, List.mem_cons, Prod.mk.injEq, List.not_mem_nil, or_false, reduceCtorEq, and_false, false_or, Sum.inr.injEq] at hz
      rcases hz with ⟨rfl, rfl, rfl, rfl⟩ | ⟨rfl, rfl, rfl, rfl⟩ | ⟨rfl, rfl, rfl, rfl⟩
      · exact ⟨by omega, Or.inl ⟨by omega, va_Zof (hts _ (wt_in w_zp.1)) (hts _ (wt_in w_zp.2)) hpe hA⟩⟩
      · exact ⟨by omega, Or.inl ⟨by omega, va_Zof (hts _ (wt_in w_ze.1)) (hts _ (wt_in w_ze.2)) hee hA⟩⟩
      · exact ⟨by omega, Or.inr ⟨rfl, rfl, rfl, rfl⟩⟩
  have hcelS : ∀ nl i, i < 28 → Cel D dA ext (h0 L xs nl) i s.heap := by
    intro nl i hi
    have hE : ext i = (aS i).1 := if_pos hi
    have hC : gC (h0 L xs nl) i = 15 := if_pos hi
    have hV : ext (30 + i) = (aS i).2 := by
      show (if 30 + i < 28 then _ else if 30 ≤ 30 + i ∧ 30 + i < 58 then (aS (30 + i - 30)).2 else _) = _
      rw [if_neg (by omega), if_pos (by omega), show 30 + i - 30 = i by omega]
    obtain ⟨cell, q1, q2, q3, -⟩ := (hS i hi).2.1
    obtain ⟨cf1, kf1, fi1, f1, cell1, a1, a2, a3, a4, a5, -⟩ := (hS i hi).2.2.1
    obtain ⟨cf2, kf2, fi2, f2, cell2, b1, b2, b3, b4, b5, -⟩ := (hS i hi).2.2.2.1
    cases q1.symm.trans a3
    cases q1.symm.trans b3
    cases g1c.symm.trans a1
    cases g1v.symm.trans b1
    refine ⟨cell, by rw [hE]; exact q1, a4, q2, fun _ => ?_, fun q => by omega, fun q => by omega, fun q => by omega⟩
    rw [hC]
    refine ⟨?_, fun j hj => ?_⟩
    · show cell.cls = (if (15 : Nat) = 15 then cl0.cls else (dC 15).1)
      rw [if_pos rfl]
      exact Option.some.inj (q3.symm.trans hcS)
    · show cell.slots[(if (15 : Nat) = 15 then (if j = 0 then fv.slot else fc.slot) else (dC 15).2 j)]? = _
      rw [if_pos rfl]
      rcases (show j = 0 ∨ j = 1 from by have : j < 2 := hj; omega) with rfl | rfl
      · have e : gR (h0 L xs nl) (256 * 15 + 0) i = some (30 + i) := if_pos ⟨rfl, hi⟩
        show cell.slots[fv.slot]? = some (va_rf ((gR (h0 L xs nl) (256 * 15 + 0) i).map ext))
        rw [e, b5]
        show some (Value.ref (aS i).2) = some (Value.ref (ext (30 + i)))
        rw [hV]
      · exact a5
  have hHR : ∀ nl, ((nl = 1 ∧ sv = .null) ∨ (¬ nl = 1 ∧ ∃ a, sv = .ref a)) → HR s D dA ext (h0 L xs nl) s.heap := by
    intro nl hnl
    have hcel : ∀ x, gC (h0 L xs nl) x ≠ 0 → x < 100 ∧ Cel D dA ext (h0 L xs nl) x s.heap := by
      intro x hx
      by_cases c1 : x < 28
      · exact ⟨by omega, hcelS nl x c1⟩
      · by_cases c2 : 30 ≤ x ∧ x < 58
        · refine ⟨by omega, ?_⟩
          have hE : ext x = (aS (x - 30)).2 := by
            show (if x < 28 then _ else if 30 ≤ x ∧ x < 58 then _ else _) = _
            rw [if_neg c1, if_pos c2]
          have hC : gC (h0 L xs nl) x = 64 := by
            show (if x < 28 then _ else if 30 ≤ x ∧ x < 58 then _ else _) = _
            rw [if_neg c1, if_pos c2]
          refine cel_arr (t := 64) (N := (bS (x - 30)).length) (by rw [hE]; exact (hS (x - 30) (by omega)).2.2.2.2) (by omega) hC (by omega) (fun cell hc => ?_) (if_pos c2) (fun j hj => ?_)
          · refine Or.inr ⟨by omega, ?_, ?_⟩
            · unfold eK; rw [if_pos (by omega)]
            · show cell.cls = (if 130 ≤ 100 + x ∧ 100 + x < 158 then clsOf s (aS (100 + x - 130)).2 else _)
              rw [if_pos (by omega), show 100 + x - 130 = x - 30 by omega]
              unfold clsOf
              rw [hE] at hc
              rw [hc]
          · show Value.int (if 30 ≤ x ∧ x < 58 then _ else _) = _
            rw [if_pos c2]
        · have hCx : gC (h0 L xs nl) x = (if x = 60 ∨ x = 63 then 60 else if x = 61 then 65 else 0) := by
            show (if x < 28 then _ else if 30 ≤ x ∧ x < 58 then _ else _) = _
            rw [if_neg c1, if_neg c2]
          by_cases c3 : x = 60
          · subst c3
            refine ⟨by omega, cel_arr (t := 60) (N := 63) (f := fun j => .int (nthD pwL j 0)) hpT (by omega) rfl (by omega) (fun cell hc => Or.inr ⟨by omega, rfl, ?_⟩) rfl (fun j hj => rfl)⟩
            show cell.cls = clsOf s pa
            unfold clsOf
            rw [show s.heap[pa]? = some cell from hc]
          · by_cases c4 : x = 63
            · subst c4
              refine ⟨by omega, cel_arr (ty := .int) (t := 60) (N := L) (f := fun j => .int (xs j)) (A := fun q => s.heap.size ≤ q) ⟨cellX, qX1, qX2, qX3, by omega, by rw [qX4], qX5, Nat.not_le.mpr hb⟩ (by omega) rfl (by omega) (fun cell hc => Or.inr ⟨by omega, rfl, ?_⟩) rfl (fun j hj => rfl)⟩
              show cell.cls = clsOf s b
              unfold clsOf
              rw [show s.heap[b]? = some cell from hc]
            · by_cases c5 : x = 61
              · subst c5
                refine ⟨by omega, cel_arr (t := 65) (N := 0) hET (by omega) rfl (by omega) (fun cell hc => Or.inl ?_) rfl (fun j hj => by omega)⟩
                cases hcE.symm.trans (show s.heap[ea]? = some cell from hc)
                rw [hdA 65 (by omega) (by omega), hclE]
                obtain ⟨kA, comp, -, -, -, h8⟩ := (hdK 65 (by omega) (by omega)).2
                exact Option.some.inj (hfE.symm.trans h8)
              · rw [hCx, if_neg (by omega), if_neg c5] at hx
                exact absurd rfl hx
    have hlt : ∀ x, gC (h0 L xs nl) x ≠ 0 → ext x < s.heap.size := fun x hx => by
      obtain ⟨cell, q1, -⟩ := (hcel x hx).2
      exact (Array.getElem?_eq_some_iff.mp q1).1
    refine ⟨Nat.le_refl _, fun q _ => rfl, Nat.le_refl _, fun x y ho hx hy => ?_, hlt, fun x h1 hx => ?_, hcel, fun k x y hx e => ?_, fun x i y hx e => (by cases e), rfl, ?_⟩
    · have := (hcel x hx).1; have := (hcel y hy).1; omega
    · have := (hcel x hx).1; omega
    · have e' : (if k = 3840 ∧ x < 28 then some (30 + x) else none) = some y := e
      split at e'
      · cases e'; show 30 + x < 100; omega
      · cases e'
    · rcases hnl with ⟨h1, h2⟩ | ⟨h1, a, h2⟩
      · exact Or.inl ⟨h1, by rw [h2] at hZs; exact hZs⟩
      · refine Or.inr ⟨h1, ?_⟩
        have hE : ext 64 = a := by
          show svA sv = a
          rw [h2]
          rfl
        rw [hE]
        rw [h2] at hZs
        exact hZs
  cases sv with
  | null => exact ⟨D, dA, ext, 1, hEV, hGL, hHR 1 (Or.inl ⟨rfl, rfl⟩), rfl⟩
  | ref a => exact ⟨D, dA, ext, 0, hEV, hGL, hHR 0 (Or.inr ⟨by omega, a, rfl⟩), rfl⟩
  | _ => cases hsr
end START

