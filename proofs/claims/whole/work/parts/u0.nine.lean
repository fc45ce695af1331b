/-! ===== THE NINE WRAPPERS (made by wip/gen2/genu0.py) ===== -/
section NWR
variable {l : Launch} {z : State} {D : va_G} {dA : Nat → ClassId} {za : Array Value} {ext : Nat → Nat}
theorem okTq_of {y : Nat} (pc : Nat) (q : (cdF y pc).1 ≠ .nop) : okT mY mB mL mT mK exS exZ cdF y := (hcd y).resolve_left fun z => q (z pc)
theorem wm_0 (hl : l.stackTraces = false) (G : GL mY mB mL mT mK exS exZ z ext) (E0 : EV z za D dA) (hU0 : vx_Zq Bundle.tN "UNASSIGNED_STACK" Bundle.steD (fun q => z.heap.size ≤ q) z z.heap) (hN0 : vx_Zq Bundle.tN "SUPPRESSED_SENTINEL" Bundle.listD (fun q => z.heap.size ≤ q) z z.heap) {d : Nat} (hd : 8 ≤ d) (x1 x2 x3 x4 : Int32) {h : AH} {o : Ot} (R : WR d 20 37 false [.ref 100, .int x1, .int x2, .int x3, .int x4] (pdL (arL [.ref 100, .int x1, .int x2, .int x3, .int x4]) (mL 20)) h o) : MetW ⟨"PostRoomLaw", "price", "(LPostRoom;IIII[J)I"⟩ method_3_code 7 [(0, 14, 17, 13)] l z D dA ext (d + 1) [.ref 100, .int x1, .int x2, .int x3, .int x4, .ref 295] h o :=
  wr_met (wd := wd0) (lg := false) (P0 := 37) (pre := [.int x4, .int x3, .int x2, .int x1]) (lo1 := [some (.ref 100), some (.int x1), some (.int x2), some (.int x3), some (.int x4), some (.ref 295), none]) (as := [.ref 100, .int x1, .int x2, .int x3, .int x4, .ref 295]) hl G E0 (by decide +kernel) wdo0 (na := 4) (Nat.le_of_ble_eq_true rfl) (by decide +kernel) rfl (by decide +kernel) ⟨wt_in (q := (7, 106)) rfl, by decide +kernel⟩ (by decide +kernel) (by decide) ⟨wt_in (q := (7, 105)) rfl, by decide +kernel⟩ (wt_in (q := (7, 116)) rfl) (thM_of hl G E0 hU0 hN0 pn_20 (okTq_of 0 (fun w => by cases w)) thF_20) (Nat.le_of_ble_eq_true rfl) rfl (fun d h s => wA_0 s x1 x2 x3 x4 none) (fun d h w s iw => by
    obtain ⟨w, rfl⟩ := iw
    exact (wB_0 s _ _ _ _ _ _ _ _ _).trans (gd_nI (by decide) (by decide))) (fun d h chk s => wU_0 s x1 x2 x3 x4 none) (fun d e h => wH_0 _ _ _ _ _ _ _ _) hd R
noncomputable def fk0 (d : Nat) : Vs → AH → Option Ot
  | [.ref a, .int x1, .int x2, .int x3, .int x4, .ref o], h => bif Nat.beq a 100 && Nat.beq o 295 then fWr d 20 37 false [.ref 100, .int x1, .int x2, .int x3, .int x4] (pdL (arL [.ref 100, .int x1, .int x2, .int x3, .int x4]) (mL 20)) h else none
  | _, _ => none
theorem hwr_0 (hl : l.stackTraces = false) (G : GL mY mB mL mT mK exS exZ z ext) (E0 : EV z za D dA) (hU0 : vx_Zq Bundle.tN "UNASSIGNED_STACK" Bundle.steD (fun q => z.heap.size ≤ q) z z.heap) (hN0 : vx_Zq Bundle.tN "SUPPRESSED_SENTINEL" Bundle.listD (fun q => z.heap.size ≤ q) z z.heap) {d : Nat} (hd : 8 ≤ d) (as : Vs) (h : AH) (o' : Ot) (q : fk0 d as h = some o') : MetW ⟨"PostRoomLaw", "price", "(LPostRoom;IIII[J)I"⟩ method_3_code 7 [(0, 14, 17, 13)] l z D dA ext (d + 1) as h o' := by
  unfold fk0 at q
  split at q
  · rename_i h a x1 x2 x3 x4 o
    cases hb : (Nat.beq a 100 && Nat.beq o 295) with
    | false => rw [hb] at q; cases q
    | true =>
      rw [hb] at q
      rw [Bool.and_eq_true] at hb
      obtain rfl := Nat.eq_of_beq_eq_true hb.1
      obtain rfl := Nat.eq_of_beq_eq_true hb.2
      exact wm_0 hl G E0 hU0 hN0 hd x1 x2 x3 x4 (fWr_of q)
  · cases q
theorem wm_1 (hl : l.stackTraces = false) (G : GL mY mB mL mT mK exS exZ z ext) (E0 : EV z za D dA) (hU0 : vx_Zq Bundle.tN "UNASSIGNED_STACK" Bundle.steD (fun q => z.heap.size ≤ q) z z.heap) (hN0 : vx_Zq Bundle.tN "SUPPRESSED_SENTINEL" Bundle.listD (fun q => z.heap.size ≤ q) z z.heap) {d : Nat} (hd : 8 ≤ d) (x1 x2 : Int32) {h : AH} {o : Ot} (R : WR d 21 28 false [.ref 100, .int x1, .int x2] (pdL (arL [.ref 100, .int x1, .int x2]) (mL 21)) h o) : MetW ⟨"PostRoomLaw", "way", "(LPostRoom;II[J)I"⟩ method_4_code 5 [(0, 10, 13, 13)] l z D dA ext (d + 1) [.ref 100, .int x1, .int x2, .ref 295] h o :=
  wr_met (wd := wd1) (lg := false) (P0 := 28) (pre := [.int x2, .int x1]) (lo1 := [some (.ref 100), some (.int x1), some (.int x2), some (.ref 295), none]) (as := [.ref 100, .int x1, .int x2, .ref 295]) hl G E0 (by decide +kernel) wdo1 (na := 2) (Nat.le_of_ble_eq_true rfl) (by decide +kernel) rfl (by decide +kernel) ⟨wt_in (q := (7, 212)) rfl, by decide +kernel⟩ (by decide +kernel) (by decide) ⟨wt_in (q := (7, 105)) rfl, by decide +kernel⟩ (wt_in (q := (7, 116)) rfl) (thM_of hl G E0 hU0 hN0 pn_21 (okTq_of 0 (fun w => by cases w)) thF_21) (Nat.le_of_ble_eq_true rfl) rfl (fun d h s => wA_1 s x1 x2 none) (fun d h w s iw => by
    obtain ⟨w, rfl⟩ := iw
    exact (wB_1 s _ _ _ _ _ _ _).trans (gd_nI (by decide) (by decide))) (fun d h chk s => wU_1 s x1 x2 none) (fun d e h => wH_1 _ _ _ _ _ _) hd R
noncomputable def fk1 (d : Nat) : Vs → AH → Option Ot
  | [.ref a, .int x1, .int x2, .ref o], h => bif Nat.beq a 100 && Nat.beq o 295 then fWr d 21 28 false [.ref 100, .int x1, .int x2] (pdL (arL [.ref 100, .int x1, .int x2]) (mL 21)) h else none
  | _, _ => none
theorem hwr_1 (hl : l.stackTraces = false) (G : GL mY mB mL mT mK exS exZ z ext) (E0 : EV z za D dA) (hU0 : vx_Zq Bundle.tN "UNASSIGNED_STACK" Bundle.steD (fun q => z.heap.size ≤ q) z z.heap) (hN0 : vx_Zq Bundle.tN "SUPPRESSED_SENTINEL" Bundle.listD (fun q => z.heap.size ≤ q) z z.heap) {d : Nat} (hd : 8 ≤ d) (as : Vs) (h : AH) (o' : Ot) (q : fk1 d as h = some o') : MetW ⟨"PostRoomLaw", "way", "(LPostRoom;II[J)I"⟩ method_4_code 5 [(0, 10, 13, 13)] l z D dA ext (d + 1) as h o' := by
  unfold fk1 at q
  split at q
  · rename_i h a x1 x2 o
    cases hb : (Nat.beq a 100 && Nat.beq o 295) with
    | false => rw [hb] at q; cases q
    | true =>
      rw [hb] at q
      rw [Bool.and_eq_true] at hb
      obtain rfl := Nat.eq_of_beq_eq_true hb.1
      obtain rfl := Nat.eq_of_beq_eq_true hb.2
      exact wm_1 hl G E0 hU0 hN0 hd x1 x2 (fWr_of q)
  · cases q
theorem wm_2 (hl : l.stackTraces = false) (G : GL mY mB mL mT mK exS exZ z ext) (E0 : EV z za D dA) (hU0 : vx_Zq Bundle.tN "UNASSIGNED_STACK" Bundle.steD (fun q => z.heap.size ≤ q) z z.heap) (hN0 : vx_Zq Bundle.tN "SUPPRESSED_SENTINEL" Bundle.listD (fun q => z.heap.size ≤ q) z z.heap) {d : Nat} (hd : 8 ≤ d) (x1 x2 x3 : Int32) {h : AH} {o : Ot} (R : WR d 22 33 false [.ref 100, .int x1, .int x2, .int x3] (pdL (arL [.ref 100, .int x1, .int x2, .int x3]) (mL 22)) h o) : MetW ⟨"PostRoomLaw", "accept", "(LPostRoom;III[J)I"⟩ method_5_code 6 [(0, 12, 15, 13)] l z D dA ext (d + 1) [.ref 100, .int x1, .int x2, .int x3, .ref 295] h o :=
  wr_met (wd := wd2) (lg := false) (P0 := 33) (pre := [.int x3, .int x2, .int x1]) (lo1 := [some (.ref 100), some (.int x1), some (.int x2), some (.int x3), some (.ref 295), none]) (as := [.ref 100, .int x1, .int x2, .int x3, .ref 295]) hl G E0 (by decide +kernel) wdo2 (na := 3) (Nat.le_of_ble_eq_true rfl) (by decide +kernel) rfl (by decide +kernel) ⟨wt_in (q := (7, 224)) rfl, by decide +kernel⟩ (by decide +kernel) (by decide) ⟨wt_in (q := (7, 105)) rfl, by decide +kernel⟩ (wt_in (q := (7, 116)) rfl) (thM_of hl G E0 hU0 hN0 pn_22 (okTq_of 0 (fun w => by cases w)) thF_22) (Nat.le_of_ble_eq_true rfl) rfl (fun d h s => wA_2 s x1 x2 x3 none) (fun d h w s iw => by
    obtain ⟨w, rfl⟩ := iw
    exact (wB_2 s _ _ _ _ _ _ _ _).trans (gd_nI (by decide) (by decide))) (fun d h chk s => wU_2 s x1 x2 x3 none) (fun d e h => wH_2 _ _ _ _ _ _ _) hd R
noncomputable def fk2 (d : Nat) : Vs → AH → Option Ot
  | [.ref a, .int x1, .int x2, .int x3, .ref o], h => bif Nat.beq a 100 && Nat.beq o 295 then fWr d 22 33 false [.ref 100, .int x1, .int x2, .int x3] (pdL (arL [.ref 100, .int x1, .int x2, .int x3]) (mL 22)) h else none
  | _, _ => none
theorem hwr_2 (hl : l.stackTraces = false) (G : GL mY mB mL mT mK exS exZ z ext) (E0 : EV z za D dA) (hU0 : vx_Zq Bundle.tN "UNASSIGNED_STACK" Bundle.steD (fun q => z.heap.size ≤ q) z z.heap) (hN0 : vx_Zq Bundle.tN "SUPPRESSED_SENTINEL" Bundle.listD (fun q => z.heap.size ≤ q) z z.heap) {d : Nat} (hd : 8 ≤ d) (as : Vs) (h : AH) (o' : Ot) (q : fk2 d as h = some o') : MetW ⟨"PostRoomLaw", "accept", "(LPostRoom;III[J)I"⟩ method_5_code 6 [(0, 12, 15, 13)] l z D dA ext (d + 1) as h o' := by
  unfold fk2 at q
  split at q
  · rename_i h a x1 x2 x3 o
    cases hb : (Nat.beq a 100 && Nat.beq o 295) with
    | false => rw [hb] at q; cases q
    | true =>
      rw [hb] at q
      rw [Bool.and_eq_true] at hb
      obtain rfl := Nat.eq_of_beq_eq_true hb.1
      obtain rfl := Nat.eq_of_beq_eq_true hb.2
      exact wm_2 hl G E0 hU0 hN0 hd x1 x2 x3 (fWr_of q)
  · cases q
theorem wm_3 (hl : l.stackTraces = false) (G : GL mY mB mL mT mK exS exZ z ext) (E0 : EV z za D dA) (hU0 : vx_Zq Bundle.tN "UNASSIGNED_STACK" Bundle.steD (fun q => z.heap.size ≤ q) z z.heap) (hN0 : vx_Zq Bundle.tN "SUPPRESSED_SENTINEL" Bundle.listD (fun q => z.heap.size ≤ q) z z.heap) {d : Nat} (hd : 8 ≤ d) (x1 x2 : Int32) {h : AH} {o : Ot} (R : WR d 23 21 false [.ref 100, .int x1, .int x2] (pdL (arL [.ref 100, .int x1, .int x2]) (mL 23)) h o) : MetW ⟨"PostRoomLaw", "bar", "(LPostRoom;II[J)I"⟩ method_6_code 5 [(0, 10, 13, 26)] l z D dA ext (d + 1) [.ref 100, .int x1, .int x2, .ref 295] h o :=
  wr_met (wd := wd3) (lg := false) (P0 := 21) (pre := [.int x2, .int x1]) (lo1 := [some (.ref 100), some (.int x1), some (.int x2), some (.ref 295), none]) (as := [.ref 100, .int x1, .int x2, .ref 295]) hl G E0 (by decide +kernel) wdo3 (na := 2) (Nat.le_of_ble_eq_true rfl) (by decide +kernel) rfl (by decide +kernel) ⟨wt_in (q := (8, 72)) rfl, by decide +kernel⟩ (by decide +kernel) (by decide) ⟨wt_in (q := (8, 71)) rfl, by decide +kernel⟩ (wt_in (q := (8, 82)) rfl) (thM_n hl G E0 hU0 hN0 pn_23 (okTq_of 0 (fun w => by cases w)) nxF_23) (Nat.le_of_ble_eq_true rfl) rfl (fun d h s => wA_3 s x1 x2 none) (fun d h w s iw => by
    obtain ⟨w, rfl⟩ := iw
    exact (wB_3 s _ _ _ _ _ _ _).trans (gd_nI (by decide) (by decide))) (fun d h chk s => wU_3 s x1 x2 none) (fun d e h => wH_3 _ _ _ _ _ _) hd R
noncomputable def fk3 (d : Nat) : Vs → AH → Option Ot
  | [.ref a, .int x1, .int x2, .ref o], h => bif Nat.beq a 100 && Nat.beq o 295 then fWr d 23 21 false [.ref 100, .int x1, .int x2] (pdL (arL [.ref 100, .int x1, .int x2]) (mL 23)) h else none
  | _, _ => none
theorem hwr_3 (hl : l.stackTraces = false) (G : GL mY mB mL mT mK exS exZ z ext) (E0 : EV z za D dA) (hU0 : vx_Zq Bundle.tN "UNASSIGNED_STACK" Bundle.steD (fun q => z.heap.size ≤ q) z z.heap) (hN0 : vx_Zq Bundle.tN "SUPPRESSED_SENTINEL" Bundle.listD (fun q => z.heap.size ≤ q) z z.heap) {d : Nat} (hd : 8 ≤ d) (as : Vs) (h : AH) (o' : Ot) (q : fk3 d as h = some o') : MetW ⟨"PostRoomLaw", "bar", "(LPostRoom;II[J)I"⟩ method_6_code 5 [(0, 10, 13, 26)] l z D dA ext (d + 1) as h o' := by
  unfold fk3 at q
  split at q
  · rename_i h a x1 x2 o
    cases hb : (Nat.beq a 100 && Nat.beq o 295) with
    | false => rw [hb] at q; cases q
    | true =>
      rw [hb] at q
      rw [Bool.and_eq_true] at hb
      obtain rfl := Nat.eq_of_beq_eq_true hb.1
      obtain rfl := Nat.eq_of_beq_eq_true hb.2
      exact wm_3 hl G E0 hU0 hN0 hd x1 x2 (fWr_of q)
  · cases q
theorem wm_4 (hl : l.stackTraces = false) (G : GL mY mB mL mT mK exS exZ z ext) (E0 : EV z za D dA) (hU0 : vx_Zq Bundle.tN "UNASSIGNED_STACK" Bundle.steD (fun q => z.heap.size ≤ q) z z.heap) (hN0 : vx_Zq Bundle.tN "SUPPRESSED_SENTINEL" Bundle.listD (fun q => z.heap.size ≤ q) z z.heap) {d : Nat} (hd : 8 ≤ d) (x1 : Int32) {h : AH} {o : Ot} (R : WR d 24 16 true [.ref 100, .int x1] (pdL (arL [.ref 100, .int x1]) (mL 24)) h o) : MetW ⟨"PostRoomLaw", "number", "(LPostRoom;I[J)I"⟩ method_7_code 4 [(0, 8, 11, 32)] l z D dA ext (d + 1) [.ref 100, .int x1, .ref 295] h o :=
  wr_met (wd := wd4) (lg := true) (P0 := 16) (pre := [.int x1]) (lo1 := [some (.ref 100), some (.int x1), some (.ref 295), none]) (as := [.ref 100, .int x1, .ref 295]) hl G E0 (by decide +kernel) wdo4 (na := 1) (Nat.le_of_ble_eq_true rfl) (by decide +kernel) rfl (by decide +kernel) ⟨wt_in (q := (8, 100)) rfl, by decide +kernel⟩ (by decide +kernel) (by decide) ⟨wt_in (q := (8, 99)) rfl, by decide +kernel⟩ (wt_in (q := (8, 106)) rfl) (thM_of hl G E0 hU0 hN0 pn_24 (okTq_of 0 (fun w => by cases w)) thF_24) (Nat.le_of_ble_eq_true rfl) rfl (fun d h s => wA_4 s x1 none) (fun d h w s iw => by
    obtain ⟨w, rfl⟩ := iw
    exact (wB_4 s _ _ _ _ _ _).trans (gd_nI (by decide) (by decide))) (fun d h chk s => wU_4 s x1 none) (fun d e h => wH_4 _ _ _ _ _) hd R
noncomputable def fk4 (d : Nat) : Vs → AH → Option Ot
  | [.ref a, .int x1, .ref o], h => bif Nat.beq a 100 && Nat.beq o 295 then fWr d 24 16 true [.ref 100, .int x1] (pdL (arL [.ref 100, .int x1]) (mL 24)) h else none
  | _, _ => none
theorem hwr_4 (hl : l.stackTraces = false) (G : GL mY mB mL mT mK exS exZ z ext) (E0 : EV z za D dA) (hU0 : vx_Zq Bundle.tN "UNASSIGNED_STACK" Bundle.steD (fun q => z.heap.size ≤ q) z z.heap) (hN0 : vx_Zq Bundle.tN "SUPPRESSED_SENTINEL" Bundle.listD (fun q => z.heap.size ≤ q) z z.heap) {d : Nat} (hd : 8 ≤ d) (as : Vs) (h : AH) (o' : Ot) (q : fk4 d as h = some o') : MetW ⟨"PostRoomLaw", "number", "(LPostRoom;I[J)I"⟩ method_7_code 4 [(0, 8, 11, 32)] l z D dA ext (d + 1) as h o' := by
  unfold fk4 at q
  split at q
  · rename_i h a x1 o
    cases hb : (Nat.beq a 100 && Nat.beq o 295) with
    | false => rw [hb] at q; cases q
    | true =>
      rw [hb] at q
      rw [Bool.and_eq_true] at hb
      obtain rfl := Nat.eq_of_beq_eq_true hb.1
      obtain rfl := Nat.eq_of_beq_eq_true hb.2
      exact wm_4 hl G E0 hU0 hN0 hd x1 (fWr_of q)
  · cases q
theorem wm_5 (hl : l.stackTraces = false) (G : GL mY mB mL mT mK exS exZ z ext) (E0 : EV z za D dA) (hU0 : vx_Zq Bundle.tN "UNASSIGNED_STACK" Bundle.steD (fun q => z.heap.size ≤ q) z z.heap) (hN0 : vx_Zq Bundle.tN "SUPPRESSED_SENTINEL" Bundle.listD (fun q => z.heap.size ≤ q) z z.heap) {d : Nat} (hd : 8 ≤ d) (x1 : Int32) {h : AH} {o : Ot} (R : WR d 25 16 false [.ref 100, .int x1] (pdL (arL [.ref 100, .int x1]) (mL 25)) h o) : MetW ⟨"PostRoomLaw", "held", "(LPostRoom;I[J)I"⟩ method_8_code 4 [(0, 9, 12, 32)] l z D dA ext (d + 1) [.ref 100, .int x1, .ref 295] h o :=
  wr_met (wd := wd5) (lg := false) (P0 := 16) (pre := [.int x1]) (lo1 := [some (.ref 100), some (.int x1), some (.ref 295), none]) (as := [.ref 100, .int x1, .ref 295]) hl G E0 (by decide +kernel) wdo5 (na := 1) (Nat.le_of_ble_eq_true rfl) (by decide +kernel) rfl (by decide +kernel) ⟨wt_in (q := (8, 123)) rfl, by decide +kernel⟩ (by decide +kernel) (by decide) ⟨wt_in (q := (8, 99)) rfl, by decide +kernel⟩ (wt_in (q := (8, 106)) rfl) (thM_of hl G E0 hU0 hN0 pn_25 (okTq_of 0 (fun w => by cases w)) thF_25) (Nat.le_of_ble_eq_true rfl) rfl (fun d h s => wA_5 s x1 none) (fun d h w s iw => by
    obtain ⟨w, rfl⟩ := iw
    exact (wB_5 s _ _ _ _ _ _).trans (gd_nI (by decide) (by decide))) (fun d h chk s => wU_5 s x1 none) (fun d e h => wH_5 _ _ _ _ _) hd R
noncomputable def fk5 (d : Nat) : Vs → AH → Option Ot
  | [.ref a, .int x1, .ref o], h => bif Nat.beq a 100 && Nat.beq o 295 then fWr d 25 16 false [.ref 100, .int x1] (pdL (arL [.ref 100, .int x1]) (mL 25)) h else none
  | _, _ => none
theorem hwr_5 (hl : l.stackTraces = false) (G : GL mY mB mL mT mK exS exZ z ext) (E0 : EV z za D dA) (hU0 : vx_Zq Bundle.tN "UNASSIGNED_STACK" Bundle.steD (fun q => z.heap.size ≤ q) z z.heap) (hN0 : vx_Zq Bundle.tN "SUPPRESSED_SENTINEL" Bundle.listD (fun q => z.heap.size ≤ q) z z.heap) {d : Nat} (hd : 8 ≤ d) (as : Vs) (h : AH) (o' : Ot) (q : fk5 d as h = some o') : MetW ⟨"PostRoomLaw", "held", "(LPostRoom;I[J)I"⟩ method_8_code 4 [(0, 9, 12, 32)] l z D dA ext (d + 1) as h o' := by
  unfold fk5 at q
  split at q
  · rename_i h a x1 o
    cases hb : (Nat.beq a 100 && Nat.beq o 295) with
    | false => rw [hb] at q; cases q
    | true =>
      rw [hb] at q
      rw [Bool.and_eq_true] at hb
      obtain rfl := Nat.eq_of_beq_eq_true hb.1
      obtain rfl := Nat.eq_of_beq_eq_true hb.2
      exact wm_5 hl G E0 hU0 hN0 hd x1 (fWr_of q)
  · cases q
theorem wm_6 (hl : l.stackTraces = false) (G : GL mY mB mL mT mK exS exZ z ext) (E0 : EV z za D dA) (hU0 : vx_Zq Bundle.tN "UNASSIGNED_STACK" Bundle.steD (fun q => z.heap.size ≤ q) z z.heap) (hN0 : vx_Zq Bundle.tN "SUPPRESSED_SENTINEL" Bundle.listD (fun q => z.heap.size ≤ q) z z.heap) {d : Nat} (hd : 8 ≤ d) (x1 x2 : Int32) {h : AH} {o : Ot} (R : WR d 26 10 false [.ref 100, .int x1, .int x2] (pdL (arL [.ref 100, .int x1, .int x2]) (mL 26)) h o) : MetW ⟨"PostRoomLaw", "tray", "(LPostRoom;II[J)I"⟩ method_9_code 5 [(0, 10, 13, 32)] l z D dA ext (d + 1) [.ref 100, .int x1, .int x2, .ref 295] h o :=
  wr_met (wd := wd6) (lg := false) (P0 := 10) (pre := [.int x2, .int x1]) (lo1 := [some (.ref 100), some (.int x1), some (.int x2), some (.ref 295), none]) (as := [.ref 100, .int x1, .int x2, .ref 295]) hl G E0 (by decide +kernel) wdo6 (na := 2) (Nat.le_of_ble_eq_true rfl) (by decide +kernel) rfl (by decide +kernel) ⟨wt_in (q := (8, 131)) rfl, by decide +kernel⟩ (by decide +kernel) (by decide) ⟨wt_in (q := (8, 99)) rfl, by decide +kernel⟩ (wt_in (q := (8, 106)) rfl) (thM_of hl G E0 hU0 hN0 pn_26 (okTq_of 0 (fun w => by cases w)) thF_26) (Nat.le_of_ble_eq_true rfl) rfl (fun d h s => wA_6 s x1 x2 none) (fun d h w s iw => by
    obtain ⟨w, rfl⟩ := iw
    exact (wB_6 s _ _ _ _ _ _ _).trans (gd_nI (by decide) (by decide))) (fun d h chk s => wU_6 s x1 x2 none) (fun d e h => wH_6 _ _ _ _ _ _) hd R
noncomputable def fk6 (d : Nat) : Vs → AH → Option Ot
  | [.ref a, .int x1, .int x2, .ref o], h => bif Nat.beq a 100 && Nat.beq o 295 then fWr d 26 10 false [.ref 100, .int x1, .int x2] (pdL (arL [.ref 100, .int x1, .int x2]) (mL 26)) h else none
  | _, _ => none
theorem hwr_6 (hl : l.stackTraces = false) (G : GL mY mB mL mT mK exS exZ z ext) (E0 : EV z za D dA) (hU0 : vx_Zq Bundle.tN "UNASSIGNED_STACK" Bundle.steD (fun q => z.heap.size ≤ q) z z.heap) (hN0 : vx_Zq Bundle.tN "SUPPRESSED_SENTINEL" Bundle.listD (fun q => z.heap.size ≤ q) z z.heap) {d : Nat} (hd : 8 ≤ d) (as : Vs) (h : AH) (o' : Ot) (q : fk6 d as h = some o') : MetW ⟨"PostRoomLaw", "tray", "(LPostRoom;II[J)I"⟩ method_9_code 5 [(0, 10, 13, 32)] l z D dA ext (d + 1) as h o' := by
  unfold fk6 at q
  split at q
  · rename_i h a x1 x2 o
    cases hb : (Nat.beq a 100 && Nat.beq o 295) with
    | false => rw [hb] at q; cases q
    | true =>
      rw [hb] at q
      rw [Bool.and_eq_true] at hb
      obtain rfl := Nat.eq_of_beq_eq_true hb.1
      obtain rfl := Nat.eq_of_beq_eq_true hb.2
      exact wm_6 hl G E0 hU0 hN0 hd x1 x2 (fWr_of q)
  · cases q
theorem wm_7 (hl : l.stackTraces = false) (G : GL mY mB mL mT mK exS exZ z ext) (E0 : EV z za D dA) (hU0 : vx_Zq Bundle.tN "UNASSIGNED_STACK" Bundle.steD (fun q => z.heap.size ≤ q) z z.heap) (hN0 : vx_Zq Bundle.tN "SUPPRESSED_SENTINEL" Bundle.listD (fun q => z.heap.size ≤ q) z z.heap) {d : Nat} (hd : 8 ≤ d) (x1 x2 : Int32) {h : AH} {o : Ot} (R : WR d 27 39 true [.ref 100, .int x1, .int x2] (pdL (arL [.ref 100, .int x1, .int x2]) (mL 27)) h o) : MetW ⟨"PostRoomLaw", "place", "(LPostRoom;II[J)I"⟩ method_10_code 5 [(0, 9, 12, 26)] l z D dA ext (d + 1) [.ref 100, .int x1, .int x2, .ref 295] h o :=
  wr_met (wd := wd7) (lg := true) (P0 := 39) (pre := [.int x2, .int x1]) (lo1 := [some (.ref 100), some (.int x1), some (.int x2), some (.ref 295), none]) (as := [.ref 100, .int x1, .int x2, .ref 295]) hl G E0 (by decide +kernel) wdo7 (na := 2) (Nat.le_of_ble_eq_true rfl) (by decide +kernel) rfl (by decide +kernel) ⟨wt_in (q := (8, 143)) rfl, by decide +kernel⟩ (by decide +kernel) (by decide) ⟨wt_in (q := (8, 71)) rfl, by decide +kernel⟩ (wt_in (q := (8, 82)) rfl) (thM_n hl G E0 hU0 hN0 pn_27 (okTq_of 0 (fun w => by cases w)) nxF_27) (Nat.le_of_ble_eq_true rfl) rfl (fun d h s => wA_7 s x1 x2 none) (fun d h w s iw => by
    obtain ⟨w, rfl⟩ := iw
    exact (wB_7 s _ _ _ _ _ _ _).trans (gd_nI (by decide) (by decide))) (fun d h chk s => wU_7 s x1 x2 none) (fun d e h => wH_7 _ _ _ _ _ _) hd R
noncomputable def fk7 (d : Nat) : Vs → AH → Option Ot
  | [.ref a, .int x1, .int x2, .ref o], h => bif Nat.beq a 100 && Nat.beq o 295 then fWr d 27 39 true [.ref 100, .int x1, .int x2] (pdL (arL [.ref 100, .int x1, .int x2]) (mL 27)) h else none
  | _, _ => none
theorem hwr_7 (hl : l.stackTraces = false) (G : GL mY mB mL mT mK exS exZ z ext) (E0 : EV z za D dA) (hU0 : vx_Zq Bundle.tN "UNASSIGNED_STACK" Bundle.steD (fun q => z.heap.size ≤ q) z z.heap) (hN0 : vx_Zq Bundle.tN "SUPPRESSED_SENTINEL" Bundle.listD (fun q => z.heap.size ≤ q) z z.heap) {d : Nat} (hd : 8 ≤ d) (as : Vs) (h : AH) (o' : Ot) (q : fk7 d as h = some o') : MetW ⟨"PostRoomLaw", "place", "(LPostRoom;II[J)I"⟩ method_10_code 5 [(0, 9, 12, 26)] l z D dA ext (d + 1) as h o' := by
  unfold fk7 at q
  split at q
  · rename_i h a x1 x2 o
    cases hb : (Nat.beq a 100 && Nat.beq o 295) with
    | false => rw [hb] at q; cases q
    | true =>
      rw [hb] at q
      rw [Bool.and_eq_true] at hb
      obtain rfl := Nat.eq_of_beq_eq_true hb.1
      obtain rfl := Nat.eq_of_beq_eq_true hb.2
      exact wm_7 hl G E0 hU0 hN0 hd x1 x2 (fWr_of q)
  · cases q
theorem wm_8 (hl : l.stackTraces = false) (G : GL mY mB mL mT mK exS exZ z ext) (E0 : EV z za D dA) (hU0 : vx_Zq Bundle.tN "UNASSIGNED_STACK" Bundle.steD (fun q => z.heap.size ≤ q) z z.heap) (hN0 : vx_Zq Bundle.tN "SUPPRESSED_SENTINEL" Bundle.listD (fun q => z.heap.size ≤ q) z z.heap) {d : Nat} (hd : 8 ≤ d) (x1 x2 : Int32) {h : AH} {o : Ot} (R : WR d 28 21 false [.ref 100, .int x1, .int x2] (pdL (arL [.ref 100, .int x1, .int x2]) (mL 28)) h o) : MetW ⟨"PostRoomLaw", "item", "(LPostRoom;II[J)I"⟩ method_11_code 5 [(0, 10, 13, 26)] l z D dA ext (d + 1) [.ref 100, .int x1, .int x2, .ref 295] h o :=
  wr_met (wd := wd8) (lg := false) (P0 := 21) (pre := [.int x2, .int x1]) (lo1 := [some (.ref 100), some (.int x1), some (.int x2), some (.ref 295), none]) (as := [.ref 100, .int x1, .int x2, .ref 295]) hl G E0 (by decide +kernel) wdo8 (na := 2) (Nat.le_of_ble_eq_true rfl) (by decide +kernel) rfl (by decide +kernel) ⟨wt_in (q := (8, 151)) rfl, by decide +kernel⟩ (by decide +kernel) (by decide) ⟨wt_in (q := (8, 71)) rfl, by decide +kernel⟩ (wt_in (q := (8, 82)) rfl) (thM_n hl G E0 hU0 hN0 pn_28 (okTq_of 0 (fun w => by cases w)) nxF_28) (Nat.le_of_ble_eq_true rfl) rfl (fun d h s => wA_8 s x1 x2 none) (fun d h w s iw => by
    obtain ⟨w, rfl⟩ := iw
    exact (wB_8 s _ _ _ _ _ _ _).trans (gd_nI (by decide) (by decide))) (fun d h chk s => wU_8 s x1 x2 none) (fun d e h => wH_8 _ _ _ _ _ _) hd R
noncomputable def fk8 (d : Nat) : Vs → AH → Option Ot
  | [.ref a, .int x1, .int x2, .ref o], h => bif Nat.beq a 100 && Nat.beq o 295 then fWr d 28 21 false [.ref 100, .int x1, .int x2] (pdL (arL [.ref 100, .int x1, .int x2]) (mL 28)) h else none
  | _, _ => none
theorem hwr_8 (hl : l.stackTraces = false) (G : GL mY mB mL mT mK exS exZ z ext) (E0 : EV z za D dA) (hU0 : vx_Zq Bundle.tN "UNASSIGNED_STACK" Bundle.steD (fun q => z.heap.size ≤ q) z z.heap) (hN0 : vx_Zq Bundle.tN "SUPPRESSED_SENTINEL" Bundle.listD (fun q => z.heap.size ≤ q) z z.heap) {d : Nat} (hd : 8 ≤ d) (as : Vs) (h : AH) (o' : Ot) (q : fk8 d as h = some o') : MetW ⟨"PostRoomLaw", "item", "(LPostRoom;II[J)I"⟩ method_11_code 5 [(0, 10, 13, 26)] l z D dA ext (d + 1) as h o' := by
  unfold fk8 at q
  split at q
  · rename_i h a x1 x2 o
    cases hb : (Nat.beq a 100 && Nat.beq o 295) with
    | false => rw [hb] at q; cases q
    | true =>
      rw [hb] at q
      rw [Bool.and_eq_true] at hb
      obtain rfl := Nat.eq_of_beq_eq_true hb.1
      obtain rfl := Nat.eq_of_beq_eq_true hb.2
      exact wm_8 hl G E0 hU0 hN0 hd x1 x2 (fWr_of q)
  · cases q
noncomputable def wcf (d pc : Nat) : Option (Nat × (Vs → AH → Option Ot)) := if pc = 380 then some (6, fk0 d) else if pc = 460 then some (4, fk1 d) else if pc = 534 then some (5, fk2 d) else if pc = 608 then some (4, fk3 d) else if pc = 907 then some (3, fk4 d) else if pc = 962 then some (3, fk5 d) else if pc = 1024 then some (4, fk6 d) else if pc = 1092 then some (4, fk7 d) else if pc = 1159 then some (4, fk8 d) else none
theorem wcf_n {d p : Nat} (hw : wcut p = false) : wcf d p = none := by
  have nq : ∀ c, wcut c = true → p ≠ c := fun c e z => by rw [z, e] at hw; cases hw
  unfold wcf
  rw [if_neg (nq 380 rfl), if_neg (nq 460 rfl), if_neg (nq 534 rfl), if_neg (nq 608 rfl), if_neg (nq 907 rfl), if_neg (nq 962 rfl), if_neg (nq 1024 rfl), if_neg (nq 1092 rfl), if_neg (nq 1159 rfl)]
theorem wcf_0 {d : Nat} : wcf d 380 = some (6, fk0 d) := by
  unfold wcf
  rw [if_pos rfl]
theorem wcf_1 {d : Nat} : wcf d 460 = some (4, fk1 d) := by
  unfold wcf
  rw [if_neg (by decide), if_pos rfl]
theorem wcf_2 {d : Nat} : wcf d 534 = some (5, fk2 d) := by
  unfold wcf
  rw [if_neg (by decide), if_neg (by decide), if_pos rfl]
theorem wcf_3 {d : Nat} : wcf d 608 = some (4, fk3 d) := by
  unfold wcf
  rw [if_neg (by decide), if_neg (by decide), if_neg (by decide), if_pos rfl]
theorem wcf_4 {d : Nat} : wcf d 907 = some (3, fk4 d) := by
  unfold wcf
  rw [if_neg (by decide), if_neg (by decide), if_neg (by decide), if_neg (by decide), if_pos rfl]
theorem wcf_5 {d : Nat} : wcf d 962 = some (3, fk5 d) := by
  unfold wcf
  rw [if_neg (by decide), if_neg (by decide), if_neg (by decide), if_neg (by decide), if_neg (by decide), if_pos rfl]
theorem wcf_6 {d : Nat} : wcf d 1024 = some (4, fk6 d) := by
  unfold wcf
  rw [if_neg (by decide), if_neg (by decide), if_neg (by decide), if_neg (by decide), if_neg (by decide), if_neg (by decide), if_pos rfl]
theorem wcf_7 {d : Nat} : wcf d 1092 = some (4, fk7 d) := by
  unfold wcf
  rw [if_neg (by decide), if_neg (by decide), if_neg (by decide), if_neg (by decide), if_neg (by decide), if_neg (by decide), if_neg (by decide), if_pos rfl]
theorem wcf_8 {d : Nat} : wcf d 1159 = some (4, fk8 d) := by
  unfold wcf
  rw [if_neg (by decide), if_neg (by decide), if_neg (by decide), if_neg (by decide), if_neg (by decide), if_neg (by decide), if_neg (by decide), if_neg (by decide), if_pos rfl]
theorem wcf_ok (hl : l.stackTraces = false) (G : GL mY mB mL mT mK exS exZ z ext) (E0 : EV z za D dA) (hU0 : vx_Zq Bundle.tN "UNASSIGNED_STACK" Bundle.steD (fun q => z.heap.size ≤ q) z z.heap) (hN0 : vx_Zq Bundle.tN "SUPPRESSED_SENTINEL" Bundle.listD (fun q => z.heap.size ≤ q) z z.heap) {d : Nat} (hd : 8 ≤ d) (pc na : Nat) (f : Vs → AH → Option Ot) (q : wcf d pc = some (na, f)) : ∃ y wcc wL hh idx, wrF y wcc wL hh R_law code pc idx na ∧ ∀ as h o', f as h = some o' → MetW y wcc wL hh l z D dA ext (d + 1) as h o' := by
  unfold wcf at q
  by_cases e : pc = 380
  · subst e
    rw [if_pos rfl] at q
    cases q
    exact ⟨_, _, _, _, _, wrF_0, hwr_0 hl G E0 hU0 hN0 hd⟩
  rw [if_neg e] at q
  clear e
  by_cases e : pc = 460
  · subst e
    rw [if_pos rfl] at q
    cases q
    exact ⟨_, _, _, _, _, wrF_1, hwr_1 hl G E0 hU0 hN0 hd⟩
  rw [if_neg e] at q
  clear e
  by_cases e : pc = 534
  · subst e
    rw [if_pos rfl] at q
    cases q
    exact ⟨_, _, _, _, _, wrF_2, hwr_2 hl G E0 hU0 hN0 hd⟩
  rw [if_neg e] at q
  clear e
  by_cases e : pc = 608
  · subst e
    rw [if_pos rfl] at q
    cases q
    exact ⟨_, _, _, _, _, wrF_3, hwr_3 hl G E0 hU0 hN0 hd⟩
  rw [if_neg e] at q
  clear e
  by_cases e : pc = 907
  · subst e
    rw [if_pos rfl] at q
    cases q
    exact ⟨_, _, _, _, _, wrF_4, hwr_4 hl G E0 hU0 hN0 hd⟩
  rw [if_neg e] at q
  clear e
  by_cases e : pc = 962
  · subst e
    rw [if_pos rfl] at q
    cases q
    exact ⟨_, _, _, _, _, wrF_5, hwr_5 hl G E0 hU0 hN0 hd⟩
  rw [if_neg e] at q
  clear e
  by_cases e : pc = 1024
  · subst e
    rw [if_pos rfl] at q
    cases q
    exact ⟨_, _, _, _, _, wrF_6, hwr_6 hl G E0 hU0 hN0 hd⟩
  rw [if_neg e] at q
  clear e
  by_cases e : pc = 1092
  · subst e
    rw [if_pos rfl] at q
    cases q
    exact ⟨_, _, _, _, _, wrF_7, hwr_7 hl G E0 hU0 hN0 hd⟩
  rw [if_neg e] at q
  clear e
  by_cases e : pc = 1159
  · subst e
    rw [if_pos rfl] at q
    cases q
    exact ⟨_, _, _, _, _, wrF_8, hwr_8 hl G E0 hU0 hN0 hd⟩
  rw [if_neg e] at q
  clear e
  cases q
end NWR
