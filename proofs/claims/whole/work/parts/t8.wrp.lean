/-! ===== THE WRAPPERS: their runs (made by wip/gen2/genwr.py) ===== -/
set_option maxRecDepth 16384 in
theorem wA_0 {d : Nat} {h : AH} (hs : Sh h) (x1 : Int32) (x2 : Int32) (x3 : Int32) (x4 : Int32) (u6 : Option Value) :
    Rn cdF mL d (cdR wd0) 0 [some (.ref 100), some (.int x1), some (.int x2), some (.int x3), some (.int x4), some (.ref 295), u6] [] h =
  cK (E d 20 [.ref 100, .int x1, .int x2, .int x3, .int x4] h) (Rn cdF mL d (cdR wd0) 12 [some (.ref 100), some (.int x1), some (.int x2), some (.int x3), some (.int x4), some (.ref 295), u6]) [.int (nI 0), .ref 295] := by
  rw [← hs.1]
  exact (blkR (fun p => Nat.beq p 12) 9 0 _ _ _).trans rfl

set_option maxRecDepth 16384 in
theorem wB_0 {d : Nat} {h : AH} (hs : Sh h) (u0 : Option Value) (u1 : Option Value) (u2 : Option Value) (u3 : Option Value) (u4 : Option Value) (u5 : Option Value) (u6 : Option Value) (s1 : Int32) (s2 : Int32) :
    Rn cdF mL d (cdR wd0) 12 [u0, u1, u2, u3, u4, u5, u6] [.int s2, .int s1, .ref 295] h =
  (gd s1 1 <|
  some (some (.int (nI 0)), sB h 295 (ix s1) s2.toInt64)) := by
  rw [← hs.1]
  exact (blkR (fun p => false) 6 12 _ _ _).trans rfl

set_option maxRecDepth 16384 in
theorem wH_0 {d : Nat} {h : AH} (u0 : Option Value) (u1 : Option Value) (u2 : Option Value) (u3 : Option Value) (u4 : Option Value) (u5 : Option Value) (u6 : Option Value) (s0 : Nat) :
    Rn cdF mL d (cdR wd0) 17 [u0, u1, u2, u3, u4, u5, u6] [.ref s0] h =
  some (some (.int (nI 1)), h) := by
  exact (blkR (fun p => false) 4 17 _ _ _).trans rfl

set_option maxRecDepth 16384 in
theorem wU_0 {d : Nat} {chk : Ls → Vs → AH → Prop} {h : AH} (hs : Sh h) (x1 : Int32) (x2 : Int32) (x3 : Int32) (x4 : Int32) (u6 : Option Value) :
    RnT cdF mL d (cdR wd0) 9 chk 0 [some (.ref 100), some (.int x1), some (.int x2), some (.int x3), some (.int x4), some (.ref 295), u6] [] h =
  RnT cdF mL d (cdR wd0) 9 chk 9 [some (.ref 100), some (.int x1), some (.int x2), some (.int x3), some (.int x4), some (.ref 295), u6] [.int x4, .int x3, .int x2, .int x1, .ref 100, .int (nI 0), .ref 295] h := by
  rw [← hs.1]
  exact (blkU rfl (fun p => Nat.beq p 9) 8 0 rfl rfl _ _ _).trans rfl

set_option maxRecDepth 16384 in
theorem wA_1 {d : Nat} {h : AH} (hs : Sh h) (x1 : Int32) (x2 : Int32) (u4 : Option Value) :
    Rn cdF mL d (cdR wd1) 0 [some (.ref 100), some (.int x1), some (.int x2), some (.ref 295), u4] [] h =
  cK (E d 21 [.ref 100, .int x1, .int x2] h) (Rn cdF mL d (cdR wd1) 8 [some (.ref 100), some (.int x1), some (.int x2), some (.ref 295), u4]) [.int (nI 0), .ref 295] := by
  rw [← hs.1]
  exact (blkR (fun p => Nat.beq p 8) 7 0 _ _ _).trans rfl

set_option maxRecDepth 16384 in
theorem wB_1 {d : Nat} {h : AH} (hs : Sh h) (u0 : Option Value) (u1 : Option Value) (u2 : Option Value) (u3 : Option Value) (u4 : Option Value) (s1 : Int32) (s2 : Int32) :
    Rn cdF mL d (cdR wd1) 8 [u0, u1, u2, u3, u4] [.int s2, .int s1, .ref 295] h =
  (gd s1 1 <|
  some (some (.int (nI 0)), sB h 295 (ix s1) s2.toInt64)) := by
  rw [← hs.1]
  exact (blkR (fun p => false) 6 8 _ _ _).trans rfl

set_option maxRecDepth 16384 in
theorem wH_1 {d : Nat} {h : AH} (u0 : Option Value) (u1 : Option Value) (u2 : Option Value) (u3 : Option Value) (u4 : Option Value) (s0 : Nat) :
    Rn cdF mL d (cdR wd1) 13 [u0, u1, u2, u3, u4] [.ref s0] h =
  some (some (.int (nI 1)), h) := by
  exact (blkR (fun p => false) 4 13 _ _ _).trans rfl

set_option maxRecDepth 16384 in
theorem wU_1 {d : Nat} {chk : Ls → Vs → AH → Prop} {h : AH} (hs : Sh h) (x1 : Int32) (x2 : Int32) (u4 : Option Value) :
    RnT cdF mL d (cdR wd1) 5 chk 0 [some (.ref 100), some (.int x1), some (.int x2), some (.ref 295), u4] [] h =
  RnT cdF mL d (cdR wd1) 5 chk 5 [some (.ref 100), some (.int x1), some (.int x2), some (.ref 295), u4] [.int x2, .int x1, .ref 100, .int (nI 0), .ref 295] h := by
  rw [← hs.1]
  exact (blkU rfl (fun p => Nat.beq p 5) 6 0 rfl rfl _ _ _).trans rfl

set_option maxRecDepth 16384 in
theorem wA_2 {d : Nat} {h : AH} (hs : Sh h) (x1 : Int32) (x2 : Int32) (x3 : Int32) (u5 : Option Value) :
    Rn cdF mL d (cdR wd2) 0 [some (.ref 100), some (.int x1), some (.int x2), some (.int x3), some (.ref 295), u5] [] h =
  cK (E d 22 [.ref 100, .int x1, .int x2, .int x3] h) (Rn cdF mL d (cdR wd2) 10 [some (.ref 100), some (.int x1), some (.int x2), some (.int x3), some (.ref 295), u5]) [.int (nI 0), .ref 295] := by
  rw [← hs.1]
  exact (blkR (fun p => Nat.beq p 10) 8 0 _ _ _).trans rfl

set_option maxRecDepth 16384 in
theorem wB_2 {d : Nat} {h : AH} (hs : Sh h) (u0 : Option Value) (u1 : Option Value) (u2 : Option Value) (u3 : Option Value) (u4 : Option Value) (u5 : Option Value) (s1 : Int32) (s2 : Int32) :
    Rn cdF mL d (cdR wd2) 10 [u0, u1, u2, u3, u4, u5] [.int s2, .int s1, .ref 295] h =
  (gd s1 1 <|
  some (some (.int (nI 0)), sB h 295 (ix s1) s2.toInt64)) := by
  rw [← hs.1]
  exact (blkR (fun p => false) 6 10 _ _ _).trans rfl

set_option maxRecDepth 16384 in
theorem wH_2 {d : Nat} {h : AH} (u0 : Option Value) (u1 : Option Value) (u2 : Option Value) (u3 : Option Value) (u4 : Option Value) (u5 : Option Value) (s0 : Nat) :
    Rn cdF mL d (cdR wd2) 15 [u0, u1, u2, u3, u4, u5] [.ref s0] h =
  some (some (.int (nI 1)), h) := by
  exact (blkR (fun p => false) 4 15 _ _ _).trans rfl

set_option maxRecDepth 16384 in
theorem wU_2 {d : Nat} {chk : Ls → Vs → AH → Prop} {h : AH} (hs : Sh h) (x1 : Int32) (x2 : Int32) (x3 : Int32) (u5 : Option Value) :
    RnT cdF mL d (cdR wd2) 7 chk 0 [some (.ref 100), some (.int x1), some (.int x2), some (.int x3), some (.ref 295), u5] [] h =
  RnT cdF mL d (cdR wd2) 7 chk 7 [some (.ref 100), some (.int x1), some (.int x2), some (.int x3), some (.ref 295), u5] [.int x3, .int x2, .int x1, .ref 100, .int (nI 0), .ref 295] h := by
  rw [← hs.1]
  exact (blkU rfl (fun p => Nat.beq p 7) 7 0 rfl rfl _ _ _).trans rfl

set_option maxRecDepth 16384 in
theorem wA_3 {d : Nat} {h : AH} (hs : Sh h) (x1 : Int32) (x2 : Int32) (u4 : Option Value) :
    Rn cdF mL d (cdR wd3) 0 [some (.ref 100), some (.int x1), some (.int x2), some (.ref 295), u4] [] h =
  cK (E d 23 [.ref 100, .int x1, .int x2] h) (Rn cdF mL d (cdR wd3) 8 [some (.ref 100), some (.int x1), some (.int x2), some (.ref 295), u4]) [.int (nI 0), .ref 295] := by
  rw [← hs.1]
  exact (blkR (fun p => Nat.beq p 8) 7 0 _ _ _).trans rfl

set_option maxRecDepth 16384 in
theorem wB_3 {d : Nat} {h : AH} (hs : Sh h) (u0 : Option Value) (u1 : Option Value) (u2 : Option Value) (u3 : Option Value) (u4 : Option Value) (s1 : Int32) (s2 : Int32) :
    Rn cdF mL d (cdR wd3) 8 [u0, u1, u2, u3, u4] [.int s2, .int s1, .ref 295] h =
  (gd s1 1 <|
  some (some (.int (nI 0)), sB h 295 (ix s1) s2.toInt64)) := by
  rw [← hs.1]
  exact (blkR (fun p => false) 6 8 _ _ _).trans rfl

set_option maxRecDepth 16384 in
theorem wH_3 {d : Nat} {h : AH} (u0 : Option Value) (u1 : Option Value) (u2 : Option Value) (u3 : Option Value) (u4 : Option Value) (s0 : Nat) :
    Rn cdF mL d (cdR wd3) 13 [u0, u1, u2, u3, u4] [.ref s0] h =
  some (some (.int (nI 1)), h) := by
  exact (blkR (fun p => false) 4 13 _ _ _).trans rfl

set_option maxRecDepth 16384 in
theorem wU_3 {d : Nat} {chk : Ls → Vs → AH → Prop} {h : AH} (hs : Sh h) (x1 : Int32) (x2 : Int32) (u4 : Option Value) :
    RnT cdF mL d (cdR wd3) 5 chk 0 [some (.ref 100), some (.int x1), some (.int x2), some (.ref 295), u4] [] h =
  RnT cdF mL d (cdR wd3) 5 chk 5 [some (.ref 100), some (.int x1), some (.int x2), some (.ref 295), u4] [.int x2, .int x1, .ref 100, .int (nI 0), .ref 295] h := by
  rw [← hs.1]
  exact (blkU rfl (fun p => Nat.beq p 5) 6 0 rfl rfl _ _ _).trans rfl

set_option maxRecDepth 16384 in
theorem wA_4 {d : Nat} {h : AH} (hs : Sh h) (x1 : Int32) (u3 : Option Value) :
    Rn cdF mL d (cdR wd4) 0 [some (.ref 100), some (.int x1), some (.ref 295), u3] [] h =
  cK (E d 24 [.ref 100, .int x1] h) (Rn cdF mL d (cdR wd4) 7 [some (.ref 100), some (.int x1), some (.ref 295), u3]) [.int (nI 0), .ref 295] := by
  rw [← hs.1]
  exact (blkR (fun p => Nat.beq p 7) 6 0 _ _ _).trans rfl

set_option maxRecDepth 16384 in
theorem wB_4 {d : Nat} {h : AH} (hs : Sh h) (u0 : Option Value) (u1 : Option Value) (u2 : Option Value) (u3 : Option Value) (s1 : Int32) (s2 : Int64) :
    Rn cdF mL d (cdR wd4) 7 [u0, u1, u2, u3] [.long s2, .int s1, .ref 295] h =
  (gd s1 1 <|
  some (some (.int (nI 0)), sB h 295 (ix s1) s2)) := by
  rw [← hs.1]
  exact (blkR (fun p => false) 5 7 _ _ _).trans rfl

set_option maxRecDepth 16384 in
theorem wH_4 {d : Nat} {h : AH} (u0 : Option Value) (u1 : Option Value) (u2 : Option Value) (u3 : Option Value) (s0 : Nat) :
    Rn cdF mL d (cdR wd4) 11 [u0, u1, u2, u3] [.ref s0] h =
  some (some (.int (nI 1)), h) := by
  exact (blkR (fun p => false) 4 11 _ _ _).trans rfl

set_option maxRecDepth 16384 in
theorem wU_4 {d : Nat} {chk : Ls → Vs → AH → Prop} {h : AH} (hs : Sh h) (x1 : Int32) (u3 : Option Value) :
    RnT cdF mL d (cdR wd4) 4 chk 0 [some (.ref 100), some (.int x1), some (.ref 295), u3] [] h =
  RnT cdF mL d (cdR wd4) 4 chk 4 [some (.ref 100), some (.int x1), some (.ref 295), u3] [.int x1, .ref 100, .int (nI 0), .ref 295] h := by
  rw [← hs.1]
  exact (blkU rfl (fun p => Nat.beq p 4) 5 0 rfl rfl _ _ _).trans rfl

set_option maxRecDepth 16384 in
theorem wA_5 {d : Nat} {h : AH} (hs : Sh h) (x1 : Int32) (u3 : Option Value) :
    Rn cdF mL d (cdR wd5) 0 [some (.ref 100), some (.int x1), some (.ref 295), u3] [] h =
  cK (E d 25 [.ref 100, .int x1] h) (Rn cdF mL d (cdR wd5) 7 [some (.ref 100), some (.int x1), some (.ref 295), u3]) [.int (nI 0), .ref 295] := by
  rw [← hs.1]
  exact (blkR (fun p => Nat.beq p 7) 6 0 _ _ _).trans rfl

set_option maxRecDepth 16384 in
theorem wB_5 {d : Nat} {h : AH} (hs : Sh h) (u0 : Option Value) (u1 : Option Value) (u2 : Option Value) (u3 : Option Value) (s1 : Int32) (s2 : Int32) :
    Rn cdF mL d (cdR wd5) 7 [u0, u1, u2, u3] [.int s2, .int s1, .ref 295] h =
  (gd s1 1 <|
  some (some (.int (nI 0)), sB h 295 (ix s1) s2.toInt64)) := by
  rw [← hs.1]
  exact (blkR (fun p => false) 6 7 _ _ _).trans rfl

set_option maxRecDepth 16384 in
theorem wH_5 {d : Nat} {h : AH} (u0 : Option Value) (u1 : Option Value) (u2 : Option Value) (u3 : Option Value) (s0 : Nat) :
    Rn cdF mL d (cdR wd5) 12 [u0, u1, u2, u3] [.ref s0] h =
  some (some (.int (nI 1)), h) := by
  exact (blkR (fun p => false) 4 12 _ _ _).trans rfl

set_option maxRecDepth 16384 in
theorem wU_5 {d : Nat} {chk : Ls → Vs → AH → Prop} {h : AH} (hs : Sh h) (x1 : Int32) (u3 : Option Value) :
    RnT cdF mL d (cdR wd5) 4 chk 0 [some (.ref 100), some (.int x1), some (.ref 295), u3] [] h =
  RnT cdF mL d (cdR wd5) 4 chk 4 [some (.ref 100), some (.int x1), some (.ref 295), u3] [.int x1, .ref 100, .int (nI 0), .ref 295] h := by
  rw [← hs.1]
  exact (blkU rfl (fun p => Nat.beq p 4) 5 0 rfl rfl _ _ _).trans rfl

set_option maxRecDepth 16384 in
theorem wA_6 {d : Nat} {h : AH} (hs : Sh h) (x1 : Int32) (x2 : Int32) (u4 : Option Value) :
    Rn cdF mL d (cdR wd6) 0 [some (.ref 100), some (.int x1), some (.int x2), some (.ref 295), u4] [] h =
  cK (E d 26 [.ref 100, .int x1, .int x2] h) (Rn cdF mL d (cdR wd6) 8 [some (.ref 100), some (.int x1), some (.int x2), some (.ref 295), u4]) [.int (nI 0), .ref 295] := by
  rw [← hs.1]
  exact (blkR (fun p => Nat.beq p 8) 7 0 _ _ _).trans rfl

set_option maxRecDepth 16384 in
theorem wB_6 {d : Nat} {h : AH} (hs : Sh h) (u0 : Option Value) (u1 : Option Value) (u2 : Option Value) (u3 : Option Value) (u4 : Option Value) (s1 : Int32) (s2 : Int32) :
    Rn cdF mL d (cdR wd6) 8 [u0, u1, u2, u3, u4] [.int s2, .int s1, .ref 295] h =
  (gd s1 1 <|
  some (some (.int (nI 0)), sB h 295 (ix s1) s2.toInt64)) := by
  rw [← hs.1]
  exact (blkR (fun p => false) 6 8 _ _ _).trans rfl

set_option maxRecDepth 16384 in
theorem wH_6 {d : Nat} {h : AH} (u0 : Option Value) (u1 : Option Value) (u2 : Option Value) (u3 : Option Value) (u4 : Option Value) (s0 : Nat) :
    Rn cdF mL d (cdR wd6) 13 [u0, u1, u2, u3, u4] [.ref s0] h =
  some (some (.int (nI 1)), h) := by
  exact (blkR (fun p => false) 4 13 _ _ _).trans rfl

set_option maxRecDepth 16384 in
theorem wU_6 {d : Nat} {chk : Ls → Vs → AH → Prop} {h : AH} (hs : Sh h) (x1 : Int32) (x2 : Int32) (u4 : Option Value) :
    RnT cdF mL d (cdR wd6) 5 chk 0 [some (.ref 100), some (.int x1), some (.int x2), some (.ref 295), u4] [] h =
  RnT cdF mL d (cdR wd6) 5 chk 5 [some (.ref 100), some (.int x1), some (.int x2), some (.ref 295), u4] [.int x2, .int x1, .ref 100, .int (nI 0), .ref 295] h := by
  rw [← hs.1]
  exact (blkU rfl (fun p => Nat.beq p 5) 6 0 rfl rfl _ _ _).trans rfl

set_option maxRecDepth 16384 in
theorem wA_7 {d : Nat} {h : AH} (hs : Sh h) (x1 : Int32) (x2 : Int32) (u4 : Option Value) :
    Rn cdF mL d (cdR wd7) 0 [some (.ref 100), some (.int x1), some (.int x2), some (.ref 295), u4] [] h =
  cK (E d 27 [.ref 100, .int x1, .int x2] h) (Rn cdF mL d (cdR wd7) 8 [some (.ref 100), some (.int x1), some (.int x2), some (.ref 295), u4]) [.int (nI 0), .ref 295] := by
  rw [← hs.1]
  exact (blkR (fun p => Nat.beq p 8) 7 0 _ _ _).trans rfl

set_option maxRecDepth 16384 in
theorem wB_7 {d : Nat} {h : AH} (hs : Sh h) (u0 : Option Value) (u1 : Option Value) (u2 : Option Value) (u3 : Option Value) (u4 : Option Value) (s1 : Int32) (s2 : Int64) :
    Rn cdF mL d (cdR wd7) 8 [u0, u1, u2, u3, u4] [.long s2, .int s1, .ref 295] h =
  (gd s1 1 <|
  some (some (.int (nI 0)), sB h 295 (ix s1) s2)) := by
  rw [← hs.1]
  exact (blkR (fun p => false) 5 8 _ _ _).trans rfl

set_option maxRecDepth 16384 in
theorem wH_7 {d : Nat} {h : AH} (u0 : Option Value) (u1 : Option Value) (u2 : Option Value) (u3 : Option Value) (u4 : Option Value) (s0 : Nat) :
    Rn cdF mL d (cdR wd7) 12 [u0, u1, u2, u3, u4] [.ref s0] h =
  some (some (.int (nI 1)), h) := by
  exact (blkR (fun p => false) 4 12 _ _ _).trans rfl

set_option maxRecDepth 16384 in
theorem wU_7 {d : Nat} {chk : Ls → Vs → AH → Prop} {h : AH} (hs : Sh h) (x1 : Int32) (x2 : Int32) (u4 : Option Value) :
    RnT cdF mL d (cdR wd7) 5 chk 0 [some (.ref 100), some (.int x1), some (.int x2), some (.ref 295), u4] [] h =
  RnT cdF mL d (cdR wd7) 5 chk 5 [some (.ref 100), some (.int x1), some (.int x2), some (.ref 295), u4] [.int x2, .int x1, .ref 100, .int (nI 0), .ref 295] h := by
  rw [← hs.1]
  exact (blkU rfl (fun p => Nat.beq p 5) 6 0 rfl rfl _ _ _).trans rfl

set_option maxRecDepth 16384 in
theorem wA_8 {d : Nat} {h : AH} (hs : Sh h) (x1 : Int32) (x2 : Int32) (u4 : Option Value) :
    Rn cdF mL d (cdR wd8) 0 [some (.ref 100), some (.int x1), some (.int x2), some (.ref 295), u4] [] h =
  cK (E d 28 [.ref 100, .int x1, .int x2] h) (Rn cdF mL d (cdR wd8) 8 [some (.ref 100), some (.int x1), some (.int x2), some (.ref 295), u4]) [.int (nI 0), .ref 295] := by
  rw [← hs.1]
  exact (blkR (fun p => Nat.beq p 8) 7 0 _ _ _).trans rfl

set_option maxRecDepth 16384 in
theorem wB_8 {d : Nat} {h : AH} (hs : Sh h) (u0 : Option Value) (u1 : Option Value) (u2 : Option Value) (u3 : Option Value) (u4 : Option Value) (s1 : Int32) (s2 : Int32) :
    Rn cdF mL d (cdR wd8) 8 [u0, u1, u2, u3, u4] [.int s2, .int s1, .ref 295] h =
  (gd s1 1 <|
  some (some (.int (nI 0)), sB h 295 (ix s1) s2.toInt64)) := by
  rw [← hs.1]
  exact (blkR (fun p => false) 6 8 _ _ _).trans rfl

set_option maxRecDepth 16384 in
theorem wH_8 {d : Nat} {h : AH} (u0 : Option Value) (u1 : Option Value) (u2 : Option Value) (u3 : Option Value) (u4 : Option Value) (s0 : Nat) :
    Rn cdF mL d (cdR wd8) 13 [u0, u1, u2, u3, u4] [.ref s0] h =
  some (some (.int (nI 1)), h) := by
  exact (blkR (fun p => false) 4 13 _ _ _).trans rfl

set_option maxRecDepth 16384 in
theorem wU_8 {d : Nat} {chk : Ls → Vs → AH → Prop} {h : AH} (hs : Sh h) (x1 : Int32) (x2 : Int32) (u4 : Option Value) :
    RnT cdF mL d (cdR wd8) 5 chk 0 [some (.ref 100), some (.int x1), some (.int x2), some (.ref 295), u4] [] h =
  RnT cdF mL d (cdR wd8) 5 chk 5 [some (.ref 100), some (.int x1), some (.int x2), some (.ref 295), u4] [.int x2, .int x1, .ref 100, .int (nI 0), .ref 295] h := by
  rw [← hs.1]
  exact (blkU rfl (fun p => Nat.beq p 5) 6 0 rfl rfl _ _ _).trans rfl

