/-! ===== THE CONSTRUCTORS: their pieces, before the static world stands (made by wip/gen2/genct.py) ===== -/
set_option maxRecDepth 16384 in
theorem n_0 {d : Nat} {h : AH} (x0 : Nat) :
    E (d + 1) 0 [.ref x0] h =
  Q d 0 8 [some (.ref x0)] [.ref (gN h), .ref x0] (nwO h 12 7) := by
  exact entL (l := [some (.ref x0)]) rfl rfl ((blkM (fun p => Nat.beq p 8) 6 0 _ _ _).trans rfl)

set_option maxRecDepth 16384 in
theorem n_0_8 {d : Nat} {h : AH} (x0 : Nat) (s0 : Nat) (s1 : Nat) :
    Q d 0 8 [some (.ref x0)] [.ref s1, .ref s0] h =
  cK (E d 185 [.ref s1] h) (Q d 0 12 [some (.ref x0)]) [.ref s1, .ref s0] := by
  exact (blkM (fun p => Nat.beq p 12) 3 8 _ _ _).trans rfl

set_option maxRecDepth 16384 in
theorem n_0_12 {d : Nat} {h : AH} (x0 : Nat) (s0 : Nat) (s1 : Nat) :
    Q d 0 12 [some (.ref x0)] [.ref s1, .ref s0] h =
  (ck (gC h s0) 13 <|
  Q d 0 19 [some (.ref x0)] [.ref (gN h), .ref x0] (nwO (sR h 3328 s0 (some s1)) 4 8)) := by
  exact (blkM (fun p => Nat.beq p 19) 5 12 _ _ _).trans rfl

set_option maxRecDepth 16384 in
theorem n_0_19 {d : Nat} {h : AH} (x0 : Nat) (s0 : Nat) (s1 : Nat) :
    Q d 0 19 [some (.ref x0)] [.ref s1, .ref s0] h =
  cK (E d 186 [.ref s1] h) (Q d 0 23 [some (.ref x0)]) [.ref s1, .ref s0] := by
  exact (blkM (fun p => Nat.beq p 23) 3 19 _ _ _).trans rfl

set_option maxRecDepth 16384 in
theorem n_0_23 {d : Nat} {h : AH} (x0 : Nat) (s0 : Nat) (s1 : Nat) :
    Q d 0 23 [some (.ref x0)] [.ref s1, .ref s0] h =
  (ck (gC h s0) 13 <|
  Q d 0 30 [some (.ref x0)] [.ref (gN h), .ref x0] (nwO (sR h 3329 s0 (some s1)) 8 18)) := by
  exact (blkM (fun p => Nat.beq p 30) 5 23 _ _ _).trans rfl

set_option maxRecDepth 16384 in
theorem n_0_30 {d : Nat} {h : AH} (x0 : Nat) (s0 : Nat) (s1 : Nat) :
    Q d 0 30 [some (.ref x0)] [.ref s1, .ref s0] h =
  (ck (gC h x0) 13 <|
  (gR h 3328 x0).bind fun y1 =>
   cK (E d 187 [.ref s1, .ref y1] h) (Q d 0 38 [some (.ref x0)]) [.ref s1, .ref s0]) := by
  exact (blkM (fun p => Nat.beq p 38) 5 30 _ _ _).trans rfl

set_option maxRecDepth 16384 in
theorem n_0_38 {d : Nat} {h : AH} (x0 : Nat) (s0 : Nat) (s1 : Nat) :
    Q d 0 38 [some (.ref x0)] [.ref s1, .ref s0] h =
  (ck (gC h s0) 13 <|
  Q d 0 45 [some (.ref x0)] [.ref (gN h), .ref x0] (nwO (sR h 3330 s0 (some s1)) 6 20)) := by
  exact (blkM (fun p => Nat.beq p 45) 5 38 _ _ _).trans rfl

set_option maxRecDepth 16384 in
theorem n_0_45 {d : Nat} {h : AH} (x0 : Nat) (s0 : Nat) (s1 : Nat) :
    Q d 0 45 [some (.ref x0)] [.ref s1, .ref s0] h =
  (ck (gC h x0) 13 <|
  (gR h 3330 x0).bind fun y1 =>
   cK (E d 188 [.ref s1, .ref y1] h) (Q d 0 53 [some (.ref x0)]) [.ref s1, .ref s0]) := by
  exact (blkM (fun p => Nat.beq p 53) 5 45 _ _ _).trans rfl

set_option maxRecDepth 16384 in
theorem n_0_53 {d : Nat} {h : AH} (x0 : Nat) (s0 : Nat) (s1 : Nat) :
    Q d 0 53 [some (.ref x0)] [.ref s1, .ref s0] h =
  (ck (gC h s0) 13 <|
  Q d 0 60 [some (.ref x0)] [.ref (gN h), .ref x0] (nwO (sR h 3331 s0 (some s1)) 9 6)) := by
  exact (blkM (fun p => Nat.beq p 60) 5 53 _ _ _).trans rfl

set_option maxRecDepth 16384 in
theorem n_0_60 {d : Nat} {h : AH} (x0 : Nat) (s0 : Nat) (s1 : Nat) :
    Q d 0 60 [some (.ref x0)] [.ref s1, .ref s0] h =
  cK (E d 189 [.ref s1] h) (Q d 0 64 [some (.ref x0)]) [.ref s1, .ref s0] := by
  exact (blkM (fun p => Nat.beq p 64) 3 60 _ _ _).trans rfl

set_option maxRecDepth 16384 in
theorem n_0_64 {d : Nat} {h : AH} (x0 : Nat) (s0 : Nat) (s1 : Nat) :
    Q d 0 64 [some (.ref x0)] [.ref s1, .ref s0] h =
  (ck (gC h s0) 13 <|
  Q d 0 71 [some (.ref x0)] [.ref (gN h), .ref x0] (nwO (sR h 3332 s0 (some s1)) 9 6)) := by
  exact (blkM (fun p => Nat.beq p 71) 5 64 _ _ _).trans rfl

set_option maxRecDepth 16384 in
theorem n_0_71 {d : Nat} {h : AH} (x0 : Nat) (s0 : Nat) (s1 : Nat) :
    Q d 0 71 [some (.ref x0)] [.ref s1, .ref s0] h =
  cK (E d 189 [.ref s1] h) (Q d 0 75 [some (.ref x0)]) [.ref s1, .ref s0] := by
  exact (blkM (fun p => Nat.beq p 75) 3 71 _ _ _).trans rfl

set_option maxRecDepth 16384 in
theorem n_0_75 {d : Nat} {h : AH} (x0 : Nat) (s0 : Nat) (s1 : Nat) :
    Q d 0 75 [some (.ref x0)] [.ref s1, .ref s0] h =
  (ck (gC h s0) 13 <|
  ck (gC h x0) 13 <|
  ck (gC h x0) 13 <|
  ck (gC h x0) 13 <|
  ck (gC h x0) 13 <|
  some (none, sI (sI (sI (sI (sR h 3333 s0 (some s1)) 3334 x0 (nI 0)) 3335 x0 (-1)) 3336 x0 (-1)) 3337 x0 (-1))) := by
  exact (blkM (fun p => false) 15 75 _ _ _).trans rfl

set_option maxRecDepth 16384 in
theorem n_1 {d : Nat} {h : AH} (x0 : Nat) :
    E (d + 1) 1 [.ref x0] h =
  (ck (gC h x0) 14 <|
  Q d 1 15 [some (.ref x0), none, none, none, none, none] [.ref (gN h), .ref x0] (nwA (sR h 3584 x0 (some 27)) 61 80)) := by
  exact entL (l := [some (.ref x0), none, none, none, none, none]) rfl rfl ((blkM (fun p => Nat.beq p 15) 10 0 _ _ _).trans rfl)

set_option maxRecDepth 16384 in
theorem n_1_15 {d : Nat} {h : AH} (x0 : Nat) (u1 : Option Value) (u2 : Option Value) (u3 : Option Value) (u4 : Option Value) (u5 : Option Value) (s0 : Nat) (s1 : Nat) :
    Q d 1 15 [some (.ref x0), u1, u2, u3, u4, u5] [.ref s1, .ref s0] h =
  (ck (gC h s0) 14 <|
  Q d 1 23 [some (.ref x0), u1, u2, u3, u4, u5] [.ref (gN h), .ref x0] (nwA (sR h 3585 s0 (some s1)) 60 126)) := by
  exact (blkM (fun p => Nat.beq p 23) 6 15 _ _ _).trans rfl

set_option maxRecDepth 16384 in
theorem n_1_23 {d : Nat} {h : AH} (x0 : Nat) (u1 : Option Value) (u2 : Option Value) (u3 : Option Value) (u4 : Option Value) (u5 : Option Value) (s0 : Nat) (s1 : Nat) :
    Q d 1 23 [some (.ref x0), u1, u2, u3, u4, u5] [.ref s1, .ref s0] h =
  (ck (gC h s0) 14 <|
  Q d 1 31 [some (.ref x0), u1, u2, u3, u4, u5] [.ref (gN h), .ref x0] (nwA (sR h 3587 s0 (some s1)) 60 64)) := by
  exact (blkM (fun p => Nat.beq p 31) 6 23 _ _ _).trans rfl

set_option maxRecDepth 16384 in
theorem n_1_31 {d : Nat} {h : AH} (x0 : Nat) (u1 : Option Value) (u2 : Option Value) (u3 : Option Value) (u4 : Option Value) (u5 : Option Value) (s0 : Nat) (s1 : Nat) :
    Q d 1 31 [some (.ref x0), u1, u2, u3, u4, u5] [.ref s1, .ref s0] h =
  (ck (gC h s0) 14 <|
  Q d 1 40 [some (.ref x0), u1, u2, u3, u4, u5] [.ref (gN h), .ref x0] (nwA (sR h 3588 s0 (some s1)) 60 4000)) := by
  exact (blkM (fun p => Nat.beq p 40) 6 31 _ _ _).trans rfl

set_option maxRecDepth 16384 in
theorem n_1_40 {d : Nat} {h : AH} (x0 : Nat) (u1 : Option Value) (u2 : Option Value) (u3 : Option Value) (u4 : Option Value) (u5 : Option Value) (s0 : Nat) (s1 : Nat) :
    Q d 1 40 [some (.ref x0), u1, u2, u3, u4, u5] [.ref s1, .ref s0] h =
  (ck (gC h s0) 14 <|
  Q d 1 49 [some (.ref x0), u1, u2, u3, u4, u5] [.ref (gN h), .ref x0] (nwA (sR h 3589 s0 (some s1)) 60 4002)) := by
  exact (blkM (fun p => Nat.beq p 49) 6 40 _ _ _).trans rfl

set_option maxRecDepth 16384 in
theorem n_1_49 {d : Nat} {h : AH} (x0 : Nat) (u1 : Option Value) (u2 : Option Value) (u3 : Option Value) (u4 : Option Value) (u5 : Option Value) (s0 : Nat) (s1 : Nat) :
    Q d 1 49 [some (.ref x0), u1, u2, u3, u4, u5] [.ref s1, .ref s0] h =
  (ck (gC h s0) 14 <|
  Q d 1 58 [some (.ref x0), u1, u2, u3, u4, u5] [.ref (gN h), .ref x0] (nwA (sR h 3592 s0 (some s1)) 60 4002)) := by
  exact (blkM (fun p => Nat.beq p 58) 6 49 _ _ _).trans rfl

set_option maxRecDepth 16384 in
theorem n_1_58 {d : Nat} {h : AH} (x0 : Nat) (u1 : Option Value) (u2 : Option Value) (u3 : Option Value) (u4 : Option Value) (u5 : Option Value) (s0 : Nat) (s1 : Nat) :
    Q d 1 58 [some (.ref x0), u1, u2, u3, u4, u5] [.ref s1, .ref s0] h =
  (ck (gC h s0) 14 <|
  Q d 1 67 [some (.ref x0), u1, u2, u3, u4, u5] [.ref (gN h), .ref x0] (nwA (sR h 3593 s0 (some s1)) 61 4002)) := by
  exact (blkM (fun p => Nat.beq p 67) 6 58 _ _ _).trans rfl

set_option maxRecDepth 16384 in
theorem n_1_67 {d : Nat} {h : AH} (x0 : Nat) (u1 : Option Value) (u2 : Option Value) (u3 : Option Value) (u4 : Option Value) (u5 : Option Value) (s0 : Nat) (s1 : Nat) :
    Q d 1 67 [some (.ref x0), u1, u2, u3, u4, u5] [.ref s1, .ref s0] h =
  (ck (gC h s0) 14 <|
  Q d 1 74 [some (.ref x0), u1, u2, u3, u4, u5] [.ref (gN h), .ref x0] (nwA (sR h 3594 s0 (some s1)) 60 2)) := by
  exact (blkM (fun p => Nat.beq p 74) 6 67 _ _ _).trans rfl

set_option maxRecDepth 16384 in
theorem n_1_74 {d : Nat} {h : AH} (x0 : Nat) (u1 : Option Value) (u2 : Option Value) (u3 : Option Value) (u4 : Option Value) (u5 : Option Value) (s0 : Nat) (s1 : Nat) :
    Q d 1 74 [some (.ref x0), u1, u2, u3, u4, u5] [.ref s1, .ref s0] h =
  (ck (gC h s0) 14 <|
  Q d 1 82 [some (.ref x0), u1, u2, u3, u4, u5] [.ref (gN h), .ref x0] (nwA (sR h 3599 s0 (some s1)) 61 32)) := by
  exact (blkM (fun p => Nat.beq p 82) 6 74 _ _ _).trans rfl

set_option maxRecDepth 16384 in
theorem n_1_82 {d : Nat} {h : AH} (x0 : Nat) (u1 : Option Value) (u2 : Option Value) (u3 : Option Value) (u4 : Option Value) (u5 : Option Value) (s0 : Nat) (s1 : Nat) :
    Q d 1 82 [some (.ref x0), u1, u2, u3, u4, u5] [.ref s1, .ref s0] h =
  (ck (gC h s0) 14 <|
  Q d 1 90 [some (.ref x0), u1, u2, u3, u4, u5] [.ref (gN h), .ref x0] (nwA (sR h 3600 s0 (some s1)) 60 32)) := by
  exact (blkM (fun p => Nat.beq p 90) 6 82 _ _ _).trans rfl

set_option maxRecDepth 16384 in
theorem n_1_90 {d : Nat} {h : AH} (x0 : Nat) (u1 : Option Value) (u2 : Option Value) (u3 : Option Value) (u4 : Option Value) (u5 : Option Value) (s0 : Nat) (s1 : Nat) :
    Q d 1 90 [some (.ref x0), u1, u2, u3, u4, u5] [.ref s1, .ref s0] h =
  (ck (gC h s0) 14 <|
  Q d 1 98 [some (.ref x0), u1, u2, u3, u4, u5] [.ref (gN h), .ref x0] (nwA (sR h 3601 s0 (some s1)) 60 32)) := by
  exact (blkM (fun p => Nat.beq p 98) 6 90 _ _ _).trans rfl

set_option maxRecDepth 16384 in
theorem n_1_98 {d : Nat} {h : AH} (x0 : Nat) (u1 : Option Value) (u2 : Option Value) (u3 : Option Value) (u4 : Option Value) (u5 : Option Value) (s0 : Nat) (s1 : Nat) :
    Q d 1 98 [some (.ref x0), u1, u2, u3, u4, u5] [.ref s1, .ref s0] h =
  (ck (gC h s0) 14 <|
  Q d 1 106 [some (.ref x0), u1, u2, u3, u4, u5] [.ref (gN h), .ref x0] (nwA (sR h 3602 s0 (some s1)) 60 32)) := by
  exact (blkM (fun p => Nat.beq p 106) 6 98 _ _ _).trans rfl

set_option maxRecDepth 16384 in
theorem n_1_106 {d : Nat} {h : AH} (x0 : Nat) (u1 : Option Value) (u2 : Option Value) (u3 : Option Value) (u4 : Option Value) (u5 : Option Value) (s0 : Nat) (s1 : Nat) :
    Q d 1 106 [some (.ref x0), u1, u2, u3, u4, u5] [.ref s1, .ref s0] h =
  (ck (gC h s0) 14 <|
  Q d 1 113 [some (.ref x0), u1, u2, u3, u4, u5] [.ref (gN h), .ref x0] (nwA (sR h 3603 s0 (some s1)) 60 2)) := by
  exact (blkM (fun p => Nat.beq p 113) 6 106 _ _ _).trans rfl

set_option maxRecDepth 16384 in
theorem n_1_113 {d : Nat} {h : AH} (x0 : Nat) (u1 : Option Value) (u2 : Option Value) (u3 : Option Value) (u4 : Option Value) (u5 : Option Value) (s0 : Nat) (s1 : Nat) :
    Q d 1 113 [some (.ref x0), u1, u2, u3, u4, u5] [.ref s1, .ref s0] h =
  (ck (gC h s0) 14 <|
  Q d 1 121 [some (.ref x0), u1, u2, u3, u4, u5] [.ref (gN h), .ref x0] (nwA (sR h 3604 s0 (some s1)) 61 40)) := by
  exact (blkM (fun p => Nat.beq p 121) 6 113 _ _ _).trans rfl

set_option maxRecDepth 16384 in
theorem n_1_121 {d : Nat} {h : AH} (x0 : Nat) (u1 : Option Value) (u2 : Option Value) (u3 : Option Value) (u4 : Option Value) (u5 : Option Value) (s0 : Nat) (s1 : Nat) :
    Q d 1 121 [some (.ref x0), u1, u2, u3, u4, u5] [.ref s1, .ref s0] h =
  (ck (gC h s0) 14 <|
  Q d 1 129 [some (.ref x0), u1, u2, u3, u4, u5] [.ref (gN h), .ref x0] (nwA (sR h 3605 s0 (some s1)) 61 40)) := by
  exact (blkM (fun p => Nat.beq p 129) 6 121 _ _ _).trans rfl

set_option maxRecDepth 16384 in
theorem n_1_129 {d : Nat} {h : AH} (x0 : Nat) (u1 : Option Value) (u2 : Option Value) (u3 : Option Value) (u4 : Option Value) (u5 : Option Value) (s0 : Nat) (s1 : Nat) :
    Q d 1 129 [some (.ref x0), u1, u2, u3, u4, u5] [.ref s1, .ref s0] h =
  (ck (gC h s0) 14 <|
  Q d 1 136 [some (.ref x0), u1, u2, u3, u4, u5] [.ref (gN h), .ref x0] (nwA (sR h 3606 s0 (some s1)) 60 2)) := by
  exact (blkM (fun p => Nat.beq p 136) 6 129 _ _ _).trans rfl

set_option maxRecDepth 16384 in
theorem n_1_136 {d : Nat} {h : AH} (x0 : Nat) (u1 : Option Value) (u2 : Option Value) (u3 : Option Value) (u4 : Option Value) (u5 : Option Value) (s0 : Nat) (s1 : Nat) :
    Q d 1 136 [some (.ref x0), u1, u2, u3, u4, u5] [.ref s1, .ref s0] h =
  (ck (gC h s0) 14 <|
  Q d 1 145 [some (.ref x0), u1, u2, u3, u4, u5] [.ref (gN h), .ref x0] (nwA (sR h 3607 s0 (some s1)) 61 360)) := by
  exact (blkM (fun p => Nat.beq p 145) 6 136 _ _ _).trans rfl

set_option maxRecDepth 16384 in
theorem n_1_145 {d : Nat} {h : AH} (x0 : Nat) (u1 : Option Value) (u2 : Option Value) (u3 : Option Value) (u4 : Option Value) (u5 : Option Value) (s0 : Nat) (s1 : Nat) :
    Q d 1 145 [some (.ref x0), u1, u2, u3, u4, u5] [.ref s1, .ref s0] h =
  (ck (gC h s0) 14 <|
  Q d 1 153 [some (.ref x0), u1, u2, u3, u4, u5] [.ref (gN h), .ref x0] (nwA (sR h 3608 s0 (some s1)) 60 120)) := by
  exact (blkM (fun p => Nat.beq p 153) 6 145 _ _ _).trans rfl

set_option maxRecDepth 16384 in
theorem n_1_153 {d : Nat} {h : AH} (x0 : Nat) (u1 : Option Value) (u2 : Option Value) (u3 : Option Value) (u4 : Option Value) (u5 : Option Value) (s0 : Nat) (s1 : Nat) :
    Q d 1 153 [some (.ref x0), u1, u2, u3, u4, u5] [.ref s1, .ref s0] h =
  (ck (gC h s0) 14 <|
  Q d 1 161 [some (.ref x0), u1, u2, u3, u4, u5] [.ref (gN h), .ref x0] (nwA (sR h 3609 s0 (some s1)) 60 120)) := by
  exact (blkM (fun p => Nat.beq p 161) 6 153 _ _ _).trans rfl

set_option maxRecDepth 16384 in
theorem n_1_161 {d : Nat} {h : AH} (x0 : Nat) (u1 : Option Value) (u2 : Option Value) (u3 : Option Value) (u4 : Option Value) (u5 : Option Value) (s0 : Nat) (s1 : Nat) :
    Q d 1 161 [some (.ref x0), u1, u2, u3, u4, u5] [.ref s1, .ref s0] h =
  (ck (gC h s0) 14 <|
  Q d 1 169 [some (.ref x0), u1, u2, u3, u4, u5] [.ref (gN h), .ref x0] (nwA (sR h 3610 s0 (some s1)) 60 120)) := by
  exact (blkM (fun p => Nat.beq p 169) 6 161 _ _ _).trans rfl

set_option maxRecDepth 16384 in
theorem n_1_169 {d : Nat} {h : AH} (x0 : Nat) (u1 : Option Value) (u2 : Option Value) (u3 : Option Value) (u4 : Option Value) (u5 : Option Value) (s0 : Nat) (s1 : Nat) :
    Q d 1 169 [some (.ref x0), u1, u2, u3, u4, u5] [.ref s1, .ref s0] h =
  (ck (gC h s0) 14 <|
  Q d 1 177 [some (.ref x0), u1, u2, u3, u4, u5] [.ref (gN h), .ref x0] (nwA (sR h 3611 s0 (some s1)) 60 120)) := by
  exact (blkM (fun p => Nat.beq p 177) 6 169 _ _ _).trans rfl

set_option maxRecDepth 16384 in
theorem n_1_177 {d : Nat} {h : AH} (x0 : Nat) (u1 : Option Value) (u2 : Option Value) (u3 : Option Value) (u4 : Option Value) (u5 : Option Value) (s0 : Nat) (s1 : Nat) :
    Q d 1 177 [some (.ref x0), u1, u2, u3, u4, u5] [.ref s1, .ref s0] h =
  (ck (gC h s0) 14 <|
  Q d 1 185 [some (.ref x0), u1, u2, u3, u4, u5] [.ref (gN h), .ref x0] (nwA (sR h 3612 s0 (some s1)) 60 120)) := by
  exact (blkM (fun p => Nat.beq p 185) 6 177 _ _ _).trans rfl

set_option maxRecDepth 16384 in
theorem n_1_185 {d : Nat} {h : AH} (x0 : Nat) (u1 : Option Value) (u2 : Option Value) (u3 : Option Value) (u4 : Option Value) (u5 : Option Value) (s0 : Nat) (s1 : Nat) :
    Q d 1 185 [some (.ref x0), u1, u2, u3, u4, u5] [.ref s1, .ref s0] h =
  (ck (gC h s0) 14 <|
  Q d 1 193 [some (.ref x0), u1, u2, u3, u4, u5] [.ref (gN h), .ref x0] (nwA (sR h 3613 s0 (some s1)) 60 120)) := by
  exact (blkM (fun p => Nat.beq p 193) 6 185 _ _ _).trans rfl

set_option maxRecDepth 16384 in
theorem n_1_193 {d : Nat} {h : AH} (x0 : Nat) (u1 : Option Value) (u2 : Option Value) (u3 : Option Value) (u4 : Option Value) (u5 : Option Value) (s0 : Nat) (s1 : Nat) :
    Q d 1 193 [some (.ref x0), u1, u2, u3, u4, u5] [.ref s1, .ref s0] h =
  (ck (gC h s0) 14 <|
  Q d 1 201 [some (.ref x0), u1, u2, u3, u4, u5] [.ref (gN h), .ref x0] (nwA (sR h 3614 s0 (some s1)) 60 120)) := by
  exact (blkM (fun p => Nat.beq p 201) 6 193 _ _ _).trans rfl

set_option maxRecDepth 16384 in
theorem n_1_201 {d : Nat} {h : AH} (x0 : Nat) (u1 : Option Value) (u2 : Option Value) (u3 : Option Value) (u4 : Option Value) (u5 : Option Value) (s0 : Nat) (s1 : Nat) :
    Q d 1 201 [some (.ref x0), u1, u2, u3, u4, u5] [.ref s1, .ref s0] h =
  (ck (gC h s0) 14 <|
  Q d 1 209 [some (.ref x0), u1, u2, u3, u4, u5] [.ref (gN h), .ref x0] (nwA (sR h 3615 s0 (some s1)) 60 120)) := by
  exact (blkM (fun p => Nat.beq p 209) 6 201 _ _ _).trans rfl

set_option maxRecDepth 16384 in
theorem n_1_209 {d : Nat} {h : AH} (x0 : Nat) (u1 : Option Value) (u2 : Option Value) (u3 : Option Value) (u4 : Option Value) (u5 : Option Value) (s0 : Nat) (s1 : Nat) :
    Q d 1 209 [some (.ref x0), u1, u2, u3, u4, u5] [.ref s1, .ref s0] h =
  (ck (gC h s0) 14 <|
  Q d 1 217 [some (.ref x0), u1, u2, u3, u4, u5] [.ref (gN h), .ref x0] (nwA (sR h 3616 s0 (some s1)) 60 120)) := by
  exact (blkM (fun p => Nat.beq p 217) 6 209 _ _ _).trans rfl

set_option maxRecDepth 16384 in
theorem n_1_217 {d : Nat} {h : AH} (x0 : Nat) (u1 : Option Value) (u2 : Option Value) (u3 : Option Value) (u4 : Option Value) (u5 : Option Value) (s0 : Nat) (s1 : Nat) :
    Q d 1 217 [some (.ref x0), u1, u2, u3, u4, u5] [.ref s1, .ref s0] h =
  (ck (gC h s0) 14 <|
  Q d 1 224 [some (.ref x0), u1, u2, u3, u4, u5] [.ref (gN h), .ref x0] (nwA (sR h 3617 s0 (some s1)) 60 2)) := by
  exact (blkM (fun p => Nat.beq p 224) 6 217 _ _ _).trans rfl

set_option maxRecDepth 16384 in
theorem n_1_224 {d : Nat} {h : AH} (x0 : Nat) (u1 : Option Value) (u2 : Option Value) (u3 : Option Value) (u4 : Option Value) (u5 : Option Value) (s0 : Nat) (s1 : Nat) :
    Q d 1 224 [some (.ref x0), u1, u2, u3, u4, u5] [.ref s1, .ref s0] h =
  (ck (gC h s0) 14 <|
  Q d 1 232 [some (.ref x0), u1, u2, u3, u4, u5] [.ref (gN h), .ref x0] (nwA (sR h 3618 s0 (some s1)) 61 16)) := by
  exact (blkM (fun p => Nat.beq p 232) 6 224 _ _ _).trans rfl

set_option maxRecDepth 16384 in
theorem n_1_232 {d : Nat} {h : AH} (x0 : Nat) (u1 : Option Value) (u2 : Option Value) (u3 : Option Value) (u4 : Option Value) (u5 : Option Value) (s0 : Nat) (s1 : Nat) :
    Q d 1 232 [some (.ref x0), u1, u2, u3, u4, u5] [.ref s1, .ref s0] h =
  (ck (gC h s0) 14 <|
  Q d 1 240 [some (.ref x0), u1, u2, u3, u4, u5] [.ref (gN h), .ref x0] (nwA (sR h 3619 s0 (some s1)) 60 16)) := by
  exact (blkM (fun p => Nat.beq p 240) 6 232 _ _ _).trans rfl

set_option maxRecDepth 16384 in
theorem n_1_240 {d : Nat} {h : AH} (x0 : Nat) (u1 : Option Value) (u2 : Option Value) (u3 : Option Value) (u4 : Option Value) (u5 : Option Value) (s0 : Nat) (s1 : Nat) :
    Q d 1 240 [some (.ref x0), u1, u2, u3, u4, u5] [.ref s1, .ref s0] h =
  (ck (gC h s0) 14 <|
  Q d 1 248 [some (.ref x0), u1, u2, u3, u4, u5] [.ref (gN h), .ref x0] (nwA (sR h 3620 s0 (some s1)) 60 16)) := by
  exact (blkM (fun p => Nat.beq p 248) 6 240 _ _ _).trans rfl

set_option maxRecDepth 16384 in
theorem n_1_248 {d : Nat} {h : AH} (x0 : Nat) (u1 : Option Value) (u2 : Option Value) (u3 : Option Value) (u4 : Option Value) (u5 : Option Value) (s0 : Nat) (s1 : Nat) :
    Q d 1 248 [some (.ref x0), u1, u2, u3, u4, u5] [.ref s1, .ref s0] h =
  (ck (gC h s0) 14 <|
  Q d 1 256 [some (.ref x0), u1, u2, u3, u4, u5] [.ref (gN h), .ref x0] (nwA (sR h 3621 s0 (some s1)) 60 16)) := by
  exact (blkM (fun p => Nat.beq p 256) 6 248 _ _ _).trans rfl

set_option maxRecDepth 16384 in
theorem n_1_256 {d : Nat} {h : AH} (x0 : Nat) (u1 : Option Value) (u2 : Option Value) (u3 : Option Value) (u4 : Option Value) (u5 : Option Value) (s0 : Nat) (s1 : Nat) :
    Q d 1 256 [some (.ref x0), u1, u2, u3, u4, u5] [.ref s1, .ref s0] h =
  (ck (gC h s0) 14 <|
  Q d 1 265 [some (.ref x0), u1, u2, u3, u4, u5] [.ref (gN h), .ref x0] (nwA (sR h 3622 s0 (some s1)) 60 128)) := by
  exact (blkM (fun p => Nat.beq p 265) 6 256 _ _ _).trans rfl

set_option maxRecDepth 16384 in
theorem n_1_265 {d : Nat} {h : AH} (x0 : Nat) (u1 : Option Value) (u2 : Option Value) (u3 : Option Value) (u4 : Option Value) (u5 : Option Value) (s0 : Nat) (s1 : Nat) :
    Q d 1 265 [some (.ref x0), u1, u2, u3, u4, u5] [.ref s1, .ref s0] h =
  (ck (gC h s0) 14 <|
  Q d 1 274 [some (.ref x0), u1, u2, u3, u4, u5] [.ref (gN h), .ref x0] (nwA (sR h 3623 s0 (some s1)) 60 128)) := by
  exact (blkM (fun p => Nat.beq p 274) 6 265 _ _ _).trans rfl

set_option maxRecDepth 16384 in
theorem n_1_274 {d : Nat} {h : AH} (x0 : Nat) (u1 : Option Value) (u2 : Option Value) (u3 : Option Value) (u4 : Option Value) (u5 : Option Value) (s0 : Nat) (s1 : Nat) :
    Q d 1 274 [some (.ref x0), u1, u2, u3, u4, u5] [.ref s1, .ref s0] h =
  (ck (gC h s0) 14 <|
  Q d 1 283 [some (.ref x0), u1, u2, u3, u4, u5] [.ref (gN h), .ref x0] (nwA (sR h 3624 s0 (some s1)) 60 128)) := by
  exact (blkM (fun p => Nat.beq p 283) 6 274 _ _ _).trans rfl

set_option maxRecDepth 16384 in
theorem n_1_283 {d : Nat} {h : AH} (x0 : Nat) (u1 : Option Value) (u2 : Option Value) (u3 : Option Value) (u4 : Option Value) (u5 : Option Value) (s0 : Nat) (s1 : Nat) :
    Q d 1 283 [some (.ref x0), u1, u2, u3, u4, u5] [.ref s1, .ref s0] h =
  (ck (gC h s0) 14 <|
  Q d 1 292 [some (.ref x0), u1, u2, u3, u4, u5] [.ref (gN h), .ref x0] (nwA (sR h 3625 s0 (some s1)) 60 128)) := by
  exact (blkM (fun p => Nat.beq p 292) 6 283 _ _ _).trans rfl

set_option maxRecDepth 16384 in
theorem n_1_292 {d : Nat} {h : AH} (x0 : Nat) (u1 : Option Value) (u2 : Option Value) (u3 : Option Value) (u4 : Option Value) (u5 : Option Value) (s0 : Nat) (s1 : Nat) :
    Q d 1 292 [some (.ref x0), u1, u2, u3, u4, u5] [.ref s1, .ref s0] h =
  (ck (gC h s0) 14 <|
  Q d 1 299 [some (.ref x0), u1, u2, u3, u4, u5] [.ref (gN h), .ref x0] (nwA (sR h 3626 s0 (some s1)) 60 2)) := by
  exact (blkM (fun p => Nat.beq p 299) 6 292 _ _ _).trans rfl

set_option maxRecDepth 16384 in
theorem n_1_299 {d : Nat} {h : AH} (x0 : Nat) (u1 : Option Value) (u2 : Option Value) (u3 : Option Value) (u4 : Option Value) (u5 : Option Value) (s0 : Nat) (s1 : Nat) :
    Q d 1 299 [some (.ref x0), u1, u2, u3, u4, u5] [.ref s1, .ref s0] h =
  (ck (gC h s0) 14 <|
  Q d 1 307 [some (.ref x0), u1, u2, u3, u4, u5] [.ref (gN h), .ref x0] (nwA (sR h 3627 s0 (some s1)) 60 80)) := by
  exact (blkM (fun p => Nat.beq p 307) 6 299 _ _ _).trans rfl

set_option maxRecDepth 16384 in
theorem n_1_307 {d : Nat} {h : AH} (x0 : Nat) (u1 : Option Value) (u2 : Option Value) (u3 : Option Value) (u4 : Option Value) (u5 : Option Value) (s0 : Nat) (s1 : Nat) :
    Q d 1 307 [some (.ref x0), u1, u2, u3, u4, u5] [.ref s1, .ref s0] h =
  (ck (gC h s0) 14 <|
  Q d 1 315 [some (.ref x0), u1, u2, u3, u4, u5] [.ref (gN h), .ref x0] (nwA (sR h 3628 s0 (some s1)) 60 80)) := by
  exact (blkM (fun p => Nat.beq p 315) 6 307 _ _ _).trans rfl

set_option maxRecDepth 16384 in
theorem n_1_315 {d : Nat} {h : AH} (x0 : Nat) (u1 : Option Value) (u2 : Option Value) (u3 : Option Value) (u4 : Option Value) (u5 : Option Value) (s0 : Nat) (s1 : Nat) :
    Q d 1 315 [some (.ref x0), u1, u2, u3, u4, u5] [.ref s1, .ref s0] h =
  (ck (gC h s0) 14 <|
  Q d 1 323 [some (.ref x0), u1, u2, u3, u4, u5] [.ref (gN h), .ref x0] (nwA (sR h 3629 s0 (some s1)) 60 80)) := by
  exact (blkM (fun p => Nat.beq p 323) 6 315 _ _ _).trans rfl

set_option maxRecDepth 16384 in
theorem n_1_323 {d : Nat} {h : AH} (x0 : Nat) (u1 : Option Value) (u2 : Option Value) (u3 : Option Value) (u4 : Option Value) (u5 : Option Value) (s0 : Nat) (s1 : Nat) :
    Q d 1 323 [some (.ref x0), u1, u2, u3, u4, u5] [.ref s1, .ref s0] h =
  (ck (gC h s0) 14 <|
  Q d 1 331 [some (.ref x0), u1, u2, u3, u4, u5] [.ref (gN h), .ref x0] (nwA (sR h 3630 s0 (some s1)) 60 80)) := by
  exact (blkM (fun p => Nat.beq p 331) 6 323 _ _ _).trans rfl

set_option maxRecDepth 16384 in
theorem n_1_331 {d : Nat} {h : AH} (x0 : Nat) (u1 : Option Value) (u2 : Option Value) (u3 : Option Value) (u4 : Option Value) (u5 : Option Value) (s0 : Nat) (s1 : Nat) :
    Q d 1 331 [some (.ref x0), u1, u2, u3, u4, u5] [.ref s1, .ref s0] h =
  (ck (gC h s0) 14 <|
  Q d 1 339 [some (.ref x0), u1, u2, u3, u4, u5] [.ref (gN h), .ref x0] (nwA (sR h 3631 s0 (some s1)) 60 80)) := by
  exact (blkM (fun p => Nat.beq p 339) 6 331 _ _ _).trans rfl

set_option maxRecDepth 16384 in
theorem n_1_339 {d : Nat} {h : AH} (x0 : Nat) (u1 : Option Value) (u2 : Option Value) (u3 : Option Value) (u4 : Option Value) (u5 : Option Value) (s0 : Nat) (s1 : Nat) :
    Q d 1 339 [some (.ref x0), u1, u2, u3, u4, u5] [.ref s1, .ref s0] h =
  (ck (gC h s0) 14 <|
  Q d 1 347 [some (.ref x0), u1, u2, u3, u4, u5] [.ref (gN h), .ref x0] (nwA (sR h 3632 s0 (some s1)) 60 80)) := by
  exact (blkM (fun p => Nat.beq p 347) 6 339 _ _ _).trans rfl

set_option maxRecDepth 16384 in
theorem n_1_347 {d : Nat} {h : AH} (x0 : Nat) (u1 : Option Value) (u2 : Option Value) (u3 : Option Value) (u4 : Option Value) (u5 : Option Value) (s0 : Nat) (s1 : Nat) :
    Q d 1 347 [some (.ref x0), u1, u2, u3, u4, u5] [.ref s1, .ref s0] h =
  (ck (gC h s0) 14 <|
  Q d 1 355 [some (.ref x0), u1, u2, u3, u4, u5] [.ref (gN h), .ref x0] (nwA (sR h 3633 s0 (some s1)) 60 80)) := by
  exact (blkM (fun p => Nat.beq p 355) 6 347 _ _ _).trans rfl

set_option maxRecDepth 16384 in
theorem n_1_355 {d : Nat} {h : AH} (x0 : Nat) (u1 : Option Value) (u2 : Option Value) (u3 : Option Value) (u4 : Option Value) (u5 : Option Value) (s0 : Nat) (s1 : Nat) :
    Q d 1 355 [some (.ref x0), u1, u2, u3, u4, u5] [.ref s1, .ref s0] h =
  (ck (gC h s0) 14 <|
  Q d 1 364 [some (.ref x0), u1, u2, u3, u4, u5] [.ref (gN h), .ref x0] (nwA (sR h 3634 s0 (some s1)) 60 1200)) := by
  exact (blkM (fun p => Nat.beq p 364) 6 355 _ _ _).trans rfl

set_option maxRecDepth 16384 in
theorem n_1_364 {d : Nat} {h : AH} (x0 : Nat) (u1 : Option Value) (u2 : Option Value) (u3 : Option Value) (u4 : Option Value) (u5 : Option Value) (s0 : Nat) (s1 : Nat) :
    Q d 1 364 [some (.ref x0), u1, u2, u3, u4, u5] [.ref s1, .ref s0] h =
  (ck (gC h s0) 14 <|
  Q d 1 372 [some (.ref x0), u1, u2, u3, u4, u5] [.ref (gN h), .ref x0] (nwA (sR h 3635 s0 (some s1)) 60 82)) := by
  exact (blkM (fun p => Nat.beq p 372) 6 364 _ _ _).trans rfl

set_option maxRecDepth 16384 in
theorem n_1_372 {d : Nat} {h : AH} (x0 : Nat) (u1 : Option Value) (u2 : Option Value) (u3 : Option Value) (u4 : Option Value) (u5 : Option Value) (s0 : Nat) (s1 : Nat) :
    Q d 1 372 [some (.ref x0), u1, u2, u3, u4, u5] [.ref s1, .ref s0] h =
  (ck (gC h s0) 14 <|
  Q d 1 380 [some (.ref x0), u1, u2, u3, u4, u5] [.ref (gN h), .ref x0] (nwA (sR h 3636 s0 (some s1)) 60 82)) := by
  exact (blkM (fun p => Nat.beq p 380) 6 372 _ _ _).trans rfl

set_option maxRecDepth 16384 in
theorem n_1_380 {d : Nat} {h : AH} (x0 : Nat) (u1 : Option Value) (u2 : Option Value) (u3 : Option Value) (u4 : Option Value) (u5 : Option Value) (s0 : Nat) (s1 : Nat) :
    Q d 1 380 [some (.ref x0), u1, u2, u3, u4, u5] [.ref s1, .ref s0] h =
  (ck (gC h s0) 14 <|
  ck (gC h x0) 14 <|
  ck (gC h x0) 14 <|
  Q d 1 399 [some (.ref x0), u1, u2, u3, u4, u5] [.ref (gN h), .ref x0] (nwA (sI (sI (sR h 3637 s0 (some s1)) 3644 x0 (-1)) 3645 x0 (-1)) 60 2200)) := by
  exact (blkM (fun p => Nat.beq p 399) 12 380 _ _ _).trans rfl

set_option maxRecDepth 16384 in
theorem n_1_399 {d : Nat} {h : AH} (x0 : Nat) (u1 : Option Value) (u2 : Option Value) (u3 : Option Value) (u4 : Option Value) (u5 : Option Value) (s0 : Nat) (s1 : Nat) :
    Q d 1 399 [some (.ref x0), u1, u2, u3, u4, u5] [.ref s1, .ref s0] h =
  (ck (gC h s0) 14 <|
  Q d 1 407 [some (.ref x0), u1, u2, u3, u4, u5] [.ref (gN h), .ref x0] (nwA (sR h 3646 s0 (some s1)) 60 11)) := by
  exact (blkM (fun p => Nat.beq p 407) 6 399 _ _ _).trans rfl

set_option maxRecDepth 16384 in
theorem n_1_407 {d : Nat} {h : AH} (x0 : Nat) (u1 : Option Value) (u2 : Option Value) (u3 : Option Value) (u4 : Option Value) (u5 : Option Value) (s0 : Nat) (s1 : Nat) :
    Q d 1 407 [some (.ref x0), u1, u2, u3, u4, u5] [.ref s1, .ref s0] h =
  (ck (gC h s0) 14 <|
  Q d 1 415 [some (.ref x0), u1, u2, u3, u4, u5] [.ref (gN h), .ref x0] (nwA (sR h 3647 s0 (some s1)) 60 11)) := by
  exact (blkM (fun p => Nat.beq p 415) 6 407 _ _ _).trans rfl

set_option maxRecDepth 16384 in
theorem n_1_415 {d : Nat} {h : AH} (x0 : Nat) (u1 : Option Value) (u2 : Option Value) (u3 : Option Value) (u4 : Option Value) (u5 : Option Value) (s0 : Nat) (s1 : Nat) :
    Q d 1 415 [some (.ref x0), u1, u2, u3, u4, u5] [.ref s1, .ref s0] h =
  (ck (gC h s0) 14 <|
  Q d 1 423 [some (.ref x0), u1, u2, u3, u4, u5] [.ref (gN h), .ref x0] (nwA (sR h 3648 s0 (some s1)) 60 20)) := by
  exact (blkM (fun p => Nat.beq p 423) 6 415 _ _ _).trans rfl

set_option maxRecDepth 16384 in
theorem n_1_423 {d : Nat} {h : AH} (x0 : Nat) (u1 : Option Value) (u2 : Option Value) (u3 : Option Value) (u4 : Option Value) (u5 : Option Value) (s0 : Nat) (s1 : Nat) :
    Q d 1 423 [some (.ref x0), u1, u2, u3, u4, u5] [.ref s1, .ref s0] h =
  (ck (gC h s0) 14 <|
  Q d 1 431 [some (.ref x0), u1, u2, u3, u4, u5] [.ref (gN h), .ref x0] (nwA (sR h 3650 s0 (some s1)) 60 11)) := by
  exact (blkM (fun p => Nat.beq p 431) 6 423 _ _ _).trans rfl

set_option maxRecDepth 16384 in
theorem n_1_431 {d : Nat} {h : AH} (x0 : Nat) (u1 : Option Value) (u2 : Option Value) (u3 : Option Value) (u4 : Option Value) (u5 : Option Value) (s0 : Nat) (s1 : Nat) :
    Q d 1 431 [some (.ref x0), u1, u2, u3, u4, u5] [.ref s1, .ref s0] h =
  (ck (gC h s0) 14 <|
  Q d 1 439 [some (.ref x0), u1, u2, u3, u4, u5] [.ref (gN h), .ref x0] (nwA (sR h 3651 s0 (some s1)) 63 11)) := by
  exact (blkM (fun p => Nat.beq p 439) 6 431 _ _ _).trans rfl

set_option maxRecDepth 16384 in
theorem n_1_439 {d : Nat} {h : AH} (x0 : Nat) (u1 : Option Value) (u2 : Option Value) (u3 : Option Value) (u4 : Option Value) (u5 : Option Value) (s0 : Nat) (s1 : Nat) :
    Q d 1 439 [some (.ref x0), u1, u2, u3, u4, u5] [.ref s1, .ref s0] h =
  (ck (gC h s0) 14 <|
  ck (gC h x0) 14 <|
  Q d 1 453 [some (.ref x0), u1, u2, u3, u4, u5] [.ref (gN h), .ref x0] (nwA (sI (sR h 3652 s0 (some s1)) 3653 x0 (-1)) 60 200)) := by
  exact (blkM (fun p => Nat.beq p 453) 9 439 _ _ _).trans rfl

set_option maxRecDepth 16384 in
theorem n_1_453 {d : Nat} {h : AH} (x0 : Nat) (u1 : Option Value) (u2 : Option Value) (u3 : Option Value) (u4 : Option Value) (u5 : Option Value) (s0 : Nat) (s1 : Nat) :
    Q d 1 453 [some (.ref x0), u1, u2, u3, u4, u5] [.ref s1, .ref s0] h =
  (ck (gC h s0) 14 <|
  Q d 1 462 [some (.ref x0), u1, u2, u3, u4, u5] [.ref (gN h), .ref x0] (nwA (sR h 3655 s0 (some s1)) 60 200)) := by
  exact (blkM (fun p => Nat.beq p 462) 6 453 _ _ _).trans rfl

set_option maxRecDepth 16384 in
theorem n_1_462 {d : Nat} {h : AH} (x0 : Nat) (u1 : Option Value) (u2 : Option Value) (u3 : Option Value) (u4 : Option Value) (u5 : Option Value) (s0 : Nat) (s1 : Nat) :
    Q d 1 462 [some (.ref x0), u1, u2, u3, u4, u5] [.ref s1, .ref s0] h =
  (ck (gC h s0) 14 <|
  Q d 1 471 [some (.ref x0), u1, u2, u3, u4, u5] [.ref (gN h), .ref x0] (nwA (sR h 3656 s0 (some s1)) 60 200)) := by
  exact (blkM (fun p => Nat.beq p 471) 6 462 _ _ _).trans rfl

set_option maxRecDepth 16384 in
theorem n_1_471 {d : Nat} {h : AH} (x0 : Nat) (u1 : Option Value) (u2 : Option Value) (u3 : Option Value) (u4 : Option Value) (u5 : Option Value) (s0 : Nat) (s1 : Nat) :
    Q d 1 471 [some (.ref x0), u1, u2, u3, u4, u5] [.ref s1, .ref s0] h =
  (ck (gC h s0) 14 <|
  Q d 1 480 [some (.ref x0), u1, u2, u3, u4, u5] [.ref (gN h), .ref x0] (nwA (sR h 3657 s0 (some s1)) 60 200)) := by
  exact (blkM (fun p => Nat.beq p 480) 6 471 _ _ _).trans rfl

set_option maxRecDepth 16384 in
theorem n_1_480 {d : Nat} {h : AH} (x0 : Nat) (u1 : Option Value) (u2 : Option Value) (u3 : Option Value) (u4 : Option Value) (u5 : Option Value) (s0 : Nat) (s1 : Nat) :
    Q d 1 480 [some (.ref x0), u1, u2, u3, u4, u5] [.ref s1, .ref s0] h =
  (ck (gC h s0) 14 <|
  Q d 1 489 [some (.ref x0), u1, u2, u3, u4, u5] [.ref (gN h), .ref x0] (nwA (sR h 3658 s0 (some s1)) 60 200)) := by
  exact (blkM (fun p => Nat.beq p 489) 6 480 _ _ _).trans rfl

set_option maxRecDepth 16384 in
theorem n_1_489 {d : Nat} {h : AH} (x0 : Nat) (u1 : Option Value) (u2 : Option Value) (u3 : Option Value) (u4 : Option Value) (u5 : Option Value) (s0 : Nat) (s1 : Nat) :
    Q d 1 489 [some (.ref x0), u1, u2, u3, u4, u5] [.ref s1, .ref s0] h =
  (ck (gC h s0) 14 <|
  Q d 1 498 [some (.ref x0), u1, u2, u3, u4, u5] [.ref (gN h), .ref x0] (nwA (sR h 3659 s0 (some s1)) 60 200)) := by
  exact (blkM (fun p => Nat.beq p 498) 6 489 _ _ _).trans rfl

set_option maxRecDepth 16384 in
theorem n_1_498 {d : Nat} {h : AH} (x0 : Nat) (u1 : Option Value) (u2 : Option Value) (u3 : Option Value) (u4 : Option Value) (u5 : Option Value) (s0 : Nat) (s1 : Nat) :
    Q d 1 498 [some (.ref x0), u1, u2, u3, u4, u5] [.ref s1, .ref s0] h =
  (ck (gC h s0) 14 <|
  Q d 1 507 [some (.ref x0), u1, u2, u3, u4, u5] [.ref (gN h), .ref x0] (nwA (sR h 3660 s0 (some s1)) 60 200)) := by
  exact (blkM (fun p => Nat.beq p 507) 6 498 _ _ _).trans rfl

set_option maxRecDepth 16384 in
theorem n_1_507 {d : Nat} {h : AH} (x0 : Nat) (u1 : Option Value) (u2 : Option Value) (u3 : Option Value) (u4 : Option Value) (u5 : Option Value) (s0 : Nat) (s1 : Nat) :
    Q d 1 507 [some (.ref x0), u1, u2, u3, u4, u5] [.ref s1, .ref s0] h =
  (ck (gC h s0) 14 <|
  Q d 1 516 [some (.ref x0), u1, u2, u3, u4, u5] [.ref (gN h), .ref x0] (nwA (sR h 3661 s0 (some s1)) 60 200)) := by
  exact (blkM (fun p => Nat.beq p 516) 6 507 _ _ _).trans rfl

set_option maxRecDepth 16384 in
theorem n_1_516 {d : Nat} {h : AH} (x0 : Nat) (u1 : Option Value) (u2 : Option Value) (u3 : Option Value) (u4 : Option Value) (u5 : Option Value) (s0 : Nat) (s1 : Nat) :
    Q d 1 516 [some (.ref x0), u1, u2, u3, u4, u5] [.ref s1, .ref s0] h =
  (ck (gC h s0) 14 <|
  Q d 1 525 [some (.ref x0), u1, u2, u3, u4, u5] [.ref (gN h), .ref x0] (nwA (sR h 3662 s0 (some s1)) 60 200)) := by
  exact (blkM (fun p => Nat.beq p 525) 6 516 _ _ _).trans rfl

set_option maxRecDepth 16384 in
theorem n_1_525 {d : Nat} {h : AH} (x0 : Nat) (u1 : Option Value) (u2 : Option Value) (u3 : Option Value) (u4 : Option Value) (u5 : Option Value) (s0 : Nat) (s1 : Nat) :
    Q d 1 525 [some (.ref x0), u1, u2, u3, u4, u5] [.ref s1, .ref s0] h =
  (ck (gC h s0) 14 <|
  Q d 1 534 [some (.ref x0), u1, u2, u3, u4, u5] [.ref (gN h), .ref x0] (nwA (sR h 3663 s0 (some s1)) 60 200)) := by
  exact (blkM (fun p => Nat.beq p 534) 6 525 _ _ _).trans rfl

set_option maxRecDepth 16384 in
theorem n_1_534 {d : Nat} {h : AH} (x0 : Nat) (u1 : Option Value) (u2 : Option Value) (u3 : Option Value) (u4 : Option Value) (u5 : Option Value) (s0 : Nat) (s1 : Nat) :
    Q d 1 534 [some (.ref x0), u1, u2, u3, u4, u5] [.ref s1, .ref s0] h =
  (ck (gC h s0) 14 <|
  Q d 1 543 [some (.ref x0), u1, u2, u3, u4, u5] [.ref (gN h), .ref x0] (nwA (sR h 3664 s0 (some s1)) 60 200)) := by
  exact (blkM (fun p => Nat.beq p 543) 6 534 _ _ _).trans rfl

set_option maxRecDepth 16384 in
theorem n_1_543 {d : Nat} {h : AH} (x0 : Nat) (u1 : Option Value) (u2 : Option Value) (u3 : Option Value) (u4 : Option Value) (u5 : Option Value) (s0 : Nat) (s1 : Nat) :
    Q d 1 543 [some (.ref x0), u1, u2, u3, u4, u5] [.ref s1, .ref s0] h =
  (ck (gC h s0) 14 <|
  Q d 1 552 [some (.ref x0), u1, u2, u3, u4, u5] [.ref (gN h), .ref x0] (nwA (sR h 3665 s0 (some s1)) 60 200)) := by
  exact (blkM (fun p => Nat.beq p 552) 6 543 _ _ _).trans rfl

set_option maxRecDepth 16384 in
theorem n_1_552 {d : Nat} {h : AH} (x0 : Nat) (u1 : Option Value) (u2 : Option Value) (u3 : Option Value) (u4 : Option Value) (u5 : Option Value) (s0 : Nat) (s1 : Nat) :
    Q d 1 552 [some (.ref x0), u1, u2, u3, u4, u5] [.ref s1, .ref s0] h =
  (ck (gC h s0) 14 <|
  Q d 1 561 [some (.ref x0), u1, u2, u3, u4, u5] [.ref (gN h), .ref x0] (nwA (sR h 3666 s0 (some s1)) 60 3200)) := by
  exact (blkM (fun p => Nat.beq p 561) 6 552 _ _ _).trans rfl

set_option maxRecDepth 16384 in
theorem n_1_561 {d : Nat} {h : AH} (x0 : Nat) (u1 : Option Value) (u2 : Option Value) (u3 : Option Value) (u4 : Option Value) (u5 : Option Value) (s0 : Nat) (s1 : Nat) :
    Q d 1 561 [some (.ref x0), u1, u2, u3, u4, u5] [.ref s1, .ref s0] h =
  (ck (gC h s0) 14 <|
  Q d 1 569 [some (.ref x0), u1, u2, u3, u4, u5] [.ref (gN h), .ref x0] (nwA (sR h 3668 s0 (some s1)) 60 16)) := by
  exact (blkM (fun p => Nat.beq p 569) 6 561 _ _ _).trans rfl

set_option maxRecDepth 16384 in
theorem n_1_569 {d : Nat} {h : AH} (x0 : Nat) (u1 : Option Value) (u2 : Option Value) (u3 : Option Value) (u4 : Option Value) (u5 : Option Value) (s0 : Nat) (s1 : Nat) :
    Q d 1 569 [some (.ref x0), u1, u2, u3, u4, u5] [.ref s1, .ref s0] h =
  (ck (gC h s0) 14 <|
  Q d 1 578 [some (.ref x0), u1, u2, u3, u4, u5] [.ref (gN h), .ref x0] (nwA (sR h 3669 s0 (some s1)) 60 8000)) := by
  exact (blkM (fun p => Nat.beq p 578) 6 569 _ _ _).trans rfl

set_option maxRecDepth 16384 in
theorem n_1_578 {d : Nat} {h : AH} (x0 : Nat) (u1 : Option Value) (u2 : Option Value) (u3 : Option Value) (u4 : Option Value) (u5 : Option Value) (s0 : Nat) (s1 : Nat) :
    Q d 1 578 [some (.ref x0), u1, u2, u3, u4, u5] [.ref s1, .ref s0] h =
  (ck (gC h s0) 14 <|
  Q d 1 586 [some (.ref x0), u1, u2, u3, u4, u5] [.ref (gN h), .ref x0] (nwA (sR h 3670 s0 (some s1)) 60 40)) := by
  exact (blkM (fun p => Nat.beq p 586) 6 578 _ _ _).trans rfl

set_option maxRecDepth 16384 in
theorem n_1_586 {d : Nat} {h : AH} (x0 : Nat) (u1 : Option Value) (u2 : Option Value) (u3 : Option Value) (u4 : Option Value) (u5 : Option Value) (s0 : Nat) (s1 : Nat) :
    Q d 1 586 [some (.ref x0), u1, u2, u3, u4, u5] [.ref s1, .ref s0] h =
  (ck (gC h s0) 14 <|
  Q d 1 595 [some (.ref x0), u1, u2, u3, u4, u5] [.ref (gN h), .ref x0] (nwA (sR h 3671 s0 (some s1)) 60 4000)) := by
  exact (blkM (fun p => Nat.beq p 595) 6 586 _ _ _).trans rfl

set_option maxRecDepth 16384 in
theorem n_1_595 {d : Nat} {h : AH} (x0 : Nat) (u1 : Option Value) (u2 : Option Value) (u3 : Option Value) (u4 : Option Value) (u5 : Option Value) (s0 : Nat) (s1 : Nat) :
    Q d 1 595 [some (.ref x0), u1, u2, u3, u4, u5] [.ref s1, .ref s0] h =
  (ck (gC h s0) 14 <|
  Q d 1 604 [some (.ref x0), u1, u2, u3, u4, u5] [.ref (gN h), .ref x0] (nwA (sR h 3672 s0 (some s1)) 60 200)) := by
  exact (blkM (fun p => Nat.beq p 604) 6 595 _ _ _).trans rfl

set_option maxRecDepth 16384 in
theorem n_1_604 {d : Nat} {h : AH} (x0 : Nat) (u1 : Option Value) (u2 : Option Value) (u3 : Option Value) (u4 : Option Value) (u5 : Option Value) (s0 : Nat) (s1 : Nat) :
    Q d 1 604 [some (.ref x0), u1, u2, u3, u4, u5] [.ref s1, .ref s0] h =
  (ck (gC h s0) 14 <|
  Q d 1 613 [some (.ref x0), u1, u2, u3, u4, u5] [.ref (gN h), .ref x0] (nwA (sR h 3673 s0 (some s1)) 60 200)) := by
  exact (blkM (fun p => Nat.beq p 613) 6 604 _ _ _).trans rfl

set_option maxRecDepth 16384 in
theorem n_1_613 {d : Nat} {h : AH} (x0 : Nat) (u1 : Option Value) (u2 : Option Value) (u3 : Option Value) (u4 : Option Value) (u5 : Option Value) (s0 : Nat) (s1 : Nat) :
    Q d 1 613 [some (.ref x0), u1, u2, u3, u4, u5] [.ref s1, .ref s0] h =
  (ck (gC h s0) 14 <|
  Q d 1 622 [some (.ref x0), u1, u2, u3, u4, u5] [.ref (gN h), .ref x0] (nwA (sR h 3674 s0 (some s1)) 60 200)) := by
  exact (blkM (fun p => Nat.beq p 622) 6 613 _ _ _).trans rfl

set_option maxRecDepth 16384 in
theorem n_1_622 {d : Nat} {h : AH} (x0 : Nat) (u1 : Option Value) (u2 : Option Value) (u3 : Option Value) (u4 : Option Value) (u5 : Option Value) (s0 : Nat) (s1 : Nat) :
    Q d 1 622 [some (.ref x0), u1, u2, u3, u4, u5] [.ref s1, .ref s0] h =
  (ck (gC h s0) 14 <|
  ck (gC h x0) 14 <|
  ck (gC h x0) 14 <|
  Q d 1 641 [some (.ref x0), u1, u2, u3, u4, u5] [.ref (gN h), .ref x0] (nwA (sI (sI (sR h 3675 s0 (some s1)) 3678 x0 (nI 7)) 3679 x0 (-1)) 60 16)) := by
  exact (blkM (fun p => Nat.beq p 641) 12 622 _ _ _).trans rfl

set_option maxRecDepth 16384 in
theorem n_1_641 {d : Nat} {h : AH} (x0 : Nat) (u1 : Option Value) (u2 : Option Value) (u3 : Option Value) (u4 : Option Value) (u5 : Option Value) (s0 : Nat) (s1 : Nat) :
    Q d 1 641 [some (.ref x0), u1, u2, u3, u4, u5] [.ref s1, .ref s0] h =
  (ck (gC h s0) 14 <|
  Q d 1 649 [some (.ref x0), u1, u2, u3, u4, u5] [.ref (gN h), .ref x0] (nwA (sR h 3681 s0 (some s1)) 60 16)) := by
  exact (blkM (fun p => Nat.beq p 649) 6 641 _ _ _).trans rfl

set_option maxRecDepth 16384 in
theorem n_1_649 {d : Nat} {h : AH} (x0 : Nat) (u1 : Option Value) (u2 : Option Value) (u3 : Option Value) (u4 : Option Value) (u5 : Option Value) (s0 : Nat) (s1 : Nat) :
    Q d 1 649 [some (.ref x0), u1, u2, u3, u4, u5] [.ref s1, .ref s0] h =
  (ck (gC h s0) 14 <|
  Q d 1 657 [some (.ref x0), u1, u2, u3, u4, u5] [.ref (gN h), .ref x0] (nwA (sR h 3682 s0 (some s1)) 60 16)) := by
  exact (blkM (fun p => Nat.beq p 657) 6 649 _ _ _).trans rfl

set_option maxRecDepth 16384 in
theorem n_1_657 {d : Nat} {h : AH} (x0 : Nat) (u1 : Option Value) (u2 : Option Value) (u3 : Option Value) (u4 : Option Value) (u5 : Option Value) (s0 : Nat) (s1 : Nat) :
    Q d 1 657 [some (.ref x0), u1, u2, u3, u4, u5] [.ref s1, .ref s0] h =
  (ck (gC h s0) 14 <|
  Q d 1 665 [some (.ref x0), u1, u2, u3, u4, u5] [.ref (gN h), .ref x0] (nwA (sR h 3683 s0 (some s1)) 60 40)) := by
  exact (blkM (fun p => Nat.beq p 665) 6 657 _ _ _).trans rfl

set_option maxRecDepth 16384 in
theorem n_1_665 {d : Nat} {h : AH} (x0 : Nat) (u1 : Option Value) (u2 : Option Value) (u3 : Option Value) (u4 : Option Value) (u5 : Option Value) (s0 : Nat) (s1 : Nat) :
    Q d 1 665 [some (.ref x0), u1, u2, u3, u4, u5] [.ref s1, .ref s0] h =
  (ck (gC h s0) 14 <|
  Q d 1 673 [some (.ref x0), u1, u2, u3, u4, u5] [.ref (gN h), .ref x0] (nwA (sR h 3684 s0 (some s1)) 60 40)) := by
  exact (blkM (fun p => Nat.beq p 673) 6 665 _ _ _).trans rfl

set_option maxRecDepth 16384 in
theorem n_1_673 {d : Nat} {h : AH} (x0 : Nat) (u1 : Option Value) (u2 : Option Value) (u3 : Option Value) (u4 : Option Value) (u5 : Option Value) (s0 : Nat) (s1 : Nat) :
    Q d 1 673 [some (.ref x0), u1, u2, u3, u4, u5] [.ref s1, .ref s0] h =
  (ck (gC h s0) 14 <|
  Q d 1 681 [some (.ref x0), u1, u2, u3, u4, u5] [.ref (gN h), .ref x0] (nwA (sR h 3685 s0 (some s1)) 60 40)) := by
  exact (blkM (fun p => Nat.beq p 681) 6 673 _ _ _).trans rfl

set_option maxRecDepth 16384 in
theorem n_1_681 {d : Nat} {h : AH} (x0 : Nat) (u1 : Option Value) (u2 : Option Value) (u3 : Option Value) (u4 : Option Value) (u5 : Option Value) (s0 : Nat) (s1 : Nat) :
    Q d 1 681 [some (.ref x0), u1, u2, u3, u4, u5] [.ref s1, .ref s0] h =
  (ck (gC h s0) 14 <|
  Q d 1 689 [some (.ref x0), u1, u2, u3, u4, u5] [.ref (gN h), .ref x0] (nwA (sR h 3686 s0 (some s1)) 60 40)) := by
  exact (blkM (fun p => Nat.beq p 689) 6 681 _ _ _).trans rfl

set_option maxRecDepth 16384 in
theorem n_1_689 {d : Nat} {h : AH} (x0 : Nat) (u1 : Option Value) (u2 : Option Value) (u3 : Option Value) (u4 : Option Value) (u5 : Option Value) (s0 : Nat) (s1 : Nat) :
    Q d 1 689 [some (.ref x0), u1, u2, u3, u4, u5] [.ref s1, .ref s0] h =
  (ck (gC h s0) 14 <|
  Q d 1 697 [some (.ref x0), u1, u2, u3, u4, u5] [.ref (gN h), .ref x0] (nwA (sR h 3687 s0 (some s1)) 60 9)) := by
  exact (blkM (fun p => Nat.beq p 697) 6 689 _ _ _).trans rfl

set_option maxRecDepth 16384 in
theorem n_1_697 {d : Nat} {h : AH} (x0 : Nat) (u1 : Option Value) (u2 : Option Value) (u3 : Option Value) (u4 : Option Value) (u5 : Option Value) (s0 : Nat) (s1 : Nat) :
    Q d 1 697 [some (.ref x0), u1, u2, u3, u4, u5] [.ref s1, .ref s0] h =
  (ck (gC h s0) 14 <|
  Q d 1 705 [some (.ref x0), u1, u2, u3, u4, u5] [.ref (gN h), .ref x0] (nwA (sR h 3689 s0 (some s1)) 60 9)) := by
  exact (blkM (fun p => Nat.beq p 705) 6 697 _ _ _).trans rfl

set_option maxRecDepth 16384 in
theorem n_1_705 {d : Nat} {h : AH} (x0 : Nat) (u1 : Option Value) (u2 : Option Value) (u3 : Option Value) (u4 : Option Value) (u5 : Option Value) (s0 : Nat) (s1 : Nat) :
    Q d 1 705 [some (.ref x0), u1, u2, u3, u4, u5] [.ref s1, .ref s0] h =
  (ck (gC h s0) 14 <|
  Q d 1 714 [some (.ref x0), u1, u2, u3, u4, u5] [.ref (gN h), .ref x0] (nwA (sR h 3690 s0 (some s1)) 60 200)) := by
  exact (blkM (fun p => Nat.beq p 714) 6 705 _ _ _).trans rfl

set_option maxRecDepth 16384 in
theorem n_1_714 {d : Nat} {h : AH} (x0 : Nat) (u1 : Option Value) (u2 : Option Value) (u3 : Option Value) (u4 : Option Value) (u5 : Option Value) (s0 : Nat) (s1 : Nat) :
    Q d 1 714 [some (.ref x0), u1, u2, u3, u4, u5] [.ref s1, .ref s0] h =
  (ck (gC h s0) 14 <|
  Q d 1 723 [some (.ref x0), u1, u2, u3, u4, u5] [.ref (gN h), .ref x0] (nwA (sR h 3692 s0 (some s1)) 60 200)) := by
  exact (blkM (fun p => Nat.beq p 723) 6 714 _ _ _).trans rfl

set_option maxRecDepth 16384 in
theorem n_1_723 {d : Nat} {h : AH} (x0 : Nat) (u1 : Option Value) (u2 : Option Value) (u3 : Option Value) (u4 : Option Value) (u5 : Option Value) (s0 : Nat) (s1 : Nat) :
    Q d 1 723 [some (.ref x0), u1, u2, u3, u4, u5] [.ref s1, .ref s0] h =
  (ck (gC h s0) 14 <|
  Q d 1 732 [some (.ref x0), u1, u2, u3, u4, u5] [.ref (gN h), .ref x0] (nwA (sR h 3693 s0 (some s1)) 60 2304)) := by
  exact (blkM (fun p => Nat.beq p 732) 6 723 _ _ _).trans rfl

set_option maxRecDepth 16384 in
theorem n_1_732 {d : Nat} {h : AH} (x0 : Nat) (u1 : Option Value) (u2 : Option Value) (u3 : Option Value) (u4 : Option Value) (u5 : Option Value) (s0 : Nat) (s1 : Nat) :
    Q d 1 732 [some (.ref x0), u1, u2, u3, u4, u5] [.ref s1, .ref s0] h =
  (ck (gC h s0) 14 <|
  Q d 1 741 [some (.ref x0), u1, u2, u3, u4, u5] [.ref (gN h), .ref x0] (nwA (sR h 3694 s0 (some s1)) 60 8800)) := by
  exact (blkM (fun p => Nat.beq p 741) 6 732 _ _ _).trans rfl

set_option maxRecDepth 16384 in
theorem n_1_741 {d : Nat} {h : AH} (x0 : Nat) (u1 : Option Value) (u2 : Option Value) (u3 : Option Value) (u4 : Option Value) (u5 : Option Value) (s0 : Nat) (s1 : Nat) :
    Q d 1 741 [some (.ref x0), u1, u2, u3, u4, u5] [.ref s1, .ref s0] h =
  (ck (gC h s0) 14 <|
  Q d 1 750 [some (.ref x0), u1, u2, u3, u4, u5] [.ref (gN h), .ref x0] (nwA (sR h 3699 s0 (some s1)) 60 8800)) := by
  exact (blkM (fun p => Nat.beq p 750) 6 741 _ _ _).trans rfl

set_option maxRecDepth 16384 in
theorem n_1_750 {d : Nat} {h : AH} (x0 : Nat) (u1 : Option Value) (u2 : Option Value) (u3 : Option Value) (u4 : Option Value) (u5 : Option Value) (s0 : Nat) (s1 : Nat) :
    Q d 1 750 [some (.ref x0), u1, u2, u3, u4, u5] [.ref s1, .ref s0] h =
  (ck (gC h s0) 14 <|
  Q d 1 759 [some (.ref x0), u1, u2, u3, u4, u5] [.ref (gN h), .ref x0] (nwA (sR h 3700 s0 (some s1)) 60 1640)) := by
  exact (blkM (fun p => Nat.beq p 759) 6 750 _ _ _).trans rfl

set_option maxRecDepth 16384 in
theorem n_1_759 {d : Nat} {h : AH} (x0 : Nat) (u1 : Option Value) (u2 : Option Value) (u3 : Option Value) (u4 : Option Value) (u5 : Option Value) (s0 : Nat) (s1 : Nat) :
    Q d 1 759 [some (.ref x0), u1, u2, u3, u4, u5] [.ref s1, .ref s0] h =
  (ck (gC h s0) 14 <|
  Q d 1 768 [some (.ref x0), u1, u2, u3, u4, u5] [.ref (gN h), .ref x0] (nwA (sR h 3703 s0 (some s1)) 60 1640)) := by
  exact (blkM (fun p => Nat.beq p 768) 6 759 _ _ _).trans rfl

set_option maxRecDepth 16384 in
theorem n_1_768 {d : Nat} {h : AH} (x0 : Nat) (u1 : Option Value) (u2 : Option Value) (u3 : Option Value) (u4 : Option Value) (u5 : Option Value) (s0 : Nat) (s1 : Nat) :
    Q d 1 768 [some (.ref x0), u1, u2, u3, u4, u5] [.ref s1, .ref s0] h =
  (ck (gC h s0) 14 <|
  Q d 1 777 [some (.ref x0), u1, u2, u3, u4, u5] [.ref (gN h), .ref x0] (nwA (sR h 3704 s0 (some s1)) 60 1640)) := by
  exact (blkM (fun p => Nat.beq p 777) 6 768 _ _ _).trans rfl

set_option maxRecDepth 16384 in
theorem n_1_777 {d : Nat} {h : AH} (x0 : Nat) (u1 : Option Value) (u2 : Option Value) (u3 : Option Value) (u4 : Option Value) (u5 : Option Value) (s0 : Nat) (s1 : Nat) :
    Q d 1 777 [some (.ref x0), u1, u2, u3, u4, u5] [.ref s1, .ref s0] h =
  (ck (gC h s0) 14 <|
  Q d 1 786 [some (.ref x0), u1, u2, u3, u4, u5] [.ref (gN h), .ref x0] (nwA (sR h 3705 s0 (some s1)) 60 1400)) := by
  exact (blkM (fun p => Nat.beq p 786) 6 777 _ _ _).trans rfl

set_option maxRecDepth 16384 in
theorem n_1_786 {d : Nat} {h : AH} (x0 : Nat) (u1 : Option Value) (u2 : Option Value) (u3 : Option Value) (u4 : Option Value) (u5 : Option Value) (s0 : Nat) (s1 : Nat) :
    Q d 1 786 [some (.ref x0), u1, u2, u3, u4, u5] [.ref s1, .ref s0] h =
  (ck (gC h s0) 14 <|
  Q d 1 795 [some (.ref x0), u1, u2, u3, u4, u5] [.ref (gN h), .ref x0] (nwA (sR h 3706 s0 (some s1)) 60 1400)) := by
  exact (blkM (fun p => Nat.beq p 795) 6 786 _ _ _).trans rfl

set_option maxRecDepth 16384 in
theorem n_1_795 {d : Nat} {h : AH} (x0 : Nat) (u1 : Option Value) (u2 : Option Value) (u3 : Option Value) (u4 : Option Value) (u5 : Option Value) (s0 : Nat) (s1 : Nat) :
    Q d 1 795 [some (.ref x0), u1, u2, u3, u4, u5] [.ref s1, .ref s0] h =
  (ck (gC h s0) 14 <|
  Q d 1 804 [some (.ref x0), u1, u2, u3, u4, u5] [.ref (gN h), .ref x0] (nwA (sR h 3707 s0 (some s1)) 60 1400)) := by
  exact (blkM (fun p => Nat.beq p 804) 6 795 _ _ _).trans rfl

set_option maxRecDepth 16384 in
theorem n_1_804 {d : Nat} {h : AH} (x0 : Nat) (u1 : Option Value) (u2 : Option Value) (u3 : Option Value) (u4 : Option Value) (u5 : Option Value) (s0 : Nat) (s1 : Nat) :
    Q d 1 804 [some (.ref x0), u1, u2, u3, u4, u5] [.ref s1, .ref s0] h =
  (ck (gC h s0) 14 <|
  Q d 1 812 [some (.ref x0), u1, u2, u3, u4, u5] [.ref (gN h), .ref x0] (nwA (sR h 3709 s0 (some s1)) 61 10)) := by
  exact (blkM (fun p => Nat.beq p 812) 6 804 _ _ _).trans rfl

set_option maxRecDepth 16384 in
theorem n_1_812 {d : Nat} {h : AH} (x0 : Nat) (u1 : Option Value) (u2 : Option Value) (u3 : Option Value) (u4 : Option Value) (u5 : Option Value) (s0 : Nat) (s1 : Nat) :
    Q d 1 812 [some (.ref x0), u1, u2, u3, u4, u5] [.ref s1, .ref s0] h =
  (ck (gC h s0) 14 <|
  Q d 1 819 [some (.ref x0), u1, u2, u3, u4, u5] [.ref (gN h), .ref x0] (nwA (sR h 3710 s0 (some s1)) 60 4)) := by
  exact (blkM (fun p => Nat.beq p 819) 6 812 _ _ _).trans rfl

set_option maxRecDepth 16384 in
theorem n_1_819 {d : Nat} {h : AH} (x0 : Nat) (u1 : Option Value) (u2 : Option Value) (u3 : Option Value) (u4 : Option Value) (u5 : Option Value) (s0 : Nat) (s1 : Nat) :
    Q d 1 819 [some (.ref x0), u1, u2, u3, u4, u5] [.ref s1, .ref s0] h =
  (ck (gC h s0) 14 <|
  Q d 1 827 [some (.ref x0), u1, u2, u3, u4, u5] [.ref (gN h), .ref x0] (nwA (sR h 3711 s0 (some s1)) 60 12)) := by
  exact (blkM (fun p => Nat.beq p 827) 6 819 _ _ _).trans rfl

set_option maxRecDepth 16384 in
theorem n_1_827 {d : Nat} {h : AH} (x0 : Nat) (u1 : Option Value) (u2 : Option Value) (u3 : Option Value) (u4 : Option Value) (u5 : Option Value) (s0 : Nat) (s1 : Nat) :
    Q d 1 827 [some (.ref x0), u1, u2, u3, u4, u5] [.ref s1, .ref s0] h =
  (ck (gC h s0) 14 <|
  Q d 1 835 [some (.ref x0), u1, u2, u3, u4, u5] [.ref (gN h), .ref x0] (nwA (sR h 3712 s0 (some s1)) 60 13)) := by
  exact (blkM (fun p => Nat.beq p 835) 6 827 _ _ _).trans rfl

set_option maxRecDepth 16384 in
theorem n_1_835 {d : Nat} {h : AH} (x0 : Nat) (u1 : Option Value) (u2 : Option Value) (u3 : Option Value) (u4 : Option Value) (u5 : Option Value) (s0 : Nat) (s1 : Nat) :
    Q d 1 835 [some (.ref x0), u1, u2, u3, u4, u5] [.ref s1, .ref s0] h =
  (ck (gC h s0) 14 <|
  Q d 1 843 [some (.ref x0), u1, u2, u3, u4, u5] [.ref (gN h), .ref x0] (nwA (sR h 3713 s0 (some s1)) 60 13)) := by
  exact (blkM (fun p => Nat.beq p 843) 6 835 _ _ _).trans rfl

set_option maxRecDepth 16384 in
theorem n_1_843 {d : Nat} {h : AH} (x0 : Nat) (u1 : Option Value) (u2 : Option Value) (u3 : Option Value) (u4 : Option Value) (u5 : Option Value) (s0 : Nat) (s1 : Nat) :
    Q d 1 843 [some (.ref x0), u1, u2, u3, u4, u5] [.ref s1, .ref s0] h =
  (ck (gC h s0) 14 <|
  Q d 1 851 [some (.ref x0), u1, u2, u3, u4, u5] [.ref (gN h), .ref x0] (nwA (sR h 3714 s0 (some s1)) 60 13)) := by
  exact (blkM (fun p => Nat.beq p 851) 6 843 _ _ _).trans rfl

set_option maxRecDepth 16384 in
theorem n_1_851 {d : Nat} {h : AH} (x0 : Nat) (u1 : Option Value) (u2 : Option Value) (u3 : Option Value) (u4 : Option Value) (u5 : Option Value) (s0 : Nat) (s1 : Nat) :
    Q d 1 851 [some (.ref x0), u1, u2, u3, u4, u5] [.ref s1, .ref s0] h =
  (ck (gC h s0) 14 <|
  Q d 1 860 [some (.ref x0), u1, u2, u3, u4, u5] [.ref (gN h), .ref x0] (nwA (sR h 3715 s0 (some s1)) 61 2000)) := by
  exact (blkM (fun p => Nat.beq p 860) 6 851 _ _ _).trans rfl

set_option maxRecDepth 16384 in
theorem n_1_860 {d : Nat} {h : AH} (x0 : Nat) (u1 : Option Value) (u2 : Option Value) (u3 : Option Value) (u4 : Option Value) (u5 : Option Value) (s0 : Nat) (s1 : Nat) :
    Q d 1 860 [some (.ref x0), u1, u2, u3, u4, u5] [.ref s1, .ref s0] h =
  (ck (gC h s0) 14 <|
  Q d 1 869 [some (.ref x0), u1, u2, u3, u4, u5] [.ref (gN h), .ref x0] (nwA (sR h 3716 s0 (some s1)) 61 2000)) := by
  exact (blkM (fun p => Nat.beq p 869) 6 860 _ _ _).trans rfl

set_option maxRecDepth 16384 in
theorem n_1_869 {d : Nat} {h : AH} (x0 : Nat) (u1 : Option Value) (u2 : Option Value) (u3 : Option Value) (u4 : Option Value) (u5 : Option Value) (s0 : Nat) (s1 : Nat) :
    Q d 1 869 [some (.ref x0), u1, u2, u3, u4, u5] [.ref s1, .ref s0] h =
  (ck (gC h s0) 14 <|
  Q d 1 877 [some (.ref x0), u1, u2, u3, u4, u5] [.ref (gN h), .ref x0] (nwA (sR h 3722 s0 (some s1)) 60 24)) := by
  exact (blkM (fun p => Nat.beq p 877) 6 869 _ _ _).trans rfl

set_option maxRecDepth 16384 in
theorem n_1_877 {d : Nat} {h : AH} (x0 : Nat) (u1 : Option Value) (u2 : Option Value) (u3 : Option Value) (u4 : Option Value) (u5 : Option Value) (s0 : Nat) (s1 : Nat) :
    Q d 1 877 [some (.ref x0), u1, u2, u3, u4, u5] [.ref s1, .ref s0] h =
  (ck (gC h s0) 14 <|
  Q d 1 885 [some (.ref x0), u1, u2, u3, u4, u5] [.ref (gN h), .ref x0] (nwA (sR h 3727 s0 (some s1)) 60 24)) := by
  exact (blkM (fun p => Nat.beq p 885) 6 877 _ _ _).trans rfl

set_option maxRecDepth 16384 in
theorem n_1_885 {d : Nat} {h : AH} (x0 : Nat) (u1 : Option Value) (u2 : Option Value) (u3 : Option Value) (u4 : Option Value) (u5 : Option Value) (s0 : Nat) (s1 : Nat) :
    Q d 1 885 [some (.ref x0), u1, u2, u3, u4, u5] [.ref s1, .ref s0] h =
  (ck (gC h s0) 14 <|
  Q d 1 893 [some (.ref x0), u1, u2, u3, u4, u5] [.ref (gN h), .ref x0] (nwA (sR h 3728 s0 (some s1)) 60 24)) := by
  exact (blkM (fun p => Nat.beq p 893) 6 885 _ _ _).trans rfl

set_option maxRecDepth 16384 in
theorem n_1_893 {d : Nat} {h : AH} (x0 : Nat) (u1 : Option Value) (u2 : Option Value) (u3 : Option Value) (u4 : Option Value) (u5 : Option Value) (s0 : Nat) (s1 : Nat) :
    Q d 1 893 [some (.ref x0), u1, u2, u3, u4, u5] [.ref s1, .ref s0] h =
  (ck (gC h s0) 14 <|
  Q d 1 901 [some (.ref x0), u1, u2, u3, u4, u5] [.ref (gN h), .ref x0] (nwA (sR h 3729 s0 (some s1)) 61 24)) := by
  exact (blkM (fun p => Nat.beq p 901) 6 893 _ _ _).trans rfl

set_option maxRecDepth 16384 in
theorem n_1_901 {d : Nat} {h : AH} (x0 : Nat) (u1 : Option Value) (u2 : Option Value) (u3 : Option Value) (u4 : Option Value) (u5 : Option Value) (s0 : Nat) (s1 : Nat) :
    Q d 1 901 [some (.ref x0), u1, u2, u3, u4, u5] [.ref s1, .ref s0] h =
  (ck (gC h s0) 14 <|
  Q d 1 910 [some (.ref x0), u1, u2, u3, u4, u5] [.ref (gN h), .ref x0] (nwA (sR h 3730 s0 (some s1)) 61 2000)) := by
  exact (blkM (fun p => Nat.beq p 910) 6 901 _ _ _).trans rfl

set_option maxRecDepth 16384 in
theorem n_1_910 {d : Nat} {h : AH} (x0 : Nat) (u1 : Option Value) (u2 : Option Value) (u3 : Option Value) (u4 : Option Value) (u5 : Option Value) (s0 : Nat) (s1 : Nat) :
    Q d 1 910 [some (.ref x0), u1, u2, u3, u4, u5] [.ref s1, .ref s0] h =
  (ck (gC h s0) 14 <|
  Q d 1 920 [some (.ref x0), some (.int (nI 1)), some (.long 0), none, some (.int (nI 0)), none] [] (sR h 3735 s0 (some s1))) := by
  exact (blkM (fun p => Nat.beq p 920) 9 910 _ _ _).trans rfl

set_option maxRecDepth 16384 in
theorem n_1_920 {d : Nat} {h : AH} (x0 : Nat) (x1 : Int32) (x2 : Int64) (x4 : Int32) :
    Q d 1 920 [some (.ref x0), some (.int x1), some (.long x2), none, some (.int x4), none] [] h =
  (ck (gC h 27) 15 <|
  cK (E d 190 [.ref 27] h) (Q d 1 927 [some (.ref x0), some (.int x1), some (.long x2), none, some (.int x4), none]) [.int x4]) := by
  exact (blkM (fun p => Nat.beq p 927) 4 920 _ _ _).trans rfl

set_option maxRecDepth 16384 in
theorem n_1_927 {d : Nat} {h : AH} (x0 : Nat) (x1 : Int32) (x2 : Int64) (x4 : Int32) (u5 : Option Value) (s0 : Int32) (s1 : Int32) :
    Q d 1 927 [some (.ref x0), some (.int x1), some (.long x2), none, some (.int x4), u5] [.int s1, .int s0] h =
  if s0 < s1 then
   ck (gC h 27) 15 <|
   cK (E d 191 [.ref 27, .int x4] h) (Q d 1 937 [some (.ref x0), some (.int x1), some (.long x2), none, some (.int x4), u5]) []
  else
   Q d 1 986 [some (.ref x0), none, none, none, some (.int (nI 1)), some (.int (nI 0))] [] h := by
  exact (blkM (fun p => Nat.beq p 937 || Nat.beq p 986) 7 927 _ _ _).trans rfl

set_option maxRecDepth 16384 in
theorem n_1_937 {d : Nat} {h : AH} (x0 : Nat) (x1 : Int32) (x2 : Int64) (x4 : Int32) (u5 : Option Value) (s0 : Int32) :
    Q d 1 937 [some (.ref x0), some (.int x1), some (.long x2), none, some (.int x4), u5] [.int s0] h =
  if s0 = nI 32 then
   ck (gC h x0) 14 <|
   (gR h 3585 x0).bind fun y1 =>
    cw (gC h y1) 61 y1 <|
    gd x1 (gK h y1) <|
    Q d 1 920 [some (.ref x0), some (.int (x1 + nI 1)), some (.long 0), none, some (.int (x4 + nI 1)), none] [] (sB h y1 (ix x1) x2)
  else
   cK (E d 30 [.int s0] h) (Q d 1 971 [some (.ref x0), some (.int x1), some (.long x2), none, some (.int x4), some (.int s0)]) [.long (37 * x2)] := by
  exact (blkM (fun p => Nat.beq p 920 || Nat.beq p 971) 17 937 _ _ _).trans rfl

set_option maxRecDepth 16384 in
theorem n_1_971 {d : Nat} {h : AH} (x0 : Nat) (x1 : Int32) (x4 : Int32) (u2 : Option Value) (u3 : Option Value) (u5 : Option Value) (s0 : Int64) (s1 : Int32) :
    Q d 1 971 [some (.ref x0), some (.int x1), u2, u3, some (.int x4), u5] [.int s1, .long s0] h =
  Q d 1 920 [some (.ref x0), some (.int x1), some (.long (s0 + s1.toInt64)), none, some (.int (x4 + nI 1)), none] [] h := by
  exact (blkM (fun p => Nat.beq p 920) 7 971 _ _ _).trans rfl

set_option maxRecDepth 16384 in
theorem n_1_986 {d : Nat} {h : AH} (x0 : Nat) (x4 : Int32) (x5 : Int32) :
    Q d 1 986 [some (.ref x0), none, none, none, some (.int x4), some (.int x5)] [] h =
  if x5 < nI 126 then
   ck (gC h x0) 14 <|
   (gR h 3587 x0).bind fun y1 =>
    cw (gC h y1) 60 y1 <|
    gd x5 (gK h y1) <|
    ck (gC h x0) 14 <|
    (gR h 3588 x0).bind fun y2 =>
     if x5 < nI 63 then
      cw (gC h y2) 60 y2 <|
      gd x4 (gK h y2) <|
      if (nI 63) < x4 <<< ((nI 1) &&& 31) then
       Q d 1 986 [some (.ref x0), none, none, none, some (.int ((x4 <<< ((nI 1) &&& 31)) ^^^ (nI 67))), some (.int (x5 + nI 1))] [] (sA (sA h y1 (ix x5) x4) y2 (ix x4) x5)
      else
       Q d 1 986 [some (.ref x0), none, none, none, some (.int (x4 <<< ((nI 1) &&& 31))), some (.int (x5 + nI 1))] [] (sA (sA h y1 (ix x5) x4) y2 (ix x4) x5)
     else
      ck (gC h x0) 14 <|
      (gR h 3588 x0).bind fun y3 =>
       ck (gC h y3) 60 <|
       gd x4 (gK h y3) <|
       cw (gC h y2) 60 y2 <|
       gd x4 (gK h y2) <|
       if (nI 63) < x4 <<< ((nI 1) &&& 31) then
        Q d 1 986 [some (.ref x0), none, none, none, some (.int ((x4 <<< ((nI 1) &&& 31)) ^^^ (nI 67))), some (.int (x5 + nI 1))] [] (sA (sA h y1 (ix x5) x4) y2 (ix x4) (gA (sA h y1 (ix x5) x4) y3 (ix x4)))
       else
        Q d 1 986 [some (.ref x0), none, none, none, some (.int (x4 <<< ((nI 1) &&& 31))), some (.int (x5 + nI 1))] [] (sA (sA h y1 (ix x5) x4) y2 (ix x4) (gA (sA h y1 (ix x5) x4) y3 (ix x4)))
  else
   ck (gC h x0) 14 <|
   cK (E d 31 [.ref x0] h) (Q d 1 1063 [some (.ref x0), none, none, none, some (.int x4), some (.int x5)]) [] := by
  exact (blkM (fun p => Nat.beq p 986 || Nat.beq p 1063) 35 986 _ _ _).trans rfl

set_option maxRecDepth 16384 in
theorem n_1_1063 {d : Nat} {h : AH} (u0 : Option Value) (u1 : Option Value) (u2 : Option Value) (u3 : Option Value) (u4 : Option Value) (u5 : Option Value) :
    Q d 1 1063 [u0, u1, u2, u3, u4, u5] [] h =
  some (none, h) := by
  exact (blkM (fun p => false) 2 1063 _ _ _).trans rfl

set_option maxRecDepth 16384 in
theorem n_30 {d : Nat} {h : AH} (x0 : Int32) :
    E (d + 1) 30 [.int x0] h =
  if x0 < nI 97 then
   if x0 < nI 48 then
    some (some (.int (nI 0)), h)
   else
    if (nI 57) < x0 then
     some (some (.int (nI 0)), h)
    else
     some (some (.int (x0 - (nI 21))), h)
  else
   if (nI 122) < x0 then
    if x0 < nI 48 then
     some (some (.int (nI 0)), h)
    else
     if (nI 57) < x0 then
      some (some (.int (nI 0)), h)
     else
      some (some (.int (x0 - (nI 21))), h)
   else
    some (some (.int (x0 - (nI 96))), h) := by
  exact entL (l := [some (.int x0)]) rfl rfl ((blkM (fun p => false) 18 0 _ _ _).trans rfl)

set_option maxRecDepth 16384 in
theorem n_31 {d : Nat} {h : AH} (x0 : Nat) :
    E (d + 1) 31 [.ref x0] h =
  (ck (gC h x0) 14 <|
  ck (gC h x0) 14 <|
  ck (gC h x0) 14 <|
  Q d 31 16 [some (.ref x0), none] [] (sI (sI (sI h 3654 x0 (nI 0)) 3677 x0 (nI 0)) 3678 x0 (nI 7))) := by
  exact entL (l := [some (.ref x0), none]) rfl rfl ((blkM (fun p => Nat.beq p 16) 11 0 _ _ _).trans rfl)

set_option maxRecDepth 16384 in
theorem n_31_16 {d : Nat} {h : AH} (x0 : Nat) (u1 : Option Value) :
    Q d 31 16 [some (.ref x0), u1] [] h =
  (ck (gC h x0) 14 <|
  ck (gC h x0) 14 <|
  ck (gC h x0) 14 <|
  Q d 31 31 [some (.ref x0), u1] [] (sI (sI (sI h 3688 x0 (nI 0)) 3676 x0 (nI 0)) 3720 x0 (nI 0))) := by
  exact (blkM (fun p => Nat.beq p 31) 11 16 _ _ _).trans rfl

set_option maxRecDepth 16384 in
theorem n_31_31 {d : Nat} {h : AH} (x0 : Nat) (u1 : Option Value) :
    Q d 31 31 [some (.ref x0), u1] [] h =
  (ck (gC h x0) 14 <|
  ck (gC h x0) 14 <|
  ck (gC h x0) 14 <|
  Q d 31 46 [some (.ref x0), u1] [] (sI (sI (sI h 3667 x0 (nI 0)) 3644 x0 (-1)) 3645 x0 (-1))) := by
  exact (blkM (fun p => Nat.beq p 46) 11 31 _ _ _).trans rfl

set_option maxRecDepth 16384 in
theorem n_31_46 {d : Nat} {h : AH} (x0 : Nat) (u1 : Option Value) :
    Q d 31 46 [some (.ref x0), u1] [] h =
  (ck (gC h x0) 14 <|
  ck (gC h x0) 14 <|
  ck (gC h x0) 14 <|
  Q d 31 63 [some (.ref x0), some (.int (nI 0))] [] (sI (sI (sI h 3653 x0 (-1)) 3695 x0 (nI 0)) 3679 x0 (-1))) := by
  exact (blkM (fun p => Nat.beq p 63) 13 46 _ _ _).trans rfl

set_option maxRecDepth 16384 in
theorem n_31_63 {d : Nat} {h : AH} (x0 : Nat) (x1 : Int32) :
    Q d 31 63 [some (.ref x0), some (.int x1)] [] h =
  if x1 < nI 40 then
   ck (gC h x0) 14 <|
   (gR h 3671 x0).bind fun y1 =>
    cw (gC h y1) 60 y1 <|
    gd x1 (gK h y1) <|
    Q d 31 63 [some (.ref x0), some (.int (x1 + nI 1))] [] (sA h y1 (ix x1) (nI 0))
  else
   Q d 31 84 [some (.ref x0), some (.int (nI 0))] [] h := by
  exact (blkM (fun p => Nat.beq p 63 || Nat.beq p 84) 12 63 _ _ _).trans rfl

set_option maxRecDepth 16384 in
theorem n_31_84 {d : Nat} {h : AH} (x0 : Nat) (x1 : Int32) :
    Q d 31 84 [some (.ref x0), some (.int x1)] [] h =
  if x1 < nI 16 then
   ck (gC h x0) 14 <|
   (gR h 3669 x0).bind fun y1 =>
    cw (gC h y1) 60 y1 <|
    gd x1 (gK h y1) <|
    Q d 31 84 [some (.ref x0), some (.int (x1 + nI 1))] [] (sA h y1 (ix x1) (nI 0))
  else
   ck (gC h x0) 14 <|
   cK (E d 32 [.ref x0] h) (Q d 31 107 [some (.ref x0), some (.int x1)]) [] := by
  exact (blkM (fun p => Nat.beq p 84 || Nat.beq p 107) 12 84 _ _ _).trans rfl

set_option maxRecDepth 16384 in
theorem n_31_107 {d : Nat} {h : AH} (u0 : Option Value) (u1 : Option Value) :
    Q d 31 107 [u0, u1] [] h =
  some (none, h) := by
  exact (blkM (fun p => false) 2 107 _ _ _).trans rfl

set_option maxRecDepth 16384 in
theorem n_32 {d : Nat} {h : AH} (x0 : Nat) :
    E (d + 1) 32 [.ref x0] h =
  Q d 32 2 [some (.ref x0), some (.int (nI 0))] [] h := by
  exact entL (l := [some (.ref x0), none]) rfl rfl ((blkM (fun p => Nat.beq p 2) 4 0 _ _ _).trans rfl)

set_option maxRecDepth 16384 in
theorem n_32_2 {d : Nat} {h : AH} (x0 : Nat) (x1 : Int32) :
    Q d 32 2 [some (.ref x0), some (.int x1)] [] h =
  if x1 < nI 10 then
   ck (gC h x0) 14 <|
   (gR h 3710 x0).bind fun y1 =>
    cw (gC h y1) 61 y1 <|
    gd x1 (gK h y1) <|
    Q d 32 2 [some (.ref x0), some (.int (x1 + nI 1))] [] (sB h y1 (ix x1) 0)
  else
   Q d 32 23 [some (.ref x0), some (.int (nI 0))] [] h := by
  exact (blkM (fun p => Nat.beq p 2 || Nat.beq p 23) 12 2 _ _ _).trans rfl

set_option maxRecDepth 16384 in
theorem n_32_23 {d : Nat} {h : AH} (x0 : Nat) (x1 : Int32) :
    Q d 32 23 [some (.ref x0), some (.int x1)] [] h =
  if x1 < nI 4 then
   ck (gC h x0) 14 <|
   (gR h 3711 x0).bind fun y1 =>
    cw (gC h y1) 60 y1 <|
    gd x1 (gK h y1) <|
    Q d 32 23 [some (.ref x0), some (.int (x1 + nI 1))] [] (sA h y1 (ix x1) (-1))
  else
   Q d 32 43 [some (.ref x0), some (.int (nI 0))] [] h := by
  exact (blkM (fun p => Nat.beq p 23 || Nat.beq p 43) 12 23 _ _ _).trans rfl

set_option maxRecDepth 16384 in
theorem n_32_43 {d : Nat} {h : AH} (x0 : Nat) (x1 : Int32) :
    Q d 32 43 [some (.ref x0), some (.int x1)] [] h =
  if x1 < nI 12 then
   ck (gC h x0) 14 <|
   (gR h 3712 x0).bind fun y1 =>
    cw (gC h y1) 60 y1 <|
    gd x1 (gK h y1) <|
    Q d 32 43 [some (.ref x0), some (.int (x1 + nI 1))] [] (sA h y1 (ix x1) (-1))
  else
   some (none, h) := by
  exact (blkM (fun p => Nat.beq p 43) 12 43 _ _ _).trans rfl

set_option maxRecDepth 16384 in
theorem n_185 {d : Nat} {h : AH} (x0 : Nat) :
    E (d + 1) 185 [.ref x0] h =
  Q d 185 10 [some (.ref x0)] [.ref (gN h), .ref x0] (nwA h 62 4000) := by
  exact entL (l := [some (.ref x0)]) rfl rfl ((blkM (fun p => Nat.beq p 10) 7 0 _ _ _).trans rfl)

set_option maxRecDepth 16384 in
theorem n_185_10 {d : Nat} {h : AH} (x0 : Nat) (s0 : Nat) (s1 : Nat) :
    Q d 185 10 [some (.ref x0)] [.ref s1, .ref s0] h =
  (ck (gC h s0) 12 <|
  ck (gC h x0) 12 <|
  some (none, sI (sR h 3072 s0 (some s1)) 3073 x0 (nI 0))) := by
  exact (blkM (fun p => false) 6 10 _ _ _).trans rfl

set_option maxRecDepth 16384 in
theorem n_186 {d : Nat} {h : AH} (x0 : Nat) :
    E (d + 1) 186 [.ref x0] h =
  Q d 186 10 [some (.ref x0)] [.ref (gN h), .ref x0] (nwA h 60 613) := by
  exact entL (l := [some (.ref x0)]) rfl rfl ((blkM (fun p => Nat.beq p 10) 7 0 _ _ _).trans rfl)

set_option maxRecDepth 16384 in
theorem n_186_10 {d : Nat} {h : AH} (x0 : Nat) (s0 : Nat) (s1 : Nat) :
    Q d 186 10 [some (.ref x0)] [.ref s1, .ref s0] h =
  (ck (gC h s0) 4 <|
  Q d 186 18 [some (.ref x0)] [.ref (gN h), .ref x0] (nwA (sR h 1024 s0 (some s1)) 60 41)) := by
  exact (blkM (fun p => Nat.beq p 18) 6 10 _ _ _).trans rfl

set_option maxRecDepth 16384 in
theorem n_186_18 {d : Nat} {h : AH} (x0 : Nat) (s0 : Nat) (s1 : Nat) :
    Q d 186 18 [some (.ref x0)] [.ref s1, .ref s0] h =
  (ck (gC h s0) 4 <|
  Q d 186 26 [some (.ref x0)] [.ref (gN h), .ref x0] (nwA (sR h 1025 s0 (some s1)) 60 41)) := by
  exact (blkM (fun p => Nat.beq p 26) 6 18 _ _ _).trans rfl

set_option maxRecDepth 16384 in
theorem n_186_26 {d : Nat} {h : AH} (x0 : Nat) (s0 : Nat) (s1 : Nat) :
    Q d 186 26 [some (.ref x0)] [.ref s1, .ref s0] h =
  (ck (gC h s0) 4 <|
  Q d 186 38 [some (.ref x0)] [.ref (gN h), .ref x0] (nwM (sR h 1026 s0 (some s1)) 48 48)) := by
  exact (blkM (fun p => Nat.beq p 38) 7 26 _ _ _).trans rfl

set_option maxRecDepth 16384 in
theorem n_186_38 {d : Nat} {h : AH} (u0 : Option Value) (s0 : Nat) (s1 : Nat) :
    Q d 186 38 [u0] [.ref s1, .ref s0] h =
  (ck (gC h s0) 4 <|
  some (none, sR h 1027 s0 (some s1))) := by
  exact (blkM (fun p => false) 3 38 _ _ _).trans rfl

set_option maxRecDepth 16384 in
theorem n_187 {d : Nat} {h : AH} (x0 : Nat) (x1 : Nat) :
    E (d + 1) 187 [.ref x0, .ref x1] h =
  Q d 187 8 [some (.ref x0), some (.ref x1)] [.ref (gN h), .ref x0] (nwO h 2 9) := by
  exact entL (l := [some (.ref x0), some (.ref x1)]) rfl rfl ((blkM (fun p => Nat.beq p 8) 6 0 _ _ _).trans rfl)

set_option maxRecDepth 16384 in
theorem n_187_8 {d : Nat} {h : AH} (x0 : Nat) (x1 : Nat) (s0 : Nat) (s1 : Nat) :
    Q d 187 8 [some (.ref x0), some (.ref x1)] [.ref s1, .ref s0] h =
  cK (E d 193 [.ref s1, .ref x1] h) (Q d 187 13 [some (.ref x0), some (.ref x1)]) [.ref s1, .ref s0] := by
  exact (blkM (fun p => Nat.beq p 13) 4 8 _ _ _).trans rfl

set_option maxRecDepth 16384 in
theorem n_187_13 {d : Nat} {h : AH} (x0 : Nat) (u1 : Option Value) (s0 : Nat) (s1 : Nat) :
    Q d 187 13 [some (.ref x0), u1] [.ref s1, .ref s0] h =
  (ck (gC h s0) 8 <|
  Q d 187 20 [some (.ref x0), u1] [.ref (gN h), .ref x0] (nwO (sR h 2048 s0 (some s1)) 1 3)) := by
  exact (blkM (fun p => Nat.beq p 20) 5 13 _ _ _).trans rfl

set_option maxRecDepth 16384 in
theorem n_187_20 {d : Nat} {h : AH} (x0 : Nat) (u1 : Option Value) (s0 : Nat) (s1 : Nat) :
    Q d 187 20 [some (.ref x0), u1] [.ref s1, .ref s0] h =
  cK (E d 226 [.ref s1] h) (Q d 187 24 [some (.ref x0), u1]) [.ref s1, .ref s0] := by
  exact (blkM (fun p => Nat.beq p 24) 3 20 _ _ _).trans rfl

set_option maxRecDepth 16384 in
theorem n_187_24 {d : Nat} {h : AH} (x0 : Nat) (u1 : Option Value) (s0 : Nat) (s1 : Nat) :
    Q d 187 24 [some (.ref x0), u1] [.ref s1, .ref s0] h =
  (ck (gC h s0) 8 <|
  Q d 187 31 [some (.ref x0), u1] [.ref (gN h), .ref x0] (nwO (sR h 2049 s0 (some s1)) 1 3)) := by
  exact (blkM (fun p => Nat.beq p 31) 5 24 _ _ _).trans rfl

set_option maxRecDepth 16384 in
theorem n_187_31 {d : Nat} {h : AH} (x0 : Nat) (u1 : Option Value) (s0 : Nat) (s1 : Nat) :
    Q d 187 31 [some (.ref x0), u1] [.ref s1, .ref s0] h =
  cK (E d 226 [.ref s1] h) (Q d 187 35 [some (.ref x0), u1]) [.ref s1, .ref s0] := by
  exact (blkM (fun p => Nat.beq p 35) 3 31 _ _ _).trans rfl

set_option maxRecDepth 16384 in
theorem n_187_35 {d : Nat} {h : AH} (x0 : Nat) (u1 : Option Value) (s0 : Nat) (s1 : Nat) :
    Q d 187 35 [some (.ref x0), u1] [.ref s1, .ref s0] h =
  (ck (gC h s0) 8 <|
  Q d 187 43 [some (.ref x0), u1] [.ref (gN h), .ref x0] (nwA (sR h 2050 s0 (some s1)) 60 40)) := by
  exact (blkM (fun p => Nat.beq p 43) 6 35 _ _ _).trans rfl

set_option maxRecDepth 16384 in
theorem n_187_43 {d : Nat} {h : AH} (x0 : Nat) (u1 : Option Value) (s0 : Nat) (s1 : Nat) :
    Q d 187 43 [some (.ref x0), u1] [.ref s1, .ref s0] h =
  (ck (gC h s0) 8 <|
  Q d 187 51 [some (.ref x0), u1] [.ref (gN h), .ref x0] (nwA (sR h 2053 s0 (some s1)) 60 40)) := by
  exact (blkM (fun p => Nat.beq p 51) 6 43 _ _ _).trans rfl

set_option maxRecDepth 16384 in
theorem n_187_51 {d : Nat} {h : AH} (x0 : Nat) (u1 : Option Value) (s0 : Nat) (s1 : Nat) :
    Q d 187 51 [some (.ref x0), u1] [.ref s1, .ref s0] h =
  (ck (gC h s0) 8 <|
  Q d 187 59 [some (.ref x0), u1] [.ref (gN h), .ref x0] (nwA (sR h 2054 s0 (some s1)) 60 16)) := by
  exact (blkM (fun p => Nat.beq p 59) 6 51 _ _ _).trans rfl

set_option maxRecDepth 16384 in
theorem n_187_59 {d : Nat} {h : AH} (x0 : Nat) (u1 : Option Value) (s0 : Nat) (s1 : Nat) :
    Q d 187 59 [some (.ref x0), u1] [.ref s1, .ref s0] h =
  (ck (gC h s0) 8 <|
  Q d 187 67 [some (.ref x0), u1] [.ref (gN h), .ref x0] (nwA (sR h 2056 s0 (some s1)) 60 16)) := by
  exact (blkM (fun p => Nat.beq p 67) 6 59 _ _ _).trans rfl

set_option maxRecDepth 16384 in
theorem n_187_67 {d : Nat} {h : AH} (x0 : Nat) (u1 : Option Value) (s0 : Nat) (s1 : Nat) :
    Q d 187 67 [some (.ref x0), u1] [.ref s1, .ref s0] h =
  (ck (gC h s0) 8 <|
  Q d 187 75 [some (.ref x0), u1] [.ref (gN h), .ref x0] (nwA (sR h 2057 s0 (some s1)) 60 16)) := by
  exact (blkM (fun p => Nat.beq p 75) 6 67 _ _ _).trans rfl

set_option maxRecDepth 16384 in
theorem n_187_75 {d : Nat} {h : AH} (x0 : Nat) (u1 : Option Value) (s0 : Nat) (s1 : Nat) :
    Q d 187 75 [some (.ref x0), u1] [.ref s1, .ref s0] h =
  (ck (gC h s0) 8 <|
  Q d 187 84 [some (.ref x0), u1] [.ref (gN h), .ref x0] (nwA (sR h 2058 s0 (some s1)) 60 200)) := by
  exact (blkM (fun p => Nat.beq p 84) 6 75 _ _ _).trans rfl

set_option maxRecDepth 16384 in
theorem n_187_84 {d : Nat} {h : AH} (x0 : Nat) (u1 : Option Value) (s0 : Nat) (s1 : Nat) :
    Q d 187 84 [some (.ref x0), u1] [.ref s1, .ref s0] h =
  (ck (gC h s0) 8 <|
  Q d 187 92 [some (.ref x0), u1] [.ref (gN h), .ref x0] (nwA (sR h 2061 s0 (some s1)) 60 9)) := by
  exact (blkM (fun p => Nat.beq p 92) 6 84 _ _ _).trans rfl

set_option maxRecDepth 16384 in
theorem n_187_92 {d : Nat} {h : AH} (x0 : Nat) (u1 : Option Value) (s0 : Nat) (s1 : Nat) :
    Q d 187 92 [some (.ref x0), u1] [.ref s1, .ref s0] h =
  (ck (gC h s0) 8 <|
  Q d 187 100 [some (.ref x0), u1] [.ref (gN h), .ref x0] (nwA (sR h 2062 s0 (some s1)) 60 9)) := by
  exact (blkM (fun p => Nat.beq p 100) 6 92 _ _ _).trans rfl

set_option maxRecDepth 16384 in
theorem n_187_100 {d : Nat} {h : AH} (x0 : Nat) (u1 : Option Value) (s0 : Nat) (s1 : Nat) :
    Q d 187 100 [some (.ref x0), u1] [.ref s1, .ref s0] h =
  (ck (gC h s0) 8 <|
  Q d 187 109 [some (.ref x0), u1] [.ref (gN h), .ref x0] (nwA (sR h 2063 s0 (some s1)) 60 2048)) := by
  exact (blkM (fun p => Nat.beq p 109) 6 100 _ _ _).trans rfl

set_option maxRecDepth 16384 in
theorem n_187_109 {d : Nat} {h : AH} (x0 : Nat) (u1 : Option Value) (s0 : Nat) (s1 : Nat) :
    Q d 187 109 [some (.ref x0), u1] [.ref s1, .ref s0] h =
  (ck (gC h s0) 8 <|
  ck (gC h x0) 8 <|
  ck (gC h x0) 8 <|
  some (none, sI (sI (sR h 2065 s0 (some s1)) 2052 x0 (nI 7)) 2059 x0 (-1))) := by
  exact (blkM (fun p => false) 9 109 _ _ _).trans rfl

set_option maxRecDepth 16384 in
theorem n_188 {d : Nat} {h : AH} (x0 : Nat) (x1 : Nat) :
    E (d + 1) 188 [.ref x0, .ref x1] h =
  (ck (gC h x0) 6 <|
  Q d 188 14 [some (.ref x0), some (.ref x1)] [.ref (gN h), .ref x0] (nwA (sR h 1536 x0 (some x1)) 61 10)) := by
  exact entL (l := [some (.ref x0), some (.ref x1)]) rfl rfl ((blkM (fun p => Nat.beq p 14) 10 0 _ _ _).trans rfl)

set_option maxRecDepth 16384 in
theorem n_188_14 {d : Nat} {h : AH} (x0 : Nat) (u1 : Option Value) (s0 : Nat) (s1 : Nat) :
    Q d 188 14 [some (.ref x0), u1] [.ref s1, .ref s0] h =
  (ck (gC h s0) 6 <|
  Q d 188 21 [some (.ref x0), u1] [.ref (gN h), .ref x0] (nwA (sR h 1537 s0 (some s1)) 60 4)) := by
  exact (blkM (fun p => Nat.beq p 21) 6 14 _ _ _).trans rfl

set_option maxRecDepth 16384 in
theorem n_188_21 {d : Nat} {h : AH} (x0 : Nat) (u1 : Option Value) (s0 : Nat) (s1 : Nat) :
    Q d 188 21 [some (.ref x0), u1] [.ref s1, .ref s0] h =
  (cw (gC h s1) 60 s1 <|
  gd (nI 0) (gK h s1) <|
  cw (gC h s1) 60 s1 <|
  gd (nI 1) (gK h s1) <|
  cw (gC h s1) 60 s1 <|
  gd (nI 2) (gK h s1) <|
  cw (gC h s1) 60 s1 <|
  gd (nI 3) (gK h s1) <|
  ck (gC h s0) 6 <|
  Q d 188 45 [some (.ref x0), u1] [.ref (gN h), .ref x0] (nwA (sR (sA (sA (sA (sA h s1 0 (-1)) s1 1 (-1)) s1 2 (-1)) s1 3 (-1)) 1538 s0 (some s1)) 60 12)) := by
  exact (blkM (fun p => Nat.beq p 45) 22 21 _ _ _).trans rfl

set_option maxRecDepth 16384 in
theorem n_188_45 {d : Nat} {h : AH} (x0 : Nat) (u1 : Option Value) (s0 : Nat) (s1 : Nat) :
    Q d 188 45 [some (.ref x0), u1] [.ref s1, .ref s0] h =
  (ck (gC h s0) 6 <|
  Q d 188 53 [some (.ref x0), u1] [.ref (gN h), .ref x0] (nwA (sR h 1539 s0 (some s1)) 60 12)) := by
  exact (blkM (fun p => Nat.beq p 53) 6 45 _ _ _).trans rfl

set_option maxRecDepth 16384 in
theorem n_188_53 {d : Nat} {h : AH} (x0 : Nat) (u1 : Option Value) (s0 : Nat) (s1 : Nat) :
    Q d 188 53 [some (.ref x0), u1] [.ref s1, .ref s0] h =
  (ck (gC h s0) 6 <|
  Q d 188 61 [some (.ref x0), u1] [.ref (gN h), .ref x0] (nwA (sR h 1540 s0 (some s1)) 60 12)) := by
  exact (blkM (fun p => Nat.beq p 61) 6 53 _ _ _).trans rfl

set_option maxRecDepth 16384 in
theorem n_188_61 {d : Nat} {h : AH} (x0 : Nat) (u1 : Option Value) (s0 : Nat) (s1 : Nat) :
    Q d 188 61 [some (.ref x0), u1] [.ref s1, .ref s0] h =
  (ck (gC h s0) 6 <|
  Q d 188 69 [some (.ref x0), u1] [.ref (gN h), .ref x0] (nwA (sR h 1541 s0 (some s1)) 60 12)) := by
  exact (blkM (fun p => Nat.beq p 69) 6 61 _ _ _).trans rfl

set_option maxRecDepth 16384 in
theorem n_188_69 {d : Nat} {h : AH} (x0 : Nat) (u1 : Option Value) (s0 : Nat) (s1 : Nat) :
    Q d 188 69 [some (.ref x0), u1] [.ref s1, .ref s0] h =
  (ck (gC h s0) 6 <|
  Q d 188 78 [some (.ref x0), u1] [.ref (gN h), .ref x0] (nwA (sR h 1542 s0 (some s1)) 61 2000)) := by
  exact (blkM (fun p => Nat.beq p 78) 6 69 _ _ _).trans rfl

set_option maxRecDepth 16384 in
theorem n_188_78 {d : Nat} {h : AH} (u0 : Option Value) (u1 : Option Value) (s0 : Nat) (s1 : Nat) :
    Q d 188 78 [u0, u1] [.ref s1, .ref s0] h =
  (ck (gC h s0) 6 <|
  some (none, sR h 1543 s0 (some s1))) := by
  exact (blkM (fun p => false) 3 78 _ _ _).trans rfl

set_option maxRecDepth 16384 in
theorem n_189 {d : Nat} {h : AH} (x0 : Nat) :
    E (d + 1) 189 [.ref x0] h =
  Q d 189 10 [some (.ref x0)] [.ref (gN h), .ref x0] (nwA h 60 4001) := by
  exact entL (l := [some (.ref x0)]) rfl rfl ((blkM (fun p => Nat.beq p 10) 7 0 _ _ _).trans rfl)

set_option maxRecDepth 16384 in
theorem n_189_10 {d : Nat} {h : AH} (x0 : Nat) (s0 : Nat) (s1 : Nat) :
    Q d 189 10 [some (.ref x0)] [.ref s1, .ref s0] h =
  (ck (gC h s0) 9 <|
  Q d 189 19 [some (.ref x0)] [.ref (gN h), .ref x0] (nwA (sR h 2304 s0 (some s1)) 60 4001)) := by
  exact (blkM (fun p => Nat.beq p 19) 6 10 _ _ _).trans rfl

set_option maxRecDepth 16384 in
theorem n_189_19 {d : Nat} {h : AH} (u0 : Option Value) (s0 : Nat) (s1 : Nat) :
    Q d 189 19 [u0] [.ref s1, .ref s0] h =
  (ck (gC h s0) 9 <|
  some (none, sR h 2305 s0 (some s1))) := by
  exact (blkM (fun p => false) 3 19 _ _ _).trans rfl

set_option maxRecDepth 16384 in
theorem n_190 {d : Nat} {h : AH} (x0 : Nat) :
    E (d + 1) 190 [.ref x0] h =
  (ck (gC h x0) 15 <|
  (gR h 3840 x0).bind fun y1 =>
   if 60 ≤ gC h y1 ∧ gC h y1 ≤ 66 then
    ck (gC h x0) 15 <|
    cK (E d 227 [.ref x0] h) (Q d 190 9 [some (.ref x0)]) [.int (nI (gK h y1))]
   else
    none) := by
  exact entL (l := [some (.ref x0)]) rfl rfl ((blkM (fun p => Nat.beq p 9) 6 0 _ _ _).trans rfl)

set_option maxRecDepth 16384 in
theorem n_190_9 {d : Nat} {h : AH} (u0 : Option Value) (s0 : Int32) (s1 : Int32) :
    Q d 190 9 [u0] [.int s1, .int s0] h =
  some (some (.int (s0 >>> (s1 &&& 31))), h) := by
  exact (blkM (fun p => false) 3 9 _ _ _).trans rfl

set_option maxRecDepth 16384 in
theorem n_191 {d : Nat} {h : AH} (x0 : Nat) (x1 : Int32) :
    E (d + 1) 191 [.ref x0, .int x1] h =
  (ck (gC h x0) 15 <|
  cK (E d 228 [.ref x0] h) (Q d 191 4 [some (.ref x0), some (.int x1)]) []) := by
  exact entL (l := [some (.ref x0), some (.int x1)]) rfl rfl ((blkM (fun p => Nat.beq p 4) 3 0 _ _ _).trans rfl)

set_option maxRecDepth 16384 in
theorem n_191_4 {d : Nat} {h : AH} (x0 : Nat) (x1 : Int32) (s0 : Int32) :
    Q d 191 4 [some (.ref x0), some (.int x1)] [.int s0] h =
  if s0 = nI 0 then
   ck (gC h x0) 15 <|
   (gR h 3840 x0).bind fun y1 =>
    none
  else
   ck (gC h x0) 15 <|
   (gR h 3840 x0).bind fun y2 =>
    cK (E d 229 [.ref y2, .int x1] h) (Q d 191 15 [some (.ref x0), some (.int x1)]) [] := by
  exact (blkM (fun p => Nat.beq p 15) 6 4 _ _ _).trans rfl

set_option maxRecDepth 16384 in
theorem n_191_15 {d : Nat} {h : AH} (u0 : Option Value) (u1 : Option Value) (s0 : Int32) :
    Q d 191 15 [u0, u1] [.int s0] h =
  if narrow .char (.int s0) = .int s0 then
   some (some (.int s0), h)
  else
   none := by
  exact (blkM (fun p => false) 2 15 _ _ _).trans rfl

set_option maxRecDepth 16384 in
theorem n_193 {d : Nat} {h : AH} (x0 : Nat) (x1 : Nat) :
    E (d + 1) 193 [.ref x0, .ref x1] h =
  (ck (gC h x0) 2 <|
  Q d 193 13 [some (.ref x0), some (.ref x1)] [.ref (gN h), .ref x0] (nwO (sR h 520 x0 (some x1)) 1 3)) := by
  exact entL (l := [some (.ref x0), some (.ref x1)]) rfl rfl ((blkM (fun p => Nat.beq p 13) 9 0 _ _ _).trans rfl)

set_option maxRecDepth 16384 in
theorem n_193_13 {d : Nat} {h : AH} (x0 : Nat) (u1 : Option Value) (s0 : Nat) (s1 : Nat) :
    Q d 193 13 [some (.ref x0), u1] [.ref s1, .ref s0] h =
  cK (E d 226 [.ref s1] h) (Q d 193 17 [some (.ref x0), u1]) [.ref s1, .ref s0] := by
  exact (blkM (fun p => Nat.beq p 17) 3 13 _ _ _).trans rfl

set_option maxRecDepth 16384 in
theorem n_193_17 {d : Nat} {h : AH} (x0 : Nat) (u1 : Option Value) (s0 : Nat) (s1 : Nat) :
    Q d 193 17 [some (.ref x0), u1] [.ref s1, .ref s0] h =
  (ck (gC h s0) 2 <|
  Q d 193 24 [some (.ref x0), u1] [.ref (gN h), .ref x0] (nwO (sR h 512 s0 (some s1)) 1 3)) := by
  exact (blkM (fun p => Nat.beq p 24) 5 17 _ _ _).trans rfl

set_option maxRecDepth 16384 in
theorem n_193_24 {d : Nat} {h : AH} (x0 : Nat) (u1 : Option Value) (s0 : Nat) (s1 : Nat) :
    Q d 193 24 [some (.ref x0), u1] [.ref s1, .ref s0] h =
  cK (E d 226 [.ref s1] h) (Q d 193 28 [some (.ref x0), u1]) [.ref s1, .ref s0] := by
  exact (blkM (fun p => Nat.beq p 28) 3 24 _ _ _).trans rfl

set_option maxRecDepth 16384 in
theorem n_193_28 {d : Nat} {h : AH} (x0 : Nat) (u1 : Option Value) (s0 : Nat) (s1 : Nat) :
    Q d 193 28 [some (.ref x0), u1] [.ref s1, .ref s0] h =
  (ck (gC h s0) 2 <|
  Q d 193 35 [some (.ref x0), u1] [.ref (gN h), .ref x0] (nwO (sR h 513 s0 (some s1)) 1 3)) := by
  exact (blkM (fun p => Nat.beq p 35) 5 28 _ _ _).trans rfl

set_option maxRecDepth 16384 in
theorem n_193_35 {d : Nat} {h : AH} (x0 : Nat) (u1 : Option Value) (s0 : Nat) (s1 : Nat) :
    Q d 193 35 [some (.ref x0), u1] [.ref s1, .ref s0] h =
  cK (E d 226 [.ref s1] h) (Q d 193 39 [some (.ref x0), u1]) [.ref s1, .ref s0] := by
  exact (blkM (fun p => Nat.beq p 39) 3 35 _ _ _).trans rfl

set_option maxRecDepth 16384 in
theorem n_193_39 {d : Nat} {h : AH} (x0 : Nat) (u1 : Option Value) (s0 : Nat) (s1 : Nat) :
    Q d 193 39 [some (.ref x0), u1] [.ref s1, .ref s0] h =
  (ck (gC h s0) 2 <|
  Q d 193 46 [some (.ref x0), u1] [.ref (gN h), .ref x0] (nwO (sR h 514 s0 (some s1)) 1 3)) := by
  exact (blkM (fun p => Nat.beq p 46) 5 39 _ _ _).trans rfl

set_option maxRecDepth 16384 in
theorem n_193_46 {d : Nat} {h : AH} (x0 : Nat) (u1 : Option Value) (s0 : Nat) (s1 : Nat) :
    Q d 193 46 [some (.ref x0), u1] [.ref s1, .ref s0] h =
  cK (E d 226 [.ref s1] h) (Q d 193 50 [some (.ref x0), u1]) [.ref s1, .ref s0] := by
  exact (blkM (fun p => Nat.beq p 50) 3 46 _ _ _).trans rfl

set_option maxRecDepth 16384 in
theorem n_193_50 {d : Nat} {h : AH} (x0 : Nat) (u1 : Option Value) (s0 : Nat) (s1 : Nat) :
    Q d 193 50 [some (.ref x0), u1] [.ref s1, .ref s0] h =
  (ck (gC h s0) 2 <|
  Q d 193 58 [some (.ref x0), u1] [.ref (gN h), .ref x0] (nwA (sR h 515 s0 (some s1)) 61 20)) := by
  exact (blkM (fun p => Nat.beq p 58) 6 50 _ _ _).trans rfl

set_option maxRecDepth 16384 in
theorem n_193_58 {d : Nat} {h : AH} (x0 : Nat) (u1 : Option Value) (s0 : Nat) (s1 : Nat) :
    Q d 193 58 [some (.ref x0), u1] [.ref s1, .ref s0] h =
  (ck (gC h s0) 2 <|
  Q d 193 66 [some (.ref x0), u1] [.ref (gN h), .ref x0] (nwA (sR h 516 s0 (some s1)) 61 20)) := by
  exact (blkM (fun p => Nat.beq p 66) 6 58 _ _ _).trans rfl

set_option maxRecDepth 16384 in
theorem n_193_66 {d : Nat} {h : AH} (u0 : Option Value) (u1 : Option Value) (s0 : Nat) (s1 : Nat) :
    Q d 193 66 [u0, u1] [.ref s1, .ref s0] h =
  (ck (gC h s0) 2 <|
  some (none, sR h 517 s0 (some s1))) := by
  exact (blkM (fun p => false) 3 66 _ _ _).trans rfl

set_option maxRecDepth 16384 in
theorem n_226 {d : Nat} {h : AH} (x0 : Nat) :
    E (d + 1) 226 [.ref x0] h =
  cK (E d 274 [.ref x0] h) (Q d 226 4 [some (.ref x0)]) [] := by
  exact entL (l := [some (.ref x0)]) rfl rfl ((blkM (fun p => Nat.beq p 4) 3 0 _ _ _).trans rfl)

set_option maxRecDepth 16384 in
theorem n_226_4 {d : Nat} {h : AH} (x0 : Nat) :
    Q d 226 4 [some (.ref x0)] [] h =
  (ck (gC h x0) 1 <|
  some (none, sR h 257 x0 (some 61))) := by
  exact (blkM (fun p => false) 5 4 _ _ _).trans rfl

set_option maxRecDepth 16384 in
theorem n_227 {d : Nat} {h : AH} (x0 : Nat) :
    E (d + 1) 227 [.ref x0] h =
  if (nI 1) = nI 0 then
   if narrow .byte (.int (nI 1)) = .int (nI 1) then
    some (some (.int (nI 1)), h)
   else
    none
  else
   ck (gC h x0) 15 <|
   if narrow .byte (.int (gI h 3841 x0)) = .int (gI h 3841 x0) then
    some (some (.int (gI h 3841 x0)), h)
   else
    none := by
  exact entL (l := [some (.ref x0)]) rfl rfl ((blkM (fun p => false) 7 0 _ _ _).trans rfl)

set_option maxRecDepth 16384 in
theorem n_228 {d : Nat} {h : AH} (x0 : Nat) :
    E (d + 1) 228 [.ref x0] h =
  if (nI 1) = nI 0 then
   some (some (.int (nI 0)), h)
  else
   ck (gC h x0) 15 <|
   if gI h 3841 x0 = nI 0 then
    some (some (.int (nI 1)), h)
   else
    some (some (.int (nI 0)), h) := by
  exact entL (l := [some (.ref x0)]) rfl rfl ((blkM (fun p => false) 9 0 _ _ _).trans rfl)

set_option maxRecDepth 16384 in
theorem n_229 {d : Nat} {h : AH} (x0 : Nat) (x1 : Int32) :
    E (d + 1) 229 [.ref x0, .int x1] h =
  if 60 ≤ gC h x0 ∧ gC h x0 ≤ 66 then
   cK (E d 275 [.int x1, .int (nI (gK h x0))] h) (Q d 229 6 [some (.ref x0), some (.int x1)]) []
  else
   none := by
  exact entL (l := [some (.ref x0), some (.int x1)]) rfl rfl ((blkM (fun p => Nat.beq p 6) 5 0 _ _ _).trans rfl)

set_option maxRecDepth 16384 in
theorem n_229_6 {d : Nat} {h : AH} (x0 : Nat) (x1 : Int32) :
    Q d 229 6 [some (.ref x0), some (.int x1)] [] h =
  (ck (gC h x0) 64 <|
  gd x1 (gK h x0) <|
  if narrow .char (.int ((((gA h x0 (ix x1)) &&& (nI 255)).toUInt32 % 65536).toInt32)) = .int ((((gA h x0 (ix x1)) &&& (nI 255)).toUInt32 % 65536).toInt32) then
   some (some (.int ((((gA h x0 (ix x1)) &&& (nI 255)).toUInt32 % 65536).toInt32)), h)
  else
   none) := by
  exact (blkM (fun p => false) 8 6 _ _ _).trans rfl

set_option maxRecDepth 16384 in
theorem n_274 {d : Nat} {h : AH} (x0 : Nat) :
    E (d + 1) 274 [.ref x0] h =
  cK (E d 348 [.ref x0] h) (Q d 274 4 [some (.ref x0)]) [] := by
  exact entL (l := [some (.ref x0)]) rfl rfl ((blkM (fun p => Nat.beq p 4) 3 0 _ _ _).trans rfl)

set_option maxRecDepth 16384 in
theorem n_274_4 {d : Nat} {h : AH} (x0 : Nat) :
    Q d 274 4 [some (.ref x0)] [] h =
  (ck (gC h x0) 1 <|
  some (none, sI h 256 x0 (nI 0))) := by
  exact (blkM (fun p => false) 5 4 _ _ _).trans rfl

set_option maxRecDepth 16384 in
theorem n_275 {d : Nat} {h : AH} (x0 : Int32) (x1 : Int32) :
    E (d + 1) 275 [.int x0, .int x1] h =
  cK (E d 344 [.int x0, .int x1, gsv h 64] h) (Q d 275 8 [some (.int x0), some (.int x1)]) [] := by
  exact entL (l := [some (.int x0), some (.int x1)]) rfl rfl ((blkM (fun p => Nat.beq p 8) 5 0 _ _ _).trans rfl)

set_option maxRecDepth 16384 in
theorem n_275_8 {d : Nat} {h : AH} (u0 : Option Value) (u1 : Option Value) (s0 : Int32) :
    Q d 275 8 [u0, u1] [.int s0] h =
  some (none, h) := by
  exact (blkM (fun p => false) 3 8 _ _ _).trans rfl

set_option maxRecDepth 16384 in
theorem n_344 {d : Nat} {h : AH} (x0 : Int32) (x1 : Int32) (x2 : Nat) :
    E (d + 1) 344 [.int x0, .int x1, .ref x2] h =
  if x0 < nI 0 then
   none
  else
   if x0 < x1 then
    some (some (.int x0), h)
   else
    none := by
  exact entL (l := [some (.int x0), some (.int x1), some (.ref x2)]) rfl rfl ((blkM (fun p => false) 10 0 _ _ _).trans rfl)

set_option maxRecDepth 16384 in
theorem n_344n {d : Nat} {h : AH} (x0 : Int32) (x1 : Int32) :
    E (d + 1) 344 [.int x0, .int x1, .null] h =
  if x0 < nI 0 then
   none
  else
   if x0 < x1 then
    some (some (.int x0), h)
   else
    none := by
  exact entL (l := [some (.int x0), some (.int x1), some (.null)]) rfl rfl ((blkM (fun p => false) 10 0 _ _ _).trans rfl)

set_option maxRecDepth 16384 in
theorem n_348 {d : Nat} {h : AH} (x0 : Nat) :
    E (d + 1) 348 [.ref x0] h =
  some (none, h) := by
  exact entL (l := [some (.ref x0)]) rfl rfl ((blkM (fun p => false) 4 0 _ _ _).trans rfl)
