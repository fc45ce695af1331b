/-! ===== THE METHODS, PIECE BY PIECE: 0 (made by wip/gen/gen40.py) ===== -/
/-! 2 PostRoom.feed(JJJ)I -/
set_option maxRecDepth 16384 in
theorem t_2 {d : Nat} {h : AH} (hs : Sh h) (x1 : Int64) (x3 : Int64) (x5 : Int64) :
    E (d + 1) 2 [.ref 100, .long x1, .long x3, .long x5] h =
  cK (E d 192 [.ref 101, .long x1] h) (Q d 2 8 [some (.ref 100), some (.long x1), none, some (.long x3), none, some (.long x5), none]) [] := by
  rw [← hs.1]
  exact entL (l := [some (.ref 100), some (.long x1), none, some (.long x3), none, some (.long x5), none]) rfl rfl ((blkM (fun p => Nat.beq p 8) 5 0 _ _ _).trans rfl)

set_option maxRecDepth 16384 in
theorem t_2_8 {d : Nat} {h : AH} (hs : Sh h) (x3 : Int64) (x5 : Int64) (u1 : Option Value) (u2 : Option Value) :
    Q d 2 8 [some (.ref 100), u1, u2, some (.long x3), none, some (.long x5), none] [] h =
  cK (E d 192 [.ref 101, .long x3] h) (Q d 2 16 [some (.ref 100), u1, u2, some (.long x3), none, some (.long x5), none]) [] := by
  rw [← hs.1]
  exact (blkM (fun p => Nat.beq p 16) 5 8 _ _ _).trans rfl

set_option maxRecDepth 16384 in
theorem t_2_16 {d : Nat} {h : AH} (hs : Sh h) (x5 : Int64) (u1 : Option Value) (u2 : Option Value) (u3 : Option Value) (u4 : Option Value) :
    Q d 2 16 [some (.ref 100), u1, u2, u3, u4, some (.long x5), none] [] h =
  cK (E d 192 [.ref 101, .long x5] h) (Q d 2 25 [some (.ref 100), u1, u2, u3, u4, some (.long x5), none]) [] := by
  rw [← hs.1]
  exact (blkM (fun p => Nat.beq p 25) 5 16 _ _ _).trans rfl

set_option maxRecDepth 16384 in
theorem t_2_25 {d : Nat} {h : AH} (hs : Sh h) (u1 : Option Value) (u2 : Option Value) (u3 : Option Value) (u4 : Option Value) (u5 : Option Value) (u6 : Option Value) :
    Q d 2 25 [some (.ref 100), u1, u2, u3, u4, u5, u6] [] h =
  some (some (.int (gI h 3073 101)), h) := by
  rw [← hs.1]
  exact (blkM (fun p => false) 5 25 _ _ _).trans rfl

/-! 3 PostRoom.book()I -/
set_option maxRecDepth 16384 in
theorem t_3 {d : Nat} {h : AH} (hs : Sh h)  :
    E (d + 1) 3 [.ref 100] h =
  Q d 3 3 [some (.ref 100), none, none] [.ref (gN h)] (nwO h 2 9) := by
  rw [← hs.1]
  exact entL (l := [some (.ref 100), none, none]) rfl rfl ((blkM (fun p => Nat.beq p 3) 3 0 _ _ _).trans rfl)

set_option maxRecDepth 16384 in
theorem t_3_3 {d : Nat} {h : AH} (hs : Sh h) (u1 : Option Value) (u2 : Option Value) (s0 : Nat) :
    Q d 3 3 [some (.ref 100), u1, u2] [.ref s0] h =
  cK (E d 193 [.ref s0, .ref 101] h) (Q d 3 11 [some (.ref 100), u1, u2]) [.ref s0] := by
  rw [← hs.1]
  exact (blkM (fun p => Nat.beq p 11) 5 3 _ _ _).trans rfl

set_option maxRecDepth 16384 in
theorem t_3_11 {d : Nat} {h : AH} (hs : Sh h) (u1 : Option Value) (u2 : Option Value) (s0 : Nat) :
    Q d 3 11 [some (.ref 100), u1, u2] [.ref s0] h =
  (ck (gC h s0) 2 <|
  cK (E d 194 [.ref s0] h) (Q d 3 16 [some (.ref 100), some (.ref s0), u2]) []) := by
  rw [← hs.1]
  exact (blkM (fun p => Nat.beq p 16) 4 11 _ _ _).trans rfl

set_option maxRecDepth 16384 in
theorem t_3_16 {d : Nat} {h : AH} (hs : Sh h) (x1 : Nat) (u2 : Option Value) (s0 : Int32) :
    Q d 3 16 [some (.ref 100), some (.ref x1), u2] [.int s0] h =
  cK (E d 195 [.ref 101] h) (Q d 3 24 [some (.ref 100), some (.ref x1), some (.int s0)]) [] := by
  rw [← hs.1]
  exact (blkM (fun p => Nat.beq p 24) 5 16 _ _ _).trans rfl

set_option maxRecDepth 16384 in
theorem t_3_24 {d : Nat} {h : AH} (hs : Sh h) (x1 : Nat) (x2 : Int32) :
    Q d 3 24 [some (.ref 100), some (.ref x1), some (.int x2)] [] h =
  if x2 = nI 0 then
   cK (E d 196 [.ref 156, .ref x1] h) (Q d 3 36 [some (.ref 100), some (.ref x1), some (.int x2)]) []
  else
   some (some (.int x2), h) := by
  rw [← hs.1]
  exact (blkM (fun p => Nat.beq p 36) 7 24 _ _ _).trans rfl

set_option maxRecDepth 16384 in
theorem t_3_36 {d : Nat} {h : AH} (hs : Sh h) (x2 : Int32) (u1 : Option Value) :
    Q d 3 36 [some (.ref 100), u1, some (.int x2)] [] h =
  cK (E d 197 [.ref 175] h) (Q d 3 43 [some (.ref 100), u1, some (.int x2)]) [] := by
  rw [← hs.1]
  exact (blkM (fun p => Nat.beq p 43) 4 36 _ _ _).trans rfl

set_option maxRecDepth 16384 in
theorem t_3_43 {d : Nat} {h : AH} (hs : Sh h) (x2 : Int32) (u1 : Option Value) :
    Q d 3 43 [some (.ref 100), u1, some (.int x2)] [] h =
  some (some (.int x2), sI (sI (sI (sI h 3334 100 (nI 0)) 3335 100 (-1)) 3336 100 (-1)) 3337 100 (-1)) := by
  rw [← hs.1]
  exact (blkM (fun p => false) 15 43 _ _ _).trans rfl

/-! 4 PostRoom.find()I -/
set_option maxRecDepth 16384 in
theorem t_4 {d : Nat} {h : AH} (hs : Sh h)  :
    E (d + 1) 4 [.ref 100] h =
  cK (E d 5 [.ref 100] h) (Q d 4 4 [some (.ref 100), none]) [] := by
  rw [← hs.1]
  exact entL (l := [some (.ref 100), none]) rfl rfl ((blkM (fun p => Nat.beq p 4) 3 0 _ _ _).trans rfl)

set_option maxRecDepth 16384 in
theorem t_4_4 {d : Nat} {h : AH} (hs : Sh h) (u1 : Option Value) (s0 : Int32) :
    Q d 4 4 [some (.ref 100), u1] [.int s0] h =
  if s0 < nI 0 then
   some (some (.int s0), h)
  else
   some (some (.int s0), sI (sI h 3335 100 (gI h 1030 103)) 3336 100 (gI h 1031 103)) := by
  rw [← hs.1]
  exact (blkM (fun p => false) 16 4 _ _ _).trans rfl

/-! 5 PostRoom.takeAddress()I -/
set_option maxRecDepth 16384 in
theorem t_5 {d : Nat} {h : AH} (hs : Sh h)  :
    E (d + 1) 5 [.ref 100] h =
  (gR h 2048 156).bind fun y1 =>
   cK (E d 198 [.ref 103, .ref 101, .ref y1] h) (Q d 5 18 [some (.ref 100), none]) [] := by
  rw [← hs.1]
  exact entL (l := [some (.ref 100), none]) rfl rfl ((blkM (fun p => Nat.beq p 18) 9 0 _ _ _).trans rfl)

set_option maxRecDepth 16384 in
theorem t_5_18 {d : Nat} {h : AH} (hs : Sh h) (u1 : Option Value) (s0 : Int32) :
    Q d 5 18 [some (.ref 100), u1] [.int s0] h =
  cK (E d 195 [.ref 101] h) (Q d 5 26 [some (.ref 100), some (.int s0)]) [] := by
  rw [← hs.1]
  exact (blkM (fun p => Nat.beq p 26) 5 18 _ _ _).trans rfl

set_option maxRecDepth 16384 in
theorem t_5_26 {d : Nat} {h : AH} (hs : Sh h) (x1 : Int32) (u0 : Option Value) :
    Q d 5 26 [u0, some (.int x1)] [] h =
  some (some (.int x1), h) := by
  rw [← hs.1]
  exact (blkM (fun p => false) 3 26 _ _ _).trans rfl

/-! 6 PostRoom.found(I)I -/
set_option maxRecDepth 16384 in
theorem t_6 {d : Nat} {h : AH} (hs : Sh h) (x1 : Int32) :
    E (d + 1) 6 [.ref 100, .int x1] h =
  if x1 = nI 0 then
   some (some (.int (gI h 3335 100)), h)
  else
   if x1 = nI 1 then
    some (some (.int (gI h 3336 100)), h)
   else
    some (some (.int (-1)), h) := by
  rw [← hs.1]
  exact entL (l := [some (.ref 100), some (.int x1)]) rfl rfl ((blkM (fun p => false) 10 0 _ _ _).trans rfl)

/-! 7 PostRoom.read()I -/
set_option maxRecDepth 16384 in
theorem t_7 {d : Nat} {h : AH} (hs : Sh h)  :
    E (d + 1) 7 [.ref 100] h =
  Q d 7 4 [some (.ref 100), none, none, none, none, none] [.ref (gN h)] (nwA h 60 11) := by
  rw [← hs.1]
  exact entL (l := [some (.ref 100), none, none, none, none, none]) rfl rfl ((blkM (fun p => Nat.beq p 4) 4 0 _ _ _).trans rfl)

set_option maxRecDepth 16384 in
theorem t_7_4 {d : Nat} {h : AH} (hs : Sh h) (u1 : Option Value) (u2 : Option Value) (u3 : Option Value) (u4 : Option Value) (u5 : Option Value) (s0 : Nat) :
    Q d 7 4 [some (.ref 100), u1, u2, u3, u4, u5] [.ref s0] h =
  Q d 7 9 [some (.ref 100), some (.ref s0), u2, u3, u4, u5] [.ref (gN h)] (nwA h 63 11) := by
  rw [← hs.1]
  exact (blkM (fun p => Nat.beq p 9) 5 4 _ _ _).trans rfl

set_option maxRecDepth 16384 in
theorem t_7_9 {d : Nat} {h : AH} (hs : Sh h) (x1 : Nat) (u2 : Option Value) (u3 : Option Value) (u4 : Option Value) (u5 : Option Value) (s0 : Nat) :
    Q d 7 9 [some (.ref 100), some (.ref x1), u2, u3, u4, u5] [.ref s0] h =
  cK (E d 199 [.ref 101, .ref x1, .ref s0] h) (Q d 7 19 [some (.ref 100), some (.ref x1), some (.ref s0), u3, u4, u5]) [] := by
  rw [← hs.1]
  exact (blkM (fun p => Nat.beq p 19) 7 9 _ _ _).trans rfl

set_option maxRecDepth 16384 in
theorem t_7_19 {d : Nat} {h : AH} (hs : Sh h) (x1 : Nat) (x2 : Nat) (u3 : Option Value) (u4 : Option Value) (u5 : Option Value) (s0 : Int32) :
    Q d 7 19 [some (.ref 100), some (.ref x1), some (.ref x2), u3, u4, u5] [.int s0] h =
  cK (E d 195 [.ref 101] h) (Q d 7 27 [some (.ref 100), some (.ref x1), some (.ref x2), some (.int s0), u4, u5]) [] := by
  rw [← hs.1]
  exact (blkM (fun p => Nat.beq p 27) 5 19 _ _ _).trans rfl

set_option maxRecDepth 16384 in
theorem t_7_27 {d : Nat} {h : AH} (hs : Sh h) (x1 : Nat) (x2 : Nat) (x3 : Int32) (u4 : Option Value) (u5 : Option Value) :
    Q d 7 27 [some (.ref 100), some (.ref x1), some (.ref x2), some (.int x3), u4, u5] [] h =
  if x3 = nI 0 then
   some (some (.int (-3)), h)
  else
   cK (E d 200 [.ref x1, .ref x2] h) (Q d 7 39 [some (.ref 100), some (.ref x1), some (.ref x2), some (.int x3), u4, u5]) [] := by
  rw [← hs.1]
  exact (blkM (fun p => Nat.beq p 39) 6 27 _ _ _).trans rfl

set_option maxRecDepth 16384 in
theorem t_7_39 {d : Nat} {h : AH} (hs : Sh h) (x1 : Nat) (u2 : Option Value) (u3 : Option Value) (u4 : Option Value) (u5 : Option Value) (s0 : Int32) :
    Q d 7 39 [some (.ref 100), some (.ref x1), u2, u3, u4, u5] [.int s0] h =
  if s0 = (-1) then
   some (some (.int (-1)), h)
  else
   cK (E d 201 [.ref 156, .ref x1] (sI h 3337 100 s0)) (Q d 7 63 [some (.ref 100), some (.ref x1), u2, klV u3, some (.int s0), u5]) [] := by
  rw [← hs.1]
  exact (blkM (fun p => Nat.beq p 63) 12 39 _ _ _).trans rfl

set_option maxRecDepth 16384 in
theorem t_7_63 {d : Nat} {h : AH} (hs : Sh h) (u0 : Option Value) (u1 : Option Value) (u2 : Option Value) (u3 : Option Value) (u4 : Option Value) (u5 : Option Value) (s0 : Int32) :
    Q d 7 63 [u0, u1, u2, u3, u4, u5] [.int s0] h =
  if s0 = (-1) then
   some (some (.int (-2)), h)
  else
   some (some (.int s0), h) := by
  rw [← hs.1]
  exact (blkM (fun p => false) 8 63 _ _ _).trans rfl

/-! 8 PostRoom.mended()I -/
set_option maxRecDepth 16384 in
theorem t_8 {d : Nat} {h : AH} (hs : Sh h)  :
    E (d + 1) 8 [.ref 100] h =
  some (some (.int (gI h 3337 100)), h) := by
  rw [← hs.1]
  exact entL (l := [some (.ref 100)]) rfl rfl ((blkM (fun p => false) 4 0 _ _ _).trans rfl)

/-! 9 PostRoom.tick(I)I -/
set_option maxRecDepth 16384 in
theorem t_9 {d : Nat} {h : AH} (hs : Sh h) (x1 : Int32) :
    E (d + 1) 9 [.ref 100, .int x1] h =
  if x1 < nI 0 then
   Q d 9 23 [none, none] [.int (-1)] h
  else
   if (nI 3000) < x1 then
    Q d 9 23 [none, none] [.int (-1)] h
   else
    cK (E d 202 [.ref 156, .int x1] h) (Q d 9 23 [none, none]) [] := by
  rw [← hs.1]
  exact entL (l := [some (.ref 100), some (.int x1)]) rfl rfl ((blkM (fun p => Nat.beq p 23) 10 0 _ _ _).trans rfl)

set_option maxRecDepth 16384 in
theorem t_9_23 {d : Nat} {h : AH} (hs : Sh h) (s0 : Int32) :
    Q d 9 23 [none, none] [.int s0] h =
  some (some (.int s0), h) := by
  rw [← hs.1]
  exact (blkM (fun p => false) 2 23 _ _ _).trans rfl

/-! 10 PostRoom.sort(I)I -/
set_option maxRecDepth 16384 in
theorem t_10 {d : Nat} {h : AH} (hs : Sh h) (x1 : Int32) :
    E (d + 1) 10 [.ref 100, .int x1] h =
  (gR h 2048 156).bind fun y1 =>
   ck (gC h y1) 2 <|
   cK (E d 203 [.ref y1, .int x1] h) (Q d 10 11 [some (.ref 100), some (.int x1)]) [] := by
  rw [← hs.1]
  exact entL (l := [some (.ref 100), some (.int x1)]) rfl rfl ((blkM (fun p => Nat.beq p 11) 6 0 _ _ _).trans rfl)

set_option maxRecDepth 16384 in
theorem t_10_11 {d : Nat} {h : AH} (hs : Sh h) (x1 : Int32) (s0 : Int32) :
    Q d 10 11 [some (.ref 100), some (.int x1)] [.int s0] h =
  if s0 = nI 0 then
   some (some (.int (-1)), h)
  else
   cK (E d 204 [.ref 156, .int x1] h) (Q d 10 22 [some (.ref 100), some (.int x1)]) [] := by
  rw [← hs.1]
  exact (blkM (fun p => Nat.beq p 22) 6 11 _ _ _).trans rfl

set_option maxRecDepth 16384 in
theorem t_10_22 {d : Nat} {h : AH} (hs : Sh h) (u0 : Option Value) (u1 : Option Value) (s0 : Int32) :
    Q d 10 22 [u0, u1] [.int s0] h =
  some (some (.int s0), h) := by
  rw [← hs.1]
  exact (blkM (fun p => false) 3 22 _ _ _).trans rfl

/-! 11 PostRoom.deliver(II)I -/
set_option maxRecDepth 16384 in
theorem t_11 {d : Nat} {h : AH} (hs : Sh h) (x1 : Int32) (x2 : Int32) :
    E (d + 1) 11 [.ref 100, .int x1, .int x2] h =
  (gR h 2048 156).bind fun y1 =>
   ck (gC h y1) 2 <|
   cK (E d 203 [.ref y1, .int x1] h) (Q d 11 11 [some (.ref 100), some (.int x1), some (.int x2)]) [] := by
  rw [← hs.1]
  exact entL (l := [some (.ref 100), some (.int x1), some (.int x2)]) rfl rfl ((blkM (fun p => Nat.beq p 11) 6 0 _ _ _).trans rfl)

set_option maxRecDepth 16384 in
theorem t_11_11 {d : Nat} {h : AH} (hs : Sh h) (x1 : Int32) (x2 : Int32) (s0 : Int32) :
    Q d 11 11 [some (.ref 100), some (.int x1), some (.int x2)] [.int s0] h =
  if s0 = nI 0 then
   some (some (.int (-2)), h)
  else
   if x2 < nI 0 then
    some (some (.int (-2)), h)
   else
    if (nI 10) < x2 then
     some (some (.int (-2)), h)
    else
     if x2 = nI 10 then
      cK (E d 205 [.ref 156, .int x1] h) (Q d 11 41 [some (.ref 100), some (.int x1), some (.int x2)]) []
     else
      cK (E d 206 [.ref 156, .int x1, .int x2] h) (Q d 11 53 [none, none, none]) [] := by
  rw [← hs.1]
  exact (blkM (fun p => Nat.beq p 41 || Nat.beq p 53) 15 11 _ _ _).trans rfl

set_option maxRecDepth 16384 in
theorem t_11_41 {d : Nat} {h : AH} (hs : Sh h) (u0 : Option Value) (u1 : Option Value) (u2 : Option Value) (s0 : Int32) :
    Q d 11 41 [u0, u1, u2] [.int s0] h =
  Q d 11 53 [none, none, none] [.int s0] h := by
  rw [← hs.1]
  exact (blkM (fun p => Nat.beq p 53) 3 41 _ _ _).trans rfl

set_option maxRecDepth 16384 in
theorem t_11_53 {d : Nat} {h : AH} (hs : Sh h) (s0 : Int32) :
    Q d 11 53 [none, none, none] [.int s0] h =
  some (some (.int s0), h) := by
  rw [← hs.1]
  exact (blkM (fun p => false) 2 53 _ _ _).trans rfl

/-! 12 PostRoom.moved(II)Z -/
set_option maxRecDepth 16384 in
theorem t_12 {d : Nat} {h : AH} (hs : Sh h) (x1 : Int32) (x2 : Int32) :
    E (d + 1) 12 [.ref 100, .int x1, .int x2] h =
  cK (E d 5 [.ref 100] h) (Q d 12 4 [some (.ref 100), some (.int x1), some (.int x2), none]) [] := by
  rw [← hs.1]
  exact entL (l := [some (.ref 100), some (.int x1), some (.int x2), none]) rfl rfl ((blkM (fun p => Nat.beq p 4) 3 0 _ _ _).trans rfl)

set_option maxRecDepth 16384 in
theorem t_12_4 {d : Nat} {h : AH} (hs : Sh h) (x1 : Int32) (x2 : Int32) (u3 : Option Value) (s0 : Int32) :
    Q d 12 4 [some (.ref 100), some (.int x1), some (.int x2), u3] [.int s0] h =
  if s0 < nI 0 then
   some (some (.int (nI 0)), h)
  else
   (gR h 2048 156).bind fun y1 =>
    ck (gC h y1) 2 <|
    cK (E d 207 [.ref y1, .int x1] h) (Q d 12 20 [some (.ref 100), some (.int x1), some (.int x2), some (.int s0)]) [] := by
  rw [← hs.1]
  exact (blkM (fun p => Nat.beq p 20) 9 4 _ _ _).trans rfl

set_option maxRecDepth 16384 in
theorem t_12_20 {d : Nat} {h : AH} (hs : Sh h) (x1 : Int32) (x2 : Int32) (x3 : Int32) (s0 : Int32) :
    Q d 12 20 [some (.ref 100), some (.int x1), some (.int x2), some (.int x3)] [.int s0] h =
  if s0 = nI 0 then
   some (some (.int (nI 0)), h)
  else
   if x3 = x1 then
    if gI h 1030 103 = x2 then
     some (some (.int (nI 0)), h)
    else
     cK (E d 208 [.int x3, .int (gI h 1030 103)] h) (Q d 12 58 [some (.ref 100), some (.int x1), some (.int x2), some (.int x3)]) [.int x2, .int x1, .ref 156]
   else
    cK (E d 208 [.int x3, .int (gI h 1030 103)] h) (Q d 12 58 [some (.ref 100), some (.int x1), some (.int x2), some (.int x3)]) [.int x2, .int x1, .ref 156] := by
  rw [← hs.1]
  exact (blkM (fun p => Nat.beq p 58) 19 20 _ _ _).trans rfl

set_option maxRecDepth 16384 in
theorem t_12_58 {d : Nat} {h : AH} (hs : Sh h) (u0 : Option Value) (u1 : Option Value) (u2 : Option Value) (u3 : Option Value) (s0 : Nat) (s1 : Int32) (s2 : Int32) (s3 : Int32) :
    Q d 12 58 [u0, u1, u2, u3] [.int s3, .int s2, .int s1, .ref s0] h =
  (ck (gC h s0) 8 <|
  cK (E d 209 [.ref s0, .int s1, .int s2, .int s3] h) (Q d 12 61 [u0, u1, u2, u3]) []) := by
  rw [← hs.1]
  exact (blkM (fun p => Nat.beq p 61) 2 58 _ _ _).trans rfl

set_option maxRecDepth 16384 in
theorem t_12_61 {d : Nat} {h : AH} (hs : Sh h) (u0 : Option Value) (u1 : Option Value) (u2 : Option Value) (u3 : Option Value) (s0 : Int32) :
    Q d 12 61 [u0, u1, u2, u3] [.int s0] h =
  if s0 = 0 ∨ s0 = 1 then
   some (some (.int s0), h)
  else
   none := by
  rw [← hs.1]
  exact (blkM (fun p => false) 2 61 _ _ _).trans rfl

/-! 13 PostRoom.gone(II)Z -/
set_option maxRecDepth 16384 in
theorem t_13 {d : Nat} {h : AH} (hs : Sh h) (x1 : Int32) (x2 : Int32) :
    E (d + 1) 13 [.ref 100, .int x1, .int x2] h =
  (gR h 2048 156).bind fun y1 =>
   ck (gC h y1) 2 <|
   cK (E d 207 [.ref y1, .int x1] h) (Q d 13 11 [some (.ref 100), some (.int x1), some (.int x2)]) [] := by
  rw [← hs.1]
  exact entL (l := [some (.ref 100), some (.int x1), some (.int x2)]) rfl rfl ((blkM (fun p => Nat.beq p 11) 6 0 _ _ _).trans rfl)

set_option maxRecDepth 16384 in
theorem t_13_11 {d : Nat} {h : AH} (hs : Sh h) (x1 : Int32) (x2 : Int32) (s0 : Int32) :
    Q d 13 11 [some (.ref 100), some (.int x1), some (.int x2)] [.int s0] h =
  if s0 = nI 0 then
   some (some (.int (nI 0)), h)
  else
   cK (E d 209 [.ref 156, .int x1, .int x2, .int (-1)] h) (Q d 13 24 [some (.ref 100), some (.int x1), some (.int x2)]) [] := by
  rw [← hs.1]
  exact (blkM (fun p => Nat.beq p 24) 8 11 _ _ _).trans rfl

set_option maxRecDepth 16384 in
theorem t_13_24 {d : Nat} {h : AH} (hs : Sh h) (u0 : Option Value) (u1 : Option Value) (u2 : Option Value) (s0 : Int32) :
    Q d 13 24 [u0, u1, u2] [.int s0] h =
  if s0 = nI 0 then
   some (some (.int (nI 0)), h)
  else
   some (some (.int (nI 1)), h) := by
  rw [← hs.1]
  exact (blkM (fun p => false) 5 24 _ _ _).trans rfl

/-! 14 PostRoom.programme()I -/
set_option maxRecDepth 16384 in
theorem t_14 {d : Nat} {h : AH} (hs : Sh h)  :
    E (d + 1) 14 [.ref 100] h =
  (gR h 3333 100).bind fun y1 =>
   ck (gC h y1) 9 <|
   cK (E d 210 [.ref y1, .ref 101] h) (Q d 14 11 [some (.ref 100), none, none]) [] := by
  rw [← hs.1]
  exact entL (l := [some (.ref 100), none, none]) rfl rfl ((blkM (fun p => Nat.beq p 11) 6 0 _ _ _).trans rfl)

set_option maxRecDepth 16384 in
theorem t_14_11 {d : Nat} {h : AH} (hs : Sh h) (u1 : Option Value) (u2 : Option Value) (s0 : Int32) :
    Q d 14 11 [some (.ref 100), u1, u2] [.int s0] h =
  cK (E d 195 [.ref 101] h) (Q d 14 19 [some (.ref 100), some (.int s0), u2]) [] := by
  rw [← hs.1]
  exact (blkM (fun p => Nat.beq p 19) 5 11 _ _ _).trans rfl

set_option maxRecDepth 16384 in
theorem t_14_19 {d : Nat} {h : AH} (hs : Sh h) (x1 : Int32) (u2 : Option Value) :
    Q d 14 19 [some (.ref 100), some (.int x1), u2] [] h =
  if x1 = nI 0 then
   (gR h 3332 100).bind fun y1 =>
    (gR h 3333 100).bind fun y2 =>
     some (some (.int x1), sI (sR (sR h 3332 100 (some y2)) 3333 100 (some y1)) 3334 100 (nI 1))
  else
   some (some (.int x1), h) := by
  rw [← hs.1]
  exact (blkM (fun p => false) 18 19 _ _ _).trans rfl

/-! 15 PostRoom.run(II)I -/
set_option maxRecDepth 16384 in
theorem t_15 {d : Nat} {h : AH} (hs : Sh h) (x1 : Int32) (x2 : Int32) :
    E (d + 1) 15 [.ref 100, .int x1, .int x2] h =
  if gI h 3334 100 = nI 0 then
   some (some (.int (-1)), h)
  else
   (gR h 2048 156).bind fun y1 =>
    ck (gC h y1) 2 <|
    cK (E d 203 [.ref y1, .int x1] h) (Q d 15 18 [some (.ref 100), some (.int x1), some (.int x2)]) [] := by
  rw [← hs.1]
  exact entL (l := [some (.ref 100), some (.int x1), some (.int x2)]) rfl rfl ((blkM (fun p => Nat.beq p 18) 9 0 _ _ _).trans rfl)

set_option maxRecDepth 16384 in
theorem t_15_18 {d : Nat} {h : AH} (hs : Sh h) (x1 : Int32) (x2 : Int32) (s0 : Int32) :
    Q d 15 18 [some (.ref 100), some (.int x1), some (.int x2)] [.int s0] h =
  if s0 = nI 0 then
   some (some (.int (-1)), h)
  else
   if x2 < nI 1 then
    some (some (.int (-1)), h)
   else
    if (nI 20000) < x2 then
     some (some (.int (-1)), h)
    else
     (gR h 3332 100).bind fun y1 =>
      cK (E d 211 [.ref 175, .ref y1, .int x1, .int x2] h) (Q d 15 48 [some (.ref 100), some (.int x1), some (.int x2)]) [] := by
  rw [← hs.1]
  exact (blkM (fun p => Nat.beq p 48) 15 18 _ _ _).trans rfl

set_option maxRecDepth 16384 in
theorem t_15_48 {d : Nat} {h : AH} (hs : Sh h) (u0 : Option Value) (u1 : Option Value) (u2 : Option Value) (s0 : Int32) :
    Q d 15 48 [u0, u1, u2] [.int s0] h =
  some (some (.int s0), h) := by
  rw [← hs.1]
  exact (blkM (fun p => false) 2 48 _ _ _).trans rfl

/-! 16 PostRoom.shelf(II)I -/
set_option maxRecDepth 16384 in
theorem t_16 {d : Nat} {h : AH} (hs : Sh h) (x1 : Int32) (x2 : Int32) :
    E (d + 1) 16 [.ref 100, .int x1, .int x2] h =
  (gR h 2048 156).bind fun y1 =>
   ck (gC h y1) 2 <|
   cK (E d 203 [.ref y1, .int x1] h) (Q d 16 11 [some (.ref 100), some (.int x1), some (.int x2)]) [] := by
  rw [← hs.1]
  exact entL (l := [some (.ref 100), some (.int x1), some (.int x2)]) rfl rfl ((blkM (fun p => Nat.beq p 11) 6 0 _ _ _).trans rfl)

set_option maxRecDepth 16384 in
theorem t_16_11 {d : Nat} {h : AH} (hs : Sh h) (x1 : Int32) (x2 : Int32) (s0 : Int32) :
    Q d 16 11 [some (.ref 100), some (.int x1), some (.int x2)] [.int s0] h =
  if s0 = nI 0 then
   some (some (.int (-1)), h)
  else
   (gR h 2048 156).bind fun y1 =>
    ck (gC h y1) 2 <|
    (gR h 512 y1).bind fun y2 =>
     ck (gC h y2) 1 <|
     cK (E d 212 [.ref y2, .int x1] h) (Q d 16 28 [some (.ref 100), some (.int x1), some (.int x2)]) [] := by
  rw [← hs.1]
  exact (blkM (fun p => Nat.beq p 28) 8 11 _ _ _).trans rfl

set_option maxRecDepth 16384 in
theorem t_16_28 {d : Nat} {h : AH} (hs : Sh h) (x2 : Int32) (u0 : Option Value) (u1 : Option Value) (s0 : Nat) :
    Q d 16 28 [u0, u1, some (.int x2)] [.ref s0] h =
  (ck (gC h s0) 7 <|
  ck (gC h s0) 7 <|
  (gR h 1797 s0).bind fun y1 =>
   cK (E d 17 [.ref y1, .int x2] h) (Q d 16 38 [u0, u1, some (.int x2)]) []) := by
  rw [← hs.1]
  exact (blkM (fun p => Nat.beq p 38) 5 28 _ _ _).trans rfl

set_option maxRecDepth 16384 in
theorem t_16_38 {d : Nat} {h : AH} (hs : Sh h) (u0 : Option Value) (u1 : Option Value) (u2 : Option Value) (s0 : Int32) :
    Q d 16 38 [u0, u1, u2] [.int s0] h =
  some (some (.int s0), h) := by
  rw [← hs.1]
  exact (blkM (fun p => false) 3 38 _ _ _).trans rfl

/-! 17 PostRoom.numberIn(Ljava/util/ArrayList;I)I -/
set_option maxRecDepth 16384 in
theorem t_17 {d : Nat} {h : AH} (hs : Sh h) (x0 : Nat) (x1 : Int32) :
    E (d + 1) 17 [.ref x0, .int x1] h =
  if x1 < nI 0 then
   some (some (.int (-1)), h)
  else
   ck (gC h x0) 1 <|
   cK (E d 213 [.ref x0] h) (Q d 17 9 [some (.ref x0), some (.int x1)]) [.int x1] := by
  rw [← hs.1]
  exact entL (l := [some (.ref x0), some (.int x1)]) rfl rfl ((blkM (fun p => Nat.beq p 9) 6 0 _ _ _).trans rfl)

set_option maxRecDepth 16384 in
theorem t_17_9 {d : Nat} {h : AH} (hs : Sh h) (x0 : Nat) (x1 : Int32) (s0 : Int32) (s1 : Int32) :
    Q d 17 9 [some (.ref x0), some (.int x1)] [.int s1, .int s0] h =
  if s0 < s1 then
   ck (gC h x0) 1 <|
   cK (E d 212 [.ref x0, .int x1] h) (Q d 17 21 [some (.ref x0), some (.int x1)]) []
  else
   some (some (.int (-1)), h) := by
  rw [← hs.1]
  exact (blkM (fun p => Nat.beq p 21) 5 9 _ _ _).trans rfl

set_option maxRecDepth 16384 in
theorem t_17_21 {d : Nat} {h : AH} (hs : Sh h) (u0 : Option Value) (u1 : Option Value) (s0 : Nat) :
    Q d 17 21 [u0, u1] [.ref s0] h =
  (ck (gC h s0) 5 <|
  ck (gC h s0) 5 <|
  some (some (.int (gI h 1280 s0)), h)) := by
  rw [← hs.1]
  exact (blkM (fun p => false) 4 21 _ _ _).trans rfl

/-! 18 PostRoom.bag(II)I -/
set_option maxRecDepth 16384 in
theorem t_18 {d : Nat} {h : AH} (hs : Sh h) (x1 : Int32) (x2 : Int32) :
    E (d + 1) 18 [.ref 100, .int x1, .int x2] h =
  (gR h 2048 156).bind fun y1 =>
   ck (gC h y1) 2 <|
   cK (E d 214 [.ref y1, .int x1] h) (Q d 18 11 [some (.ref 100), some (.int x1), some (.int x2)]) [] := by
  rw [← hs.1]
  exact entL (l := [some (.ref 100), some (.int x1), some (.int x2)]) rfl rfl ((blkM (fun p => Nat.beq p 11) 6 0 _ _ _).trans rfl)

set_option maxRecDepth 16384 in
theorem t_18_11 {d : Nat} {h : AH} (hs : Sh h) (x1 : Int32) (x2 : Int32) (s0 : Int32) :
    Q d 18 11 [some (.ref 100), some (.int x1), some (.int x2)] [.int s0] h =
  if s0 = nI 0 then
   some (some (.int (-1)), h)
  else
   (gR h 2048 156).bind fun y1 =>
    ck (gC h y1) 2 <|
    (gR h 515 y1).bind fun y2 =>
     ck (gC h y2) 1 <|
     cK (E d 212 [.ref y2, .int x1] h) (Q d 18 28 [some (.ref 100), some (.int x1), some (.int x2)]) [] := by
  rw [← hs.1]
  exact (blkM (fun p => Nat.beq p 28) 8 11 _ _ _).trans rfl

set_option maxRecDepth 16384 in
theorem t_18_28 {d : Nat} {h : AH} (hs : Sh h) (x2 : Int32) (u0 : Option Value) (u1 : Option Value) (s0 : Nat) :
    Q d 18 28 [u0, u1, some (.int x2)] [.ref s0] h =
  (ck (gC h s0) 3 <|
  ck (gC h s0) 3 <|
  (gR h 775 s0).bind fun y1 =>
   cK (E d 17 [.ref y1, .int x2] h) (Q d 18 38 [u0, u1, some (.int x2)]) []) := by
  rw [← hs.1]
  exact (blkM (fun p => Nat.beq p 38) 5 28 _ _ _).trans rfl

set_option maxRecDepth 16384 in
theorem t_18_38 {d : Nat} {h : AH} (hs : Sh h) (u0 : Option Value) (u1 : Option Value) (u2 : Option Value) (s0 : Int32) :
    Q d 18 38 [u0, u1, u2] [.int s0] h =
  some (some (.int s0), h) := by
  rw [← hs.1]
  exact (blkM (fun p => false) 3 38 _ _ _).trans rfl

/-! 19 PostRoom.count(I)I -/
set_option maxRecDepth 16384 in
theorem t_19 {d : Nat} {h : AH} (hs : Sh h) (x1 : Int32) :
    E (d + 1) 19 [.ref 100, .int x1] h =
  if x1 = nI 0 then
   (gR h 2048 156).bind fun y7 =>
    ck (gC h y7) 2 <|
    (gR h 512 y7).bind fun y8 =>
     ck (gC h y8) 1 <|
     cK (E d 213 [.ref y8] h) (Q d 19 101 [some (.ref 100), some (.int x1)]) []
  else
   if x1 = nI 1 then
   (gR h 2048 156).bind fun y5 =>
    ck (gC h y5) 2 <|
    (gR h 513 y5).bind fun y6 =>
     ck (gC h y6) 1 <|
     cK (E d 213 [.ref y6] h) (Q d 19 115 [some (.ref 100), some (.int x1)]) []
  else
   if x1 = nI 2 then
   (gR h 2048 156).bind fun y3 =>
    ck (gC h y3) 2 <|
    (gR h 514 y3).bind fun y4 =>
     ck (gC h y4) 1 <|
     cK (E d 213 [.ref y4] h) (Q d 19 129 [some (.ref 100), some (.int x1)]) []
  else
   if x1 = nI 3 then
   (gR h 2048 156).bind fun y1 =>
    ck (gC h y1) 2 <|
    (gR h 515 y1).bind fun y2 =>
     ck (gC h y2) 1 <|
     cK (E d 213 [.ref y2] h) (Q d 19 143 [some (.ref 100), some (.int x1)]) []
  else
   if x1 = nI 4 then
   some (some (.int (gI h 2051 156)), h)
  else
   if x1 = nI 5 then
   cK (E d 213 [.ref 164] h) (Q d 19 162 [some (.ref 100), some (.int x1)]) []
  else
   if x1 = nI 6 then
   cK (E d 215 [.ref 156, .int (x1 - (nI 6))] h) (Q d 19 174 [some (.ref 100), some (.int x1)]) []
  else
   if x1 = nI 7 then
   cK (E d 215 [.ref 156, .int (x1 - (nI 6))] h) (Q d 19 174 [some (.ref 100), some (.int x1)]) []
  else
   if x1 = nI 8 then
   cK (E d 215 [.ref 156, .int (x1 - (nI 6))] h) (Q d 19 174 [some (.ref 100), some (.int x1)]) []
  else
   if x1 = nI 9 then
   cK (E d 215 [.ref 156, .int (x1 - (nI 6))] h) (Q d 19 174 [some (.ref 100), some (.int x1)]) []
  else
   if x1 = nI 10 then
   cK (E d 215 [.ref 156, .int (x1 - (nI 6))] h) (Q d 19 174 [some (.ref 100), some (.int x1)]) []
  else
   if x1 = nI 11 then
   some (some (.int (gI h 2055 156)), h)
  else
   if x1 = nI 12 then
   some (some (.int (gI h 2052 156)), h)
  else
   if x1 = nI 13 then
   some (some (.int (gI h 1553 175)), h)
  else
   if x1 = nI 14 then
   some (some (.int (gI h 1549 175)), h)
  else
   if x1 = nI 15 then
   cK (E d 216 [.ref 156] h) (Q d 19 214 [some (.ref 100), some (.int x1)]) []
  else
   if x1 = nI 16 then
   some (some (.int (gI h 3073 101)), h)
  else
   if x1 = nI 17 then
   cK (E d 217 [.ref 156] h) (Q d 19 230 [some (.ref 100), some (.int x1)]) []
  else
   some (some (.int (-1)), h) := by
  rw [← hs.1]
  exact entL (l := [some (.ref 100), some (.int x1)]) rfl rfl ((blkM (fun p => Nat.beq p 101 || Nat.beq p 115 || Nat.beq p 129 || Nat.beq p 143 || Nat.beq p 162 || Nat.beq p 174 || Nat.beq p 214 || Nat.beq p 230) 9 0 _ _ _).trans rfl)

set_option maxRecDepth 16384 in
theorem t_19_101 {d : Nat} {h : AH} (hs : Sh h) (u0 : Option Value) (u1 : Option Value) (s0 : Int32) :
    Q d 19 101 [u0, u1] [.int s0] h =
  some (some (.int s0), h) := by
  rw [← hs.1]
  exact (blkM (fun p => false) 2 101 _ _ _).trans rfl

set_option maxRecDepth 16384 in
theorem t_19_115 {d : Nat} {h : AH} (hs : Sh h) (u0 : Option Value) (u1 : Option Value) (s0 : Int32) :
    Q d 19 115 [u0, u1] [.int s0] h =
  some (some (.int s0), h) := by
  rw [← hs.1]
  exact (blkM (fun p => false) 2 115 _ _ _).trans rfl

set_option maxRecDepth 16384 in
theorem t_19_129 {d : Nat} {h : AH} (hs : Sh h) (u0 : Option Value) (u1 : Option Value) (s0 : Int32) :
    Q d 19 129 [u0, u1] [.int s0] h =
  some (some (.int s0), h) := by
  rw [← hs.1]
  exact (blkM (fun p => false) 2 129 _ _ _).trans rfl

set_option maxRecDepth 16384 in
theorem t_19_143 {d : Nat} {h : AH} (hs : Sh h) (u0 : Option Value) (u1 : Option Value) (s0 : Int32) :
    Q d 19 143 [u0, u1] [.int s0] h =
  some (some (.int s0), h) := by
  rw [← hs.1]
  exact (blkM (fun p => false) 2 143 _ _ _).trans rfl

set_option maxRecDepth 16384 in
theorem t_19_162 {d : Nat} {h : AH} (hs : Sh h) (u0 : Option Value) (u1 : Option Value) (s0 : Int32) :
    Q d 19 162 [u0, u1] [.int s0] h =
  some (some (.int s0), h) := by
  rw [← hs.1]
  exact (blkM (fun p => false) 2 162 _ _ _).trans rfl

set_option maxRecDepth 16384 in
theorem t_19_174 {d : Nat} {h : AH} (hs : Sh h) (u0 : Option Value) (u1 : Option Value) (s0 : Int32) :
    Q d 19 174 [u0, u1] [.int s0] h =
  some (some (.int s0), h) := by
  rw [← hs.1]
  exact (blkM (fun p => false) 2 174 _ _ _).trans rfl

set_option maxRecDepth 16384 in
theorem t_19_214 {d : Nat} {h : AH} (hs : Sh h) (u0 : Option Value) (u1 : Option Value) (s0 : Int32) :
    Q d 19 214 [u0, u1] [.int s0] h =
  some (some (.int s0), h) := by
  rw [← hs.1]
  exact (blkM (fun p => false) 2 214 _ _ _).trans rfl

set_option maxRecDepth 16384 in
theorem t_19_230 {d : Nat} {h : AH} (hs : Sh h) (u0 : Option Value) (u1 : Option Value) (s0 : Int32) :
    Q d 19 230 [u0, u1] [.int s0] h =
  some (some (.int s0), h) := by
  rw [← hs.1]
  exact (blkM (fun p => false) 2 230 _ _ _).trans rfl

/-! 20 PostRoom.price(IIII)I -/
set_option maxRecDepth 16384 in
theorem t_20 {d : Nat} {h : AH} (hs : Sh h) (x1 : Int32) (x2 : Int32) (x3 : Int32) (x4 : Int32) :
    E (d + 1) 20 [.ref 100, .int x1, .int x2, .int x3, .int x4] h =
  (gR h 2048 156).bind fun y1 =>
   ck (gC h y1) 2 <|
   cK (E d 218 [.ref y1, .int x1] h) (Q d 20 15 [some (.ref 100), some (.int x1), some (.int x2), some (.int x3), some (.int x4), some (.ref y1)]) [] := by
  rw [← hs.1]
  exact entL (l := [some (.ref 100), some (.int x1), some (.int x2), some (.int x3), some (.int x4), none]) rfl rfl ((blkM (fun p => Nat.beq p 15) 8 0 _ _ _).trans rfl)

set_option maxRecDepth 16384 in
theorem t_20_15 {d : Nat} {h : AH} (hs : Sh h) (x1 : Int32) (x2 : Int32) (x3 : Int32) (x4 : Int32) (x5 : Nat) (u0 : Option Value) (s0 : Int32) :
    Q d 20 15 [u0, some (.int x1), some (.int x2), some (.int x3), some (.int x4), some (.ref x5)] [.int s0] h =
  if s0 = nI 0 then
   none
  else
   ck (gC h x5) 2 <|
   cK (E d 203 [.ref x5, .int x3] h) (Q d 20 24 [u0, some (.int x1), some (.int x2), some (.int x3), some (.int x4), some (.ref x5)]) [] := by
  rw [← hs.1]
  exact (blkM (fun p => Nat.beq p 24) 5 15 _ _ _).trans rfl

set_option maxRecDepth 16384 in
theorem t_20_24 {d : Nat} {h : AH} (hs : Sh h) (x1 : Int32) (x2 : Int32) (x3 : Int32) (x4 : Int32) (x5 : Nat) (u0 : Option Value) (s0 : Int32) :
    Q d 20 24 [u0, some (.int x1), some (.int x2), some (.int x3), some (.int x4), some (.ref x5)] [.int s0] h =
  if s0 = nI 0 then
   none
  else
   ck (gC h x5) 2 <|
   cK (E d 203 [.ref x5, .int x4] h) (Q d 20 34 [u0, some (.int x1), some (.int x2), some (.int x3), some (.int x4), some (.ref x5)]) [] := by
  rw [← hs.1]
  exact (blkM (fun p => Nat.beq p 34) 5 24 _ _ _).trans rfl

set_option maxRecDepth 16384 in
theorem t_20_34 {d : Nat} {h : AH} (hs : Sh h) (x1 : Int32) (x2 : Int32) (x3 : Int32) (x4 : Int32) (x5 : Nat) (u0 : Option Value) (s0 : Int32) :
    Q d 20 34 [u0, some (.int x1), some (.int x2), some (.int x3), some (.int x4), some (.ref x5)] [.int s0] h =
  if s0 = nI 0 then
   none
  else
   ck (gC h x5) 2 <|
   cK (E d 219 [.ref x5, .int x1, .int x2, .int x3, .int x4] h) (Q d 20 57 [u0, some (.int x1), some (.int x2), some (.int x3), some (.int x4), some (.ref x5)]) [] := by
  rw [← hs.1]
  exact (blkM (fun p => Nat.beq p 57) 8 34 _ _ _).trans rfl

set_option maxRecDepth 16384 in
theorem t_20_57 {d : Nat} {h : AH} (hs : Sh h) (u0 : Option Value) (u1 : Option Value) (u2 : Option Value) (u3 : Option Value) (u4 : Option Value) (u5 : Option Value) (s0 : Int32) :
    Q d 20 57 [u0, u1, u2, u3, u4, u5] [.int s0] h =
  some (some (.int s0), h) := by
  rw [← hs.1]
  exact (blkM (fun p => false) 2 57 _ _ _).trans rfl

/-! 21 PostRoom.way(II)I -/
set_option maxRecDepth 16384 in
theorem t_21 {d : Nat} {h : AH} (hs : Sh h) (x1 : Int32) (x2 : Int32) :
    E (d + 1) 21 [.ref 100, .int x1, .int x2] h =
  (gR h 2048 156).bind fun y1 =>
   ck (gC h y1) 2 <|
   cK (E d 203 [.ref y1, .int x1] h) (Q d 21 11 [some (.ref 100), some (.int x1), some (.int x2)]) [] := by
  rw [← hs.1]
  exact entL (l := [some (.ref 100), some (.int x1), some (.int x2)]) rfl rfl ((blkM (fun p => Nat.beq p 11) 6 0 _ _ _).trans rfl)

set_option maxRecDepth 16384 in
theorem t_21_11 {d : Nat} {h : AH} (hs : Sh h) (x1 : Int32) (x2 : Int32) (s0 : Int32) :
    Q d 21 11 [some (.ref 100), some (.int x1), some (.int x2)] [.int s0] h =
  if s0 = nI 0 then
   none
  else
   (gR h 2048 156).bind fun y1 =>
    ck (gC h y1) 2 <|
    cK (E d 203 [.ref y1, .int x2] h) (Q d 21 25 [some (.ref 100), some (.int x1), some (.int x2)]) [] := by
  rw [← hs.1]
  exact (blkM (fun p => Nat.beq p 25) 7 11 _ _ _).trans rfl

set_option maxRecDepth 16384 in
theorem t_21_25 {d : Nat} {h : AH} (hs : Sh h) (x1 : Int32) (x2 : Int32) (s0 : Int32) :
    Q d 21 25 [some (.ref 100), some (.int x1), some (.int x2)] [.int s0] h =
  if s0 = nI 0 then
   none
  else
   cK (E d 220 [.ref 156, .int x1, .int x2] h) (Q d 21 47 [some (.ref 100), some (.int x1), some (.int x2)]) [] := by
  rw [← hs.1]
  exact (blkM (fun p => Nat.beq p 47) 7 25 _ _ _).trans rfl

set_option maxRecDepth 16384 in
theorem t_21_47 {d : Nat} {h : AH} (hs : Sh h) (u0 : Option Value) (u1 : Option Value) (u2 : Option Value) (s0 : Int32) :
    Q d 21 47 [u0, u1, u2] [.int s0] h =
  some (some (.int s0), h) := by
  rw [← hs.1]
  exact (blkM (fun p => false) 2 47 _ _ _).trans rfl

/-! 22 PostRoom.accept(III)I -/
set_option maxRecDepth 16384 in
theorem t_22 {d : Nat} {h : AH} (hs : Sh h) (x1 : Int32) (x2 : Int32) (x3 : Int32) :
    E (d + 1) 22 [.ref 100, .int x1, .int x2, .int x3] h =
  cK (E d 5 [.ref 100] h) (Q d 22 4 [some (.ref 100), some (.int x1), some (.int x2), some (.int x3), none, none]) [] := by
  rw [← hs.1]
  exact entL (l := [some (.ref 100), some (.int x1), some (.int x2), some (.int x3), none, none]) rfl rfl ((blkM (fun p => Nat.beq p 4) 3 0 _ _ _).trans rfl)

set_option maxRecDepth 16384 in
theorem t_22_4 {d : Nat} {h : AH} (hs : Sh h) (x1 : Int32) (x2 : Int32) (x3 : Int32) (u4 : Option Value) (u5 : Option Value) (s0 : Int32) :
    Q d 22 4 [some (.ref 100), some (.int x1), some (.int x2), some (.int x3), u4, u5] [.int s0] h =
  (gR h 2048 156).bind fun y1 =>
   ck (gC h y1) 2 <|
   cK (E d 218 [.ref y1, .int x1] h) (Q d 22 21 [some (.ref 100), some (.int x1), some (.int x2), some (.int x3), some (.int s0), some (.ref y1)]) [] := by
  rw [← hs.1]
  exact (blkM (fun p => Nat.beq p 21) 9 4 _ _ _).trans rfl

set_option maxRecDepth 16384 in
theorem t_22_21 {d : Nat} {h : AH} (hs : Sh h) (x1 : Int32) (x2 : Int32) (x3 : Int32) (x4 : Int32) (x5 : Nat) (s0 : Int32) :
    Q d 22 21 [some (.ref 100), some (.int x1), some (.int x2), some (.int x3), some (.int x4), some (.ref x5)] [.int s0] h =
  if s0 = nI 0 then
   none
  else
   ck (gC h x5) 2 <|
   cK (E d 203 [.ref x5, .int x3] h) (Q d 22 30 [some (.ref 100), some (.int x1), some (.int x2), some (.int x3), some (.int x4), some (.ref x5)]) [] := by
  rw [← hs.1]
  exact (blkM (fun p => Nat.beq p 30) 5 21 _ _ _).trans rfl

set_option maxRecDepth 16384 in
theorem t_22_30 {d : Nat} {h : AH} (hs : Sh h) (x1 : Int32) (x2 : Int32) (x3 : Int32) (x4 : Int32) (x5 : Nat) (s0 : Int32) :
    Q d 22 30 [some (.ref 100), some (.int x1), some (.int x2), some (.int x3), some (.int x4), some (.ref x5)] [.int s0] h =
  if s0 = nI 0 then
   none
  else
   if x4 < nI 0 then
    some (some (.int x4), h)
   else
    ck (gC h x5) 2 <|
    (gR h 514 x5).bind fun y1 =>
     ck (gC h y1) 1 <|
     cK (E d 212 [.ref y1, .int x1] h) (Q d 22 60 [some (.ref 100), some (.int x1), some (.int x2), some (.int x3), some (.int x4), some (.ref x5)]) [] := by
  rw [← hs.1]
  exact (blkM (fun p => Nat.beq p 60) 8 30 _ _ _).trans rfl

set_option maxRecDepth 16384 in
theorem t_22_60 {d : Nat} {h : AH} (hs : Sh h) (x1 : Int32) (x2 : Int32) (x3 : Int32) (x4 : Int32) (u5 : Option Value) (s0 : Nat) :
    Q d 22 60 [some (.ref 100), some (.int x1), some (.int x2), some (.int x3), some (.int x4), u5] [.ref s0] h =
  (ck (gC h s0) 10 <|
  ck (gC h s0) 10 <|
  cK (E d 221 [.ref s0, .int x2] h) (Q d 22 67 [some (.ref 100), some (.int x1), some (.int x2), some (.int x3), some (.int x4), u5]) []) := by
  rw [← hs.1]
  exact (blkM (fun p => Nat.beq p 67) 4 60 _ _ _).trans rfl

set_option maxRecDepth 16384 in
theorem t_22_67 {d : Nat} {h : AH} (hs : Sh h) (x1 : Int32) (x2 : Int32) (x3 : Int32) (x4 : Int32) (u5 : Option Value) (s0 : Int32) :
    Q d 22 67 [some (.ref 100), some (.int x1), some (.int x2), some (.int x3), some (.int x4), u5] [.int s0] h =
  if s0 = nI 0 then
   some (some (.int (-3)), h)
  else
   cK (E d 213 [.ref 164] h) (Q d 22 83 [some (.ref 100), some (.int x1), some (.int x2), some (.int x3), some (.int x4), u5]) [] := by
  rw [← hs.1]
  exact (blkM (fun p => Nat.beq p 83) 6 67 _ _ _).trans rfl

set_option maxRecDepth 16384 in
theorem t_22_83 {d : Nat} {h : AH} (hs : Sh h) (x1 : Int32) (x2 : Int32) (x3 : Int32) (x4 : Int32) (u5 : Option Value) (s0 : Int32) :
    Q d 22 83 [some (.ref 100), some (.int x1), some (.int x2), some (.int x3), some (.int x4), u5] [.int s0] h =
  if s0 < nI 200 then
   cK (E d 222 [.ref 156, .int x1, .int x2, .int x3, .int x4, .int (gI h 1030 103)] h) (Q d 22 111 [some (.ref 100), some (.int x1), some (.int x2), some (.int x3), some (.int x4), u5]) []
  else
   some (some (.int (-4)), h) := by
  rw [← hs.1]
  exact (blkM (fun p => Nat.beq p 111) 13 83 _ _ _).trans rfl

set_option maxRecDepth 16384 in
theorem t_22_111 {d : Nat} {h : AH} (hs : Sh h) (u0 : Option Value) (u1 : Option Value) (u2 : Option Value) (u3 : Option Value) (u4 : Option Value) (u5 : Option Value) (s0 : Int32) :
    Q d 22 111 [u0, u1, u2, u3, u4, u5] [.int s0] h =
  some (some (.int s0), h) := by
  rw [← hs.1]
  exact (blkM (fun p => false) 2 111 _ _ _).trans rfl

/-! 23 PostRoom.bar(II)I -/
set_option maxRecDepth 16384 in
theorem t_23 {d : Nat} {h : AH} (hs : Sh h) (x1 : Int32) (x2 : Int32) :
    E (d + 1) 23 [.ref 100, .int x1, .int x2] h =
  cK (E d 223 [.ref 156, .int x1] h) (Q d 23 8 [some (.ref 100), some (.int x1), some (.int x2)]) [] := by
  rw [← hs.1]
  exact entL (l := [some (.ref 100), some (.int x1), some (.int x2)]) rfl rfl ((blkM (fun p => Nat.beq p 8) 5 0 _ _ _).trans rfl)

set_option maxRecDepth 16384 in
theorem t_23_8 {d : Nat} {h : AH} (hs : Sh h) (x1 : Int32) (x2 : Int32) (s0 : Int32) :
    Q d 23 8 [some (.ref 100), some (.int x1), some (.int x2)] [.int s0] h =
  if s0 = nI 0 then
   none
  else
   if x2 < nI 0 then
    none
   else
    if x2 < nI 33 then
     cK (E d 212 [.ref 164, .int x1] h) (Q d 23 42 [some (.ref 100), some (.int x1), some (.int x2)]) []
    else
     none := by
  rw [← hs.1]
  exact (blkM (fun p => Nat.beq p 42) 12 8 _ _ _).trans rfl

set_option maxRecDepth 16384 in
theorem t_23_42 {d : Nat} {h : AH} (hs : Sh h) (x2 : Int32) (u0 : Option Value) (u1 : Option Value) (s0 : Nat) :
    Q d 23 42 [u0, u1, some (.int x2)] [.ref s0] h =
  (ck (gC h s0) 5 <|
  ck (gC h s0) 5 <|
  (gR h 1285 s0).bind fun y1 =>
   dz (nI 3) <|
   ck (gC h y1) 60 <|
   gd (x2 / (nI 3)) (gK h y1) <|
   dz (nI 3) <|
   some (some (.int (((gA h y1 (ix (x2 / (nI 3)))) >>> (((nI 4) - ((x2 - x2 / (nI 3) * (nI 3)) * (nI 2))) &&& 31)) &&& (nI 3))), h)) := by
  rw [← hs.1]
  exact (blkM (fun p => false) 18 42 _ _ _).trans rfl

/-! 24 PostRoom.number(I)J -/
set_option maxRecDepth 16384 in
theorem t_24 {d : Nat} {h : AH} (hs : Sh h) (x1 : Int32) :
    E (d + 1) 24 [.ref 100, .int x1] h =
  if x1 < nI 0 then
   none
  else
   if x1 < nI 10 then
    gd x1 10 <|
    some (some (.long (gB h 176 (ix x1))), h)
   else
    none := by
  rw [← hs.1]
  exact entL (l := [some (.ref 100), some (.int x1)]) rfl rfl ((blkM (fun p => false) 15 0 _ _ _).trans rfl)

/-! 25 PostRoom.held(I)I -/
set_option maxRecDepth 16384 in
theorem t_25 {d : Nat} {h : AH} (hs : Sh h) (x1 : Int32) :
    E (d + 1) 25 [.ref 100, .int x1] h =
  if x1 < nI 0 then
   none
  else
   if x1 < nI 4 then
    gd x1 4 <|
    some (some (.int (gA h 177 (ix x1))), h)
   else
    none := by
  rw [← hs.1]
  exact entL (l := [some (.ref 100), some (.int x1)]) rfl rfl ((blkM (fun p => false) 15 0 _ _ _).trans rfl)

/-! 26 PostRoom.tray(II)I -/
set_option maxRecDepth 16384 in
theorem t_26 {d : Nat} {h : AH} (hs : Sh h) (x1 : Int32) (x2 : Int32) :
    E (d + 1) 26 [.ref 100, .int x1, .int x2] h =
  if x1 < nI 0 then
   none
  else
   if x1 < nI 12 then
    cK (E d 224 [.ref 175, .int x1, .int x2] h) (Q d 26 29 [some (.ref 100), some (.int x1), some (.int x2)]) []
   else
    none := by
  rw [← hs.1]
  exact entL (l := [some (.ref 100), some (.int x1), some (.int x2)]) rfl rfl ((blkM (fun p => Nat.beq p 29) 11 0 _ _ _).trans rfl)

set_option maxRecDepth 16384 in
theorem t_26_29 {d : Nat} {h : AH} (hs : Sh h) (u0 : Option Value) (u1 : Option Value) (u2 : Option Value) (s0 : Int32) :
    Q d 26 29 [u0, u1, u2] [.int s0] h =
  some (some (.int s0), h) := by
  rw [← hs.1]
  exact (blkM (fun p => false) 2 29 _ _ _).trans rfl

/-! 27 PostRoom.place(II)J -/
set_option maxRecDepth 16384 in
theorem t_27 {d : Nat} {h : AH} (hs : Sh h) (x1 : Int32) (x2 : Int32) :
    E (d + 1) 27 [.ref 100, .int x1, .int x2] h =
  if x1 < nI 0 then
   none
  else
   if x1 < nI 12 then
    gd x1 12 <|
    if gA h 178 (ix x1) = nI 0 then
     none
    else
     if x2 < nI 0 then
      none
     else
      gd x1 12 <|
      if x2 < gA h 180 (ix x1) then
       gd x1 12 <|
       gd ((gA h 179 (ix x1)) + x2) 2000 <|
       some (some (.long (gB h 182 (ix ((gA h 179 (ix x1)) + x2)))), h)
      else
       none
   else
    none := by
  rw [← hs.1]
  exact entL (l := [some (.ref 100), some (.int x1), some (.int x2)]) rfl rfl ((blkM (fun p => false) 33 0 _ _ _).trans rfl)

/-! 28 PostRoom.item(II)I -/
set_option maxRecDepth 16384 in
theorem t_28 {d : Nat} {h : AH} (hs : Sh h) (x1 : Int32) (x2 : Int32) :
    E (d + 1) 28 [.ref 100, .int x1, .int x2] h =
  cK (E d 223 [.ref 156, .int x1] h) (Q d 28 8 [some (.ref 100), some (.int x1), some (.int x2)]) [] := by
  rw [← hs.1]
  exact entL (l := [some (.ref 100), some (.int x1), some (.int x2)]) rfl rfl ((blkM (fun p => Nat.beq p 8) 5 0 _ _ _).trans rfl)

set_option maxRecDepth 16384 in
theorem t_28_8 {d : Nat} {h : AH} (hs : Sh h) (x1 : Int32) (x2 : Int32) (s0 : Int32) :
    Q d 28 8 [some (.ref 100), some (.int x1), some (.int x2)] [.int s0] h =
  if s0 = nI 0 then
   none
  else
   if x2 < nI 0 then
    none
   else
    if (nI 10) < x2 then
     none
    else
     cK (E d 212 [.ref 164, .int x1] h) (Q d 28 42 [some (.ref 100), some (.int x1), some (.int x2)]) [] := by
  rw [← hs.1]
  exact (blkM (fun p => Nat.beq p 42) 12 8 _ _ _).trans rfl

set_option maxRecDepth 16384 in
theorem t_28_42 {d : Nat} {h : AH} (hs : Sh h) (x2 : Int32) (u0 : Option Value) (u1 : Option Value) (s0 : Nat) :
    Q d 28 42 [u0, u1, some (.int x2)] [.ref s0] h =
  (ck (gC h s0) 5 <|
  ck (gC h s0) 5 <|
  cK (E d 225 [.ref s0, .int x2] h) (Q d 28 49 [u0, u1, some (.int x2)]) []) := by
  rw [← hs.1]
  exact (blkM (fun p => Nat.beq p 49) 4 42 _ _ _).trans rfl

set_option maxRecDepth 16384 in
theorem t_28_49 {d : Nat} {h : AH} (hs : Sh h) (u0 : Option Value) (u1 : Option Value) (u2 : Option Value) (s0 : Int32) :
    Q d 28 49 [u0, u1, u2] [.int s0] h =
  some (some (.int s0), h) := by
  rw [← hs.1]
  exact (blkM (fun p => false) 2 49 _ _ _).trans rfl

/-! 29 PostRoomModel.thrown()I -/
set_option maxRecDepth 16384 in
theorem t_29 {d : Nat} {h : AH} (hs : Sh h)  :
    E (d + 1) 29 [.ref 189] h =
  some (some (.int (gI h 3586 189)), h) := by
  rw [← hs.1]
  exact entL (l := [some (.ref 189)]) rfl rfl ((blkM (fun p => false) 4 0 _ _ _).trans rfl)

/-! 30 PostRoomModel.rank(I)I -/
set_option maxRecDepth 16384 in
theorem t_30 {d : Nat} {h : AH} (hs : Sh h) (x0 : Int32) :
    E (d + 1) 30 [.int x0] h =
  if x0 < nI 97 then
   if x0 < nI 48 then
    some (some (.int (nI 0)), h)
   else
    if (nI 57) < x0 then
     some (some (.int (nI 0)), h)
    else
     some (some (.int (x0 - (nI 21))), h)
  else
   if (nI 122) < x0 then
    if x0 < nI 48 then
     some (some (.int (nI 0)), h)
    else
     if (nI 57) < x0 then
      some (some (.int (nI 0)), h)
     else
      some (some (.int (x0 - (nI 21))), h)
   else
    some (some (.int (x0 - (nI 96))), h) := by
  rw [← hs.1]
  exact entL (l := [some (.int x0)]) rfl rfl ((blkM (fun p => false) 18 0 _ _ _).trans rfl)

/-! 31 PostRoomModel.forget()V -/
set_option maxRecDepth 16384 in
theorem t_31 {d : Nat} {h : AH} (hs : Sh h)  :
    E (d + 1) 31 [.ref 189] h =
  Q d 31 63 [some (.ref 189), some (.int (nI 0))] [] (sI (sI (sI (sI (sI (sI (sI (sI (sI (sI (sI (sI h 3654 189 (nI 0)) 3677 189 (nI 0)) 3678 189 (nI 7)) 3688 189 (nI 0)) 3676 189 (nI 0)) 3720 189 (nI 0)) 3667 189 (nI 0)) 3644 189 (-1)) 3645 189 (-1)) 3653 189 (-1)) 3695 189 (nI 0)) 3679 189 (-1)) := by
  rw [← hs.1]
  exact entL (l := [some (.ref 189), none]) rfl rfl ((blkM (fun p => Nat.beq p 63) 40 0 _ _ _).trans rfl)

set_option maxRecDepth 16384 in
theorem t_31_63 {d : Nat} {h : AH} (hs : Sh h) (x1 : Int32) :
    Q d 31 63 [some (.ref 189), some (.int x1)] [] h =
  if x1 < nI 40 then
   gd x1 40 <|
   Q d 31 63 [some (.ref 189), some (.int (x1 + nI 1))] [] (sA h 257 (ix x1) (nI 0))
  else
   Q d 31 84 [some (.ref 189), some (.int (nI 0))] [] h := by
  rw [← hs.1]
  exact (blkM (fun p => Nat.beq p 63 || Nat.beq p 84) 12 63 _ _ _).trans rfl

set_option maxRecDepth 16384 in
theorem t_31_84 {d : Nat} {h : AH} (hs : Sh h) (x1 : Int32) :
    Q d 31 84 [some (.ref 189), some (.int x1)] [] h =
  if x1 < nI 16 then
   gd x1 16 <|
   Q d 31 84 [some (.ref 189), some (.int (x1 + nI 1))] [] (sA h 255 (ix x1) (nI 0))
  else
   cK (E d 32 [.ref 189] h) (Q d 31 107 [some (.ref 189), some (.int x1)]) [] := by
  rw [← hs.1]
  exact (blkM (fun p => Nat.beq p 84 || Nat.beq p 107) 12 84 _ _ _).trans rfl

set_option maxRecDepth 16384 in
theorem t_31_107 {d : Nat} {h : AH} (hs : Sh h) (u0 : Option Value) (u1 : Option Value) :
    Q d 31 107 [u0, u1] [] h =
  some (none, h) := by
  rw [← hs.1]
  exact (blkM (fun p => false) 2 107 _ _ _).trans rfl

/-! 32 PostRoomModel.forgetRun()V -/
set_option maxRecDepth 16384 in
theorem t_32 {d : Nat} {h : AH} (hs : Sh h)  :
    E (d + 1) 32 [.ref 189] h =
  Q d 32 2 [some (.ref 189), some (.int (nI 0))] [] h := by
  rw [← hs.1]
  exact entL (l := [some (.ref 189), none]) rfl rfl ((blkM (fun p => Nat.beq p 2) 4 0 _ _ _).trans rfl)

set_option maxRecDepth 16384 in
theorem t_32_2 {d : Nat} {h : AH} (hs : Sh h) (x1 : Int32) :
    Q d 32 2 [some (.ref 189), some (.int x1)] [] h =
  if x1 < nI 10 then
   gd x1 10 <|
   Q d 32 2 [some (.ref 189), some (.int (x1 + nI 1))] [] (sB h 282 (ix x1) 0)
  else
   Q d 32 23 [some (.ref 189), some (.int (nI 0))] [] h := by
  rw [← hs.1]
  exact (blkM (fun p => Nat.beq p 2 || Nat.beq p 23) 12 2 _ _ _).trans rfl

set_option maxRecDepth 16384 in
theorem t_32_23 {d : Nat} {h : AH} (hs : Sh h) (x1 : Int32) :
    Q d 32 23 [some (.ref 189), some (.int x1)] [] h =
  if x1 < nI 4 then
   gd x1 4 <|
   Q d 32 23 [some (.ref 189), some (.int (x1 + nI 1))] [] (sA h 283 (ix x1) (-1))
  else
   Q d 32 43 [some (.ref 189), some (.int (nI 0))] [] h := by
  rw [← hs.1]
  exact (blkM (fun p => Nat.beq p 23 || Nat.beq p 43) 12 23 _ _ _).trans rfl

set_option maxRecDepth 16384 in
theorem t_32_43 {d : Nat} {h : AH} (hs : Sh h) (x1 : Int32) :
    Q d 32 43 [some (.ref 189), some (.int x1)] [] h =
  if x1 < nI 12 then
   gd x1 12 <|
   Q d 32 43 [some (.ref 189), some (.int (x1 + nI 1))] [] (sA h 284 (ix x1) (-1))
  else
   some (none, h) := by
  rw [← hs.1]
  exact (blkM (fun p => Nat.beq p 43) 12 43 _ _ _).trans rfl

/-! 33 PostRoomModel.feed(JJJ)I -/
set_option maxRecDepth 16384 in
theorem t_33 {d : Nat} {h : AH} (hs : Sh h) (x1 : Int64) (x3 : Int64) (x5 : Int64) :
    E (d + 1) 33 [.ref 189, .long x1, .long x3, .long x5] h =
  cK (E d 34 [.ref 189, .long x1] (sI h 3586 189 (nI 0))) (Q d 33 10 [some (.ref 189), some (.long x1), none, some (.long x3), none, some (.long x5), none]) [] := by
  rw [← hs.1]
  exact entL (l := [some (.ref 189), some (.long x1), none, some (.long x3), none, some (.long x5), none]) rfl rfl ((blkM (fun p => Nat.beq p 10) 7 0 _ _ _).trans rfl)

set_option maxRecDepth 16384 in
theorem t_33_10 {d : Nat} {h : AH} (hs : Sh h) (x3 : Int64) (x5 : Int64) (u1 : Option Value) (u2 : Option Value) :
    Q d 33 10 [some (.ref 189), u1, u2, some (.long x3), none, some (.long x5), none] [] h =
  cK (E d 34 [.ref 189, .long x3] h) (Q d 33 15 [some (.ref 189), u1, u2, some (.long x3), none, some (.long x5), none]) [] := by
  rw [← hs.1]
  exact (blkM (fun p => Nat.beq p 15) 4 10 _ _ _).trans rfl

set_option maxRecDepth 16384 in
theorem t_33_15 {d : Nat} {h : AH} (hs : Sh h) (x5 : Int64) (u1 : Option Value) (u2 : Option Value) (u3 : Option Value) (u4 : Option Value) :
    Q d 33 15 [some (.ref 189), u1, u2, u3, u4, some (.long x5), none] [] h =
  cK (E d 34 [.ref 189, .long x5] h) (Q d 33 21 [some (.ref 189), u1, u2, u3, u4, some (.long x5), none]) [] := by
  rw [← hs.1]
  exact (blkM (fun p => Nat.beq p 21) 4 15 _ _ _).trans rfl

set_option maxRecDepth 16384 in
theorem t_33_21 {d : Nat} {h : AH} (hs : Sh h) (u1 : Option Value) (u2 : Option Value) (u3 : Option Value) (u4 : Option Value) (u5 : Option Value) (u6 : Option Value) :
    Q d 33 21 [some (.ref 189), u1, u2, u3, u4, u5, u6] [] h =
  some (some (.int (gI h 3590 189)), h) := by
  rw [← hs.1]
  exact (blkM (fun p => false) 4 21 _ _ _).trans rfl

/-! 34 PostRoomModel.lay(J)V -/
set_option maxRecDepth 16384 in
theorem t_34 {d : Nat} {h : AH} (hs : Sh h) (x1 : Int64) :
    E (d + 1) 34 [.ref 189, .long x1] h =
  Q d 34 3 [some (.ref 189), some (.long x1), none, some (.int (nI 56)), none] [] h := by
  rw [← hs.1]
  exact entL (l := [some (.ref 189), some (.long x1), none, none, none]) rfl rfl ((blkM (fun p => Nat.beq p 3) 4 0 _ _ _).trans rfl)

set_option maxRecDepth 16384 in
theorem t_34_3 {d : Nat} {h : AH} (hs : Sh h) (x1 : Int64) (x3 : Int32) :
    Q d 34 3 [some (.ref 189), some (.long x1), none, some (.int x3), none] [] h =
  if x3 < nI 0 then
   some (none, h)
  else
   if ((x1 >>> (x3.toInt64 &&& 63)).toInt32) &&& (nI 255) = nI 10 then
    if gI h 3590 189 < nI 4000 then
     gd (gI h 3590 189) 4000 <|
     Q d 34 3 [some (.ref 189), some (.long x1), none, some (.int (x3 + (-8))), none] [] (sI (sA h 193 (ix (gI h 3590 189)) (((x1 >>> (x3.toInt64 &&& 63)).toInt32) &&& (nI 255))) 3590 189 ((gI h 3590 189) + (nI 1)))
    else
     Q d 34 3 [some (.ref 189), some (.long x1), none, some (.int (x3 + (-8))), none] [] h
   else
    if ((x1 >>> (x3.toInt64 &&& 63)).toInt32) &&& (nI 255) < nI 32 then
     Q d 34 3 [some (.ref 189), some (.long x1), none, some (.int (x3 + (-8))), none] [] h
    else
     if (nI 126) < ((x1 >>> (x3.toInt64 &&& 63)).toInt32) &&& (nI 255) then
      Q d 34 3 [some (.ref 189), some (.long x1), none, some (.int (x3 + (-8))), none] [] h
     else
      if gI h 3590 189 < nI 4000 then
       gd (gI h 3590 189) 4000 <|
       Q d 34 3 [some (.ref 189), some (.long x1), none, some (.int (x3 + (-8))), none] [] (sI (sA h 193 (ix (gI h 3590 189)) (((x1 >>> (x3.toInt64 &&& 63)).toInt32) &&& (nI 255))) 3590 189 ((gI h 3590 189) + (nI 1)))
      else
       Q d 34 3 [some (.ref 189), some (.long x1), none, some (.int (x3 + (-8))), none] [] h := by
  rw [← hs.1]
  exact (blkM (fun p => Nat.beq p 3) 38 3 _ _ _).trans rfl

/-! 35 PostRoomModel.book()I -/
set_option maxRecDepth 16384 in
theorem t_35 {d : Nat} {h : AH} (hs : Sh h)  :
    E (d + 1) 35 [.ref 189] h =
  cK (E d 36 [.ref 189] (sI h 3586 189 (nI 0))) (Q d 35 9 [some (.ref 189)]) [] := by
  rw [← hs.1]
  exact entL (l := [some (.ref 189)]) rfl rfl ((blkM (fun p => Nat.beq p 9) 6 0 _ _ _).trans rfl)

set_option maxRecDepth 16384 in
theorem t_35_9 {d : Nat} {h : AH} (hs : Sh h)  :
    Q d 35 9 [some (.ref 189)] [] h =
  cK (E d 37 [.ref 189] h) (Q d 35 13 [some (.ref 189)]) [] := by
  rw [← hs.1]
  exact (blkM (fun p => Nat.beq p 13) 3 9 _ _ _).trans rfl

set_option maxRecDepth 16384 in
theorem t_35_13 {d : Nat} {h : AH} (hs : Sh h)  :
    Q d 35 13 [some (.ref 189)] [] h =
  (gd ((nI 1) - (gI h 3597 189)) 2 <|
  gd ((nI 1) - (gI h 3597 189)) 2 <|
  gd ((nI 1) - (gI h 3597 189)) 2 <|
  gd ((nI 1) - (gI h 3597 189)) 2 <|
  gd ((nI 1) - (gI h 3597 189)) 2 <|
  Q d 35 73 [some (.ref 189)] [] (sA (sA (sA (sA (sA (sI h 3598 189 ((nI 1) - (gI h 3597 189))) 197 (ix ((nI 1) - (gI h 3597 189))) (nI 0)) 202 (ix ((nI 1) - (gI h 3597 189))) (nI 0)) 205 (ix ((nI 1) - (gI h 3597 189))) (nI 0)) 216 (ix ((nI 1) - (gI h 3597 189))) (nI 0)) 225 (ix ((nI 1) - (gI h 3597 189))) (nI 0))) := by
  rw [← hs.1]
  exact (blkM (fun p => Nat.beq p 73) 38 13 _ _ _).trans rfl

set_option maxRecDepth 16384 in
theorem t_35_73 {d : Nat} {h : AH} (hs : Sh h)  :
    Q d 35 73 [some (.ref 189)] [] h =
  if gI h 3596 189 = nI 0 then
   gd (gI h 3595 189) 4002 <|
   if gA h 194 (ix (gI h 3595 189)) = nI 0 then
    if (nI 0) < gI h 3596 189 then
     some (some (.int (gI h 3596 189)), h)
    else
     cK (E d 31 [.ref 189] (sI h 3597 189 (gI h 3598 189))) (Q d 35 123 [some (.ref 189)]) []
   else
    cK (E d 44 [.ref 189] h) (Q d 35 96 [some (.ref 189)]) []
  else
   if (nI 0) < gI h 3596 189 then
    some (some (.int (gI h 3596 189)), h)
   else
    cK (E d 31 [.ref 189] (sI h 3597 189 (gI h 3598 189))) (Q d 35 123 [some (.ref 189)]) [] := by
  rw [← hs.1]
  exact (blkM (fun p => Nat.beq p 96 || Nat.beq p 123) 19 73 _ _ _).trans rfl

set_option maxRecDepth 16384 in
theorem t_35_96 {d : Nat} {h : AH} (hs : Sh h)  :
    Q d 35 96 [some (.ref 189)] [] h =
  Q d 35 73 [some (.ref 189)] [] h := by
  rw [← hs.1]
  exact (blkM (fun p => Nat.beq p 73) 3 96 _ _ _).trans rfl

set_option maxRecDepth 16384 in
theorem t_35_123 {d : Nat} {h : AH} (hs : Sh h) (u0 : Option Value) :
    Q d 35 123 [u0] [] h =
  some (some (.int (nI 0)), h) := by
  rw [← hs.1]
  exact (blkM (fun p => false) 3 123 _ _ _).trans rfl

/-! 36 PostRoomModel.takeTape()V -/
set_option maxRecDepth 16384 in
theorem t_36 {d : Nat} {h : AH} (hs : Sh h)  :
    E (d + 1) 36 [.ref 189] h =
  some (none, sI (sI h 3591 189 (gI h 3590 189)) 3590 189 (nI 0)) := by
  rw [← hs.1]
  exact entL (l := [some (.ref 189)]) rfl rfl ((blkM (fun p => false) 9 0 _ _ _).trans rfl)

/-! 37 PostRoomModel.cutAll()V -/
set_option maxRecDepth 16384 in
theorem t_37 {d : Nat} {h : AH} (hs : Sh h)  :
    E (d + 1) 37 [.ref 189] h =
  Q d 37 4 [some (.ref 189), some (.int (nI 0)), some (.int (nI 0)), none] [] h := by
  rw [← hs.1]
  exact entL (l := [some (.ref 189), none, none, none]) rfl rfl ((blkM (fun p => Nat.beq p 4) 6 0 _ _ _).trans rfl)

set_option maxRecDepth 16384 in
theorem t_37_4 {d : Nat} {h : AH} (hs : Sh h) (x1 : Int32) (x2 : Int32) :
    Q d 37 4 [some (.ref 189), some (.int x1), some (.int x2), none] [] h =
  if x2 < gI h 3591 189 then
   gd x2 4000 <|
   if gA h 193 (ix x2) = nI 10 then
    Q d 37 4 [some (.ref 189), some (.int x1), some (.int (x2 + nI 1)), none] [] h
   else
    if gA h 193 (ix x2) = nI 32 then
     Q d 37 4 [some (.ref 189), some (.int x1), some (.int (x2 + nI 1)), none] [] h
    else
     gd x1 4002 <|
     cK (E d 38 [.int (gA h 193 (ix x2))] (sA h 195 (ix x1) x2)) (Q d 37 48 [some (.ref 189), some (.int x1), some (.int x2), some (.int (gA h 193 (ix x2)))]) []
  else
   gd x1 4002 <|
   gd x1 4002 <|
   some (none, sI (sI (sA (sA h 194 (ix x1) (nI 0)) 195 (ix x1) (gI h 3591 189)) 3595 189 (nI 0)) 3596 189 (nI 0)) := by
  rw [← hs.1]
  exact (blkM (fun p => Nat.beq p 4 || Nat.beq p 48) 23 4 _ _ _).trans rfl

set_option maxRecDepth 16384 in
theorem t_37_48 {d : Nat} {h : AH} (hs : Sh h) (x1 : Int32) (x2 : Int32) (x3 : Int32) (s0 : Int32) :
    Q d 37 48 [some (.ref 189), some (.int x1), some (.int x2), some (.int x3)] [.int s0] h =
  if s0 = nI 0 then
   cK (E d 40 [.int x3] h) (Q d 37 64 [some (.ref 189), some (.int x1), some (.int x2), some (.int x3)]) []
  else
   cK (E d 39 [.ref 189, .int x2, .int x1] h) (Q d 37 57 [some (.ref 189), some (.int x1), some (.int x2), some (.int x3)]) [] := by
  rw [← hs.1]
  exact (blkM (fun p => Nat.beq p 57 || Nat.beq p 64) 6 48 _ _ _).trans rfl

set_option maxRecDepth 16384 in
theorem t_37_57 {d : Nat} {h : AH} (hs : Sh h) (x1 : Int32) (u2 : Option Value) (u3 : Option Value) (s0 : Int32) :
    Q d 37 57 [some (.ref 189), some (.int x1), u2, u3] [.int s0] h =
  Q d 37 82 [some (.ref 189), some (.int x1), none, none] [.int s0] h := by
  rw [← hs.1]
  exact (blkM (fun p => Nat.beq p 82) 3 57 _ _ _).trans rfl

set_option maxRecDepth 16384 in
theorem t_37_64 {d : Nat} {h : AH} (hs : Sh h) (x1 : Int32) (x2 : Int32) (u3 : Option Value) (s0 : Int32) :
    Q d 37 64 [some (.ref 189), some (.int x1), some (.int x2), u3] [.int s0] h =
  if s0 = nI 0 then
   cK (E d 42 [.ref 189, .int x2, .int x1] h) (Q d 37 82 [some (.ref 189), some (.int x1), none, none]) []
  else
   cK (E d 41 [.ref 189, .int x2, .int x1] h) (Q d 37 73 [some (.ref 189), some (.int x1), some (.int x2), u3]) [] := by
  rw [← hs.1]
  exact (blkM (fun p => Nat.beq p 73 || Nat.beq p 82) 6 64 _ _ _).trans rfl

set_option maxRecDepth 16384 in
theorem t_37_82 {d : Nat} {h : AH} (hs : Sh h) (x1 : Int32) (s0 : Int32) :
    Q d 37 82 [some (.ref 189), some (.int x1), none, none] [.int s0] h =
  Q d 37 4 [some (.ref 189), some (.int (x1 + nI 1)), some (.int s0), none] [] h := by
  rw [← hs.1]
  exact (blkM (fun p => Nat.beq p 4) 5 82 _ _ _).trans rfl

set_option maxRecDepth 16384 in
theorem t_37_73 {d : Nat} {h : AH} (hs : Sh h) (x1 : Int32) (u2 : Option Value) (u3 : Option Value) (s0 : Int32) :
    Q d 37 73 [some (.ref 189), some (.int x1), u2, u3] [.int s0] h =
  Q d 37 82 [some (.ref 189), some (.int x1), none, none] [.int s0] h := by
  rw [← hs.1]
  exact (blkM (fun p => Nat.beq p 82) 3 73 _ _ _).trans rfl

/-! 38 PostRoomModel.isLetter(I)Z -/
set_option maxRecDepth 16384 in
theorem t_38 {d : Nat} {h : AH} (hs : Sh h) (x0 : Int32) :
    E (d + 1) 38 [.int x0] h =
  if x0 < nI 97 then
   some (some (.int (nI 0)), h)
  else
   if (nI 122) < x0 then
    some (some (.int (nI 0)), h)
   else
    some (some (.int (nI 1)), h) := by
  rw [← hs.1]
  exact entL (l := [some (.int x0)]) rfl rfl ((blkM (fun p => false) 10 0 _ _ _).trans rfl)

/-! 39 PostRoomModel.cutName(II)I -/
set_option maxRecDepth 16384 in
theorem t_39 {d : Nat} {h : AH} (hs : Sh h) (x1 : Int32) (x2 : Int32) :
    E (d + 1) 39 [.ref 189, .int x1, .int x2] h =
  Q d 39 5 [some (.ref 189), some (.int x1), some (.int x2), some (.int x1), some (.long 0), none] [] h := by
  rw [← hs.1]
  exact entL (l := [some (.ref 189), some (.int x1), some (.int x2), none, none, none]) rfl rfl ((blkM (fun p => Nat.beq p 5) 6 0 _ _ _).trans rfl)

set_option maxRecDepth 16384 in
theorem t_39_5 {d : Nat} {h : AH} (hs : Sh h) (x1 : Int32) (x2 : Int32) (x3 : Int32) (x4 : Int64) :
    Q d 39 5 [some (.ref 189), some (.int x1), some (.int x2), some (.int x3), some (.long x4), none] [] h =
  if x3 < gI h 3591 189 then
   gd x3 4000 <|
   cK (E d 38 [.int (gA h 193 (ix x3))] h) (Q d 39 22 [some (.ref 189), some (.int x1), some (.int x2), some (.int x3), some (.long x4), none]) []
  else
   if (nI 12) < x3 - x1 then
    gd x2 4002 <|
    gd x2 4002 <|
    some (some (.int x3), sB (sA h 194 (ix x2) (nI 4)) 196 (ix x2) x4)
   else
    gd x2 4002 <|
    gd x2 4002 <|
    some (some (.int x3), sB (sA h 194 (ix x2) (nI 1)) 196 (ix x2) x4) := by
  rw [← hs.1]
  exact (blkM (fun p => Nat.beq p 22) 23 5 _ _ _).trans rfl

set_option maxRecDepth 16384 in
theorem t_39_22 {d : Nat} {h : AH} (hs : Sh h) (x1 : Int32) (x2 : Int32) (x3 : Int32) (x4 : Int64) (s0 : Int32) :
    Q d 39 22 [some (.ref 189), some (.int x1), some (.int x2), some (.int x3), some (.long x4), none] [.int s0] h =
  if s0 = nI 0 then
   gd x3 4000 <|
   cK (E d 40 [.int (gA h 193 (ix x3))] h) (Q d 39 34 [some (.ref 189), some (.int x1), some (.int x2), some (.int x3), some (.long x4), none]) []
  else
   if x3 - x1 < nI 12 then
    gd x3 4000 <|
    cK (E d 30 [.int (gA h 193 (ix x3))] h) (Q d 39 60 [some (.ref 189), some (.int x1), some (.int x2), some (.int x3), some (.long x4), none]) [.long (37 * x4)]
   else
    Q d 39 5 [some (.ref 189), some (.int x1), some (.int x2), some (.int (x3 + nI 1)), some (.long x4), none] [] h := by
  rw [← hs.1]
  exact (blkM (fun p => Nat.beq p 5 || Nat.beq p 34 || Nat.beq p 60) 15 22 _ _ _).trans rfl

set_option maxRecDepth 16384 in
theorem t_39_34 {d : Nat} {h : AH} (hs : Sh h) (x1 : Int32) (x2 : Int32) (x3 : Int32) (x4 : Int64) (s0 : Int32) :
    Q d 39 34 [some (.ref 189), some (.int x1), some (.int x2), some (.int x3), some (.long x4), none] [.int s0] h =
  if s0 = nI 0 then
   if (nI 12) < x3 - x1 then
    gd x2 4002 <|
    gd x2 4002 <|
    some (some (.int x3), sB (sA h 194 (ix x2) (nI 4)) 196 (ix x2) x4)
   else
    gd x2 4002 <|
    gd x2 4002 <|
    some (some (.int x3), sB (sA h 194 (ix x2) (nI 1)) 196 (ix x2) x4)
  else
   if x3 - x1 < nI 12 then
    gd x3 4000 <|
    cK (E d 30 [.int (gA h 193 (ix x3))] h) (Q d 39 60 [some (.ref 189), some (.int x1), some (.int x2), some (.int x3), some (.long x4), none]) [.long (37 * x4)]
   else
    Q d 39 5 [some (.ref 189), some (.int x1), some (.int x2), some (.int (x3 + nI 1)), some (.long x4), none] [] h := by
  rw [← hs.1]
  exact (blkM (fun p => Nat.beq p 5 || Nat.beq p 60) 20 34 _ _ _).trans rfl

set_option maxRecDepth 16384 in
theorem t_39_60 {d : Nat} {h : AH} (hs : Sh h) (x1 : Int32) (x2 : Int32) (x3 : Int32) (u4 : Option Value) (u5 : Option Value) (s0 : Int64) (s1 : Int32) :
    Q d 39 60 [some (.ref 189), some (.int x1), some (.int x2), some (.int x3), u4, u5] [.int s1, .long s0] h =
  Q d 39 5 [some (.ref 189), some (.int x1), some (.int x2), some (.int (x3 + nI 1)), some (.long (s0 + s1.toInt64)), none] [] h := by
  rw [← hs.1]
  exact (blkM (fun p => Nat.beq p 5) 8 60 _ _ _).trans rfl

/-! 40 PostRoomModel.isDigit(I)Z -/
set_option maxRecDepth 16384 in
theorem t_40 {d : Nat} {h : AH} (hs : Sh h) (x0 : Int32) :
    E (d + 1) 40 [.int x0] h =
  if x0 < nI 48 then
   some (some (.int (nI 0)), h)
  else
   if (nI 57) < x0 then
    some (some (.int (nI 0)), h)
   else
    some (some (.int (nI 1)), h) := by
  rw [← hs.1]
  exact entL (l := [some (.int x0)]) rfl rfl ((blkM (fun p => false) 10 0 _ _ _).trans rfl)

/-! 41 PostRoomModel.cutNumber(II)I -/
set_option maxRecDepth 16384 in
theorem t_41 {d : Nat} {h : AH} (hs : Sh h) (x1 : Int32) (x2 : Int32) :
    E (d + 1) 41 [.ref 189, .int x1, .int x2] h =
  Q d 41 5 [some (.ref 189), some (.int x1), some (.int x2), some (.int x1), some (.long 0), none] [] h := by
  rw [← hs.1]
  exact entL (l := [some (.ref 189), some (.int x1), some (.int x2), none, none, none]) rfl rfl ((blkM (fun p => Nat.beq p 5) 6 0 _ _ _).trans rfl)

set_option maxRecDepth 16384 in
theorem t_41_5 {d : Nat} {h : AH} (hs : Sh h) (x1 : Int32) (x2 : Int32) (x3 : Int32) (x4 : Int64) :
    Q d 41 5 [some (.ref 189), some (.int x1), some (.int x2), some (.int x3), some (.long x4), none] [] h =
  if x3 < gI h 3591 189 then
   gd x3 4000 <|
   cK (E d 40 [.int (gA h 193 (ix x3))] h) (Q d 41 22 [some (.ref 189), some (.int x1), some (.int x2), some (.int x3), some (.long x4), none]) []
  else
   if (nI 9) < x3 - x1 then
    gd x2 4002 <|
    gd x2 4002 <|
    some (some (.int x3), sB (sA h 194 (ix x2) (nI 4)) 196 (ix x2) x4)
   else
    gd x2 4002 <|
    gd x2 4002 <|
    some (some (.int x3), sB (sA h 194 (ix x2) (nI 2)) 196 (ix x2) x4) := by
  rw [← hs.1]
  exact (blkM (fun p => Nat.beq p 22) 23 5 _ _ _).trans rfl

set_option maxRecDepth 16384 in
theorem t_41_22 {d : Nat} {h : AH} (hs : Sh h) (x1 : Int32) (x2 : Int32) (x3 : Int32) (x4 : Int64) (s0 : Int32) :
    Q d 41 22 [some (.ref 189), some (.int x1), some (.int x2), some (.int x3), some (.long x4), none] [.int s0] h =
  if s0 = nI 0 then
   if (nI 9) < x3 - x1 then
    gd x2 4002 <|
    gd x2 4002 <|
    some (some (.int x3), sB (sA h 194 (ix x2) (nI 4)) 196 (ix x2) x4)
   else
    gd x2 4002 <|
    gd x2 4002 <|
    some (some (.int x3), sB (sA h 194 (ix x2) (nI 2)) 196 (ix x2) x4)
  else
   if x3 - x1 < nI 9 then
    gd x3 4000 <|
    Q d 41 5 [some (.ref 189), some (.int x1), some (.int x2), some (.int (x3 + nI 1)), some (.long (((10 * x4) + ((gA h 193 (ix x3)).toInt64)) - 48)), none] [] h
   else
    Q d 41 5 [some (.ref 189), some (.int x1), some (.int x2), some (.int (x3 + nI 1)), some (.long x4), none] [] h := by
  rw [← hs.1]
  exact (blkM (fun p => Nat.beq p 5) 23 22 _ _ _).trans rfl

/-! 42 PostRoomModel.cutSign(II)I -/
set_option maxRecDepth 16384 in
theorem t_42 {d : Nat} {h : AH} (hs : Sh h) (x1 : Int32) (x2 : Int32) :
    E (d + 1) 42 [.ref 189, .int x1, .int x2] h =
  (gd x1 4000 <|
  cK (E d 43 [.ref 189, .int (gA h 193 (ix x1))] h) (Q d 42 15 [some (.ref 189), some (.int x1), some (.int x2)]) [.int x2, .ref 194]) := by
  rw [← hs.1]
  exact entL (l := [some (.ref 189), some (.int x1), some (.int x2)]) rfl rfl ((blkM (fun p => Nat.beq p 15) 10 0 _ _ _).trans rfl)

set_option maxRecDepth 16384 in
theorem t_42_15 {d : Nat} {h : AH} (hs : Sh h) (x1 : Int32) (x2 : Int32) (s0 : Nat) (s1 : Int32) (s2 : Int32) :
    Q d 42 15 [some (.ref 189), some (.int x1), some (.int x2)] [.int s2, .int s1, .ref s0] h =
  if s2 = nI 0 then
   cw (gC h s0) 60 s0 <|
   gd s1 (gK h s0) <|
   gd x1 4000 <|
   gd x2 4002 <|
   some (some (.int (x1 + (nI 1))), sB (sA h s0 (ix s1) (nI 4)) 196 (ix x2) ((gA (sA h s0 (ix s1) (nI 4)) 193 (ix x1)).toInt64))
  else
   cw (gC h s0) 60 s0 <|
   gd s1 (gK h s0) <|
   gd x1 4000 <|
   gd x2 4002 <|
   some (some (.int (x1 + (nI 1))), sB (sA h s0 (ix s1) (nI 3)) 196 (ix x2) ((gA (sA h s0 (ix s1) (nI 3)) 193 (ix x1)).toInt64)) := by
  rw [← hs.1]
  exact (blkM (fun p => false) 18 15 _ _ _).trans rfl

/-! 43 PostRoomModel.isSign(I)Z -/
set_option maxRecDepth 16384 in
theorem t_43 {d : Nat} {h : AH} (hs : Sh h) (x1 : Int32) :
    E (d + 1) 43 [.ref 189, .int x1] h =
  if x1 = nI 59 then
   some (some (.int (nI 1)), h)
  else
   if x1 = nI 44 then
    some (some (.int (nI 1)), h)
   else
    if x1 = nI 61 then
     some (some (.int (nI 1)), h)
    else
     if x1 = nI 60 then
      some (some (.int (nI 1)), h)
     else
      if x1 = nI 43 then
       some (some (.int (nI 1)), h)
      else
       if x1 = nI 45 then
        some (some (.int (nI 1)), h)
       else
        if x1 = nI 42 then
         some (some (.int (nI 1)), h)
        else
         if x1 = nI 47 then
          some (some (.int (nI 1)), h)
         else
          if x1 = nI 37 then
           some (some (.int (nI 1)), h)
          else
           if x1 = nI 40 then
            some (some (.int (nI 1)), h)
           else
            if x1 = nI 41 then
             some (some (.int (nI 1)), h)
            else
             if x1 = nI 123 then
              some (some (.int (nI 1)), h)
             else
              if x1 = nI 125 then
               some (some (.int (nI 1)), h)
              else
               if x1 = nI 91 then
                some (some (.int (nI 1)), h)
               else
                if x1 = nI 93 then
                 some (some (.int (nI 1)), h)
                else
                 if x1 = nI 64 then
                  some (some (.int (nI 1)), h)
                 else
                  some (some (.int (nI 0)), h) := by
  rw [← hs.1]
  exact entL (l := [some (.ref 189), some (.int x1)]) rfl rfl ((blkM (fun p => false) 52 0 _ _ _).trans rfl)

/-! 44 PostRoomModel.told()V -/
set_option maxRecDepth 16384 in
theorem t_44 {d : Nat} {h : AH} (hs : Sh h)  :
    E (d + 1) 44 [.ref 189] h =
  cK (E d 45 [.ref 189, .int (nI 1)] h) (Q d 44 5 [some (.ref 189)]) [] := by
  rw [← hs.1]
  exact entL (l := [some (.ref 189)]) rfl rfl ((blkM (fun p => Nat.beq p 5) 4 0 _ _ _).trans rfl)

set_option maxRecDepth 16384 in
theorem t_44_5 {d : Nat} {h : AH} (hs : Sh h) (s0 : Int32) :
    Q d 44 5 [some (.ref 189)] [.int s0] h =
  if s0 = nI 0 then
   cK (E d 45 [.ref 189, .int (nI 2)] h) (Q d 44 20 [some (.ref 189)]) []
  else
   cK (E d 46 [.ref 189] h) (Q d 44 12 [some (.ref 189)]) [] := by
  rw [← hs.1]
  exact (blkM (fun p => Nat.beq p 12 || Nat.beq p 20) 5 5 _ _ _).trans rfl

set_option maxRecDepth 16384 in
theorem t_44_12 {d : Nat} {h : AH} (hs : Sh h)  :
    Q d 44 12 [some (.ref 189)] [] h =
  Q d 44 82 [some (.ref 189)] [] h := by
  rw [← hs.1]
  exact (blkM (fun p => Nat.beq p 82) 3 12 _ _ _).trans rfl

set_option maxRecDepth 16384 in
theorem t_44_20 {d : Nat} {h : AH} (hs : Sh h) (s0 : Int32) :
    Q d 44 20 [some (.ref 189)] [.int s0] h =
  if s0 = nI 0 then
   cK (E d 45 [.ref 189, .int (nI 3)] h) (Q d 44 35 [some (.ref 189)]) []
  else
   cK (E d 51 [.ref 189] h) (Q d 44 27 [some (.ref 189)]) [] := by
  rw [← hs.1]
  exact (blkM (fun p => Nat.beq p 27 || Nat.beq p 35) 5 20 _ _ _).trans rfl

set_option maxRecDepth 16384 in
theorem t_44_82 {d : Nat} {h : AH} (hs : Sh h)  :
    Q d 44 82 [some (.ref 189)] [] h =
  cK (E d 61 [.ref 189, .int (nI 59)] h) (Q d 44 88 [some (.ref 189)]) [] := by
  rw [← hs.1]
  exact (blkM (fun p => Nat.beq p 88) 4 82 _ _ _).trans rfl

set_option maxRecDepth 16384 in
theorem t_44_27 {d : Nat} {h : AH} (hs : Sh h)  :
    Q d 44 27 [some (.ref 189)] [] h =
  Q d 44 82 [some (.ref 189)] [] h := by
  rw [← hs.1]
  exact (blkM (fun p => Nat.beq p 82) 3 27 _ _ _).trans rfl

set_option maxRecDepth 16384 in
theorem t_44_35 {d : Nat} {h : AH} (hs : Sh h) (s0 : Int32) :
    Q d 44 35 [some (.ref 189)] [.int s0] h =
  if s0 = nI 0 then
   cK (E d 45 [.ref 189, .int (nI 15)] h) (Q d 44 51 [some (.ref 189)]) []
  else
   cK (E d 52 [.ref 189] h) (Q d 44 42 [some (.ref 189)]) [] := by
  rw [← hs.1]
  exact (blkM (fun p => Nat.beq p 42 || Nat.beq p 51) 5 35 _ _ _).trans rfl

set_option maxRecDepth 16384 in
theorem t_44_88 {d : Nat} {h : AH} (hs : Sh h) (u0 : Option Value) :
    Q d 44 88 [u0] [] h =
  some (none, h) := by
  rw [← hs.1]
  exact (blkM (fun p => false) 2 88 _ _ _).trans rfl

set_option maxRecDepth 16384 in
theorem t_44_42 {d : Nat} {h : AH} (hs : Sh h)  :
    Q d 44 42 [some (.ref 189)] [] h =
  Q d 44 82 [some (.ref 189)] [] h := by
  rw [← hs.1]
  exact (blkM (fun p => Nat.beq p 82) 3 42 _ _ _).trans rfl

set_option maxRecDepth 16384 in
theorem t_44_51 {d : Nat} {h : AH} (hs : Sh h) (s0 : Int32) :
    Q d 44 51 [some (.ref 189)] [.int s0] h =
  if s0 = nI 0 then
   cK (E d 45 [.ref 189, .int (nI 28)] h) (Q d 44 67 [some (.ref 189)]) []
  else
   cK (E d 57 [.ref 189] h) (Q d 44 58 [some (.ref 189)]) [] := by
  rw [← hs.1]
  exact (blkM (fun p => Nat.beq p 58 || Nat.beq p 67) 5 51 _ _ _).trans rfl

set_option maxRecDepth 16384 in
theorem t_44_58 {d : Nat} {h : AH} (hs : Sh h)  :
    Q d 44 58 [some (.ref 189)] [] h =
  Q d 44 82 [some (.ref 189)] [] h := by
  rw [← hs.1]
  exact (blkM (fun p => Nat.beq p 82) 3 58 _ _ _).trans rfl

set_option maxRecDepth 16384 in
theorem t_44_67 {d : Nat} {h : AH} (hs : Sh h) (s0 : Int32) :
    Q d 44 67 [some (.ref 189)] [.int s0] h =
  if s0 = nI 0 then
   cK (E d 48 [.ref 189, .int (nI 1)] h) (Q d 44 82 [some (.ref 189)]) []
  else
   cK (E d 60 [.ref 189] h) (Q d 44 74 [some (.ref 189)]) [] := by
  rw [← hs.1]
  exact (blkM (fun p => Nat.beq p 74 || Nat.beq p 82) 5 67 _ _ _).trans rfl

set_option maxRecDepth 16384 in
theorem t_44_74 {d : Nat} {h : AH} (hs : Sh h)  :
    Q d 44 74 [some (.ref 189)] [] h =
  Q d 44 82 [some (.ref 189)] [] h := by
  rw [← hs.1]
  exact (blkM (fun p => Nat.beq p 82) 3 74 _ _ _).trans rfl

/-! 45 PostRoomModel.isWord(I)Z -/
set_option maxRecDepth 16384 in
theorem t_45 {d : Nat} {h : AH} (hs : Sh h) (x1 : Int32) :
    E (d + 1) 45 [.ref 189, .int x1] h =
  if gI h 3596 189 = nI 0 then
   gd (gI h 3595 189) 4002 <|
   if gA h 194 (ix (gI h 3595 189)) = nI 1 then
    gd (gI h 3595 189) 4002 <|
    gd x1 80 <|
    if lg_cmp (gB h 196 (ix (gI h 3595 189))) (gB h 190 (ix x1)) = nI 0 then
     some (some (.int (nI 1)), h)
    else
     some (some (.int (nI 0)), h)
   else
    some (some (.int (nI 0)), h)
  else
   some (some (.int (nI 0)), h) := by
  rw [← hs.1]
  exact entL (l := [some (.ref 189), some (.int x1)]) rfl rfl ((blkM (fun p => false) 25 0 _ _ _).trans rfl)

/-! 46 PostRoomModel.toldOffice()V -/
set_option maxRecDepth 16384 in
theorem t_46 {d : Nat} {h : AH} (hs : Sh h)  :
    E (d + 1) 46 [.ref 189] h =
  (gd (gI h 3598 189) 2 <|
  if gA h 197 (ix (gI h 3598 189)) = nI 16 then
   cK (E d 47 [.ref 189, .int (nI 1)] h) (Q d 46 25 [some (.ref 189), some (.int (gA h 197 (ix (gI h 3598 189)))), none, none]) []
  else
   cK (E d 47 [.ref 189, .int (nI 0)] h) (Q d 46 25 [some (.ref 189), some (.int (gA h 197 (ix (gI h 3598 189)))), none, none]) []) := by
  rw [← hs.1]
  exact entL (l := [some (.ref 189), none, none, none]) rfl rfl ((blkM (fun p => Nat.beq p 25) 14 0 _ _ _).trans rfl)

set_option maxRecDepth 16384 in
theorem t_46_25 {d : Nat} {h : AH} (hs : Sh h) (x1 : Int32) (u2 : Option Value) (u3 : Option Value) :
    Q d 46 25 [some (.ref 189), some (.int x1), u2, u3] [] h =
  if (nI 0) < gI h 3596 189 then
   some (none, h)
  else
   cK (E d 49 [.ref 189, .ref 198, .int ((nI 16) * (gI h 3598 189)), .int x1] h) (Q d 46 62 [some (.ref 189), some (.int x1), u2, u3]) [.int (((nI 16) * (gI h 3598 189)) + x1), .ref 198] := by
  rw [← hs.1]
  exact (blkM (fun p => Nat.beq p 62) 21 25 _ _ _).trans rfl

set_option maxRecDepth 16384 in
theorem t_46_62 {d : Nat} {h : AH} (hs : Sh h) (x1 : Int32) (u2 : Option Value) (u3 : Option Value) (s0 : Nat) (s1 : Int32) (s2 : Int64) :
    Q d 46 62 [some (.ref 189), some (.int x1), u2, u3] [.long s2, .int s1, .ref s0] h =
  (cw (gC h s0) 61 s0 <|
  gd s1 (gK h s0) <|
  cK (E d 50 [.ref 189, .int (nI 1), .int (nI 999)] (sB h s0 (ix s1) s2)) (Q d 46 71 [some (.ref 189), some (.int x1), u2, u3]) []) := by
  rw [← hs.1]
  exact (blkM (fun p => Nat.beq p 71) 6 62 _ _ _).trans rfl

set_option maxRecDepth 16384 in
theorem t_46_71 {d : Nat} {h : AH} (hs : Sh h) (x1 : Int32) (u2 : Option Value) (u3 : Option Value) (s0 : Int32) :
    Q d 46 71 [some (.ref 189), some (.int x1), u2, u3] [.int s0] h =
  Q d 46 74 [some (.ref 189), some (.int x1), some (.int s0), some (.int (nI 0))] [] h := by
  rw [← hs.1]
  exact (blkM (fun p => Nat.beq p 74) 5 71 _ _ _).trans rfl

set_option maxRecDepth 16384 in
theorem t_46_74 {d : Nat} {h : AH} (hs : Sh h) (x1 : Int32) (x2 : Int32) (x3 : Int32) :
    Q d 46 74 [some (.ref 189), some (.int x1), some (.int x2), some (.int x3)] [] h =
  if x3 < x1 then
   if gI h 3596 189 = nI 0 then
    gd (((nI 16) * (gI h 3598 189)) + x3) 32 <|
    if gA h 199 (ix (((nI 16) * (gI h 3598 189)) + x3)) = x2 then
     cK (E d 48 [.ref 189, .int (nI 3)] (sI h 3595 189 ((gI h 3595 189) - (nI 1)))) (Q d 46 119 [some (.ref 189), some (.int x1), some (.int x2), some (.int x3)]) []
    else
     Q d 46 119 [some (.ref 189), some (.int x1), some (.int x2), some (.int x3)] [] h
   else
    Q d 46 119 [some (.ref 189), some (.int x1), some (.int x2), some (.int x3)] [] h
  else
   gd (((nI 16) * (gI h 3598 189)) + x1) 32 <|
   cK (E d 50 [.ref 189, .int (nI 0), .int (nI 999)] (sA h 199 (ix (((nI 16) * (gI h 3598 189)) + x1)) x2)) (Q d 46 161 [some (.ref 189), some (.int x1), some (.int x2), some (.int x3)]) [.int (((nI 16) * (gI h 3598 189)) + x1), .ref 200] := by
  rw [← hs.1]
  exact (blkM (fun p => Nat.beq p 119 || Nat.beq p 161) 27 74 _ _ _).trans rfl

set_option maxRecDepth 16384 in
theorem t_46_119 {d : Nat} {h : AH} (hs : Sh h) (x1 : Int32) (x2 : Int32) (x3 : Int32) :
    Q d 46 119 [some (.ref 189), some (.int x1), some (.int x2), some (.int x3)] [] h =
  Q d 46 74 [some (.ref 189), some (.int x1), some (.int x2), some (.int (x3 + nI 1))] [] h := by
  rw [← hs.1]
  exact (blkM (fun p => Nat.beq p 74) 4 119 _ _ _).trans rfl

set_option maxRecDepth 16384 in
theorem t_46_161 {d : Nat} {h : AH} (hs : Sh h) (x1 : Int32) (u2 : Option Value) (u3 : Option Value) (s0 : Nat) (s1 : Int32) (s2 : Int32) :
    Q d 46 161 [some (.ref 189), some (.int x1), u2, u3] [.int s2, .int s1, .ref s0] h =
  (cw (gC h s0) 60 s0 <|
  gd s1 (gK h s0) <|
  cK (E d 50 [.ref 189, .int (nI 0), .int (nI 999)] (sA h s0 (ix s1) s2)) (Q d 46 183 [some (.ref 189), some (.int x1), u2, u3]) [.int (((nI 16) * (gI h 3598 189)) + x1), .ref 201]) := by
  rw [← hs.1]
  exact (blkM (fun p => Nat.beq p 183) 14 161 _ _ _).trans rfl

set_option maxRecDepth 16384 in
theorem t_46_183 {d : Nat} {h : AH} (hs : Sh h) (u1 : Option Value) (u2 : Option Value) (u3 : Option Value) (s0 : Nat) (s1 : Int32) (s2 : Int32) :
    Q d 46 183 [some (.ref 189), u1, u2, u3] [.int s2, .int s1, .ref s0] h =
  (cw (gC h s0) 60 s0 <|
  gd s1 (gK h s0) <|
  gd (gI h 3598 189) 2 <|
  gd (gI h 3598 189) 2 <|
  some (none, sA (sA h s0 (ix s1) s2) 197 (ix (gI h 3598 189)) ((gA (sA h s0 (ix s1) s2) 197 (ix (gI h 3598 189))) + (nI 1)))) := by
  rw [← hs.1]
  exact (blkM (fun p => false) 12 183 _ _ _).trans rfl

/-! 47 PostRoomModel.begins(Z)V -/
set_option maxRecDepth 16384 in
theorem t_47 {d : Nat} {h : AH} (hs : Sh h) (x1 : Int32) :
    E (d + 1) 47 [.ref 189, .int x1] h =
  if x1 = nI 0 then
   Q d 47 9 [some (.ref 189), none] [] h
  else
   cK (E d 48 [.ref 189, .int (nI 5)] h) (Q d 47 9 [some (.ref 189), none]) [] := by
  rw [← hs.1]
  exact entL (l := [some (.ref 189), some (.int x1)]) rfl rfl ((blkM (fun p => Nat.beq p 9) 6 0 _ _ _).trans rfl)

set_option maxRecDepth 16384 in
theorem t_47_9 {d : Nat} {h : AH} (hs : Sh h)  :
    Q d 47 9 [some (.ref 189), none] [] h =
  some (none, sI h 3595 189 ((gI h 3595 189) + (nI 1))) := by
  rw [← hs.1]
  exact (blkM (fun p => false) 8 9 _ _ _).trans rfl

/-! 48 PostRoomModel.wrong(I)V -/
set_option maxRecDepth 16384 in
theorem t_48 {d : Nat} {h : AH} (hs : Sh h) (x1 : Int32) :
    E (d + 1) 48 [.ref 189, .int x1] h =
  if gI h 3596 189 = nI 0 then
   gd (gI h 3595 189) 4002 <|
   some (none, sI h 3596 189 (x1 + ((nI 16) * (gA h 195 (ix (gI h 3595 189))))))
  else
   some (none, h) := by
  rw [← hs.1]
  exact entL (l := [some (.ref 189), some (.int x1)]) rfl rfl ((blkM (fun p => false) 16 0 _ _ _).trans rfl)

/-! 49 PostRoomModel.takeName([JII)J -/
set_option maxRecDepth 16384 in
theorem t_49 {d : Nat} {h : AH} (hs : Sh h) (x1 : Nat) (x2 : Int32) (x3 : Int32) :
    E (d + 1) 49 [.ref 189, .ref x1, .int x2, .int x3] h =
  if (nI 0) < gI h 3596 189 then
   some (some (.long 0), h)
  else
   gd (gI h 3595 189) 4002 <|
   if gA h 194 (ix (gI h 3595 189)) = nI 1 then
    Q d 49 32 [some (.ref 189), some (.ref x1), some (.int x2), some (.int x3), some (.int (nI 0))] [] h
   else
    cK (E d 48 [.ref 189, .int (nI 1)] h) (Q d 49 27 [some (.ref 189), some (.ref x1), some (.int x2), some (.int x3), none]) [] := by
  rw [← hs.1]
  exact entL (l := [some (.ref 189), some (.ref x1), some (.int x2), some (.int x3), none]) rfl rfl ((blkM (fun p => Nat.beq p 27 || Nat.beq p 32) 14 0 _ _ _).trans rfl)

set_option maxRecDepth 16384 in
theorem t_49_27 {d : Nat} {h : AH} (hs : Sh h) (u0 : Option Value) (u1 : Option Value) (u2 : Option Value) (u3 : Option Value) (u4 : Option Value) :
    Q d 49 27 [u0, u1, u2, u3, u4] [] h =
  some (some (.long 0), h) := by
  rw [← hs.1]
  exact (blkM (fun p => false) 3 27 _ _ _).trans rfl

set_option maxRecDepth 16384 in
theorem t_49_32 {d : Nat} {h : AH} (hs : Sh h) (x1 : Nat) (x2 : Int32) (x3 : Int32) (x4 : Int32) :
    Q d 49 32 [some (.ref 189), some (.ref x1), some (.int x2), some (.int x3), some (.int x4)] [] h =
  if x4 < x3 then
   ck (gC h x1) 61 <|
   gd (x2 + x4) (gK h x1) <|
   gd (gI h 3595 189) 4002 <|
   if lg_cmp (gB h x1 (ix (x2 + x4))) (gB h 196 (ix (gI h 3595 189))) = nI 0 then
    cK (E d 48 [.ref 189, .int (nI 3)] h) (Q d 49 62 [some (.ref 189), some (.ref x1), some (.int x2), some (.int x3), some (.int x4)]) []
   else
    Q d 49 62 [some (.ref 189), some (.ref x1), some (.int x2), some (.int x3), some (.int x4)] [] h
  else
   gd (((gI h 3595 189) + (nI 1)) - (nI 1)) 4002 <|
   some (some (.long (gB h 196 (ix (((gI h 3595 189) + (nI 1)) - (nI 1))))), sI h 3595 189 ((gI h 3595 189) + (nI 1))) := by
  rw [← hs.1]
  exact (blkM (fun p => Nat.beq p 62) 19 32 _ _ _).trans rfl

set_option maxRecDepth 16384 in
theorem t_49_62 {d : Nat} {h : AH} (hs : Sh h) (x1 : Nat) (x2 : Int32) (x3 : Int32) (x4 : Int32) :
    Q d 49 62 [some (.ref 189), some (.ref x1), some (.int x2), some (.int x3), some (.int x4)] [] h =
  Q d 49 32 [some (.ref 189), some (.ref x1), some (.int x2), some (.int x3), some (.int (x4 + nI 1))] [] h := by
  rw [← hs.1]
  exact (blkM (fun p => Nat.beq p 32) 4 62 _ _ _).trans rfl

/-! 50 PostRoomModel.takeNumber(II)I -/
set_option maxRecDepth 16384 in
theorem t_50 {d : Nat} {h : AH} (hs : Sh h) (x1 : Int32) (x2 : Int32) :
    E (d + 1) 50 [.ref 189, .int x1, .int x2] h =
  if (nI 0) < gI h 3596 189 then
   some (some (.int (nI 0)), h)
  else
   gd (gI h 3595 189) 4002 <|
   if gA h 194 (ix (gI h 3595 189)) = nI 2 then
    gd (gI h 3595 189) 4002 <|
    if lg_cmp (gB h 196 (ix (gI h 3595 189))) x1.toInt64 < nI 0 then
     cK (E d 48 [.ref 189, .int (nI 4)] h) (Q d 50 64 [some (.ref 189), none, none]) []
    else
     gd (gI h 3595 189) 4002 <|
     if (nI 0) < lg_cmp (gB h 196 (ix (gI h 3595 189))) x2.toInt64 then
      cK (E d 48 [.ref 189, .int (nI 4)] h) (Q d 50 64 [some (.ref 189), none, none]) []
     else
      gd (((gI h 3595 189) + (nI 1)) - (nI 1)) 4002 <|
      some (some (.int ((gB h 196 (ix (((gI h 3595 189) + (nI 1)) - (nI 1)))).toInt32)), sI h 3595 189 ((gI h 3595 189) + (nI 1)))
   else
    cK (E d 48 [.ref 189, .int (nI 1)] h) (Q d 50 27 [some (.ref 189), some (.int x1), some (.int x2)]) [] := by
  rw [← hs.1]
  exact entL (l := [some (.ref 189), some (.int x1), some (.int x2)]) rfl rfl ((blkM (fun p => Nat.beq p 27 || Nat.beq p 64) 44 0 _ _ _).trans rfl)

set_option maxRecDepth 16384 in
theorem t_50_27 {d : Nat} {h : AH} (hs : Sh h) (u0 : Option Value) (u1 : Option Value) (u2 : Option Value) :
    Q d 50 27 [u0, u1, u2] [] h =
  some (some (.int (nI 0)), h) := by
  rw [← hs.1]
  exact (blkM (fun p => false) 3 27 _ _ _).trans rfl

set_option maxRecDepth 16384 in
theorem t_50_64 {d : Nat} {h : AH} (hs : Sh h) (u0 : Option Value) (u1 : Option Value) (u2 : Option Value) :
    Q d 50 64 [u0, u1, u2] [] h =
  some (some (.int (nI 0)), h) := by
  rw [← hs.1]
  exact (blkM (fun p => false) 3 64 _ _ _).trans rfl

/-! 51 PostRoomModel.toldShort()V -/
set_option maxRecDepth 16384 in
theorem t_51 {d : Nat} {h : AH} (hs : Sh h)  :
    E (d + 1) 51 [.ref 189] h =
  (gd (gI h 3598 189) 2 <|
  if gA h 202 (ix (gI h 3598 189)) = nI 20 then
   cK (E d 47 [.ref 189, .int (nI 1)] h) (Q d 51 25 [some (.ref 189), some (.int (gA h 202 (ix (gI h 3598 189))))]) []
  else
   cK (E d 47 [.ref 189, .int (nI 0)] h) (Q d 51 25 [some (.ref 189), some (.int (gA h 202 (ix (gI h 3598 189))))]) []) := by
  rw [← hs.1]
  exact entL (l := [some (.ref 189), none]) rfl rfl ((blkM (fun p => Nat.beq p 25) 14 0 _ _ _).trans rfl)

set_option maxRecDepth 16384 in
theorem t_51_25 {d : Nat} {h : AH} (hs : Sh h) (x1 : Int32) :
    Q d 51 25 [some (.ref 189), some (.int x1)] [] h =
  if (nI 0) < gI h 3596 189 then
   some (none, h)
  else
   cK (E d 49 [.ref 189, .ref 203, .int ((nI 20) * (gI h 3598 189)), .int x1] h) (Q d 51 62 [some (.ref 189), some (.int x1)]) [.int (((nI 20) * (gI h 3598 189)) + x1), .ref 203] := by
  rw [← hs.1]
  exact (blkM (fun p => Nat.beq p 62) 21 25 _ _ _).trans rfl

set_option maxRecDepth 16384 in
theorem t_51_62 {d : Nat} {h : AH} (hs : Sh h) (x1 : Int32) (s0 : Nat) (s1 : Int32) (s2 : Int64) :
    Q d 51 62 [some (.ref 189), some (.int x1)] [.long s2, .int s1, .ref s0] h =
  (cw (gC h s0) 61 s0 <|
  gd s1 (gK h s0) <|
  cK (E d 49 [.ref 189, .ref 203, .int (nI 0), .int (nI 0)] (sB h s0 (ix s1) s2)) (Q d 51 86 [some (.ref 189), some (.int x1)]) [.int (((nI 20) * (gI h 3598 189)) + x1), .ref 204]) := by
  rw [← hs.1]
  exact (blkM (fun p => Nat.beq p 86) 16 62 _ _ _).trans rfl

set_option maxRecDepth 16384 in
theorem t_51_86 {d : Nat} {h : AH} (hs : Sh h) (u1 : Option Value) (s0 : Nat) (s1 : Int32) (s2 : Int64) :
    Q d 51 86 [some (.ref 189), u1] [.long s2, .int s1, .ref s0] h =
  (cw (gC h s0) 61 s0 <|
  gd s1 (gK h s0) <|
  gd (gI h 3598 189) 2 <|
  gd (gI h 3598 189) 2 <|
  some (none, sA (sB h s0 (ix s1) s2) 202 (ix (gI h 3598 189)) ((gA h 202 (ix (gI h 3598 189))) + (nI 1)))) := by
  rw [← hs.1]
  exact (blkM (fun p => false) 12 86 _ _ _).trans rfl

