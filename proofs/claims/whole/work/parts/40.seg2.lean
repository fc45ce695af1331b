/-! ===== THE METHODS, PIECE BY PIECE: 2 (made by wip/gen/gen40.py) ===== -/
/-! 88 PostRoomModel.solve()Z -/
set_option maxRecDepth 16384 in
theorem t_88 {d : Nat} {h : AH} (hs : Sh h)  :
    E (d + 1) 88 [.ref 189] h =
  Q d 88 2 [some (.ref 189), some (.int 0), none, none, none, none] [] h := by
  rw [← hs.1]
  exact ent rfl ((blkM (fun p => Nat.beq p 2) 4 0 _ _ _).trans rfl)

set_option maxRecDepth 16384 in
theorem t_88_2 {d : Nat} {h : AH} (hs : Sh h) (x1 : Int32) :
    Q d 88 2 [some (.ref 189), some (.int x1), none, none, none, none] [] h =
  if x1 < 4 then
   Q d 88 11 [some (.ref 189), some (.int x1), some (.int 0), some (.int 0), none, none] [] h
  else
   Q d 88 171 [some (.ref 189), some (.int 0), none, none, none, none] [] h := by
  rw [← hs.1]
  exact (blkM (fun p => Nat.beq p 11 || Nat.beq p 171) 9 2 _ _ _).trans rfl

set_option maxRecDepth 16384 in
theorem t_88_11 {d : Nat} {h : AH} (hs : Sh h) (x1 : Int32) (x2 : Int32) (x3 : Int32) :
    Q d 88 11 [some (.ref 189), some (.int x1), some (.int x2), some (.int x3), none, none] [] h =
  if x3 < 11 then
   Q d 88 23 [some (.ref 189), some (.int x1), some (.int x2), some (.int x3), some (.int 1), some (.int 0)] [] h
  else
   Q d 88 107 [some (.ref 189), some (.int x1), some (.int x2), some (.int 0), none, none] [] h := by
  rw [← hs.1]
  exact (blkM (fun p => Nat.beq p 23 || Nat.beq p 107) 9 11 _ _ _).trans rfl

set_option maxRecDepth 16384 in
theorem t_88_171 {d : Nat} {h : AH} (hs : Sh h) (x1 : Int32) :
    Q d 88 171 [some (.ref 189), some (.int x1), none, none, none, none] [] h =
  if x1 < gI h 3649 189 then
   cK (E d 90 [.ref 189, .int x1] h) (Q d 88 184 [some (.ref 189), some (.int x1), none, none, none, none]) []
  else
   Q d 88 200 [some (.ref 189), some (.int (gI h 3649 189)), none, none, none, none] [] h := by
  rw [← hs.1]
  exact (blkM (fun p => Nat.beq p 184 || Nat.beq p 200) 9 171 _ _ _).trans rfl

set_option maxRecDepth 16384 in
theorem t_88_23 {d : Nat} {h : AH} (hs : Sh h) (x1 : Int32) (x2 : Int32) (x3 : Int32) (x4 : Int32) (x5 : Int32) :
    Q d 88 23 [some (.ref 189), some (.int x1), some (.int x2), some (.int x3), some (.int x4), some (.int x5)] [] h =
  if x5 < gI h 3649 189 then
   if x4 = 0 then
    Q d 88 23 [some (.ref 189), some (.int x1), some (.int x2), some (.int x3), some (.int 0), some (.int (x5 + 1))] [] h
   else
    gd x5 11 <|
    if gA h 238 (ix x5) = x3 then
     Q d 88 23 [some (.ref 189), some (.int x1), some (.int x2), some (.int x3), some (.int 0), some (.int (x5 + 1))] [] h
    else
     Q d 88 23 [some (.ref 189), some (.int x1), some (.int x2), some (.int x3), some (.int 1), some (.int (x5 + 1))] [] h
  else
   if x4 = 0 then
    Q d 88 11 [some (.ref 189), some (.int x1), some (.int x2), some (.int (x3 + 1)), none, none] [] h
   else
    gd x3 11 <|
    gd (((x1 + 1) * (10 - x3)) - ((x1 + 1) * (10 - x3)) / 63 * 63) 126 <|
    cK (E d 89 [.ref 189, .int (gA h 237 (ix x3)), .int (gA h 191 (ix (((x1 + 1) * (10 - x3)) - ((x1 + 1) * (10 - x3)) / 63 * 63)))] h) (Q d 88 93 [some (.ref 189), some (.int x1), some (.int x2), some (.int x3), some (.int x4), some (.int x5)]) [.int x2] := by
  rw [← hs.1]
  exact (blkM (fun p => Nat.beq p 11 || Nat.beq p 23 || Nat.beq p 93) 26 23 _ _ _).trans rfl

set_option maxRecDepth 16384 in
theorem t_88_107 {d : Nat} {h : AH} (hs : Sh h) (x1 : Int32) (x2 : Int32) (x3 : Int32) :
    Q d 88 107 [some (.ref 189), some (.int x1), some (.int x2), some (.int x3), none, none] [] h =
  if x3 < gI h 3649 189 then
   gd x3 11 <|
   gd (((x1 + 1) * (10 - (gA h 238 (ix x3)))) - ((x1 + 1) * (10 - (gA h 238 (ix x3)))) / 63 * 63) 126 <|
   gd ((5 * x1) + x3) 20 <|
   Q d 88 107 [some (.ref 189), some (.int x1), some (.int x2), some (.int (x3 + 1)), none, none] [] (sA h 239 (ix ((5 * x1) + x3)) (gA h 191 (ix (((x1 + 1) * (10 - (gA h 238 (ix x3)))) - ((x1 + 1) * (10 - (gA h 238 (ix x3)))) / 63 * 63))))
  else
   gd ((5 * x1) + 4) 20 <|
   Q d 88 2 [some (.ref 189), some (.int (x1 + 1)), none, none, none, none] [] (sA h 239 (ix ((5 * x1) + 4)) x2) := by
  rw [← hs.1]
  exact (blkM (fun p => Nat.beq p 2 || Nat.beq p 107) 31 107 _ _ _).trans rfl

set_option maxRecDepth 16384 in
theorem t_88_184 {d : Nat} {h : AH} (hs : Sh h) (x1 : Int32) (u2 : Option Value) (u3 : Option Value) (u4 : Option Value) (u5 : Option Value) (s0 : Int32) :
    Q d 88 184 [some (.ref 189), some (.int x1), u2, u3, u4, u5] [.int s0] h =
  if s0 = 0 then
   some (some (.int 0), h)
  else
   Q d 88 171 [some (.ref 189), some (.int (x1 + 1)), none, none, none, none] [] h := by
  rw [← hs.1]
  exact (blkM (fun p => Nat.beq p 171) 5 184 _ _ _).trans rfl

set_option maxRecDepth 16384 in
theorem t_88_200 {d : Nat} {h : AH} (hs : Sh h) (x1 : Int32) :
    Q d 88 200 [some (.ref 189), some (.int x1), none, none, none, none] [] h =
  if x1 < 4 then
   gd ((5 * x1) + 4) 20 <|
   if gA h 239 (ix ((5 * x1) + 4)) = 0 then
    Q d 88 200 [some (.ref 189), some (.int (x1 + 1)), none, none, none, none] [] h
   else
    some (some (.int 0), h)
  else
   Q d 88 228 [some (.ref 189), some (.int 0), none, none, none, none] [] h := by
  rw [← hs.1]
  exact (blkM (fun p => Nat.beq p 200 || Nat.beq p 228) 16 200 _ _ _).trans rfl

set_option maxRecDepth 16384 in
theorem t_88_93 {d : Nat} {h : AH} (hs : Sh h) (x1 : Int32) (x3 : Int32) (u2 : Option Value) (u4 : Option Value) (u5 : Option Value) (s0 : Int32) (s1 : Int32) :
    Q d 88 93 [some (.ref 189), some (.int x1), u2, some (.int x3), u4, u5] [.int s1, .int s0] h =
  Q d 88 11 [some (.ref 189), some (.int x1), some (.int (s0 ^^^ s1)), some (.int (x3 + 1)), none, none] [] h := by
  rw [← hs.1]
  exact (blkM (fun p => Nat.beq p 11) 7 93 _ _ _).trans rfl

set_option maxRecDepth 16384 in
theorem t_88_228 {d : Nat} {h : AH} (hs : Sh h) (x1 : Int32) :
    Q d 88 228 [some (.ref 189), some (.int x1), none, none, none, none] [] h =
  if x1 < gI h 3649 189 then
   gd x1 11 <|
   gd ((5 * x1) + 4) 20 <|
   gd (gA h 238 (ix x1)) 11 <|
   Q d 88 228 [some (.ref 189), some (.int (x1 + 1)), none, none, none, none] [] (sA h 237 (ix (gA h 238 (ix x1))) (gA h 239 (ix ((5 * x1) + 4))))
  else
   some (some (.int 1), h) := by
  rw [← hs.1]
  exact (blkM (fun p => Nat.beq p 228) 23 228 _ _ _).trans rfl

/-! 89 PostRoomModel.product(II)I -/
set_option maxRecDepth 16384 in
theorem t_89 {d : Nat} {h : AH} (hs : Sh h) (x1 : Int32) (x2 : Int32) :
    E (d + 1) 89 [.ref 189, .int x1, .int x2] h =
  if x1 = 0 then
   some (some (.int 0), h)
  else
   if x2 = 0 then
    some (some (.int 0), h)
   else
    gd x1 64 <|
    gd x2 64 <|
    gd ((gA h 192 (ix x1)) + (gA h 192 (ix x2))) 126 <|
    some (some (.int (gA h 191 (ix ((gA h 192 (ix x1)) + (gA h 192 (ix x2)))))), h) := by
  rw [← hs.1]
  exact ent rfl ((blkM (fun p => false) 18 0 _ _ _).trans rfl)

/-! 90 PostRoomModel.cleared(I)Z -/
set_option maxRecDepth 16384 in
theorem t_90 {d : Nat} {h : AH} (hs : Sh h) (x1 : Int32) :
    E (d + 1) 90 [.ref 189, .int x1] h =
  Q d 90 2 [some (.ref 189), some (.int x1), some (.int x1), none, none, none, none] [] h := by
  rw [← hs.1]
  exact ent rfl ((blkM (fun p => Nat.beq p 2) 4 0 _ _ _).trans rfl)

set_option maxRecDepth 16384 in
theorem t_90_2 {d : Nat} {h : AH} (hs : Sh h) (x1 : Int32) (x2 : Int32) :
    Q d 90 2 [some (.ref 189), some (.int x1), some (.int x2), none, none, none, none] [] h =
  if x2 < 4 then
   gd ((5 * x2) + x1) 20 <|
   if gA h 239 (ix ((5 * x2) + x1)) = 0 then
    Q d 90 2 [some (.ref 189), some (.int x1), some (.int (x2 + 1)), none, none, none, none] [] h
   else
    if x2 = 4 then
     some (some (.int 0), h)
    else
     Q d 90 35 [some (.ref 189), some (.int x1), some (.int x2), some (.int 0), none, none, none] [] h
  else
   if x2 = 4 then
    some (some (.int 0), h)
   else
    Q d 90 35 [some (.ref 189), some (.int x1), some (.int x2), some (.int 0), none, none, none] [] h := by
  rw [← hs.1]
  exact (blkM (fun p => Nat.beq p 2 || Nat.beq p 35) 19 2 _ _ _).trans rfl

set_option maxRecDepth 16384 in
theorem t_90_35 {d : Nat} {h : AH} (hs : Sh h) (x1 : Int32) (x2 : Int32) (x3 : Int32) :
    Q d 90 35 [some (.ref 189), some (.int x1), some (.int x2), some (.int x3), none, none, none] [] h =
  if x3 < 5 then
   gd ((5 * x2) + x3) 20 <|
   gd ((5 * x1) + x3) 20 <|
   gd ((5 * x2) + x3) 20 <|
   gd ((5 * x1) + x3) 20 <|
   Q d 90 35 [some (.ref 189), some (.int x1), some (.int x2), some (.int (x3 + 1)), none, none, none] [] (sA (sA h 239 (ix ((5 * x2) + x3)) (gA h 239 (ix ((5 * x1) + x3)))) 239 (ix ((5 * x1) + x3)) (gA h 239 (ix ((5 * x2) + x3))))
  else
   gd ((5 * x1) + x1) 20 <|
   Q d 90 104 [some (.ref 189), some (.int x1), none, some (.int (gA h 239 (ix ((5 * x1) + x1)))), some (.int 0), none, none] [] h := by
  rw [← hs.1]
  exact (blkM (fun p => Nat.beq p 35 || Nat.beq p 104) 41 35 _ _ _).trans rfl

set_option maxRecDepth 16384 in
theorem t_90_104 {d : Nat} {h : AH} (hs : Sh h) (x1 : Int32) (x3 : Int32) (x4 : Int32) :
    Q d 90 104 [some (.ref 189), some (.int x1), none, some (.int x3), some (.int x4), none, none] [] h =
  if x4 < 5 then
   gd ((5 * x1) + x4) 20 <|
   cK (E d 91 [.ref 189, .int (gA h 239 (ix ((5 * x1) + x4))), .int x3] h) (Q d 90 136 [some (.ref 189), some (.int x1), none, some (.int x3), some (.int x4), none, none]) [.int ((5 * x1) + x4), .ref 239]
  else
   Q d 90 146 [some (.ref 189), some (.int x1), none, none, some (.int 0), none, none] [] h := by
  rw [← hs.1]
  exact (blkM (fun p => Nat.beq p 136 || Nat.beq p 146) 22 104 _ _ _).trans rfl

set_option maxRecDepth 16384 in
theorem t_90_136 {d : Nat} {h : AH} (hs : Sh h) (x1 : Int32) (x3 : Int32) (x4 : Int32) (u2 : Option Value) (u5 : Option Value) (u6 : Option Value) (s0 : Nat) (s1 : Int32) (s2 : Int32) :
    Q d 90 136 [some (.ref 189), some (.int x1), u2, some (.int x3), some (.int x4), u5, u6] [.int s2, .int s1, .ref s0] h =
  (cw (gC h s0) 60 s0 <|
  gd s1 (gK h s0) <|
  Q d 90 104 [some (.ref 189), some (.int x1), none, some (.int x3), some (.int (x4 + 1)), none, none] [] (sA h s0 (ix s1) s2)) := by
  rw [← hs.1]
  exact (blkM (fun p => Nat.beq p 104) 5 136 _ _ _).trans rfl

set_option maxRecDepth 16384 in
theorem t_90_146 {d : Nat} {h : AH} (hs : Sh h) (x1 : Int32) (x4 : Int32) :
    Q d 90 146 [some (.ref 189), some (.int x1), none, none, some (.int x4), none, none] [] h =
  if x4 < 4 then
   if x4 = x1 then
    Q d 90 178 [some (.ref 189), some (.int x1), none, none, some (.int x4), some (.int 0), some (.int 0)] [] h
   else
    gd ((5 * x4) + x1) 20 <|
    Q d 90 178 [some (.ref 189), some (.int x1), none, none, some (.int x4), some (.int (gA h 239 (ix ((5 * x4) + x1)))), some (.int 0)] [] h
  else
   some (some (.int 1), h) := by
  rw [← hs.1]
  exact (blkM (fun p => Nat.beq p 178) 19 146 _ _ _).trans rfl

set_option maxRecDepth 16384 in
theorem t_90_178 {d : Nat} {h : AH} (hs : Sh h) (x1 : Int32) (x4 : Int32) (x5 : Int32) (x6 : Int32) :
    Q d 90 178 [some (.ref 189), some (.int x1), none, none, some (.int x4), some (.int x5), some (.int x6)] [] h =
  if x6 < 5 then
   gd ((5 * x4) + x6) 20 <|
   gd ((5 * x1) + x6) 20 <|
   cK (E d 89 [.ref 189, .int x5, .int (gA h 239 (ix ((5 * x1) + x6)))] h) (Q d 90 224 [some (.ref 189), some (.int x1), none, none, some (.int x4), some (.int x5), some (.int x6)]) [.int (gA h 239 (ix ((5 * x4) + x6))), .int ((5 * x4) + x6), .ref 239]
  else
   Q d 90 146 [some (.ref 189), some (.int x1), none, none, some (.int (x4 + 1)), none, none] [] h := by
  rw [← hs.1]
  exact (blkM (fun p => Nat.beq p 146 || Nat.beq p 224) 30 178 _ _ _).trans rfl

set_option maxRecDepth 16384 in
theorem t_90_224 {d : Nat} {h : AH} (hs : Sh h) (x1 : Int32) (x4 : Int32) (x5 : Int32) (x6 : Int32) (u2 : Option Value) (u3 : Option Value) (s0 : Nat) (s1 : Int32) (s2 : Int32) (s3 : Int32) :
    Q d 90 224 [some (.ref 189), some (.int x1), u2, u3, some (.int x4), some (.int x5), some (.int x6)] [.int s3, .int s2, .int s1, .ref s0] h =
  (cw (gC h s0) 60 s0 <|
  gd s1 (gK h s0) <|
  Q d 90 178 [some (.ref 189), some (.int x1), none, none, some (.int x4), some (.int x5), some (.int (x6 + 1))] [] (sA h s0 (ix s1) (s2 ^^^ s3))) := by
  rw [← hs.1]
  exact (blkM (fun p => Nat.beq p 178) 6 224 _ _ _).trans rfl

/-! 91 PostRoomModel.quotient(II)I -/
set_option maxRecDepth 16384 in
theorem t_91 {d : Nat} {h : AH} (hs : Sh h) (x1 : Int32) (x2 : Int32) :
    E (d + 1) 91 [.ref 189, .int x1, .int x2] h =
  if x1 = 0 then
   some (some (.int 0), h)
  else
   gd x1 64 <|
   gd x2 64 <|
   gd (((gA h 192 (ix x1)) + 63) - (gA h 192 (ix x2))) 126 <|
   some (some (.int (gA h 191 (ix (((gA h 192 (ix x1)) + 63) - (gA h 192 (ix x2)))))), h) := by
  rw [← hs.1]
  exact ent rfl ((blkM (fun p => false) 18 0 _ _ _).trans rfl)

/-! 92 PostRoomModel.read()I -/
set_option maxRecDepth 16384 in
theorem t_92 {d : Nat} {h : AH} (hs : Sh h)  :
    E (d + 1) 92 [.ref 189] h =
  cK (E d 36 [.ref 189] (sI h 3586 189 0)) (Q d 92 9 [some (.ref 189), none, none, none]) [] := by
  rw [← hs.1]
  exact ent rfl ((blkM (fun p => Nat.beq p 9) 6 0 _ _ _).trans rfl)

set_option maxRecDepth 16384 in
theorem t_92_9 {d : Nat} {h : AH} (hs : Sh h) (u1 : Option Value) (u2 : Option Value) (u3 : Option Value) :
    Q d 92 9 [some (.ref 189), u1, u2, u3] [] h =
  cK (E d 93 [.ref 189] h) (Q d 92 13 [some (.ref 189), u1, u2, u3]) [] := by
  rw [← hs.1]
  exact (blkM (fun p => Nat.beq p 13) 3 9 _ _ _).trans rfl

set_option maxRecDepth 16384 in
theorem t_92_13 {d : Nat} {h : AH} (hs : Sh h) (u1 : Option Value) (u2 : Option Value) (u3 : Option Value) (s0 : Int32) :
    Q d 92 13 [some (.ref 189), u1, u2, u3] [.int s0] h =
  if s0 = 0 then
   some (some (.int (-3)), h)
  else
   cK (E d 94 [.ref 189] h) (Q d 92 23 [some (.ref 189), u1, u2, u3]) [] := by
  rw [← hs.1]
  exact (blkM (fun p => Nat.beq p 23) 4 13 _ _ _).trans rfl

set_option maxRecDepth 16384 in
theorem t_92_23 {d : Nat} {h : AH} (hs : Sh h) (u1 : Option Value) (u2 : Option Value) (u3 : Option Value) (s0 : Int32) :
    Q d 92 23 [some (.ref 189), u1, u2, u3] [.int s0] h =
  if s0 = 0 then
   some (some (.int (-1)), h)
  else
   Q d 92 38 [some (.ref 189), some (.int 0), none, none] [] (sI h 3653 189 (gI h 3649 189)) := by
  rw [← hs.1]
  exact (blkM (fun p => Nat.beq p 38) 9 23 _ _ _).trans rfl

set_option maxRecDepth 16384 in
theorem t_92_38 {d : Nat} {h : AH} (hs : Sh h) (x1 : Int32) :
    Q d 92 38 [some (.ref 189), some (.int x1), none, none] [] h =
  if x1 < 11 then
   gd x1 11 <|
   gd x1 11 <|
   Q d 92 38 [some (.ref 189), some (.int (x1 + 1)), none, none] [] (sA h 240 (ix x1) (gA h 237 (ix x1)))
  else
   if (64 * (gA h 240 3)) + (gA h 240 4) < gI h 3654 189 then
    cK (E d 87 [.ref 189, .int ((64 * (gA h 240 3)) + (gA h 240 4))] h) (Q d 92 95 [some (.ref 189), some (.int ((64 * (gA h 240 3)) + (gA h 240 4))), none, none]) []
   else
    some (some (.int (-2)), h) := by
  rw [← hs.1]
  exact (blkM (fun p => Nat.beq p 38 || Nat.beq p 95) 23 38 _ _ _).trans rfl

set_option maxRecDepth 16384 in
theorem t_92_95 {d : Nat} {h : AH} (hs : Sh h) (x1 : Int32) (u2 : Option Value) (u3 : Option Value) :
    Q d 92 95 [some (.ref 189), some (.int x1), u2, u3] [] h =
  Q d 92 99 [some (.ref 189), some (.int x1), some (.int 1), some (.int 0)] [] h := by
  rw [← hs.1]
  exact (blkM (fun p => Nat.beq p 99) 6 95 _ _ _).trans rfl

set_option maxRecDepth 16384 in
theorem t_92_99 {d : Nat} {h : AH} (hs : Sh h) (x1 : Int32) (x2 : Int32) (x3 : Int32) :
    Q d 92 99 [some (.ref 189), some (.int x1), some (.int x2), some (.int x3)] [] h =
  if x3 < 7 then
   if x2 = 0 then
    Q d 92 99 [some (.ref 189), some (.int x1), some (.int 0), some (.int (x3 + 1))] [] h
   else
    gd x3 11 <|
    gd x3 11 <|
    if gA h 237 (ix x3) = gA h 240 (ix x3) then
     Q d 92 99 [some (.ref 189), some (.int x1), some (.int 1), some (.int (x3 + 1))] [] h
    else
     Q d 92 99 [some (.ref 189), some (.int x1), some (.int 0), some (.int (x3 + 1))] [] h
  else
   if x2 = 0 then
    some (some (.int (-2)), h)
   else
    some (some (.int x1), h) := by
  rw [← hs.1]
  exact (blkM (fun p => Nat.beq p 99) 21 99 _ _ _).trans rfl

/-! 93 PostRoomModel.takeBars()Z -/
set_option maxRecDepth 16384 in
theorem t_93 {d : Nat} {h : AH} (hs : Sh h)  :
    E (d + 1) 93 [.ref 189] h =
  if gI h 3591 189 = 33 then
   Q d 93 17 [some (.ref 189), some (.int 1), some (.int 0), none] [] h
  else
   Q d 93 17 [some (.ref 189), some (.int 0), some (.int 0), none] [] h := by
  rw [← hs.1]
  exact ent rfl ((blkM (fun p => Nat.beq p 17) 11 0 _ _ _).trans rfl)

set_option maxRecDepth 16384 in
theorem t_93_17 {d : Nat} {h : AH} (hs : Sh h) (x1 : Int32) (x2 : Int32) :
    Q d 93 17 [some (.ref 189), some (.int x1), some (.int x2), none] [] h =
  if x2 < 33 then
   if x1 = 0 then
    Q d 93 74 [some (.ref 189), some (.int x1), some (.int 0), none] [] h
   else
    gd x2 4000 <|
    if gA h 193 (ix x2) < 48 then
     gd x2 4000 <|
     if gA h 193 (ix x2) = 63 then
      Q d 93 17 [some (.ref 189), some (.int 1), some (.int (x2 + 1)), none] [] h
     else
      Q d 93 17 [some (.ref 189), some (.int 0), some (.int (x2 + 1)), none] [] h
    else
     gd x2 4000 <|
     if (51 : Int32) < gA h 193 (ix x2) then
      gd x2 4000 <|
      if gA h 193 (ix x2) = 63 then
       Q d 93 17 [some (.ref 189), some (.int 1), some (.int (x2 + 1)), none] [] h
      else
       Q d 93 17 [some (.ref 189), some (.int 0), some (.int (x2 + 1)), none] [] h
     else
      Q d 93 17 [some (.ref 189), some (.int 1), some (.int (x2 + 1)), none] [] h
  else
   Q d 93 74 [some (.ref 189), some (.int x1), some (.int 0), none] [] h := by
  rw [← hs.1]
  exact (blkM (fun p => Nat.beq p 17 || Nat.beq p 74) 30 17 _ _ _).trans rfl

set_option maxRecDepth 16384 in
theorem t_93_74 {d : Nat} {h : AH} (hs : Sh h) (x1 : Int32) (x2 : Int32) :
    Q d 93 74 [some (.ref 189), some (.int x1), some (.int x2), none] [] h =
  if x2 < 11 then
   if x1 = 0 then
    if x1 = 0 ∨ x1 = 1 then
     some (some (.int x1), h)
    else
     none
   else
    gd x2 11 <|
    gd x2 11 <|
    Q d 93 102 [some (.ref 189), some (.int x1), some (.int x2), some (.int (3 * x2))] [] (sA (sA h 240 (ix x2) 0) 241 (ix x2) (nrA 63 1))
  else
   if x1 = 0 ∨ x1 = 1 then
    some (some (.int x1), h)
   else
    none := by
  rw [← hs.1]
  exact (blkM (fun p => Nat.beq p 102) 21 74 _ _ _).trans rfl

set_option maxRecDepth 16384 in
theorem t_93_102 {d : Nat} {h : AH} (hs : Sh h) (x1 : Int32) (x2 : Int32) (x3 : Int32) :
    Q d 93 102 [some (.ref 189), some (.int x1), some (.int x2), some (.int x3)] [] h =
  if x3 < (3 * x2) + 3 then
   gd x2 11 <|
   if gA h 241 (ix x2) = 0 then
    gd x2 11 <|
    gd x2 11 <|
    gd x3 4000 <|
    if gA h 193 (ix x3) = 63 then
     gd x2 11 <|
     Q d 93 102 [some (.ref 189), some (.int x1), some (.int x2), some (.int (x3 + 1))] [] (sA (sA h 241 (ix x2) (nrA 63 0)) 240 (ix x2) ((4 * (gA h 240 (ix x2))) + 0))
    else
     gd x3 4000 <|
     gd x2 11 <|
     Q d 93 102 [some (.ref 189), some (.int x1), some (.int x2), some (.int (x3 + 1))] [] (sA (sA h 241 (ix x2) (nrA 63 0)) 240 (ix x2) ((4 * (gA h 240 (ix x2))) + ((gA h 193 (ix x3)) - 48)))
   else
    gd x3 4000 <|
    if gA h 193 (ix x3) = 63 then
     gd x2 11 <|
     gd x2 11 <|
     gd x3 4000 <|
     if gA h 193 (ix x3) = 63 then
      gd x2 11 <|
      Q d 93 102 [some (.ref 189), some (.int x1), some (.int x2), some (.int (x3 + 1))] [] (sA (sA h 241 (ix x2) (nrA 63 0)) 240 (ix x2) ((4 * (gA h 240 (ix x2))) + 0))
     else
      gd x3 4000 <|
      gd x2 11 <|
      Q d 93 102 [some (.ref 189), some (.int x1), some (.int x2), some (.int (x3 + 1))] [] (sA (sA h 241 (ix x2) (nrA 63 0)) 240 (ix x2) ((4 * (gA h 240 (ix x2))) + ((gA h 193 (ix x3)) - 48)))
    else
     gd x2 11 <|
     gd x2 11 <|
     gd x3 4000 <|
     if gA h 193 (ix x3) = 63 then
      gd x2 11 <|
      Q d 93 102 [some (.ref 189), some (.int x1), some (.int x2), some (.int (x3 + 1))] [] (sA (sA h 241 (ix x2) (nrA 63 1)) 240 (ix x2) ((4 * (gA h 240 (ix x2))) + 0))
     else
      gd x3 4000 <|
      gd x2 11 <|
      Q d 93 102 [some (.ref 189), some (.int x1), some (.int x2), some (.int (x3 + 1))] [] (sA (sA h 241 (ix x2) (nrA 63 1)) 240 (ix x2) ((4 * (gA h 240 (ix x2))) + ((gA h 193 (ix x3)) - 48)))
  else
   Q d 93 74 [some (.ref 189), some (.int x1), some (.int (x2 + 1)), none] [] h := by
  rw [← hs.1]
  exact (blkM (fun p => Nat.beq p 74 || Nat.beq p 102) 51 102 _ _ _).trans rfl

/-! 94 PostRoomModel.isRead()Z -/
set_option maxRecDepth 16384 in
theorem t_94 {d : Nat} {h : AH} (hs : Sh h)  :
    E (d + 1) 94 [.ref 189] h =
  Q d 94 4 [some (.ref 189), some (.int 0), some (.int 0), none, none] [] h := by
  rw [← hs.1]
  exact ent rfl ((blkM (fun p => Nat.beq p 4) 6 0 _ _ _).trans rfl)

set_option maxRecDepth 16384 in
theorem t_94_4 {d : Nat} {h : AH} (hs : Sh h) (x1 : Int32) (x2 : Int32) :
    Q d 94 4 [some (.ref 189), some (.int x1), some (.int x2), none, none] [] h =
  if x2 < 11 then
   gd x2 11 <|
   if gA h 241 (ix x2) = 0 then
    Q d 94 4 [some (.ref 189), some (.int (x1 + 1)), some (.int (x2 + 1)), none, none] [] h
   else
    Q d 94 4 [some (.ref 189), some (.int (x1 + 0)), some (.int (x2 + 1)), none, none] [] h
  else
   if (4 : Int32) < x1 then
    some (some (.int 0), h)
   else
    cK (E d 95 [.ref 189, .int 11, .int 11] h) (Q d 94 48 [some (.ref 189), some (.int x1), some (.int x2), none, none]) [] := by
  rw [← hs.1]
  exact (blkM (fun p => Nat.beq p 4 || Nat.beq p 48) 17 4 _ _ _).trans rfl

set_option maxRecDepth 16384 in
theorem t_94_48 {d : Nat} {h : AH} (hs : Sh h) (x1 : Int32) (u2 : Option Value) (u3 : Option Value) (u4 : Option Value) (s0 : Int32) :
    Q d 94 48 [some (.ref 189), some (.int x1), u2, u3, u4] [.int s0] h =
  Q d 94 51 [some (.ref 189), some (.int x1), some (.int s0), some (.int 0), none] [] h := by
  rw [← hs.1]
  exact (blkM (fun p => Nat.beq p 51) 5 48 _ _ _).trans rfl

set_option maxRecDepth 16384 in
theorem t_94_51 {d : Nat} {h : AH} (hs : Sh h) (x1 : Int32) (x2 : Int32) (x3 : Int32) :
    Q d 94 51 [some (.ref 189), some (.int x1), some (.int x2), some (.int x3), none] [] h =
  if x3 < 11 then
   if x2 = 0 then
    if x1 < 3 then
     gd x3 11 <|
     if gA h 241 (ix x3) = 0 then
      Q d 94 51 [some (.ref 189), some (.int x1), some (.int 0), some (.int (x3 + 1)), none] [] h
     else
      cK (E d 95 [.ref 189, .int x3, .int 11] h) (Q d 94 82 [some (.ref 189), some (.int x1), some (.int x2), some (.int x3), none]) []
    else
     Q d 94 99 [some (.ref 189), some (.int x1), some (.int x2), some (.int 0), none] [] h
   else
    Q d 94 99 [some (.ref 189), some (.int x1), some (.int x2), some (.int 0), none] [] h
  else
   Q d 94 99 [some (.ref 189), some (.int x1), some (.int x2), some (.int 0), none] [] h := by
  rw [← hs.1]
  exact (blkM (fun p => Nat.beq p 51 || Nat.beq p 82 || Nat.beq p 99) 19 51 _ _ _).trans rfl

set_option maxRecDepth 16384 in
theorem t_94_82 {d : Nat} {h : AH} (hs : Sh h) (x1 : Int32) (x3 : Int32) (u2 : Option Value) (u4 : Option Value) (s0 : Int32) :
    Q d 94 82 [some (.ref 189), some (.int x1), u2, some (.int x3), u4] [.int s0] h =
  if s0 = 0 then
   Q d 94 51 [some (.ref 189), some (.int x1), some (.int 0), some (.int (x3 + 1)), none] [] h
  else
   Q d 94 51 [some (.ref 189), some (.int x1), some (.int 1), some (.int (x3 + 1)), none] [] h := by
  rw [← hs.1]
  exact (blkM (fun p => Nat.beq p 51) 8 82 _ _ _).trans rfl

set_option maxRecDepth 16384 in
theorem t_94_99 {d : Nat} {h : AH} (hs : Sh h) (x1 : Int32) (x2 : Int32) (x3 : Int32) :
    Q d 94 99 [some (.ref 189), some (.int x1), some (.int x2), some (.int x3), none] [] h =
  if x3 < 11 then
   if x2 = 0 then
    if x1 = 0 then
     Q d 94 116 [some (.ref 189), some (.int x1), some (.int x2), some (.int x3), some (.int 0)] [] h
    else
     if x2 = 0 ∨ x2 = 1 then
      some (some (.int x2), h)
     else
      none
   else
    if x2 = 0 ∨ x2 = 1 then
     some (some (.int x2), h)
    else
     none
  else
   if x2 = 0 ∨ x2 = 1 then
    some (some (.int x2), h)
   else
    none := by
  rw [← hs.1]
  exact (blkM (fun p => Nat.beq p 116) 11 99 _ _ _).trans rfl

set_option maxRecDepth 16384 in
theorem t_94_116 {d : Nat} {h : AH} (hs : Sh h) (x1 : Int32) (x2 : Int32) (x3 : Int32) (x4 : Int32) :
    Q d 94 116 [some (.ref 189), some (.int x1), some (.int x2), some (.int x3), some (.int x4)] [] h =
  if x4 < x3 then
   if x2 = 0 then
    cK (E d 95 [.ref 189, .int x3, .int x4] h) (Q d 94 133 [some (.ref 189), some (.int x1), some (.int x2), some (.int x3), some (.int x4)]) []
   else
    Q d 94 99 [some (.ref 189), some (.int x1), some (.int x2), some (.int (x3 + 1)), none] [] h
  else
   Q d 94 99 [some (.ref 189), some (.int x1), some (.int x2), some (.int (x3 + 1)), none] [] h := by
  rw [← hs.1]
  exact (blkM (fun p => Nat.beq p 99 || Nat.beq p 133) 10 116 _ _ _).trans rfl

set_option maxRecDepth 16384 in
theorem t_94_133 {d : Nat} {h : AH} (hs : Sh h) (x1 : Int32) (x3 : Int32) (x4 : Int32) (u2 : Option Value) (s0 : Int32) :
    Q d 94 133 [some (.ref 189), some (.int x1), u2, some (.int x3), some (.int x4)] [.int s0] h =
  Q d 94 116 [some (.ref 189), some (.int x1), some (.int s0), some (.int x3), some (.int (x4 + 1))] [] h := by
  rw [← hs.1]
  exact (blkM (fun p => Nat.beq p 116) 5 133 _ _ _).trans rfl

/-! 95 PostRoomModel.tries(II)Z -/
set_option maxRecDepth 16384 in
theorem t_95 {d : Nat} {h : AH} (hs : Sh h) (x1 : Int32) (x2 : Int32) :
    E (d + 1) 95 [.ref 189, .int x1, .int x2] h =
  Q d 95 7 [some (.ref 189), some (.int x1), some (.int x2), some (.int 0)] [] (sI h 3649 189 0) := by
  rw [← hs.1]
  exact ent rfl ((blkM (fun p => Nat.beq p 7) 7 0 _ _ _).trans rfl)

set_option maxRecDepth 16384 in
theorem t_95_7 {d : Nat} {h : AH} (hs : Sh h) (x1 : Int32) (x2 : Int32) (x3 : Int32) :
    Q d 95 7 [some (.ref 189), some (.int x1), some (.int x2), some (.int x3)] [] h =
  if x3 < 11 then
   gd x3 11 <|
   gd x3 11 <|
   gd x3 11 <|
   if gA h 241 (ix x3) = 0 then
    gd (gI h 3649 189) 11 <|
    Q d 95 7 [some (.ref 189), some (.int x1), some (.int x2), some (.int (x3 + 1))] [] (sI (sA (sA h 237 (ix x3) (gA h 240 (ix x3))) 238 (ix (gI h 3649 189)) x3) 3649 189 ((gI h 3649 189) + 1))
   else
    if x3 = x1 then
     gd (gI h 3649 189) 11 <|
     Q d 95 7 [some (.ref 189), some (.int x1), some (.int x2), some (.int (x3 + 1))] [] (sI (sA (sA h 237 (ix x3) (gA h 240 (ix x3))) 238 (ix (gI h 3649 189)) x3) 3649 189 ((gI h 3649 189) + 1))
    else
     if x3 = x2 then
      gd (gI h 3649 189) 11 <|
      Q d 95 7 [some (.ref 189), some (.int x1), some (.int x2), some (.int (x3 + 1))] [] (sI (sA (sA h 237 (ix x3) (gA h 240 (ix x3))) 238 (ix (gI h 3649 189)) x3) 3649 189 ((gI h 3649 189) + 1))
     else
      Q d 95 7 [some (.ref 189), some (.int x1), some (.int x2), some (.int (x3 + 1))] [] (sA h 237 (ix x3) (gA h 240 (ix x3)))
  else
   cK (E d 88 [.ref 189] h) (Q d 95 74 [some (.ref 189), some (.int x1), some (.int x2), some (.int x3)]) [] := by
  rw [← hs.1]
  exact (blkM (fun p => Nat.beq p 7 || Nat.beq p 74) 38 7 _ _ _).trans rfl

set_option maxRecDepth 16384 in
theorem t_95_74 {d : Nat} {h : AH} (hs : Sh h) (u0 : Option Value) (u1 : Option Value) (u2 : Option Value) (u3 : Option Value) (s0 : Int32) :
    Q d 95 74 [u0, u1, u2, u3] [.int s0] h =
  if s0 = 0 ∨ s0 = 1 then
   some (some (.int s0), h)
  else
   none := by
  rw [← hs.1]
  exact (blkM (fun p => false) 2 74 _ _ _).trans rfl

/-! 96 PostRoomModel.mended()I -/
set_option maxRecDepth 16384 in
theorem t_96 {d : Nat} {h : AH} (hs : Sh h)  :
    E (d + 1) 96 [.ref 189] h =
  some (some (.int (gI h 3653 189)), sI h 3586 189 0) := by
  rw [← hs.1]
  exact ent rfl ((blkM (fun p => false) 7 0 _ _ _).trans rfl)

/-! 97 PostRoomModel.accept(III)I -/
set_option maxRecDepth 16384 in
theorem t_97 {d : Nat} {h : AH} (hs : Sh h) (x1 : Int32) (x2 : Int32) (x3 : Int32) :
    E (d + 1) 97 [.ref 189, .int x1, .int x2, .int x3] h =
  cK (E d 36 [.ref 189] h) (Q d 97 4 [some (.ref 189), some (.int x1), some (.int x2), some (.int x3), none, none]) [] := by
  rw [← hs.1]
  exact ent rfl ((blkM (fun p => Nat.beq p 4) 3 0 _ _ _).trans rfl)

set_option maxRecDepth 16384 in
theorem t_97_4 {d : Nat} {h : AH} (hs : Sh h) (x1 : Int32) (x2 : Int32) (x3 : Int32) (u4 : Option Value) (u5 : Option Value) :
    Q d 97 4 [some (.ref 189), some (.int x1), some (.int x2), some (.int x3), u4, u5] [] h =
  cK (E d 81 [.ref 189, .int x1] h) (Q d 97 10 [some (.ref 189), some (.int x1), some (.int x2), some (.int x3), u4, u5]) [.ref 189] := by
  rw [← hs.1]
  exact (blkM (fun p => Nat.beq p 10) 5 4 _ _ _).trans rfl

set_option maxRecDepth 16384 in
theorem t_97_10 {d : Nat} {h : AH} (hs : Sh h) (x1 : Int32) (x2 : Int32) (x3 : Int32) (u4 : Option Value) (u5 : Option Value) (s0 : Nat) (s1 : Int32) :
    Q d 97 10 [some (.ref 189), some (.int x1), some (.int x2), some (.int x3), u4, u5] [.int s1, .ref s0] h =
  if s1 = 0 then
   ck (gC h s0) 14 <|
   if (0 : Int32) < gI (sI h 3586 s0 1) 3586 189 then
    some (some (.int 0), sI h 3586 s0 1)
   else
    cK (E d 63 [.ref 189] (sI h 3586 s0 1)) (Q d 97 42 [some (.ref 189), some (.int x1), some (.int x2), some (.int x3), none, none]) []
  else
   cK (E d 82 [.ref 189, .int x3] h) (Q d 97 18 [some (.ref 189), some (.int x1), some (.int x2), some (.int x3), u4, u5]) [.ref s0] := by
  rw [← hs.1]
  exact (blkM (fun p => Nat.beq p 18 || Nat.beq p 42) 9 10 _ _ _).trans rfl

set_option maxRecDepth 16384 in
theorem t_97_18 {d : Nat} {h : AH} (hs : Sh h) (x1 : Int32) (x2 : Int32) (x3 : Int32) (u4 : Option Value) (u5 : Option Value) (s0 : Nat) (s1 : Int32) :
    Q d 97 18 [some (.ref 189), some (.int x1), some (.int x2), some (.int x3), u4, u5] [.int s1, .ref s0] h =
  if s1 = 0 then
   ck (gC h s0) 14 <|
   if (0 : Int32) < gI (sI h 3586 s0 1) 3586 189 then
    some (some (.int 0), sI h 3586 s0 1)
   else
    cK (E d 63 [.ref 189] (sI h 3586 s0 1)) (Q d 97 42 [some (.ref 189), some (.int x1), some (.int x2), some (.int x3), none, none]) []
  else
   ck (gC h s0) 14 <|
   if (0 : Int32) < gI (sI h 3586 s0 0) 3586 189 then
    some (some (.int 0), sI h 3586 s0 0)
   else
    cK (E d 63 [.ref 189] (sI h 3586 s0 0)) (Q d 97 42 [some (.ref 189), some (.int x1), some (.int x2), some (.int x3), none, none]) [] := by
  rw [← hs.1]
  exact (blkM (fun p => Nat.beq p 42) 10 18 _ _ _).trans rfl

set_option maxRecDepth 16384 in
theorem t_97_42 {d : Nat} {h : AH} (hs : Sh h) (x1 : Int32) (x2 : Int32) (x3 : Int32) (u4 : Option Value) (u5 : Option Value) (s0 : Int32) :
    Q d 97 42 [some (.ref 189), some (.int x1), some (.int x2), some (.int x3), u4, u5] [.int s0] h =
  if s0 < 0 then
   some (some (.int s0), h)
  else
   cK (E d 83 [.ref 189, .int x1, .int x2] h) (Q d 97 58 [some (.ref 189), some (.int x1), some (.int x2), some (.int x3), some (.int s0), u5]) [] := by
  rw [← hs.1]
  exact (blkM (fun p => Nat.beq p 58) 8 42 _ _ _).trans rfl

set_option maxRecDepth 16384 in
theorem t_97_58 {d : Nat} {h : AH} (hs : Sh h) (x1 : Int32) (x2 : Int32) (x3 : Int32) (x4 : Int32) (u5 : Option Value) (s0 : Int32) :
    Q d 97 58 [some (.ref 189), some (.int x1), some (.int x2), some (.int x3), some (.int x4), u5] [.int s0] h =
  if s0 = 0 then
   some (some (.int (-3)), h)
  else
   if gI h 3654 189 = 200 then
    some (some (.int (-4)), h)
   else
    gd (gI h 3654 189) 200 <|
    gd (gI h 3654 189) 200 <|
    gd (gI h 3654 189) 200 <|
    gd (gI h 3654 189) 200 <|
    gd (gI h 3654 189) 200 <|
    gd ((60 * (gI h 3597 189)) + x4) 120 <|
    gd ((16 * (gI h 3597 189)) + (gA h 208 (ix ((60 * (gI h 3597 189)) + x4)))) 32 <|
    gd (gI h 3654 189) 200 <|
    gd (gI h 3654 189) 200 <|
    gd ((60 * (gI h 3597 189)) + x4) 120 <|
    cK (E d 84 [.ref 189, .int x3, .int (gA h 208 (ix ((60 * (gI h 3597 189)) + x4)))] (sA (sA (sA (sA (sA (sA (sA (sI h 3654 189 ((gI h 3654 189) + 1)) 242 (ix (gI h 3654 189)) x1) 243 (ix (gI h 3654 189)) x2) 244 (ix (gI h 3654 189)) x3) 246 (ix (gI h 3654 189)) x4) 247 (ix (gI h 3654 189)) (gI h 3641 189)) 245 (ix (gI h 3654 189)) (gA h 199 (ix ((16 * (gI h 3597 189)) + (gA h 208 (ix ((60 * (gI h 3597 189)) + x4))))))) 252 (ix (gI h 3654 189)) 0)) (Q d 97 209 [some (.ref 189), some (.int x1), some (.int x2), some (.int x3), some (.int x4), some (.int (gI h 3654 189))]) [.int x2, .int x1, .ref 189, .int (gI h 3654 189), .ref 251] := by
  rw [← hs.1]
  exact (blkM (fun p => Nat.beq p 209) 85 58 _ _ _).trans rfl

set_option maxRecDepth 16384 in
theorem t_97_209 {d : Nat} {h : AH} (hs : Sh h) (x3 : Int32) (x5 : Int32) (u1 : Option Value) (u2 : Option Value) (u4 : Option Value) (s0 : Nat) (s1 : Int32) (s2 : Nat) (s3 : Int32) (s4 : Int32) (s5 : Int32) :
    Q d 97 209 [some (.ref 189), u1, u2, some (.int x3), u4, some (.int x5)] [.int s5, .int s4, .int s3, .ref s2, .int s1, .ref s0] h =
  (ck (gC h s2) 14 <|
  cK (E d 85 [.ref s2, .int s3, .int s4, .int s5] h) (Q d 97 212 [some (.ref 189), u1, u2, some (.int x3), u4, some (.int x5)]) [.int s1, .ref s0]) := by
  rw [← hs.1]
  exact (blkM (fun p => Nat.beq p 212) 2 209 _ _ _).trans rfl

set_option maxRecDepth 16384 in
theorem t_97_212 {d : Nat} {h : AH} (hs : Sh h) (x3 : Int32) (x5 : Int32) (u1 : Option Value) (u2 : Option Value) (u4 : Option Value) (s0 : Nat) (s1 : Int32) (s2 : Int32) :
    Q d 97 212 [some (.ref 189), u1, u2, some (.int x3), u4, some (.int x5)] [.int s2, .int s1, .ref s0] h =
  (cw (gC h s0) 60 s0 <|
  gd s1 (gK h s0) <|
  gd x5 200 <|
  cK (E d 98 [.ref 189, .int x5, .int x3] (sI (sA h s0 (ix s1) s2) 3667 189 ((gI h 3667 189) + (gA (sA h s0 (ix s1) s2) 251 (ix x5))))) (Q d 97 236 [some (.ref 189), u1, u2, some (.int x3), u4, some (.int x5)]) []) := by
  rw [← hs.1]
  exact (blkM (fun p => Nat.beq p 236) 15 212 _ _ _).trans rfl

set_option maxRecDepth 16384 in
theorem t_97_236 {d : Nat} {h : AH} (hs : Sh h) (x3 : Int32) (x5 : Int32) (u1 : Option Value) (u2 : Option Value) (u4 : Option Value) :
    Q d 97 236 [some (.ref 189), u1, u2, some (.int x3), u4, some (.int x5)] [] h =
  cK (E d 100 [.ref 189, .int x5, .int 0, .int x3] h) (Q d 97 244 [some (.ref 189), u1, u2, some (.int x3), u4, some (.int x5)]) [] := by
  rw [← hs.1]
  exact (blkM (fun p => Nat.beq p 244) 6 236 _ _ _).trans rfl

set_option maxRecDepth 16384 in
theorem t_97_244 {d : Nat} {h : AH} (hs : Sh h) (x5 : Int32) (u0 : Option Value) (u1 : Option Value) (u2 : Option Value) (u3 : Option Value) (u4 : Option Value) :
    Q d 97 244 [u0, u1, u2, u3, u4, some (.int x5)] [] h =
  some (some (.int x5), h) := by
  rw [← hs.1]
  exact (blkM (fun p => false) 3 244 _ _ _).trans rfl

/-! 98 PostRoomModel.shelve(II)V -/
set_option maxRecDepth 16384 in
theorem t_98 {d : Nat} {h : AH} (hs : Sh h) (x1 : Int32) (x2 : Int32) :
    E (d + 1) 98 [.ref 189, .int x1, .int x2] h =
  (gd x2 16 <|
  gd ((200 * x2) + (gA h 255 (ix x2))) 3200 <|
  gd x2 16 <|
  gd x2 16 <|
  cK (E d 99 [.ref 189, .int x1, .int 0, .int x2, .int (-1)] (sA (sA h 254 (ix ((200 * x2) + (gA h 255 (ix x2)))) x1) 255 (ix x2) ((gA h 255 (ix x2)) + 1))) (Q d 98 36 [some (.ref 189), some (.int x1), some (.int x2)]) []) := by
  rw [← hs.1]
  exact ent rfl ((blkM (fun p => Nat.beq p 36) 27 0 _ _ _).trans rfl)

set_option maxRecDepth 16384 in
theorem t_98_36 {d : Nat} {h : AH} (hs : Sh h) (u0 : Option Value) (u1 : Option Value) (u2 : Option Value) :
    Q d 98 36 [u0, u1, u2] [] h =
  some (none, h) := by
  rw [← hs.1]
  exact (blkM (fun p => false) 2 36 _ _ _).trans rfl

/-! 99 PostRoomModel.comes(IIII)V -/
set_option maxRecDepth 16384 in
theorem t_99 {d : Nat} {h : AH} (hs : Sh h) (x1 : Int32) (x2 : Int32) (x3 : Int32) (x4 : Int32) :
    E (d + 1) 99 [.ref 189, .int x1, .int x2, .int x3, .int x4] h =
  (gd x1 200 <|
  gd x1 200 <|
  gd x1 200 <|
  gd x1 200 <|
  some (none, sA (sA (sA (sA h 248 (ix x1) x2) 249 (ix x1) x3) 250 (ix x1) x4) 253 (ix x1) (gI h 3677 189))) := by
  rw [← hs.1]
  exact ent rfl ((blkM (fun p => false) 23 0 _ _ _).trans rfl)

/-! 100 PostRoomModel.note(III)V -/
set_option maxRecDepth 16384 in
theorem t_100 {d : Nat} {h : AH} (hs : Sh h) (x1 : Int32) (x2 : Int32) (x3 : Int32) :
    E (d + 1) 100 [.ref 189, .int x1, .int x2, .int x3] h =
  cK (E d 101 [.ref 189, .int x1] h) (Q d 100 5 [some (.ref 189), some (.int x1), some (.int x2), some (.int x3)]) [] := by
  rw [← hs.1]
  exact ent rfl ((blkM (fun p => Nat.beq p 5) 4 0 _ _ _).trans rfl)

set_option maxRecDepth 16384 in
theorem t_100_5 {d : Nat} {h : AH} (hs : Sh h) (x1 : Int32) (x2 : Int32) (x3 : Int32) (s0 : Int32) :
    Q d 100 5 [some (.ref 189), some (.int x1), some (.int x2), some (.int x3)] [.int s0] h =
  if s0 = 2 then
   some (none, sI h 3678 189 (((((((33 * ((gI h 3678 189).toInt64)) + x1.toInt64) + (8 * x2.toInt64)) + (64 * x3.toInt64)) + ((gI h 3677 189).toInt64)) - (((((33 * ((gI h 3678 189).toInt64)) + x1.toInt64) + (8 * x2.toInt64)) + (64 * x3.toInt64)) + ((gI h 3677 189).toInt64)) / 65521 * 65521).toInt32))
  else
   some (none, h) := by
  rw [← hs.1]
  exact (blkM (fun p => false) 31 5 _ _ _).trans rfl

/-! 101 PostRoomModel.sortOf(I)I -/
set_option maxRecDepth 16384 in
theorem t_101 {d : Nat} {h : AH} (hs : Sh h) (x1 : Int32) :
    E (d + 1) 101 [.ref 189, .int x1] h =
  (gd x1 200 <|
  gd ((8 * (gI h 3597 189)) + (gA h 242 (ix x1))) 16 <|
  some (some (.int (gA h 218 (ix ((8 * (gI h 3597 189)) + (gA h 242 (ix x1)))))), h)) := by
  rw [← hs.1]
  exact ent rfl ((blkM (fun p => false) 14 0 _ _ _).trans rfl)

/-! 102 PostRoomModel.tick(I)I -/
set_option maxRecDepth 16384 in
theorem t_102 {d : Nat} {h : AH} (hs : Sh h) (x1 : Int32) :
    E (d + 1) 102 [.ref 189, .int x1] h =
  if x1 < 0 then
   some (some (.int (-1)), sI h 3586 189 0)
  else
   if (3000 : Int32) < x1 then
    some (some (.int (-1)), sI h 3586 189 0)
   else
    Q d 102 20 [some (.ref 189), some (.int x1), some (.int 0), none] [] (sI h 3586 189 0) := by
  rw [← hs.1]
  exact ent rfl ((blkM (fun p => Nat.beq p 20) 12 0 _ _ _).trans rfl)

set_option maxRecDepth 16384 in
theorem t_102_20 {d : Nat} {h : AH} (hs : Sh h) (x1 : Int32) (x2 : Int32) :
    Q d 102 20 [some (.ref 189), some (.int x1), some (.int x2), none] [] h =
  if x2 < x1 then
   cK (E d 103 [.ref 189] (sI h 3677 189 ((gI h 3677 189) + 1))) (Q d 102 39 [some (.ref 189), some (.int x1), some (.int x2), none]) []
  else
   some (some (.int (gI h 3677 189)), h) := by
  rw [← hs.1]
  exact (blkM (fun p => Nat.beq p 39) 12 20 _ _ _).trans rfl

set_option maxRecDepth 16384 in
theorem t_102_39 {d : Nat} {h : AH} (hs : Sh h) (x1 : Int32) (x2 : Int32) (u3 : Option Value) :
    Q d 102 39 [some (.ref 189), some (.int x1), some (.int x2), u3] [] h =
  Q d 102 41 [some (.ref 189), some (.int x1), some (.int x2), some (.int 0)] [] h := by
  rw [← hs.1]
  exact (blkM (fun p => Nat.beq p 41) 4 39 _ _ _).trans rfl

set_option maxRecDepth 16384 in
theorem t_102_41 {d : Nat} {h : AH} (hs : Sh h) (x1 : Int32) (x2 : Int32) (x3 : Int32) :
    Q d 102 41 [some (.ref 189), some (.int x1), some (.int x2), some (.int x3)] [] h =
  (gd (gI h 3597 189) 2 <|
  if x3 < gA h 225 (ix (gI h 3597 189)) then
   gd x3 40 <|
   if (0 : Int32) < gA h 257 (ix x3) then
    cK (E d 104 [.ref 189, .int x3, .int ((gI h 3677 189) - 1)] h) (Q d 102 74 [some (.ref 189), some (.int x1), some (.int x2), some (.int x3)]) []
   else
    Q d 102 86 [some (.ref 189), some (.int x1), some (.int x2), some (.int x3)] [] h
  else
   Q d 102 20 [some (.ref 189), some (.int x1), some (.int (x2 + 1)), none] [] h) := by
  rw [← hs.1]
  exact (blkM (fun p => Nat.beq p 20 || Nat.beq p 74 || Nat.beq p 86) 20 41 _ _ _).trans rfl

set_option maxRecDepth 16384 in
theorem t_102_74 {d : Nat} {h : AH} (hs : Sh h) (x1 : Int32) (x2 : Int32) (x3 : Int32) (s0 : Int32) :
    Q d 102 74 [some (.ref 189), some (.int x1), some (.int x2), some (.int x3)] [.int s0] h =
  if s0 = gI h 3677 189 then
   cK (E d 105 [.ref 189, .int x3] h) (Q d 102 86 [some (.ref 189), some (.int x1), some (.int x2), some (.int x3)]) []
  else
   Q d 102 86 [some (.ref 189), some (.int x1), some (.int x2), some (.int x3)] [] h := by
  rw [← hs.1]
  exact (blkM (fun p => Nat.beq p 86) 7 74 _ _ _).trans rfl

set_option maxRecDepth 16384 in
theorem t_102_86 {d : Nat} {h : AH} (hs : Sh h) (x1 : Int32) (x2 : Int32) (x3 : Int32) :
    Q d 102 86 [some (.ref 189), some (.int x1), some (.int x2), some (.int x3)] [] h =
  Q d 102 41 [some (.ref 189), some (.int x1), some (.int x2), some (.int (x3 + 1))] [] h := by
  rw [← hs.1]
  exact (blkM (fun p => Nat.beq p 41) 4 86 _ _ _).trans rfl

/-! 103 PostRoomModel.arrive()V -/
set_option maxRecDepth 16384 in
theorem t_103 {d : Nat} {h : AH} (hs : Sh h)  :
    E (d + 1) 103 [.ref 189] h =
  Q d 103 4 [some (.ref 189), some (.int 0), some (.int 0), none, none] [] h := by
  rw [← hs.1]
  exact ent rfl ((blkM (fun p => Nat.beq p 4) 6 0 _ _ _).trans rfl)

set_option maxRecDepth 16384 in
theorem t_103_4 {d : Nat} {h : AH} (hs : Sh h) (x1 : Int32) (x2 : Int32) :
    Q d 103 4 [some (.ref 189), some (.int x1), some (.int x2), none, none] [] h =
  if x2 < gI h 3676 189 then
   gd x2 200 <|
   if gA h 261 (ix x2) = gI h 3677 189 then
    gd x2 200 <|
    gd ((40 * (gI h 3597 189)) + (gA h 260 (ix x2))) 80 <|
    Q d 103 48 [some (.ref 189), some (.int x1), some (.int x2), some (.int (gA h 227 (ix ((40 * (gI h 3597 189)) + (gA h 260 (ix x2)))))), some (.int 0)] [] h
   else
    Q d 103 105 [some (.ref 189), some (.int x1), some (.int x2), some (.int 0), none] [] h
  else
   some (none, sI h 3676 189 x1) := by
  rw [← hs.1]
  exact (blkM (fun p => Nat.beq p 48 || Nat.beq p 105) 28 4 _ _ _).trans rfl

set_option maxRecDepth 16384 in
theorem t_103_48 {d : Nat} {h : AH} (hs : Sh h) (x1 : Int32) (x2 : Int32) (x3 : Int32) (x4 : Int32) :
    Q d 103 48 [some (.ref 189), some (.int x1), some (.int x2), some (.int x3), some (.int x4)] [] h =
  (gd x2 200 <|
  if x4 < gA h 259 (ix x2) then
   gd ((20 * x2) + x4) 4000 <|
   cK (E d 98 [.ref 189, .int (gA h 258 (ix ((20 * x2) + x4))), .int x3] h) (Q d 103 76 [some (.ref 189), some (.int x1), some (.int x2), some (.int x3), some (.int x4)]) []
  else
   Q d 103 4 [some (.ref 189), some (.int x1), some (.int (x2 + 1)), none, none] [] h) := by
  rw [← hs.1]
  exact (blkM (fun p => Nat.beq p 4 || Nat.beq p 76) 18 48 _ _ _).trans rfl

set_option maxRecDepth 16384 in
theorem t_103_105 {d : Nat} {h : AH} (hs : Sh h) (x1 : Int32) (x2 : Int32) (x3 : Int32) :
    Q d 103 105 [some (.ref 189), some (.int x1), some (.int x2), some (.int x3), none] [] h =
  (gd x2 200 <|
  if x3 < gA h 259 (ix x2) then
   gd ((20 * x2) + x3) 4000 <|
   gd ((20 * x1) + x3) 4000 <|
   Q d 103 105 [some (.ref 189), some (.int x1), some (.int x2), some (.int (x3 + 1)), none] [] (sA h 258 (ix ((20 * x1) + x3)) (gA h 258 (ix ((20 * x2) + x3))))
  else
   gd x2 200 <|
   gd x1 200 <|
   gd x2 200 <|
   gd x1 200 <|
   gd x2 200 <|
   gd x1 200 <|
   Q d 103 4 [some (.ref 189), some (.int (x1 + 1)), some (.int (x2 + 1)), none, none] [] (sA (sA (sA h 259 (ix x1) (gA h 259 (ix x2))) 260 (ix x1) (gA h 260 (ix x2))) 261 (ix x1) (gA h 261 (ix x2)))) := by
  rw [← hs.1]
  exact (blkM (fun p => Nat.beq p 4 || Nat.beq p 105) 35 105 _ _ _).trans rfl

set_option maxRecDepth 16384 in
theorem t_103_76 {d : Nat} {h : AH} (hs : Sh h) (x1 : Int32) (x2 : Int32) (x3 : Int32) (x4 : Int32) :
    Q d 103 76 [some (.ref 189), some (.int x1), some (.int x2), some (.int x3), some (.int x4)] [] h =
  (gd ((20 * x2) + x4) 4000 <|
  cK (E d 100 [.ref 189, .int (gA h 258 (ix ((20 * x2) + x4))), .int 3, .int x3] h) (Q d 103 94 [some (.ref 189), some (.int x1), some (.int x2), some (.int x3), some (.int x4)]) []) := by
  rw [← hs.1]
  exact (blkM (fun p => Nat.beq p 94) 13 76 _ _ _).trans rfl

set_option maxRecDepth 16384 in
theorem t_103_94 {d : Nat} {h : AH} (hs : Sh h) (x1 : Int32) (x2 : Int32) (x3 : Int32) (x4 : Int32) :
    Q d 103 94 [some (.ref 189), some (.int x1), some (.int x2), some (.int x3), some (.int x4)] [] h =
  Q d 103 48 [some (.ref 189), some (.int x1), some (.int x2), some (.int x3), some (.int (x4 + 1))] [] h := by
  rw [← hs.1]
  exact (blkM (fun p => Nat.beq p 48) 4 94 _ _ _).trans rfl

/-! 104 PostRoomModel.goes(II)I -/
set_option maxRecDepth 16384 in
theorem t_104 {d : Nat} {h : AH} (hs : Sh h) (x1 : Int32) (x2 : Int32) :
    E (d + 1) 104 [.ref 189, .int x1, .int x2] h =
  (gd ((40 * (gI h 3597 189)) + x1) 80 <|
  if gA h 228 (ix ((40 * (gI h 3597 189)) + x1)) < (x2 + 1) - (x2 + 1) / 1440 * 1440 then
   gd ((40 * (gI h 3597 189)) + x1) 80 <|
   gd ((40 * (gI h 3597 189)) + x1) 80 <|
   gd ((40 * (gI h 3597 189)) + x1) 80 <|
   if gA h 229 (ix ((40 * (gI h 3597 189)) + x1)) = 0 then
    none
   else
    gd ((40 * (gI h 3597 189)) + x1) 80 <|
    gd ((40 * (gI h 3597 189)) + x1) 80 <|
    gd ((40 * (gI h 3597 189)) + x1) 80 <|
    if gA h 230 (ix ((40 * (gI h 3597 189)) + x1)) < (gA h 228 (ix ((40 * (gI h 3597 189)) + x1))) + (((((((x2 + 1) - (x2 + 1) / 1440 * 1440) - (gA h 228 (ix ((40 * (gI h 3597 189)) + x1)))) + (gA h 229 (ix ((40 * (gI h 3597 189)) + x1)))) - 1) / (gA h 229 (ix ((40 * (gI h 3597 189)) + x1)))) * (gA h 229 (ix ((40 * (gI h 3597 189)) + x1)))) then
     gd ((40 * (gI h 3597 189)) + x1) 80 <|
     some (some (.int ((1440 * (((x2 + 1) / 1440) + 1)) + (gA h 228 (ix ((40 * (gI h 3597 189)) + x1))))), h)
    else
     some (some (.int ((1440 * ((x2 + 1) / 1440)) + ((gA h 228 (ix ((40 * (gI h 3597 189)) + x1))) + (((((((x2 + 1) - (x2 + 1) / 1440 * 1440) - (gA h 228 (ix ((40 * (gI h 3597 189)) + x1)))) + (gA h 229 (ix ((40 * (gI h 3597 189)) + x1)))) - 1) / (gA h 229 (ix ((40 * (gI h 3597 189)) + x1)))) * (gA h 229 (ix ((40 * (gI h 3597 189)) + x1))))))), h)
  else
   gd ((40 * (gI h 3597 189)) + x1) 80 <|
   some (some (.int ((1440 * ((x2 + 1) / 1440)) + (gA h 228 (ix ((40 * (gI h 3597 189)) + x1))))), h)) := by
  rw [← hs.1]
  exact ent rfl ((blkM (fun p => false) 74 0 _ _ _).trans rfl)

/-! 105 PostRoomModel.depart(I)V -/
set_option maxRecDepth 16384 in
theorem t_105 {d : Nat} {h : AH} (hs : Sh h) (x1 : Int32) :
    E (d + 1) 105 [.ref 189, .int x1] h =
  (gd x1 40 <|
  gd ((40 * (gI h 3597 189)) + x1) 80 <|
  cK (E d 78 [.int (gA h 257 (ix x1)), .int (gA h 232 (ix ((40 * (gI h 3597 189)) + x1)))] h) (Q d 105 25 [some (.ref 189), some (.int x1), some (.int ((40 * (gI h 3597 189)) + x1)), none, none, none]) []) := by
  rw [← hs.1]
  exact ent rfl ((blkM (fun p => Nat.beq p 25) 17 0 _ _ _).trans rfl)

set_option maxRecDepth 16384 in
theorem t_105_25 {d : Nat} {h : AH} (hs : Sh h) (x1 : Int32) (x2 : Int32) (u3 : Option Value) (u4 : Option Value) (u5 : Option Value) (s0 : Int32) :
    Q d 105 25 [some (.ref 189), some (.int x1), some (.int x2), u3, u4, u5] [.int s0] h =
  Q d 105 29 [some (.ref 189), some (.int x1), some (.int x2), some (.int s0), some (.int 0), none] [] h := by
  rw [← hs.1]
  exact (blkM (fun p => Nat.beq p 29) 5 25 _ _ _).trans rfl

set_option maxRecDepth 16384 in
theorem t_105_29 {d : Nat} {h : AH} (hs : Sh h) (x1 : Int32) (x2 : Int32) (x3 : Int32) (x4 : Int32) :
    Q d 105 29 [some (.ref 189), some (.int x1), some (.int x2), some (.int x3), some (.int x4), none] [] h =
  if x4 < x3 then
   gd ((200 * x1) + x4) 8000 <|
   gd ((20 * (gI h 3676 189)) + x4) 4000 <|
   gd x2 80 <|
   cK (E d 99 [.ref 189, .int (gA h 256 (ix ((200 * x1) + x4))), .int 2, .int (gA h 227 (ix x2)), .int x1] (sA h 258 (ix ((20 * (gI h 3676 189)) + x4)) (gA h 256 (ix ((200 * x1) + x4))))) (Q d 105 81 [some (.ref 189), some (.int x1), some (.int x2), some (.int x3), some (.int x4), some (.int (gA h 256 (ix ((200 * x1) + x4))))]) []
  else
   gd x1 40 <|
   gd x1 40 <|
   Q d 105 113 [some (.ref 189), some (.int x1), some (.int x2), some (.int x3), some (.int 0), none] [] (sA h 257 (ix x1) ((gA h 257 (ix x1)) - x3)) := by
  rw [← hs.1]
  exact (blkM (fun p => Nat.beq p 81 || Nat.beq p 113) 32 29 _ _ _).trans rfl

set_option maxRecDepth 16384 in
theorem t_105_81 {d : Nat} {h : AH} (hs : Sh h) (x1 : Int32) (x2 : Int32) (x3 : Int32) (x4 : Int32) (x5 : Int32) :
    Q d 105 81 [some (.ref 189), some (.int x1), some (.int x2), some (.int x3), some (.int x4), some (.int x5)] [] h =
  (gd x2 80 <|
  cK (E d 100 [.ref 189, .int x5, .int 2, .int (gA h 226 (ix x2))] h) (Q d 105 94 [some (.ref 189), some (.int x1), some (.int x2), some (.int x3), some (.int x4), some (.int x5)]) []) := by
  rw [← hs.1]
  exact (blkM (fun p => Nat.beq p 94) 9 81 _ _ _).trans rfl

set_option maxRecDepth 16384 in
theorem t_105_113 {d : Nat} {h : AH} (hs : Sh h) (x1 : Int32) (x2 : Int32) (x3 : Int32) (x4 : Int32) :
    Q d 105 113 [some (.ref 189), some (.int x1), some (.int x2), some (.int x3), some (.int x4), none] [] h =
  (gd x1 40 <|
  if x4 < gA h 257 (ix x1) then
   gd (((200 * x1) + x3) + x4) 8000 <|
   gd ((200 * x1) + x4) 8000 <|
   Q d 105 113 [some (.ref 189), some (.int x1), some (.int x2), some (.int x3), some (.int (x4 + 1)), none] [] (sA h 256 (ix ((200 * x1) + x4)) (gA h 256 (ix (((200 * x1) + x3) + x4))))
  else
   gd (gI h 3676 189) 200 <|
   gd (gI h 3676 189) 200 <|
   gd x2 80 <|
   gd (gI h 3676 189) 200 <|
   some (none, sI (sA (sA (sA h 259 (ix (gI h 3676 189)) x3) 260 (ix (gI h 3676 189)) x1) 261 (ix (gI h 3676 189)) ((gI h 3677 189) + (gA h 231 (ix x2)))) 3676 189 ((gI h 3676 189) + 1))) := by
  rw [← hs.1]
  exact (blkM (fun p => Nat.beq p 113) 38 113 _ _ _).trans rfl

set_option maxRecDepth 16384 in
theorem t_105_94 {d : Nat} {h : AH} (hs : Sh h) (x1 : Int32) (x2 : Int32) (x3 : Int32) (x4 : Int32) (u5 : Option Value) :
    Q d 105 94 [some (.ref 189), some (.int x1), some (.int x2), some (.int x3), some (.int x4), u5] [] h =
  Q d 105 29 [some (.ref 189), some (.int x1), some (.int x2), some (.int x3), some (.int (x4 + 1)), none] [] h := by
  rw [← hs.1]
  exact (blkM (fun p => Nat.beq p 29) 4 94 _ _ _).trans rfl

/-! 106 PostRoomModel.way(II)I -/
set_option maxRecDepth 16384 in
theorem t_106 {d : Nat} {h : AH} (hs : Sh h) (x1 : Int32) (x2 : Int32) :
    E (d + 1) 106 [.ref 189, .int x1, .int x2] h =
  cK (E d 82 [.ref 189, .int x1] h) (Q d 106 6 [some (.ref 189), some (.int x1), some (.int x2)]) [.ref 189] := by
  rw [← hs.1]
  exact ent rfl ((blkM (fun p => Nat.beq p 6) 5 0 _ _ _).trans rfl)

set_option maxRecDepth 16384 in
theorem t_106_6 {d : Nat} {h : AH} (hs : Sh h) (x1 : Int32) (x2 : Int32) (s0 : Nat) (s1 : Int32) :
    Q d 106 6 [some (.ref 189), some (.int x1), some (.int x2)] [.int s1, .ref s0] h =
  if s1 = 0 then
   ck (gC h s0) 14 <|
   if (0 : Int32) < gI (sI h 3586 s0 1) 3586 189 then
    some (some (.int 0), sI h 3586 s0 1)
   else
    if x1 = x2 then
     some (some (.int (-1)), sI h 3586 s0 1)
    else
     cK (E d 107 [.ref 189, .int x1] (sI h 3586 s0 1)) (Q d 106 46 [some (.ref 189), some (.int x1), some (.int x2)]) []
  else
   cK (E d 82 [.ref 189, .int x2] h) (Q d 106 14 [some (.ref 189), some (.int x1), some (.int x2)]) [.ref s0] := by
  rw [← hs.1]
  exact (blkM (fun p => Nat.beq p 14 || Nat.beq p 46) 13 6 _ _ _).trans rfl

set_option maxRecDepth 16384 in
theorem t_106_14 {d : Nat} {h : AH} (hs : Sh h) (x1 : Int32) (x2 : Int32) (s0 : Nat) (s1 : Int32) :
    Q d 106 14 [some (.ref 189), some (.int x1), some (.int x2)] [.int s1, .ref s0] h =
  if s1 = 0 then
   ck (gC h s0) 14 <|
   if (0 : Int32) < gI (sI h 3586 s0 1) 3586 189 then
    some (some (.int 0), sI h 3586 s0 1)
   else
    if x1 = x2 then
     some (some (.int (-1)), sI h 3586 s0 1)
    else
     cK (E d 107 [.ref 189, .int x1] (sI h 3586 s0 1)) (Q d 106 46 [some (.ref 189), some (.int x1), some (.int x2)]) []
  else
   ck (gC h s0) 14 <|
   if (0 : Int32) < gI (sI h 3586 s0 0) 3586 189 then
    some (some (.int 0), sI h 3586 s0 0)
   else
    if x1 = x2 then
     some (some (.int (-1)), sI h 3586 s0 0)
    else
     cK (E d 107 [.ref 189, .int x1] (sI h 3586 s0 0)) (Q d 106 46 [some (.ref 189), some (.int x1), some (.int x2)]) [] := by
  rw [← hs.1]
  exact (blkM (fun p => Nat.beq p 46) 14 14 _ _ _).trans rfl

set_option maxRecDepth 16384 in
theorem t_106_46 {d : Nat} {h : AH} (hs : Sh h) (x2 : Int32) (u1 : Option Value) :
    Q d 106 46 [some (.ref 189), u1, some (.int x2)] [] h =
  (gd x2 16 <|
  if gA h 262 (ix x2) < 0 then
   some (some (.int (-1)), h)
  else
   gd x2 16 <|
   some (some (.int (gA h 263 (ix x2))), h)) := by
  rw [← hs.1]
  exact (blkM (fun p => false) 11 46 _ _ _).trans rfl

/-! 107 PostRoomModel.findWays(I)V -/
set_option maxRecDepth 16384 in
theorem t_107 {d : Nat} {h : AH} (hs : Sh h) (x1 : Int32) :
    E (d + 1) 107 [.ref 189, .int x1] h =
  if gI h 3679 189 = x1 then
   if gI h 3680 189 = gI h 3677 189 then
    some (none, h)
   else
    Q d 107 35 [some (.ref 189), some (.int x1), some (.int 0), none] [] (sI (sI h 3679 189 x1) 3680 189 (gI h 3677 189))
  else
   Q d 107 35 [some (.ref 189), some (.int x1), some (.int 0), none] [] (sI (sI h 3679 189 x1) 3680 189 (gI h 3677 189)) := by
  rw [← hs.1]
  exact ent rfl ((blkM (fun p => Nat.beq p 35) 20 0 _ _ _).trans rfl)

set_option maxRecDepth 16384 in
theorem t_107_35 {d : Nat} {h : AH} (hs : Sh h) (x1 : Int32) (x2 : Int32) :
    Q d 107 35 [some (.ref 189), some (.int x1), some (.int x2), none] [] h =
  if x2 < 16 then
   gd x2 16 <|
   gd x2 16 <|
   Q d 107 35 [some (.ref 189), some (.int x1), some (.int (x2 + 1)), none] [] (sA (sA h 262 (ix x2) (-1)) 263 (ix x2) ((gI h 3677 189) + 20161))
  else
   Q d 107 70 [some (.ref 189), some (.int x1), some (.int 0), none] [] h := by
  rw [← hs.1]
  exact (blkM (fun p => Nat.beq p 35 || Nat.beq p 70) 20 35 _ _ _).trans rfl

set_option maxRecDepth 16384 in
theorem t_107_70 {d : Nat} {h : AH} (hs : Sh h) (x1 : Int32) (x2 : Int32) :
    Q d 107 70 [some (.ref 189), some (.int x1), some (.int x2), none] [] h =
  (gd (gI h 3597 189) 2 <|
  if x2 < gA h 225 (ix (gI h 3597 189)) then
   gd ((40 * (gI h 3597 189)) + x2) 80 <|
   if gA h 226 (ix ((40 * (gI h 3597 189)) + x2)) = x1 then
    cK (E d 108 [.ref 189, .int x2] h) (Q d 107 109 [some (.ref 189), some (.int x1), some (.int x2), none]) []
   else
    Q d 107 70 [some (.ref 189), some (.int x1), some (.int (x2 + 1)), none] [] h
  else
   some (none, h)) := by
  rw [← hs.1]
  exact (blkM (fun p => Nat.beq p 70 || Nat.beq p 109) 23 70 _ _ _).trans rfl

set_option maxRecDepth 16384 in
theorem t_107_109 {d : Nat} {h : AH} (hs : Sh h) (x1 : Int32) (x2 : Int32) (u3 : Option Value) :
    Q d 107 109 [some (.ref 189), some (.int x1), some (.int x2), u3] [] h =
  Q d 107 111 [some (.ref 189), some (.int x1), some (.int x2), some (.int 0)] [] h := by
  rw [← hs.1]
  exact (blkM (fun p => Nat.beq p 111) 4 109 _ _ _).trans rfl

set_option maxRecDepth 16384 in
theorem t_107_111 {d : Nat} {h : AH} (hs : Sh h) (x1 : Int32) (x2 : Int32) (x3 : Int32) :
    Q d 107 111 [some (.ref 189), some (.int x1), some (.int x2), some (.int x3)] [] h =
  (gd (gI h 3597 189) 2 <|
  if x3 < gA h 197 (ix (gI h 3597 189)) then
   if x3 = x1 then
    Q d 107 111 [some (.ref 189), some (.int x1), some (.int x2), some (.int (x3 + 1))] [] h
   else
    gd x3 16 <|
    gd x3 16 <|
    if gA h 264 (ix x3) < gA h 263 (ix x3) then
     gd x3 16 <|
     gd x3 16 <|
     gd x3 16 <|
     Q d 107 111 [some (.ref 189), some (.int x1), some (.int x2), some (.int (x3 + 1))] [] (sA (sA h 263 (ix x3) (gA h 264 (ix x3))) 262 (ix x3) x2)
    else
     Q d 107 111 [some (.ref 189), some (.int x1), some (.int x2), some (.int (x3 + 1))] [] h
  else
   Q d 107 70 [some (.ref 189), some (.int x1), some (.int (x2 + 1)), none] [] h) := by
  rw [← hs.1]
  exact (blkM (fun p => Nat.beq p 70 || Nat.beq p 111) 36 111 _ _ _).trans rfl

/-! 108 PostRoomModel.goOn(I)V -/
set_option maxRecDepth 16384 in
theorem t_108 {d : Nat} {h : AH} (hs : Sh h) (x1 : Int32) :
    E (d + 1) 108 [.ref 189, .int x1] h =
  Q d 108 2 [some (.ref 189), some (.int x1), some (.int 0), none, none, none] [] h := by
  rw [← hs.1]
  exact ent rfl ((blkM (fun p => Nat.beq p 2) 4 0 _ _ _).trans rfl)

set_option maxRecDepth 16384 in
theorem t_108_2 {d : Nat} {h : AH} (hs : Sh h) (x1 : Int32) (x2 : Int32) :
    Q d 108 2 [some (.ref 189), some (.int x1), some (.int x2), none, none, none] [] h =
  if x2 < 16 then
   gd x2 16 <|
   Q d 108 2 [some (.ref 189), some (.int x1), some (.int (x2 + 1)), none, none, none] [] (sA h 264 (ix x2) 2000000000)
  else
   gd ((40 * (gI h 3597 189)) + x1) 80 <|
   cK (E d 104 [.ref 189, .int x1, .int (gI h 3677 189)] h) (Q d 108 50 [some (.ref 189), some (.int x1), some (.int x2), none, none, none]) [.int (gA h 227 (ix ((40 * (gI h 3597 189)) + x1))), .ref 264] := by
  rw [← hs.1]
  exact (blkM (fun p => Nat.beq p 2 || Nat.beq p 50) 20 2 _ _ _).trans rfl

set_option maxRecDepth 16384 in
theorem t_108_50 {d : Nat} {h : AH} (hs : Sh h) (x1 : Int32) (u2 : Option Value) (u3 : Option Value) (u4 : Option Value) (u5 : Option Value) (s0 : Nat) (s1 : Int32) (s2 : Int32) :
    Q d 108 50 [some (.ref 189), some (.int x1), u2, u3, u4, u5] [.int s2, .int s1, .ref s0] h =
  (gd ((40 * (gI h 3597 189)) + x1) 80 <|
  cw (gC h s0) 60 s0 <|
  gd s1 (gK h s0) <|
  Q d 108 68 [some (.ref 189), none, some (.int 1), none, none, none] [] (sA h s0 (ix s1) (s2 + (gA h 231 (ix ((40 * (gI h 3597 189)) + x1)))))) := by
  rw [← hs.1]
  exact (blkM (fun p => Nat.beq p 68) 15 50 _ _ _).trans rfl

set_option maxRecDepth 16384 in
theorem t_108_68 {d : Nat} {h : AH} (hs : Sh h) (x2 : Int32) :
    Q d 108 68 [some (.ref 189), none, some (.int x2), none, none, none] [] h =
  if x2 = 0 then
   some (none, h)
  else
   Q d 108 76 [some (.ref 189), none, some (.int 0), some (.int 0), none, none] [] h := by
  rw [← hs.1]
  exact (blkM (fun p => Nat.beq p 76) 8 68 _ _ _).trans rfl

set_option maxRecDepth 16384 in
theorem t_108_76 {d : Nat} {h : AH} (hs : Sh h) (x2 : Int32) (x3 : Int32) :
    Q d 108 76 [some (.ref 189), none, some (.int x2), some (.int x3), none, none] [] h =
  (gd (gI h 3597 189) 2 <|
  if x3 < gA h 225 (ix (gI h 3597 189)) then
   gd ((40 * (gI h 3597 189)) + x3) 80 <|
   gd (gA h 226 (ix ((40 * (gI h 3597 189)) + x3))) 16 <|
   if gA h 264 (ix (gA h 226 (ix ((40 * (gI h 3597 189)) + x3)))) = 2000000000 then
    Q d 108 76 [some (.ref 189), none, some (.int x2), some (.int (x3 + 1)), none, none] [] h
   else
    gd ((40 * (gI h 3597 189)) + x3) 80 <|
    gd (gA h 226 (ix ((40 * (gI h 3597 189)) + x3))) 16 <|
    cK (E d 104 [.ref 189, .int x3, .int (gA h 264 (ix (gA h 226 (ix ((40 * (gI h 3597 189)) + x3)))))] h) (Q d 108 138 [some (.ref 189), none, some (.int x2), some (.int x3), some (.int ((40 * (gI h 3597 189)) + x3)), none]) []
  else
   Q d 108 68 [some (.ref 189), none, some (.int x2), none, none, none] [] h) := by
  rw [← hs.1]
  exact (blkM (fun p => Nat.beq p 68 || Nat.beq p 76 || Nat.beq p 138) 34 76 _ _ _).trans rfl

set_option maxRecDepth 16384 in
theorem t_108_138 {d : Nat} {h : AH} (hs : Sh h) (x2 : Int32) (x3 : Int32) (x4 : Int32) (u1 : Option Value) (u5 : Option Value) (s0 : Int32) :
    Q d 108 138 [some (.ref 189), u1, some (.int x2), some (.int x3), some (.int x4), u5] [.int s0] h =
  (gd x4 80 <|
  gd x4 80 <|
  gd (gA h 227 (ix x4)) 16 <|
  if s0 + (gA h 231 (ix x4)) < gA h 264 (ix (gA h 227 (ix x4))) then
   gd x4 80 <|
   gd (gA h 227 (ix x4)) 16 <|
   Q d 108 76 [some (.ref 189), none, some (.int 1), some (.int (x3 + 1)), none, none] [] (sA h 264 (ix (gA h 227 (ix x4))) (s0 + (gA h 231 (ix x4))))
  else
   Q d 108 76 [some (.ref 189), none, some (.int x2), some (.int (x3 + 1)), none, none] [] h) := by
  rw [← hs.1]
  exact (blkM (fun p => Nat.beq p 76) 29 138 _ _ _).trans rfl

/-! 109 PostRoomModel.sort(I)I -/
set_option maxRecDepth 16384 in
theorem t_109 {d : Nat} {h : AH} (hs : Sh h) (x1 : Int32) :
    E (d + 1) 109 [.ref 189, .int x1] h =
  cK (E d 82 [.ref 189, .int x1] (sI h 3586 189 0)) (Q d 109 10 [some (.ref 189), some (.int x1), none, none, none, none]) [] := by
  rw [← hs.1]
  exact ent rfl ((blkM (fun p => Nat.beq p 10) 7 0 _ _ _).trans rfl)

set_option maxRecDepth 16384 in
theorem t_109_10 {d : Nat} {h : AH} (hs : Sh h) (x1 : Int32) (u2 : Option Value) (u3 : Option Value) (u4 : Option Value) (u5 : Option Value) (s0 : Int32) :
    Q d 109 10 [some (.ref 189), some (.int x1), u2, u3, u4, u5] [.int s0] h =
  if s0 = 0 then
   some (some (.int (-1)), h)
  else
   cK (E d 107 [.ref 189, .int x1] h) (Q d 109 20 [some (.ref 189), some (.int x1), u2, u3, u4, u5]) [] := by
  rw [← hs.1]
  exact (blkM (fun p => Nat.beq p 20) 5 10 _ _ _).trans rfl

set_option maxRecDepth 16384 in
theorem t_109_20 {d : Nat} {h : AH} (hs : Sh h) (x1 : Int32) (u2 : Option Value) (u3 : Option Value) (u4 : Option Value) (u5 : Option Value) :
    Q d 109 20 [some (.ref 189), some (.int x1), u2, u3, u4, u5] [] h =
  Q d 109 24 [some (.ref 189), some (.int x1), some (.int 0), some (.int 0), none, none] [] h := by
  rw [← hs.1]
  exact (blkM (fun p => Nat.beq p 24) 6 20 _ _ _).trans rfl

set_option maxRecDepth 16384 in
theorem t_109_24 {d : Nat} {h : AH} (hs : Sh h) (x1 : Int32) (x2 : Int32) (x3 : Int32) :
    Q d 109 24 [some (.ref 189), some (.int x1), some (.int x2), some (.int x3), none, none] [] h =
  (gd x1 16 <|
  if x3 < gA h 255 (ix x1) then
   gd ((200 * x1) + x3) 3200 <|
   cK (E d 110 [.ref 189, .int (gA h 254 (ix ((200 * x1) + x3)))] h) (Q d 109 54 [some (.ref 189), some (.int x1), some (.int x2), some (.int x3), some (.int (gA h 254 (ix ((200 * x1) + x3)))), none]) []
  else
   some (some (.int x2), h)) := by
  rw [← hs.1]
  exact (blkM (fun p => Nat.beq p 54) 19 24 _ _ _).trans rfl

set_option maxRecDepth 16384 in
theorem t_109_54 {d : Nat} {h : AH} (hs : Sh h) (x1 : Int32) (x2 : Int32) (x3 : Int32) (x4 : Int32) (u5 : Option Value) (s0 : Int32) :
    Q d 109 54 [some (.ref 189), some (.int x1), some (.int x2), some (.int x3), some (.int x4), u5] [.int s0] h =
  if s0 = x1 then
   Q d 109 24 [some (.ref 189), some (.int x1), some (.int x2), some (.int (x3 + 1)), none, none] [] h
  else
   gd s0 16 <|
   if gA h 262 (ix s0) < 0 then
    Q d 109 24 [some (.ref 189), some (.int x1), some (.int x2), some (.int (x3 + 1)), none, none] [] h
   else
    gd s0 16 <|
    cK (E d 111 [.ref 189, .int x4, .int (gA h 262 (ix s0))] h) (Q d 109 85 [some (.ref 189), some (.int x1), some (.int x2), some (.int x3), some (.int x4), some (.int s0)]) [] := by
  rw [← hs.1]
  exact (blkM (fun p => Nat.beq p 24 || Nat.beq p 85) 17 54 _ _ _).trans rfl

set_option maxRecDepth 16384 in
theorem t_109_85 {d : Nat} {h : AH} (hs : Sh h) (x1 : Int32) (x2 : Int32) (x3 : Int32) (u4 : Option Value) (u5 : Option Value) :
    Q d 109 85 [some (.ref 189), some (.int x1), some (.int x2), some (.int x3), u4, u5] [] h =
  Q d 109 24 [some (.ref 189), some (.int x1), some (.int (x2 + 1)), some (.int x3), none, none] [] h := by
  rw [← hs.1]
  exact (blkM (fun p => Nat.beq p 24) 5 85 _ _ _).trans rfl

/-! 110 PostRoomModel.goesTo(I)I -/
set_option maxRecDepth 16384 in
theorem t_110 {d : Nat} {h : AH} (hs : Sh h) (x1 : Int32) :
    E (d + 1) 110 [.ref 189, .int x1] h =
  (gd x1 200 <|
  if gA h 246 (ix x1) < 0 then
   gd x1 200 <|
   some (some (.int (gA h 244 (ix x1))), h)
  else
   gd x1 200 <|
   gd ((60 * (gI h 3597 189)) + (gA h 246 (ix x1))) 120 <|
   some (some (.int (gA h 208 (ix ((60 * (gI h 3597 189)) + (gA h 246 (ix x1)))))), h)) := by
  rw [← hs.1]
  exact ent rfl ((blkM (fun p => false) 19 0 _ _ _).trans rfl)

/-! 111 PostRoomModel.intoBag(II)V -/
set_option maxRecDepth 16384 in
theorem t_111 {d : Nat} {h : AH} (hs : Sh h) (x1 : Int32) (x2 : Int32) :
    E (d + 1) 111 [.ref 189, .int x1, .int x2] h =
  (gd ((40 * (gI h 3597 189)) + x2) 80 <|
  cK (E d 112 [.ref 189, .int (gA h 226 (ix ((40 * (gI h 3597 189)) + x2))), .int x1] h) (Q d 111 21 [some (.ref 189), some (.int x1), some (.int x2), some (.int (gA h 226 (ix ((40 * (gI h 3597 189)) + x2))))]) []) := by
  rw [← hs.1]
  exact ent rfl ((blkM (fun p => Nat.beq p 21) 15 0 _ _ _).trans rfl)

set_option maxRecDepth 16384 in
theorem t_111_21 {d : Nat} {h : AH} (hs : Sh h) (x1 : Int32) (x2 : Int32) (x3 : Int32) :
    Q d 111 21 [some (.ref 189), some (.int x1), some (.int x2), some (.int x3)] [] h =
  (gd x2 40 <|
  gd ((200 * x2) + (gA h 257 (ix x2))) 8000 <|
  gd x2 40 <|
  gd x2 40 <|
  cK (E d 99 [.ref 189, .int x1, .int 1, .int x3, .int x2] (sA (sA h 256 (ix ((200 * x2) + (gA h 257 (ix x2)))) x1) 257 (ix x2) ((gA h 257 (ix x2)) + 1))) (Q d 111 57 [some (.ref 189), some (.int x1), some (.int x2), some (.int x3)]) []) := by
  rw [← hs.1]
  exact (blkM (fun p => Nat.beq p 57) 27 21 _ _ _).trans rfl

set_option maxRecDepth 16384 in
theorem t_111_57 {d : Nat} {h : AH} (hs : Sh h) (x1 : Int32) (x3 : Int32) (u2 : Option Value) :
    Q d 111 57 [some (.ref 189), some (.int x1), u2, some (.int x3)] [] h =
  cK (E d 100 [.ref 189, .int x1, .int 1, .int x3] h) (Q d 111 64 [some (.ref 189), some (.int x1), u2, some (.int x3)]) [] := by
  rw [← hs.1]
  exact (blkM (fun p => Nat.beq p 64) 6 57 _ _ _).trans rfl

set_option maxRecDepth 16384 in
theorem t_111_64 {d : Nat} {h : AH} (hs : Sh h) (u0 : Option Value) (u1 : Option Value) (u2 : Option Value) (u3 : Option Value) :
    Q d 111 64 [u0, u1, u2, u3] [] h =
  some (none, h) := by
  rw [← hs.1]
  exact (blkM (fun p => false) 2 64 _ _ _).trans rfl

/-! 112 PostRoomModel.unshelve(II)V -/
set_option maxRecDepth 16384 in
theorem t_112 {d : Nat} {h : AH} (hs : Sh h) (x1 : Int32) (x2 : Int32) :
    E (d + 1) 112 [.ref 189, .int x1, .int x2] h =
  cK (E d 113 [.ref 189, .int x1, .int x2] h) (Q d 112 6 [some (.ref 189), some (.int x1), some (.int x2), none, none]) [] := by
  rw [← hs.1]
  exact ent rfl ((blkM (fun p => Nat.beq p 6) 5 0 _ _ _).trans rfl)

set_option maxRecDepth 16384 in
theorem t_112_6 {d : Nat} {h : AH} (hs : Sh h) (x1 : Int32) (u2 : Option Value) (u3 : Option Value) (u4 : Option Value) (s0 : Int32) :
    Q d 112 6 [some (.ref 189), some (.int x1), u2, u3, u4] [.int s0] h =
  (gd x1 16 <|
  gd x1 16 <|
  Q d 112 20 [some (.ref 189), some (.int x1), none, none, some (.int s0)] [] (sA h 255 (ix x1) ((gA h 255 (ix x1)) - 1))) := by
  rw [← hs.1]
  exact (blkM (fun p => Nat.beq p 20) 13 6 _ _ _).trans rfl

set_option maxRecDepth 16384 in
theorem t_112_20 {d : Nat} {h : AH} (hs : Sh h) (x1 : Int32) (x4 : Int32) :
    Q d 112 20 [some (.ref 189), some (.int x1), none, none, some (.int x4)] [] h =
  (gd x1 16 <|
  if x4 < gA h 255 (ix x1) then
   gd (((200 * x1) + x4) + 1) 3200 <|
   gd ((200 * x1) + x4) 3200 <|
   Q d 112 20 [some (.ref 189), some (.int x1), none, none, some (.int (x4 + 1))] [] (sA h 254 (ix ((200 * x1) + x4)) (gA h 254 (ix (((200 * x1) + x4) + 1))))
  else
   some (none, h)) := by
  rw [← hs.1]
  exact (blkM (fun p => Nat.beq p 20) 28 20 _ _ _).trans rfl

/-! 113 PostRoomModel.placeOn(II)I -/
set_option maxRecDepth 16384 in
theorem t_113 {d : Nat} {h : AH} (hs : Sh h) (x1 : Int32) (x2 : Int32) :
    E (d + 1) 113 [.ref 189, .int x1, .int x2] h =
  Q d 113 5 [some (.ref 189), some (.int x1), some (.int x2), some (.int (-1)), some (.int 0)] [] h := by
  rw [← hs.1]
  exact ent rfl ((blkM (fun p => Nat.beq p 5) 6 0 _ _ _).trans rfl)

set_option maxRecDepth 16384 in
theorem t_113_5 {d : Nat} {h : AH} (hs : Sh h) (x1 : Int32) (x2 : Int32) (x3 : Int32) (x4 : Int32) :
    Q d 113 5 [some (.ref 189), some (.int x1), some (.int x2), some (.int x3), some (.int x4)] [] h =
  (gd x1 16 <|
  if x4 < gA h 255 (ix x1) then
   gd ((200 * x1) + x4) 3200 <|
   if gA h 254 (ix ((200 * x1) + x4)) = x2 then
    Q d 113 5 [some (.ref 189), some (.int x1), some (.int x2), some (.int x4), some (.int (x4 + 1))] [] h
   else
    Q d 113 5 [some (.ref 189), some (.int x1), some (.int x2), some (.int x3), some (.int (x4 + 1))] [] h
  else
   some (some (.int x3), h)) := by
  rw [← hs.1]
  exact (blkM (fun p => Nat.beq p 5) 23 5 _ _ _).trans rfl

/-! 114 PostRoomModel.moved(II)Z -/
set_option maxRecDepth 16384 in
theorem t_114 {d : Nat} {h : AH} (hs : Sh h) (x1 : Int32) (x2 : Int32) :
    E (d + 1) 114 [.ref 189, .int x1, .int x2] h =
  cK (E d 36 [.ref 189] (sI h 3586 189 0)) (Q d 114 9 [some (.ref 189), some (.int x1), some (.int x2), none]) [] := by
  rw [← hs.1]
  exact ent rfl ((blkM (fun p => Nat.beq p 9) 6 0 _ _ _).trans rfl)

set_option maxRecDepth 16384 in
theorem t_114_9 {d : Nat} {h : AH} (hs : Sh h) (x1 : Int32) (x2 : Int32) (u3 : Option Value) :
    Q d 114 9 [some (.ref 189), some (.int x1), some (.int x2), u3] [] h =
  cK (E d 63 [.ref 189] h) (Q d 114 13 [some (.ref 189), some (.int x1), some (.int x2), u3]) [] := by
  rw [← hs.1]
  exact (blkM (fun p => Nat.beq p 13) 3 9 _ _ _).trans rfl

set_option maxRecDepth 16384 in
theorem t_114_13 {d : Nat} {h : AH} (hs : Sh h) (x1 : Int32) (x2 : Int32) (u3 : Option Value) (s0 : Int32) :
    Q d 114 13 [some (.ref 189), some (.int x1), some (.int x2), u3] [.int s0] h =
  if s0 < 0 then
   some (some (.int 0), h)
  else
   if s0 = x1 then
    if gI h 3641 189 = x2 then
     some (some (.int 0), h)
    else
     cK (E d 115 [.ref 189, .int x1, .int x2, .int s0, .int (gI h 3641 189)] h) (Q d 114 44 [some (.ref 189), some (.int x1), some (.int x2), some (.int s0)]) []
   else
    cK (E d 115 [.ref 189, .int x1, .int x2, .int s0, .int (gI h 3641 189)] h) (Q d 114 44 [some (.ref 189), some (.int x1), some (.int x2), some (.int s0)]) [] := by
  rw [← hs.1]
  exact (blkM (fun p => Nat.beq p 44) 18 13 _ _ _).trans rfl

set_option maxRecDepth 16384 in
theorem t_114_44 {d : Nat} {h : AH} (hs : Sh h) (u0 : Option Value) (u1 : Option Value) (u2 : Option Value) (u3 : Option Value) (s0 : Int32) :
    Q d 114 44 [u0, u1, u2, u3] [.int s0] h =
  if s0 = 0 ∨ s0 = 1 then
   some (some (.int s0), h)
  else
   none := by
  rw [← hs.1]
  exact (blkM (fun p => false) 2 44 _ _ _).trans rfl

/-! 115 PostRoomModel.move(IIII)Z -/
set_option maxRecDepth 16384 in
theorem t_115 {d : Nat} {h : AH} (hs : Sh h) (x1 : Int32) (x2 : Int32) (x3 : Int32) (x4 : Int32) :
    E (d + 1) 115 [.ref 189, .int x1, .int x2, .int x3, .int x4] h =
  if x1 < 0 then
   some (some (.int 0), h)
  else
   gd (gI h 3597 189) 2 <|
   if x1 < gA h 205 (ix (gI h 3597 189)) then
    if x2 < 27 then
     some (some (.int 0), h)
    else
     if (26999 : Int32) < x2 then
      some (some (.int 0), h)
     else
      cK (E d 116 [.ref 189, .int x1, .int x2] h) (Q d 115 38 [some (.ref 189), some (.int x1), some (.int x2), some (.int x3), some (.int x4), none]) []
   else
    some (some (.int 0), h) := by
  rw [← hs.1]
  exact ent rfl ((blkM (fun p => Nat.beq p 38) 20 0 _ _ _).trans rfl)

set_option maxRecDepth 16384 in
theorem t_115_38 {d : Nat} {h : AH} (hs : Sh h) (x1 : Int32) (x2 : Int32) (x3 : Int32) (x4 : Int32) (u5 : Option Value) (s0 : Int32) :
    Q d 115 38 [some (.ref 189), some (.int x1), some (.int x2), some (.int x3), some (.int x4), u5] [.int s0] h =
  if s0 < 0 then
   if gI h 3688 189 = 40 then
    some (some (.int 0), h)
   else
    if s0 < 0 then
     gd (gI h 3688 189) 40 <|
     gd (gI h 3688 189) 40 <|
     gd (gI h 3688 189) 40 <|
     gd (gI h 3688 189) 40 <|
     some (some (.int 1), sA (sA (sA (sA (sI h 3688 189 ((gI h 3688 189) + 1)) 265 (ix (gI h 3688 189)) x1) 266 (ix (gI h 3688 189)) x2) 267 (ix (gI h 3688 189)) x3) 268 (ix (gI h 3688 189)) x4)
    else
     gd s0 40 <|
     gd s0 40 <|
     gd s0 40 <|
     gd s0 40 <|
     some (some (.int 1), sA (sA (sA (sA h 265 (ix s0) x1) 266 (ix s0) x2) 267 (ix s0) x3) 268 (ix s0) x4)
  else
   if s0 < 0 then
    gd (gI h 3688 189) 40 <|
    gd (gI h 3688 189) 40 <|
    gd (gI h 3688 189) 40 <|
    gd (gI h 3688 189) 40 <|
    some (some (.int 1), sA (sA (sA (sA (sI h 3688 189 ((gI h 3688 189) + 1)) 265 (ix (gI h 3688 189)) x1) 266 (ix (gI h 3688 189)) x2) 267 (ix (gI h 3688 189)) x3) 268 (ix (gI h 3688 189)) x4)
   else
    gd s0 40 <|
    gd s0 40 <|
    gd s0 40 <|
    gd s0 40 <|
    some (some (.int 1), sA (sA (sA (sA h 265 (ix s0) x1) 266 (ix s0) x2) 267 (ix s0) x3) 268 (ix s0) x4) := by
  rw [← hs.1]
  exact (blkM (fun p => false) 41 38 _ _ _).trans rfl

/-! 116 PostRoomModel.movedAt(II)I -/
set_option maxRecDepth 16384 in
theorem t_116 {d : Nat} {h : AH} (hs : Sh h) (x1 : Int32) (x2 : Int32) :
    E (d + 1) 116 [.ref 189, .int x1, .int x2] h =
  Q d 116 5 [some (.ref 189), some (.int x1), some (.int x2), some (.int (-1)), some (.int 0)] [] h := by
  rw [← hs.1]
  exact ent rfl ((blkM (fun p => Nat.beq p 5) 6 0 _ _ _).trans rfl)

set_option maxRecDepth 16384 in
theorem t_116_5 {d : Nat} {h : AH} (hs : Sh h) (x1 : Int32) (x2 : Int32) (x3 : Int32) (x4 : Int32) :
    Q d 116 5 [some (.ref 189), some (.int x1), some (.int x2), some (.int x3), some (.int x4)] [] h =
  if x4 < gI h 3688 189 then
   gd x4 40 <|
   if gA h 265 (ix x4) = x1 then
    gd x4 40 <|
    if gA h 266 (ix x4) = x2 then
     Q d 116 5 [some (.ref 189), some (.int x1), some (.int x2), some (.int x4), some (.int (x4 + 1))] [] h
    else
     Q d 116 5 [some (.ref 189), some (.int x1), some (.int x2), some (.int x3), some (.int (x4 + 1))] [] h
   else
    Q d 116 5 [some (.ref 189), some (.int x1), some (.int x2), some (.int x3), some (.int (x4 + 1))] [] h
  else
   some (some (.int x3), h) := by
  rw [← hs.1]
  exact (blkM (fun p => Nat.beq p 5) 23 5 _ _ _).trans rfl

/-! 117 PostRoomModel.gone(II)Z -/
set_option maxRecDepth 16384 in
theorem t_117 {d : Nat} {h : AH} (hs : Sh h) (x1 : Int32) (x2 : Int32) :
    E (d + 1) 117 [.ref 189, .int x1, .int x2] h =
  cK (E d 115 [.ref 189, .int x1, .int x2, .int (-1), .int 0] (sI h 3586 189 0)) (Q d 117 13 [some (.ref 189), some (.int x1), some (.int x2)]) [] := by
  rw [← hs.1]
  exact ent rfl ((blkM (fun p => Nat.beq p 13) 10 0 _ _ _).trans rfl)

set_option maxRecDepth 16384 in
theorem t_117_13 {d : Nat} {h : AH} (hs : Sh h) (u0 : Option Value) (u1 : Option Value) (u2 : Option Value) (s0 : Int32) :
    Q d 117 13 [u0, u1, u2] [.int s0] h =
  if s0 = 0 ∨ s0 = 1 then
   some (some (.int s0), h)
  else
   none := by
  rw [← hs.1]
  exact (blkM (fun p => false) 2 13 _ _ _).trans rfl

/-! 118 PostRoomModel.deliver(II)I -/
set_option maxRecDepth 16384 in
theorem t_118 {d : Nat} {h : AH} (hs : Sh h) (x1 : Int32) (x2 : Int32) :
    E (d + 1) 118 [.ref 189, .int x1, .int x2] h =
  cK (E d 82 [.ref 189, .int x1] (sI h 3586 189 0)) (Q d 118 10 [some (.ref 189), some (.int x1), some (.int x2), none, none, none, none, none, none]) [] := by
  rw [← hs.1]
  exact ent rfl ((blkM (fun p => Nat.beq p 10) 7 0 _ _ _).trans rfl)

set_option maxRecDepth 16384 in
theorem t_118_10 {d : Nat} {h : AH} (hs : Sh h) (x1 : Int32) (x2 : Int32) (u3 : Option Value) (u4 : Option Value) (u5 : Option Value) (u6 : Option Value) (u7 : Option Value) (u8 : Option Value) (s0 : Int32) :
    Q d 118 10 [some (.ref 189), some (.int x1), some (.int x2), u3, u4, u5, u6, u7, u8] [.int s0] h =
  if s0 = 0 then
   some (some (.int (-2)), h)
  else
   if x2 < 0 then
    some (some (.int (-2)), h)
   else
    if (10 : Int32) < x2 then
     some (some (.int (-2)), h)
    else
     if x2 = 10 then
      cK (E d 119 [.ref 189, .int x1] h) (Q d 118 37 [some (.ref 189), some (.int x1), some (.int x2), u3, u4, u5, u6, u7, u8]) []
     else
      gd x1 16 <|
      cK (E d 120 [.ref 189, .int x1, .int x2] h) (Q d 118 51 [some (.ref 189), some (.int x1), some (.int x2), some (.int (gA h 255 (ix x1))), u4, u5, u6, u7, u8]) [] := by
  rw [← hs.1]
  exact (blkM (fun p => Nat.beq p 37 || Nat.beq p 51) 19 10 _ _ _).trans rfl

set_option maxRecDepth 16384 in
theorem t_118_37 {d : Nat} {h : AH} (hs : Sh h) (u0 : Option Value) (u1 : Option Value) (u2 : Option Value) (u3 : Option Value) (u4 : Option Value) (u5 : Option Value) (u6 : Option Value) (u7 : Option Value) (u8 : Option Value) (s0 : Int32) :
    Q d 118 37 [u0, u1, u2, u3, u4, u5, u6, u7, u8] [.int s0] h =
  some (some (.int s0), h) := by
  rw [← hs.1]
  exact (blkM (fun p => false) 2 37 _ _ _).trans rfl

set_option maxRecDepth 16384 in
theorem t_118_51 {d : Nat} {h : AH} (hs : Sh h) (x1 : Int32) (x3 : Int32) (u2 : Option Value) (u4 : Option Value) (u5 : Option Value) (u6 : Option Value) (u7 : Option Value) (u8 : Option Value) :
    Q d 118 51 [some (.ref 189), some (.int x1), u2, some (.int x3), u4, u5, u6, u7, u8] [] h =
  if gI h 3691 189 = 0 then
   some (some (.int (-1)), h)
  else
   cK (E d 125 [.ref 189, .int x1] h) (Q d 118 65 [some (.ref 189), some (.int x1), u2, some (.int x3), u4, u5, u6, u7, u8]) [] := by
  rw [← hs.1]
  exact (blkM (fun p => Nat.beq p 65) 7 51 _ _ _).trans rfl

set_option maxRecDepth 16384 in
theorem t_118_65 {d : Nat} {h : AH} (hs : Sh h) (x1 : Int32) (x3 : Int32) (u2 : Option Value) (u4 : Option Value) (u5 : Option Value) (u6 : Option Value) (u7 : Option Value) (u8 : Option Value) :
    Q d 118 65 [some (.ref 189), some (.int x1), u2, some (.int x3), u4, u5, u6, u7, u8] [] h =
  Q d 118 75 [some (.ref 189), some (.int x1), none, some (.int x3), some (.int 0), some (.int 8), some (.int 0), none, none] [] h := by
  rw [← hs.1]
  exact (blkM (fun p => Nat.beq p 75) 8 65 _ _ _).trans rfl

set_option maxRecDepth 16384 in
theorem t_118_75 {d : Nat} {h : AH} (hs : Sh h) (x1 : Int32) (x3 : Int32) (x4 : Int32) (x5 : Int32) (x6 : Int32) :
    Q d 118 75 [some (.ref 189), some (.int x1), none, some (.int x3), some (.int x4), some (.int x5), some (.int x6), none, none] [] h =
  if x6 < gI h 3691 189 then
   Q d 118 87 [some (.ref 189), some (.int x1), none, some (.int x3), some (.int x4), some (.int x5), some (.int x6), some (.int 0), none] [] h
  else
   some (some (.int (gA h 273 8)), h) := by
  rw [← hs.1]
  exact (blkM (fun p => Nat.beq p 87) 10 75 _ _ _).trans rfl

set_option maxRecDepth 16384 in
theorem t_118_87 {d : Nat} {h : AH} (hs : Sh h) (x1 : Int32) (x3 : Int32) (x4 : Int32) (x5 : Int32) (x6 : Int32) (x7 : Int32) :
    Q d 118 87 [some (.ref 189), some (.int x1), none, some (.int x3), some (.int x4), some (.int x5), some (.int x6), some (.int x7), none] [] h =
  if (x4 >>> (x7 &&& 31)) &&& 1 = 1 then
   Q d 118 87 [some (.ref 189), some (.int x1), none, some (.int x3), some (.int x4), some (.int x5), some (.int x6), some (.int (x7 + 1)), none] [] h
  else
   cK (E d 126 [.ref 189, .int x5, .int x7] h) (Q d 118 106 [some (.ref 189), some (.int x1), none, some (.int x3), some (.int x4), some (.int x5), some (.int x6), some (.int x7), none]) [] := by
  rw [← hs.1]
  exact (blkM (fun p => Nat.beq p 87 || Nat.beq p 106) 12 87 _ _ _).trans rfl

set_option maxRecDepth 16384 in
theorem t_118_106 {d : Nat} {h : AH} (hs : Sh h) (x1 : Int32) (x3 : Int32) (x4 : Int32) (x5 : Int32) (x6 : Int32) (x7 : Int32) (u2 : Option Value) (u8 : Option Value) (s0 : Int32) :
    Q d 118 106 [some (.ref 189), some (.int x1), u2, some (.int x3), some (.int x4), some (.int x5), some (.int x6), some (.int x7), u8] [.int s0] h =
  (gd ((9 * (x4 ||| ((1 : Int32) <<< (x7 &&& 31)))) + x7) 2304 <|
  gd ((9 * x4) + x5) 2304 <|
  if s0 + (gA h 273 (ix ((9 * (x4 ||| ((1 : Int32) <<< (x7 &&& 31)))) + x7))) = gA h 273 (ix ((9 * x4) + x5)) then
   Q d 118 150 [some (.ref 189), some (.int x1), none, some (.int x3), some (.int x4), none, some (.int x6), some (.int x7), some (.int 0)] [] h
  else
   Q d 118 87 [some (.ref 189), some (.int x1), none, some (.int x3), some (.int x4), some (.int x5), some (.int x6), some (.int (x7 + 1)), none] [] h) := by
  rw [← hs.1]
  exact (blkM (fun p => Nat.beq p 87 || Nat.beq p 150) 26 106 _ _ _).trans rfl

set_option maxRecDepth 16384 in
theorem t_118_150 {d : Nat} {h : AH} (hs : Sh h) (x1 : Int32) (x3 : Int32) (x4 : Int32) (x6 : Int32) (x7 : Int32) (x8 : Int32) :
    Q d 118 150 [some (.ref 189), some (.int x1), none, some (.int x3), some (.int x4), none, some (.int x6), some (.int x7), some (.int x8)] [] h =
  if x8 < x3 then
   gd x8 200 <|
   if gA h 271 (ix x8) = x7 then
    gd x8 200 <|
    cK (E d 112 [.ref 189, .int x1, .int (gA h 272 (ix x8))] h) (Q d 118 180 [some (.ref 189), some (.int x1), none, some (.int x3), some (.int x4), none, some (.int x6), some (.int x7), some (.int x8)]) []
   else
    Q d 118 207 [some (.ref 189), some (.int x1), none, some (.int x3), some (.int x4), none, some (.int x6), some (.int x7), some (.int x8)] [] h
  else
   Q d 118 75 [some (.ref 189), some (.int x1), none, some (.int x3), some (.int (x4 ||| ((1 : Int32) <<< (x7 &&& 31)))), some (.int x7), some (.int (x6 + 1)), none, none] [] h := by
  rw [← hs.1]
  exact (blkM (fun p => Nat.beq p 75 || Nat.beq p 180 || Nat.beq p 207) 17 150 _ _ _).trans rfl

set_option maxRecDepth 16384 in
theorem t_118_180 {d : Nat} {h : AH} (hs : Sh h) (x1 : Int32) (x3 : Int32) (x4 : Int32) (x6 : Int32) (x7 : Int32) (x8 : Int32) (u2 : Option Value) (u5 : Option Value) :
    Q d 118 180 [some (.ref 189), some (.int x1), u2, some (.int x3), some (.int x4), u5, some (.int x6), some (.int x7), some (.int x8)] [] h =
  (gd x8 200 <|
  cK (E d 99 [.ref 189, .int (gA h 272 (ix x8)), .int 3, .int x1, .int (-1)] h) (Q d 118 194 [some (.ref 189), some (.int x1), u2, some (.int x3), some (.int x4), u5, some (.int x6), some (.int x7), some (.int x8)]) []) := by
  rw [← hs.1]
  exact (blkM (fun p => Nat.beq p 194) 10 180 _ _ _).trans rfl

set_option maxRecDepth 16384 in
theorem t_118_207 {d : Nat} {h : AH} (hs : Sh h) (x1 : Int32) (x3 : Int32) (x4 : Int32) (x6 : Int32) (x7 : Int32) (x8 : Int32) :
    Q d 118 207 [some (.ref 189), some (.int x1), none, some (.int x3), some (.int x4), none, some (.int x6), some (.int x7), some (.int x8)] [] h =
  Q d 118 150 [some (.ref 189), some (.int x1), none, some (.int x3), some (.int x4), none, some (.int x6), some (.int x7), some (.int (x8 + 1))] [] h := by
  rw [← hs.1]
  exact (blkM (fun p => Nat.beq p 150) 4 207 _ _ _).trans rfl

set_option maxRecDepth 16384 in
theorem t_118_194 {d : Nat} {h : AH} (hs : Sh h) (x1 : Int32) (x3 : Int32) (x4 : Int32) (x6 : Int32) (x7 : Int32) (x8 : Int32) (u2 : Option Value) (u5 : Option Value) :
    Q d 118 194 [some (.ref 189), some (.int x1), u2, some (.int x3), some (.int x4), u5, some (.int x6), some (.int x7), some (.int x8)] [] h =
  (gd x8 200 <|
  cK (E d 100 [.ref 189, .int (gA h 272 (ix x8)), .int 4, .int x1] h) (Q d 118 207 [some (.ref 189), some (.int x1), none, some (.int x3), some (.int x4), none, some (.int x6), some (.int x7), some (.int x8)]) []) := by
  rw [← hs.1]
  exact (blkM (fun p => Nat.beq p 207) 9 194 _ _ _).trans rfl

/-! 119 PostRoomModel.deliverBack(I)I -/
set_option maxRecDepth 16384 in
theorem t_119 {d : Nat} {h : AH} (hs : Sh h) (x1 : Int32) :
    E (d + 1) 119 [.ref 189, .int x1] h =
  Q d 119 4 [some (.ref 189), some (.int x1), some (.int 0), some (.int 0), none] [] h := by
  rw [← hs.1]
  exact ent rfl ((blkM (fun p => Nat.beq p 4) 6 0 _ _ _).trans rfl)

set_option maxRecDepth 16384 in
theorem t_119_4 {d : Nat} {h : AH} (hs : Sh h) (x1 : Int32) (x2 : Int32) (x3 : Int32) :
    Q d 119 4 [some (.ref 189), some (.int x1), some (.int x2), some (.int x3), none] [] h =
  (gd x1 16 <|
  if x3 < gA h 255 (ix x1) then
   gd ((200 * x1) + x3) 3200 <|
   gd (gA h 254 (ix ((200 * x1) + x3))) 200 <|
   if gA h 246 (ix (gA h 254 (ix ((200 * x1) + x3)))) < 0 then
    gd (gA h 254 (ix ((200 * x1) + x3))) 200 <|
    if gA h 244 (ix (gA h 254 (ix ((200 * x1) + x3)))) = x1 then
     cK (E d 112 [.ref 189, .int x1, .int (gA h 254 (ix ((200 * x1) + x3)))] h) (Q d 119 56 [some (.ref 189), some (.int x1), some (.int x2), some (.int x3), some (.int (gA h 254 (ix ((200 * x1) + x3))))]) []
    else
     Q d 119 4 [some (.ref 189), some (.int x1), some (.int x2), some (.int (x3 + 1)), none] [] h
   else
    Q d 119 4 [some (.ref 189), some (.int x1), some (.int x2), some (.int (x3 + 1)), none] [] h
  else
   some (some (.int x2), h)) := by
  rw [← hs.1]
  exact (blkM (fun p => Nat.beq p 4 || Nat.beq p 56) 31 4 _ _ _).trans rfl

set_option maxRecDepth 16384 in
theorem t_119_56 {d : Nat} {h : AH} (hs : Sh h) (x1 : Int32) (x2 : Int32) (x3 : Int32) (x4 : Int32) :
    Q d 119 56 [some (.ref 189), some (.int x1), some (.int x2), some (.int x3), some (.int x4)] [] h =
  cK (E d 99 [.ref 189, .int x4, .int 4, .int x1, .int (-1)] h) (Q d 119 65 [some (.ref 189), some (.int x1), some (.int x2), some (.int x3), some (.int x4)]) [] := by
  rw [← hs.1]
  exact (blkM (fun p => Nat.beq p 65) 7 56 _ _ _).trans rfl

set_option maxRecDepth 16384 in
theorem t_119_65 {d : Nat} {h : AH} (hs : Sh h) (x1 : Int32) (x2 : Int32) (x3 : Int32) (x4 : Int32) :
    Q d 119 65 [some (.ref 189), some (.int x1), some (.int x2), some (.int x3), some (.int x4)] [] h =
  cK (E d 100 [.ref 189, .int x4, .int 5, .int x1] h) (Q d 119 73 [some (.ref 189), some (.int x1), some (.int x2), some (.int x3), some (.int x4)]) [] := by
  rw [← hs.1]
  exact (blkM (fun p => Nat.beq p 73) 6 65 _ _ _).trans rfl

set_option maxRecDepth 16384 in
theorem t_119_73 {d : Nat} {h : AH} (hs : Sh h) (x1 : Int32) (x2 : Int32) (x3 : Int32) (u4 : Option Value) :
    Q d 119 73 [some (.ref 189), some (.int x1), some (.int x2), some (.int x3), u4] [] h =
  Q d 119 4 [some (.ref 189), some (.int x1), some (.int (x2 + 1)), some (.int x3), none] [] h := by
  rw [← hs.1]
  exact (blkM (fun p => Nat.beq p 4) 5 73 _ _ _).trans rfl

/-! 120 PostRoomModel.takeStops(II)V -/
set_option maxRecDepth 16384 in
theorem t_120 {d : Nat} {h : AH} (hs : Sh h) (x1 : Int32) (x2 : Int32) :
    E (d + 1) 120 [.ref 189, .int x1, .int x2] h =
  Q d 120 7 [some (.ref 189), some (.int x1), some (.int x2), some (.int 0), none, none, none] [] (sI h 3691 189 0) := by
  rw [← hs.1]
  exact ent rfl ((blkM (fun p => Nat.beq p 7) 7 0 _ _ _).trans rfl)

set_option maxRecDepth 16384 in
theorem t_120_7 {d : Nat} {h : AH} (hs : Sh h) (x1 : Int32) (x2 : Int32) (x3 : Int32) :
    Q d 120 7 [some (.ref 189), some (.int x1), some (.int x2), some (.int x3), none, none, none] [] h =
  (gd x1 16 <|
  if x3 < gA h 255 (ix x1) then
   gd ((200 * x1) + x3) 3200 <|
   gd (gA h 254 (ix ((200 * x1) + x3))) 200 <|
   gd x3 200 <|
   gd x3 200 <|
   if gA h 246 (ix (gA h 254 (ix ((200 * x1) + x3)))) < 0 then
    Q d 120 7 [some (.ref 189), some (.int x1), some (.int x2), some (.int (x3 + 1)), none, none, none] [] (sA (sA h 272 (ix x3) (gA h 254 (ix ((200 * x1) + x3)))) 271 (ix x3) (-1))
   else
    gd ((60 * (gI h 3597 189)) + (gA h 246 (ix (gA h 254 (ix ((200 * x1) + x3)))))) 120 <|
    if gA h 208 (ix ((60 * (gI h 3597 189)) + (gA h 246 (ix (gA h 254 (ix ((200 * x1) + x3))))))) = x1 then
     gd ((60 * (gI h 3597 189)) + (gA h 246 (ix (gA h 254 (ix ((200 * x1) + x3)))))) 120 <|
     if gA h 215 (ix ((60 * (gI h 3597 189)) + (gA h 246 (ix (gA h 254 (ix ((200 * x1) + x3))))))) = x2 then
      gd (gA h 254 (ix ((200 * x1) + x3))) 200 <|
      cK (E d 116 [.ref 189, .int (gA h 246 (ix (gA h 254 (ix ((200 * x1) + x3))))), .int (gA h 247 (ix (gA h 254 (ix ((200 * x1) + x3)))))] (sA (sA h 272 (ix x3) (gA h 254 (ix ((200 * x1) + x3)))) 271 (ix x3) (-1))) (Q d 120 114 [some (.ref 189), some (.int x1), some (.int x2), some (.int x3), some (.int (gA h 254 (ix ((200 * x1) + x3)))), some (.int (gA h 246 (ix (gA h 254 (ix ((200 * x1) + x3)))))), none]) []
     else
      Q d 120 7 [some (.ref 189), some (.int x1), some (.int x2), some (.int (x3 + 1)), none, none, none] [] (sA (sA h 272 (ix x3) (gA h 254 (ix ((200 * x1) + x3)))) 271 (ix x3) (-1))
    else
     Q d 120 7 [some (.ref 189), some (.int x1), some (.int x2), some (.int (x3 + 1)), none, none, none] [] (sA (sA h 272 (ix x3) (gA h 254 (ix ((200 * x1) + x3)))) 271 (ix x3) (-1))
  else
   some (none, h)) := by
  rw [← hs.1]
  exact (blkM (fun p => Nat.beq p 7 || Nat.beq p 114) 62 7 _ _ _).trans rfl

set_option maxRecDepth 16384 in
theorem t_120_114 {d : Nat} {h : AH} (hs : Sh h) (x1 : Int32) (x2 : Int32) (x3 : Int32) (x4 : Int32) (x5 : Int32) (u6 : Option Value) (s0 : Int32) :
    Q d 120 114 [some (.ref 189), some (.int x1), some (.int x2), some (.int x3), some (.int x4), some (.int x5), u6] [.int s0] h =
  if s0 < 0 then
   gd x4 200 <|
   cK (E d 122 [.ref 189, .int x5, .int (gA h 247 (ix x4))] h) (Q d 120 152 [some (.ref 189), some (.int x1), some (.int x2), some (.int x3), some (.int x4), some (.int x5), some (.int s0)]) [.ref 189, .int x3, .ref 271]
  else
   cK (E d 121 [.ref 189, .int x4, .int s0, .int x1] h) (Q d 120 130 [some (.ref 189), some (.int x1), some (.int x2), some (.int x3), some (.int x4), some (.int x5), some (.int s0)]) [] := by
  rw [← hs.1]
  exact (blkM (fun p => Nat.beq p 130 || Nat.beq p 152) 15 114 _ _ _).trans rfl

set_option maxRecDepth 16384 in
theorem t_120_130 {d : Nat} {h : AH} (hs : Sh h) (x1 : Int32) (x2 : Int32) (x3 : Int32) (u4 : Option Value) (u5 : Option Value) (u6 : Option Value) :
    Q d 120 130 [some (.ref 189), some (.int x1), some (.int x2), some (.int x3), u4, u5, u6] [] h =
  Q d 120 7 [some (.ref 189), some (.int x1), some (.int x2), some (.int (x3 + 1)), none, none, none] [] h := by
  rw [← hs.1]
  exact (blkM (fun p => Nat.beq p 7) 5 130 _ _ _).trans rfl

set_option maxRecDepth 16384 in
theorem t_120_152 {d : Nat} {h : AH} (hs : Sh h) (x1 : Int32) (x2 : Int32) (x3 : Int32) (x4 : Int32) (x5 : Int32) (u6 : Option Value) (s0 : Nat) (s1 : Int32) (s2 : Nat) (s3 : Int32) :
    Q d 120 152 [some (.ref 189), some (.int x1), some (.int x2), some (.int x3), some (.int x4), some (.int x5), u6] [.int s3, .ref s2, .int s1, .ref s0] h =
  (gd x4 200 <|
  cK (E d 123 [.ref 189, .int x5, .int (gA h 247 (ix x4))] h) (Q d 120 165 [some (.ref 189), some (.int x1), some (.int x2), some (.int x3), some (.int x4), some (.int x5), u6]) [.int s3, .ref s2, .int s1, .ref s0]) := by
  rw [← hs.1]
  exact (blkM (fun p => Nat.beq p 165) 8 152 _ _ _).trans rfl

set_option maxRecDepth 16384 in
theorem t_120_165 {d : Nat} {h : AH} (hs : Sh h) (x1 : Int32) (x2 : Int32) (x3 : Int32) (u4 : Option Value) (u5 : Option Value) (u6 : Option Value) (s0 : Nat) (s1 : Int32) (s2 : Nat) (s3 : Int32) (s4 : Int32) :
    Q d 120 165 [some (.ref 189), some (.int x1), some (.int x2), some (.int x3), u4, u5, u6] [.int s4, .int s3, .ref s2, .int s1, .ref s0] h =
  (ck (gC h s2) 14 <|
  cK (E d 124 [.ref s2, .int s3, .int s4] h) (Q d 120 168 [some (.ref 189), some (.int x1), some (.int x2), some (.int x3), u4, u5, u6]) [.int s1, .ref s0]) := by
  rw [← hs.1]
  exact (blkM (fun p => Nat.beq p 168) 2 165 _ _ _).trans rfl

set_option maxRecDepth 16384 in
theorem t_120_168 {d : Nat} {h : AH} (hs : Sh h) (x1 : Int32) (x2 : Int32) (x3 : Int32) (u4 : Option Value) (u5 : Option Value) (u6 : Option Value) (s0 : Nat) (s1 : Int32) (s2 : Int32) :
    Q d 120 168 [some (.ref 189), some (.int x1), some (.int x2), some (.int x3), u4, u5, u6] [.int s2, .int s1, .ref s0] h =
  (cw (gC h s0) 60 s0 <|
  gd s1 (gK h s0) <|
  Q d 120 7 [some (.ref 189), some (.int x1), some (.int x2), some (.int (x3 + 1)), none, none, none] [] (sA h s0 (ix s1) s2)) := by
  rw [← hs.1]
  exact (blkM (fun p => Nat.beq p 7) 5 168 _ _ _).trans rfl

/-! 121 PostRoomModel.sendAfter(III)V -/
set_option maxRecDepth 16384 in
theorem t_121 {d : Nat} {h : AH} (hs : Sh h) (x1 : Int32) (x2 : Int32) (x3 : Int32) :
    E (d + 1) 121 [.ref 189, .int x1, .int x2, .int x3] h =
  (gd x2 40 <|
  if gA h 267 (ix x2) < 0 then
   gd x1 200 <|
   cK (E d 100 [.ref 189, .int x1, .int 7, .int x3] (sA h 246 (ix x1) (-1))) (Q d 121 79 [none, none, none, none]) []
  else
   gd x1 200 <|
   if gA h 252 (ix x1) < 2 then
    gd x2 40 <|
    gd x1 200 <|
    gd x2 40 <|
    gd x1 200 <|
    gd x1 200 <|
    gd x1 200 <|
    cK (E d 100 [.ref 189, .int x1, .int 6, .int x3] (sA (sA (sA h 246 (ix x1) (gA h 267 (ix x2))) 247 (ix x1) (gA h 268 (ix x2))) 252 (ix x1) ((gA h 252 (ix x1)) + 1))) (Q d 121 61 [some (.ref 189), some (.int x1), some (.int x2), some (.int x3)]) []
   else
    gd x1 200 <|
    cK (E d 100 [.ref 189, .int x1, .int 7, .int x3] (sA h 246 (ix x1) (-1))) (Q d 121 79 [none, none, none, none]) []) := by
  rw [← hs.1]
  exact ent rfl ((blkM (fun p => Nat.beq p 61 || Nat.beq p 79) 41 0 _ _ _).trans rfl)

set_option maxRecDepth 16384 in
theorem t_121_61 {d : Nat} {h : AH} (hs : Sh h) (u0 : Option Value) (u1 : Option Value) (u2 : Option Value) (u3 : Option Value) :
    Q d 121 61 [u0, u1, u2, u3] [] h =
  Q d 121 79 [none, none, none, none] [] h := by
  rw [← hs.1]
  exact (blkM (fun p => Nat.beq p 79) 3 61 _ _ _).trans rfl

set_option maxRecDepth 16384 in
theorem t_121_79 {d : Nat} {h : AH} (hs : Sh h)  :
    Q d 121 79 [none, none, none, none] [] h =
  some (none, h) := by
  rw [← hs.1]
  exact (blkM (fun p => false) 2 79 _ _ _).trans rfl

/-! 122 PostRoomModel.doorX(II)I -/
set_option maxRecDepth 16384 in
theorem t_122 {d : Nat} {h : AH} (hs : Sh h) (x1 : Int32) (x2 : Int32) :
    E (d + 1) 122 [.ref 189, .int x1, .int x2] h =
  (gd ((60 * (gI h 3597 189)) + x1) 120 <|
  gd ((60 * (gI h 3597 189)) + x1) 120 <|
  gd ((60 * (gI h 3597 189)) + x1) 120 <|
  if gA h 214 (ix ((60 * (gI h 3597 189)) + x1)) = 0 then
   some (some (.int ((gA h 212 (ix ((60 * (gI h 3597 189)) + x1))) + ((x2 / 27) - (gA h 210 (ix ((60 * (gI h 3597 189)) + x1)))))), h)
  else
   gd ((60 * (gI h 3597 189)) + x1) 120 <|
   if gA h 214 (ix ((60 * (gI h 3597 189)) + x1)) = 2 then
    some (some (.int ((gA h 212 (ix ((60 * (gI h 3597 189)) + x1))) + (-((x2 / 27) - (gA h 210 (ix ((60 * (gI h 3597 189)) + x1))))))), h)
   else
    some (some (.int ((gA h 212 (ix ((60 * (gI h 3597 189)) + x1))) + 0)), h)) := by
  rw [← hs.1]
  exact ent rfl ((blkM (fun p => false) 37 0 _ _ _).trans rfl)

/-! 123 PostRoomModel.doorY(II)I -/
set_option maxRecDepth 16384 in
theorem t_123 {d : Nat} {h : AH} (hs : Sh h) (x1 : Int32) (x2 : Int32) :
    E (d + 1) 123 [.ref 189, .int x1, .int x2] h =
  (gd ((60 * (gI h 3597 189)) + x1) 120 <|
  gd ((60 * (gI h 3597 189)) + x1) 120 <|
  gd ((60 * (gI h 3597 189)) + x1) 120 <|
  if gA h 214 (ix ((60 * (gI h 3597 189)) + x1)) = 1 then
   some (some (.int ((gA h 213 (ix ((60 * (gI h 3597 189)) + x1))) + ((x2 / 27) - (gA h 210 (ix ((60 * (gI h 3597 189)) + x1)))))), h)
  else
   gd ((60 * (gI h 3597 189)) + x1) 120 <|
   if gA h 214 (ix ((60 * (gI h 3597 189)) + x1)) = 3 then
    some (some (.int ((gA h 213 (ix ((60 * (gI h 3597 189)) + x1))) + (-((x2 / 27) - (gA h 210 (ix ((60 * (gI h 3597 189)) + x1))))))), h)
   else
    some (some (.int ((gA h 213 (ix ((60 * (gI h 3597 189)) + x1))) + 0)), h)) := by
  rw [← hs.1]
  exact ent rfl ((blkM (fun p => false) 38 0 _ _ _).trans rfl)

/-! 124 PostRoomModel.stopAt(II)I -/
set_option maxRecDepth 16384 in
theorem t_124 {d : Nat} {h : AH} (hs : Sh h) (x1 : Int32) (x2 : Int32) :
    E (d + 1) 124 [.ref 189, .int x1, .int x2] h =
  Q d 124 2 [some (.ref 189), some (.int x1), some (.int x2), some (.int 0)] [] h := by
  rw [← hs.1]
  exact ent rfl ((blkM (fun p => Nat.beq p 2) 4 0 _ _ _).trans rfl)

set_option maxRecDepth 16384 in
theorem t_124_2 {d : Nat} {h : AH} (hs : Sh h) (x1 : Int32) (x2 : Int32) (x3 : Int32) :
    Q d 124 2 [some (.ref 189), some (.int x1), some (.int x2), some (.int x3)] [] h =
  if x3 < gI h 3691 189 then
   gd x3 9 <|
   if gA h 269 (ix x3) = x1 then
    gd x3 9 <|
    if gA h 270 (ix x3) = x2 then
     some (some (.int x3), h)
    else
     Q d 124 2 [some (.ref 189), some (.int x1), some (.int x2), some (.int (x3 + 1))] [] h
   else
    Q d 124 2 [some (.ref 189), some (.int x1), some (.int x2), some (.int (x3 + 1))] [] h
  else
   if gI h 3691 189 = 8 then
    some (some (.int (-1)), h)
   else
    gd (gI h 3691 189) 9 <|
    gd (gI h 3691 189) 9 <|
    some (some (.int (((gI h 3691 189) + 1) - 1)), sI (sA (sA h 269 (ix (gI h 3691 189)) x1) 270 (ix (gI h 3691 189)) x2) 3691 189 ((gI h 3691 189) + 1)) := by
  rw [← hs.1]
  exact (blkM (fun p => Nat.beq p 2) 32 2 _ _ _).trans rfl

