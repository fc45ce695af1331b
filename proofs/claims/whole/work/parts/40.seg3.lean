/-! ===== THE METHODS, PIECE BY PIECE: 3 (made by wip/gen/gen40.py) ===== -/
/-! 118 PostRoomModel.deliver(II)I -/
set_option maxRecDepth 16384 in
theorem t_118 {d : Nat} {h : AH} (hs : Sh h) (x1 : Int32) (x2 : Int32) :
    E (d + 1) 118 [.ref 189, .int x1, .int x2] h =
  cK (E d 82 [.ref 189, .int x1] (sI h 3586 189 (nI 0))) (Q d 118 10 [some (.ref 189), some (.int x1), some (.int x2), none, none, none, none, none, none]) [] := by
  rw [← hs.1]
  exact entL (l := [some (.ref 189), some (.int x1), some (.int x2), none, none, none, none, none, none]) rfl rfl ((blkM (fun p => Nat.beq p 10) 7 0 _ _ _).trans rfl)

set_option maxRecDepth 16384 in
theorem t_118_10 {d : Nat} {h : AH} (hs : Sh h) (x1 : Int32) (x2 : Int32) (u3 : Option Value) (u4 : Option Value) (u5 : Option Value) (u6 : Option Value) (u7 : Option Value) (u8 : Option Value) (s0 : Int32) :
    Q d 118 10 [some (.ref 189), some (.int x1), some (.int x2), u3, u4, u5, u6, u7, u8] [.int s0] h =
  if s0 = nI 0 then
   some (some (.int (-2)), h)
  else
   if x2 < nI 0 then
    some (some (.int (-2)), h)
   else
    if (nI 10) < x2 then
     some (some (.int (-2)), h)
    else
     if x2 = nI 10 then
      cK (E d 119 [.ref 189, .int x1] h) (Q d 118 37 [some (.ref 189), some (.int x1), some (.int x2), u3, u4, u5, u6, u7, u8]) []
     else
      gd x1 16 <|
      cK (E d 120 [.ref 189, .int x1, .int x2] h) (Q d 118 51 [some (.ref 189), some (.int x1), some (.int x2), some (.int (gA h 255 (ix x1))), u4, u5, u6, u7, u8]) [] := by
  rw [← hs.1]
  exact (blkM (fun p => Nat.beq p 37 || Nat.beq p 51) 19 10 _ _ _).trans rfl

set_option maxRecDepth 16384 in
theorem t_118_37 {d : Nat} {h : AH} (hs : Sh h) (u0 : Option Value) (u1 : Option Value) (u2 : Option Value) (u3 : Option Value) (u4 : Option Value) (u5 : Option Value) (u6 : Option Value) (u7 : Option Value) (u8 : Option Value) (s0 : Int32) :
    Q d 118 37 [u0, u1, u2, u3, u4, u5, u6, u7, u8] [.int s0] h =
  some (some (.int s0), h) := by
  rw [← hs.1]
  exact (blkM (fun p => false) 2 37 _ _ _).trans rfl

set_option maxRecDepth 16384 in
theorem t_118_51 {d : Nat} {h : AH} (hs : Sh h) (x1 : Int32) (x3 : Int32) (u2 : Option Value) (u4 : Option Value) (u5 : Option Value) (u6 : Option Value) (u7 : Option Value) (u8 : Option Value) :
    Q d 118 51 [some (.ref 189), some (.int x1), u2, some (.int x3), u4, u5, u6, u7, u8] [] h =
  if gI h 3691 189 = nI 0 then
   some (some (.int (-1)), h)
  else
   cK (E d 125 [.ref 189, .int x1] h) (Q d 118 65 [some (.ref 189), some (.int x1), u2, some (.int x3), u4, u5, u6, u7, u8]) [] := by
  rw [← hs.1]
  exact (blkM (fun p => Nat.beq p 65) 7 51 _ _ _).trans rfl

set_option maxRecDepth 16384 in
theorem t_118_65 {d : Nat} {h : AH} (hs : Sh h) (x1 : Int32) (x3 : Int32) (u2 : Option Value) (u4 : Option Value) (u5 : Option Value) (u6 : Option Value) (u7 : Option Value) (u8 : Option Value) :
    Q d 118 65 [some (.ref 189), some (.int x1), u2, some (.int x3), u4, u5, u6, u7, u8] [] h =
  Q d 118 75 [some (.ref 189), some (.int x1), none, some (.int x3), some (.int (nI 0)), some (.int (nI 8)), some (.int (nI 0)), none, none] [] h := by
  rw [← hs.1]
  exact (blkM (fun p => Nat.beq p 75) 8 65 _ _ _).trans rfl

set_option maxRecDepth 16384 in
theorem t_118_75 {d : Nat} {h : AH} (hs : Sh h) (x1 : Int32) (x3 : Int32) (x4 : Int32) (x5 : Int32) (x6 : Int32) :
    Q d 118 75 [some (.ref 189), some (.int x1), none, some (.int x3), some (.int x4), some (.int x5), some (.int x6), none, none] [] h =
  if x6 < gI h 3691 189 then
   Q d 118 87 [some (.ref 189), some (.int x1), none, some (.int x3), some (.int x4), some (.int x5), some (.int x6), some (.int (nI 0)), none] [] h
  else
   some (some (.int (gA h 273 8)), h) := by
  rw [← hs.1]
  exact (blkM (fun p => Nat.beq p 87) 10 75 _ _ _).trans rfl

set_option maxRecDepth 16384 in
theorem t_118_87 {d : Nat} {h : AH} (hs : Sh h) (x1 : Int32) (x3 : Int32) (x4 : Int32) (x5 : Int32) (x6 : Int32) (x7 : Int32) :
    Q d 118 87 [some (.ref 189), some (.int x1), none, some (.int x3), some (.int x4), some (.int x5), some (.int x6), some (.int x7), none] [] h =
  if (x4 >>> (x7 &&& 31)) &&& (nI 1) = nI 1 then
   Q d 118 87 [some (.ref 189), some (.int x1), none, some (.int x3), some (.int x4), some (.int x5), some (.int x6), some (.int (x7 + nI 1)), none] [] h
  else
   cK (E d 126 [.ref 189, .int x5, .int x7] h) (Q d 118 106 [some (.ref 189), some (.int x1), none, some (.int x3), some (.int x4), some (.int x5), some (.int x6), some (.int x7), none]) [] := by
  rw [← hs.1]
  exact (blkM (fun p => Nat.beq p 87 || Nat.beq p 106) 12 87 _ _ _).trans rfl

set_option maxRecDepth 16384 in
theorem t_118_106 {d : Nat} {h : AH} (hs : Sh h) (x1 : Int32) (x3 : Int32) (x4 : Int32) (x5 : Int32) (x6 : Int32) (x7 : Int32) (u2 : Option Value) (u8 : Option Value) (s0 : Int32) :
    Q d 118 106 [some (.ref 189), some (.int x1), u2, some (.int x3), some (.int x4), some (.int x5), some (.int x6), some (.int x7), u8] [.int s0] h =
  (gd (((nI 9) * (x4 ||| ((nI 1) <<< (x7 &&& 31)))) + x7) 2304 <|
  gd (((nI 9) * x4) + x5) 2304 <|
  if s0 + (gA h 273 (ix (((nI 9) * (x4 ||| ((nI 1) <<< (x7 &&& 31)))) + x7))) = gA h 273 (ix (((nI 9) * x4) + x5)) then
   Q d 118 150 [some (.ref 189), some (.int x1), none, some (.int x3), some (.int x4), none, some (.int x6), some (.int x7), some (.int (nI 0))] [] h
  else
   Q d 118 87 [some (.ref 189), some (.int x1), none, some (.int x3), some (.int x4), some (.int x5), some (.int x6), some (.int (x7 + nI 1)), none] [] h) := by
  rw [← hs.1]
  exact (blkM (fun p => Nat.beq p 87 || Nat.beq p 150) 26 106 _ _ _).trans rfl

set_option maxRecDepth 16384 in
theorem t_118_150 {d : Nat} {h : AH} (hs : Sh h) (x1 : Int32) (x3 : Int32) (x4 : Int32) (x6 : Int32) (x7 : Int32) (x8 : Int32) :
    Q d 118 150 [some (.ref 189), some (.int x1), none, some (.int x3), some (.int x4), none, some (.int x6), some (.int x7), some (.int x8)] [] h =
  if x8 < x3 then
   gd x8 200 <|
   if gA h 271 (ix x8) = x7 then
    gd x8 200 <|
    cK (E d 112 [.ref 189, .int x1, .int (gA h 272 (ix x8))] h) (Q d 118 180 [some (.ref 189), some (.int x1), none, some (.int x3), some (.int x4), none, some (.int x6), some (.int x7), some (.int x8)]) []
   else
    Q d 118 207 [some (.ref 189), some (.int x1), none, some (.int x3), some (.int x4), none, some (.int x6), some (.int x7), some (.int x8)] [] h
  else
   Q d 118 75 [some (.ref 189), some (.int x1), none, some (.int x3), some (.int (x4 ||| ((nI 1) <<< (x7 &&& 31)))), some (.int x7), some (.int (x6 + nI 1)), none, none] [] h := by
  rw [← hs.1]
  exact (blkM (fun p => Nat.beq p 75 || Nat.beq p 180 || Nat.beq p 207) 17 150 _ _ _).trans rfl

set_option maxRecDepth 16384 in
theorem t_118_180 {d : Nat} {h : AH} (hs : Sh h) (x1 : Int32) (x3 : Int32) (x4 : Int32) (x6 : Int32) (x7 : Int32) (x8 : Int32) (u2 : Option Value) (u5 : Option Value) :
    Q d 118 180 [some (.ref 189), some (.int x1), u2, some (.int x3), some (.int x4), u5, some (.int x6), some (.int x7), some (.int x8)] [] h =
  (gd x8 200 <|
  cK (E d 99 [.ref 189, .int (gA h 272 (ix x8)), .int (nI 3), .int x1, .int (-1)] h) (Q d 118 194 [some (.ref 189), some (.int x1), u2, some (.int x3), some (.int x4), u5, some (.int x6), some (.int x7), some (.int x8)]) []) := by
  rw [← hs.1]
  exact (blkM (fun p => Nat.beq p 194) 10 180 _ _ _).trans rfl

set_option maxRecDepth 16384 in
theorem t_118_207 {d : Nat} {h : AH} (hs : Sh h) (x1 : Int32) (x3 : Int32) (x4 : Int32) (x6 : Int32) (x7 : Int32) (x8 : Int32) :
    Q d 118 207 [some (.ref 189), some (.int x1), none, some (.int x3), some (.int x4), none, some (.int x6), some (.int x7), some (.int x8)] [] h =
  Q d 118 150 [some (.ref 189), some (.int x1), none, some (.int x3), some (.int x4), none, some (.int x6), some (.int x7), some (.int (x8 + nI 1))] [] h := by
  rw [← hs.1]
  exact (blkM (fun p => Nat.beq p 150) 4 207 _ _ _).trans rfl

set_option maxRecDepth 16384 in
theorem t_118_194 {d : Nat} {h : AH} (hs : Sh h) (x1 : Int32) (x3 : Int32) (x4 : Int32) (x6 : Int32) (x7 : Int32) (x8 : Int32) (u2 : Option Value) (u5 : Option Value) :
    Q d 118 194 [some (.ref 189), some (.int x1), u2, some (.int x3), some (.int x4), u5, some (.int x6), some (.int x7), some (.int x8)] [] h =
  (gd x8 200 <|
  cK (E d 100 [.ref 189, .int (gA h 272 (ix x8)), .int (nI 4), .int x1] h) (Q d 118 207 [some (.ref 189), some (.int x1), none, some (.int x3), some (.int x4), none, some (.int x6), some (.int x7), some (.int x8)]) []) := by
  rw [← hs.1]
  exact (blkM (fun p => Nat.beq p 207) 9 194 _ _ _).trans rfl

/-! 119 PostRoomModel.deliverBack(I)I -/
set_option maxRecDepth 16384 in
theorem t_119 {d : Nat} {h : AH} (hs : Sh h) (x1 : Int32) :
    E (d + 1) 119 [.ref 189, .int x1] h =
  Q d 119 4 [some (.ref 189), some (.int x1), some (.int (nI 0)), some (.int (nI 0)), none] [] h := by
  rw [← hs.1]
  exact entL (l := [some (.ref 189), some (.int x1), none, none, none]) rfl rfl ((blkM (fun p => Nat.beq p 4) 6 0 _ _ _).trans rfl)

set_option maxRecDepth 16384 in
theorem t_119_4 {d : Nat} {h : AH} (hs : Sh h) (x1 : Int32) (x2 : Int32) (x3 : Int32) :
    Q d 119 4 [some (.ref 189), some (.int x1), some (.int x2), some (.int x3), none] [] h =
  (gd x1 16 <|
  if x3 < gA h 255 (ix x1) then
   gd (((nI 200) * x1) + x3) 3200 <|
   gd (gA h 254 (ix (((nI 200) * x1) + x3))) 200 <|
   if gA h 246 (ix (gA h 254 (ix (((nI 200) * x1) + x3)))) < nI 0 then
    gd (gA h 254 (ix (((nI 200) * x1) + x3))) 200 <|
    if gA h 244 (ix (gA h 254 (ix (((nI 200) * x1) + x3)))) = x1 then
     cK (E d 112 [.ref 189, .int x1, .int (gA h 254 (ix (((nI 200) * x1) + x3)))] h) (Q d 119 56 [some (.ref 189), some (.int x1), some (.int x2), some (.int x3), some (.int (gA h 254 (ix (((nI 200) * x1) + x3))))]) []
    else
     Q d 119 4 [some (.ref 189), some (.int x1), some (.int x2), some (.int (x3 + nI 1)), none] [] h
   else
    Q d 119 4 [some (.ref 189), some (.int x1), some (.int x2), some (.int (x3 + nI 1)), none] [] h
  else
   some (some (.int x2), h)) := by
  rw [← hs.1]
  exact (blkM (fun p => Nat.beq p 4 || Nat.beq p 56) 31 4 _ _ _).trans rfl

set_option maxRecDepth 16384 in
theorem t_119_56 {d : Nat} {h : AH} (hs : Sh h) (x1 : Int32) (x2 : Int32) (x3 : Int32) (x4 : Int32) :
    Q d 119 56 [some (.ref 189), some (.int x1), some (.int x2), some (.int x3), some (.int x4)] [] h =
  cK (E d 99 [.ref 189, .int x4, .int (nI 4), .int x1, .int (-1)] h) (Q d 119 65 [some (.ref 189), some (.int x1), some (.int x2), some (.int x3), some (.int x4)]) [] := by
  rw [← hs.1]
  exact (blkM (fun p => Nat.beq p 65) 7 56 _ _ _).trans rfl

set_option maxRecDepth 16384 in
theorem t_119_65 {d : Nat} {h : AH} (hs : Sh h) (x1 : Int32) (x2 : Int32) (x3 : Int32) (x4 : Int32) :
    Q d 119 65 [some (.ref 189), some (.int x1), some (.int x2), some (.int x3), some (.int x4)] [] h =
  cK (E d 100 [.ref 189, .int x4, .int (nI 5), .int x1] h) (Q d 119 73 [some (.ref 189), some (.int x1), some (.int x2), some (.int x3), some (.int x4)]) [] := by
  rw [← hs.1]
  exact (blkM (fun p => Nat.beq p 73) 6 65 _ _ _).trans rfl

set_option maxRecDepth 16384 in
theorem t_119_73 {d : Nat} {h : AH} (hs : Sh h) (x1 : Int32) (x2 : Int32) (x3 : Int32) (u4 : Option Value) :
    Q d 119 73 [some (.ref 189), some (.int x1), some (.int x2), some (.int x3), u4] [] h =
  Q d 119 4 [some (.ref 189), some (.int x1), some (.int (x2 + nI 1)), some (.int x3), none] [] h := by
  rw [← hs.1]
  exact (blkM (fun p => Nat.beq p 4) 5 73 _ _ _).trans rfl

/-! 120 PostRoomModel.takeStops(II)V -/
set_option maxRecDepth 16384 in
theorem t_120 {d : Nat} {h : AH} (hs : Sh h) (x1 : Int32) (x2 : Int32) :
    E (d + 1) 120 [.ref 189, .int x1, .int x2] h =
  Q d 120 7 [some (.ref 189), some (.int x1), some (.int x2), some (.int (nI 0)), none, none, none] [] (sI h 3691 189 (nI 0)) := by
  rw [← hs.1]
  exact entL (l := [some (.ref 189), some (.int x1), some (.int x2), none, none, none, none]) rfl rfl ((blkM (fun p => Nat.beq p 7) 7 0 _ _ _).trans rfl)

set_option maxRecDepth 16384 in
theorem t_120_7 {d : Nat} {h : AH} (hs : Sh h) (x1 : Int32) (x2 : Int32) (x3 : Int32) :
    Q d 120 7 [some (.ref 189), some (.int x1), some (.int x2), some (.int x3), none, none, none] [] h =
  (gd x1 16 <|
  if x3 < gA h 255 (ix x1) then
   gd (((nI 200) * x1) + x3) 3200 <|
   gd (gA h 254 (ix (((nI 200) * x1) + x3))) 200 <|
   gd x3 200 <|
   gd x3 200 <|
   if gA h 246 (ix (gA h 254 (ix (((nI 200) * x1) + x3)))) < nI 0 then
    Q d 120 7 [some (.ref 189), some (.int x1), some (.int x2), some (.int (x3 + nI 1)), none, none, none] [] (sA (sA h 272 (ix x3) (gA h 254 (ix (((nI 200) * x1) + x3)))) 271 (ix x3) (-1))
   else
    gd (((nI 60) * (gI h 3597 189)) + (gA h 246 (ix (gA h 254 (ix (((nI 200) * x1) + x3)))))) 120 <|
    if gA h 208 (ix (((nI 60) * (gI h 3597 189)) + (gA h 246 (ix (gA h 254 (ix (((nI 200) * x1) + x3))))))) = x1 then
     gd (((nI 60) * (gI h 3597 189)) + (gA h 246 (ix (gA h 254 (ix (((nI 200) * x1) + x3)))))) 120 <|
     if gA h 215 (ix (((nI 60) * (gI h 3597 189)) + (gA h 246 (ix (gA h 254 (ix (((nI 200) * x1) + x3))))))) = x2 then
      gd (gA h 254 (ix (((nI 200) * x1) + x3))) 200 <|
      cK (E d 116 [.ref 189, .int (gA h 246 (ix (gA h 254 (ix (((nI 200) * x1) + x3))))), .int (gA h 247 (ix (gA h 254 (ix (((nI 200) * x1) + x3)))))] (sA (sA h 272 (ix x3) (gA h 254 (ix (((nI 200) * x1) + x3)))) 271 (ix x3) (-1))) (Q d 120 114 [some (.ref 189), some (.int x1), some (.int x2), some (.int x3), some (.int (gA h 254 (ix (((nI 200) * x1) + x3)))), some (.int (gA h 246 (ix (gA h 254 (ix (((nI 200) * x1) + x3)))))), none]) []
     else
      Q d 120 7 [some (.ref 189), some (.int x1), some (.int x2), some (.int (x3 + nI 1)), none, none, none] [] (sA (sA h 272 (ix x3) (gA h 254 (ix (((nI 200) * x1) + x3)))) 271 (ix x3) (-1))
    else
     Q d 120 7 [some (.ref 189), some (.int x1), some (.int x2), some (.int (x3 + nI 1)), none, none, none] [] (sA (sA h 272 (ix x3) (gA h 254 (ix (((nI 200) * x1) + x3)))) 271 (ix x3) (-1))
  else
   some (none, h)) := by
  rw [← hs.1]
  exact (blkM (fun p => Nat.beq p 7 || Nat.beq p 114) 62 7 _ _ _).trans rfl

set_option maxRecDepth 16384 in
theorem t_120_114 {d : Nat} {h : AH} (hs : Sh h) (x1 : Int32) (x2 : Int32) (x3 : Int32) (x4 : Int32) (x5 : Int32) (u6 : Option Value) (s0 : Int32) :
    Q d 120 114 [some (.ref 189), some (.int x1), some (.int x2), some (.int x3), some (.int x4), some (.int x5), u6] [.int s0] h =
  if s0 < nI 0 then
   gd x4 200 <|
   cK (E d 122 [.ref 189, .int x5, .int (gA h 247 (ix x4))] h) (Q d 120 152 [some (.ref 189), some (.int x1), some (.int x2), some (.int x3), some (.int x4), some (.int x5), some (.int s0)]) [.ref 189, .int x3, .ref 271]
  else
   cK (E d 121 [.ref 189, .int x4, .int s0, .int x1] h) (Q d 120 130 [some (.ref 189), some (.int x1), some (.int x2), some (.int x3), some (.int x4), some (.int x5), some (.int s0)]) [] := by
  rw [← hs.1]
  exact (blkM (fun p => Nat.beq p 130 || Nat.beq p 152) 15 114 _ _ _).trans rfl

set_option maxRecDepth 16384 in
theorem t_120_130 {d : Nat} {h : AH} (hs : Sh h) (x1 : Int32) (x2 : Int32) (x3 : Int32) (u4 : Option Value) (u5 : Option Value) (u6 : Option Value) :
    Q d 120 130 [some (.ref 189), some (.int x1), some (.int x2), some (.int x3), u4, u5, u6] [] h =
  Q d 120 7 [some (.ref 189), some (.int x1), some (.int x2), some (.int (x3 + nI 1)), none, none, none] [] h := by
  rw [← hs.1]
  exact (blkM (fun p => Nat.beq p 7) 5 130 _ _ _).trans rfl

set_option maxRecDepth 16384 in
theorem t_120_152 {d : Nat} {h : AH} (hs : Sh h) (x1 : Int32) (x2 : Int32) (x3 : Int32) (x4 : Int32) (x5 : Int32) (u6 : Option Value) (s0 : Nat) (s1 : Int32) (s2 : Nat) (s3 : Int32) :
    Q d 120 152 [some (.ref 189), some (.int x1), some (.int x2), some (.int x3), some (.int x4), some (.int x5), u6] [.int s3, .ref s2, .int s1, .ref s0] h =
  (gd x4 200 <|
  cK (E d 123 [.ref 189, .int x5, .int (gA h 247 (ix x4))] h) (Q d 120 165 [some (.ref 189), some (.int x1), some (.int x2), some (.int x3), some (.int x4), some (.int x5), u6]) [.int s3, .ref s2, .int s1, .ref s0]) := by
  rw [← hs.1]
  exact (blkM (fun p => Nat.beq p 165) 8 152 _ _ _).trans rfl

set_option maxRecDepth 16384 in
theorem t_120_165 {d : Nat} {h : AH} (hs : Sh h) (x1 : Int32) (x2 : Int32) (x3 : Int32) (u4 : Option Value) (u5 : Option Value) (u6 : Option Value) (s0 : Nat) (s1 : Int32) (s2 : Nat) (s3 : Int32) (s4 : Int32) :
    Q d 120 165 [some (.ref 189), some (.int x1), some (.int x2), some (.int x3), u4, u5, u6] [.int s4, .int s3, .ref s2, .int s1, .ref s0] h =
  (ck (gC h s2) 14 <|
  cK (E d 124 [.ref s2, .int s3, .int s4] h) (Q d 120 168 [some (.ref 189), some (.int x1), some (.int x2), some (.int x3), u4, u5, u6]) [.int s1, .ref s0]) := by
  rw [← hs.1]
  exact (blkM (fun p => Nat.beq p 168) 2 165 _ _ _).trans rfl

set_option maxRecDepth 16384 in
theorem t_120_168 {d : Nat} {h : AH} (hs : Sh h) (x1 : Int32) (x2 : Int32) (x3 : Int32) (u4 : Option Value) (u5 : Option Value) (u6 : Option Value) (s0 : Nat) (s1 : Int32) (s2 : Int32) :
    Q d 120 168 [some (.ref 189), some (.int x1), some (.int x2), some (.int x3), u4, u5, u6] [.int s2, .int s1, .ref s0] h =
  (cw (gC h s0) 60 s0 <|
  gd s1 (gK h s0) <|
  Q d 120 7 [some (.ref 189), some (.int x1), some (.int x2), some (.int (x3 + nI 1)), none, none, none] [] (sA h s0 (ix s1) s2)) := by
  rw [← hs.1]
  exact (blkM (fun p => Nat.beq p 7) 5 168 _ _ _).trans rfl

/-! 121 PostRoomModel.sendAfter(III)V -/
set_option maxRecDepth 16384 in
theorem t_121 {d : Nat} {h : AH} (hs : Sh h) (x1 : Int32) (x2 : Int32) (x3 : Int32) :
    E (d + 1) 121 [.ref 189, .int x1, .int x2, .int x3] h =
  (gd x2 40 <|
  if gA h 267 (ix x2) < nI 0 then
   gd x1 200 <|
   cK (E d 100 [.ref 189, .int x1, .int (nI 7), .int x3] (sA h 246 (ix x1) (-1))) (Q d 121 79 [none, none, none, none]) []
  else
   gd x1 200 <|
   if gA h 252 (ix x1) < nI 2 then
    gd x2 40 <|
    gd x1 200 <|
    gd x2 40 <|
    gd x1 200 <|
    gd x1 200 <|
    gd x1 200 <|
    cK (E d 100 [.ref 189, .int x1, .int (nI 6), .int x3] (sA (sA (sA h 246 (ix x1) (gA h 267 (ix x2))) 247 (ix x1) (gA h 268 (ix x2))) 252 (ix x1) ((gA h 252 (ix x1)) + (nI 1)))) (Q d 121 61 [some (.ref 189), some (.int x1), some (.int x2), some (.int x3)]) []
   else
    gd x1 200 <|
    cK (E d 100 [.ref 189, .int x1, .int (nI 7), .int x3] (sA h 246 (ix x1) (-1))) (Q d 121 79 [none, none, none, none]) []) := by
  rw [← hs.1]
  exact entL (l := [some (.ref 189), some (.int x1), some (.int x2), some (.int x3)]) rfl rfl ((blkM (fun p => Nat.beq p 61 || Nat.beq p 79) 41 0 _ _ _).trans rfl)

set_option maxRecDepth 16384 in
theorem t_121_61 {d : Nat} {h : AH} (hs : Sh h) (u0 : Option Value) (u1 : Option Value) (u2 : Option Value) (u3 : Option Value) :
    Q d 121 61 [u0, u1, u2, u3] [] h =
  Q d 121 79 [none, none, none, none] [] h := by
  rw [← hs.1]
  exact (blkM (fun p => Nat.beq p 79) 3 61 _ _ _).trans rfl

set_option maxRecDepth 16384 in
theorem t_121_79 {d : Nat} {h : AH} (hs : Sh h)  :
    Q d 121 79 [none, none, none, none] [] h =
  some (none, h) := by
  rw [← hs.1]
  exact (blkM (fun p => false) 2 79 _ _ _).trans rfl

/-! 122 PostRoomModel.doorX(II)I -/
set_option maxRecDepth 16384 in
theorem t_122 {d : Nat} {h : AH} (hs : Sh h) (x1 : Int32) (x2 : Int32) :
    E (d + 1) 122 [.ref 189, .int x1, .int x2] h =
  (dz (nI 27) <|
  gd (((nI 60) * (gI h 3597 189)) + x1) 120 <|
  gd (((nI 60) * (gI h 3597 189)) + x1) 120 <|
  gd (((nI 60) * (gI h 3597 189)) + x1) 120 <|
  if gA h 214 (ix (((nI 60) * (gI h 3597 189)) + x1)) = nI 0 then
   some (some (.int ((gA h 212 (ix (((nI 60) * (gI h 3597 189)) + x1))) + ((x2 / (nI 27)) - (gA h 210 (ix (((nI 60) * (gI h 3597 189)) + x1)))))), h)
  else
   gd (((nI 60) * (gI h 3597 189)) + x1) 120 <|
   if gA h 214 (ix (((nI 60) * (gI h 3597 189)) + x1)) = nI 2 then
    some (some (.int ((gA h 212 (ix (((nI 60) * (gI h 3597 189)) + x1))) + (-((x2 / (nI 27)) - (gA h 210 (ix (((nI 60) * (gI h 3597 189)) + x1))))))), h)
   else
    some (some (.int ((gA h 212 (ix (((nI 60) * (gI h 3597 189)) + x1))) + (nI 0))), h)) := by
  rw [← hs.1]
  exact entL (l := [some (.ref 189), some (.int x1), some (.int x2), none, none]) rfl rfl ((blkM (fun p => false) 37 0 _ _ _).trans rfl)

/-! 123 PostRoomModel.doorY(II)I -/
set_option maxRecDepth 16384 in
theorem t_123 {d : Nat} {h : AH} (hs : Sh h) (x1 : Int32) (x2 : Int32) :
    E (d + 1) 123 [.ref 189, .int x1, .int x2] h =
  (dz (nI 27) <|
  gd (((nI 60) * (gI h 3597 189)) + x1) 120 <|
  gd (((nI 60) * (gI h 3597 189)) + x1) 120 <|
  gd (((nI 60) * (gI h 3597 189)) + x1) 120 <|
  if gA h 214 (ix (((nI 60) * (gI h 3597 189)) + x1)) = nI 1 then
   some (some (.int ((gA h 213 (ix (((nI 60) * (gI h 3597 189)) + x1))) + ((x2 / (nI 27)) - (gA h 210 (ix (((nI 60) * (gI h 3597 189)) + x1)))))), h)
  else
   gd (((nI 60) * (gI h 3597 189)) + x1) 120 <|
   if gA h 214 (ix (((nI 60) * (gI h 3597 189)) + x1)) = nI 3 then
    some (some (.int ((gA h 213 (ix (((nI 60) * (gI h 3597 189)) + x1))) + (-((x2 / (nI 27)) - (gA h 210 (ix (((nI 60) * (gI h 3597 189)) + x1))))))), h)
   else
    some (some (.int ((gA h 213 (ix (((nI 60) * (gI h 3597 189)) + x1))) + (nI 0))), h)) := by
  rw [← hs.1]
  exact entL (l := [some (.ref 189), some (.int x1), some (.int x2), none, none]) rfl rfl ((blkM (fun p => false) 38 0 _ _ _).trans rfl)

/-! 124 PostRoomModel.stopAt(II)I -/
set_option maxRecDepth 16384 in
theorem t_124 {d : Nat} {h : AH} (hs : Sh h) (x1 : Int32) (x2 : Int32) :
    E (d + 1) 124 [.ref 189, .int x1, .int x2] h =
  Q d 124 2 [some (.ref 189), some (.int x1), some (.int x2), some (.int (nI 0))] [] h := by
  rw [← hs.1]
  exact entL (l := [some (.ref 189), some (.int x1), some (.int x2), none]) rfl rfl ((blkM (fun p => Nat.beq p 2) 4 0 _ _ _).trans rfl)

set_option maxRecDepth 16384 in
theorem t_124_2 {d : Nat} {h : AH} (hs : Sh h) (x1 : Int32) (x2 : Int32) (x3 : Int32) :
    Q d 124 2 [some (.ref 189), some (.int x1), some (.int x2), some (.int x3)] [] h =
  if x3 < gI h 3691 189 then
   gd x3 9 <|
   if gA h 269 (ix x3) = x1 then
    gd x3 9 <|
    if gA h 270 (ix x3) = x2 then
     some (some (.int x3), h)
    else
     Q d 124 2 [some (.ref 189), some (.int x1), some (.int x2), some (.int (x3 + nI 1))] [] h
   else
    Q d 124 2 [some (.ref 189), some (.int x1), some (.int x2), some (.int (x3 + nI 1))] [] h
  else
   if gI h 3691 189 = nI 8 then
    some (some (.int (-1)), h)
   else
    gd (gI h 3691 189) 9 <|
    gd (gI h 3691 189) 9 <|
    some (some (.int (((gI h 3691 189) + (nI 1)) - (nI 1))), sI (sA (sA h 269 (ix (gI h 3691 189)) x1) 270 (ix (gI h 3691 189)) x2) 3691 189 ((gI h 3691 189) + (nI 1))) := by
  rw [← hs.1]
  exact (blkM (fun p => Nat.beq p 2) 32 2 _ _ _).trans rfl

/-! 125 PostRoomModel.reckonWalk(I)V -/
set_option maxRecDepth 16384 in
theorem t_125 {d : Nat} {h : AH} (hs : Sh h) (x1 : Int32) :
    E (d + 1) 125 [.ref 189, .int x1] h =
  (gd (((nI 16) * (gI h 3597 189)) + x1) 32 <|
  gd (((nI 16) * (gI h 3597 189)) + x1) 32 <|
  Q d 125 53 [some (.ref 189), none, some (.int (((nI 1) <<< ((gI h 3691 189) &&& 31)) - (nI 1))), some (.int (((nI 1) <<< ((gI h 3691 189) &&& 31)) - (nI 1))), none, none, none] [] (sA (sA h 269 8 (gA h 200 (ix (((nI 16) * (gI h 3597 189)) + x1)))) 270 8 (gA h 201 (ix (((nI 16) * (gI h 3597 189)) + x1))))) := by
  rw [← hs.1]
  exact entL (l := [some (.ref 189), some (.int x1), none, none, none, none, none]) rfl rfl ((blkM (fun p => Nat.beq p 53) 37 0 _ _ _).trans rfl)

set_option maxRecDepth 16384 in
theorem t_125_53 {d : Nat} {h : AH} (hs : Sh h) (x2 : Int32) (x3 : Int32) :
    Q d 125 53 [some (.ref 189), none, some (.int x2), some (.int x3), none, none, none] [] h =
  if x3 < nI 0 then
   some (none, h)
  else
   Q d 125 60 [some (.ref 189), none, some (.int x2), some (.int x3), some (.int (nI 0)), none, none] [] h := by
  rw [← hs.1]
  exact (blkM (fun p => Nat.beq p 60) 6 53 _ _ _).trans rfl

set_option maxRecDepth 16384 in
theorem t_125_60 {d : Nat} {h : AH} (hs : Sh h) (x2 : Int32) (x3 : Int32) (x4 : Int32) :
    Q d 125 60 [some (.ref 189), none, some (.int x2), some (.int x3), some (.int x4), none, none] [] h =
  if x4 < nI 9 then
   if x3 = x2 then
    cK (E d 126 [.ref 189, .int x4, .int (nI 8)] h) (Q d 125 80 [some (.ref 189), none, some (.int x2), some (.int x3), some (.int x4), none, none]) []
   else
    Q d 125 91 [some (.ref 189), none, some (.int x2), some (.int x3), some (.int x4), some (.int (nI 2000000000)), some (.int (nI 0))] [] h
  else
   Q d 125 53 [some (.ref 189), none, some (.int x2), some (.int (x3 + (-1))), none, none, none] [] h := by
  rw [← hs.1]
  exact (blkM (fun p => Nat.beq p 53 || Nat.beq p 80 || Nat.beq p 91) 12 60 _ _ _).trans rfl

set_option maxRecDepth 16384 in
theorem t_125_80 {d : Nat} {h : AH} (hs : Sh h) (x2 : Int32) (x3 : Int32) (x4 : Int32) (u1 : Option Value) (u5 : Option Value) (u6 : Option Value) (s0 : Int32) :
    Q d 125 80 [some (.ref 189), u1, some (.int x2), some (.int x3), some (.int x4), u5, u6] [.int s0] h =
  Q d 125 91 [some (.ref 189), none, some (.int x2), some (.int x3), some (.int x4), some (.int s0), some (.int (nI 0))] [] h := by
  rw [← hs.1]
  exact (blkM (fun p => Nat.beq p 91) 6 80 _ _ _).trans rfl

set_option maxRecDepth 16384 in
theorem t_125_91 {d : Nat} {h : AH} (hs : Sh h) (x2 : Int32) (x3 : Int32) (x4 : Int32) (x5 : Int32) (x6 : Int32) :
    Q d 125 91 [some (.ref 189), none, some (.int x2), some (.int x3), some (.int x4), some (.int x5), some (.int x6)] [] h =
  if x6 < gI h 3691 189 then
   if (x3 >>> (x6 &&& 31)) &&& (nI 1) = nI 0 then
    cK (E d 126 [.ref 189, .int x4, .int x6] h) (Q d 125 119 [some (.ref 189), none, some (.int x2), some (.int x3), some (.int x4), some (.int x5), some (.int x6)]) [.int x5]
   else
    Q d 125 91 [some (.ref 189), none, some (.int x2), some (.int x3), some (.int x4), some (.int x5), some (.int (x6 + nI 1))] [] h
  else
   gd (((nI 9) * x3) + x4) 2304 <|
   Q d 125 60 [some (.ref 189), none, some (.int x2), some (.int x3), some (.int (x4 + nI 1)), none, none] [] (sA h 273 (ix (((nI 9) * x3) + x4)) x5) := by
  rw [← hs.1]
  exact (blkM (fun p => Nat.beq p 60 || Nat.beq p 91 || Nat.beq p 119) 17 91 _ _ _).trans rfl

set_option maxRecDepth 16384 in
theorem t_125_119 {d : Nat} {h : AH} (hs : Sh h) (x2 : Int32) (x3 : Int32) (x4 : Int32) (x6 : Int32) (u1 : Option Value) (u5 : Option Value) (s0 : Int32) (s1 : Int32) :
    Q d 125 119 [some (.ref 189), u1, some (.int x2), some (.int x3), some (.int x4), u5, some (.int x6)] [.int s1, .int s0] h =
  (gd (((nI 9) * (x3 ||| ((nI 1) <<< (x6 &&& 31)))) + x6) 2304 <|
  cK (E d 78 [.int s0, .int (s1 + (gA h 273 (ix (((nI 9) * (x3 ||| ((nI 1) <<< (x6 &&& 31)))) + x6))))] h) (Q d 125 140 [some (.ref 189), u1, some (.int x2), some (.int x3), some (.int x4), u5, some (.int x6)]) []) := by
  rw [← hs.1]
  exact (blkM (fun p => Nat.beq p 140) 15 119 _ _ _).trans rfl

set_option maxRecDepth 16384 in
theorem t_125_140 {d : Nat} {h : AH} (hs : Sh h) (x2 : Int32) (x3 : Int32) (x4 : Int32) (x6 : Int32) (u1 : Option Value) (u5 : Option Value) (s0 : Int32) :
    Q d 125 140 [some (.ref 189), u1, some (.int x2), some (.int x3), some (.int x4), u5, some (.int x6)] [.int s0] h =
  Q d 125 91 [some (.ref 189), none, some (.int x2), some (.int x3), some (.int x4), some (.int s0), some (.int (x6 + nI 1))] [] h := by
  rw [← hs.1]
  exact (blkM (fun p => Nat.beq p 91) 5 140 _ _ _).trans rfl

/-! 126 PostRoomModel.between(II)I -/
set_option maxRecDepth 16384 in
theorem t_126 {d : Nat} {h : AH} (hs : Sh h) (x1 : Int32) (x2 : Int32) :
    E (d + 1) 126 [.ref 189, .int x1, .int x2] h =
  (gd x1 9 <|
  gd x2 9 <|
  cK (E d 77 [.int (gA h 269 (ix x1)), .int (gA h 269 (ix x2))] h) (Q d 126 15 [some (.ref 189), some (.int x1), some (.int x2)]) []) := by
  rw [← hs.1]
  exact entL (l := [some (.ref 189), some (.int x1), some (.int x2)]) rfl rfl ((blkM (fun p => Nat.beq p 15) 10 0 _ _ _).trans rfl)

set_option maxRecDepth 16384 in
theorem t_126_15 {d : Nat} {h : AH} (hs : Sh h) (x1 : Int32) (x2 : Int32) (s0 : Int32) :
    Q d 126 15 [some (.ref 189), some (.int x1), some (.int x2)] [.int s0] h =
  (gd x1 9 <|
  gd x2 9 <|
  cK (E d 77 [.int (gA h 270 (ix x1)), .int (gA h 270 (ix x2))] h) (Q d 126 30 [some (.ref 189), some (.int x1), some (.int x2)]) [.int s0]) := by
  rw [← hs.1]
  exact (blkM (fun p => Nat.beq p 30) 10 15 _ _ _).trans rfl

set_option maxRecDepth 16384 in
theorem t_126_30 {d : Nat} {h : AH} (hs : Sh h) (u0 : Option Value) (u1 : Option Value) (u2 : Option Value) (s0 : Int32) (s1 : Int32) :
    Q d 126 30 [u0, u1, u2] [.int s1, .int s0] h =
  some (some (.int (s0 + s1)), h) := by
  rw [← hs.1]
  exact (blkM (fun p => false) 3 30 _ _ _).trans rfl

/-! 127 PostRoomModel.programme()I -/
set_option maxRecDepth 16384 in
theorem t_127 {d : Nat} {h : AH} (hs : Sh h)  :
    E (d + 1) 127 [.ref 189] h =
  cK (E d 36 [.ref 189] (sI h 3586 189 (nI 0))) (Q d 127 9 [some (.ref 189), none]) [] := by
  rw [← hs.1]
  exact entL (l := [some (.ref 189), none]) rfl rfl ((blkM (fun p => Nat.beq p 9) 6 0 _ _ _).trans rfl)

set_option maxRecDepth 16384 in
theorem t_127_9 {d : Nat} {h : AH} (hs : Sh h) (u1 : Option Value) :
    Q d 127 9 [some (.ref 189), u1] [] h =
  cK (E d 37 [.ref 189] h) (Q d 127 13 [some (.ref 189), u1]) [] := by
  rw [← hs.1]
  exact (blkM (fun p => Nat.beq p 13) 3 9 _ _ _).trans rfl

set_option maxRecDepth 16384 in
theorem t_127_13 {d : Nat} {h : AH} (hs : Sh h) (u1 : Option Value) :
    Q d 127 13 [some (.ref 189), u1] [] h =
  Q d 127 47 [some (.ref 189), none] [] (sI (sI (sI (sI (sI h 3697 189 (nI 0)) 3698 189 ((nI 4400) * ((nI 1) - (gI h 3696 189)))) 3701 189 (nI 0)) 3702 189 (nI 0)) 3708 189 (nI 0)) := by
  rw [← hs.1]
  exact (blkM (fun p => Nat.beq p 47) 22 13 _ _ _).trans rfl

set_option maxRecDepth 16384 in
theorem t_127_47 {d : Nat} {h : AH} (hs : Sh h)  :
    Q d 127 47 [some (.ref 189), none] [] h =
  if gI h 3596 189 = nI 0 then
   gd (gI h 3595 189) 4002 <|
   if gA h 194 (ix (gI h 3595 189)) = nI 0 then
    if (nI 0) < gI h 3596 189 then
     some (some (.int (gI h 3596 189)), h)
    else
     cK (E d 130 [.ref 189, .int (nI 44), .int (nI 0)] h) (Q d 127 92 [some (.ref 189), none]) []
   else
    cK (E d 128 [.ref 189] h) (Q d 127 70 [some (.ref 189), none]) []
  else
   if (nI 0) < gI h 3596 189 then
    some (some (.int (gI h 3596 189)), h)
   else
    cK (E d 130 [.ref 189, .int (nI 44), .int (nI 0)] h) (Q d 127 92 [some (.ref 189), none]) [] := by
  rw [← hs.1]
  exact (blkM (fun p => Nat.beq p 70 || Nat.beq p 92) 17 47 _ _ _).trans rfl

set_option maxRecDepth 16384 in
theorem t_127_70 {d : Nat} {h : AH} (hs : Sh h) (u1 : Option Value) :
    Q d 127 70 [some (.ref 189), u1] [] h =
  Q d 127 47 [some (.ref 189), none] [] h := by
  rw [← hs.1]
  exact (blkM (fun p => Nat.beq p 47) 3 70 _ _ _).trans rfl

set_option maxRecDepth 16384 in
theorem t_127_92 {d : Nat} {h : AH} (hs : Sh h) (u1 : Option Value) (s0 : Int32) :
    Q d 127 92 [some (.ref 189), u1] [.int s0] h =
  some (some (.int (nI 0)), sI (sI h 3696 189 ((nI 1) - (gI h 3696 189))) 3695 189 (nI 1)) := by
  rw [← hs.1]
  exact (blkM (fun p => false) 13 92 _ _ _).trans rfl

/-! 128 PostRoomModel.statement()V -/
set_option maxRecDepth 16384 in
theorem t_128 {d : Nat} {h : AH} (hs : Sh h)  :
    E (d + 1) 128 [.ref 189] h =
  cK (E d 45 [.ref 189, .int (nI 45)] h) (Q d 128 6 [some (.ref 189), none, none, none]) [] := by
  rw [← hs.1]
  exact entL (l := [some (.ref 189), none, none, none]) rfl rfl ((blkM (fun p => Nat.beq p 6) 4 0 _ _ _).trans rfl)

set_option maxRecDepth 16384 in
theorem t_128_6 {d : Nat} {h : AH} (hs : Sh h) (u1 : Option Value) (u2 : Option Value) (u3 : Option Value) (s0 : Int32) :
    Q d 128 6 [some (.ref 189), u1, u2, u3] [.int s0] h =
  if s0 = nI 0 then
   cK (E d 130 [.ref 189, .int (nI 38), .int (nI 0)] h) (Q d 128 21 [some (.ref 189), u1, u2, u3]) []
  else
   cK (E d 129 [.ref 189] h) (Q d 128 13 [some (.ref 189), u1, u2, u3]) [] := by
  rw [← hs.1]
  exact (blkM (fun p => Nat.beq p 13 || Nat.beq p 21) 6 6 _ _ _).trans rfl

set_option maxRecDepth 16384 in
theorem t_128_13 {d : Nat} {h : AH} (hs : Sh h) (u0 : Option Value) (u1 : Option Value) (u2 : Option Value) (u3 : Option Value) :
    Q d 128 13 [u0, u1, u2, u3] [] h =
  some (none, h) := by
  rw [← hs.1]
  exact (blkM (fun p => false) 2 13 _ _ _).trans rfl

set_option maxRecDepth 16384 in
theorem t_128_21 {d : Nat} {h : AH} (hs : Sh h) (u1 : Option Value) (u2 : Option Value) (u3 : Option Value) (s0 : Int32) :
    Q d 128 21 [some (.ref 189), u1, u2, u3] [.int s0] h =
  cK (E d 136 [.ref 189, .int (nI 18), .int (nI 9)] h) (Q d 128 30 [some (.ref 189), some (.int s0), u2, u3]) [] := by
  rw [← hs.1]
  exact (blkM (fun p => Nat.beq p 30) 6 21 _ _ _).trans rfl

set_option maxRecDepth 16384 in
theorem t_128_30 {d : Nat} {h : AH} (hs : Sh h) (u1 : Option Value) (u2 : Option Value) (u3 : Option Value) (s0 : Int32) :
    Q d 128 30 [some (.ref 189), u1, u2, u3] [.int s0] h =
  cK (E d 136 [.ref 189, .int (nI 24), .int (nI 3)] h) (Q d 128 38 [some (.ref 189), klV u1, some (.int s0), u3]) [] := by
  rw [← hs.1]
  exact (blkM (fun p => Nat.beq p 38) 6 30 _ _ _).trans rfl

set_option maxRecDepth 16384 in
theorem t_128_38 {d : Nat} {h : AH} (hs : Sh h) (x2 : Int32) (u1 : Option Value) (u3 : Option Value) (s0 : Int32) :
    Q d 128 38 [some (.ref 189), u1, some (.int x2), u3] [.int s0] h =
  if x2 < nI 0 then
   if s0 < nI 0 then
    cK (E d 55 [.ref 189, .int (nI 43)] h) (Q d 128 113 [some (.ref 189), u1, some (.int x2), some (.int s0)]) []
   else
    cK (E d 61 [.ref 189, .int (nI 61)] (sI h 3595 189 ((gI h 3595 189) + (nI 1)))) (Q d 128 93 [some (.ref 189), u1, some (.int x2), some (.int s0)]) []
  else
   cK (E d 61 [.ref 189, .int (nI 61)] (sI h 3595 189 ((gI h 3595 189) + (nI 1)))) (Q d 128 59 [some (.ref 189), u1, some (.int x2), some (.int s0)]) [] := by
  rw [← hs.1]
  exact (blkM (fun p => Nat.beq p 59 || Nat.beq p 93 || Nat.beq p 113) 15 38 _ _ _).trans rfl

set_option maxRecDepth 16384 in
theorem t_128_59 {d : Nat} {h : AH} (hs : Sh h) (x2 : Int32) (u1 : Option Value) (u3 : Option Value) :
    Q d 128 59 [some (.ref 189), u1, some (.int x2), u3] [] h =
  cK (E d 131 [.ref 189] h) (Q d 128 63 [some (.ref 189), u1, some (.int x2), u3]) [] := by
  rw [← hs.1]
  exact (blkM (fun p => Nat.beq p 63) 3 59 _ _ _).trans rfl

set_option maxRecDepth 16384 in
theorem t_128_93 {d : Nat} {h : AH} (hs : Sh h) (x3 : Int32) (u1 : Option Value) (u2 : Option Value) :
    Q d 128 93 [some (.ref 189), u1, u2, some (.int x3)] [] h =
  cK (E d 142 [.ref 189] h) (Q d 128 97 [some (.ref 189), u1, u2, some (.int x3)]) [] := by
  rw [← hs.1]
  exact (blkM (fun p => Nat.beq p 97) 3 93 _ _ _).trans rfl

set_option maxRecDepth 16384 in
theorem t_128_113 {d : Nat} {h : AH} (hs : Sh h) (u1 : Option Value) (u2 : Option Value) (u3 : Option Value) (s0 : Int32) :
    Q d 128 113 [some (.ref 189), u1, u2, u3] [.int s0] h =
  if s0 = nI 0 then
   cK (E d 55 [.ref 189, .int (nI 46)] h) (Q d 128 127 [some (.ref 189), u1, u2, u3]) []
  else
   cK (E d 146 [.ref 189] h) (Q d 128 120 [some (.ref 189), u1, u2, u3]) [] := by
  rw [← hs.1]
  exact (blkM (fun p => Nat.beq p 120 || Nat.beq p 127) 5 113 _ _ _).trans rfl

set_option maxRecDepth 16384 in
theorem t_128_63 {d : Nat} {h : AH} (hs : Sh h) (x2 : Int32) (u1 : Option Value) (u3 : Option Value) :
    Q d 128 63 [some (.ref 189), u1, some (.int x2), u3] [] h =
  cK (E d 130 [.ref 189, .int (nI 3), .int x2] h) (Q d 128 69 [some (.ref 189), u1, some (.int x2), u3]) [] := by
  rw [← hs.1]
  exact (blkM (fun p => Nat.beq p 69) 5 63 _ _ _).trans rfl

set_option maxRecDepth 16384 in
theorem t_128_97 {d : Nat} {h : AH} (hs : Sh h) (x3 : Int32) (u1 : Option Value) (u2 : Option Value) :
    Q d 128 97 [some (.ref 189), u1, u2, some (.int x3)] [] h =
  cK (E d 130 [.ref 189, .int (nI 5), .int x3] h) (Q d 128 103 [some (.ref 189), u1, u2, some (.int x3)]) [] := by
  rw [← hs.1]
  exact (blkM (fun p => Nat.beq p 103) 5 97 _ _ _).trans rfl

set_option maxRecDepth 16384 in
theorem t_128_120 {d : Nat} {h : AH} (hs : Sh h) (u0 : Option Value) (u1 : Option Value) (u2 : Option Value) (u3 : Option Value) :
    Q d 128 120 [u0, u1, u2, u3] [] h =
  some (none, h) := by
  rw [← hs.1]
  exact (blkM (fun p => false) 2 120 _ _ _).trans rfl

set_option maxRecDepth 16384 in
theorem t_128_127 {d : Nat} {h : AH} (hs : Sh h) (u1 : Option Value) (u2 : Option Value) (u3 : Option Value) (s0 : Int32) :
    Q d 128 127 [some (.ref 189), u1, u2, u3] [.int s0] h =
  if s0 = nI 0 then
   cK (E d 149 [.ref 189] h) (Q d 128 139 [some (.ref 189), none, none, none]) []
  else
   cK (E d 147 [.ref 189] h) (Q d 128 134 [some (.ref 189), u1, u2, u3]) [] := by
  rw [← hs.1]
  exact (blkM (fun p => Nat.beq p 134 || Nat.beq p 139) 4 127 _ _ _).trans rfl

set_option maxRecDepth 16384 in
theorem t_128_69 {d : Nat} {h : AH} (hs : Sh h) (u1 : Option Value) (u2 : Option Value) (u3 : Option Value) (s0 : Int32) :
    Q d 128 69 [some (.ref 189), u1, u2, u3] [.int s0] h =
  Q d 128 139 [some (.ref 189), none, none, none] [] h := by
  rw [← hs.1]
  exact (blkM (fun p => Nat.beq p 139) 4 69 _ _ _).trans rfl

set_option maxRecDepth 16384 in
theorem t_128_103 {d : Nat} {h : AH} (hs : Sh h) (u1 : Option Value) (u2 : Option Value) (u3 : Option Value) (s0 : Int32) :
    Q d 128 103 [some (.ref 189), u1, u2, u3] [.int s0] h =
  Q d 128 139 [some (.ref 189), none, none, none] [] h := by
  rw [← hs.1]
  exact (blkM (fun p => Nat.beq p 139) 4 103 _ _ _).trans rfl

set_option maxRecDepth 16384 in
theorem t_128_134 {d : Nat} {h : AH} (hs : Sh h) (u0 : Option Value) (u1 : Option Value) (u2 : Option Value) (u3 : Option Value) :
    Q d 128 134 [u0, u1, u2, u3] [] h =
  some (none, h) := by
  rw [← hs.1]
  exact (blkM (fun p => false) 2 134 _ _ _).trans rfl

set_option maxRecDepth 16384 in
theorem t_128_139 {d : Nat} {h : AH} (hs : Sh h)  :
    Q d 128 139 [some (.ref 189), none, none, none] [] h =
  cK (E d 61 [.ref 189, .int (nI 59)] h) (Q d 128 145 [some (.ref 189), none, none, none]) [] := by
  rw [← hs.1]
  exact (blkM (fun p => Nat.beq p 145) 4 139 _ _ _).trans rfl

set_option maxRecDepth 16384 in
theorem t_128_145 {d : Nat} {h : AH} (hs : Sh h) (u0 : Option Value) (u1 : Option Value) (u2 : Option Value) (u3 : Option Value) :
    Q d 128 145 [u0, u1, u2, u3] [] h =
  some (none, h) := by
  rw [← hs.1]
  exact (blkM (fun p => false) 2 145 _ _ _).trans rfl

/-! 129 PostRoomModel.loop()V -/
set_option maxRecDepth 16384 in
theorem t_129 {d : Nat} {h : AH} (hs : Sh h)  :
    E (d + 1) 129 [.ref 189] h =
  cK (E d 130 [.ref 189, .int (nI 38), .int (nI 0)] (sI h 3595 189 ((gI h 3595 189) + (nI 1)))) (Q d 129 17 [some (.ref 189), none, none, none]) [] := by
  rw [← hs.1]
  exact entL (l := [some (.ref 189), none, none, none]) rfl rfl ((blkM (fun p => Nat.beq p 17) 11 0 _ _ _).trans rfl)

set_option maxRecDepth 16384 in
theorem t_129_17 {d : Nat} {h : AH} (hs : Sh h) (u1 : Option Value) (u2 : Option Value) (u3 : Option Value) (s0 : Int32) :
    Q d 129 17 [some (.ref 189), u1, u2, u3] [.int s0] h =
  cK (E d 131 [.ref 189] h) (Q d 129 22 [some (.ref 189), some (.int s0), u2, u3]) [] := by
  rw [← hs.1]
  exact (blkM (fun p => Nat.beq p 22) 4 17 _ _ _).trans rfl

set_option maxRecDepth 16384 in
theorem t_129_22 {d : Nat} {h : AH} (hs : Sh h) (x1 : Int32) (u2 : Option Value) (u3 : Option Value) :
    Q d 129 22 [some (.ref 189), some (.int x1), u2, u3] [] h =
  cK (E d 130 [.ref 189, .int (nI 40), .int (nI 0)] h) (Q d 129 29 [some (.ref 189), some (.int x1), u2, u3]) [] := by
  rw [← hs.1]
  exact (blkM (fun p => Nat.beq p 29) 5 22 _ _ _).trans rfl

set_option maxRecDepth 16384 in
theorem t_129_29 {d : Nat} {h : AH} (hs : Sh h) (x1 : Int32) (u2 : Option Value) (u3 : Option Value) (s0 : Int32) :
    Q d 129 29 [some (.ref 189), some (.int x1), u2, u3] [.int s0] h =
  cK (E d 144 [.ref 189] h) (Q d 129 34 [some (.ref 189), some (.int x1), some (.int s0), u3]) [] := by
  rw [← hs.1]
  exact (blkM (fun p => Nat.beq p 34) 4 29 _ _ _).trans rfl

set_option maxRecDepth 16384 in
theorem t_129_34 {d : Nat} {h : AH} (hs : Sh h) (x1 : Int32) (x2 : Int32) (u3 : Option Value) :
    Q d 129 34 [some (.ref 189), some (.int x1), some (.int x2), u3] [] h =
  cK (E d 130 [.ref 189, .int (nI 39), .int x1] h) (Q d 129 41 [some (.ref 189), some (.int x1), some (.int x2), u3]) [] := by
  rw [← hs.1]
  exact (blkM (fun p => Nat.beq p 41) 5 34 _ _ _).trans rfl

set_option maxRecDepth 16384 in
theorem t_129_41 {d : Nat} {h : AH} (hs : Sh h) (x2 : Int32) (u1 : Option Value) (u3 : Option Value) (s0 : Int32) :
    Q d 129 41 [some (.ref 189), u1, some (.int x2), u3] [.int s0] h =
  cK (E d 145 [.ref 189, .int x2] h) (Q d 129 47 [some (.ref 189), u1, some (.int x2), some (.int s0)]) [] := by
  rw [← hs.1]
  exact (blkM (fun p => Nat.beq p 47) 5 41 _ _ _).trans rfl

set_option maxRecDepth 16384 in
theorem t_129_47 {d : Nat} {h : AH} (hs : Sh h) (u0 : Option Value) (u1 : Option Value) (u2 : Option Value) (u3 : Option Value) :
    Q d 129 47 [u0, u1, u2, u3] [] h =
  some (none, h) := by
  rw [← hs.1]
  exact (blkM (fun p => false) 2 47 _ _ _).trans rfl

/-! 130 PostRoomModel.emit(II)I -/
set_option maxRecDepth 16384 in
theorem t_130 {d : Nat} {h : AH} (hs : Sh h) (x1 : Int32) (x2 : Int32) :
    E (d + 1) 130 [.ref 189, .int x1, .int x2] h =
  (gd ((gI h 3698 189) + (gI h 3697 189)) 8800 <|
  gd ((gI h 3698 189) + (gI h 3697 189)) 8800 <|
  some (some (.int (((gI h 3697 189) + (nI 1)) - (nI 1))), sI (sA (sA h 274 (ix ((gI h 3698 189) + (gI h 3697 189))) x1) 275 (ix ((gI h 3698 189) + (gI h 3697 189))) x2) 3697 189 ((gI h 3697 189) + (nI 1)))) := by
  rw [← hs.1]
  exact entL (l := [some (.ref 189), some (.int x1), some (.int x2)]) rfl rfl ((blkM (fun p => false) 30 0 _ _ _).trans rfl)

/-! 131 PostRoomModel.expression()V -/
set_option maxRecDepth 16384 in
theorem t_131 {d : Nat} {h : AH} (hs : Sh h)  :
    E (d + 1) 131 [.ref 189] h =
  cK (E d 132 [.ref 189] h) (Q d 131 4 [some (.ref 189), none, none]) [] := by
  rw [← hs.1]
  exact entL (l := [some (.ref 189), none, none]) rfl rfl ((blkM (fun p => Nat.beq p 4) 3 0 _ _ _).trans rfl)

set_option maxRecDepth 16384 in
theorem t_131_4 {d : Nat} {h : AH} (hs : Sh h) (u1 : Option Value) (u2 : Option Value) :
    Q d 131 4 [some (.ref 189), u1, u2] [] h =
  cK (E d 58 [.ref 189, .int (nI 60)] h) (Q d 131 10 [some (.ref 189), u1, u2]) [] := by
  rw [← hs.1]
  exact (blkM (fun p => Nat.beq p 10) 4 4 _ _ _).trans rfl

set_option maxRecDepth 16384 in
theorem t_131_10 {d : Nat} {h : AH} (hs : Sh h) (u1 : Option Value) (u2 : Option Value) (s0 : Int32) :
    Q d 131 10 [some (.ref 189), u1, u2] [.int s0] h =
  if s0 = nI 0 then
   cK (E d 58 [.ref 189, .int (nI 61)] h) (Q d 131 21 [some (.ref 189), some (.int s0), u2]) []
  else
   cK (E d 132 [.ref 189] (sI h 3595 189 ((gI h 3595 189) + (nI 1)))) (Q d 131 38 [some (.ref 189), some (.int s0), none]) [] := by
  rw [← hs.1]
  exact (blkM (fun p => Nat.beq p 21 || Nat.beq p 38) 12 10 _ _ _).trans rfl

set_option maxRecDepth 16384 in
theorem t_131_21 {d : Nat} {h : AH} (hs : Sh h) (x1 : Int32) (u2 : Option Value) (s0 : Int32) :
    Q d 131 21 [some (.ref 189), some (.int x1), u2] [.int s0] h =
  if s0 = nI 0 then
   some (none, h)
  else
   cK (E d 132 [.ref 189] (sI h 3595 189 ((gI h 3595 189) + (nI 1)))) (Q d 131 38 [some (.ref 189), some (.int x1), none]) [] := by
  rw [← hs.1]
  exact (blkM (fun p => Nat.beq p 38) 10 21 _ _ _).trans rfl

set_option maxRecDepth 16384 in
theorem t_131_38 {d : Nat} {h : AH} (hs : Sh h) (x1 : Int32) (u2 : Option Value) :
    Q d 131 38 [some (.ref 189), some (.int x1), u2] [] h =
  if x1 = nI 0 then
   cK (E d 130 [.ref 189, .int (nI 13), .int (nI 0)] h) (Q d 131 54 [none, none, none]) []
  else
   cK (E d 130 [.ref 189, .int (nI 12), .int (nI 0)] h) (Q d 131 54 [none, none, none]) [] := by
  rw [← hs.1]
  exact (blkM (fun p => Nat.beq p 54) 8 38 _ _ _).trans rfl

set_option maxRecDepth 16384 in
theorem t_131_54 {d : Nat} {h : AH} (hs : Sh h) (u0 : Option Value) (u1 : Option Value) (u2 : Option Value) (s0 : Int32) :
    Q d 131 54 [u0, u1, u2] [.int s0] h =
  some (none, h) := by
  rw [← hs.1]
  exact (blkM (fun p => false) 3 54 _ _ _).trans rfl

/-! 132 PostRoomModel.sum()V -/
set_option maxRecDepth 16384 in
theorem t_132 {d : Nat} {h : AH} (hs : Sh h)  :
    E (d + 1) 132 [.ref 189] h =
  cK (E d 133 [.ref 189] h) (Q d 132 4 [some (.ref 189), none, none]) [] := by
  rw [← hs.1]
  exact entL (l := [some (.ref 189), none, none]) rfl rfl ((blkM (fun p => Nat.beq p 4) 3 0 _ _ _).trans rfl)

set_option maxRecDepth 16384 in
theorem t_132_4 {d : Nat} {h : AH} (hs : Sh h)  :
    Q d 132 4 [some (.ref 189), none, none] [] h =
  cK (E d 58 [.ref 189, .int (nI 43)] h) (Q d 132 10 [some (.ref 189), none, none]) [] := by
  rw [← hs.1]
  exact (blkM (fun p => Nat.beq p 10) 4 4 _ _ _).trans rfl

set_option maxRecDepth 16384 in
theorem t_132_10 {d : Nat} {h : AH} (hs : Sh h) (u1 : Option Value) (u2 : Option Value) (s0 : Int32) :
    Q d 132 10 [some (.ref 189), u1, u2] [.int s0] h =
  if s0 = nI 0 then
   cK (E d 58 [.ref 189, .int (nI 45)] h) (Q d 132 19 [some (.ref 189), u1, u2]) []
  else
   cK (E d 58 [.ref 189, .int (nI 43)] h) (Q d 132 28 [some (.ref 189), none, none]) [] := by
  rw [← hs.1]
  exact (blkM (fun p => Nat.beq p 19 || Nat.beq p 28) 5 10 _ _ _).trans rfl

set_option maxRecDepth 16384 in
theorem t_132_19 {d : Nat} {h : AH} (hs : Sh h) (u1 : Option Value) (u2 : Option Value) (s0 : Int32) :
    Q d 132 19 [some (.ref 189), u1, u2] [.int s0] h =
  if s0 = nI 0 then
   some (none, h)
  else
   cK (E d 58 [.ref 189, .int (nI 43)] h) (Q d 132 28 [some (.ref 189), none, none]) [] := by
  rw [← hs.1]
  exact (blkM (fun p => Nat.beq p 28) 5 19 _ _ _).trans rfl

set_option maxRecDepth 16384 in
theorem t_132_28 {d : Nat} {h : AH} (hs : Sh h) (u1 : Option Value) (u2 : Option Value) (s0 : Int32) :
    Q d 132 28 [some (.ref 189), u1, u2] [.int s0] h =
  if s0 = nI 0 then
   cK (E d 133 [.ref 189] (sI h 3595 189 ((gI h 3595 189) + (nI 1)))) (Q d 132 53 [some (.ref 189), some (.int (nI 8)), none]) []
  else
   cK (E d 133 [.ref 189] (sI h 3595 189 ((gI h 3595 189) + (nI 1)))) (Q d 132 53 [some (.ref 189), some (.int (nI 7)), none]) [] := by
  rw [← hs.1]
  exact (blkM (fun p => Nat.beq p 53) 13 28 _ _ _).trans rfl

set_option maxRecDepth 16384 in
theorem t_132_53 {d : Nat} {h : AH} (hs : Sh h) (x1 : Int32) (u2 : Option Value) :
    Q d 132 53 [some (.ref 189), some (.int x1), u2] [] h =
  cK (E d 130 [.ref 189, .int x1, .int (nI 0)] h) (Q d 132 59 [some (.ref 189), some (.int x1), u2]) [] := by
  rw [← hs.1]
  exact (blkM (fun p => Nat.beq p 59) 5 53 _ _ _).trans rfl

set_option maxRecDepth 16384 in
theorem t_132_59 {d : Nat} {h : AH} (hs : Sh h) (u1 : Option Value) (u2 : Option Value) (s0 : Int32) :
    Q d 132 59 [some (.ref 189), u1, u2] [.int s0] h =
  Q d 132 4 [some (.ref 189), none, none] [] h := by
  rw [← hs.1]
  exact (blkM (fun p => Nat.beq p 4) 4 59 _ _ _).trans rfl

/-! 133 PostRoomModel.part()V -/
set_option maxRecDepth 16384 in
theorem t_133 {d : Nat} {h : AH} (hs : Sh h)  :
    E (d + 1) 133 [.ref 189] h =
  cK (E d 134 [.ref 189] h) (Q d 133 4 [some (.ref 189), none, none]) [] := by
  rw [← hs.1]
  exact entL (l := [some (.ref 189), none, none]) rfl rfl ((blkM (fun p => Nat.beq p 4) 3 0 _ _ _).trans rfl)

set_option maxRecDepth 16384 in
theorem t_133_4 {d : Nat} {h : AH} (hs : Sh h)  :
    Q d 133 4 [some (.ref 189), none, none] [] h =
  cK (E d 58 [.ref 189, .int (nI 42)] h) (Q d 133 10 [some (.ref 189), none, none]) [] := by
  rw [← hs.1]
  exact (blkM (fun p => Nat.beq p 10) 4 4 _ _ _).trans rfl

set_option maxRecDepth 16384 in
theorem t_133_10 {d : Nat} {h : AH} (hs : Sh h) (u1 : Option Value) (u2 : Option Value) (s0 : Int32) :
    Q d 133 10 [some (.ref 189), u1, u2] [.int s0] h =
  if s0 = nI 0 then
   cK (E d 58 [.ref 189, .int (nI 47)] h) (Q d 133 19 [some (.ref 189), u1, u2]) []
  else
   cK (E d 58 [.ref 189, .int (nI 42)] h) (Q d 133 37 [some (.ref 189), none, none]) [] := by
  rw [← hs.1]
  exact (blkM (fun p => Nat.beq p 19 || Nat.beq p 37) 5 10 _ _ _).trans rfl

set_option maxRecDepth 16384 in
theorem t_133_19 {d : Nat} {h : AH} (hs : Sh h) (u1 : Option Value) (u2 : Option Value) (s0 : Int32) :
    Q d 133 19 [some (.ref 189), u1, u2] [.int s0] h =
  if s0 = nI 0 then
   cK (E d 58 [.ref 189, .int (nI 37)] h) (Q d 133 28 [some (.ref 189), u1, u2]) []
  else
   cK (E d 58 [.ref 189, .int (nI 42)] h) (Q d 133 37 [some (.ref 189), none, none]) [] := by
  rw [← hs.1]
  exact (blkM (fun p => Nat.beq p 28 || Nat.beq p 37) 5 19 _ _ _).trans rfl

set_option maxRecDepth 16384 in
theorem t_133_37 {d : Nat} {h : AH} (hs : Sh h) (u1 : Option Value) (u2 : Option Value) (s0 : Int32) :
    Q d 133 37 [some (.ref 189), u1, u2] [.int s0] h =
  if s0 = nI 0 then
   cK (E d 58 [.ref 189, .int (nI 47)] h) (Q d 133 51 [some (.ref 189), u1, u2]) []
  else
   cK (E d 134 [.ref 189] (sI h 3595 189 ((gI h 3595 189) + (nI 1)))) (Q d 133 76 [some (.ref 189), some (.int (nI 9)), none]) [] := by
  rw [← hs.1]
  exact (blkM (fun p => Nat.beq p 51 || Nat.beq p 76) 13 37 _ _ _).trans rfl

set_option maxRecDepth 16384 in
theorem t_133_28 {d : Nat} {h : AH} (hs : Sh h) (u1 : Option Value) (u2 : Option Value) (s0 : Int32) :
    Q d 133 28 [some (.ref 189), u1, u2] [.int s0] h =
  if s0 = nI 0 then
   some (none, h)
  else
   cK (E d 58 [.ref 189, .int (nI 42)] h) (Q d 133 37 [some (.ref 189), none, none]) [] := by
  rw [← hs.1]
  exact (blkM (fun p => Nat.beq p 37) 5 28 _ _ _).trans rfl

set_option maxRecDepth 16384 in
theorem t_133_51 {d : Nat} {h : AH} (hs : Sh h) (u1 : Option Value) (u2 : Option Value) (s0 : Int32) :
    Q d 133 51 [some (.ref 189), u1, u2] [.int s0] h =
  if s0 = nI 0 then
   cK (E d 134 [.ref 189] (sI h 3595 189 ((gI h 3595 189) + (nI 1)))) (Q d 133 76 [some (.ref 189), some (.int (nI 11)), none]) []
  else
   cK (E d 134 [.ref 189] (sI h 3595 189 ((gI h 3595 189) + (nI 1)))) (Q d 133 76 [some (.ref 189), some (.int (nI 10)), none]) [] := by
  rw [← hs.1]
  exact (blkM (fun p => Nat.beq p 76) 13 51 _ _ _).trans rfl

set_option maxRecDepth 16384 in
theorem t_133_76 {d : Nat} {h : AH} (hs : Sh h) (x1 : Int32) (u2 : Option Value) :
    Q d 133 76 [some (.ref 189), some (.int x1), u2] [] h =
  cK (E d 130 [.ref 189, .int x1, .int (nI 0)] h) (Q d 133 82 [some (.ref 189), some (.int x1), u2]) [] := by
  rw [← hs.1]
  exact (blkM (fun p => Nat.beq p 82) 5 76 _ _ _).trans rfl

set_option maxRecDepth 16384 in
theorem t_133_82 {d : Nat} {h : AH} (hs : Sh h) (u1 : Option Value) (u2 : Option Value) (s0 : Int32) :
    Q d 133 82 [some (.ref 189), u1, u2] [.int s0] h =
  Q d 133 4 [some (.ref 189), none, none] [] h := by
  rw [← hs.1]
  exact (blkM (fun p => Nat.beq p 4) 4 82 _ _ _).trans rfl

/-! 134 PostRoomModel.unit()V -/
set_option maxRecDepth 16384 in
theorem t_134 {d : Nat} {h : AH} (hs : Sh h)  :
    E (d + 1) 134 [.ref 189] h =
  cK (E d 135 [.ref 189] h) (Q d 134 5 [some (.ref 189)]) [.ref 189] := by
  rw [← hs.1]
  exact entL (l := [some (.ref 189)]) rfl rfl ((blkM (fun p => Nat.beq p 5) 4 0 _ _ _).trans rfl)

set_option maxRecDepth 16384 in
theorem t_134_5 {d : Nat} {h : AH} (hs : Sh h) (s0 : Nat) (s1 : Int32) :
    Q d 134 5 [some (.ref 189)] [.int s1, .ref s0] h =
  (ck (gC h s0) 14 <|
  cK (E d 137 [.ref s0, .int s1] h) (Q d 134 8 [some (.ref 189)]) []) := by
  rw [← hs.1]
  exact (blkM (fun p => Nat.beq p 8) 2 5 _ _ _).trans rfl

set_option maxRecDepth 16384 in
theorem t_134_8 {d : Nat} {h : AH} (hs : Sh h)  :
    Q d 134 8 [some (.ref 189)] [] h =
  if gI h 3596 189 = nI 0 then
   cK (E d 138 [.ref 189] h) (Q d 134 19 [some (.ref 189)]) []
  else
   Q d 134 19 [some (.ref 189)] [] h := by
  rw [← hs.1]
  exact (blkM (fun p => Nat.beq p 19) 6 8 _ _ _).trans rfl

set_option maxRecDepth 16384 in
theorem t_134_19 {d : Nat} {h : AH} (hs : Sh h)  :
    Q d 134 19 [some (.ref 189)] [] h =
  some (none, sI h 3708 189 ((gI h 3708 189) - (nI 1))) := by
  rw [← hs.1]
  exact (blkM (fun p => false) 8 19 _ _ _).trans rfl

/-! 135 PostRoomModel.isUnit()Z -/
set_option maxRecDepth 16384 in
theorem t_135 {d : Nat} {h : AH} (hs : Sh h)  :
    E (d + 1) 135 [.ref 189] h =
  if gI h 3596 189 = nI 0 then
   gd (gI h 3595 189) 4002 <|
   if gA h 194 (ix (gI h 3595 189)) = nI 2 then
    Q d 135 67 [some (.ref 189), some (.int (nI 1)), some (.int (nI 49))] [] h
   else
    cK (E d 58 [.ref 189, .int (nI 40)] h) (Q d 135 26 [some (.ref 189), none, none]) []
  else
   Q d 135 67 [some (.ref 189), some (.int (nI 0)), some (.int (nI 49))] [] h := by
  rw [← hs.1]
  exact entL (l := [some (.ref 189), none, none]) rfl rfl ((blkM (fun p => Nat.beq p 26 || Nat.beq p 67) 17 0 _ _ _).trans rfl)

set_option maxRecDepth 16384 in
theorem t_135_26 {d : Nat} {h : AH} (hs : Sh h) (u1 : Option Value) (u2 : Option Value) (s0 : Int32) :
    Q d 135 26 [some (.ref 189), u1, u2] [.int s0] h =
  if s0 = nI 0 then
   cK (E d 58 [.ref 189, .int (nI 45)] h) (Q d 135 35 [some (.ref 189), u1, u2]) []
  else
   Q d 135 67 [some (.ref 189), some (.int (nI 1)), some (.int (nI 49))] [] h := by
  rw [← hs.1]
  exact (blkM (fun p => Nat.beq p 35 || Nat.beq p 67) 8 26 _ _ _).trans rfl

set_option maxRecDepth 16384 in
theorem t_135_67 {d : Nat} {h : AH} (hs : Sh h) (x1 : Int32) (x2 : Int32) :
    Q d 135 67 [some (.ref 189), some (.int x1), some (.int x2)] [] h =
  if (nI 58) < x2 then
   if x1 = 0 ∨ x1 = 1 then
    some (some (.int x1), h)
   else
    none
  else
   if x1 = nI 0 then
    cK (E d 45 [.ref 189, .int x2] h) (Q d 135 82 [some (.ref 189), some (.int x1), some (.int x2)]) []
   else
    if x1 = 0 ∨ x1 = 1 then
     some (some (.int x1), h)
    else
     none := by
  rw [← hs.1]
  exact (blkM (fun p => Nat.beq p 82) 9 67 _ _ _).trans rfl

set_option maxRecDepth 16384 in
theorem t_135_35 {d : Nat} {h : AH} (hs : Sh h) (u1 : Option Value) (u2 : Option Value) (s0 : Int32) :
    Q d 135 35 [some (.ref 189), u1, u2] [.int s0] h =
  if s0 = nI 0 then
   cK (E d 136 [.ref 189, .int (nI 18), .int (nI 9)] h) (Q d 135 46 [some (.ref 189), u1, u2]) []
  else
   Q d 135 67 [some (.ref 189), some (.int (nI 1)), some (.int (nI 49))] [] h := by
  rw [← hs.1]
  exact (blkM (fun p => Nat.beq p 46 || Nat.beq p 67) 8 35 _ _ _).trans rfl

set_option maxRecDepth 16384 in
theorem t_135_82 {d : Nat} {h : AH} (hs : Sh h) (x2 : Int32) (u1 : Option Value) (s0 : Int32) :
    Q d 135 82 [some (.ref 189), u1, some (.int x2)] [.int s0] h =
  Q d 135 67 [some (.ref 189), some (.int s0), some (.int (x2 + nI 1))] [] h := by
  rw [← hs.1]
  exact (blkM (fun p => Nat.beq p 67) 5 82 _ _ _).trans rfl

set_option maxRecDepth 16384 in
theorem t_135_46 {d : Nat} {h : AH} (hs : Sh h) (u1 : Option Value) (u2 : Option Value) (s0 : Int32) :
    Q d 135 46 [some (.ref 189), u1, u2] [.int s0] h =
  if s0 < nI 0 then
   cK (E d 45 [.ref 189, .int (nI 9)] h) (Q d 135 55 [some (.ref 189), u1, u2]) []
  else
   Q d 135 67 [some (.ref 189), some (.int (nI 1)), some (.int (nI 49))] [] h := by
  rw [← hs.1]
  exact (blkM (fun p => Nat.beq p 55 || Nat.beq p 67) 8 46 _ _ _).trans rfl

set_option maxRecDepth 16384 in
theorem t_135_55 {d : Nat} {h : AH} (hs : Sh h) (u1 : Option Value) (u2 : Option Value) (s0 : Int32) :
    Q d 135 55 [some (.ref 189), u1, u2] [.int s0] h =
  if s0 = nI 0 then
   Q d 135 67 [some (.ref 189), some (.int (nI 0)), some (.int (nI 49))] [] h
  else
   Q d 135 67 [some (.ref 189), some (.int (nI 1)), some (.int (nI 49))] [] h := by
  rw [← hs.1]
  exact (blkM (fun p => Nat.beq p 67) 8 55 _ _ _).trans rfl

/-! 136 PostRoomModel.registerAt(II)I -/
set_option maxRecDepth 16384 in
theorem t_136 {d : Nat} {h : AH} (hs : Sh h) (x1 : Int32) (x2 : Int32) :
    E (d + 1) 136 [.ref 189, .int x1, .int x2] h =
  if (nI 0) < gI h 3596 189 then
   some (some (.int (-1)), h)
  else
   gd (gI h 3595 189) 4002 <|
   if gA h 194 (ix (gI h 3595 189)) = nI 1 then
    gd (gI h 3595 189) 4002 <|
    dZ 37 <|
    if lg_cmp ((gB h 196 (ix (gI h 3595 189))) / 37) x1.toInt64 = nI 0 then
     gd (gI h 3595 189) 4002 <|
     dZ 37 <|
     if (((gB h 196 (ix (gI h 3595 189))) - (gB h 196 (ix (gI h 3595 189))) / 37 * 37).toInt32) - (nI 27) < nI 0 then
      some (some (.int (-1)), h)
     else
      if x2 < (((gB h 196 (ix (gI h 3595 189))) - (gB h 196 (ix (gI h 3595 189))) / 37 * 37).toInt32) - (nI 27) then
       some (some (.int (-1)), h)
      else
       some (some (.int ((((gB h 196 (ix (gI h 3595 189))) - (gB h 196 (ix (gI h 3595 189))) / 37 * 37).toInt32) - (nI 27))), h)
    else
     some (some (.int (-1)), h)
   else
    some (some (.int (-1)), h) := by
  rw [← hs.1]
  exact entL (l := [some (.ref 189), some (.int x1), some (.int x2), none]) rfl rfl ((blkM (fun p => false) 41 0 _ _ _).trans rfl)

/-! 137 PostRoomModel.within(Z)V -/
set_option maxRecDepth 16384 in
theorem t_137 {d : Nat} {h : AH} (hs : Sh h) (x1 : Int32) :
    E (d + 1) 137 [.ref 189, .int x1] h =
  if x1 = nI 0 then
   cK (E d 48 [.ref 189, .int (nI 1)] h) (Q d 137 9 [some (.ref 189), some (.int x1)]) []
  else
   if gI h 3708 189 = nI 20 then
    cK (E d 48 [.ref 189, .int (nI 5)] h) (Q d 137 26 [some (.ref 189), none]) []
   else
    Q d 137 26 [some (.ref 189), none] [] h := by
  rw [← hs.1]
  exact entL (l := [some (.ref 189), some (.int x1)]) rfl rfl ((blkM (fun p => Nat.beq p 9 || Nat.beq p 26) 10 0 _ _ _).trans rfl)

set_option maxRecDepth 16384 in
theorem t_137_9 {d : Nat} {h : AH} (hs : Sh h) (u1 : Option Value) :
    Q d 137 9 [some (.ref 189), u1] [] h =
  Q d 137 26 [some (.ref 189), none] [] h := by
  rw [← hs.1]
  exact (blkM (fun p => Nat.beq p 26) 3 9 _ _ _).trans rfl

set_option maxRecDepth 16384 in
theorem t_137_26 {d : Nat} {h : AH} (hs : Sh h)  :
    Q d 137 26 [some (.ref 189), none] [] h =
  some (none, sI h 3708 189 ((gI h 3708 189) + (nI 1))) := by
  rw [← hs.1]
  exact (blkM (fun p => false) 8 26 _ _ _).trans rfl

/-! 138 PostRoomModel.unitWithin()V -/
set_option maxRecDepth 16384 in
theorem t_138 {d : Nat} {h : AH} (hs : Sh h)  :
    E (d + 1) 138 [.ref 189] h =
  cK (E d 136 [.ref 189, .int (nI 18), .int (nI 9)] h) (Q d 138 8 [some (.ref 189), none, none]) [] := by
  rw [← hs.1]
  exact entL (l := [some (.ref 189), none, none]) rfl rfl ((blkM (fun p => Nat.beq p 8) 5 0 _ _ _).trans rfl)

set_option maxRecDepth 16384 in
theorem t_138_8 {d : Nat} {h : AH} (hs : Sh h) (u1 : Option Value) (u2 : Option Value) (s0 : Int32) :
    Q d 138 8 [some (.ref 189), u1, u2] [.int s0] h =
  if s0 < nI 0 then
   gd (gI h 3595 189) 4002 <|
   if gA h 194 (ix (gI h 3595 189)) = nI 2 then
    gd (gI h 3595 189) 4002 <|
    cK (E d 130 [.ref 189, .int (nI 1), .int ((gB h 196 (ix (gI h 3595 189))).toInt32)] h) (Q d 138 61 [some (.ref 189), klV u1, some (.int s0)]) []
   else
    cK (E d 58 [.ref 189, .int (nI 40)] h) (Q d 138 81 [some (.ref 189), klV u1, some (.int s0)]) []
  else
   cK (E d 130 [.ref 189, .int (nI 2), .int s0] (sI h 3595 189 ((gI h 3595 189) + (nI 1)))) (Q d 138 29 [some (.ref 189), klV u1, some (.int s0)]) [] := by
  rw [← hs.1]
  exact (blkM (fun p => Nat.beq p 29 || Nat.beq p 61 || Nat.beq p 81) 20 8 _ _ _).trans rfl

set_option maxRecDepth 16384 in
theorem t_138_29 {d : Nat} {h : AH} (hs : Sh h) (u0 : Option Value) (u1 : Option Value) (u2 : Option Value) (s0 : Int32) :
    Q d 138 29 [u0, u1, u2] [.int s0] h =
  Q d 138 173 [none, none, none] [] h := by
  rw [← hs.1]
  exact (blkM (fun p => Nat.beq p 173) 4 29 _ _ _).trans rfl

set_option maxRecDepth 16384 in
theorem t_138_61 {d : Nat} {h : AH} (hs : Sh h) (u1 : Option Value) (u2 : Option Value) (s0 : Int32) :
    Q d 138 61 [some (.ref 189), u1, u2] [.int s0] h =
  Q d 138 173 [none, none, none] [] (sI h 3595 189 ((gI h 3595 189) + (nI 1))) := by
  rw [← hs.1]
  exact (blkM (fun p => Nat.beq p 173) 10 61 _ _ _).trans rfl

set_option maxRecDepth 16384 in
theorem t_138_81 {d : Nat} {h : AH} (hs : Sh h) (u1 : Option Value) (u2 : Option Value) (s0 : Int32) :
    Q d 138 81 [some (.ref 189), u1, u2] [.int s0] h =
  if s0 = nI 0 then
   cK (E d 58 [.ref 189, .int (nI 45)] h) (Q d 138 113 [some (.ref 189), u1, u2]) []
  else
   cK (E d 131 [.ref 189] (sI h 3595 189 ((gI h 3595 189) + (nI 1)))) (Q d 138 98 [some (.ref 189), u1, u2]) [] := by
  rw [← hs.1]
  exact (blkM (fun p => Nat.beq p 98 || Nat.beq p 113) 10 81 _ _ _).trans rfl

set_option maxRecDepth 16384 in
theorem t_138_173 {d : Nat} {h : AH} (hs : Sh h)  :
    Q d 138 173 [none, none, none] [] h =
  some (none, h) := by
  rw [← hs.1]
  exact (blkM (fun p => false) 2 173 _ _ _).trans rfl

set_option maxRecDepth 16384 in
theorem t_138_98 {d : Nat} {h : AH} (hs : Sh h) (u1 : Option Value) (u2 : Option Value) :
    Q d 138 98 [some (.ref 189), u1, u2] [] h =
  cK (E d 61 [.ref 189, .int (nI 41)] h) (Q d 138 104 [some (.ref 189), u1, u2]) [] := by
  rw [← hs.1]
  exact (blkM (fun p => Nat.beq p 104) 4 98 _ _ _).trans rfl

set_option maxRecDepth 16384 in
theorem t_138_113 {d : Nat} {h : AH} (hs : Sh h) (u1 : Option Value) (u2 : Option Value) (s0 : Int32) :
    Q d 138 113 [some (.ref 189), u1, u2] [.int s0] h =
  if s0 = nI 0 then
   cK (E d 55 [.ref 189, .int (nI 9)] h) (Q d 138 147 [some (.ref 189), u1, u2]) []
  else
   cK (E d 134 [.ref 189] (sI h 3595 189 ((gI h 3595 189) + (nI 1)))) (Q d 138 130 [some (.ref 189), u1, u2]) [] := by
  rw [← hs.1]
  exact (blkM (fun p => Nat.beq p 130 || Nat.beq p 147) 10 113 _ _ _).trans rfl

set_option maxRecDepth 16384 in
theorem t_138_104 {d : Nat} {h : AH} (hs : Sh h) (u0 : Option Value) (u1 : Option Value) (u2 : Option Value) :
    Q d 138 104 [u0, u1, u2] [] h =
  Q d 138 173 [none, none, none] [] h := by
  rw [← hs.1]
  exact (blkM (fun p => Nat.beq p 173) 3 104 _ _ _).trans rfl

set_option maxRecDepth 16384 in
theorem t_138_130 {d : Nat} {h : AH} (hs : Sh h) (u1 : Option Value) (u2 : Option Value) :
    Q d 138 130 [some (.ref 189), u1, u2] [] h =
  cK (E d 130 [.ref 189, .int (nI 6), .int (nI 0)] h) (Q d 138 137 [some (.ref 189), u1, u2]) [] := by
  rw [← hs.1]
  exact (blkM (fun p => Nat.beq p 137) 5 130 _ _ _).trans rfl

set_option maxRecDepth 16384 in
theorem t_138_147 {d : Nat} {h : AH} (hs : Sh h) (u1 : Option Value) (u2 : Option Value) (s0 : Int32) :
    Q d 138 147 [some (.ref 189), u1, u2] [.int s0] h =
  if s0 = nI 0 then
   cK (E d 141 [.ref 189] h) (Q d 138 173 [none, none, none]) []
  else
   cK (E d 139 [.ref 189] h) (Q d 138 154 [some (.ref 189), u1, u2]) [] := by
  rw [← hs.1]
  exact (blkM (fun p => Nat.beq p 154 || Nat.beq p 173) 4 147 _ _ _).trans rfl

set_option maxRecDepth 16384 in
theorem t_138_137 {d : Nat} {h : AH} (hs : Sh h) (u0 : Option Value) (u1 : Option Value) (u2 : Option Value) (s0 : Int32) :
    Q d 138 137 [u0, u1, u2] [.int s0] h =
  Q d 138 173 [none, none, none] [] h := by
  rw [← hs.1]
  exact (blkM (fun p => Nat.beq p 173) 4 137 _ _ _).trans rfl

set_option maxRecDepth 16384 in
theorem t_138_154 {d : Nat} {h : AH} (hs : Sh h) (u1 : Option Value) (u2 : Option Value) :
    Q d 138 154 [some (.ref 189), u1, u2] [] h =
  cK (E d 140 [.ref 189] h) (Q d 138 158 [some (.ref 189), u1, u2]) [] := by
  rw [← hs.1]
  exact (blkM (fun p => Nat.beq p 158) 3 154 _ _ _).trans rfl

set_option maxRecDepth 16384 in
theorem t_138_158 {d : Nat} {h : AH} (hs : Sh h) (u1 : Option Value) (u2 : Option Value) :
    Q d 138 158 [some (.ref 189), u1, u2] [] h =
  cK (E d 130 [.ref 189, .int (nI 17), .int (nI 0)] h) (Q d 138 165 [some (.ref 189), u1, u2]) [] := by
  rw [← hs.1]
  exact (blkM (fun p => Nat.beq p 165) 5 158 _ _ _).trans rfl

set_option maxRecDepth 16384 in
theorem t_138_165 {d : Nat} {h : AH} (hs : Sh h) (u0 : Option Value) (u1 : Option Value) (u2 : Option Value) (s0 : Int32) :
    Q d 138 165 [u0, u1, u2] [.int s0] h =
  Q d 138 173 [none, none, none] [] h := by
  rw [← hs.1]
  exact (blkM (fun p => Nat.beq p 173) 4 165 _ _ _).trans rfl

/-! 139 PostRoomModel.trayPart()V -/
set_option maxRecDepth 16384 in
theorem t_139 {d : Nat} {h : AH} (hs : Sh h)  :
    E (d + 1) 139 [.ref 189] h =
  cK (E d 61 [.ref 189, .int (nI 64)] h) (Q d 139 6 [some (.ref 189), none]) [] := by
  rw [← hs.1]
  exact entL (l := [some (.ref 189), none]) rfl rfl ((blkM (fun p => Nat.beq p 6) 4 0 _ _ _).trans rfl)

set_option maxRecDepth 16384 in
theorem t_139_6 {d : Nat} {h : AH} (hs : Sh h) (u1 : Option Value) :
    Q d 139 6 [some (.ref 189), u1] [] h =
  cK (E d 134 [.ref 189] h) (Q d 139 10 [some (.ref 189), u1]) [] := by
  rw [← hs.1]
  exact (blkM (fun p => Nat.beq p 10) 3 6 _ _ _).trans rfl

set_option maxRecDepth 16384 in
theorem t_139_10 {d : Nat} {h : AH} (hs : Sh h) (u1 : Option Value) :
    Q d 139 10 [some (.ref 189), u1] [] h =
  cK (E d 130 [.ref 189, .int (nI 14), .int (nI 0)] h) (Q d 139 17 [some (.ref 189), u1]) [] := by
  rw [← hs.1]
  exact (blkM (fun p => Nat.beq p 17) 5 10 _ _ _).trans rfl

set_option maxRecDepth 16384 in
theorem t_139_17 {d : Nat} {h : AH} (hs : Sh h) (u0 : Option Value) (u1 : Option Value) (s0 : Int32) :
    Q d 139 17 [u0, u1] [.int s0] h =
  some (none, h) := by
  rw [← hs.1]
  exact (blkM (fun p => false) 3 17 _ _ _).trans rfl

/-! 140 PostRoomModel.indexed()V -/
set_option maxRecDepth 16384 in
theorem t_140 {d : Nat} {h : AH} (hs : Sh h)  :
    E (d + 1) 140 [.ref 189] h =
  cK (E d 61 [.ref 189, .int (nI 91)] h) (Q d 140 6 [some (.ref 189)]) [] := by
  rw [← hs.1]
  exact entL (l := [some (.ref 189)]) rfl rfl ((blkM (fun p => Nat.beq p 6) 4 0 _ _ _).trans rfl)

set_option maxRecDepth 16384 in
theorem t_140_6 {d : Nat} {h : AH} (hs : Sh h)  :
    Q d 140 6 [some (.ref 189)] [] h =
  cK (E d 131 [.ref 189] h) (Q d 140 10 [some (.ref 189)]) [] := by
  rw [← hs.1]
  exact (blkM (fun p => Nat.beq p 10) 3 6 _ _ _).trans rfl

set_option maxRecDepth 16384 in
theorem t_140_10 {d : Nat} {h : AH} (hs : Sh h)  :
    Q d 140 10 [some (.ref 189)] [] h =
  cK (E d 61 [.ref 189, .int (nI 93)] h) (Q d 140 16 [some (.ref 189)]) [] := by
  rw [← hs.1]
  exact (blkM (fun p => Nat.beq p 16) 4 10 _ _ _).trans rfl

set_option maxRecDepth 16384 in
theorem t_140_16 {d : Nat} {h : AH} (hs : Sh h) (u0 : Option Value) :
    Q d 140 16 [u0] [] h =
  some (none, h) := by
  rw [← hs.1]
  exact (blkM (fun p => false) 2 16 _ _ _).trans rfl

/-! 141 PostRoomModel.asked()V -/
set_option maxRecDepth 16384 in
theorem t_141 {d : Nat} {h : AH} (hs : Sh h)  :
    E (d + 1) 141 [.ref 189] h =
  cK (E d 56 [.ref 189, .int (nI 49), .int (nI 58)] h) (Q d 141 10 [some (.ref 189), none, none]) [.int (nI 49)] := by
  rw [← hs.1]
  exact entL (l := [some (.ref 189), none, none]) rfl rfl ((blkM (fun p => Nat.beq p 10) 6 0 _ _ _).trans rfl)

set_option maxRecDepth 16384 in
theorem t_141_10 {d : Nat} {h : AH} (hs : Sh h) (u1 : Option Value) (u2 : Option Value) (s0 : Int32) (s1 : Int32) :
    Q d 141 10 [some (.ref 189), u1, u2] [.int s1, .int s0] h =
  if s0 + s1 = nI 49 then
   cK (E d 139 [.ref 189] h) (Q d 141 28 [some (.ref 189), some (.int (s0 + s1)), none]) []
  else
   if s0 + s1 = nI 50 then
    cK (E d 139 [.ref 189] h) (Q d 141 28 [some (.ref 189), some (.int (s0 + s1)), none]) []
   else
    if (nI 55) < s0 + s1 then
     if s0 + s1 = nI 56 then
      cK (E d 130 [.ref 189, .int (nI 23), .int (nI 0)] h) (Q d 141 144 [none, none, none]) []
     else
      if s0 + s1 = nI 57 then
       cK (E d 130 [.ref 189, .int (nI 24), .int (nI 0)] h) (Q d 141 144 [none, none, none]) []
      else
       cK (E d 130 [.ref 189, .int (nI 25), .int (nI 0)] h) (Q d 141 144 [none, none, none]) []
    else
     cK (E d 142 [.ref 189] h) (Q d 141 60 [some (.ref 189), some (.int (s0 + s1)), u2]) [] := by
  rw [← hs.1]
  exact (blkM (fun p => Nat.beq p 28 || Nat.beq p 60 || Nat.beq p 144) 23 10 _ _ _).trans rfl

set_option maxRecDepth 16384 in
theorem t_141_28 {d : Nat} {h : AH} (hs : Sh h) (x1 : Int32) (u2 : Option Value) :
    Q d 141 28 [some (.ref 189), some (.int x1), u2] [] h =
  if x1 = nI 49 then
   cK (E d 130 [.ref 189, .int (nI 15), .int (nI 0)] h) (Q d 141 46 [none, none, none]) []
  else
   cK (E d 130 [.ref 189, .int (nI 16), .int (nI 0)] h) (Q d 141 46 [none, none, none]) [] := by
  rw [← hs.1]
  exact (blkM (fun p => Nat.beq p 46) 9 28 _ _ _).trans rfl

set_option maxRecDepth 16384 in
theorem t_141_60 {d : Nat} {h : AH} (hs : Sh h) (x1 : Int32) (u2 : Option Value) :
    Q d 141 60 [some (.ref 189), some (.int x1), u2] [] h =
  if x1 = nI 51 then
   cK (E d 130 [.ref 189, .int (nI 18), .int (nI 0)] h) (Q d 141 111 [none, none, none]) []
  else
   if x1 = nI 52 then
    cK (E d 130 [.ref 189, .int (nI 19), .int (nI 0)] h) (Q d 141 111 [none, none, none]) []
   else
    if x1 = nI 53 then
     cK (E d 130 [.ref 189, .int (nI 20), .int (nI 0)] h) (Q d 141 111 [none, none, none]) []
    else
     if x1 = nI 54 then
      cK (E d 130 [.ref 189, .int (nI 21), .int (nI 0)] h) (Q d 141 111 [none, none, none]) []
     else
      cK (E d 130 [.ref 189, .int (nI 22), .int (nI 0)] h) (Q d 141 111 [none, none, none]) [] := by
  rw [← hs.1]
  exact (blkM (fun p => Nat.beq p 111) 18 60 _ _ _).trans rfl

set_option maxRecDepth 16384 in
theorem t_141_144 {d : Nat} {h : AH} (hs : Sh h) (u0 : Option Value) (u1 : Option Value) (u2 : Option Value) (s0 : Int32) :
    Q d 141 144 [u0, u1, u2] [.int s0] h =
  some (none, h) := by
  rw [← hs.1]
  exact (blkM (fun p => false) 3 144 _ _ _).trans rfl

set_option maxRecDepth 16384 in
theorem t_141_46 {d : Nat} {h : AH} (hs : Sh h) (u0 : Option Value) (u1 : Option Value) (u2 : Option Value) (s0 : Int32) :
    Q d 141 46 [u0, u1, u2] [.int s0] h =
  some (none, h) := by
  rw [← hs.1]
  exact (blkM (fun p => false) 4 46 _ _ _).trans rfl

set_option maxRecDepth 16384 in
theorem t_141_111 {d : Nat} {h : AH} (hs : Sh h) (u0 : Option Value) (u1 : Option Value) (u2 : Option Value) (s0 : Int32) :
    Q d 141 111 [u0, u1, u2] [.int s0] h =
  some (none, h) := by
  rw [← hs.1]
  exact (blkM (fun p => false) 4 111 _ _ _).trans rfl

/-! 142 PostRoomModel.itemPart()V -/
set_option maxRecDepth 16384 in
theorem t_142 {d : Nat} {h : AH} (hs : Sh h)  :
    E (d + 1) 142 [.ref 189] h =
  cK (E d 136 [.ref 189, .int (nI 24), .int (nI 3)] h) (Q d 142 7 [some (.ref 189), none, none]) [] := by
  rw [← hs.1]
  exact entL (l := [some (.ref 189), none, none]) rfl rfl ((blkM (fun p => Nat.beq p 7) 5 0 _ _ _).trans rfl)

set_option maxRecDepth 16384 in
theorem t_142_7 {d : Nat} {h : AH} (hs : Sh h) (u1 : Option Value) (u2 : Option Value) (s0 : Int32) :
    Q d 142 7 [some (.ref 189), u1, u2] [.int s0] h =
  if s0 < nI 0 then
   cK (E d 45 [.ref 189, .int (nI 59)] h) (Q d 142 18 [some (.ref 189), some (.int s0), u2]) []
  else
   cK (E d 137 [.ref 189, .int (nI 1)] h) (Q d 142 77 [some (.ref 189), some (.int s0), some (.int (nI 1))]) [] := by
  rw [← hs.1]
  exact (blkM (fun p => Nat.beq p 18 || Nat.beq p 77) 10 7 _ _ _).trans rfl

set_option maxRecDepth 16384 in
theorem t_142_18 {d : Nat} {h : AH} (hs : Sh h) (x1 : Int32) (u2 : Option Value) (s0 : Int32) :
    Q d 142 18 [some (.ref 189), some (.int x1), u2] [.int s0] h =
  if s0 = nI 0 then
   cK (E d 45 [.ref 189, .int (nI 60)] h) (Q d 142 27 [some (.ref 189), some (.int x1), u2]) []
  else
   cK (E d 137 [.ref 189, .int (nI 1)] h) (Q d 142 77 [some (.ref 189), some (.int x1), some (.int (nI 1))]) [] := by
  rw [← hs.1]
  exact (blkM (fun p => Nat.beq p 27 || Nat.beq p 77) 8 18 _ _ _).trans rfl

set_option maxRecDepth 16384 in
theorem t_142_77 {d : Nat} {h : AH} (hs : Sh h) (x1 : Int32) (u2 : Option Value) :
    Q d 142 77 [some (.ref 189), some (.int x1), u2] [] h =
  if gI h 3596 189 = nI 0 then
   cK (E d 143 [.ref 189, .int x1] h) (Q d 142 89 [some (.ref 189), none, none]) []
  else
   Q d 142 89 [some (.ref 189), none, none] [] h := by
  rw [← hs.1]
  exact (blkM (fun p => Nat.beq p 89) 7 77 _ _ _).trans rfl

set_option maxRecDepth 16384 in
theorem t_142_27 {d : Nat} {h : AH} (hs : Sh h) (x1 : Int32) (u2 : Option Value) (s0 : Int32) :
    Q d 142 27 [some (.ref 189), some (.int x1), u2] [.int s0] h =
  if s0 = nI 0 then
   cK (E d 45 [.ref 189, .int (nI 61)] h) (Q d 142 36 [some (.ref 189), some (.int x1), u2]) []
  else
   cK (E d 137 [.ref 189, .int (nI 1)] h) (Q d 142 77 [some (.ref 189), some (.int x1), some (.int (nI 1))]) [] := by
  rw [← hs.1]
  exact (blkM (fun p => Nat.beq p 36 || Nat.beq p 77) 8 27 _ _ _).trans rfl

set_option maxRecDepth 16384 in
theorem t_142_89 {d : Nat} {h : AH} (hs : Sh h)  :
    Q d 142 89 [some (.ref 189), none, none] [] h =
  some (none, sI h 3708 189 ((gI h 3708 189) - (nI 1))) := by
  rw [← hs.1]
  exact (blkM (fun p => false) 8 89 _ _ _).trans rfl

set_option maxRecDepth 16384 in
theorem t_142_36 {d : Nat} {h : AH} (hs : Sh h) (x1 : Int32) (u2 : Option Value) (s0 : Int32) :
    Q d 142 36 [some (.ref 189), some (.int x1), u2] [.int s0] h =
  if s0 = nI 0 then
   cK (E d 45 [.ref 189, .int (nI 16)] h) (Q d 142 45 [some (.ref 189), some (.int x1), u2]) []
  else
   cK (E d 137 [.ref 189, .int (nI 1)] h) (Q d 142 77 [some (.ref 189), some (.int x1), some (.int (nI 1))]) [] := by
  rw [← hs.1]
  exact (blkM (fun p => Nat.beq p 45 || Nat.beq p 77) 8 36 _ _ _).trans rfl

set_option maxRecDepth 16384 in
theorem t_142_45 {d : Nat} {h : AH} (hs : Sh h) (x1 : Int32) (u2 : Option Value) (s0 : Int32) :
    Q d 142 45 [some (.ref 189), some (.int x1), u2] [.int s0] h =
  if s0 = nI 0 then
   cK (E d 45 [.ref 189, .int (nI 17)] h) (Q d 142 54 [some (.ref 189), some (.int x1), u2]) []
  else
   cK (E d 137 [.ref 189, .int (nI 1)] h) (Q d 142 77 [some (.ref 189), some (.int x1), some (.int (nI 1))]) [] := by
  rw [← hs.1]
  exact (blkM (fun p => Nat.beq p 54 || Nat.beq p 77) 8 45 _ _ _).trans rfl

set_option maxRecDepth 16384 in
theorem t_142_54 {d : Nat} {h : AH} (hs : Sh h) (x1 : Int32) (u2 : Option Value) (s0 : Int32) :
    Q d 142 54 [some (.ref 189), some (.int x1), u2] [.int s0] h =
  if s0 = nI 0 then
   cK (E d 45 [.ref 189, .int (nI 18)] h) (Q d 142 63 [some (.ref 189), some (.int x1), u2]) []
  else
   cK (E d 137 [.ref 189, .int (nI 1)] h) (Q d 142 77 [some (.ref 189), some (.int x1), some (.int (nI 1))]) [] := by
  rw [← hs.1]
  exact (blkM (fun p => Nat.beq p 63 || Nat.beq p 77) 8 54 _ _ _).trans rfl

set_option maxRecDepth 16384 in
theorem t_142_63 {d : Nat} {h : AH} (hs : Sh h) (x1 : Int32) (u2 : Option Value) (s0 : Int32) :
    Q d 142 63 [some (.ref 189), some (.int x1), u2] [.int s0] h =
  if s0 = nI 0 then
   cK (E d 137 [.ref 189, .int (nI 0)] h) (Q d 142 77 [some (.ref 189), some (.int x1), some (.int (nI 0))]) []
  else
   cK (E d 137 [.ref 189, .int (nI 1)] h) (Q d 142 77 [some (.ref 189), some (.int x1), some (.int (nI 1))]) [] := by
  rw [← hs.1]
  exact (blkM (fun p => Nat.beq p 77) 8 63 _ _ _).trans rfl

/-! 143 PostRoomModel.itemWithin(I)V -/
set_option maxRecDepth 16384 in
theorem t_143 {d : Nat} {h : AH} (hs : Sh h) (x1 : Int32) :
    E (d + 1) 143 [.ref 189, .int x1] h =
  if x1 < nI 0 then
   cK (E d 55 [.ref 189, .int (nI 59)] h) (Q d 143 30 [some (.ref 189), some (.int x1), none, none]) []
  else
   cK (E d 130 [.ref 189, .int (nI 4), .int x1] (sI h 3595 189 ((gI h 3595 189) + (nI 1)))) (Q d 143 20 [some (.ref 189), some (.int x1), none, none]) [] := by
  rw [← hs.1]
  exact entL (l := [some (.ref 189), some (.int x1), none, none]) rfl rfl ((blkM (fun p => Nat.beq p 20 || Nat.beq p 30) 13 0 _ _ _).trans rfl)

set_option maxRecDepth 16384 in
theorem t_143_20 {d : Nat} {h : AH} (hs : Sh h) (u0 : Option Value) (u1 : Option Value) (u2 : Option Value) (u3 : Option Value) (s0 : Int32) :
    Q d 143 20 [u0, u1, u2, u3] [.int s0] h =
  some (none, h) := by
  rw [← hs.1]
  exact (blkM (fun p => false) 4 20 _ _ _).trans rfl

set_option maxRecDepth 16384 in
theorem t_143_30 {d : Nat} {h : AH} (hs : Sh h) (u1 : Option Value) (u2 : Option Value) (u3 : Option Value) (s0 : Int32) :
    Q d 143 30 [some (.ref 189), u1, u2, u3] [.int s0] h =
  if s0 = nI 0 then
   cK (E d 55 [.ref 189, .int (nI 60)] h) (Q d 143 49 [some (.ref 189), u1, u2, u3]) []
  else
   cK (E d 130 [.ref 189, .int (nI 1), .int (-1)] h) (Q d 143 39 [some (.ref 189), u1, u2, u3]) [] := by
  rw [← hs.1]
  exact (blkM (fun p => Nat.beq p 39 || Nat.beq p 49) 6 30 _ _ _).trans rfl

set_option maxRecDepth 16384 in
theorem t_143_39 {d : Nat} {h : AH} (hs : Sh h) (u0 : Option Value) (u1 : Option Value) (u2 : Option Value) (u3 : Option Value) (s0 : Int32) :
    Q d 143 39 [u0, u1, u2, u3] [.int s0] h =
  some (none, h) := by
  rw [← hs.1]
  exact (blkM (fun p => false) 4 39 _ _ _).trans rfl

set_option maxRecDepth 16384 in
theorem t_143_49 {d : Nat} {h : AH} (hs : Sh h) (u1 : Option Value) (u2 : Option Value) (u3 : Option Value) (s0 : Int32) :
    Q d 143 49 [some (.ref 189), u1, u2, u3] [.int s0] h =
  if s0 = nI 0 then
   cK (E d 55 [.ref 189, .int (nI 61)] h) (Q d 143 73 [some (.ref 189), u1, u2, u3]) []
  else
   cK (E d 134 [.ref 189] h) (Q d 143 56 [some (.ref 189), u1, u2, u3]) [] := by
  rw [← hs.1]
  exact (blkM (fun p => Nat.beq p 56 || Nat.beq p 73) 5 49 _ _ _).trans rfl

set_option maxRecDepth 16384 in
theorem t_143_56 {d : Nat} {h : AH} (hs : Sh h) (u1 : Option Value) (u2 : Option Value) (u3 : Option Value) :
    Q d 143 56 [some (.ref 189), u1, u2, u3] [] h =
  cK (E d 130 [.ref 189, .int (nI 26), .int (nI 0)] h) (Q d 143 63 [some (.ref 189), u1, u2, u3]) [] := by
  rw [← hs.1]
  exact (blkM (fun p => Nat.beq p 63) 5 56 _ _ _).trans rfl

set_option maxRecDepth 16384 in
theorem t_143_73 {d : Nat} {h : AH} (hs : Sh h) (u1 : Option Value) (u2 : Option Value) (u3 : Option Value) (s0 : Int32) :
    Q d 143 73 [some (.ref 189), u1, u2, u3] [.int s0] h =
  if s0 = nI 0 then
   cK (E d 56 [.ref 189, .int (nI 16), .int (nI 18)] h) (Q d 143 103 [some (.ref 189), u1, u2, u3]) []
  else
   cK (E d 139 [.ref 189] h) (Q d 143 80 [some (.ref 189), u1, u2, u3]) [] := by
  rw [← hs.1]
  exact (blkM (fun p => Nat.beq p 80 || Nat.beq p 103) 6 73 _ _ _).trans rfl

set_option maxRecDepth 16384 in
theorem t_143_63 {d : Nat} {h : AH} (hs : Sh h) (u0 : Option Value) (u1 : Option Value) (u2 : Option Value) (u3 : Option Value) (s0 : Int32) :
    Q d 143 63 [u0, u1, u2, u3] [.int s0] h =
  some (none, h) := by
  rw [← hs.1]
  exact (blkM (fun p => false) 4 63 _ _ _).trans rfl

set_option maxRecDepth 16384 in
theorem t_143_80 {d : Nat} {h : AH} (hs : Sh h) (u1 : Option Value) (u2 : Option Value) (u3 : Option Value) :
    Q d 143 80 [some (.ref 189), u1, u2, u3] [] h =
  cK (E d 140 [.ref 189] h) (Q d 143 84 [some (.ref 189), u1, u2, u3]) [] := by
  rw [← hs.1]
  exact (blkM (fun p => Nat.beq p 84) 3 80 _ _ _).trans rfl

set_option maxRecDepth 16384 in
theorem t_143_103 {d : Nat} {h : AH} (hs : Sh h) (u1 : Option Value) (u2 : Option Value) (u3 : Option Value) (s0 : Int32) :
    Q d 143 103 [some (.ref 189), u1, u2, u3] [.int s0] h =
  cK (E d 142 [.ref 189] h) (Q d 143 108 [some (.ref 189), u1, klV u2, some (.int s0)]) [] := by
  rw [← hs.1]
  exact (blkM (fun p => Nat.beq p 108) 4 103 _ _ _).trans rfl

set_option maxRecDepth 16384 in
theorem t_143_84 {d : Nat} {h : AH} (hs : Sh h) (u1 : Option Value) (u2 : Option Value) (u3 : Option Value) :
    Q d 143 84 [some (.ref 189), u1, u2, u3] [] h =
  cK (E d 130 [.ref 189, .int (nI 27), .int (nI 0)] h) (Q d 143 91 [some (.ref 189), u1, u2, u3]) [] := by
  rw [← hs.1]
  exact (blkM (fun p => Nat.beq p 91) 5 84 _ _ _).trans rfl

set_option maxRecDepth 16384 in
theorem t_143_108 {d : Nat} {h : AH} (hs : Sh h) (x3 : Int32) (u1 : Option Value) (u2 : Option Value) :
    Q d 143 108 [some (.ref 189), u1, u2, some (.int x3)] [] h =
  cK (E d 130 [.ref 189, .int (nI 28), .int x3] h) (Q d 143 115 [some (.ref 189), u1, u2, some (.int x3)]) [] := by
  rw [← hs.1]
  exact (blkM (fun p => Nat.beq p 115) 5 108 _ _ _).trans rfl

set_option maxRecDepth 16384 in
theorem t_143_91 {d : Nat} {h : AH} (hs : Sh h) (u0 : Option Value) (u1 : Option Value) (u2 : Option Value) (u3 : Option Value) (s0 : Int32) :
    Q d 143 91 [u0, u1, u2, u3] [.int s0] h =
  some (none, h) := by
  rw [← hs.1]
  exact (blkM (fun p => false) 4 91 _ _ _).trans rfl

set_option maxRecDepth 16384 in
theorem t_143_115 {d : Nat} {h : AH} (hs : Sh h) (u0 : Option Value) (u1 : Option Value) (u2 : Option Value) (u3 : Option Value) (s0 : Int32) :
    Q d 143 115 [u0, u1, u2, u3] [.int s0] h =
  some (none, h) := by
  rw [← hs.1]
  exact (blkM (fun p => false) 3 115 _ _ _).trans rfl

/-! 144 PostRoomModel.block()V -/
set_option maxRecDepth 16384 in
theorem t_144 {d : Nat} {h : AH} (hs : Sh h)  :
    E (d + 1) 144 [.ref 189] h =
  cK (E d 58 [.ref 189, .int (nI 123)] h) (Q d 144 7 [some (.ref 189)]) [.ref 189] := by
  rw [← hs.1]
  exact entL (l := [some (.ref 189)]) rfl rfl ((blkM (fun p => Nat.beq p 7) 5 0 _ _ _).trans rfl)

set_option maxRecDepth 16384 in
theorem t_144_7 {d : Nat} {h : AH} (hs : Sh h) (s0 : Nat) (s1 : Int32) :
    Q d 144 7 [some (.ref 189)] [.int s1, .ref s0] h =
  (ck (gC h s0) 14 <|
  cK (E d 137 [.ref s0, .int s1] h) (Q d 144 10 [some (.ref 189)]) []) := by
  rw [← hs.1]
  exact (blkM (fun p => Nat.beq p 10) 2 7 _ _ _).trans rfl

set_option maxRecDepth 16384 in
theorem t_144_10 {d : Nat} {h : AH} (hs : Sh h)  :
    Q d 144 10 [some (.ref 189)] [] h =
  cK (E d 61 [.ref 189, .int (nI 123)] h) (Q d 144 16 [some (.ref 189)]) [] := by
  rw [← hs.1]
  exact (blkM (fun p => Nat.beq p 16) 4 10 _ _ _).trans rfl

set_option maxRecDepth 16384 in
theorem t_144_16 {d : Nat} {h : AH} (hs : Sh h)  :
    Q d 144 16 [some (.ref 189)] [] h =
  if gI h 3596 189 = nI 0 then
   cK (E d 58 [.ref 189, .int (nI 125)] h) (Q d 144 29 [some (.ref 189)]) []
  else
   cK (E d 61 [.ref 189, .int (nI 125)] h) (Q d 144 45 [some (.ref 189)]) [] := by
  rw [← hs.1]
  exact (blkM (fun p => Nat.beq p 29 || Nat.beq p 45) 7 16 _ _ _).trans rfl

set_option maxRecDepth 16384 in
theorem t_144_29 {d : Nat} {h : AH} (hs : Sh h) (s0 : Int32) :
    Q d 144 29 [some (.ref 189)] [.int s0] h =
  if s0 = nI 0 then
   cK (E d 128 [.ref 189] h) (Q d 144 36 [some (.ref 189)]) []
  else
   cK (E d 61 [.ref 189, .int (nI 125)] h) (Q d 144 45 [some (.ref 189)]) [] := by
  rw [← hs.1]
  exact (blkM (fun p => Nat.beq p 36 || Nat.beq p 45) 5 29 _ _ _).trans rfl

set_option maxRecDepth 16384 in
theorem t_144_45 {d : Nat} {h : AH} (hs : Sh h)  :
    Q d 144 45 [some (.ref 189)] [] h =
  some (none, sI h 3708 189 ((gI h 3708 189) - (nI 1))) := by
  rw [← hs.1]
  exact (blkM (fun p => false) 8 45 _ _ _).trans rfl

set_option maxRecDepth 16384 in
theorem t_144_36 {d : Nat} {h : AH} (hs : Sh h)  :
    Q d 144 36 [some (.ref 189)] [] h =
  Q d 144 16 [some (.ref 189)] [] h := by
  rw [← hs.1]
  exact (blkM (fun p => Nat.beq p 16) 3 36 _ _ _).trans rfl

/-! 145 PostRoomModel.here(I)V -/
set_option maxRecDepth 16384 in
theorem t_145 {d : Nat} {h : AH} (hs : Sh h) (x1 : Int32) :
    E (d + 1) 145 [.ref 189, .int x1] h =
  (gd ((gI h 3698 189) + x1) 8800 <|
  some (none, sA h 275 (ix ((gI h 3698 189) + x1)) (gI h 3697 189))) := by
  rw [← hs.1]
  exact entL (l := [some (.ref 189), some (.int x1)]) rfl rfl ((blkM (fun p => false) 11 0 _ _ _).trans rfl)

/-! 146 PostRoomModel.choice()V -/
set_option maxRecDepth 16384 in
theorem t_146 {d : Nat} {h : AH} (hs : Sh h)  :
    E (d + 1) 146 [.ref 189] h =
  cK (E d 131 [.ref 189] h) (Q d 146 4 [some (.ref 189), none, none]) [] := by
  rw [← hs.1]
  exact entL (l := [some (.ref 189), none, none]) rfl rfl ((blkM (fun p => Nat.beq p 4) 3 0 _ _ _).trans rfl)

set_option maxRecDepth 16384 in
theorem t_146_4 {d : Nat} {h : AH} (hs : Sh h) (u1 : Option Value) (u2 : Option Value) :
    Q d 146 4 [some (.ref 189), u1, u2] [] h =
  cK (E d 130 [.ref 189, .int (nI 40), .int (nI 0)] h) (Q d 146 11 [some (.ref 189), u1, u2]) [] := by
  rw [← hs.1]
  exact (blkM (fun p => Nat.beq p 11) 5 4 _ _ _).trans rfl

set_option maxRecDepth 16384 in
theorem t_146_11 {d : Nat} {h : AH} (hs : Sh h) (u1 : Option Value) (u2 : Option Value) (s0 : Int32) :
    Q d 146 11 [some (.ref 189), u1, u2] [.int s0] h =
  cK (E d 144 [.ref 189] h) (Q d 146 16 [some (.ref 189), some (.int s0), u2]) [] := by
  rw [← hs.1]
  exact (blkM (fun p => Nat.beq p 16) 4 11 _ _ _).trans rfl

set_option maxRecDepth 16384 in
theorem t_146_16 {d : Nat} {h : AH} (hs : Sh h) (x1 : Int32) (u2 : Option Value) :
    Q d 146 16 [some (.ref 189), some (.int x1), u2] [] h =
  cK (E d 55 [.ref 189, .int (nI 44)] h) (Q d 146 22 [some (.ref 189), some (.int x1), u2]) [] := by
  rw [← hs.1]
  exact (blkM (fun p => Nat.beq p 22) 4 16 _ _ _).trans rfl

set_option maxRecDepth 16384 in
theorem t_146_22 {d : Nat} {h : AH} (hs : Sh h) (x1 : Int32) (u2 : Option Value) (s0 : Int32) :
    Q d 146 22 [some (.ref 189), some (.int x1), u2] [.int s0] h =
  if s0 = nI 0 then
   cK (E d 145 [.ref 189, .int x1] h) (Q d 146 55 [none, none, none]) []
  else
   cK (E d 130 [.ref 189, .int (nI 39), .int (nI 0)] h) (Q d 146 32 [some (.ref 189), some (.int x1), u2]) [] := by
  rw [← hs.1]
  exact (blkM (fun p => Nat.beq p 32 || Nat.beq p 55) 6 22 _ _ _).trans rfl

set_option maxRecDepth 16384 in
theorem t_146_32 {d : Nat} {h : AH} (hs : Sh h) (x1 : Int32) (u2 : Option Value) (s0 : Int32) :
    Q d 146 32 [some (.ref 189), some (.int x1), u2] [.int s0] h =
  cK (E d 145 [.ref 189, .int x1] h) (Q d 146 38 [some (.ref 189), some (.int x1), some (.int s0)]) [] := by
  rw [← hs.1]
  exact (blkM (fun p => Nat.beq p 38) 5 32 _ _ _).trans rfl

set_option maxRecDepth 16384 in
theorem t_146_55 {d : Nat} {h : AH} (hs : Sh h)  :
    Q d 146 55 [none, none, none] [] h =
  some (none, h) := by
  rw [← hs.1]
  exact (blkM (fun p => false) 2 55 _ _ _).trans rfl

set_option maxRecDepth 16384 in
theorem t_146_38 {d : Nat} {h : AH} (hs : Sh h) (x2 : Int32) (u1 : Option Value) :
    Q d 146 38 [some (.ref 189), u1, some (.int x2)] [] h =
  cK (E d 144 [.ref 189] h) (Q d 146 42 [some (.ref 189), u1, some (.int x2)]) [] := by
  rw [← hs.1]
  exact (blkM (fun p => Nat.beq p 42) 3 38 _ _ _).trans rfl

set_option maxRecDepth 16384 in
theorem t_146_42 {d : Nat} {h : AH} (hs : Sh h) (x2 : Int32) (u1 : Option Value) :
    Q d 146 42 [some (.ref 189), u1, some (.int x2)] [] h =
  cK (E d 145 [.ref 189, .int x2] h) (Q d 146 47 [some (.ref 189), u1, some (.int x2)]) [] := by
  rw [← hs.1]
  exact (blkM (fun p => Nat.beq p 47) 4 42 _ _ _).trans rfl

set_option maxRecDepth 16384 in
theorem t_146_47 {d : Nat} {h : AH} (hs : Sh h) (u0 : Option Value) (u1 : Option Value) (u2 : Option Value) :
    Q d 146 47 [u0, u1, u2] [] h =
  Q d 146 55 [none, none, none] [] h := by
  rw [← hs.1]
  exact (blkM (fun p => Nat.beq p 55) 3 47 _ _ _).trans rfl

/-! 147 PostRoomModel.trial()V -/
set_option maxRecDepth 16384 in
theorem t_147 {d : Nat} {h : AH} (hs : Sh h)  :
    E (d + 1) 147 [.ref 189] h =
  if (nI 0) < gI h 3596 189 then
   some (none, h)
  else
   cK (E d 130 [.ref 189, .int (nI 41), .int (((nI 820) * ((nI 1) - (gI h 3696 189))) + (gI h 3701 189))] (sI h 3701 189 ((gI h 3701 189) + (nI 1)))) (Q d 147 41 [some (.ref 189), some (.int (((nI 820) * ((nI 1) - (gI h 3696 189))) + (gI h 3701 189))), none, none]) [] := by
  rw [← hs.1]
  exact entL (l := [some (.ref 189), none, none, none]) rfl rfl ((blkM (fun p => Nat.beq p 41) 24 0 _ _ _).trans rfl)

set_option maxRecDepth 16384 in
theorem t_147_41 {d : Nat} {h : AH} (hs : Sh h) (x1 : Int32) (u2 : Option Value) (u3 : Option Value) (s0 : Int32) :
    Q d 147 41 [some (.ref 189), some (.int x1), u2, u3] [.int s0] h =
  cK (E d 144 [.ref 189] h) (Q d 147 46 [some (.ref 189), some (.int x1), some (.int s0), u3]) [] := by
  rw [← hs.1]
  exact (blkM (fun p => Nat.beq p 46) 4 41 _ _ _).trans rfl

set_option maxRecDepth 16384 in
theorem t_147_46 {d : Nat} {h : AH} (hs : Sh h) (x1 : Int32) (u2 : Option Value) (u3 : Option Value) :
    Q d 147 46 [some (.ref 189), some (.int x1), u2, u3] [] h =
  cK (E d 130 [.ref 189, .int (nI 42), .int x1] h) (Q d 147 53 [some (.ref 189), some (.int x1), u2, u3]) [] := by
  rw [← hs.1]
  exact (blkM (fun p => Nat.beq p 53) 5 46 _ _ _).trans rfl

set_option maxRecDepth 16384 in
theorem t_147_53 {d : Nat} {h : AH} (hs : Sh h) (x1 : Int32) (u2 : Option Value) (u3 : Option Value) (s0 : Int32) :
    Q d 147 53 [some (.ref 189), some (.int x1), u2, u3] [.int s0] h =
  (gd x1 1640 <|
  Q d 147 63 [some (.ref 189), some (.int x1), none, some (.int (-1))] [] (sA h 276 (ix x1) (-1))) := by
  rw [← hs.1]
  exact (blkM (fun p => Nat.beq p 63) 10 53 _ _ _).trans rfl

set_option maxRecDepth 16384 in
theorem t_147_63 {d : Nat} {h : AH} (hs : Sh h) (x1 : Int32) (x3 : Int32) :
    Q d 147 63 [some (.ref 189), some (.int x1), none, some (.int x3)] [] h =
  cK (E d 55 [.ref 189, .int (nI 47)] h) (Q d 147 69 [some (.ref 189), some (.int x1), none, some (.int x3)]) [] := by
  rw [← hs.1]
  exact (blkM (fun p => Nat.beq p 69) 4 63 _ _ _).trans rfl

set_option maxRecDepth 16384 in
theorem t_147_69 {d : Nat} {h : AH} (hs : Sh h) (x1 : Int32) (x3 : Int32) (u2 : Option Value) (s0 : Int32) :
    Q d 147 69 [some (.ref 189), some (.int x1), u2, some (.int x3)] [.int s0] h =
  if s0 = nI 0 then
   gd x1 1640 <|
   cK (E d 55 [.ref 189, .int (nI 48)] (sA h 277 (ix x1) (-1))) (Q d 147 95 [some (.ref 189), some (.int x1), u2, some (.int x3)]) []
  else
   cK (E d 148 [.ref 189, .int x1, .int x3] h) (Q d 147 78 [some (.ref 189), some (.int x1), u2, some (.int x3)]) [] := by
  rw [← hs.1]
  exact (blkM (fun p => Nat.beq p 78 || Nat.beq p 95) 10 69 _ _ _).trans rfl

set_option maxRecDepth 16384 in
theorem t_147_78 {d : Nat} {h : AH} (hs : Sh h) (x1 : Int32) (u2 : Option Value) (u3 : Option Value) (s0 : Int32) :
    Q d 147 78 [some (.ref 189), some (.int x1), u2, u3] [.int s0] h =
  Q d 147 63 [some (.ref 189), some (.int x1), none, some (.int s0)] [] h := by
  rw [← hs.1]
  exact (blkM (fun p => Nat.beq p 63) 4 78 _ _ _).trans rfl

set_option maxRecDepth 16384 in
theorem t_147_95 {d : Nat} {h : AH} (hs : Sh h) (x1 : Int32) (u2 : Option Value) (u3 : Option Value) (s0 : Int32) :
    Q d 147 95 [some (.ref 189), some (.int x1), u2, u3] [.int s0] h =
  if s0 = nI 0 then
   gd x1 1640 <|
   some (none, sA h 278 (ix x1) (gI h 3697 189))
  else
   gd x1 1640 <|
   cK (E d 144 [.ref 189] (sA h 277 (ix x1) (gI h 3697 189))) (Q d 147 112 [some (.ref 189), some (.int x1), u2, u3]) [] := by
  rw [← hs.1]
  exact (blkM (fun p => Nat.beq p 112) 10 95 _ _ _).trans rfl

set_option maxRecDepth 16384 in
theorem t_147_112 {d : Nat} {h : AH} (hs : Sh h) (x1 : Int32) (u2 : Option Value) (u3 : Option Value) :
    Q d 147 112 [some (.ref 189), some (.int x1), u2, u3] [] h =
  cK (E d 130 [.ref 189, .int (nI 43), .int x1] h) (Q d 147 119 [some (.ref 189), some (.int x1), u2, u3]) [] := by
  rw [← hs.1]
  exact (blkM (fun p => Nat.beq p 119) 5 112 _ _ _).trans rfl

set_option maxRecDepth 16384 in
theorem t_147_119 {d : Nat} {h : AH} (hs : Sh h) (x1 : Int32) (u2 : Option Value) (u3 : Option Value) (s0 : Int32) :
    Q d 147 119 [some (.ref 189), some (.int x1), u2, u3] [.int s0] h =
  (gd x1 1640 <|
  some (none, sA h 278 (ix x1) (gI h 3697 189))) := by
  rw [← hs.1]
  exact (blkM (fun p => false) 9 119 _ _ _).trans rfl

/-! 148 PostRoomModel.on(II)I -/
set_option maxRecDepth 16384 in
theorem t_148 {d : Nat} {h : AH} (hs : Sh h) (x1 : Int32) (x2 : Int32) :
    E (d + 1) 148 [.ref 189, .int x1, .int x2] h =
  cK (E d 50 [.ref 189, .int (nI 0), .int (nI 9)] h) (Q d 148 7 [some (.ref 189), some (.int x1), some (.int x2), none, none, none]) [] := by
  rw [← hs.1]
  exact entL (l := [some (.ref 189), some (.int x1), some (.int x2), none, none, none]) rfl rfl ((blkM (fun p => Nat.beq p 7) 5 0 _ _ _).trans rfl)

set_option maxRecDepth 16384 in
theorem t_148_7 {d : Nat} {h : AH} (hs : Sh h) (x1 : Int32) (x2 : Int32) (u3 : Option Value) (u4 : Option Value) (u5 : Option Value) (s0 : Int32) :
    Q d 148 7 [some (.ref 189), some (.int x1), some (.int x2), u3, u4, u5] [.int s0] h =
  if (nI 0) < gI h 3596 189 then
   some (some (.int x2), h)
  else
   gd (((nI 700) * ((nI 1) - (gI h 3696 189))) + (gI h 3702 189)) 1400 <|
   gd (((nI 700) * ((nI 1) - (gI h 3696 189))) + (gI h 3702 189)) 1400 <|
   gd (((nI 700) * ((nI 1) - (gI h 3696 189))) + (gI h 3702 189)) 1400 <|
   if x2 < nI 0 then
    gd x1 1640 <|
    cK (E d 144 [.ref 189] (sA (sA (sA (sA (sI h 3702 189 ((gI h 3702 189) + (nI 1))) 279 (ix (((nI 700) * ((nI 1) - (gI h 3696 189))) + (gI h 3702 189))) s0) 280 (ix (((nI 700) * ((nI 1) - (gI h 3696 189))) + (gI h 3702 189))) (gI h 3697 189)) 281 (ix (((nI 700) * ((nI 1) - (gI h 3696 189))) + (gI h 3702 189))) (-1)) 276 (ix x1) (((nI 700) * ((nI 1) - (gI h 3696 189))) + (gI h 3702 189)))) (Q d 148 98 [some (.ref 189), some (.int x1), none, none, some (.int (((nI 700) * ((nI 1) - (gI h 3696 189))) + (gI h 3702 189))), none]) []
   else
    gd x2 1400 <|
    cK (E d 144 [.ref 189] (sA (sA (sA (sA (sI h 3702 189 ((gI h 3702 189) + (nI 1))) 279 (ix (((nI 700) * ((nI 1) - (gI h 3696 189))) + (gI h 3702 189))) s0) 280 (ix (((nI 700) * ((nI 1) - (gI h 3696 189))) + (gI h 3702 189))) (gI h 3697 189)) 281 (ix (((nI 700) * ((nI 1) - (gI h 3696 189))) + (gI h 3702 189))) (-1)) 281 (ix x2) (((nI 700) * ((nI 1) - (gI h 3696 189))) + (gI h 3702 189)))) (Q d 148 98 [some (.ref 189), some (.int x1), none, none, some (.int (((nI 700) * ((nI 1) - (gI h 3696 189))) + (gI h 3702 189))), none]) [] := by
  rw [← hs.1]
  exact (blkM (fun p => Nat.beq p 98) 47 7 _ _ _).trans rfl

set_option maxRecDepth 16384 in
theorem t_148_98 {d : Nat} {h : AH} (hs : Sh h) (x1 : Int32) (x4 : Int32) (u2 : Option Value) (u3 : Option Value) (u5 : Option Value) :
    Q d 148 98 [some (.ref 189), some (.int x1), u2, u3, some (.int x4), u5] [] h =
  cK (E d 130 [.ref 189, .int (nI 42), .int x1] h) (Q d 148 105 [some (.ref 189), some (.int x1), u2, u3, some (.int x4), u5]) [] := by
  rw [← hs.1]
  exact (blkM (fun p => Nat.beq p 105) 5 98 _ _ _).trans rfl

set_option maxRecDepth 16384 in
theorem t_148_105 {d : Nat} {h : AH} (hs : Sh h) (x4 : Int32) (u0 : Option Value) (u1 : Option Value) (u2 : Option Value) (u3 : Option Value) (u5 : Option Value) (s0 : Int32) :
    Q d 148 105 [u0, u1, u2, u3, some (.int x4), u5] [.int s0] h =
  some (some (.int x4), h) := by
  rw [← hs.1]
  exact (blkM (fun p => false) 4 105 _ _ _).trans rfl

