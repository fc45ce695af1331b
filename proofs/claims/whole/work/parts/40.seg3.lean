/-! ===== THE METHODS, PIECE BY PIECE: 3 (made by wip/gen/gen40.py) ===== -/
/-! 125 PostRoomModel.reckonWalk(I)V -/
set_option maxRecDepth 16384 in
theorem t_125 {d : Nat} {h : AH} (hs : Sh h) (x1 : Int32) :
    E (d + 1) 125 [.ref 189, .int x1] h =
  (gd ((16 * (gI h 3597 189)) + x1) 32 <|
  gd ((16 * (gI h 3597 189)) + x1) 32 <|
  Q d 125 53 [some (.ref 189), none, some (.int (((1 : Int32) <<< ((gI h 3691 189) &&& 31)) - 1)), some (.int (((1 : Int32) <<< ((gI h 3691 189) &&& 31)) - 1)), none, none, none] [] (sA (sA h 269 8 (gA h 200 (ix ((16 * (gI h 3597 189)) + x1)))) 270 8 (gA h 201 (ix ((16 * (gI h 3597 189)) + x1))))) := by
  rw [← hs.1]
  exact ent rfl ((blkM (fun p => Nat.beq p 53) 37 0 _ _ _).trans rfl)

set_option maxRecDepth 16384 in
theorem t_125_53 {d : Nat} {h : AH} (hs : Sh h) (x2 : Int32) (x3 : Int32) :
    Q d 125 53 [some (.ref 189), none, some (.int x2), some (.int x3), none, none, none] [] h =
  if x3 < 0 then
   some (none, h)
  else
   Q d 125 60 [some (.ref 189), none, some (.int x2), some (.int x3), some (.int 0), none, none] [] h := by
  rw [← hs.1]
  exact (blkM (fun p => Nat.beq p 60) 6 53 _ _ _).trans rfl

set_option maxRecDepth 16384 in
theorem t_125_60 {d : Nat} {h : AH} (hs : Sh h) (x2 : Int32) (x3 : Int32) (x4 : Int32) :
    Q d 125 60 [some (.ref 189), none, some (.int x2), some (.int x3), some (.int x4), none, none] [] h =
  if x4 < 9 then
   if x3 = x2 then
    cK (E d 126 [.ref 189, .int x4, .int 8] h) (Q d 125 80 [some (.ref 189), none, some (.int x2), some (.int x3), some (.int x4), none, none]) []
   else
    Q d 125 91 [some (.ref 189), none, some (.int x2), some (.int x3), some (.int x4), some (.int 2000000000), some (.int 0)] [] h
  else
   Q d 125 53 [some (.ref 189), none, some (.int x2), some (.int (x3 + (-1))), none, none, none] [] h := by
  rw [← hs.1]
  exact (blkM (fun p => Nat.beq p 53 || Nat.beq p 80 || Nat.beq p 91) 12 60 _ _ _).trans rfl

set_option maxRecDepth 16384 in
theorem t_125_80 {d : Nat} {h : AH} (hs : Sh h) (x2 : Int32) (x3 : Int32) (x4 : Int32) (u1 : Option Value) (u5 : Option Value) (u6 : Option Value) (s0 : Int32) :
    Q d 125 80 [some (.ref 189), u1, some (.int x2), some (.int x3), some (.int x4), u5, u6] [.int s0] h =
  Q d 125 91 [some (.ref 189), none, some (.int x2), some (.int x3), some (.int x4), some (.int s0), some (.int 0)] [] h := by
  rw [← hs.1]
  exact (blkM (fun p => Nat.beq p 91) 6 80 _ _ _).trans rfl

set_option maxRecDepth 16384 in
theorem t_125_91 {d : Nat} {h : AH} (hs : Sh h) (x2 : Int32) (x3 : Int32) (x4 : Int32) (x5 : Int32) (x6 : Int32) :
    Q d 125 91 [some (.ref 189), none, some (.int x2), some (.int x3), some (.int x4), some (.int x5), some (.int x6)] [] h =
  if x6 < gI h 3691 189 then
   if (x3 >>> (x6 &&& 31)) &&& 1 = 0 then
    cK (E d 126 [.ref 189, .int x4, .int x6] h) (Q d 125 119 [some (.ref 189), none, some (.int x2), some (.int x3), some (.int x4), some (.int x5), some (.int x6)]) [.int x5]
   else
    Q d 125 91 [some (.ref 189), none, some (.int x2), some (.int x3), some (.int x4), some (.int x5), some (.int (x6 + 1))] [] h
  else
   gd ((9 * x3) + x4) 2304 <|
   Q d 125 60 [some (.ref 189), none, some (.int x2), some (.int x3), some (.int (x4 + 1)), none, none] [] (sA h 273 (ix ((9 * x3) + x4)) x5) := by
  rw [← hs.1]
  exact (blkM (fun p => Nat.beq p 60 || Nat.beq p 91 || Nat.beq p 119) 17 91 _ _ _).trans rfl

set_option maxRecDepth 16384 in
theorem t_125_119 {d : Nat} {h : AH} (hs : Sh h) (x2 : Int32) (x3 : Int32) (x4 : Int32) (x6 : Int32) (u1 : Option Value) (u5 : Option Value) (s0 : Int32) (s1 : Int32) :
    Q d 125 119 [some (.ref 189), u1, some (.int x2), some (.int x3), some (.int x4), u5, some (.int x6)] [.int s1, .int s0] h =
  (gd ((9 * (x3 ||| ((1 : Int32) <<< (x6 &&& 31)))) + x6) 2304 <|
  cK (E d 78 [.int s0, .int (s1 + (gA h 273 (ix ((9 * (x3 ||| ((1 : Int32) <<< (x6 &&& 31)))) + x6))))] h) (Q d 125 140 [some (.ref 189), u1, some (.int x2), some (.int x3), some (.int x4), u5, some (.int x6)]) []) := by
  rw [← hs.1]
  exact (blkM (fun p => Nat.beq p 140) 15 119 _ _ _).trans rfl

set_option maxRecDepth 16384 in
theorem t_125_140 {d : Nat} {h : AH} (hs : Sh h) (x2 : Int32) (x3 : Int32) (x4 : Int32) (x6 : Int32) (u1 : Option Value) (u5 : Option Value) (s0 : Int32) :
    Q d 125 140 [some (.ref 189), u1, some (.int x2), some (.int x3), some (.int x4), u5, some (.int x6)] [.int s0] h =
  Q d 125 91 [some (.ref 189), none, some (.int x2), some (.int x3), some (.int x4), some (.int s0), some (.int (x6 + 1))] [] h := by
  rw [← hs.1]
  exact (blkM (fun p => Nat.beq p 91) 5 140 _ _ _).trans rfl

/-! 126 PostRoomModel.between(II)I -/
set_option maxRecDepth 16384 in
theorem t_126 {d : Nat} {h : AH} (hs : Sh h) (x1 : Int32) (x2 : Int32) :
    E (d + 1) 126 [.ref 189, .int x1, .int x2] h =
  (gd x1 9 <|
  gd x2 9 <|
  cK (E d 77 [.int (gA h 269 (ix x1)), .int (gA h 269 (ix x2))] h) (Q d 126 15 [some (.ref 189), some (.int x1), some (.int x2)]) []) := by
  rw [← hs.1]
  exact ent rfl ((blkM (fun p => Nat.beq p 15) 10 0 _ _ _).trans rfl)

set_option maxRecDepth 16384 in
theorem t_126_15 {d : Nat} {h : AH} (hs : Sh h) (x1 : Int32) (x2 : Int32) (s0 : Int32) :
    Q d 126 15 [some (.ref 189), some (.int x1), some (.int x2)] [.int s0] h =
  (gd x1 9 <|
  gd x2 9 <|
  cK (E d 77 [.int (gA h 270 (ix x1)), .int (gA h 270 (ix x2))] h) (Q d 126 30 [some (.ref 189), some (.int x1), some (.int x2)]) [.int s0]) := by
  rw [← hs.1]
  exact (blkM (fun p => Nat.beq p 30) 10 15 _ _ _).trans rfl

set_option maxRecDepth 16384 in
theorem t_126_30 {d : Nat} {h : AH} (hs : Sh h) (u0 : Option Value) (u1 : Option Value) (u2 : Option Value) (s0 : Int32) (s1 : Int32) :
    Q d 126 30 [u0, u1, u2] [.int s1, .int s0] h =
  some (some (.int (s0 + s1)), h) := by
  rw [← hs.1]
  exact (blkM (fun p => false) 3 30 _ _ _).trans rfl

/-! 127 PostRoomModel.programme()I -/
set_option maxRecDepth 16384 in
theorem t_127 {d : Nat} {h : AH} (hs : Sh h)  :
    E (d + 1) 127 [.ref 189] h =
  cK (E d 36 [.ref 189] (sI h 3586 189 0)) (Q d 127 9 [some (.ref 189), none]) [] := by
  rw [← hs.1]
  exact ent rfl ((blkM (fun p => Nat.beq p 9) 6 0 _ _ _).trans rfl)

set_option maxRecDepth 16384 in
theorem t_127_9 {d : Nat} {h : AH} (hs : Sh h) (u1 : Option Value) :
    Q d 127 9 [some (.ref 189), u1] [] h =
  cK (E d 37 [.ref 189] h) (Q d 127 13 [some (.ref 189), u1]) [] := by
  rw [← hs.1]
  exact (blkM (fun p => Nat.beq p 13) 3 9 _ _ _).trans rfl

set_option maxRecDepth 16384 in
theorem t_127_13 {d : Nat} {h : AH} (hs : Sh h) (u1 : Option Value) :
    Q d 127 13 [some (.ref 189), u1] [] h =
  Q d 127 47 [some (.ref 189), none] [] (sI (sI (sI (sI (sI h 3697 189 0) 3698 189 (4400 * (1 - (gI h 3696 189)))) 3701 189 0) 3702 189 0) 3708 189 0) := by
  rw [← hs.1]
  exact (blkM (fun p => Nat.beq p 47) 22 13 _ _ _).trans rfl

set_option maxRecDepth 16384 in
theorem t_127_47 {d : Nat} {h : AH} (hs : Sh h)  :
    Q d 127 47 [some (.ref 189), none] [] h =
  if gI h 3596 189 = 0 then
   gd (gI h 3595 189) 4002 <|
   if gA h 194 (ix (gI h 3595 189)) = 0 then
    if (0 : Int32) < gI h 3596 189 then
     some (some (.int (gI h 3596 189)), h)
    else
     cK (E d 130 [.ref 189, .int 44, .int 0] h) (Q d 127 92 [some (.ref 189), none]) []
   else
    cK (E d 128 [.ref 189] h) (Q d 127 70 [some (.ref 189), none]) []
  else
   if (0 : Int32) < gI h 3596 189 then
    some (some (.int (gI h 3596 189)), h)
   else
    cK (E d 130 [.ref 189, .int 44, .int 0] h) (Q d 127 92 [some (.ref 189), none]) [] := by
  rw [← hs.1]
  exact (blkM (fun p => Nat.beq p 70 || Nat.beq p 92) 17 47 _ _ _).trans rfl

set_option maxRecDepth 16384 in
theorem t_127_70 {d : Nat} {h : AH} (hs : Sh h) (u1 : Option Value) :
    Q d 127 70 [some (.ref 189), u1] [] h =
  Q d 127 47 [some (.ref 189), none] [] h := by
  rw [← hs.1]
  exact (blkM (fun p => Nat.beq p 47) 3 70 _ _ _).trans rfl

set_option maxRecDepth 16384 in
theorem t_127_92 {d : Nat} {h : AH} (hs : Sh h) (u1 : Option Value) (s0 : Int32) :
    Q d 127 92 [some (.ref 189), u1] [.int s0] h =
  some (some (.int 0), sI (sI h 3696 189 (1 - (gI h 3696 189))) 3695 189 1) := by
  rw [← hs.1]
  exact (blkM (fun p => false) 13 92 _ _ _).trans rfl

/-! 128 PostRoomModel.statement()V -/
set_option maxRecDepth 16384 in
theorem t_128 {d : Nat} {h : AH} (hs : Sh h)  :
    E (d + 1) 128 [.ref 189] h =
  cK (E d 45 [.ref 189, .int 45] h) (Q d 128 6 [some (.ref 189), none, none, none]) [] := by
  rw [← hs.1]
  exact ent rfl ((blkM (fun p => Nat.beq p 6) 4 0 _ _ _).trans rfl)

set_option maxRecDepth 16384 in
theorem t_128_6 {d : Nat} {h : AH} (hs : Sh h) (u1 : Option Value) (u2 : Option Value) (u3 : Option Value) (s0 : Int32) :
    Q d 128 6 [some (.ref 189), u1, u2, u3] [.int s0] h =
  if s0 = 0 then
   cK (E d 130 [.ref 189, .int 38, .int 0] h) (Q d 128 21 [some (.ref 189), u1, u2, u3]) []
  else
   cK (E d 129 [.ref 189] h) (Q d 128 13 [some (.ref 189), u1, u2, u3]) [] := by
  rw [← hs.1]
  exact (blkM (fun p => Nat.beq p 13 || Nat.beq p 21) 6 6 _ _ _).trans rfl

set_option maxRecDepth 16384 in
theorem t_128_13 {d : Nat} {h : AH} (hs : Sh h) (u0 : Option Value) (u1 : Option Value) (u2 : Option Value) (u3 : Option Value) :
    Q d 128 13 [u0, u1, u2, u3] [] h =
  some (none, h) := by
  rw [← hs.1]
  exact (blkM (fun p => false) 2 13 _ _ _).trans rfl

set_option maxRecDepth 16384 in
theorem t_128_21 {d : Nat} {h : AH} (hs : Sh h) (u1 : Option Value) (u2 : Option Value) (u3 : Option Value) (s0 : Int32) :
    Q d 128 21 [some (.ref 189), u1, u2, u3] [.int s0] h =
  cK (E d 136 [.ref 189, .int 18, .int 9] h) (Q d 128 30 [some (.ref 189), some (.int s0), u2, u3]) [] := by
  rw [← hs.1]
  exact (blkM (fun p => Nat.beq p 30) 6 21 _ _ _).trans rfl

set_option maxRecDepth 16384 in
theorem t_128_30 {d : Nat} {h : AH} (hs : Sh h) (u1 : Option Value) (u2 : Option Value) (u3 : Option Value) (s0 : Int32) :
    Q d 128 30 [some (.ref 189), u1, u2, u3] [.int s0] h =
  cK (E d 136 [.ref 189, .int 24, .int 3] h) (Q d 128 38 [some (.ref 189), klV u1, some (.int s0), u3]) [] := by
  rw [← hs.1]
  exact (blkM (fun p => Nat.beq p 38) 6 30 _ _ _).trans rfl

set_option maxRecDepth 16384 in
theorem t_128_38 {d : Nat} {h : AH} (hs : Sh h) (x2 : Int32) (u1 : Option Value) (u3 : Option Value) (s0 : Int32) :
    Q d 128 38 [some (.ref 189), u1, some (.int x2), u3] [.int s0] h =
  if x2 < 0 then
   if s0 < 0 then
    cK (E d 55 [.ref 189, .int 43] h) (Q d 128 113 [some (.ref 189), u1, some (.int x2), some (.int s0)]) []
   else
    cK (E d 61 [.ref 189, .int 61] (sI h 3595 189 ((gI h 3595 189) + 1))) (Q d 128 93 [some (.ref 189), u1, some (.int x2), some (.int s0)]) []
  else
   cK (E d 61 [.ref 189, .int 61] (sI h 3595 189 ((gI h 3595 189) + 1))) (Q d 128 59 [some (.ref 189), u1, some (.int x2), some (.int s0)]) [] := by
  rw [← hs.1]
  exact (blkM (fun p => Nat.beq p 59 || Nat.beq p 93 || Nat.beq p 113) 15 38 _ _ _).trans rfl

set_option maxRecDepth 16384 in
theorem t_128_59 {d : Nat} {h : AH} (hs : Sh h) (x2 : Int32) (u1 : Option Value) (u3 : Option Value) :
    Q d 128 59 [some (.ref 189), u1, some (.int x2), u3] [] h =
  cK (E d 131 [.ref 189] h) (Q d 128 63 [some (.ref 189), u1, some (.int x2), u3]) [] := by
  rw [← hs.1]
  exact (blkM (fun p => Nat.beq p 63) 3 59 _ _ _).trans rfl

set_option maxRecDepth 16384 in
theorem t_128_93 {d : Nat} {h : AH} (hs : Sh h) (x3 : Int32) (u1 : Option Value) (u2 : Option Value) :
    Q d 128 93 [some (.ref 189), u1, u2, some (.int x3)] [] h =
  cK (E d 142 [.ref 189] h) (Q d 128 97 [some (.ref 189), u1, u2, some (.int x3)]) [] := by
  rw [← hs.1]
  exact (blkM (fun p => Nat.beq p 97) 3 93 _ _ _).trans rfl

set_option maxRecDepth 16384 in
theorem t_128_113 {d : Nat} {h : AH} (hs : Sh h) (u1 : Option Value) (u2 : Option Value) (u3 : Option Value) (s0 : Int32) :
    Q d 128 113 [some (.ref 189), u1, u2, u3] [.int s0] h =
  if s0 = 0 then
   cK (E d 55 [.ref 189, .int 46] h) (Q d 128 127 [some (.ref 189), u1, u2, u3]) []
  else
   cK (E d 146 [.ref 189] h) (Q d 128 120 [some (.ref 189), u1, u2, u3]) [] := by
  rw [← hs.1]
  exact (blkM (fun p => Nat.beq p 120 || Nat.beq p 127) 5 113 _ _ _).trans rfl

set_option maxRecDepth 16384 in
theorem t_128_63 {d : Nat} {h : AH} (hs : Sh h) (x2 : Int32) (u1 : Option Value) (u3 : Option Value) :
    Q d 128 63 [some (.ref 189), u1, some (.int x2), u3] [] h =
  cK (E d 130 [.ref 189, .int 3, .int x2] h) (Q d 128 69 [some (.ref 189), u1, some (.int x2), u3]) [] := by
  rw [← hs.1]
  exact (blkM (fun p => Nat.beq p 69) 5 63 _ _ _).trans rfl

set_option maxRecDepth 16384 in
theorem t_128_97 {d : Nat} {h : AH} (hs : Sh h) (x3 : Int32) (u1 : Option Value) (u2 : Option Value) :
    Q d 128 97 [some (.ref 189), u1, u2, some (.int x3)] [] h =
  cK (E d 130 [.ref 189, .int 5, .int x3] h) (Q d 128 103 [some (.ref 189), u1, u2, some (.int x3)]) [] := by
  rw [← hs.1]
  exact (blkM (fun p => Nat.beq p 103) 5 97 _ _ _).trans rfl

set_option maxRecDepth 16384 in
theorem t_128_120 {d : Nat} {h : AH} (hs : Sh h) (u0 : Option Value) (u1 : Option Value) (u2 : Option Value) (u3 : Option Value) :
    Q d 128 120 [u0, u1, u2, u3] [] h =
  some (none, h) := by
  rw [← hs.1]
  exact (blkM (fun p => false) 2 120 _ _ _).trans rfl

set_option maxRecDepth 16384 in
theorem t_128_127 {d : Nat} {h : AH} (hs : Sh h) (u1 : Option Value) (u2 : Option Value) (u3 : Option Value) (s0 : Int32) :
    Q d 128 127 [some (.ref 189), u1, u2, u3] [.int s0] h =
  if s0 = 0 then
   cK (E d 149 [.ref 189] h) (Q d 128 139 [some (.ref 189), none, none, none]) []
  else
   cK (E d 147 [.ref 189] h) (Q d 128 134 [some (.ref 189), u1, u2, u3]) [] := by
  rw [← hs.1]
  exact (blkM (fun p => Nat.beq p 134 || Nat.beq p 139) 4 127 _ _ _).trans rfl

set_option maxRecDepth 16384 in
theorem t_128_69 {d : Nat} {h : AH} (hs : Sh h) (u1 : Option Value) (u2 : Option Value) (u3 : Option Value) (s0 : Int32) :
    Q d 128 69 [some (.ref 189), u1, u2, u3] [.int s0] h =
  Q d 128 139 [some (.ref 189), none, none, none] [] h := by
  rw [← hs.1]
  exact (blkM (fun p => Nat.beq p 139) 4 69 _ _ _).trans rfl

set_option maxRecDepth 16384 in
theorem t_128_103 {d : Nat} {h : AH} (hs : Sh h) (u1 : Option Value) (u2 : Option Value) (u3 : Option Value) (s0 : Int32) :
    Q d 128 103 [some (.ref 189), u1, u2, u3] [.int s0] h =
  Q d 128 139 [some (.ref 189), none, none, none] [] h := by
  rw [← hs.1]
  exact (blkM (fun p => Nat.beq p 139) 4 103 _ _ _).trans rfl

set_option maxRecDepth 16384 in
theorem t_128_134 {d : Nat} {h : AH} (hs : Sh h) (u0 : Option Value) (u1 : Option Value) (u2 : Option Value) (u3 : Option Value) :
    Q d 128 134 [u0, u1, u2, u3] [] h =
  some (none, h) := by
  rw [← hs.1]
  exact (blkM (fun p => false) 2 134 _ _ _).trans rfl

set_option maxRecDepth 16384 in
theorem t_128_139 {d : Nat} {h : AH} (hs : Sh h)  :
    Q d 128 139 [some (.ref 189), none, none, none] [] h =
  cK (E d 61 [.ref 189, .int 59] h) (Q d 128 145 [some (.ref 189), none, none, none]) [] := by
  rw [← hs.1]
  exact (blkM (fun p => Nat.beq p 145) 4 139 _ _ _).trans rfl

set_option maxRecDepth 16384 in
theorem t_128_145 {d : Nat} {h : AH} (hs : Sh h) (u0 : Option Value) (u1 : Option Value) (u2 : Option Value) (u3 : Option Value) :
    Q d 128 145 [u0, u1, u2, u3] [] h =
  some (none, h) := by
  rw [← hs.1]
  exact (blkM (fun p => false) 2 145 _ _ _).trans rfl

/-! 129 PostRoomModel.loop()V -/
set_option maxRecDepth 16384 in
theorem t_129 {d : Nat} {h : AH} (hs : Sh h)  :
    E (d + 1) 129 [.ref 189] h =
  cK (E d 130 [.ref 189, .int 38, .int 0] (sI h 3595 189 ((gI h 3595 189) + 1))) (Q d 129 17 [some (.ref 189), none, none, none]) [] := by
  rw [← hs.1]
  exact ent rfl ((blkM (fun p => Nat.beq p 17) 11 0 _ _ _).trans rfl)

set_option maxRecDepth 16384 in
theorem t_129_17 {d : Nat} {h : AH} (hs : Sh h) (u1 : Option Value) (u2 : Option Value) (u3 : Option Value) (s0 : Int32) :
    Q d 129 17 [some (.ref 189), u1, u2, u3] [.int s0] h =
  cK (E d 131 [.ref 189] h) (Q d 129 22 [some (.ref 189), some (.int s0), u2, u3]) [] := by
  rw [← hs.1]
  exact (blkM (fun p => Nat.beq p 22) 4 17 _ _ _).trans rfl

set_option maxRecDepth 16384 in
theorem t_129_22 {d : Nat} {h : AH} (hs : Sh h) (x1 : Int32) (u2 : Option Value) (u3 : Option Value) :
    Q d 129 22 [some (.ref 189), some (.int x1), u2, u3] [] h =
  cK (E d 130 [.ref 189, .int 40, .int 0] h) (Q d 129 29 [some (.ref 189), some (.int x1), u2, u3]) [] := by
  rw [← hs.1]
  exact (blkM (fun p => Nat.beq p 29) 5 22 _ _ _).trans rfl

set_option maxRecDepth 16384 in
theorem t_129_29 {d : Nat} {h : AH} (hs : Sh h) (x1 : Int32) (u2 : Option Value) (u3 : Option Value) (s0 : Int32) :
    Q d 129 29 [some (.ref 189), some (.int x1), u2, u3] [.int s0] h =
  cK (E d 144 [.ref 189] h) (Q d 129 34 [some (.ref 189), some (.int x1), some (.int s0), u3]) [] := by
  rw [← hs.1]
  exact (blkM (fun p => Nat.beq p 34) 4 29 _ _ _).trans rfl

set_option maxRecDepth 16384 in
theorem t_129_34 {d : Nat} {h : AH} (hs : Sh h) (x1 : Int32) (x2 : Int32) (u3 : Option Value) :
    Q d 129 34 [some (.ref 189), some (.int x1), some (.int x2), u3] [] h =
  cK (E d 130 [.ref 189, .int 39, .int x1] h) (Q d 129 41 [some (.ref 189), some (.int x1), some (.int x2), u3]) [] := by
  rw [← hs.1]
  exact (blkM (fun p => Nat.beq p 41) 5 34 _ _ _).trans rfl

set_option maxRecDepth 16384 in
theorem t_129_41 {d : Nat} {h : AH} (hs : Sh h) (x2 : Int32) (u1 : Option Value) (u3 : Option Value) (s0 : Int32) :
    Q d 129 41 [some (.ref 189), u1, some (.int x2), u3] [.int s0] h =
  cK (E d 145 [.ref 189, .int x2] h) (Q d 129 47 [some (.ref 189), u1, some (.int x2), some (.int s0)]) [] := by
  rw [← hs.1]
  exact (blkM (fun p => Nat.beq p 47) 5 41 _ _ _).trans rfl

set_option maxRecDepth 16384 in
theorem t_129_47 {d : Nat} {h : AH} (hs : Sh h) (u0 : Option Value) (u1 : Option Value) (u2 : Option Value) (u3 : Option Value) :
    Q d 129 47 [u0, u1, u2, u3] [] h =
  some (none, h) := by
  rw [← hs.1]
  exact (blkM (fun p => false) 2 47 _ _ _).trans rfl

/-! 130 PostRoomModel.emit(II)I -/
set_option maxRecDepth 16384 in
theorem t_130 {d : Nat} {h : AH} (hs : Sh h) (x1 : Int32) (x2 : Int32) :
    E (d + 1) 130 [.ref 189, .int x1, .int x2] h =
  (gd ((gI h 3698 189) + (gI h 3697 189)) 8800 <|
  gd ((gI h 3698 189) + (gI h 3697 189)) 8800 <|
  some (some (.int (((gI h 3697 189) + 1) - 1)), sI (sA (sA h 274 (ix ((gI h 3698 189) + (gI h 3697 189))) x1) 275 (ix ((gI h 3698 189) + (gI h 3697 189))) x2) 3697 189 ((gI h 3697 189) + 1))) := by
  rw [← hs.1]
  exact ent rfl ((blkM (fun p => false) 30 0 _ _ _).trans rfl)

/-! 131 PostRoomModel.expression()V -/
set_option maxRecDepth 16384 in
theorem t_131 {d : Nat} {h : AH} (hs : Sh h)  :
    E (d + 1) 131 [.ref 189] h =
  cK (E d 132 [.ref 189] h) (Q d 131 4 [some (.ref 189), none, none]) [] := by
  rw [← hs.1]
  exact ent rfl ((blkM (fun p => Nat.beq p 4) 3 0 _ _ _).trans rfl)

set_option maxRecDepth 16384 in
theorem t_131_4 {d : Nat} {h : AH} (hs : Sh h) (u1 : Option Value) (u2 : Option Value) :
    Q d 131 4 [some (.ref 189), u1, u2] [] h =
  cK (E d 58 [.ref 189, .int 60] h) (Q d 131 10 [some (.ref 189), u1, u2]) [] := by
  rw [← hs.1]
  exact (blkM (fun p => Nat.beq p 10) 4 4 _ _ _).trans rfl

set_option maxRecDepth 16384 in
theorem t_131_10 {d : Nat} {h : AH} (hs : Sh h) (u1 : Option Value) (u2 : Option Value) (s0 : Int32) :
    Q d 131 10 [some (.ref 189), u1, u2] [.int s0] h =
  if s0 = 0 then
   cK (E d 58 [.ref 189, .int 61] h) (Q d 131 21 [some (.ref 189), some (.int s0), u2]) []
  else
   cK (E d 132 [.ref 189] (sI h 3595 189 ((gI h 3595 189) + 1))) (Q d 131 38 [some (.ref 189), some (.int s0), none]) [] := by
  rw [← hs.1]
  exact (blkM (fun p => Nat.beq p 21 || Nat.beq p 38) 12 10 _ _ _).trans rfl

set_option maxRecDepth 16384 in
theorem t_131_21 {d : Nat} {h : AH} (hs : Sh h) (x1 : Int32) (u2 : Option Value) (s0 : Int32) :
    Q d 131 21 [some (.ref 189), some (.int x1), u2] [.int s0] h =
  if s0 = 0 then
   some (none, h)
  else
   cK (E d 132 [.ref 189] (sI h 3595 189 ((gI h 3595 189) + 1))) (Q d 131 38 [some (.ref 189), some (.int x1), none]) [] := by
  rw [← hs.1]
  exact (blkM (fun p => Nat.beq p 38) 10 21 _ _ _).trans rfl

set_option maxRecDepth 16384 in
theorem t_131_38 {d : Nat} {h : AH} (hs : Sh h) (x1 : Int32) (u2 : Option Value) :
    Q d 131 38 [some (.ref 189), some (.int x1), u2] [] h =
  if x1 = 0 then
   cK (E d 130 [.ref 189, .int 13, .int 0] h) (Q d 131 54 [none, none, none]) []
  else
   cK (E d 130 [.ref 189, .int 12, .int 0] h) (Q d 131 54 [none, none, none]) [] := by
  rw [← hs.1]
  exact (blkM (fun p => Nat.beq p 54) 8 38 _ _ _).trans rfl

set_option maxRecDepth 16384 in
theorem t_131_54 {d : Nat} {h : AH} (hs : Sh h) (u0 : Option Value) (u1 : Option Value) (u2 : Option Value) (s0 : Int32) :
    Q d 131 54 [u0, u1, u2] [.int s0] h =
  some (none, h) := by
  rw [← hs.1]
  exact (blkM (fun p => false) 3 54 _ _ _).trans rfl

/-! 132 PostRoomModel.sum()V -/
set_option maxRecDepth 16384 in
theorem t_132 {d : Nat} {h : AH} (hs : Sh h)  :
    E (d + 1) 132 [.ref 189] h =
  cK (E d 133 [.ref 189] h) (Q d 132 4 [some (.ref 189), none, none]) [] := by
  rw [← hs.1]
  exact ent rfl ((blkM (fun p => Nat.beq p 4) 3 0 _ _ _).trans rfl)

set_option maxRecDepth 16384 in
theorem t_132_4 {d : Nat} {h : AH} (hs : Sh h)  :
    Q d 132 4 [some (.ref 189), none, none] [] h =
  cK (E d 58 [.ref 189, .int 43] h) (Q d 132 10 [some (.ref 189), none, none]) [] := by
  rw [← hs.1]
  exact (blkM (fun p => Nat.beq p 10) 4 4 _ _ _).trans rfl

set_option maxRecDepth 16384 in
theorem t_132_10 {d : Nat} {h : AH} (hs : Sh h) (u1 : Option Value) (u2 : Option Value) (s0 : Int32) :
    Q d 132 10 [some (.ref 189), u1, u2] [.int s0] h =
  if s0 = 0 then
   cK (E d 58 [.ref 189, .int 45] h) (Q d 132 19 [some (.ref 189), u1, u2]) []
  else
   cK (E d 58 [.ref 189, .int 43] h) (Q d 132 28 [some (.ref 189), none, none]) [] := by
  rw [← hs.1]
  exact (blkM (fun p => Nat.beq p 19 || Nat.beq p 28) 5 10 _ _ _).trans rfl

set_option maxRecDepth 16384 in
theorem t_132_19 {d : Nat} {h : AH} (hs : Sh h) (u1 : Option Value) (u2 : Option Value) (s0 : Int32) :
    Q d 132 19 [some (.ref 189), u1, u2] [.int s0] h =
  if s0 = 0 then
   some (none, h)
  else
   cK (E d 58 [.ref 189, .int 43] h) (Q d 132 28 [some (.ref 189), none, none]) [] := by
  rw [← hs.1]
  exact (blkM (fun p => Nat.beq p 28) 5 19 _ _ _).trans rfl

set_option maxRecDepth 16384 in
theorem t_132_28 {d : Nat} {h : AH} (hs : Sh h) (u1 : Option Value) (u2 : Option Value) (s0 : Int32) :
    Q d 132 28 [some (.ref 189), u1, u2] [.int s0] h =
  if s0 = 0 then
   cK (E d 133 [.ref 189] (sI h 3595 189 ((gI h 3595 189) + 1))) (Q d 132 53 [some (.ref 189), some (.int 8), none]) []
  else
   cK (E d 133 [.ref 189] (sI h 3595 189 ((gI h 3595 189) + 1))) (Q d 132 53 [some (.ref 189), some (.int 7), none]) [] := by
  rw [← hs.1]
  exact (blkM (fun p => Nat.beq p 53) 13 28 _ _ _).trans rfl

set_option maxRecDepth 16384 in
theorem t_132_53 {d : Nat} {h : AH} (hs : Sh h) (x1 : Int32) (u2 : Option Value) :
    Q d 132 53 [some (.ref 189), some (.int x1), u2] [] h =
  cK (E d 130 [.ref 189, .int x1, .int 0] h) (Q d 132 59 [some (.ref 189), some (.int x1), u2]) [] := by
  rw [← hs.1]
  exact (blkM (fun p => Nat.beq p 59) 5 53 _ _ _).trans rfl

set_option maxRecDepth 16384 in
theorem t_132_59 {d : Nat} {h : AH} (hs : Sh h) (u1 : Option Value) (u2 : Option Value) (s0 : Int32) :
    Q d 132 59 [some (.ref 189), u1, u2] [.int s0] h =
  Q d 132 4 [some (.ref 189), none, none] [] h := by
  rw [← hs.1]
  exact (blkM (fun p => Nat.beq p 4) 4 59 _ _ _).trans rfl

/-! 133 PostRoomModel.part()V -/
set_option maxRecDepth 16384 in
theorem t_133 {d : Nat} {h : AH} (hs : Sh h)  :
    E (d + 1) 133 [.ref 189] h =
  cK (E d 134 [.ref 189] h) (Q d 133 4 [some (.ref 189), none, none]) [] := by
  rw [← hs.1]
  exact ent rfl ((blkM (fun p => Nat.beq p 4) 3 0 _ _ _).trans rfl)

set_option maxRecDepth 16384 in
theorem t_133_4 {d : Nat} {h : AH} (hs : Sh h)  :
    Q d 133 4 [some (.ref 189), none, none] [] h =
  cK (E d 58 [.ref 189, .int 42] h) (Q d 133 10 [some (.ref 189), none, none]) [] := by
  rw [← hs.1]
  exact (blkM (fun p => Nat.beq p 10) 4 4 _ _ _).trans rfl

set_option maxRecDepth 16384 in
theorem t_133_10 {d : Nat} {h : AH} (hs : Sh h) (u1 : Option Value) (u2 : Option Value) (s0 : Int32) :
    Q d 133 10 [some (.ref 189), u1, u2] [.int s0] h =
  if s0 = 0 then
   cK (E d 58 [.ref 189, .int 47] h) (Q d 133 19 [some (.ref 189), u1, u2]) []
  else
   cK (E d 58 [.ref 189, .int 42] h) (Q d 133 37 [some (.ref 189), none, none]) [] := by
  rw [← hs.1]
  exact (blkM (fun p => Nat.beq p 19 || Nat.beq p 37) 5 10 _ _ _).trans rfl

set_option maxRecDepth 16384 in
theorem t_133_19 {d : Nat} {h : AH} (hs : Sh h) (u1 : Option Value) (u2 : Option Value) (s0 : Int32) :
    Q d 133 19 [some (.ref 189), u1, u2] [.int s0] h =
  if s0 = 0 then
   cK (E d 58 [.ref 189, .int 37] h) (Q d 133 28 [some (.ref 189), u1, u2]) []
  else
   cK (E d 58 [.ref 189, .int 42] h) (Q d 133 37 [some (.ref 189), none, none]) [] := by
  rw [← hs.1]
  exact (blkM (fun p => Nat.beq p 28 || Nat.beq p 37) 5 19 _ _ _).trans rfl

set_option maxRecDepth 16384 in
theorem t_133_37 {d : Nat} {h : AH} (hs : Sh h) (u1 : Option Value) (u2 : Option Value) (s0 : Int32) :
    Q d 133 37 [some (.ref 189), u1, u2] [.int s0] h =
  if s0 = 0 then
   cK (E d 58 [.ref 189, .int 47] h) (Q d 133 51 [some (.ref 189), u1, u2]) []
  else
   cK (E d 134 [.ref 189] (sI h 3595 189 ((gI h 3595 189) + 1))) (Q d 133 76 [some (.ref 189), some (.int 9), none]) [] := by
  rw [← hs.1]
  exact (blkM (fun p => Nat.beq p 51 || Nat.beq p 76) 13 37 _ _ _).trans rfl

set_option maxRecDepth 16384 in
theorem t_133_28 {d : Nat} {h : AH} (hs : Sh h) (u1 : Option Value) (u2 : Option Value) (s0 : Int32) :
    Q d 133 28 [some (.ref 189), u1, u2] [.int s0] h =
  if s0 = 0 then
   some (none, h)
  else
   cK (E d 58 [.ref 189, .int 42] h) (Q d 133 37 [some (.ref 189), none, none]) [] := by
  rw [← hs.1]
  exact (blkM (fun p => Nat.beq p 37) 5 28 _ _ _).trans rfl

set_option maxRecDepth 16384 in
theorem t_133_51 {d : Nat} {h : AH} (hs : Sh h) (u1 : Option Value) (u2 : Option Value) (s0 : Int32) :
    Q d 133 51 [some (.ref 189), u1, u2] [.int s0] h =
  if s0 = 0 then
   cK (E d 134 [.ref 189] (sI h 3595 189 ((gI h 3595 189) + 1))) (Q d 133 76 [some (.ref 189), some (.int 11), none]) []
  else
   cK (E d 134 [.ref 189] (sI h 3595 189 ((gI h 3595 189) + 1))) (Q d 133 76 [some (.ref 189), some (.int 10), none]) [] := by
  rw [← hs.1]
  exact (blkM (fun p => Nat.beq p 76) 13 51 _ _ _).trans rfl

set_option maxRecDepth 16384 in
theorem t_133_76 {d : Nat} {h : AH} (hs : Sh h) (x1 : Int32) (u2 : Option Value) :
    Q d 133 76 [some (.ref 189), some (.int x1), u2] [] h =
  cK (E d 130 [.ref 189, .int x1, .int 0] h) (Q d 133 82 [some (.ref 189), some (.int x1), u2]) [] := by
  rw [← hs.1]
  exact (blkM (fun p => Nat.beq p 82) 5 76 _ _ _).trans rfl

set_option maxRecDepth 16384 in
theorem t_133_82 {d : Nat} {h : AH} (hs : Sh h) (u1 : Option Value) (u2 : Option Value) (s0 : Int32) :
    Q d 133 82 [some (.ref 189), u1, u2] [.int s0] h =
  Q d 133 4 [some (.ref 189), none, none] [] h := by
  rw [← hs.1]
  exact (blkM (fun p => Nat.beq p 4) 4 82 _ _ _).trans rfl

/-! 134 PostRoomModel.unit()V -/
set_option maxRecDepth 16384 in
theorem t_134 {d : Nat} {h : AH} (hs : Sh h)  :
    E (d + 1) 134 [.ref 189] h =
  cK (E d 135 [.ref 189] h) (Q d 134 5 [some (.ref 189)]) [.ref 189] := by
  rw [← hs.1]
  exact ent rfl ((blkM (fun p => Nat.beq p 5) 4 0 _ _ _).trans rfl)

set_option maxRecDepth 16384 in
theorem t_134_5 {d : Nat} {h : AH} (hs : Sh h) (s0 : Nat) (s1 : Int32) :
    Q d 134 5 [some (.ref 189)] [.int s1, .ref s0] h =
  (ck (gC h s0) 14 <|
  cK (E d 137 [.ref s0, .int s1] h) (Q d 134 8 [some (.ref 189)]) []) := by
  rw [← hs.1]
  exact (blkM (fun p => Nat.beq p 8) 2 5 _ _ _).trans rfl

set_option maxRecDepth 16384 in
theorem t_134_8 {d : Nat} {h : AH} (hs : Sh h)  :
    Q d 134 8 [some (.ref 189)] [] h =
  if gI h 3596 189 = 0 then
   cK (E d 138 [.ref 189] h) (Q d 134 19 [some (.ref 189)]) []
  else
   Q d 134 19 [some (.ref 189)] [] h := by
  rw [← hs.1]
  exact (blkM (fun p => Nat.beq p 19) 6 8 _ _ _).trans rfl

set_option maxRecDepth 16384 in
theorem t_134_19 {d : Nat} {h : AH} (hs : Sh h)  :
    Q d 134 19 [some (.ref 189)] [] h =
  some (none, sI h 3708 189 ((gI h 3708 189) - 1)) := by
  rw [← hs.1]
  exact (blkM (fun p => false) 8 19 _ _ _).trans rfl

/-! 135 PostRoomModel.isUnit()Z -/
set_option maxRecDepth 16384 in
theorem t_135 {d : Nat} {h : AH} (hs : Sh h)  :
    E (d + 1) 135 [.ref 189] h =
  if gI h 3596 189 = 0 then
   gd (gI h 3595 189) 4002 <|
   if gA h 194 (ix (gI h 3595 189)) = 2 then
    Q d 135 67 [some (.ref 189), some (.int 1), some (.int 49)] [] h
   else
    cK (E d 58 [.ref 189, .int 40] h) (Q d 135 26 [some (.ref 189), none, none]) []
  else
   Q d 135 67 [some (.ref 189), some (.int 0), some (.int 49)] [] h := by
  rw [← hs.1]
  exact ent rfl ((blkM (fun p => Nat.beq p 26 || Nat.beq p 67) 17 0 _ _ _).trans rfl)

set_option maxRecDepth 16384 in
theorem t_135_26 {d : Nat} {h : AH} (hs : Sh h) (u1 : Option Value) (u2 : Option Value) (s0 : Int32) :
    Q d 135 26 [some (.ref 189), u1, u2] [.int s0] h =
  if s0 = 0 then
   cK (E d 58 [.ref 189, .int 45] h) (Q d 135 35 [some (.ref 189), u1, u2]) []
  else
   Q d 135 67 [some (.ref 189), some (.int 1), some (.int 49)] [] h := by
  rw [← hs.1]
  exact (blkM (fun p => Nat.beq p 35 || Nat.beq p 67) 8 26 _ _ _).trans rfl

set_option maxRecDepth 16384 in
theorem t_135_67 {d : Nat} {h : AH} (hs : Sh h) (x1 : Int32) (x2 : Int32) :
    Q d 135 67 [some (.ref 189), some (.int x1), some (.int x2)] [] h =
  if (58 : Int32) < x2 then
   if x1 = 0 ∨ x1 = 1 then
    some (some (.int x1), h)
   else
    none
  else
   if x1 = 0 then
    cK (E d 45 [.ref 189, .int x2] h) (Q d 135 82 [some (.ref 189), some (.int x1), some (.int x2)]) []
   else
    if x1 = 0 ∨ x1 = 1 then
     some (some (.int x1), h)
    else
     none := by
  rw [← hs.1]
  exact (blkM (fun p => Nat.beq p 82) 9 67 _ _ _).trans rfl

set_option maxRecDepth 16384 in
theorem t_135_35 {d : Nat} {h : AH} (hs : Sh h) (u1 : Option Value) (u2 : Option Value) (s0 : Int32) :
    Q d 135 35 [some (.ref 189), u1, u2] [.int s0] h =
  if s0 = 0 then
   cK (E d 136 [.ref 189, .int 18, .int 9] h) (Q d 135 46 [some (.ref 189), u1, u2]) []
  else
   Q d 135 67 [some (.ref 189), some (.int 1), some (.int 49)] [] h := by
  rw [← hs.1]
  exact (blkM (fun p => Nat.beq p 46 || Nat.beq p 67) 8 35 _ _ _).trans rfl

set_option maxRecDepth 16384 in
theorem t_135_82 {d : Nat} {h : AH} (hs : Sh h) (x2 : Int32) (u1 : Option Value) (s0 : Int32) :
    Q d 135 82 [some (.ref 189), u1, some (.int x2)] [.int s0] h =
  Q d 135 67 [some (.ref 189), some (.int s0), some (.int (x2 + 1))] [] h := by
  rw [← hs.1]
  exact (blkM (fun p => Nat.beq p 67) 5 82 _ _ _).trans rfl

set_option maxRecDepth 16384 in
theorem t_135_46 {d : Nat} {h : AH} (hs : Sh h) (u1 : Option Value) (u2 : Option Value) (s0 : Int32) :
    Q d 135 46 [some (.ref 189), u1, u2] [.int s0] h =
  if s0 < 0 then
   cK (E d 45 [.ref 189, .int 9] h) (Q d 135 55 [some (.ref 189), u1, u2]) []
  else
   Q d 135 67 [some (.ref 189), some (.int 1), some (.int 49)] [] h := by
  rw [← hs.1]
  exact (blkM (fun p => Nat.beq p 55 || Nat.beq p 67) 8 46 _ _ _).trans rfl

set_option maxRecDepth 16384 in
theorem t_135_55 {d : Nat} {h : AH} (hs : Sh h) (u1 : Option Value) (u2 : Option Value) (s0 : Int32) :
    Q d 135 55 [some (.ref 189), u1, u2] [.int s0] h =
  if s0 = 0 then
   Q d 135 67 [some (.ref 189), some (.int 0), some (.int 49)] [] h
  else
   Q d 135 67 [some (.ref 189), some (.int 1), some (.int 49)] [] h := by
  rw [← hs.1]
  exact (blkM (fun p => Nat.beq p 67) 8 55 _ _ _).trans rfl

/-! 136 PostRoomModel.registerAt(II)I -/
set_option maxRecDepth 16384 in
theorem t_136 {d : Nat} {h : AH} (hs : Sh h) (x1 : Int32) (x2 : Int32) :
    E (d + 1) 136 [.ref 189, .int x1, .int x2] h =
  if (0 : Int32) < gI h 3596 189 then
   some (some (.int (-1)), h)
  else
   gd (gI h 3595 189) 4002 <|
   if gA h 194 (ix (gI h 3595 189)) = 1 then
    gd (gI h 3595 189) 4002 <|
    if lg_cmp ((gB h 196 (ix (gI h 3595 189))) / 37) x1.toInt64 = 0 then
     gd (gI h 3595 189) 4002 <|
     if (((gB h 196 (ix (gI h 3595 189))) - (gB h 196 (ix (gI h 3595 189))) / 37 * 37).toInt32) - 27 < 0 then
      some (some (.int (-1)), h)
     else
      if x2 < (((gB h 196 (ix (gI h 3595 189))) - (gB h 196 (ix (gI h 3595 189))) / 37 * 37).toInt32) - 27 then
       some (some (.int (-1)), h)
      else
       some (some (.int ((((gB h 196 (ix (gI h 3595 189))) - (gB h 196 (ix (gI h 3595 189))) / 37 * 37).toInt32) - 27)), h)
    else
     some (some (.int (-1)), h)
   else
    some (some (.int (-1)), h) := by
  rw [← hs.1]
  exact ent rfl ((blkM (fun p => false) 41 0 _ _ _).trans rfl)

/-! 137 PostRoomModel.within(Z)V -/
set_option maxRecDepth 16384 in
theorem t_137 {d : Nat} {h : AH} (hs : Sh h) (x1 : Int32) :
    E (d + 1) 137 [.ref 189, .int x1] h =
  if x1 = 0 then
   cK (E d 48 [.ref 189, .int 1] h) (Q d 137 9 [some (.ref 189), some (.int x1)]) []
  else
   if gI h 3708 189 = 20 then
    cK (E d 48 [.ref 189, .int 5] h) (Q d 137 26 [some (.ref 189), none]) []
   else
    Q d 137 26 [some (.ref 189), none] [] h := by
  rw [← hs.1]
  exact ent rfl ((blkM (fun p => Nat.beq p 9 || Nat.beq p 26) 10 0 _ _ _).trans rfl)

set_option maxRecDepth 16384 in
theorem t_137_9 {d : Nat} {h : AH} (hs : Sh h) (u1 : Option Value) :
    Q d 137 9 [some (.ref 189), u1] [] h =
  Q d 137 26 [some (.ref 189), none] [] h := by
  rw [← hs.1]
  exact (blkM (fun p => Nat.beq p 26) 3 9 _ _ _).trans rfl

set_option maxRecDepth 16384 in
theorem t_137_26 {d : Nat} {h : AH} (hs : Sh h)  :
    Q d 137 26 [some (.ref 189), none] [] h =
  some (none, sI h 3708 189 ((gI h 3708 189) + 1)) := by
  rw [← hs.1]
  exact (blkM (fun p => false) 8 26 _ _ _).trans rfl

/-! 138 PostRoomModel.unitWithin()V -/
set_option maxRecDepth 16384 in
theorem t_138 {d : Nat} {h : AH} (hs : Sh h)  :
    E (d + 1) 138 [.ref 189] h =
  cK (E d 136 [.ref 189, .int 18, .int 9] h) (Q d 138 8 [some (.ref 189), none, none]) [] := by
  rw [← hs.1]
  exact ent rfl ((blkM (fun p => Nat.beq p 8) 5 0 _ _ _).trans rfl)

set_option maxRecDepth 16384 in
theorem t_138_8 {d : Nat} {h : AH} (hs : Sh h) (u1 : Option Value) (u2 : Option Value) (s0 : Int32) :
    Q d 138 8 [some (.ref 189), u1, u2] [.int s0] h =
  if s0 < 0 then
   gd (gI h 3595 189) 4002 <|
   if gA h 194 (ix (gI h 3595 189)) = 2 then
    gd (gI h 3595 189) 4002 <|
    cK (E d 130 [.ref 189, .int 1, .int ((gB h 196 (ix (gI h 3595 189))).toInt32)] h) (Q d 138 61 [some (.ref 189), klV u1, some (.int s0)]) []
   else
    cK (E d 58 [.ref 189, .int 40] h) (Q d 138 81 [some (.ref 189), klV u1, some (.int s0)]) []
  else
   cK (E d 130 [.ref 189, .int 2, .int s0] (sI h 3595 189 ((gI h 3595 189) + 1))) (Q d 138 29 [some (.ref 189), klV u1, some (.int s0)]) [] := by
  rw [← hs.1]
  exact (blkM (fun p => Nat.beq p 29 || Nat.beq p 61 || Nat.beq p 81) 20 8 _ _ _).trans rfl

set_option maxRecDepth 16384 in
theorem t_138_29 {d : Nat} {h : AH} (hs : Sh h) (u0 : Option Value) (u1 : Option Value) (u2 : Option Value) (s0 : Int32) :
    Q d 138 29 [u0, u1, u2] [.int s0] h =
  Q d 138 173 [none, none, none] [] h := by
  rw [← hs.1]
  exact (blkM (fun p => Nat.beq p 173) 4 29 _ _ _).trans rfl

set_option maxRecDepth 16384 in
theorem t_138_61 {d : Nat} {h : AH} (hs : Sh h) (u1 : Option Value) (u2 : Option Value) (s0 : Int32) :
    Q d 138 61 [some (.ref 189), u1, u2] [.int s0] h =
  Q d 138 173 [none, none, none] [] (sI h 3595 189 ((gI h 3595 189) + 1)) := by
  rw [← hs.1]
  exact (blkM (fun p => Nat.beq p 173) 10 61 _ _ _).trans rfl

set_option maxRecDepth 16384 in
theorem t_138_81 {d : Nat} {h : AH} (hs : Sh h) (u1 : Option Value) (u2 : Option Value) (s0 : Int32) :
    Q d 138 81 [some (.ref 189), u1, u2] [.int s0] h =
  if s0 = 0 then
   cK (E d 58 [.ref 189, .int 45] h) (Q d 138 113 [some (.ref 189), u1, u2]) []
  else
   cK (E d 131 [.ref 189] (sI h 3595 189 ((gI h 3595 189) + 1))) (Q d 138 98 [some (.ref 189), u1, u2]) [] := by
  rw [← hs.1]
  exact (blkM (fun p => Nat.beq p 98 || Nat.beq p 113) 10 81 _ _ _).trans rfl

set_option maxRecDepth 16384 in
theorem t_138_173 {d : Nat} {h : AH} (hs : Sh h)  :
    Q d 138 173 [none, none, none] [] h =
  some (none, h) := by
  rw [← hs.1]
  exact (blkM (fun p => false) 2 173 _ _ _).trans rfl

set_option maxRecDepth 16384 in
theorem t_138_98 {d : Nat} {h : AH} (hs : Sh h) (u1 : Option Value) (u2 : Option Value) :
    Q d 138 98 [some (.ref 189), u1, u2] [] h =
  cK (E d 61 [.ref 189, .int 41] h) (Q d 138 104 [some (.ref 189), u1, u2]) [] := by
  rw [← hs.1]
  exact (blkM (fun p => Nat.beq p 104) 4 98 _ _ _).trans rfl

set_option maxRecDepth 16384 in
theorem t_138_113 {d : Nat} {h : AH} (hs : Sh h) (u1 : Option Value) (u2 : Option Value) (s0 : Int32) :
    Q d 138 113 [some (.ref 189), u1, u2] [.int s0] h =
  if s0 = 0 then
   cK (E d 55 [.ref 189, .int 9] h) (Q d 138 147 [some (.ref 189), u1, u2]) []
  else
   cK (E d 134 [.ref 189] (sI h 3595 189 ((gI h 3595 189) + 1))) (Q d 138 130 [some (.ref 189), u1, u2]) [] := by
  rw [← hs.1]
  exact (blkM (fun p => Nat.beq p 130 || Nat.beq p 147) 10 113 _ _ _).trans rfl

set_option maxRecDepth 16384 in
theorem t_138_104 {d : Nat} {h : AH} (hs : Sh h) (u0 : Option Value) (u1 : Option Value) (u2 : Option Value) :
    Q d 138 104 [u0, u1, u2] [] h =
  Q d 138 173 [none, none, none] [] h := by
  rw [← hs.1]
  exact (blkM (fun p => Nat.beq p 173) 3 104 _ _ _).trans rfl

set_option maxRecDepth 16384 in
theorem t_138_130 {d : Nat} {h : AH} (hs : Sh h) (u1 : Option Value) (u2 : Option Value) :
    Q d 138 130 [some (.ref 189), u1, u2] [] h =
  cK (E d 130 [.ref 189, .int 6, .int 0] h) (Q d 138 137 [some (.ref 189), u1, u2]) [] := by
  rw [← hs.1]
  exact (blkM (fun p => Nat.beq p 137) 5 130 _ _ _).trans rfl

set_option maxRecDepth 16384 in
theorem t_138_147 {d : Nat} {h : AH} (hs : Sh h) (u1 : Option Value) (u2 : Option Value) (s0 : Int32) :
    Q d 138 147 [some (.ref 189), u1, u2] [.int s0] h =
  if s0 = 0 then
   cK (E d 141 [.ref 189] h) (Q d 138 173 [none, none, none]) []
  else
   cK (E d 139 [.ref 189] h) (Q d 138 154 [some (.ref 189), u1, u2]) [] := by
  rw [← hs.1]
  exact (blkM (fun p => Nat.beq p 154 || Nat.beq p 173) 4 147 _ _ _).trans rfl

set_option maxRecDepth 16384 in
theorem t_138_137 {d : Nat} {h : AH} (hs : Sh h) (u0 : Option Value) (u1 : Option Value) (u2 : Option Value) (s0 : Int32) :
    Q d 138 137 [u0, u1, u2] [.int s0] h =
  Q d 138 173 [none, none, none] [] h := by
  rw [← hs.1]
  exact (blkM (fun p => Nat.beq p 173) 4 137 _ _ _).trans rfl

set_option maxRecDepth 16384 in
theorem t_138_154 {d : Nat} {h : AH} (hs : Sh h) (u1 : Option Value) (u2 : Option Value) :
    Q d 138 154 [some (.ref 189), u1, u2] [] h =
  cK (E d 140 [.ref 189] h) (Q d 138 158 [some (.ref 189), u1, u2]) [] := by
  rw [← hs.1]
  exact (blkM (fun p => Nat.beq p 158) 3 154 _ _ _).trans rfl

set_option maxRecDepth 16384 in
theorem t_138_158 {d : Nat} {h : AH} (hs : Sh h) (u1 : Option Value) (u2 : Option Value) :
    Q d 138 158 [some (.ref 189), u1, u2] [] h =
  cK (E d 130 [.ref 189, .int 17, .int 0] h) (Q d 138 165 [some (.ref 189), u1, u2]) [] := by
  rw [← hs.1]
  exact (blkM (fun p => Nat.beq p 165) 5 158 _ _ _).trans rfl

set_option maxRecDepth 16384 in
theorem t_138_165 {d : Nat} {h : AH} (hs : Sh h) (u0 : Option Value) (u1 : Option Value) (u2 : Option Value) (s0 : Int32) :
    Q d 138 165 [u0, u1, u2] [.int s0] h =
  Q d 138 173 [none, none, none] [] h := by
  rw [← hs.1]
  exact (blkM (fun p => Nat.beq p 173) 4 165 _ _ _).trans rfl

/-! 139 PostRoomModel.trayPart()V -/
set_option maxRecDepth 16384 in
theorem t_139 {d : Nat} {h : AH} (hs : Sh h)  :
    E (d + 1) 139 [.ref 189] h =
  cK (E d 61 [.ref 189, .int 64] h) (Q d 139 6 [some (.ref 189), none]) [] := by
  rw [← hs.1]
  exact ent rfl ((blkM (fun p => Nat.beq p 6) 4 0 _ _ _).trans rfl)

set_option maxRecDepth 16384 in
theorem t_139_6 {d : Nat} {h : AH} (hs : Sh h) (u1 : Option Value) :
    Q d 139 6 [some (.ref 189), u1] [] h =
  cK (E d 134 [.ref 189] h) (Q d 139 10 [some (.ref 189), u1]) [] := by
  rw [← hs.1]
  exact (blkM (fun p => Nat.beq p 10) 3 6 _ _ _).trans rfl

set_option maxRecDepth 16384 in
theorem t_139_10 {d : Nat} {h : AH} (hs : Sh h) (u1 : Option Value) :
    Q d 139 10 [some (.ref 189), u1] [] h =
  cK (E d 130 [.ref 189, .int 14, .int 0] h) (Q d 139 17 [some (.ref 189), u1]) [] := by
  rw [← hs.1]
  exact (blkM (fun p => Nat.beq p 17) 5 10 _ _ _).trans rfl

set_option maxRecDepth 16384 in
theorem t_139_17 {d : Nat} {h : AH} (hs : Sh h) (u0 : Option Value) (u1 : Option Value) (s0 : Int32) :
    Q d 139 17 [u0, u1] [.int s0] h =
  some (none, h) := by
  rw [← hs.1]
  exact (blkM (fun p => false) 3 17 _ _ _).trans rfl

/-! 140 PostRoomModel.indexed()V -/
set_option maxRecDepth 16384 in
theorem t_140 {d : Nat} {h : AH} (hs : Sh h)  :
    E (d + 1) 140 [.ref 189] h =
  cK (E d 61 [.ref 189, .int 91] h) (Q d 140 6 [some (.ref 189)]) [] := by
  rw [← hs.1]
  exact ent rfl ((blkM (fun p => Nat.beq p 6) 4 0 _ _ _).trans rfl)

set_option maxRecDepth 16384 in
theorem t_140_6 {d : Nat} {h : AH} (hs : Sh h)  :
    Q d 140 6 [some (.ref 189)] [] h =
  cK (E d 131 [.ref 189] h) (Q d 140 10 [some (.ref 189)]) [] := by
  rw [← hs.1]
  exact (blkM (fun p => Nat.beq p 10) 3 6 _ _ _).trans rfl

set_option maxRecDepth 16384 in
theorem t_140_10 {d : Nat} {h : AH} (hs : Sh h)  :
    Q d 140 10 [some (.ref 189)] [] h =
  cK (E d 61 [.ref 189, .int 93] h) (Q d 140 16 [some (.ref 189)]) [] := by
  rw [← hs.1]
  exact (blkM (fun p => Nat.beq p 16) 4 10 _ _ _).trans rfl

set_option maxRecDepth 16384 in
theorem t_140_16 {d : Nat} {h : AH} (hs : Sh h) (u0 : Option Value) :
    Q d 140 16 [u0] [] h =
  some (none, h) := by
  rw [← hs.1]
  exact (blkM (fun p => false) 2 16 _ _ _).trans rfl

/-! 141 PostRoomModel.asked()V -/
set_option maxRecDepth 16384 in
theorem t_141 {d : Nat} {h : AH} (hs : Sh h)  :
    E (d + 1) 141 [.ref 189] h =
  cK (E d 56 [.ref 189, .int 49, .int 58] h) (Q d 141 10 [some (.ref 189), none, none]) [.int 49] := by
  rw [← hs.1]
  exact ent rfl ((blkM (fun p => Nat.beq p 10) 6 0 _ _ _).trans rfl)

set_option maxRecDepth 16384 in
theorem t_141_10 {d : Nat} {h : AH} (hs : Sh h) (u1 : Option Value) (u2 : Option Value) (s0 : Int32) (s1 : Int32) :
    Q d 141 10 [some (.ref 189), u1, u2] [.int s1, .int s0] h =
  if s0 + s1 = 49 then
   cK (E d 139 [.ref 189] h) (Q d 141 28 [some (.ref 189), some (.int (s0 + s1)), none]) []
  else
   if s0 + s1 = 50 then
    cK (E d 139 [.ref 189] h) (Q d 141 28 [some (.ref 189), some (.int (s0 + s1)), none]) []
   else
    if (55 : Int32) < s0 + s1 then
     if s0 + s1 = 56 then
      cK (E d 130 [.ref 189, .int 23, .int 0] h) (Q d 141 144 [none, none, none]) []
     else
      if s0 + s1 = 57 then
       cK (E d 130 [.ref 189, .int 24, .int 0] h) (Q d 141 144 [none, none, none]) []
      else
       cK (E d 130 [.ref 189, .int 25, .int 0] h) (Q d 141 144 [none, none, none]) []
    else
     cK (E d 142 [.ref 189] h) (Q d 141 60 [some (.ref 189), some (.int (s0 + s1)), u2]) [] := by
  rw [← hs.1]
  exact (blkM (fun p => Nat.beq p 28 || Nat.beq p 60 || Nat.beq p 144) 23 10 _ _ _).trans rfl

set_option maxRecDepth 16384 in
theorem t_141_28 {d : Nat} {h : AH} (hs : Sh h) (x1 : Int32) (u2 : Option Value) :
    Q d 141 28 [some (.ref 189), some (.int x1), u2] [] h =
  if x1 = 49 then
   cK (E d 130 [.ref 189, .int 15, .int 0] h) (Q d 141 46 [none, none, none]) []
  else
   cK (E d 130 [.ref 189, .int 16, .int 0] h) (Q d 141 46 [none, none, none]) [] := by
  rw [← hs.1]
  exact (blkM (fun p => Nat.beq p 46) 9 28 _ _ _).trans rfl

set_option maxRecDepth 16384 in
theorem t_141_60 {d : Nat} {h : AH} (hs : Sh h) (x1 : Int32) (u2 : Option Value) :
    Q d 141 60 [some (.ref 189), some (.int x1), u2] [] h =
  if x1 = 51 then
   cK (E d 130 [.ref 189, .int 18, .int 0] h) (Q d 141 111 [none, none, none]) []
  else
   if x1 = 52 then
    cK (E d 130 [.ref 189, .int 19, .int 0] h) (Q d 141 111 [none, none, none]) []
   else
    if x1 = 53 then
     cK (E d 130 [.ref 189, .int 20, .int 0] h) (Q d 141 111 [none, none, none]) []
    else
     if x1 = 54 then
      cK (E d 130 [.ref 189, .int 21, .int 0] h) (Q d 141 111 [none, none, none]) []
     else
      cK (E d 130 [.ref 189, .int 22, .int 0] h) (Q d 141 111 [none, none, none]) [] := by
  rw [← hs.1]
  exact (blkM (fun p => Nat.beq p 111) 18 60 _ _ _).trans rfl

set_option maxRecDepth 16384 in
theorem t_141_144 {d : Nat} {h : AH} (hs : Sh h) (u0 : Option Value) (u1 : Option Value) (u2 : Option Value) (s0 : Int32) :
    Q d 141 144 [u0, u1, u2] [.int s0] h =
  some (none, h) := by
  rw [← hs.1]
  exact (blkM (fun p => false) 3 144 _ _ _).trans rfl

set_option maxRecDepth 16384 in
theorem t_141_46 {d : Nat} {h : AH} (hs : Sh h) (u0 : Option Value) (u1 : Option Value) (u2 : Option Value) (s0 : Int32) :
    Q d 141 46 [u0, u1, u2] [.int s0] h =
  some (none, h) := by
  rw [← hs.1]
  exact (blkM (fun p => false) 4 46 _ _ _).trans rfl

set_option maxRecDepth 16384 in
theorem t_141_111 {d : Nat} {h : AH} (hs : Sh h) (u0 : Option Value) (u1 : Option Value) (u2 : Option Value) (s0 : Int32) :
    Q d 141 111 [u0, u1, u2] [.int s0] h =
  some (none, h) := by
  rw [← hs.1]
  exact (blkM (fun p => false) 4 111 _ _ _).trans rfl

/-! 142 PostRoomModel.itemPart()V -/
set_option maxRecDepth 16384 in
theorem t_142 {d : Nat} {h : AH} (hs : Sh h)  :
    E (d + 1) 142 [.ref 189] h =
  cK (E d 136 [.ref 189, .int 24, .int 3] h) (Q d 142 7 [some (.ref 189), none, none]) [] := by
  rw [← hs.1]
  exact ent rfl ((blkM (fun p => Nat.beq p 7) 5 0 _ _ _).trans rfl)

set_option maxRecDepth 16384 in
theorem t_142_7 {d : Nat} {h : AH} (hs : Sh h) (u1 : Option Value) (u2 : Option Value) (s0 : Int32) :
    Q d 142 7 [some (.ref 189), u1, u2] [.int s0] h =
  if s0 < 0 then
   cK (E d 45 [.ref 189, .int 59] h) (Q d 142 18 [some (.ref 189), some (.int s0), u2]) []
  else
   cK (E d 137 [.ref 189, .int 1] h) (Q d 142 77 [some (.ref 189), some (.int s0), some (.int 1)]) [] := by
  rw [← hs.1]
  exact (blkM (fun p => Nat.beq p 18 || Nat.beq p 77) 10 7 _ _ _).trans rfl

set_option maxRecDepth 16384 in
theorem t_142_18 {d : Nat} {h : AH} (hs : Sh h) (x1 : Int32) (u2 : Option Value) (s0 : Int32) :
    Q d 142 18 [some (.ref 189), some (.int x1), u2] [.int s0] h =
  if s0 = 0 then
   cK (E d 45 [.ref 189, .int 60] h) (Q d 142 27 [some (.ref 189), some (.int x1), u2]) []
  else
   cK (E d 137 [.ref 189, .int 1] h) (Q d 142 77 [some (.ref 189), some (.int x1), some (.int 1)]) [] := by
  rw [← hs.1]
  exact (blkM (fun p => Nat.beq p 27 || Nat.beq p 77) 8 18 _ _ _).trans rfl

set_option maxRecDepth 16384 in
theorem t_142_77 {d : Nat} {h : AH} (hs : Sh h) (x1 : Int32) (u2 : Option Value) :
    Q d 142 77 [some (.ref 189), some (.int x1), u2] [] h =
  if gI h 3596 189 = 0 then
   cK (E d 143 [.ref 189, .int x1] h) (Q d 142 89 [some (.ref 189), none, none]) []
  else
   Q d 142 89 [some (.ref 189), none, none] [] h := by
  rw [← hs.1]
  exact (blkM (fun p => Nat.beq p 89) 7 77 _ _ _).trans rfl

set_option maxRecDepth 16384 in
theorem t_142_27 {d : Nat} {h : AH} (hs : Sh h) (x1 : Int32) (u2 : Option Value) (s0 : Int32) :
    Q d 142 27 [some (.ref 189), some (.int x1), u2] [.int s0] h =
  if s0 = 0 then
   cK (E d 45 [.ref 189, .int 61] h) (Q d 142 36 [some (.ref 189), some (.int x1), u2]) []
  else
   cK (E d 137 [.ref 189, .int 1] h) (Q d 142 77 [some (.ref 189), some (.int x1), some (.int 1)]) [] := by
  rw [← hs.1]
  exact (blkM (fun p => Nat.beq p 36 || Nat.beq p 77) 8 27 _ _ _).trans rfl

set_option maxRecDepth 16384 in
theorem t_142_89 {d : Nat} {h : AH} (hs : Sh h)  :
    Q d 142 89 [some (.ref 189), none, none] [] h =
  some (none, sI h 3708 189 ((gI h 3708 189) - 1)) := by
  rw [← hs.1]
  exact (blkM (fun p => false) 8 89 _ _ _).trans rfl

set_option maxRecDepth 16384 in
theorem t_142_36 {d : Nat} {h : AH} (hs : Sh h) (x1 : Int32) (u2 : Option Value) (s0 : Int32) :
    Q d 142 36 [some (.ref 189), some (.int x1), u2] [.int s0] h =
  if s0 = 0 then
   cK (E d 45 [.ref 189, .int 16] h) (Q d 142 45 [some (.ref 189), some (.int x1), u2]) []
  else
   cK (E d 137 [.ref 189, .int 1] h) (Q d 142 77 [some (.ref 189), some (.int x1), some (.int 1)]) [] := by
  rw [← hs.1]
  exact (blkM (fun p => Nat.beq p 45 || Nat.beq p 77) 8 36 _ _ _).trans rfl

set_option maxRecDepth 16384 in
theorem t_142_45 {d : Nat} {h : AH} (hs : Sh h) (x1 : Int32) (u2 : Option Value) (s0 : Int32) :
    Q d 142 45 [some (.ref 189), some (.int x1), u2] [.int s0] h =
  if s0 = 0 then
   cK (E d 45 [.ref 189, .int 17] h) (Q d 142 54 [some (.ref 189), some (.int x1), u2]) []
  else
   cK (E d 137 [.ref 189, .int 1] h) (Q d 142 77 [some (.ref 189), some (.int x1), some (.int 1)]) [] := by
  rw [← hs.1]
  exact (blkM (fun p => Nat.beq p 54 || Nat.beq p 77) 8 45 _ _ _).trans rfl

set_option maxRecDepth 16384 in
theorem t_142_54 {d : Nat} {h : AH} (hs : Sh h) (x1 : Int32) (u2 : Option Value) (s0 : Int32) :
    Q d 142 54 [some (.ref 189), some (.int x1), u2] [.int s0] h =
  if s0 = 0 then
   cK (E d 45 [.ref 189, .int 18] h) (Q d 142 63 [some (.ref 189), some (.int x1), u2]) []
  else
   cK (E d 137 [.ref 189, .int 1] h) (Q d 142 77 [some (.ref 189), some (.int x1), some (.int 1)]) [] := by
  rw [← hs.1]
  exact (blkM (fun p => Nat.beq p 63 || Nat.beq p 77) 8 54 _ _ _).trans rfl

set_option maxRecDepth 16384 in
theorem t_142_63 {d : Nat} {h : AH} (hs : Sh h) (x1 : Int32) (u2 : Option Value) (s0 : Int32) :
    Q d 142 63 [some (.ref 189), some (.int x1), u2] [.int s0] h =
  if s0 = 0 then
   cK (E d 137 [.ref 189, .int 0] h) (Q d 142 77 [some (.ref 189), some (.int x1), some (.int 0)]) []
  else
   cK (E d 137 [.ref 189, .int 1] h) (Q d 142 77 [some (.ref 189), some (.int x1), some (.int 1)]) [] := by
  rw [← hs.1]
  exact (blkM (fun p => Nat.beq p 77) 8 63 _ _ _).trans rfl

/-! 143 PostRoomModel.itemWithin(I)V -/
set_option maxRecDepth 16384 in
theorem t_143 {d : Nat} {h : AH} (hs : Sh h) (x1 : Int32) :
    E (d + 1) 143 [.ref 189, .int x1] h =
  if x1 < 0 then
   cK (E d 55 [.ref 189, .int 59] h) (Q d 143 30 [some (.ref 189), some (.int x1), none, none]) []
  else
   cK (E d 130 [.ref 189, .int 4, .int x1] (sI h 3595 189 ((gI h 3595 189) + 1))) (Q d 143 20 [some (.ref 189), some (.int x1), none, none]) [] := by
  rw [← hs.1]
  exact ent rfl ((blkM (fun p => Nat.beq p 20 || Nat.beq p 30) 13 0 _ _ _).trans rfl)

set_option maxRecDepth 16384 in
theorem t_143_20 {d : Nat} {h : AH} (hs : Sh h) (u0 : Option Value) (u1 : Option Value) (u2 : Option Value) (u3 : Option Value) (s0 : Int32) :
    Q d 143 20 [u0, u1, u2, u3] [.int s0] h =
  some (none, h) := by
  rw [← hs.1]
  exact (blkM (fun p => false) 4 20 _ _ _).trans rfl

set_option maxRecDepth 16384 in
theorem t_143_30 {d : Nat} {h : AH} (hs : Sh h) (u1 : Option Value) (u2 : Option Value) (u3 : Option Value) (s0 : Int32) :
    Q d 143 30 [some (.ref 189), u1, u2, u3] [.int s0] h =
  if s0 = 0 then
   cK (E d 55 [.ref 189, .int 60] h) (Q d 143 49 [some (.ref 189), u1, u2, u3]) []
  else
   cK (E d 130 [.ref 189, .int 1, .int (-1)] h) (Q d 143 39 [some (.ref 189), u1, u2, u3]) [] := by
  rw [← hs.1]
  exact (blkM (fun p => Nat.beq p 39 || Nat.beq p 49) 6 30 _ _ _).trans rfl

set_option maxRecDepth 16384 in
theorem t_143_39 {d : Nat} {h : AH} (hs : Sh h) (u0 : Option Value) (u1 : Option Value) (u2 : Option Value) (u3 : Option Value) (s0 : Int32) :
    Q d 143 39 [u0, u1, u2, u3] [.int s0] h =
  some (none, h) := by
  rw [← hs.1]
  exact (blkM (fun p => false) 4 39 _ _ _).trans rfl

set_option maxRecDepth 16384 in
theorem t_143_49 {d : Nat} {h : AH} (hs : Sh h) (u1 : Option Value) (u2 : Option Value) (u3 : Option Value) (s0 : Int32) :
    Q d 143 49 [some (.ref 189), u1, u2, u3] [.int s0] h =
  if s0 = 0 then
   cK (E d 55 [.ref 189, .int 61] h) (Q d 143 73 [some (.ref 189), u1, u2, u3]) []
  else
   cK (E d 134 [.ref 189] h) (Q d 143 56 [some (.ref 189), u1, u2, u3]) [] := by
  rw [← hs.1]
  exact (blkM (fun p => Nat.beq p 56 || Nat.beq p 73) 5 49 _ _ _).trans rfl

set_option maxRecDepth 16384 in
theorem t_143_56 {d : Nat} {h : AH} (hs : Sh h) (u1 : Option Value) (u2 : Option Value) (u3 : Option Value) :
    Q d 143 56 [some (.ref 189), u1, u2, u3] [] h =
  cK (E d 130 [.ref 189, .int 26, .int 0] h) (Q d 143 63 [some (.ref 189), u1, u2, u3]) [] := by
  rw [← hs.1]
  exact (blkM (fun p => Nat.beq p 63) 5 56 _ _ _).trans rfl

set_option maxRecDepth 16384 in
theorem t_143_73 {d : Nat} {h : AH} (hs : Sh h) (u1 : Option Value) (u2 : Option Value) (u3 : Option Value) (s0 : Int32) :
    Q d 143 73 [some (.ref 189), u1, u2, u3] [.int s0] h =
  if s0 = 0 then
   cK (E d 56 [.ref 189, .int 16, .int 18] h) (Q d 143 103 [some (.ref 189), u1, u2, u3]) []
  else
   cK (E d 139 [.ref 189] h) (Q d 143 80 [some (.ref 189), u1, u2, u3]) [] := by
  rw [← hs.1]
  exact (blkM (fun p => Nat.beq p 80 || Nat.beq p 103) 6 73 _ _ _).trans rfl

set_option maxRecDepth 16384 in
theorem t_143_63 {d : Nat} {h : AH} (hs : Sh h) (u0 : Option Value) (u1 : Option Value) (u2 : Option Value) (u3 : Option Value) (s0 : Int32) :
    Q d 143 63 [u0, u1, u2, u3] [.int s0] h =
  some (none, h) := by
  rw [← hs.1]
  exact (blkM (fun p => false) 4 63 _ _ _).trans rfl

set_option maxRecDepth 16384 in
theorem t_143_80 {d : Nat} {h : AH} (hs : Sh h) (u1 : Option Value) (u2 : Option Value) (u3 : Option Value) :
    Q d 143 80 [some (.ref 189), u1, u2, u3] [] h =
  cK (E d 140 [.ref 189] h) (Q d 143 84 [some (.ref 189), u1, u2, u3]) [] := by
  rw [← hs.1]
  exact (blkM (fun p => Nat.beq p 84) 3 80 _ _ _).trans rfl

set_option maxRecDepth 16384 in
theorem t_143_103 {d : Nat} {h : AH} (hs : Sh h) (u1 : Option Value) (u2 : Option Value) (u3 : Option Value) (s0 : Int32) :
    Q d 143 103 [some (.ref 189), u1, u2, u3] [.int s0] h =
  cK (E d 142 [.ref 189] h) (Q d 143 108 [some (.ref 189), u1, klV u2, some (.int s0)]) [] := by
  rw [← hs.1]
  exact (blkM (fun p => Nat.beq p 108) 4 103 _ _ _).trans rfl

set_option maxRecDepth 16384 in
theorem t_143_84 {d : Nat} {h : AH} (hs : Sh h) (u1 : Option Value) (u2 : Option Value) (u3 : Option Value) :
    Q d 143 84 [some (.ref 189), u1, u2, u3] [] h =
  cK (E d 130 [.ref 189, .int 27, .int 0] h) (Q d 143 91 [some (.ref 189), u1, u2, u3]) [] := by
  rw [← hs.1]
  exact (blkM (fun p => Nat.beq p 91) 5 84 _ _ _).trans rfl

set_option maxRecDepth 16384 in
theorem t_143_108 {d : Nat} {h : AH} (hs : Sh h) (x3 : Int32) (u1 : Option Value) (u2 : Option Value) :
    Q d 143 108 [some (.ref 189), u1, u2, some (.int x3)] [] h =
  cK (E d 130 [.ref 189, .int 28, .int x3] h) (Q d 143 115 [some (.ref 189), u1, u2, some (.int x3)]) [] := by
  rw [← hs.1]
  exact (blkM (fun p => Nat.beq p 115) 5 108 _ _ _).trans rfl

set_option maxRecDepth 16384 in
theorem t_143_91 {d : Nat} {h : AH} (hs : Sh h) (u0 : Option Value) (u1 : Option Value) (u2 : Option Value) (u3 : Option Value) (s0 : Int32) :
    Q d 143 91 [u0, u1, u2, u3] [.int s0] h =
  some (none, h) := by
  rw [← hs.1]
  exact (blkM (fun p => false) 4 91 _ _ _).trans rfl

set_option maxRecDepth 16384 in
theorem t_143_115 {d : Nat} {h : AH} (hs : Sh h) (u0 : Option Value) (u1 : Option Value) (u2 : Option Value) (u3 : Option Value) (s0 : Int32) :
    Q d 143 115 [u0, u1, u2, u3] [.int s0] h =
  some (none, h) := by
  rw [← hs.1]
  exact (blkM (fun p => false) 3 115 _ _ _).trans rfl

/-! 144 PostRoomModel.block()V -/
set_option maxRecDepth 16384 in
theorem t_144 {d : Nat} {h : AH} (hs : Sh h)  :
    E (d + 1) 144 [.ref 189] h =
  cK (E d 58 [.ref 189, .int 123] h) (Q d 144 7 [some (.ref 189)]) [.ref 189] := by
  rw [← hs.1]
  exact ent rfl ((blkM (fun p => Nat.beq p 7) 5 0 _ _ _).trans rfl)

set_option maxRecDepth 16384 in
theorem t_144_7 {d : Nat} {h : AH} (hs : Sh h) (s0 : Nat) (s1 : Int32) :
    Q d 144 7 [some (.ref 189)] [.int s1, .ref s0] h =
  (ck (gC h s0) 14 <|
  cK (E d 137 [.ref s0, .int s1] h) (Q d 144 10 [some (.ref 189)]) []) := by
  rw [← hs.1]
  exact (blkM (fun p => Nat.beq p 10) 2 7 _ _ _).trans rfl

set_option maxRecDepth 16384 in
theorem t_144_10 {d : Nat} {h : AH} (hs : Sh h)  :
    Q d 144 10 [some (.ref 189)] [] h =
  cK (E d 61 [.ref 189, .int 123] h) (Q d 144 16 [some (.ref 189)]) [] := by
  rw [← hs.1]
  exact (blkM (fun p => Nat.beq p 16) 4 10 _ _ _).trans rfl

set_option maxRecDepth 16384 in
theorem t_144_16 {d : Nat} {h : AH} (hs : Sh h)  :
    Q d 144 16 [some (.ref 189)] [] h =
  if gI h 3596 189 = 0 then
   cK (E d 58 [.ref 189, .int 125] h) (Q d 144 29 [some (.ref 189)]) []
  else
   cK (E d 61 [.ref 189, .int 125] h) (Q d 144 45 [some (.ref 189)]) [] := by
  rw [← hs.1]
  exact (blkM (fun p => Nat.beq p 29 || Nat.beq p 45) 7 16 _ _ _).trans rfl

set_option maxRecDepth 16384 in
theorem t_144_29 {d : Nat} {h : AH} (hs : Sh h) (s0 : Int32) :
    Q d 144 29 [some (.ref 189)] [.int s0] h =
  if s0 = 0 then
   cK (E d 128 [.ref 189] h) (Q d 144 36 [some (.ref 189)]) []
  else
   cK (E d 61 [.ref 189, .int 125] h) (Q d 144 45 [some (.ref 189)]) [] := by
  rw [← hs.1]
  exact (blkM (fun p => Nat.beq p 36 || Nat.beq p 45) 5 29 _ _ _).trans rfl

set_option maxRecDepth 16384 in
theorem t_144_45 {d : Nat} {h : AH} (hs : Sh h)  :
    Q d 144 45 [some (.ref 189)] [] h =
  some (none, sI h 3708 189 ((gI h 3708 189) - 1)) := by
  rw [← hs.1]
  exact (blkM (fun p => false) 8 45 _ _ _).trans rfl

set_option maxRecDepth 16384 in
theorem t_144_36 {d : Nat} {h : AH} (hs : Sh h)  :
    Q d 144 36 [some (.ref 189)] [] h =
  Q d 144 16 [some (.ref 189)] [] h := by
  rw [← hs.1]
  exact (blkM (fun p => Nat.beq p 16) 3 36 _ _ _).trans rfl

/-! 145 PostRoomModel.here(I)V -/
set_option maxRecDepth 16384 in
theorem t_145 {d : Nat} {h : AH} (hs : Sh h) (x1 : Int32) :
    E (d + 1) 145 [.ref 189, .int x1] h =
  (gd ((gI h 3698 189) + x1) 8800 <|
  some (none, sA h 275 (ix ((gI h 3698 189) + x1)) (gI h 3697 189))) := by
  rw [← hs.1]
  exact ent rfl ((blkM (fun p => false) 11 0 _ _ _).trans rfl)

/-! 146 PostRoomModel.choice()V -/
set_option maxRecDepth 16384 in
theorem t_146 {d : Nat} {h : AH} (hs : Sh h)  :
    E (d + 1) 146 [.ref 189] h =
  cK (E d 131 [.ref 189] h) (Q d 146 4 [some (.ref 189), none, none]) [] := by
  rw [← hs.1]
  exact ent rfl ((blkM (fun p => Nat.beq p 4) 3 0 _ _ _).trans rfl)

set_option maxRecDepth 16384 in
theorem t_146_4 {d : Nat} {h : AH} (hs : Sh h) (u1 : Option Value) (u2 : Option Value) :
    Q d 146 4 [some (.ref 189), u1, u2] [] h =
  cK (E d 130 [.ref 189, .int 40, .int 0] h) (Q d 146 11 [some (.ref 189), u1, u2]) [] := by
  rw [← hs.1]
  exact (blkM (fun p => Nat.beq p 11) 5 4 _ _ _).trans rfl

set_option maxRecDepth 16384 in
theorem t_146_11 {d : Nat} {h : AH} (hs : Sh h) (u1 : Option Value) (u2 : Option Value) (s0 : Int32) :
    Q d 146 11 [some (.ref 189), u1, u2] [.int s0] h =
  cK (E d 144 [.ref 189] h) (Q d 146 16 [some (.ref 189), some (.int s0), u2]) [] := by
  rw [← hs.1]
  exact (blkM (fun p => Nat.beq p 16) 4 11 _ _ _).trans rfl

set_option maxRecDepth 16384 in
theorem t_146_16 {d : Nat} {h : AH} (hs : Sh h) (x1 : Int32) (u2 : Option Value) :
    Q d 146 16 [some (.ref 189), some (.int x1), u2] [] h =
  cK (E d 55 [.ref 189, .int 44] h) (Q d 146 22 [some (.ref 189), some (.int x1), u2]) [] := by
  rw [← hs.1]
  exact (blkM (fun p => Nat.beq p 22) 4 16 _ _ _).trans rfl

set_option maxRecDepth 16384 in
theorem t_146_22 {d : Nat} {h : AH} (hs : Sh h) (x1 : Int32) (u2 : Option Value) (s0 : Int32) :
    Q d 146 22 [some (.ref 189), some (.int x1), u2] [.int s0] h =
  if s0 = 0 then
   cK (E d 145 [.ref 189, .int x1] h) (Q d 146 55 [none, none, none]) []
  else
   cK (E d 130 [.ref 189, .int 39, .int 0] h) (Q d 146 32 [some (.ref 189), some (.int x1), u2]) [] := by
  rw [← hs.1]
  exact (blkM (fun p => Nat.beq p 32 || Nat.beq p 55) 6 22 _ _ _).trans rfl

set_option maxRecDepth 16384 in
theorem t_146_32 {d : Nat} {h : AH} (hs : Sh h) (x1 : Int32) (u2 : Option Value) (s0 : Int32) :
    Q d 146 32 [some (.ref 189), some (.int x1), u2] [.int s0] h =
  cK (E d 145 [.ref 189, .int x1] h) (Q d 146 38 [some (.ref 189), some (.int x1), some (.int s0)]) [] := by
  rw [← hs.1]
  exact (blkM (fun p => Nat.beq p 38) 5 32 _ _ _).trans rfl

set_option maxRecDepth 16384 in
theorem t_146_55 {d : Nat} {h : AH} (hs : Sh h)  :
    Q d 146 55 [none, none, none] [] h =
  some (none, h) := by
  rw [← hs.1]
  exact (blkM (fun p => false) 2 55 _ _ _).trans rfl

set_option maxRecDepth 16384 in
theorem t_146_38 {d : Nat} {h : AH} (hs : Sh h) (x2 : Int32) (u1 : Option Value) :
    Q d 146 38 [some (.ref 189), u1, some (.int x2)] [] h =
  cK (E d 144 [.ref 189] h) (Q d 146 42 [some (.ref 189), u1, some (.int x2)]) [] := by
  rw [← hs.1]
  exact (blkM (fun p => Nat.beq p 42) 3 38 _ _ _).trans rfl

set_option maxRecDepth 16384 in
theorem t_146_42 {d : Nat} {h : AH} (hs : Sh h) (x2 : Int32) (u1 : Option Value) :
    Q d 146 42 [some (.ref 189), u1, some (.int x2)] [] h =
  cK (E d 145 [.ref 189, .int x2] h) (Q d 146 47 [some (.ref 189), u1, some (.int x2)]) [] := by
  rw [← hs.1]
  exact (blkM (fun p => Nat.beq p 47) 4 42 _ _ _).trans rfl

set_option maxRecDepth 16384 in
theorem t_146_47 {d : Nat} {h : AH} (hs : Sh h) (u0 : Option Value) (u1 : Option Value) (u2 : Option Value) :
    Q d 146 47 [u0, u1, u2] [] h =
  Q d 146 55 [none, none, none] [] h := by
  rw [← hs.1]
  exact (blkM (fun p => Nat.beq p 55) 3 47 _ _ _).trans rfl

/-! 147 PostRoomModel.trial()V -/
set_option maxRecDepth 16384 in
theorem t_147 {d : Nat} {h : AH} (hs : Sh h)  :
    E (d + 1) 147 [.ref 189] h =
  if (0 : Int32) < gI h 3596 189 then
   some (none, h)
  else
   cK (E d 130 [.ref 189, .int 41, .int ((820 * (1 - (gI h 3696 189))) + (gI h 3701 189))] (sI h 3701 189 ((gI h 3701 189) + 1))) (Q d 147 41 [some (.ref 189), some (.int ((820 * (1 - (gI h 3696 189))) + (gI h 3701 189))), none, none]) [] := by
  rw [← hs.1]
  exact ent rfl ((blkM (fun p => Nat.beq p 41) 24 0 _ _ _).trans rfl)

set_option maxRecDepth 16384 in
theorem t_147_41 {d : Nat} {h : AH} (hs : Sh h) (x1 : Int32) (u2 : Option Value) (u3 : Option Value) (s0 : Int32) :
    Q d 147 41 [some (.ref 189), some (.int x1), u2, u3] [.int s0] h =
  cK (E d 144 [.ref 189] h) (Q d 147 46 [some (.ref 189), some (.int x1), some (.int s0), u3]) [] := by
  rw [← hs.1]
  exact (blkM (fun p => Nat.beq p 46) 4 41 _ _ _).trans rfl

set_option maxRecDepth 16384 in
theorem t_147_46 {d : Nat} {h : AH} (hs : Sh h) (x1 : Int32) (u2 : Option Value) (u3 : Option Value) :
    Q d 147 46 [some (.ref 189), some (.int x1), u2, u3] [] h =
  cK (E d 130 [.ref 189, .int 42, .int x1] h) (Q d 147 53 [some (.ref 189), some (.int x1), u2, u3]) [] := by
  rw [← hs.1]
  exact (blkM (fun p => Nat.beq p 53) 5 46 _ _ _).trans rfl

set_option maxRecDepth 16384 in
theorem t_147_53 {d : Nat} {h : AH} (hs : Sh h) (x1 : Int32) (u2 : Option Value) (u3 : Option Value) (s0 : Int32) :
    Q d 147 53 [some (.ref 189), some (.int x1), u2, u3] [.int s0] h =
  (gd x1 1640 <|
  Q d 147 63 [some (.ref 189), some (.int x1), none, some (.int (-1))] [] (sA h 276 (ix x1) (-1))) := by
  rw [← hs.1]
  exact (blkM (fun p => Nat.beq p 63) 10 53 _ _ _).trans rfl

set_option maxRecDepth 16384 in
theorem t_147_63 {d : Nat} {h : AH} (hs : Sh h) (x1 : Int32) (x3 : Int32) :
    Q d 147 63 [some (.ref 189), some (.int x1), none, some (.int x3)] [] h =
  cK (E d 55 [.ref 189, .int 47] h) (Q d 147 69 [some (.ref 189), some (.int x1), none, some (.int x3)]) [] := by
  rw [← hs.1]
  exact (blkM (fun p => Nat.beq p 69) 4 63 _ _ _).trans rfl

set_option maxRecDepth 16384 in
theorem t_147_69 {d : Nat} {h : AH} (hs : Sh h) (x1 : Int32) (x3 : Int32) (u2 : Option Value) (s0 : Int32) :
    Q d 147 69 [some (.ref 189), some (.int x1), u2, some (.int x3)] [.int s0] h =
  if s0 = 0 then
   gd x1 1640 <|
   cK (E d 55 [.ref 189, .int 48] (sA h 277 (ix x1) (-1))) (Q d 147 95 [some (.ref 189), some (.int x1), u2, some (.int x3)]) []
  else
   cK (E d 148 [.ref 189, .int x1, .int x3] h) (Q d 147 78 [some (.ref 189), some (.int x1), u2, some (.int x3)]) [] := by
  rw [← hs.1]
  exact (blkM (fun p => Nat.beq p 78 || Nat.beq p 95) 10 69 _ _ _).trans rfl

set_option maxRecDepth 16384 in
theorem t_147_78 {d : Nat} {h : AH} (hs : Sh h) (x1 : Int32) (u2 : Option Value) (u3 : Option Value) (s0 : Int32) :
    Q d 147 78 [some (.ref 189), some (.int x1), u2, u3] [.int s0] h =
  Q d 147 63 [some (.ref 189), some (.int x1), none, some (.int s0)] [] h := by
  rw [← hs.1]
  exact (blkM (fun p => Nat.beq p 63) 4 78 _ _ _).trans rfl

set_option maxRecDepth 16384 in
theorem t_147_95 {d : Nat} {h : AH} (hs : Sh h) (x1 : Int32) (u2 : Option Value) (u3 : Option Value) (s0 : Int32) :
    Q d 147 95 [some (.ref 189), some (.int x1), u2, u3] [.int s0] h =
  if s0 = 0 then
   gd x1 1640 <|
   some (none, sA h 278 (ix x1) (gI h 3697 189))
  else
   gd x1 1640 <|
   cK (E d 144 [.ref 189] (sA h 277 (ix x1) (gI h 3697 189))) (Q d 147 112 [some (.ref 189), some (.int x1), u2, u3]) [] := by
  rw [← hs.1]
  exact (blkM (fun p => Nat.beq p 112) 10 95 _ _ _).trans rfl

set_option maxRecDepth 16384 in
theorem t_147_112 {d : Nat} {h : AH} (hs : Sh h) (x1 : Int32) (u2 : Option Value) (u3 : Option Value) :
    Q d 147 112 [some (.ref 189), some (.int x1), u2, u3] [] h =
  cK (E d 130 [.ref 189, .int 43, .int x1] h) (Q d 147 119 [some (.ref 189), some (.int x1), u2, u3]) [] := by
  rw [← hs.1]
  exact (blkM (fun p => Nat.beq p 119) 5 112 _ _ _).trans rfl

set_option maxRecDepth 16384 in
theorem t_147_119 {d : Nat} {h : AH} (hs : Sh h) (x1 : Int32) (u2 : Option Value) (u3 : Option Value) (s0 : Int32) :
    Q d 147 119 [some (.ref 189), some (.int x1), u2, u3] [.int s0] h =
  (gd x1 1640 <|
  some (none, sA h 278 (ix x1) (gI h 3697 189))) := by
  rw [← hs.1]
  exact (blkM (fun p => false) 9 119 _ _ _).trans rfl

/-! 148 PostRoomModel.on(II)I -/
set_option maxRecDepth 16384 in
theorem t_148 {d : Nat} {h : AH} (hs : Sh h) (x1 : Int32) (x2 : Int32) :
    E (d + 1) 148 [.ref 189, .int x1, .int x2] h =
  cK (E d 50 [.ref 189, .int 0, .int 9] h) (Q d 148 7 [some (.ref 189), some (.int x1), some (.int x2), none, none, none]) [] := by
  rw [← hs.1]
  exact ent rfl ((blkM (fun p => Nat.beq p 7) 5 0 _ _ _).trans rfl)

set_option maxRecDepth 16384 in
theorem t_148_7 {d : Nat} {h : AH} (hs : Sh h) (x1 : Int32) (x2 : Int32) (u3 : Option Value) (u4 : Option Value) (u5 : Option Value) (s0 : Int32) :
    Q d 148 7 [some (.ref 189), some (.int x1), some (.int x2), u3, u4, u5] [.int s0] h =
  if (0 : Int32) < gI h 3596 189 then
   some (some (.int x2), h)
  else
   gd ((700 * (1 - (gI h 3696 189))) + (gI h 3702 189)) 1400 <|
   gd ((700 * (1 - (gI h 3696 189))) + (gI h 3702 189)) 1400 <|
   gd ((700 * (1 - (gI h 3696 189))) + (gI h 3702 189)) 1400 <|
   if x2 < 0 then
    gd x1 1640 <|
    cK (E d 144 [.ref 189] (sA (sA (sA (sA (sI h 3702 189 ((gI h 3702 189) + 1)) 279 (ix ((700 * (1 - (gI h 3696 189))) + (gI h 3702 189))) s0) 280 (ix ((700 * (1 - (gI h 3696 189))) + (gI h 3702 189))) (gI h 3697 189)) 281 (ix ((700 * (1 - (gI h 3696 189))) + (gI h 3702 189))) (-1)) 276 (ix x1) ((700 * (1 - (gI h 3696 189))) + (gI h 3702 189)))) (Q d 148 98 [some (.ref 189), some (.int x1), none, none, some (.int ((700 * (1 - (gI h 3696 189))) + (gI h 3702 189))), none]) []
   else
    gd x2 1400 <|
    cK (E d 144 [.ref 189] (sA (sA (sA (sA (sI h 3702 189 ((gI h 3702 189) + 1)) 279 (ix ((700 * (1 - (gI h 3696 189))) + (gI h 3702 189))) s0) 280 (ix ((700 * (1 - (gI h 3696 189))) + (gI h 3702 189))) (gI h 3697 189)) 281 (ix ((700 * (1 - (gI h 3696 189))) + (gI h 3702 189))) (-1)) 281 (ix x2) ((700 * (1 - (gI h 3696 189))) + (gI h 3702 189)))) (Q d 148 98 [some (.ref 189), some (.int x1), none, none, some (.int ((700 * (1 - (gI h 3696 189))) + (gI h 3702 189))), none]) [] := by
  rw [← hs.1]
  exact (blkM (fun p => Nat.beq p 98) 47 7 _ _ _).trans rfl

set_option maxRecDepth 16384 in
theorem t_148_98 {d : Nat} {h : AH} (hs : Sh h) (x1 : Int32) (x4 : Int32) (u2 : Option Value) (u3 : Option Value) (u5 : Option Value) :
    Q d 148 98 [some (.ref 189), some (.int x1), u2, u3, some (.int x4), u5] [] h =
  cK (E d 130 [.ref 189, .int 42, .int x1] h) (Q d 148 105 [some (.ref 189), some (.int x1), u2, u3, some (.int x4), u5]) [] := by
  rw [← hs.1]
  exact (blkM (fun p => Nat.beq p 105) 5 98 _ _ _).trans rfl

set_option maxRecDepth 16384 in
theorem t_148_105 {d : Nat} {h : AH} (hs : Sh h) (x4 : Int32) (u0 : Option Value) (u1 : Option Value) (u2 : Option Value) (u3 : Option Value) (u5 : Option Value) (s0 : Int32) :
    Q d 148 105 [u0, u1, u2, u3, some (.int x4), u5] [.int s0] h =
  some (some (.int x4), h) := by
  rw [← hs.1]
  exact (blkM (fun p => false) 4 105 _ _ _).trans rfl

/-! 149 PostRoomModel.act()V -/
set_option maxRecDepth 16384 in
theorem t_149 {d : Nat} {h : AH} (hs : Sh h)  :
    E (d + 1) 149 [.ref 189] h =
  cK (E d 55 [.ref 189, .int 34] h) (Q d 149 6 [some (.ref 189), none, none]) [] := by
  rw [← hs.1]
  exact ent rfl ((blkM (fun p => Nat.beq p 6) 4 0 _ _ _).trans rfl)

set_option maxRecDepth 16384 in
theorem t_149_6 {d : Nat} {h : AH} (hs : Sh h) (u1 : Option Value) (u2 : Option Value) (s0 : Int32) :
    Q d 149 6 [some (.ref 189), u1, u2] [.int s0] h =
  if s0 = 0 then
   cK (E d 55 [.ref 189, .int 35] h) (Q d 149 45 [some (.ref 189), u1, u2]) []
  else
   cK (E d 139 [.ref 189] h) (Q d 149 13 [some (.ref 189), u1, u2]) [] := by
  rw [← hs.1]
  exact (blkM (fun p => Nat.beq p 13 || Nat.beq p 45) 5 6 _ _ _).trans rfl

set_option maxRecDepth 16384 in
theorem t_149_13 {d : Nat} {h : AH} (hs : Sh h) (u1 : Option Value) (u2 : Option Value) :
    Q d 149 13 [some (.ref 189), u1, u2] [] h =
  cK (E d 56 [.ref 189, .int 62, .int 73] h) (Q d 149 21 [some (.ref 189), u1, u2]) [] := by
  rw [← hs.1]
  exact (blkM (fun p => Nat.beq p 21) 5 13 _ _ _).trans rfl

set_option maxRecDepth 16384 in
theorem t_149_45 {d : Nat} {h : AH} (hs : Sh h) (u1 : Option Value) (u2 : Option Value) (s0 : Int32) :
    Q d 149 45 [some (.ref 189), u1, u2] [.int s0] h =
  if s0 = 0 then
   cK (E d 55 [.ref 189, .int 36] h) (Q d 149 69 [some (.ref 189), u1, u2]) []
  else
   cK (E d 139 [.ref 189] h) (Q d 149 52 [some (.ref 189), u1, u2]) [] := by
  rw [← hs.1]
  exact (blkM (fun p => Nat.beq p 52 || Nat.beq p 69) 5 45 _ _ _).trans rfl

set_option maxRecDepth 16384 in
theorem t_149_21 {d : Nat} {h : AH} (hs : Sh h) (u1 : Option Value) (u2 : Option Value) (s0 : Int32) :
    Q d 149 21 [some (.ref 189), u1, u2] [.int s0] h =
  cK (E d 131 [.ref 189] h) (Q d 149 28 [some (.ref 189), klV u1, some (.int (s0 + 1))]) [] := by
  rw [← hs.1]
  exact (blkM (fun p => Nat.beq p 28) 6 21 _ _ _).trans rfl

set_option maxRecDepth 16384 in
theorem t_149_52 {d : Nat} {h : AH} (hs : Sh h) (u1 : Option Value) (u2 : Option Value) :
    Q d 149 52 [some (.ref 189), u1, u2] [] h =
  cK (E d 130 [.ref 189, .int 30, .int 0] h) (Q d 149 59 [some (.ref 189), u1, u2]) [] := by
  rw [← hs.1]
  exact (blkM (fun p => Nat.beq p 59) 5 52 _ _ _).trans rfl

set_option maxRecDepth 16384 in
theorem t_149_69 {d : Nat} {h : AH} (hs : Sh h) (u1 : Option Value) (u2 : Option Value) (s0 : Int32) :
    Q d 149 69 [some (.ref 189), u1, u2] [.int s0] h =
  if s0 = 0 then
   cK (E d 55 [.ref 189, .int 37] h) (Q d 149 97 [some (.ref 189), u1, u2]) []
  else
   cK (E d 139 [.ref 189] h) (Q d 149 76 [some (.ref 189), u1, u2]) [] := by
  rw [← hs.1]
  exact (blkM (fun p => Nat.beq p 76 || Nat.beq p 97) 5 69 _ _ _).trans rfl

set_option maxRecDepth 16384 in
theorem t_149_28 {d : Nat} {h : AH} (hs : Sh h) (x2 : Int32) (u1 : Option Value) :
    Q d 149 28 [some (.ref 189), u1, some (.int x2)] [] h =
  cK (E d 130 [.ref 189, .int 29, .int x2] h) (Q d 149 35 [some (.ref 189), u1, some (.int x2)]) [] := by
  rw [← hs.1]
  exact (blkM (fun p => Nat.beq p 35) 5 28 _ _ _).trans rfl

set_option maxRecDepth 16384 in
theorem t_149_59 {d : Nat} {h : AH} (hs : Sh h) (u0 : Option Value) (u1 : Option Value) (u2 : Option Value) (s0 : Int32) :
    Q d 149 59 [u0, u1, u2] [.int s0] h =
  some (none, h) := by
  rw [← hs.1]
  exact (blkM (fun p => false) 4 59 _ _ _).trans rfl

set_option maxRecDepth 16384 in
theorem t_149_76 {d : Nat} {h : AH} (hs : Sh h) (u1 : Option Value) (u2 : Option Value) :
    Q d 149 76 [some (.ref 189), u1, u2] [] h =
  cK (E d 139 [.ref 189] h) (Q d 149 80 [some (.ref 189), u1, u2]) [] := by
  rw [← hs.1]
  exact (blkM (fun p => Nat.beq p 80) 3 76 _ _ _).trans rfl

set_option maxRecDepth 16384 in
theorem t_149_97 {d : Nat} {h : AH} (hs : Sh h) (u1 : Option Value) (u2 : Option Value) (s0 : Int32) :
    Q d 149 97 [some (.ref 189), u1, u2] [.int s0] h =
  if s0 = 0 then
   cK (E d 55 [.ref 189, .int 38] h) (Q d 149 129 [some (.ref 189), u1, u2]) []
  else
   cK (E d 139 [.ref 189] h) (Q d 149 104 [some (.ref 189), u1, u2]) [] := by
  rw [← hs.1]
  exact (blkM (fun p => Nat.beq p 104 || Nat.beq p 129) 5 97 _ _ _).trans rfl

set_option maxRecDepth 16384 in
theorem t_149_35 {d : Nat} {h : AH} (hs : Sh h) (u0 : Option Value) (u1 : Option Value) (u2 : Option Value) (s0 : Int32) :
    Q d 149 35 [u0, u1, u2] [.int s0] h =
  some (none, h) := by
  rw [← hs.1]
  exact (blkM (fun p => false) 4 35 _ _ _).trans rfl

set_option maxRecDepth 16384 in
theorem t_149_80 {d : Nat} {h : AH} (hs : Sh h) (u1 : Option Value) (u2 : Option Value) :
    Q d 149 80 [some (.ref 189), u1, u2] [] h =
  cK (E d 130 [.ref 189, .int 31, .int 0] h) (Q d 149 87 [some (.ref 189), u1, u2]) [] := by
  rw [← hs.1]
  exact (blkM (fun p => Nat.beq p 87) 5 80 _ _ _).trans rfl

set_option maxRecDepth 16384 in
theorem t_149_104 {d : Nat} {h : AH} (hs : Sh h) (u1 : Option Value) (u2 : Option Value) :
    Q d 149 104 [some (.ref 189), u1, u2] [] h =
  cK (E d 140 [.ref 189] h) (Q d 149 108 [some (.ref 189), u1, u2]) [] := by
  rw [← hs.1]
  exact (blkM (fun p => Nat.beq p 108) 3 104 _ _ _).trans rfl

set_option maxRecDepth 16384 in
theorem t_149_129 {d : Nat} {h : AH} (hs : Sh h) (u1 : Option Value) (u2 : Option Value) (s0 : Int32) :
    Q d 149 129 [some (.ref 189), u1, u2] [.int s0] h =
  if s0 = 0 then
   cK (E d 55 [.ref 189, .int 39] h) (Q d 149 161 [some (.ref 189), u1, u2]) []
  else
   cK (E d 139 [.ref 189] h) (Q d 149 136 [some (.ref 189), u1, u2]) [] := by
  rw [← hs.1]
  exact (blkM (fun p => Nat.beq p 136 || Nat.beq p 161) 5 129 _ _ _).trans rfl

set_option maxRecDepth 16384 in
theorem t_149_87 {d : Nat} {h : AH} (hs : Sh h) (u0 : Option Value) (u1 : Option Value) (u2 : Option Value) (s0 : Int32) :
    Q d 149 87 [u0, u1, u2] [.int s0] h =
  some (none, h) := by
  rw [← hs.1]
  exact (blkM (fun p => false) 4 87 _ _ _).trans rfl

set_option maxRecDepth 16384 in
theorem t_149_108 {d : Nat} {h : AH} (hs : Sh h) (u1 : Option Value) (u2 : Option Value) :
    Q d 149 108 [some (.ref 189), u1, u2] [] h =
  cK (E d 131 [.ref 189] h) (Q d 149 112 [some (.ref 189), u1, u2]) [] := by
  rw [← hs.1]
  exact (blkM (fun p => Nat.beq p 112) 3 108 _ _ _).trans rfl

set_option maxRecDepth 16384 in
theorem t_149_136 {d : Nat} {h : AH} (hs : Sh h) (u1 : Option Value) (u2 : Option Value) :
    Q d 149 136 [some (.ref 189), u1, u2] [] h =
  cK (E d 140 [.ref 189] h) (Q d 149 140 [some (.ref 189), u1, u2]) [] := by
  rw [← hs.1]
  exact (blkM (fun p => Nat.beq p 140) 3 136 _ _ _).trans rfl

set_option maxRecDepth 16384 in
theorem t_149_161 {d : Nat} {h : AH} (hs : Sh h) (u1 : Option Value) (u2 : Option Value) (s0 : Int32) :
    Q d 149 161 [some (.ref 189), u1, u2] [.int s0] h =
  if s0 = 0 then
   cK (E d 55 [.ref 189, .int 40] h) (Q d 149 177 [some (.ref 189), u1, u2]) []
  else
   cK (E d 150 [.ref 189] h) (Q d 149 168 [some (.ref 189), u1, u2]) [] := by
  rw [← hs.1]
  exact (blkM (fun p => Nat.beq p 168 || Nat.beq p 177) 5 161 _ _ _).trans rfl

set_option maxRecDepth 16384 in
theorem t_149_112 {d : Nat} {h : AH} (hs : Sh h) (u1 : Option Value) (u2 : Option Value) :
    Q d 149 112 [some (.ref 189), u1, u2] [] h =
  cK (E d 130 [.ref 189, .int 32, .int 0] h) (Q d 149 119 [some (.ref 189), u1, u2]) [] := by
  rw [← hs.1]
  exact (blkM (fun p => Nat.beq p 119) 5 112 _ _ _).trans rfl

set_option maxRecDepth 16384 in
theorem t_149_140 {d : Nat} {h : AH} (hs : Sh h) (u1 : Option Value) (u2 : Option Value) :
    Q d 149 140 [some (.ref 189), u1, u2] [] h =
  cK (E d 142 [.ref 189] h) (Q d 149 144 [some (.ref 189), u1, u2]) [] := by
  rw [← hs.1]
  exact (blkM (fun p => Nat.beq p 144) 3 140 _ _ _).trans rfl

set_option maxRecDepth 16384 in
theorem t_149_168 {d : Nat} {h : AH} (hs : Sh h) (u0 : Option Value) (u1 : Option Value) (u2 : Option Value) :
    Q d 149 168 [u0, u1, u2] [] h =
  some (none, h) := by
  rw [← hs.1]
  exact (blkM (fun p => false) 3 168 _ _ _).trans rfl

set_option maxRecDepth 16384 in
theorem t_149_177 {d : Nat} {h : AH} (hs : Sh h) (u1 : Option Value) (u2 : Option Value) (s0 : Int32) :
    Q d 149 177 [some (.ref 189), u1, u2] [.int s0] h =
  if s0 = 0 then
   cK (E d 55 [.ref 189, .int 41] h) (Q d 149 211 [some (.ref 189), u1, u2]) []
  else
   cK (E d 142 [.ref 189] h) (Q d 149 184 [some (.ref 189), u1, u2]) [] := by
  rw [← hs.1]
  exact (blkM (fun p => Nat.beq p 184 || Nat.beq p 211) 5 177 _ _ _).trans rfl

set_option maxRecDepth 16384 in
theorem t_149_119 {d : Nat} {h : AH} (hs : Sh h) (u0 : Option Value) (u1 : Option Value) (u2 : Option Value) (s0 : Int32) :
    Q d 149 119 [u0, u1, u2] [.int s0] h =
  some (none, h) := by
  rw [← hs.1]
  exact (blkM (fun p => false) 4 119 _ _ _).trans rfl

set_option maxRecDepth 16384 in
theorem t_149_144 {d : Nat} {h : AH} (hs : Sh h) (u1 : Option Value) (u2 : Option Value) :
    Q d 149 144 [some (.ref 189), u1, u2] [] h =
  cK (E d 130 [.ref 189, .int 33, .int 0] h) (Q d 149 151 [some (.ref 189), u1, u2]) [] := by
  rw [← hs.1]
  exact (blkM (fun p => Nat.beq p 151) 5 144 _ _ _).trans rfl

set_option maxRecDepth 16384 in
theorem t_149_184 {d : Nat} {h : AH} (hs : Sh h) (u1 : Option Value) (u2 : Option Value) :
    Q d 149 184 [some (.ref 189), u1, u2] [] h =
  cK (E d 61 [.ref 189, .int 44] h) (Q d 149 190 [some (.ref 189), u1, u2]) [] := by
  rw [← hs.1]
  exact (blkM (fun p => Nat.beq p 190) 4 184 _ _ _).trans rfl

set_option maxRecDepth 16384 in
theorem t_149_211 {d : Nat} {h : AH} (hs : Sh h) (u1 : Option Value) (u2 : Option Value) (s0 : Int32) :
    Q d 149 211 [some (.ref 189), u1, u2] [.int s0] h =
  if s0 = 0 then
   cK (E d 53 [.ref 189, .int 42] h) (Q d 149 235 [some (.ref 189), u1, u2]) []
  else
   cK (E d 131 [.ref 189] h) (Q d 149 218 [some (.ref 189), u1, u2]) [] := by
  rw [← hs.1]
  exact (blkM (fun p => Nat.beq p 218 || Nat.beq p 235) 5 211 _ _ _).trans rfl

set_option maxRecDepth 16384 in
theorem t_149_151 {d : Nat} {h : AH} (hs : Sh h) (u0 : Option Value) (u1 : Option Value) (u2 : Option Value) (s0 : Int32) :
    Q d 149 151 [u0, u1, u2] [.int s0] h =
  some (none, h) := by
  rw [← hs.1]
  exact (blkM (fun p => false) 4 151 _ _ _).trans rfl

set_option maxRecDepth 16384 in
theorem t_149_190 {d : Nat} {h : AH} (hs : Sh h) (u1 : Option Value) (u2 : Option Value) :
    Q d 149 190 [some (.ref 189), u1, u2] [] h =
  cK (E d 131 [.ref 189] h) (Q d 149 194 [some (.ref 189), u1, u2]) [] := by
  rw [← hs.1]
  exact (blkM (fun p => Nat.beq p 194) 3 190 _ _ _).trans rfl

set_option maxRecDepth 16384 in
theorem t_149_218 {d : Nat} {h : AH} (hs : Sh h) (u1 : Option Value) (u2 : Option Value) :
    Q d 149 218 [some (.ref 189), u1, u2] [] h =
  cK (E d 130 [.ref 189, .int 36, .int 0] h) (Q d 149 225 [some (.ref 189), u1, u2]) [] := by
  rw [← hs.1]
  exact (blkM (fun p => Nat.beq p 225) 5 218 _ _ _).trans rfl

set_option maxRecDepth 16384 in
theorem t_149_235 {d : Nat} {h : AH} (hs : Sh h) (u1 : Option Value) (u2 : Option Value) :
    Q d 149 235 [some (.ref 189), u1, u2] [] h =
  cK (E d 130 [.ref 189, .int 37, .int 0] h) (Q d 149 242 [some (.ref 189), u1, u2]) [] := by
  rw [← hs.1]
  exact (blkM (fun p => Nat.beq p 242) 5 235 _ _ _).trans rfl

set_option maxRecDepth 16384 in
theorem t_149_194 {d : Nat} {h : AH} (hs : Sh h) (u1 : Option Value) (u2 : Option Value) :
    Q d 149 194 [some (.ref 189), u1, u2] [] h =
  cK (E d 130 [.ref 189, .int 35, .int 0] h) (Q d 149 201 [some (.ref 189), u1, u2]) [] := by
  rw [← hs.1]
  exact (blkM (fun p => Nat.beq p 201) 5 194 _ _ _).trans rfl

set_option maxRecDepth 16384 in
theorem t_149_225 {d : Nat} {h : AH} (hs : Sh h) (u0 : Option Value) (u1 : Option Value) (u2 : Option Value) (s0 : Int32) :
    Q d 149 225 [u0, u1, u2] [.int s0] h =
  some (none, h) := by
  rw [← hs.1]
  exact (blkM (fun p => false) 4 225 _ _ _).trans rfl

set_option maxRecDepth 16384 in
theorem t_149_242 {d : Nat} {h : AH} (hs : Sh h) (u0 : Option Value) (u1 : Option Value) (u2 : Option Value) (s0 : Int32) :
    Q d 149 242 [u0, u1, u2] [.int s0] h =
  some (none, h) := by
  rw [← hs.1]
  exact (blkM (fun p => false) 3 242 _ _ _).trans rfl

set_option maxRecDepth 16384 in
theorem t_149_201 {d : Nat} {h : AH} (hs : Sh h) (u0 : Option Value) (u1 : Option Value) (u2 : Option Value) (s0 : Int32) :
    Q d 149 201 [u0, u1, u2] [.int s0] h =
  some (none, h) := by
  rw [← hs.1]
  exact (blkM (fun p => false) 4 201 _ _ _).trans rfl

/-! 150 PostRoomModel.slide()V -/
set_option maxRecDepth 16384 in
theorem t_150 {d : Nat} {h : AH} (hs : Sh h)  :
    E (d + 1) 150 [.ref 189] h =
  cK (E d 139 [.ref 189] h) (Q d 150 4 [some (.ref 189), none]) [] := by
  rw [← hs.1]
  exact ent rfl ((blkM (fun p => Nat.beq p 4) 3 0 _ _ _).trans rfl)

set_option maxRecDepth 16384 in
theorem t_150_4 {d : Nat} {h : AH} (hs : Sh h) (u1 : Option Value) :
    Q d 150 4 [some (.ref 189), u1] [] h =
  cK (E d 131 [.ref 189] h) (Q d 150 8 [some (.ref 189), u1]) [] := by
  rw [← hs.1]
  exact (blkM (fun p => Nat.beq p 8) 3 4 _ _ _).trans rfl

set_option maxRecDepth 16384 in
theorem t_150_8 {d : Nat} {h : AH} (hs : Sh h) (u1 : Option Value) :
    Q d 150 8 [some (.ref 189), u1] [] h =
  cK (E d 61 [.ref 189, .int 44] h) (Q d 150 14 [some (.ref 189), u1]) [] := by
  rw [← hs.1]
  exact (blkM (fun p => Nat.beq p 14) 4 8 _ _ _).trans rfl

set_option maxRecDepth 16384 in
theorem t_150_14 {d : Nat} {h : AH} (hs : Sh h) (u1 : Option Value) :
    Q d 150 14 [some (.ref 189), u1] [] h =
  cK (E d 139 [.ref 189] h) (Q d 150 18 [some (.ref 189), u1]) [] := by
  rw [← hs.1]
  exact (blkM (fun p => Nat.beq p 18) 3 14 _ _ _).trans rfl

set_option maxRecDepth 16384 in
theorem t_150_18 {d : Nat} {h : AH} (hs : Sh h) (u1 : Option Value) :
    Q d 150 18 [some (.ref 189), u1] [] h =
  cK (E d 131 [.ref 189] h) (Q d 150 22 [some (.ref 189), u1]) [] := by
  rw [← hs.1]
  exact (blkM (fun p => Nat.beq p 22) 3 18 _ _ _).trans rfl

set_option maxRecDepth 16384 in
theorem t_150_22 {d : Nat} {h : AH} (hs : Sh h) (u1 : Option Value) :
    Q d 150 22 [some (.ref 189), u1] [] h =
  cK (E d 61 [.ref 189, .int 44] h) (Q d 150 28 [some (.ref 189), u1]) [] := by
  rw [← hs.1]
  exact (blkM (fun p => Nat.beq p 28) 4 22 _ _ _).trans rfl

set_option maxRecDepth 16384 in
theorem t_150_28 {d : Nat} {h : AH} (hs : Sh h) (u1 : Option Value) :
    Q d 150 28 [some (.ref 189), u1] [] h =
  cK (E d 131 [.ref 189] h) (Q d 150 32 [some (.ref 189), u1]) [] := by
  rw [← hs.1]
  exact (blkM (fun p => Nat.beq p 32) 3 28 _ _ _).trans rfl

set_option maxRecDepth 16384 in
theorem t_150_32 {d : Nat} {h : AH} (hs : Sh h) (u1 : Option Value) :
    Q d 150 32 [some (.ref 189), u1] [] h =
  cK (E d 130 [.ref 189, .int 34, .int 0] h) (Q d 150 39 [some (.ref 189), u1]) [] := by
  rw [← hs.1]
  exact (blkM (fun p => Nat.beq p 39) 5 32 _ _ _).trans rfl

set_option maxRecDepth 16384 in
theorem t_150_39 {d : Nat} {h : AH} (hs : Sh h) (u0 : Option Value) (u1 : Option Value) (s0 : Int32) :
    Q d 150 39 [u0, u1] [.int s0] h =
  some (none, h) := by
  rw [← hs.1]
  exact (blkM (fun p => false) 3 39 _ _ _).trans rfl

/-! 151 PostRoomModel.run(II)I -/
set_option maxRecDepth 16384 in
theorem t_151 {d : Nat} {h : AH} (hs : Sh h) (x1 : Int32) (x2 : Int32) :
    E (d + 1) 151 [.ref 189, .int x1, .int x2] h =
  if gI h 3695 189 = 0 then
   some (some (.int (-1)), sI h 3586 189 0)
  else
   cK (E d 82 [.ref 189, .int x1] (sI h 3586 189 0)) (Q d 151 17 [some (.ref 189), some (.int x1), some (.int x2), none]) [] := by
  rw [← hs.1]
  exact ent rfl ((blkM (fun p => Nat.beq p 17) 10 0 _ _ _).trans rfl)

set_option maxRecDepth 16384 in
theorem t_151_17 {d : Nat} {h : AH} (hs : Sh h) (x1 : Int32) (x2 : Int32) (u3 : Option Value) (s0 : Int32) :
    Q d 151 17 [some (.ref 189), some (.int x1), some (.int x2), u3] [.int s0] h =
  if s0 = 0 then
   some (some (.int (-1)), h)
  else
   if x2 < 1 then
    some (some (.int (-1)), h)
   else
    if (20000 : Int32) < x2 then
     some (some (.int (-1)), h)
    else
     cK (E d 32 [.ref 189] h) (Q d 151 38 [some (.ref 189), some (.int x1), some (.int x2), u3]) [] := by
  rw [← hs.1]
  exact (blkM (fun p => Nat.beq p 38) 10 17 _ _ _).trans rfl

set_option maxRecDepth 16384 in
theorem t_151_38 {d : Nat} {h : AH} (hs : Sh h) (x1 : Int32) (x2 : Int32) (u3 : Option Value) :
    Q d 151 38 [some (.ref 189), some (.int x1), some (.int x2), u3] [] h =
  Q d 151 78 [some (.ref 189), none, none, none] [] (sI (sI (sI (sI (sI (sI (sI (sI h 3717 189 0) 3720 189 0) 3725 189 x2) 3726 189 x1) 3723 189 0) 3731 189 0) 3724 189 0) 3732 189 (-1)) := by
  rw [← hs.1]
  exact (blkM (fun p => Nat.beq p 78) 26 38 _ _ _).trans rfl

set_option maxRecDepth 16384 in
theorem t_151_78 {d : Nat} {h : AH} (hs : Sh h)  :
    Q d 151 78 [some (.ref 189), none, none, none] [] h =
  if gI h 3732 189 < 0 then
   gd ((4400 * (gI h 3696 189)) + (gI h 3724 189)) 8800 <|
   gd ((4400 * (gI h 3696 189)) + (gI h 3724 189)) 8800 <|
   cK (E d 152 [.ref 189, .int (gA h 274 (ix ((4400 * (gI h 3696 189)) + (gI h 3724 189)))), .int (gA h 275 (ix ((4400 * (gI h 3696 189)) + (gI h 3724 189))))] (sI (sI h 3733 189 0) 3724 189 ((gI h 3724 189) + 1))) (Q d 151 130 [some (.ref 189), none, none, some (.int ((4400 * (gI h 3696 189)) + (gI h 3724 189)))]) []
  else
   some (some (.int (gI h 3732 189)), h) := by
  rw [← hs.1]
  exact (blkM (fun p => Nat.beq p 130) 31 78 _ _ _).trans rfl

set_option maxRecDepth 16384 in
theorem t_151_130 {d : Nat} {h : AH} (hs : Sh h) (u1 : Option Value) (u2 : Option Value) (u3 : Option Value) :
    Q d 151 130 [some (.ref 189), u1, u2, u3] [] h =
  if (0 : Int32) < gI h 3733 189 then
   if gI h 3732 189 < 0 then
    cK (E d 176 [.ref 189] h) (Q d 151 148 [some (.ref 189), none, none, none]) []
   else
    Q d 151 148 [some (.ref 189), none, none, none] [] h
  else
   Q d 151 148 [some (.ref 189), none, none, none] [] h := by
  rw [← hs.1]
  exact (blkM (fun p => Nat.beq p 148) 9 130 _ _ _).trans rfl

set_option maxRecDepth 16384 in
theorem t_151_148 {d : Nat} {h : AH} (hs : Sh h)  :
    Q d 151 148 [some (.ref 189), none, none, none] [] h =
  Q d 151 78 [some (.ref 189), none, none, none] [] h := by
  rw [← hs.1]
  exact (blkM (fun p => Nat.beq p 78) 3 148 _ _ _).trans rfl

/-! 152 PostRoomModel.works(II)V -/
set_option maxRecDepth 16384 in
theorem t_152 {d : Nat} {h : AH} (hs : Sh h) (x1 : Int32) (x2 : Int32) :
    E (d + 1) 152 [.ref 189, .int x1, .int x2] h =
  if x1 < 38 then
   if x1 < 29 then
    if x1 < 14 then
     if x1 < 7 then
      cK (E d 175 [.ref 189, .int x1, .int x2] h) (Q d 152 65 [none, none, none]) []
     else
      cK (E d 174 [.ref 189, .int x1] h) (Q d 152 56 [some (.ref 189), some (.int x1), some (.int x2)]) []
    else
     cK (E d 171 [.ref 189, .int x1, .int x2] h) (Q d 152 42 [some (.ref 189), some (.int x1), some (.int x2)]) []
   else
    cK (E d 159 [.ref 189, .int x1, .int x2] h) (Q d 152 27 [some (.ref 189), some (.int x1), some (.int x2)]) []
  else
   cK (E d 153 [.ref 189, .int x1, .int x2] h) (Q d 152 12 [some (.ref 189), some (.int x1), some (.int x2)]) [] := by
  rw [← hs.1]
  exact ent rfl ((blkM (fun p => Nat.beq p 12 || Nat.beq p 27 || Nat.beq p 42 || Nat.beq p 56 || Nat.beq p 65) 17 0 _ _ _).trans rfl)

set_option maxRecDepth 16384 in
theorem t_152_12 {d : Nat} {h : AH} (hs : Sh h) (u0 : Option Value) (u1 : Option Value) (u2 : Option Value) :
    Q d 152 12 [u0, u1, u2] [] h =
  Q d 152 65 [none, none, none] [] h := by
  rw [← hs.1]
  exact (blkM (fun p => Nat.beq p 65) 3 12 _ _ _).trans rfl

set_option maxRecDepth 16384 in
theorem t_152_27 {d : Nat} {h : AH} (hs : Sh h) (u0 : Option Value) (u1 : Option Value) (u2 : Option Value) :
    Q d 152 27 [u0, u1, u2] [] h =
  Q d 152 65 [none, none, none] [] h := by
  rw [← hs.1]
  exact (blkM (fun p => Nat.beq p 65) 3 27 _ _ _).trans rfl

set_option maxRecDepth 16384 in
theorem t_152_42 {d : Nat} {h : AH} (hs : Sh h) (u0 : Option Value) (u1 : Option Value) (u2 : Option Value) :
    Q d 152 42 [u0, u1, u2] [] h =
  Q d 152 65 [none, none, none] [] h := by
  rw [← hs.1]
  exact (blkM (fun p => Nat.beq p 65) 3 42 _ _ _).trans rfl

set_option maxRecDepth 16384 in
theorem t_152_56 {d : Nat} {h : AH} (hs : Sh h) (u0 : Option Value) (u1 : Option Value) (u2 : Option Value) :
    Q d 152 56 [u0, u1, u2] [] h =
  Q d 152 65 [none, none, none] [] h := by
  rw [← hs.1]
  exact (blkM (fun p => Nat.beq p 65) 3 56 _ _ _).trans rfl

set_option maxRecDepth 16384 in
theorem t_152_65 {d : Nat} {h : AH} (hs : Sh h)  :
    Q d 152 65 [none, none, none] [] h =
  some (none, h) := by
  rw [← hs.1]
  exact (blkM (fun p => false) 2 65 _ _ _).trans rfl

/-! 153 PostRoomModel.goesOn(II)V -/
set_option maxRecDepth 16384 in
theorem t_153 {d : Nat} {h : AH} (hs : Sh h) (x1 : Int32) (x2 : Int32) :
    E (d + 1) 153 [.ref 189, .int x1, .int x2] h =
  if x1 = 38 then
   cK (E d 154 [.ref 189] h) (Q d 153 44 [some (.ref 189), some (.int x1), some (.int x2), none]) []
  else
   if x1 = 39 then
   some (none, sI h 3724 189 x2)
  else
   if x1 = 40 then
   cK (E d 155 [.ref 189] h) (Q d 153 61 [some (.ref 189), some (.int x1), some (.int x2), none]) [.ref 189]
  else
   if x1 = 41 then
   gd (gI h 3731 189) 24 <|
   gd (gI h 3731 189) 24 <|
   some (none, sI (sA (sA h 290 (ix (gI h 3731 189)) x2) 291 (ix (gI h 3731 189)) 0) 3731 189 ((gI h 3731 189) + 1))
  else
   if x1 = 42 then
   cK (E d 156 [.ref 189, .int x2] h) (Q d 153 118 [some (.ref 189), some (.int x1), some (.int x2), none]) []
  else
   if x1 = 43 then
   gd x2 1640 <|
   gd ((gI h 3731 189) - 1) 24 <|
   if (0 : Int32) < gA h 292 (ix ((gI h 3731 189) - 1)) then
    gd ((gI h 3731 189) - 1) 24 <|
    gd ((gI h 3731 189) - 1) 24 <|
    cK (E d 157 [.ref 189, .int (gA h 292 (ix ((gI h 3731 189) - 1))), .long (gB h 293 (ix ((gI h 3731 189) - 1)))] (sI (sI h 3731 189 ((gI h 3731 189) - 1)) 3724 189 (gA h 278 (ix x2)))) (Q d 153 175 [some (.ref 189), some (.int x1), some (.int x2), none]) []
   else
    some (none, sI (sI h 3731 189 ((gI h 3731 189) - 1)) 3724 189 (gA h 278 (ix x2)))
  else
   some (none, sI h 3732 189 0) := by
  rw [← hs.1]
  exact ent rfl ((blkM (fun p => Nat.beq p 44 || Nat.beq p 61 || Nat.beq p 118 || Nat.beq p 175) 33 0 _ _ _).trans rfl)

set_option maxRecDepth 16384 in
theorem t_153_44 {d : Nat} {h : AH} (hs : Sh h) (u0 : Option Value) (u1 : Option Value) (u2 : Option Value) (u3 : Option Value) (s0 : Int32) :
    Q d 153 44 [u0, u1, u2, u3] [.int s0] h =
  some (none, h) := by
  rw [← hs.1]
  exact (blkM (fun p => false) 4 44 _ _ _).trans rfl

set_option maxRecDepth 16384 in
theorem t_153_61 {d : Nat} {h : AH} (hs : Sh h) (x2 : Int32) (u1 : Option Value) (u3 : Option Value) (s0 : Nat) (s1 : Int64) :
    Q d 153 61 [some (.ref 189), u1, some (.int x2), u3] [.long s1, .ref s0] h =
  if lg_cmp s1 0 = 0 then
   ck (gC h s0) 14 <|
   some (none, sI h 3724 s0 x2)
  else
   ck (gC h s0) 14 <|
   some (none, sI h 3724 s0 (gI h 3724 189)) := by
  rw [← hs.1]
  exact (blkM (fun p => false) 9 61 _ _ _).trans rfl

set_option maxRecDepth 16384 in
theorem t_153_118 {d : Nat} {h : AH} (hs : Sh h) (u0 : Option Value) (u1 : Option Value) (u2 : Option Value) (u3 : Option Value) :
    Q d 153 118 [u0, u1, u2, u3] [] h =
  some (none, h) := by
  rw [← hs.1]
  exact (blkM (fun p => false) 3 118 _ _ _).trans rfl

set_option maxRecDepth 16384 in
theorem t_153_175 {d : Nat} {h : AH} (hs : Sh h) (u0 : Option Value) (u1 : Option Value) (u2 : Option Value) (u3 : Option Value) :
    Q d 153 175 [u0, u1, u2, u3] [] h =
  some (none, h) := by
  rw [← hs.1]
  exact (blkM (fun p => false) 3 175 _ _ _).trans rfl

/-! 154 PostRoomModel.steps()Z -/
set_option maxRecDepth 16384 in
theorem t_154 {d : Nat} {h : AH} (hs : Sh h)  :
    E (d + 1) 154 [.ref 189] h =
  if gI h 3720 189 = gI h 3725 189 then
   some (some (.int 0), sI h 3732 189 10)
  else
   if gI h 3719 189 = 200000 then
    some (some (.int 0), sI h 3732 189 10)
   else
    some (some (.int 1), sI (sI h 3720 189 ((gI h 3720 189) + 1)) 3719 189 ((gI h 3719 189) + 1)) := by
  rw [← hs.1]
  exact ent rfl ((blkM (fun p => false) 24 0 _ _ _).trans rfl)

/-! 155 PostRoomModel.pop()J -/
set_option maxRecDepth 16384 in
theorem t_155 {d : Nat} {h : AH} (hs : Sh h)  :
    E (d + 1) 155 [.ref 189] h =
  (gd ((gI h 3723 189) - 1) 2000 <|
  some (some (.long (gB h 289 (ix ((gI h 3723 189) - 1)))), sI h 3723 189 ((gI h 3723 189) - 1))) := by
  rw [← hs.1]
  exact ent rfl ((blkM (fun p => false) 13 0 _ _ _).trans rfl)

/-! 156 PostRoomModel.tried(I)V -/
set_option maxRecDepth 16384 in
theorem t_156 {d : Nat} {h : AH} (hs : Sh h) (x1 : Int32) :
    E (d + 1) 156 [.ref 189, .int x1] h =
  (gd x1 1640 <|
  if gA h 277 (ix x1) < 0 then
   gd x1 1640 <|
   some (none, sI (sI h 3731 189 ((gI h 3731 189) - 1)) 3724 189 (gA h 278 (ix x1)))
  else
   gd ((gI h 3731 189) - 1) 24 <|
   gd ((gI h 3731 189) - 1) 24 <|
   gd x1 1640 <|
   some (none, sI (sA (sA h 291 (ix ((gI h 3731 189) - 1)) 2) 292 (ix ((gI h 3731 189) - 1)) 0) 3724 189 (gA h 277 (ix x1)))) := by
  rw [← hs.1]
  exact ent rfl ((blkM (fun p => false) 30 0 _ _ _).trans rfl)

