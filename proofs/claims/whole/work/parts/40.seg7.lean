/-! ===== THE METHODS, PIECE BY PIECE: 7 (made by wip/gen/gen40.py) ===== -/
/-! 259 PostRoom$Post.isOfWalk(LPostRoom$Item;II)Z -/
set_option maxRecDepth 16384 in
theorem t_259 {d : Nat} {h : AH} (hs : Sh h) (x1 : Nat) (x2 : Int32) (x3 : Int32) :
    E (d + 1) 259 [.ref 156, .ref x1, .int x2, .int x3] h =
  (gR h 2048 156).bind fun y1 =>
   ck (gC h x1) 5 <|
   ck (gC h y1) 2 <|
   cK (E d 207 [.ref y1, .int (gI h 1286 x1)] h) (Q d 259 11 [some (.ref 156), some (.ref x1), some (.int x2), some (.int x3), none]) [] := by
  rw [← hs.1]
  exact ent rfl ((blkM (fun p => Nat.beq p 11) 6 0 _ _ _).trans rfl)

set_option maxRecDepth 16384 in
theorem t_259_11 {d : Nat} {h : AH} (hs : Sh h) (x1 : Nat) (x2 : Int32) (x3 : Int32) (u4 : Option Value) (s0 : Int32) :
    Q d 259 11 [some (.ref 156), some (.ref x1), some (.int x2), some (.int x3), u4] [.int s0] h =
  if s0 = 0 then
   some (some (.int 0), h)
  else
   (gR h 2048 156).bind fun y1 =>
    ck (gC h y1) 2 <|
    (gR h 513 y1).bind fun y2 =>
     ck (gC h x1) 5 <|
     ck (gC h y2) 1 <|
     cK (E d 212 [.ref y2, .int (gI h 1286 x1)] h) (Q d 259 30 [some (.ref 156), some (.ref x1), some (.int x2), some (.int x3), u4]) [] := by
  rw [← hs.1]
  exact (blkM (fun p => Nat.beq p 30) 8 11 _ _ _).trans rfl

set_option maxRecDepth 16384 in
theorem t_259_30 {d : Nat} {h : AH} (hs : Sh h) (x2 : Int32) (x3 : Int32) (u0 : Option Value) (u1 : Option Value) (u4 : Option Value) (s0 : Nat) :
    Q d 259 30 [u0, u1, some (.int x2), some (.int x3), u4] [.ref s0] h =
  (ck (gC h s0) 11 <|
  ck (gC h s0) 11 <|
  if gI h 2817 s0 = x2 then
   ck (gC h s0) 11 <|
   if gI h 2824 s0 = x3 then
    some (some (.int 1), h)
   else
    some (some (.int 0), h)
  else
   some (some (.int 0), h)) := by
  rw [← hs.1]
  exact (blkM (fun p => false) 14 30 _ _ _).trans rfl

/-! 260 PostRoom$Post.stopFor(LPostRoom$Item;)I -/
set_option maxRecDepth 16384 in
theorem t_260 {d : Nat} {h : AH} (hs : Sh h) (x1 : Nat) :
    E (d + 1) 260 [.ref 156, .ref x1] h =
  (ck (gC h x1) 5 <|
  ck (gC h x1) 5 <|
  cK (E d 208 [.int (gI h 1286 x1), .int (gI h 1287 x1)] h) (Q d 260 12 [some (.ref 156), some (.ref x1), none, none, none, none, none]) [.ref 156]) := by
  rw [← hs.1]
  exact ent rfl ((blkM (fun p => Nat.beq p 12) 7 0 _ _ _).trans rfl)

set_option maxRecDepth 16384 in
theorem t_260_12 {d : Nat} {h : AH} (hs : Sh h) (x1 : Nat) (u2 : Option Value) (u3 : Option Value) (u4 : Option Value) (u5 : Option Value) (u6 : Option Value) (s0 : Nat) (s1 : Int32) :
    Q d 260 12 [some (.ref 156), some (.ref x1), u2, u3, u4, u5, u6] [.int s1, .ref s0] h =
  (ck (gC h s0) 8 <|
  cK (E d 263 [.ref s0, .int s1] h) (Q d 260 15 [some (.ref 156), some (.ref x1), u2, u3, u4, u5, u6]) []) := by
  rw [← hs.1]
  exact (blkM (fun p => Nat.beq p 15) 2 12 _ _ _).trans rfl

set_option maxRecDepth 16384 in
theorem t_260_15 {d : Nat} {h : AH} (hs : Sh h) (x1 : Nat) (u2 : Option Value) (u3 : Option Value) (u4 : Option Value) (u5 : Option Value) (u6 : Option Value) (s0 : Int32) :
    Q d 260 15 [some (.ref 156), some (.ref x1), u2, u3, u4, u5, u6] [.int s0] h =
  if s0 = (-1) then
   (gR h 2048 156).bind fun y1 =>
    ck (gC h y1) 2 <|
    (gR h 513 y1).bind fun y2 =>
     ck (gC h x1) 5 <|
     ck (gC h y2) 1 <|
     cK (E d 212 [.ref y2, .int (gI h 1286 x1)] h) (Q d 260 48 [some (.ref 156), some (.ref x1), some (.int s0), u3, u4, u5, u6]) []
  else
   gd s0 40 <|
   cK (E d 310 [.ref 156, .ref x1, .int (gA h 167 (ix s0))] h) (Q d 260 32 [some (.ref 156), some (.ref x1), some (.int s0), u3, u4, u5, u6]) [] := by
  rw [← hs.1]
  exact (blkM (fun p => Nat.beq p 32 || Nat.beq p 48) 12 15 _ _ _).trans rfl

set_option maxRecDepth 16384 in
theorem t_260_32 {d : Nat} {h : AH} (hs : Sh h) (u0 : Option Value) (u1 : Option Value) (u2 : Option Value) (u3 : Option Value) (u4 : Option Value) (u5 : Option Value) (u6 : Option Value) :
    Q d 260 32 [u0, u1, u2, u3, u4, u5, u6] [] h =
  some (some (.int (-1)), h) := by
  rw [← hs.1]
  exact (blkM (fun p => false) 3 32 _ _ _).trans rfl

set_option maxRecDepth 16384 in
theorem t_260_48 {d : Nat} {h : AH} (hs : Sh h) (x1 : Nat) (u2 : Option Value) (u3 : Option Value) (u4 : Option Value) (u5 : Option Value) (u6 : Option Value) (s0 : Nat) :
    Q d 260 48 [some (.ref 156), some (.ref x1), u2, u3, u4, u5, u6] [.ref s0] h =
  (ck (gC h s0) 11 <|
  ck (gC h x1) 5 <|
  ck (gC h s0) 11 <|
  cK (E d 311 [.ref s0, .int ((gI h 1287 x1) / 27)] h) (Q d 260 63 [some (.ref 156), some (.ref x1), klV u2, some (.ref s0), u4, u5, u6]) []) := by
  rw [← hs.1]
  exact (blkM (fun p => Nat.beq p 63) 9 48 _ _ _).trans rfl

set_option maxRecDepth 16384 in
theorem t_260_63 {d : Nat} {h : AH} (hs : Sh h) (x1 : Nat) (x3 : Nat) (u2 : Option Value) (u4 : Option Value) (u5 : Option Value) (u6 : Option Value) (s0 : Int32) :
    Q d 260 63 [some (.ref 156), some (.ref x1), u2, some (.ref x3), u4, u5, u6] [.int s0] h =
  (ck (gC h x1) 5 <|
  ck (gC h x3) 11 <|
  cK (E d 312 [.ref x3, .int ((gI h 1287 x1) / 27)] h) (Q d 260 76 [some (.ref 156), some (.ref x1), u2, some (.ref x3), some (.int s0), u5, u6]) []) := by
  rw [← hs.1]
  exact (blkM (fun p => Nat.beq p 76) 8 63 _ _ _).trans rfl

set_option maxRecDepth 16384 in
theorem t_260_76 {d : Nat} {h : AH} (hs : Sh h) (x4 : Int32) (u1 : Option Value) (u2 : Option Value) (u3 : Option Value) (u5 : Option Value) (u6 : Option Value) (s0 : Int32) :
    Q d 260 76 [some (.ref 156), u1, u2, u3, some (.int x4), u5, u6] [.int s0] h =
  Q d 260 81 [some (.ref 156), none, none, none, some (.int x4), some (.int s0), some (.int 0)] [] h := by
  rw [← hs.1]
  exact (blkM (fun p => Nat.beq p 81) 5 76 _ _ _).trans rfl

set_option maxRecDepth 16384 in
theorem t_260_81 {d : Nat} {h : AH} (hs : Sh h) (x4 : Int32) (x5 : Int32) (x6 : Int32) :
    Q d 260 81 [some (.ref 156), none, none, none, some (.int x4), some (.int x5), some (.int x6)] [] h =
  if x6 < gI h 2064 156 then
   gd x6 9 <|
   if gA h 172 (ix x6) = x4 then
    gd x6 9 <|
    if gA h 173 (ix x6) = x5 then
     some (some (.int x6), h)
    else
     Q d 260 81 [some (.ref 156), none, none, none, some (.int x4), some (.int x5), some (.int (x6 + 1))] [] h
   else
    Q d 260 81 [some (.ref 156), none, none, none, some (.int x4), some (.int x5), some (.int (x6 + 1))] [] h
  else
   if gI h 2064 156 < 8 then
    gd (gI h 2064 156) 9 <|
    gd (gI h 2064 156) 9 <|
    some (some (.int (((gI h 2064 156) + 1) - 1)), sI (sA (sA h 172 (ix (gI h 2064 156)) x4) 173 (ix (gI h 2064 156)) x5) 2064 156 ((gI h 2064 156) + 1))
   else
    some (some (.int (-1)), h) := by
  rw [← hs.1]
  exact (blkM (fun p => Nat.beq p 81) 32 81 _ _ _).trans rfl

/-! 261 PostRoom$Post.workOutWalk()V -/
set_option maxRecDepth 16384 in
theorem t_261 {d : Nat} {h : AH} (hs : Sh h)  :
    E (d + 1) 261 [.ref 156] h =
  Q d 261 2 [some (.ref 156), some (.int 0), none] [] h := by
  rw [← hs.1]
  exact ent rfl ((blkM (fun p => Nat.beq p 2) 4 0 _ _ _).trans rfl)

set_option maxRecDepth 16384 in
theorem t_261_2 {d : Nat} {h : AH} (hs : Sh h) (x1 : Int32) :
    Q d 261 2 [some (.ref 156), some (.int x1), none] [] h =
  if x1 < (1 : Int32) <<< ((gI h 2064 156) &&& 31) then
   Q d 261 14 [some (.ref 156), some (.int x1), some (.int 0)] [] h
  else
   some (none, h) := by
  rw [← hs.1]
  exact (blkM (fun p => Nat.beq p 14) 10 2 _ _ _).trans rfl

set_option maxRecDepth 16384 in
theorem t_261_14 {d : Nat} {h : AH} (hs : Sh h) (x1 : Int32) (x2 : Int32) :
    Q d 261 14 [some (.ref 156), some (.int x1), some (.int x2)] [] h =
  if x2 < gI h 2064 156 then
   if (x1 >>> (x2 &&& 31)) &&& 1 = 0 then
    if x1 = 0 then
     cK (E d 313 [.ref 156, .int x2, .int (gI h 2064 156)] h) (Q d 261 53 [some (.ref 156), some (.int x1), some (.int x2)]) [.int ((x1 * 8) + x2), .ref 174]
    else
     cK (E d 314 [.ref 156, .int x2, .int x1] h) (Q d 261 62 [some (.ref 156), some (.int x1), some (.int x2)]) [.int ((x1 * 8) + x2), .ref 174]
   else
    Q d 261 14 [some (.ref 156), some (.int x1), some (.int (x2 + 1))] [] h
  else
   Q d 261 2 [some (.ref 156), some (.int (x1 + 1)), none] [] h := by
  rw [← hs.1]
  exact (blkM (fun p => Nat.beq p 2 || Nat.beq p 14 || Nat.beq p 53 || Nat.beq p 62) 25 14 _ _ _).trans rfl

set_option maxRecDepth 16384 in
theorem t_261_53 {d : Nat} {h : AH} (hs : Sh h) (x1 : Int32) (x2 : Int32) (s0 : Nat) (s1 : Int32) (s2 : Int32) :
    Q d 261 53 [some (.ref 156), some (.int x1), some (.int x2)] [.int s2, .int s1, .ref s0] h =
  Q d 261 62 [some (.ref 156), some (.int x1), some (.int x2)] [.int s2, .int s1, .ref s0] h := by
  rw [← hs.1]
  exact (blkM (fun p => Nat.beq p 62) 3 53 _ _ _).trans rfl

set_option maxRecDepth 16384 in
theorem t_261_62 {d : Nat} {h : AH} (hs : Sh h) (x1 : Int32) (x2 : Int32) (s0 : Nat) (s1 : Int32) (s2 : Int32) :
    Q d 261 62 [some (.ref 156), some (.int x1), some (.int x2)] [.int s2, .int s1, .ref s0] h =
  (cw (gC h s0) 60 s0 <|
  gd s1 (gK h s0) <|
  Q d 261 14 [some (.ref 156), some (.int x1), some (.int (x2 + 1))] [] (sA h s0 (ix s1) s2)) := by
  rw [← hs.1]
  exact (blkM (fun p => Nat.beq p 14) 5 62 _ _ _).trans rfl

/-! 262 PostRoom$Post.goWalk(Ljava/util/ArrayList;I)I -/
set_option maxRecDepth 16384 in
theorem t_262 {d : Nat} {h : AH} (hs : Sh h) (x1 : Nat) (x2 : Int32) :
    E (d + 1) 262 [.ref 156, .ref x1, .int x2] h =
  cK (E d 314 [.ref 156, .int (gI h 2064 156), .int (((1 : Int32) <<< ((gI h 2064 156) &&& 31)) - 1)] h) (Q d 262 18 [some (.ref 156), some (.ref x1), some (.int x2), some (.int (((1 : Int32) <<< ((gI h 2064 156) &&& 31)) - 1)), none, none, none, none, none]) [] := by
  rw [← hs.1]
  exact ent rfl ((blkM (fun p => Nat.beq p 18) 13 0 _ _ _).trans rfl)

set_option maxRecDepth 16384 in
theorem t_262_18 {d : Nat} {h : AH} (hs : Sh h) (x1 : Nat) (x2 : Int32) (x3 : Int32) (u4 : Option Value) (u5 : Option Value) (u6 : Option Value) (u7 : Option Value) (u8 : Option Value) (s0 : Int32) :
    Q d 262 18 [some (.ref 156), some (.ref x1), some (.int x2), some (.int x3), u4, u5, u6, u7, u8] [.int s0] h =
  Q d 262 29 [some (.ref 156), some (.ref x1), some (.int x2), some (.int x3), some (.int s0), some (.int (gI h 2064 156)), some (.int 0), none, none] [] h := by
  rw [← hs.1]
  exact (blkM (fun p => Nat.beq p 29) 8 18 _ _ _).trans rfl

set_option maxRecDepth 16384 in
theorem t_262_29 {d : Nat} {h : AH} (hs : Sh h) (x1 : Nat) (x2 : Int32) (x3 : Int32) (x4 : Int32) (x5 : Int32) (x6 : Int32) :
    Q d 262 29 [some (.ref 156), some (.ref x1), some (.int x2), some (.int x3), some (.int x4), some (.int x5), some (.int x6), none, none] [] h =
  if x6 < gI h 2064 156 then
   cK (E d 314 [.ref 156, .int x5, .int x3] h) (Q d 262 45 [some (.ref 156), some (.ref x1), some (.int x2), some (.int x3), some (.int x4), some (.int x5), some (.int x6), none, none]) []
  else
   some (some (.int x4), h) := by
  rw [← hs.1]
  exact (blkM (fun p => Nat.beq p 45) 9 29 _ _ _).trans rfl

set_option maxRecDepth 16384 in
theorem t_262_45 {d : Nat} {h : AH} (hs : Sh h) (x1 : Nat) (x2 : Int32) (x3 : Int32) (x4 : Int32) (x5 : Int32) (x6 : Int32) (u7 : Option Value) (u8 : Option Value) (s0 : Int32) :
    Q d 262 45 [some (.ref 156), some (.ref x1), some (.int x2), some (.int x3), some (.int x4), some (.int x5), some (.int x6), u7, u8] [.int s0] h =
  Q d 262 50 [some (.ref 156), some (.ref x1), some (.int x2), some (.int x3), some (.int x4), some (.int x5), some (.int x6), some (.int s0), some (.int 0)] [] h := by
  rw [← hs.1]
  exact (blkM (fun p => Nat.beq p 50) 5 45 _ _ _).trans rfl

set_option maxRecDepth 16384 in
theorem t_262_50 {d : Nat} {h : AH} (hs : Sh h) (x1 : Nat) (x2 : Int32) (x3 : Int32) (x4 : Int32) (x5 : Int32) (x6 : Int32) (x7 : Int32) (x8 : Int32) :
    Q d 262 50 [some (.ref 156), some (.ref x1), some (.int x2), some (.int x3), some (.int x4), some (.int x5), some (.int x6), some (.int x7), some (.int x8)] [] h =
  if x8 < gI h 2064 156 then
   if (x3 >>> (x8 &&& 31)) &&& 1 = 0 then
    Q d 262 50 [some (.ref 156), some (.ref x1), some (.int x2), some (.int x3), some (.int x4), some (.int x5), some (.int x6), some (.int x7), some (.int (x8 + 1))] [] h
   else
    cK (E d 315 [.ref 156, .int x5, .int x8, .int x3] h) (Q d 262 77 [some (.ref 156), some (.ref x1), some (.int x2), some (.int x3), some (.int x4), some (.int x5), some (.int x6), some (.int x7), some (.int x8)]) []
  else
   cK (E d 316 [.ref 156, .int x8, .ref x1, .int x2] h) (Q d 262 96 [some (.ref 156), some (.ref x1), some (.int x2), some (.int x3), some (.int x4), none, some (.int x6), none, some (.int x8)]) [] := by
  rw [← hs.1]
  exact (blkM (fun p => Nat.beq p 50 || Nat.beq p 77 || Nat.beq p 96) 16 50 _ _ _).trans rfl

set_option maxRecDepth 16384 in
theorem t_262_77 {d : Nat} {h : AH} (hs : Sh h) (x1 : Nat) (x2 : Int32) (x3 : Int32) (x4 : Int32) (x5 : Int32) (x6 : Int32) (x7 : Int32) (x8 : Int32) (s0 : Int32) :
    Q d 262 77 [some (.ref 156), some (.ref x1), some (.int x2), some (.int x3), some (.int x4), some (.int x5), some (.int x6), some (.int x7), some (.int x8)] [.int s0] h =
  if s0 = x7 then
   cK (E d 316 [.ref 156, .int x8, .ref x1, .int x2] h) (Q d 262 96 [some (.ref 156), some (.ref x1), some (.int x2), some (.int x3), some (.int x4), none, some (.int x6), none, some (.int x8)]) []
  else
   Q d 262 50 [some (.ref 156), some (.ref x1), some (.int x2), some (.int x3), some (.int x4), some (.int x5), some (.int x6), some (.int x7), some (.int (x8 + 1))] [] h := by
  rw [← hs.1]
  exact (blkM (fun p => Nat.beq p 50 || Nat.beq p 96) 8 77 _ _ _).trans rfl

set_option maxRecDepth 16384 in
theorem t_262_96 {d : Nat} {h : AH} (hs : Sh h) (x1 : Nat) (x2 : Int32) (x3 : Int32) (x4 : Int32) (x6 : Int32) (x8 : Int32) (u5 : Option Value) (u7 : Option Value) :
    Q d 262 96 [some (.ref 156), some (.ref x1), some (.int x2), some (.int x3), some (.int x4), u5, some (.int x6), u7, some (.int x8)] [] h =
  Q d 262 29 [some (.ref 156), some (.ref x1), some (.int x2), some (.int (x3 &&& (((1 : Int32) <<< (x8 &&& 31)) ^^^ (-1)))), some (.int x4), some (.int x8), some (.int (x6 + 1)), none, none] [] h := by
  rw [← hs.1]
  exact (blkM (fun p => Nat.beq p 29) 14 96 _ _ _).trans rfl

/-! 263 PostRoom$Post.movedIndex(I)I -/
set_option maxRecDepth 16384 in
theorem t_263 {d : Nat} {h : AH} (hs : Sh h) (x1 : Int32) :
    E (d + 1) 263 [.ref 156, .int x1] h =
  Q d 263 2 [some (.ref 156), some (.int x1), some (.int 0)] [] h := by
  rw [← hs.1]
  exact ent rfl ((blkM (fun p => Nat.beq p 2) 4 0 _ _ _).trans rfl)

set_option maxRecDepth 16384 in
theorem t_263_2 {d : Nat} {h : AH} (hs : Sh h) (x1 : Int32) (x2 : Int32) :
    Q d 263 2 [some (.ref 156), some (.int x1), some (.int x2)] [] h =
  if x2 < gI h 2055 156 then
   gd x2 40 <|
   if gA h 166 (ix x2) = x1 then
    some (some (.int x2), h)
   else
    Q d 263 2 [some (.ref 156), some (.int x1), some (.int (x2 + 1))] [] h
  else
   some (some (.int (-1)), h) := by
  rw [← hs.1]
  exact (blkM (fun p => Nat.beq p 2) 14 2 _ _ _).trans rfl

/-! 264 PostRoom$Script.look()V -/
set_option maxRecDepth 16384 in
theorem t_264 {d : Nat} {h : AH} (hs : Sh h) (x0 : Nat) :
    E (d + 1) 264 [.ref x0] h =
  (ck (gC h x0) 9 <|
  (gR h 2309 x0).bind fun y1 =>
   ck (gC h y1) 12 <|
   ck (gC h x0) 9 <|
   ck (gC h x0) 9 <|
   if gI (sI h 2307 x0 (gI h 3076 y1)) 2307 x0 = 2 then
    ck (gC h x0) 9 <|
    (gR h 2309 x0).bind fun y2 =>
     ck (gC h y2) 12 <|
     cK (E d 231 [.ref y2, .ref 18] (sI h 2307 x0 (gI h 3076 y1))) (Q d 264 29 [some (.ref x0), none, none, none, none, none]) []
   else
    some (none, sI h 2307 x0 (gI h 3076 y1))) := by
  rw [← hs.1]
  exact ent rfl ((blkM (fun p => Nat.beq p 29) 14 0 _ _ _).trans rfl)

set_option maxRecDepth 16384 in
theorem t_264_29 {d : Nat} {h : AH} (hs : Sh h) (x0 : Nat) (u1 : Option Value) (u2 : Option Value) (u3 : Option Value) (u4 : Option Value) (u5 : Option Value) (s0 : Int32) :
    Q d 264 29 [some (.ref x0), u1, u2, u3, u4, u5] [.int s0] h =
  if s0 = (-1) then
   ck (gC h x0) 9 <|
   (gR h 2309 x0).bind fun y1 =>
    ck (gC h y1) 12 <|
    ck (gC h x0) 9 <|
    (gR h 2309 x0).bind fun y2 =>
     ck (gC h y2) 12 <|
     if (gI h 3075 y1) - (gI h 3074 y2) = 2 then
      ck (gC h x0) 9 <|
      (gR h 2309 x0).bind fun y3 =>
       ck (gC h y3) 12 <|
       (gR h 3072 y3).bind fun y4 =>
        ck (gC h x0) 9 <|
        (gR h 2309 x0).bind fun y5 =>
         ck (gC h y5) 12 <|
         ck (gC h y4) 62 <|
         gd (gI h 3074 y5) (gK h y4) <|
         ck (gC h x0) 9 <|
         (gR h 2309 x0).bind fun y6 =>
          ck (gC h y6) 12 <|
          (gR h 3072 y6).bind fun y7 =>
           ck (gC h x0) 9 <|
           (gR h 2309 x0).bind fun y8 =>
            ck (gC h y8) 12 <|
            ck (gC h y7) 62 <|
            gd ((gI h 3074 y8) + 1) (gK h y7) <|
            if gA h y4 (ix (gI h 3074 y5)) = 114 then
             if (gA h y7 (ix ((gI h 3074 y8) + 1))) - 48 < 0 then
              Q d 264 124 [some (.ref x0), none, some (.int (gA h y4 (ix (gI h 3074 y5)))), some (.int ((gA h y7 (ix ((gI h 3074 y8) + 1))) - 48)), none, none] [.int 0] h
             else
              if (9 : Int32) < (gA h y7 (ix ((gI h 3074 y8) + 1))) - 48 then
               Q d 264 124 [some (.ref x0), none, some (.int (gA h y4 (ix (gI h 3074 y5)))), some (.int ((gA h y7 (ix ((gI h 3074 y8) + 1))) - 48)), none, none] [.int 0] h
              else
               Q d 264 124 [some (.ref x0), none, some (.int (gA h y4 (ix (gI h 3074 y5)))), some (.int ((gA h y7 (ix ((gI h 3074 y8) + 1))) - 48)), none, none] [.int 1] h
            else
             Q d 264 124 [some (.ref x0), none, some (.int (gA h y4 (ix (gI h 3074 y5)))), some (.int ((gA h y7 (ix ((gI h 3074 y8) + 1))) - 48)), none, none] [.int 0] h
     else
      some (none, h)
  else
   ck (gC h x0) 9 <|
   some (none, sI h 2307 x0 (128 + s0)) := by
  rw [← hs.1]
  exact (blkM (fun p => Nat.beq p 124) 45 29 _ _ _).trans rfl

set_option maxRecDepth 16384 in
theorem t_264_124 {d : Nat} {h : AH} (hs : Sh h) (x0 : Nat) (x2 : Int32) (x3 : Int32) (s0 : Int32) :
    Q d 264 124 [some (.ref x0), none, some (.int x2), some (.int x3), none, none] [.int s0] h =
  if x2 = 120 then
   if x3 < 0 then
    Q d 264 146 [some (.ref x0), none, none, some (.int x3), some (.int s0), none] [.int 0] h
   else
    if (3 : Int32) < x3 then
     Q d 264 146 [some (.ref x0), none, none, some (.int x3), some (.int s0), none] [.int 0] h
    else
     Q d 264 146 [some (.ref x0), none, none, some (.int x3), some (.int s0), none] [.int 1] h
  else
   Q d 264 146 [some (.ref x0), none, none, some (.int x3), some (.int s0), none] [.int 0] h := by
  rw [← hs.1]
  exact (blkM (fun p => Nat.beq p 146) 13 124 _ _ _).trans rfl

set_option maxRecDepth 16384 in
theorem t_264_146 {d : Nat} {h : AH} (hs : Sh h) (x0 : Nat) (x3 : Int32) (x4 : Int32) (s0 : Int32) :
    Q d 264 146 [some (.ref x0), none, none, some (.int x3), some (.int x4), none] [.int s0] h =
  (ck (gC h x0) 9 <|
  (gR h 2309 x0).bind fun y1 =>
   if x4 = 0 then
    if s0 = 0 then
     Q d 264 167 [some (.ref x0), none, none, none, some (.int x4), some (.int s0)] [.int 0, .ref y1] h
    else
     Q d 264 167 [some (.ref x0), none, none, none, some (.int x4), some (.int s0)] [.int x3, .ref y1] h
   else
    Q d 264 167 [some (.ref x0), none, none, none, some (.int x4), some (.int s0)] [.int x3, .ref y1] h) := by
  rw [← hs.1]
  exact (blkM (fun p => Nat.beq p 167) 11 146 _ _ _).trans rfl

set_option maxRecDepth 16384 in
theorem t_264_167 {d : Nat} {h : AH} (hs : Sh h) (x0 : Nat) (x4 : Int32) (x5 : Int32) (s0 : Nat) (s1 : Int32) :
    Q d 264 167 [some (.ref x0), none, none, none, some (.int x4), some (.int x5)] [.int s1, .ref s0] h =
  (ck (gC h s0) 12 <|
  if x4 = 0 then
   if x5 = 0 then
    ck (gC h x0) 9 <|
    some (none, sI (sI h 3077 s0 s1) 2307 x0 2)
   else
    ck (gC h x0) 9 <|
    some (none, sI (sI h 3077 s0 s1) 2307 x0 5)
  else
   ck (gC h x0) 9 <|
   some (none, sI (sI h 3077 s0 s1) 2307 x0 4)) := by
  rw [← hs.1]
  exact (blkM (fun p => false) 11 167 _ _ _).trans rfl

/-! 265 PostRoom$Script.readStatement(I)Z -/
set_option maxRecDepth 16384 in
theorem t_265 {d : Nat} {h : AH} (hs : Sh h) (x0 : Nat) (x1 : Int32) :
    E (d + 1) 265 [.ref x0, .int x1] h =
  (ck (gC h x0) 9 <|
  if gI h 2307 x0 = 4 then
   ck (gC h x0) 9 <|
   cK (E d 317 [.ref x0] h) (Q d 265 132 [some (.ref x0), some (.int x1), some (.int (gI h 2307 x0))]) []
  else
   if gI h 2307 x0 = 5 then
   ck (gC h x0) 9 <|
   cK (E d 317 [.ref x0] h) (Q d 265 171 [some (.ref x0), some (.int x1), some (.int (gI h 2307 x0))]) []
  else
   if gI h 2307 x0 = 128 then
   ck (gC h x0) 9 <|
   cK (E d 317 [.ref x0] h) (Q d 265 210 [some (.ref x0), some (.int x1), some (.int (gI h 2307 x0))]) []
  else
   if gI h 2307 x0 = 129 then
   ck (gC h x0) 9 <|
   cK (E d 317 [.ref x0] h) (Q d 265 255 [some (.ref x0), some (.int x1), some (.int (gI h 2307 x0))]) []
  else
   if gI h 2307 x0 = 130 then
   ck (gC h x0) 9 <|
   cK (E d 317 [.ref x0] h) (Q d 265 285 [some (.ref x0), some (.int x1), some (.int (gI h 2307 x0))]) []
  else
   if gI h 2307 x0 = 131 then
   ck (gC h x0) 9 <|
   cK (E d 317 [.ref x0] h) (Q d 265 323 [some (.ref x0), some (.int x1), some (.int (gI h 2307 x0))]) []
  else
   if gI h 2307 x0 = 132 then
   ck (gC h x0) 9 <|
   cK (E d 317 [.ref x0] h) (Q d 265 361 [some (.ref x0), some (.int x1), some (.int (gI h 2307 x0))]) []
  else
   if gI h 2307 x0 = 133 then
   ck (gC h x0) 9 <|
   cK (E d 317 [.ref x0] h) (Q d 265 399 [some (.ref x0), some (.int x1), some (.int (gI h 2307 x0))]) []
  else
   if gI h 2307 x0 = 134 then
   ck (gC h x0) 9 <|
   cK (E d 317 [.ref x0] h) (Q d 265 420 [some (.ref x0), some (.int x1), some (.int (gI h 2307 x0))]) []
  else
   if gI h 2307 x0 = 135 then
   ck (gC h x0) 9 <|
   cK (E d 317 [.ref x0] h) (Q d 265 467 [some (.ref x0), some (.int x1), some (.int (gI h 2307 x0))]) []
  else
   if gI h 2307 x0 = 136 then
   ck (gC h x0) 9 <|
   cK (E d 317 [.ref x0] h) (Q d 265 497 [some (.ref x0), some (.int x1), some (.int (gI h 2307 x0))]) []
  else
   if gI h 2307 x0 = 137 then
   ck (gC h x0) 9 <|
   cK (E d 317 [.ref x0] h) (Q d 265 519 [some (.ref x0), some (.int x1), some (.int (gI h 2307 x0))]) []
  else
   if gI h 2307 x0 = 139 then
   ck (gC h x0) 9 <|
   cK (E d 317 [.ref x0] h) (Q d 265 573 [some (.ref x0), some (.int x1), some (.int (gI h 2307 x0))]) []
  else
   if gI h 2307 x0 = 140 then
   ck (gC h x0) 9 <|
   cK (E d 317 [.ref x0] h) (Q d 265 602 [some (.ref x0), some (.int x1), some (.int (gI h 2307 x0))]) []
  else
   ck (gC h x0) 9 <|
  cK (E d 327 [.ref x0, .int 1] h) (Q d 265 624 [some (.ref x0), some (.int x1), some (.int (gI h 2307 x0))]) []) := by
  rw [← hs.1]
  exact ent rfl ((blkM (fun p => Nat.beq p 132 || Nat.beq p 171 || Nat.beq p 210 || Nat.beq p 255 || Nat.beq p 285 || Nat.beq p 323 || Nat.beq p 361 || Nat.beq p 399 || Nat.beq p 420 || Nat.beq p 467 || Nat.beq p 497 || Nat.beq p 519 || Nat.beq p 573 || Nat.beq p 602 || Nat.beq p 624) 9 0 _ _ _).trans rfl)

set_option maxRecDepth 16384 in
theorem t_265_132 {d : Nat} {h : AH} (hs : Sh h) (x0 : Nat) (x1 : Int32) (u2 : Option Value) (s0 : Int32) :
    Q d 265 132 [some (.ref x0), some (.int x1), u2] [.int s0] h =
  if s0 = 0 then
   some (some (.int 0), h)
  else
   ck (gC h x0) 9 <|
   cK (E d 318 [.ref x0, .int 61] h) (Q d 265 141 [some (.ref x0), some (.int x1), u2]) [] := by
  rw [← hs.1]
  exact (blkM (fun p => Nat.beq p 141) 5 132 _ _ _).trans rfl

set_option maxRecDepth 16384 in
theorem t_265_171 {d : Nat} {h : AH} (hs : Sh h) (x0 : Nat) (x1 : Int32) (u2 : Option Value) (s0 : Int32) :
    Q d 265 171 [some (.ref x0), some (.int x1), u2] [.int s0] h =
  if s0 = 0 then
   some (some (.int 0), h)
  else
   ck (gC h x0) 9 <|
   cK (E d 318 [.ref x0, .int 61] h) (Q d 265 180 [some (.ref x0), some (.int x1), u2]) [] := by
  rw [← hs.1]
  exact (blkM (fun p => Nat.beq p 180) 5 171 _ _ _).trans rfl

set_option maxRecDepth 16384 in
theorem t_265_210 {d : Nat} {h : AH} (hs : Sh h) (x0 : Nat) (x1 : Int32) (u2 : Option Value) (s0 : Int32) :
    Q d 265 210 [some (.ref x0), some (.int x1), u2] [.int s0] h =
  if s0 = 0 then
   some (some (.int 0), h)
  else
   ck (gC h x0) 9 <|
   cK (E d 321 [.ref x0, .int x1] h) (Q d 265 218 [some (.ref x0), some (.int x1), u2]) [] := by
  rw [← hs.1]
  exact (blkM (fun p => Nat.beq p 218) 5 210 _ _ _).trans rfl

set_option maxRecDepth 16384 in
theorem t_265_255 {d : Nat} {h : AH} (hs : Sh h) (x0 : Nat) (x1 : Int32) (u2 : Option Value) (s0 : Int32) :
    Q d 265 255 [some (.ref x0), some (.int x1), u2] [.int s0] h =
  if s0 = 0 then
   some (some (.int 0), h)
  else
   ck (gC h x0) 9 <|
   cK (E d 321 [.ref x0, .int x1] h) (Q d 265 263 [some (.ref x0), some (.int x1), u2]) [] := by
  rw [← hs.1]
  exact (blkM (fun p => Nat.beq p 263) 5 255 _ _ _).trans rfl

set_option maxRecDepth 16384 in
theorem t_265_285 {d : Nat} {h : AH} (hs : Sh h) (x0 : Nat) (x1 : Int32) (u2 : Option Value) (s0 : Int32) :
    Q d 265 285 [some (.ref x0), some (.int x1), u2] [.int s0] h =
  if s0 = 0 then
   some (some (.int 0), h)
  else
   ck (gC h x0) 9 <|
   cK (E d 321 [.ref x0, .int x1] h) (Q d 265 293 [some (.ref x0), some (.int x1), u2]) [] := by
  rw [← hs.1]
  exact (blkM (fun p => Nat.beq p 293) 5 285 _ _ _).trans rfl

set_option maxRecDepth 16384 in
theorem t_265_323 {d : Nat} {h : AH} (hs : Sh h) (x0 : Nat) (x1 : Int32) (u2 : Option Value) (s0 : Int32) :
    Q d 265 323 [some (.ref x0), some (.int x1), u2] [.int s0] h =
  if s0 = 0 then
   some (some (.int 0), h)
  else
   ck (gC h x0) 9 <|
   cK (E d 323 [.ref x0, .int x1] h) (Q d 265 331 [some (.ref x0), some (.int x1), u2]) [] := by
  rw [← hs.1]
  exact (blkM (fun p => Nat.beq p 331) 5 323 _ _ _).trans rfl

set_option maxRecDepth 16384 in
theorem t_265_361 {d : Nat} {h : AH} (hs : Sh h) (x0 : Nat) (x1 : Int32) (u2 : Option Value) (s0 : Int32) :
    Q d 265 361 [some (.ref x0), some (.int x1), u2] [.int s0] h =
  if s0 = 0 then
   some (some (.int 0), h)
  else
   ck (gC h x0) 9 <|
   cK (E d 323 [.ref x0, .int x1] h) (Q d 265 369 [some (.ref x0), some (.int x1), u2]) [] := by
  rw [← hs.1]
  exact (blkM (fun p => Nat.beq p 369) 5 361 _ _ _).trans rfl

set_option maxRecDepth 16384 in
theorem t_265_399 {d : Nat} {h : AH} (hs : Sh h) (x0 : Nat) (x1 : Int32) (u2 : Option Value) (s0 : Int32) :
    Q d 265 399 [some (.ref x0), some (.int x1), u2] [.int s0] h =
  if s0 = 0 then
   some (some (.int 0), h)
  else
   ck (gC h x0) 9 <|
   cK (E d 324 [.ref x0, .int x1] h) (Q d 265 407 [some (.ref x0), some (.int x1), u2]) [] := by
  rw [← hs.1]
  exact (blkM (fun p => Nat.beq p 407) 5 399 _ _ _).trans rfl

set_option maxRecDepth 16384 in
theorem t_265_420 {d : Nat} {h : AH} (hs : Sh h) (x0 : Nat) (x1 : Int32) (u2 : Option Value) (s0 : Int32) :
    Q d 265 420 [some (.ref x0), some (.int x1), u2] [.int s0] h =
  if s0 = 0 then
   some (some (.int 0), h)
  else
   ck (gC h x0) 9 <|
   cK (E d 320 [.ref x0, .int x1] h) (Q d 265 428 [some (.ref x0), some (.int x1), u2]) [] := by
  rw [← hs.1]
  exact (blkM (fun p => Nat.beq p 428) 5 420 _ _ _).trans rfl

set_option maxRecDepth 16384 in
theorem t_265_467 {d : Nat} {h : AH} (hs : Sh h) (x0 : Nat) (x1 : Int32) (u2 : Option Value) (s0 : Int32) :
    Q d 265 467 [some (.ref x0), some (.int x1), u2] [.int s0] h =
  if s0 = 0 then
   some (some (.int 0), h)
  else
   ck (gC h x0) 9 <|
   cK (E d 319 [.ref x0, .int x1] h) (Q d 265 475 [some (.ref x0), some (.int x1), u2]) [] := by
  rw [← hs.1]
  exact (blkM (fun p => Nat.beq p 475) 5 467 _ _ _).trans rfl

set_option maxRecDepth 16384 in
theorem t_265_497 {d : Nat} {h : AH} (hs : Sh h) (x0 : Nat) (u1 : Option Value) (u2 : Option Value) (s0 : Int32) :
    Q d 265 497 [some (.ref x0), u1, u2] [.int s0] h =
  if s0 = 0 then
   some (some (.int 0), h)
  else
   ck (gC h x0) 9 <|
   cK (E d 318 [.ref x0, .int 59] h) (Q d 265 506 [some (.ref x0), u1, u2]) [] := by
  rw [← hs.1]
  exact (blkM (fun p => Nat.beq p 506) 5 497 _ _ _).trans rfl

set_option maxRecDepth 16384 in
theorem t_265_519 {d : Nat} {h : AH} (hs : Sh h) (x0 : Nat) (x1 : Int32) (u2 : Option Value) (s0 : Int32) :
    Q d 265 519 [some (.ref x0), some (.int x1), u2] [.int s0] h =
  if s0 = 0 then
   some (some (.int 0), h)
  else
   ck (gC h x0) 9 <|
   cK (E d 319 [.ref x0, .int x1] h) (Q d 265 527 [some (.ref x0), some (.int x1), u2]) [] := by
  rw [← hs.1]
  exact (blkM (fun p => Nat.beq p 527) 5 519 _ _ _).trans rfl

set_option maxRecDepth 16384 in
theorem t_265_573 {d : Nat} {h : AH} (hs : Sh h) (x0 : Nat) (x1 : Int32) (u2 : Option Value) (s0 : Int32) :
    Q d 265 573 [some (.ref x0), some (.int x1), u2] [.int s0] h =
  if s0 = 0 then
   some (some (.int 0), h)
  else
   ck (gC h x0) 9 <|
   cK (E d 319 [.ref x0, .int x1] h) (Q d 265 581 [some (.ref x0), some (.int x1), u2]) [] := by
  rw [← hs.1]
  exact (blkM (fun p => Nat.beq p 581) 5 573 _ _ _).trans rfl

set_option maxRecDepth 16384 in
theorem t_265_602 {d : Nat} {h : AH} (hs : Sh h) (x0 : Nat) (x1 : Int32) (u2 : Option Value) (s0 : Int32) :
    Q d 265 602 [some (.ref x0), some (.int x1), u2] [.int s0] h =
  if s0 = 0 then
   some (some (.int 0), h)
  else
   ck (gC h x0) 9 <|
   cK (E d 326 [.ref x0, .int x1] h) (Q d 265 610 [some (.ref x0), some (.int x1), u2]) [] := by
  rw [← hs.1]
  exact (blkM (fun p => Nat.beq p 610) 5 602 _ _ _).trans rfl

set_option maxRecDepth 16384 in
theorem t_265_624 {d : Nat} {h : AH} (hs : Sh h) (u0 : Option Value) (u1 : Option Value) (u2 : Option Value) (s0 : Int32) :
    Q d 265 624 [u0, u1, u2] [.int s0] h =
  if s0 = 0 ∨ s0 = 1 then
   some (some (.int s0), h)
  else
   none := by
  rw [← hs.1]
  exact (blkM (fun p => false) 2 624 _ _ _).trans rfl

set_option maxRecDepth 16384 in
theorem t_265_141 {d : Nat} {h : AH} (hs : Sh h) (x0 : Nat) (x1 : Int32) (u2 : Option Value) (s0 : Int32) :
    Q d 265 141 [some (.ref x0), some (.int x1), u2] [.int s0] h =
  if s0 = 0 then
   some (some (.int 0), h)
  else
   ck (gC h x0) 9 <|
   cK (E d 319 [.ref x0, .int x1] h) (Q d 265 149 [some (.ref x0), some (.int x1), u2]) [] := by
  rw [← hs.1]
  exact (blkM (fun p => Nat.beq p 149) 5 141 _ _ _).trans rfl

set_option maxRecDepth 16384 in
theorem t_265_180 {d : Nat} {h : AH} (hs : Sh h) (x0 : Nat) (x1 : Int32) (u2 : Option Value) (s0 : Int32) :
    Q d 265 180 [some (.ref x0), some (.int x1), u2] [.int s0] h =
  if s0 = 0 then
   some (some (.int 0), h)
  else
   ck (gC h x0) 9 <|
   cK (E d 320 [.ref x0, .int x1] h) (Q d 265 188 [some (.ref x0), some (.int x1), u2]) [] := by
  rw [← hs.1]
  exact (blkM (fun p => Nat.beq p 188) 5 180 _ _ _).trans rfl

set_option maxRecDepth 16384 in
theorem t_265_218 {d : Nat} {h : AH} (hs : Sh h) (x0 : Nat) (x1 : Int32) (u2 : Option Value) (s0 : Int32) :
    Q d 265 218 [some (.ref x0), some (.int x1), u2] [.int s0] h =
  if s0 = 0 then
   some (some (.int 0), h)
  else
   ck (gC h x0) 9 <|
   cK (E d 322 [.ref x0] h) (Q d 265 225 [some (.ref x0), some (.int x1), u2]) [] := by
  rw [← hs.1]
  exact (blkM (fun p => Nat.beq p 225) 4 218 _ _ _).trans rfl

set_option maxRecDepth 16384 in
theorem t_265_263 {d : Nat} {h : AH} (hs : Sh h) (x0 : Nat) (u1 : Option Value) (u2 : Option Value) (s0 : Int32) :
    Q d 265 263 [some (.ref x0), u1, u2] [.int s0] h =
  if s0 = 0 then
   some (some (.int 0), h)
  else
   ck (gC h x0) 9 <|
   cK (E d 318 [.ref x0, .int 59] h) (Q d 265 272 [some (.ref x0), u1, u2]) [] := by
  rw [← hs.1]
  exact (blkM (fun p => Nat.beq p 272) 5 263 _ _ _).trans rfl

set_option maxRecDepth 16384 in
theorem t_265_293 {d : Nat} {h : AH} (hs : Sh h) (x0 : Nat) (x1 : Int32) (u2 : Option Value) (s0 : Int32) :
    Q d 265 293 [some (.ref x0), some (.int x1), u2] [.int s0] h =
  if s0 = 0 then
   some (some (.int 0), h)
  else
   ck (gC h x0) 9 <|
   cK (E d 321 [.ref x0, .int x1] h) (Q d 265 301 [some (.ref x0), some (.int x1), u2]) [] := by
  rw [← hs.1]
  exact (blkM (fun p => Nat.beq p 301) 5 293 _ _ _).trans rfl

set_option maxRecDepth 16384 in
theorem t_265_331 {d : Nat} {h : AH} (hs : Sh h) (x0 : Nat) (x1 : Int32) (u2 : Option Value) (s0 : Int32) :
    Q d 265 331 [some (.ref x0), some (.int x1), u2] [.int s0] h =
  if s0 = 0 then
   some (some (.int 0), h)
  else
   ck (gC h x0) 9 <|
   cK (E d 319 [.ref x0, .int x1] h) (Q d 265 339 [some (.ref x0), some (.int x1), u2]) [] := by
  rw [← hs.1]
  exact (blkM (fun p => Nat.beq p 339) 5 331 _ _ _).trans rfl

set_option maxRecDepth 16384 in
theorem t_265_369 {d : Nat} {h : AH} (hs : Sh h) (x0 : Nat) (x1 : Int32) (u2 : Option Value) (s0 : Int32) :
    Q d 265 369 [some (.ref x0), some (.int x1), u2] [.int s0] h =
  if s0 = 0 then
   some (some (.int 0), h)
  else
   ck (gC h x0) 9 <|
   cK (E d 320 [.ref x0, .int x1] h) (Q d 265 377 [some (.ref x0), some (.int x1), u2]) [] := by
  rw [← hs.1]
  exact (blkM (fun p => Nat.beq p 377) 5 369 _ _ _).trans rfl

set_option maxRecDepth 16384 in
theorem t_265_407 {d : Nat} {h : AH} (hs : Sh h) (u0 : Option Value) (u1 : Option Value) (u2 : Option Value) (s0 : Int32) :
    Q d 265 407 [u0, u1, u2] [.int s0] h =
  if s0 = 0 then
   some (some (.int 0), h)
  else
   some (some (.int 1), h) := by
  rw [← hs.1]
  exact (blkM (fun p => false) 5 407 _ _ _).trans rfl

set_option maxRecDepth 16384 in
theorem t_265_428 {d : Nat} {h : AH} (hs : Sh h) (x0 : Nat) (x1 : Int32) (u2 : Option Value) (s0 : Int32) :
    Q d 265 428 [some (.ref x0), some (.int x1), u2] [.int s0] h =
  if s0 = 0 then
   some (some (.int 0), h)
  else
   ck (gC h x0) 9 <|
   cK (E d 318 [.ref x0, .int 44] h) (Q d 265 437 [some (.ref x0), some (.int x1), u2]) [] := by
  rw [← hs.1]
  exact (blkM (fun p => Nat.beq p 437) 5 428 _ _ _).trans rfl

set_option maxRecDepth 16384 in
theorem t_265_475 {d : Nat} {h : AH} (hs : Sh h) (x0 : Nat) (u1 : Option Value) (u2 : Option Value) (s0 : Int32) :
    Q d 265 475 [some (.ref x0), u1, u2] [.int s0] h =
  if s0 = 0 then
   some (some (.int 0), h)
  else
   ck (gC h x0) 9 <|
   cK (E d 318 [.ref x0, .int 59] h) (Q d 265 484 [some (.ref x0), u1, u2]) [] := by
  rw [← hs.1]
  exact (blkM (fun p => Nat.beq p 484) 5 475 _ _ _).trans rfl

set_option maxRecDepth 16384 in
theorem t_265_506 {d : Nat} {h : AH} (hs : Sh h) (u0 : Option Value) (u1 : Option Value) (u2 : Option Value) (s0 : Int32) :
    Q d 265 506 [u0, u1, u2] [.int s0] h =
  if s0 = 0 then
   some (some (.int 0), h)
  else
   some (some (.int 1), h) := by
  rw [← hs.1]
  exact (blkM (fun p => false) 5 506 _ _ _).trans rfl

set_option maxRecDepth 16384 in
theorem t_265_527 {d : Nat} {h : AH} (hs : Sh h) (x0 : Nat) (x1 : Int32) (u2 : Option Value) (s0 : Int32) :
    Q d 265 527 [some (.ref x0), some (.int x1), u2] [.int s0] h =
  if s0 = 0 then
   some (some (.int 0), h)
  else
   ck (gC h x0) 9 <|
   cK (E d 325 [.ref x0, .int x1] h) (Q d 265 535 [some (.ref x0), some (.int x1), u2]) [] := by
  rw [← hs.1]
  exact (blkM (fun p => Nat.beq p 535) 5 527 _ _ _).trans rfl

set_option maxRecDepth 16384 in
theorem t_265_581 {d : Nat} {h : AH} (hs : Sh h) (x0 : Nat) (x1 : Int32) (u2 : Option Value) (s0 : Int32) :
    Q d 265 581 [some (.ref x0), some (.int x1), u2] [.int s0] h =
  if s0 = 0 then
   some (some (.int 0), h)
  else
   ck (gC h x0) 9 <|
   cK (E d 325 [.ref x0, .int x1] h) (Q d 265 589 [some (.ref x0), some (.int x1), u2]) [] := by
  rw [← hs.1]
  exact (blkM (fun p => Nat.beq p 589) 5 581 _ _ _).trans rfl

set_option maxRecDepth 16384 in
theorem t_265_610 {d : Nat} {h : AH} (hs : Sh h) (u0 : Option Value) (u1 : Option Value) (u2 : Option Value) (s0 : Int32) :
    Q d 265 610 [u0, u1, u2] [.int s0] h =
  if s0 = 0 then
   some (some (.int 0), h)
  else
   some (some (.int 1), h) := by
  rw [← hs.1]
  exact (blkM (fun p => false) 5 610 _ _ _).trans rfl

set_option maxRecDepth 16384 in
theorem t_265_149 {d : Nat} {h : AH} (hs : Sh h) (x0 : Nat) (u1 : Option Value) (u2 : Option Value) (s0 : Int32) :
    Q d 265 149 [some (.ref x0), u1, u2] [.int s0] h =
  if s0 = 0 then
   some (some (.int 0), h)
  else
   ck (gC h x0) 9 <|
   cK (E d 318 [.ref x0, .int 59] h) (Q d 265 158 [some (.ref x0), u1, u2]) [] := by
  rw [← hs.1]
  exact (blkM (fun p => Nat.beq p 158) 5 149 _ _ _).trans rfl

set_option maxRecDepth 16384 in
theorem t_265_188 {d : Nat} {h : AH} (hs : Sh h) (x0 : Nat) (u1 : Option Value) (u2 : Option Value) (s0 : Int32) :
    Q d 265 188 [some (.ref x0), u1, u2] [.int s0] h =
  if s0 = 0 then
   some (some (.int 0), h)
  else
   ck (gC h x0) 9 <|
   cK (E d 318 [.ref x0, .int 59] h) (Q d 265 197 [some (.ref x0), u1, u2]) [] := by
  rw [← hs.1]
  exact (blkM (fun p => Nat.beq p 197) 5 188 _ _ _).trans rfl

set_option maxRecDepth 16384 in
theorem t_265_225 {d : Nat} {h : AH} (hs : Sh h) (x0 : Nat) (x1 : Int32) (u2 : Option Value) (s0 : Int32) :
    Q d 265 225 [some (.ref x0), some (.int x1), u2] [.int s0] h =
  if s0 = 0 then
   some (some (.int 0), h)
  else
   ck (gC h x0) 9 <|
   cK (E d 319 [.ref x0, .int x1] h) (Q d 265 233 [some (.ref x0), some (.int x1), u2]) [] := by
  rw [← hs.1]
  exact (blkM (fun p => Nat.beq p 233) 5 225 _ _ _).trans rfl

set_option maxRecDepth 16384 in
theorem t_265_272 {d : Nat} {h : AH} (hs : Sh h) (u0 : Option Value) (u1 : Option Value) (u2 : Option Value) (s0 : Int32) :
    Q d 265 272 [u0, u1, u2] [.int s0] h =
  if s0 = 0 then
   some (some (.int 0), h)
  else
   some (some (.int 1), h) := by
  rw [← hs.1]
  exact (blkM (fun p => false) 5 272 _ _ _).trans rfl

set_option maxRecDepth 16384 in
theorem t_265_301 {d : Nat} {h : AH} (hs : Sh h) (x0 : Nat) (u1 : Option Value) (u2 : Option Value) (s0 : Int32) :
    Q d 265 301 [some (.ref x0), u1, u2] [.int s0] h =
  if s0 = 0 then
   some (some (.int 0), h)
  else
   ck (gC h x0) 9 <|
   cK (E d 318 [.ref x0, .int 59] h) (Q d 265 310 [some (.ref x0), u1, u2]) [] := by
  rw [← hs.1]
  exact (blkM (fun p => Nat.beq p 310) 5 301 _ _ _).trans rfl

set_option maxRecDepth 16384 in
theorem t_265_339 {d : Nat} {h : AH} (hs : Sh h) (x0 : Nat) (u1 : Option Value) (u2 : Option Value) (s0 : Int32) :
    Q d 265 339 [some (.ref x0), u1, u2] [.int s0] h =
  if s0 = 0 then
   some (some (.int 0), h)
  else
   ck (gC h x0) 9 <|
   cK (E d 318 [.ref x0, .int 59] h) (Q d 265 348 [some (.ref x0), u1, u2]) [] := by
  rw [← hs.1]
  exact (blkM (fun p => Nat.beq p 348) 5 339 _ _ _).trans rfl

set_option maxRecDepth 16384 in
theorem t_265_377 {d : Nat} {h : AH} (hs : Sh h) (x0 : Nat) (u1 : Option Value) (u2 : Option Value) (s0 : Int32) :
    Q d 265 377 [some (.ref x0), u1, u2] [.int s0] h =
  if s0 = 0 then
   some (some (.int 0), h)
  else
   ck (gC h x0) 9 <|
   cK (E d 318 [.ref x0, .int 59] h) (Q d 265 386 [some (.ref x0), u1, u2]) [] := by
  rw [← hs.1]
  exact (blkM (fun p => Nat.beq p 386) 5 377 _ _ _).trans rfl

set_option maxRecDepth 16384 in
theorem t_265_437 {d : Nat} {h : AH} (hs : Sh h) (x0 : Nat) (x1 : Int32) (u2 : Option Value) (s0 : Int32) :
    Q d 265 437 [some (.ref x0), some (.int x1), u2] [.int s0] h =
  if s0 = 0 then
   some (some (.int 0), h)
  else
   ck (gC h x0) 9 <|
   cK (E d 319 [.ref x0, .int x1] h) (Q d 265 445 [some (.ref x0), some (.int x1), u2]) [] := by
  rw [← hs.1]
  exact (blkM (fun p => Nat.beq p 445) 5 437 _ _ _).trans rfl

set_option maxRecDepth 16384 in
theorem t_265_484 {d : Nat} {h : AH} (hs : Sh h) (u0 : Option Value) (u1 : Option Value) (u2 : Option Value) (s0 : Int32) :
    Q d 265 484 [u0, u1, u2] [.int s0] h =
  if s0 = 0 then
   some (some (.int 0), h)
  else
   some (some (.int 1), h) := by
  rw [← hs.1]
  exact (blkM (fun p => false) 5 484 _ _ _).trans rfl

set_option maxRecDepth 16384 in
theorem t_265_535 {d : Nat} {h : AH} (hs : Sh h) (x0 : Nat) (x1 : Int32) (u2 : Option Value) (s0 : Int32) :
    Q d 265 535 [some (.ref x0), some (.int x1), u2] [.int s0] h =
  if s0 = 0 then
   some (some (.int 0), h)
  else
   ck (gC h x0) 9 <|
   if gI h 2307 x0 = 138 then
    ck (gC h x0) 9 <|
    cK (E d 317 [.ref x0] h) (Q d 265 552 [some (.ref x0), some (.int x1), u2]) []
   else
    some (some (.int 1), h) := by
  rw [← hs.1]
  exact (blkM (fun p => Nat.beq p 552) 9 535 _ _ _).trans rfl

set_option maxRecDepth 16384 in
theorem t_265_589 {d : Nat} {h : AH} (hs : Sh h) (u0 : Option Value) (u1 : Option Value) (u2 : Option Value) (s0 : Int32) :
    Q d 265 589 [u0, u1, u2] [.int s0] h =
  if s0 = 0 then
   some (some (.int 0), h)
  else
   some (some (.int 1), h) := by
  rw [← hs.1]
  exact (blkM (fun p => false) 5 589 _ _ _).trans rfl

set_option maxRecDepth 16384 in
theorem t_265_158 {d : Nat} {h : AH} (hs : Sh h) (u0 : Option Value) (u1 : Option Value) (u2 : Option Value) (s0 : Int32) :
    Q d 265 158 [u0, u1, u2] [.int s0] h =
  if s0 = 0 then
   some (some (.int 0), h)
  else
   some (some (.int 1), h) := by
  rw [← hs.1]
  exact (blkM (fun p => false) 5 158 _ _ _).trans rfl

set_option maxRecDepth 16384 in
theorem t_265_197 {d : Nat} {h : AH} (hs : Sh h) (u0 : Option Value) (u1 : Option Value) (u2 : Option Value) (s0 : Int32) :
    Q d 265 197 [u0, u1, u2] [.int s0] h =
  if s0 = 0 then
   some (some (.int 0), h)
  else
   some (some (.int 1), h) := by
  rw [← hs.1]
  exact (blkM (fun p => false) 5 197 _ _ _).trans rfl

set_option maxRecDepth 16384 in
theorem t_265_233 {d : Nat} {h : AH} (hs : Sh h) (x0 : Nat) (u1 : Option Value) (u2 : Option Value) (s0 : Int32) :
    Q d 265 233 [some (.ref x0), u1, u2] [.int s0] h =
  if s0 = 0 then
   some (some (.int 0), h)
  else
   ck (gC h x0) 9 <|
   cK (E d 318 [.ref x0, .int 59] h) (Q d 265 242 [some (.ref x0), u1, u2]) [] := by
  rw [← hs.1]
  exact (blkM (fun p => Nat.beq p 242) 5 233 _ _ _).trans rfl

set_option maxRecDepth 16384 in
theorem t_265_310 {d : Nat} {h : AH} (hs : Sh h) (u0 : Option Value) (u1 : Option Value) (u2 : Option Value) (s0 : Int32) :
    Q d 265 310 [u0, u1, u2] [.int s0] h =
  if s0 = 0 then
   some (some (.int 0), h)
  else
   some (some (.int 1), h) := by
  rw [← hs.1]
  exact (blkM (fun p => false) 5 310 _ _ _).trans rfl

set_option maxRecDepth 16384 in
theorem t_265_348 {d : Nat} {h : AH} (hs : Sh h) (u0 : Option Value) (u1 : Option Value) (u2 : Option Value) (s0 : Int32) :
    Q d 265 348 [u0, u1, u2] [.int s0] h =
  if s0 = 0 then
   some (some (.int 0), h)
  else
   some (some (.int 1), h) := by
  rw [← hs.1]
  exact (blkM (fun p => false) 5 348 _ _ _).trans rfl

set_option maxRecDepth 16384 in
theorem t_265_386 {d : Nat} {h : AH} (hs : Sh h) (u0 : Option Value) (u1 : Option Value) (u2 : Option Value) (s0 : Int32) :
    Q d 265 386 [u0, u1, u2] [.int s0] h =
  if s0 = 0 then
   some (some (.int 0), h)
  else
   some (some (.int 1), h) := by
  rw [← hs.1]
  exact (blkM (fun p => false) 5 386 _ _ _).trans rfl

set_option maxRecDepth 16384 in
theorem t_265_445 {d : Nat} {h : AH} (hs : Sh h) (x0 : Nat) (u1 : Option Value) (u2 : Option Value) (s0 : Int32) :
    Q d 265 445 [some (.ref x0), u1, u2] [.int s0] h =
  if s0 = 0 then
   some (some (.int 0), h)
  else
   ck (gC h x0) 9 <|
   cK (E d 318 [.ref x0, .int 59] h) (Q d 265 454 [some (.ref x0), u1, u2]) [] := by
  rw [← hs.1]
  exact (blkM (fun p => Nat.beq p 454) 5 445 _ _ _).trans rfl

set_option maxRecDepth 16384 in
theorem t_265_552 {d : Nat} {h : AH} (hs : Sh h) (x0 : Nat) (x1 : Int32) (u2 : Option Value) (s0 : Int32) :
    Q d 265 552 [some (.ref x0), some (.int x1), u2] [.int s0] h =
  if s0 = 0 then
   some (some (.int 0), h)
  else
   ck (gC h x0) 9 <|
   cK (E d 325 [.ref x0, .int x1] h) (Q d 265 560 [some (.ref x0), some (.int x1), u2]) [] := by
  rw [← hs.1]
  exact (blkM (fun p => Nat.beq p 560) 5 552 _ _ _).trans rfl

set_option maxRecDepth 16384 in
theorem t_265_242 {d : Nat} {h : AH} (hs : Sh h) (u0 : Option Value) (u1 : Option Value) (u2 : Option Value) (s0 : Int32) :
    Q d 265 242 [u0, u1, u2] [.int s0] h =
  if s0 = 0 then
   some (some (.int 0), h)
  else
   some (some (.int 1), h) := by
  rw [← hs.1]
  exact (blkM (fun p => false) 5 242 _ _ _).trans rfl

set_option maxRecDepth 16384 in
theorem t_265_454 {d : Nat} {h : AH} (hs : Sh h) (u0 : Option Value) (u1 : Option Value) (u2 : Option Value) (s0 : Int32) :
    Q d 265 454 [u0, u1, u2] [.int s0] h =
  if s0 = 0 then
   some (some (.int 0), h)
  else
   some (some (.int 1), h) := by
  rw [← hs.1]
  exact (blkM (fun p => false) 5 454 _ _ _).trans rfl

set_option maxRecDepth 16384 in
theorem t_265_560 {d : Nat} {h : AH} (hs : Sh h) (u0 : Option Value) (u1 : Option Value) (u2 : Option Value) (s0 : Int32) :
    Q d 265 560 [u0, u1, u2] [.int s0] h =
  if s0 = 0 then
   some (some (.int 0), h)
  else
   some (some (.int 1), h) := by
  rw [← hs.1]
  exact (blkM (fun p => false) 5 560 _ _ _).trans rfl

/-! 266 PostRoom$Machine.doStatement(I)V -/
set_option maxRecDepth 16384 in
theorem t_266 {d : Nat} {h : AH} (hs : Sh h) (x1 : Int32) :
    E (d + 1) 266 [.ref 175, .int x1] h =
  cK (E d 328 [.ref 175] h) (Q d 266 4 [some (.ref 175), some (.int x1), none, none]) [] := by
  rw [← hs.1]
  exact ent rfl ((blkM (fun p => Nat.beq p 4) 3 0 _ _ _).trans rfl)

set_option maxRecDepth 16384 in
theorem t_266_4 {d : Nat} {h : AH} (hs : Sh h) (x1 : Int32) (u2 : Option Value) (u3 : Option Value) (s0 : Int32) :
    Q d 266 4 [some (.ref 175), some (.int x1), u2, u3] [.int s0] h =
  if s0 = 139 then
   (gR h 1544 175).bind fun y1 =>
    ck (gC h y1) 9 <|
    cK (E d 330 [.ref y1, .int (gI h 1545 175)] h) (Q d 266 31 [some (.ref 175), some (.int x1), some (.int s0), none]) []
  else
   cK (E d 329 [.ref 175] h) (Q d 266 16 [some (.ref 175), some (.int x1), some (.int s0), u3]) [] := by
  rw [← hs.1]
  exact (blkM (fun p => Nat.beq p 16 || Nat.beq p 31) 10 4 _ _ _).trans rfl

set_option maxRecDepth 16384 in
theorem t_266_16 {d : Nat} {h : AH} (hs : Sh h) (x1 : Int32) (x2 : Int32) (u3 : Option Value) (s0 : Int32) :
    Q d 266 16 [some (.ref 175), some (.int x1), some (.int x2), u3] [.int s0] h =
  if s0 = 0 then
   some (none, h)
  else
   (gR h 1544 175).bind fun y1 =>
    ck (gC h y1) 9 <|
    cK (E d 330 [.ref y1, .int (gI h 1545 175)] h) (Q d 266 31 [some (.ref 175), some (.int x1), some (.int x2), none]) [] := by
  rw [← hs.1]
  exact (blkM (fun p => Nat.beq p 31) 7 16 _ _ _).trans rfl

set_option maxRecDepth 16384 in
theorem t_266_31 {d : Nat} {h : AH} (hs : Sh h) (x1 : Int32) (x2 : Int32) (u3 : Option Value) (s0 : Int32) :
    Q d 266 31 [some (.ref 175), some (.int x1), some (.int x2), u3] [.int s0] h =
  if x2 = 4 then
   cK (E d 331 [.ref 175, .int s0, .int x1] (sI h 1545 175 ((gI h 1545 175) + 1))) (Q d 266 162 [some (.ref 175), some (.int x1), some (.int x2), some (.int s0)]) []
  else
   if x2 = 5 then
   cK (E d 332 [.ref 175, .int s0, .int x1] (sI h 1545 175 ((gI h 1545 175) + 1))) (Q d 266 171 [some (.ref 175), some (.int x1), some (.int x2), some (.int s0)]) []
  else
   if x2 = 128 then
   cK (E d 333 [.ref 175, .int x1] (sI h 1545 175 ((gI h 1545 175) + 1))) (Q d 266 179 [some (.ref 175), some (.int x1), some (.int x2), some (.int s0)]) []
  else
   if x2 = 129 then
   cK (E d 334 [.ref 175, .int x1] (sI h 1545 175 ((gI h 1545 175) + 1))) (Q d 266 187 [some (.ref 175), some (.int x1), some (.int x2), some (.int s0)]) []
  else
   if x2 = 130 then
   cK (E d 335 [.ref 175, .int x1] (sI h 1545 175 ((gI h 1545 175) + 1))) (Q d 266 195 [some (.ref 175), some (.int x1), some (.int x2), some (.int s0)]) []
  else
   if x2 = 131 then
   cK (E d 336 [.ref 175, .int x1] (sI h 1545 175 ((gI h 1545 175) + 1))) (Q d 266 203 [some (.ref 175), some (.int x1), some (.int x2), some (.int s0)]) []
  else
   if x2 = 132 then
   cK (E d 337 [.ref 175, .int x1] (sI h 1545 175 ((gI h 1545 175) + 1))) (Q d 266 211 [some (.ref 175), some (.int x1), some (.int x2), some (.int s0)]) []
  else
   if x2 = 133 then
   cK (E d 338 [.ref 175, .int x1] (sI h 1545 175 ((gI h 1545 175) + 1))) (Q d 266 219 [some (.ref 175), some (.int x1), some (.int x2), some (.int s0)]) []
  else
   if x2 = 134 then
   cK (E d 339 [.ref 175, .int x1] (sI h 1545 175 ((gI h 1545 175) + 1))) (Q d 266 227 [some (.ref 175), some (.int x1), some (.int x2), some (.int s0)]) []
  else
   if x2 = 135 then
   cK (E d 340 [.ref 175, .int x1] (sI h 1545 175 ((gI h 1545 175) + 1))) (Q d 266 235 [some (.ref 175), some (.int x1), some (.int x2), some (.int s0)]) []
  else
   if x2 = 136 then
   Q d 266 268 [none, none, none, none] [] (sI (sI h 1545 175 ((gI h 1545 175) + 1)) 1547 175 12)
  else
   if x2 = 137 then
   cK (E d 341 [.ref 175, .int x1] (sI h 1545 175 ((gI h 1545 175) + 1))) (Q d 266 252 [some (.ref 175), some (.int x1), some (.int x2), some (.int s0)]) []
  else
   if x2 = 139 then
   cK (E d 342 [.ref 175, .int x1] (sI h 1545 175 ((gI h 1545 175) + 1))) (Q d 266 260 [some (.ref 175), some (.int x1), some (.int x2), some (.int s0)]) []
  else
   cK (E d 343 [.ref 175, .int x1] (sI h 1545 175 ((gI h 1545 175) + 1))) (Q d 266 268 [none, none, none, none]) [] := by
  rw [← hs.1]
  exact (blkM (fun p => Nat.beq p 162 || Nat.beq p 171 || Nat.beq p 179 || Nat.beq p 187 || Nat.beq p 195 || Nat.beq p 203 || Nat.beq p 211 || Nat.beq p 219 || Nat.beq p 227 || Nat.beq p 235 || Nat.beq p 252 || Nat.beq p 260 || Nat.beq p 268) 15 31 _ _ _).trans rfl

set_option maxRecDepth 16384 in
theorem t_266_162 {d : Nat} {h : AH} (hs : Sh h) (u0 : Option Value) (u1 : Option Value) (u2 : Option Value) (u3 : Option Value) :
    Q d 266 162 [u0, u1, u2, u3] [] h =
  Q d 266 268 [none, none, none, none] [] h := by
  rw [← hs.1]
  exact (blkM (fun p => Nat.beq p 268) 3 162 _ _ _).trans rfl

set_option maxRecDepth 16384 in
theorem t_266_171 {d : Nat} {h : AH} (hs : Sh h) (u0 : Option Value) (u1 : Option Value) (u2 : Option Value) (u3 : Option Value) :
    Q d 266 171 [u0, u1, u2, u3] [] h =
  Q d 266 268 [none, none, none, none] [] h := by
  rw [← hs.1]
  exact (blkM (fun p => Nat.beq p 268) 3 171 _ _ _).trans rfl

set_option maxRecDepth 16384 in
theorem t_266_179 {d : Nat} {h : AH} (hs : Sh h) (u0 : Option Value) (u1 : Option Value) (u2 : Option Value) (u3 : Option Value) :
    Q d 266 179 [u0, u1, u2, u3] [] h =
  Q d 266 268 [none, none, none, none] [] h := by
  rw [← hs.1]
  exact (blkM (fun p => Nat.beq p 268) 3 179 _ _ _).trans rfl

set_option maxRecDepth 16384 in
theorem t_266_187 {d : Nat} {h : AH} (hs : Sh h) (u0 : Option Value) (u1 : Option Value) (u2 : Option Value) (u3 : Option Value) :
    Q d 266 187 [u0, u1, u2, u3] [] h =
  Q d 266 268 [none, none, none, none] [] h := by
  rw [← hs.1]
  exact (blkM (fun p => Nat.beq p 268) 3 187 _ _ _).trans rfl

set_option maxRecDepth 16384 in
theorem t_266_195 {d : Nat} {h : AH} (hs : Sh h) (u0 : Option Value) (u1 : Option Value) (u2 : Option Value) (u3 : Option Value) :
    Q d 266 195 [u0, u1, u2, u3] [] h =
  Q d 266 268 [none, none, none, none] [] h := by
  rw [← hs.1]
  exact (blkM (fun p => Nat.beq p 268) 3 195 _ _ _).trans rfl

set_option maxRecDepth 16384 in
theorem t_266_203 {d : Nat} {h : AH} (hs : Sh h) (u0 : Option Value) (u1 : Option Value) (u2 : Option Value) (u3 : Option Value) :
    Q d 266 203 [u0, u1, u2, u3] [] h =
  Q d 266 268 [none, none, none, none] [] h := by
  rw [← hs.1]
  exact (blkM (fun p => Nat.beq p 268) 3 203 _ _ _).trans rfl

set_option maxRecDepth 16384 in
theorem t_266_211 {d : Nat} {h : AH} (hs : Sh h) (u0 : Option Value) (u1 : Option Value) (u2 : Option Value) (u3 : Option Value) :
    Q d 266 211 [u0, u1, u2, u3] [] h =
  Q d 266 268 [none, none, none, none] [] h := by
  rw [← hs.1]
  exact (blkM (fun p => Nat.beq p 268) 3 211 _ _ _).trans rfl

set_option maxRecDepth 16384 in
theorem t_266_219 {d : Nat} {h : AH} (hs : Sh h) (u0 : Option Value) (u1 : Option Value) (u2 : Option Value) (u3 : Option Value) :
    Q d 266 219 [u0, u1, u2, u3] [] h =
  Q d 266 268 [none, none, none, none] [] h := by
  rw [← hs.1]
  exact (blkM (fun p => Nat.beq p 268) 3 219 _ _ _).trans rfl

set_option maxRecDepth 16384 in
theorem t_266_227 {d : Nat} {h : AH} (hs : Sh h) (u0 : Option Value) (u1 : Option Value) (u2 : Option Value) (u3 : Option Value) :
    Q d 266 227 [u0, u1, u2, u3] [] h =
  Q d 266 268 [none, none, none, none] [] h := by
  rw [← hs.1]
  exact (blkM (fun p => Nat.beq p 268) 3 227 _ _ _).trans rfl

set_option maxRecDepth 16384 in
theorem t_266_235 {d : Nat} {h : AH} (hs : Sh h) (u0 : Option Value) (u1 : Option Value) (u2 : Option Value) (u3 : Option Value) :
    Q d 266 235 [u0, u1, u2, u3] [] h =
  Q d 266 268 [none, none, none, none] [] h := by
  rw [← hs.1]
  exact (blkM (fun p => Nat.beq p 268) 3 235 _ _ _).trans rfl

set_option maxRecDepth 16384 in
theorem t_266_252 {d : Nat} {h : AH} (hs : Sh h) (u0 : Option Value) (u1 : Option Value) (u2 : Option Value) (u3 : Option Value) :
    Q d 266 252 [u0, u1, u2, u3] [] h =
  Q d 266 268 [none, none, none, none] [] h := by
  rw [← hs.1]
  exact (blkM (fun p => Nat.beq p 268) 3 252 _ _ _).trans rfl

set_option maxRecDepth 16384 in
theorem t_266_260 {d : Nat} {h : AH} (hs : Sh h) (u0 : Option Value) (u1 : Option Value) (u2 : Option Value) (u3 : Option Value) :
    Q d 266 260 [u0, u1, u2, u3] [] h =
  Q d 266 268 [none, none, none, none] [] h := by
  rw [← hs.1]
  exact (blkM (fun p => Nat.beq p 268) 3 260 _ _ _).trans rfl

set_option maxRecDepth 16384 in
theorem t_266_268 {d : Nat} {h : AH} (hs : Sh h)  :
    Q d 266 268 [none, none, none, none] [] h =
  some (none, h) := by
  rw [← hs.1]
  exact (blkM (fun p => false) 2 268 _ _ _).trans rfl

/-! 267 java/util/Objects.checkIndex(II)I -/
set_option maxRecDepth 16384 in
theorem t_267 {d : Nat} {h : AH} (hs : Sh h) (x0 : Int32) (x1 : Int32) :
    E (d + 1) 267 [.int x0, .int x1] h =
  cK (E d 344 [.int x0, .int x1, .null] h) (Q d 267 6 [some (.int x0), some (.int x1)]) [] := by
  rw [← hs.1]
  exact ent rfl ((blkM (fun p => Nat.beq p 6) 5 0 _ _ _).trans rfl)

set_option maxRecDepth 16384 in
theorem t_267_6 {d : Nat} {h : AH} (hs : Sh h) (u0 : Option Value) (u1 : Option Value) (s0 : Int32) :
    Q d 267 6 [u0, u1] [.int s0] h =
  some (some (.int s0), h) := by
  rw [← hs.1]
  exact (blkM (fun p => false) 2 6 _ _ _).trans rfl

/-! 268 java/util/ArrayList.elementData(I)Ljava/lang/Object; -/
set_option maxRecDepth 16384 in
theorem t_268 {d : Nat} {h : AH} (hs : Sh h) (x0 : Nat) (x1 : Int32) :
    E (d + 1) 268 [.ref x0, .int x1] h =
  (ck (gC h x0) 1 <|
  (gR h 257 x0).bind fun y1 =>
   ck (gC h y1) 65 <|
   gd x1 (gK h y1) <|
   (gO h y1 (ix x1)).bind fun y2 =>
    some (some (.ref y2), h)) := by
  rw [← hs.1]
  exact ent rfl ((blkM (fun p => false) 6 0 _ _ _).trans rfl)

/-! 269 PostRoom$Book.zoneOf(II)I -/
set_option maxRecDepth 16384 in
theorem t_269 {d : Nat} {h : AH} (hs : Sh h) (x0 : Nat) (x1 : Int32) (x2 : Int32) :
    E (d + 1) 269 [.ref x0, .int x1, .int x2] h =
  if x1 = x2 then
   some (some (.int 0), h)
  else
   ck (gC h x0) 2 <|
   (gR h 512 x0).bind fun y1 =>
    ck (gC h y1) 1 <|
    cK (E d 212 [.ref y1, .int x1] h) (Q d 269 15 [some (.ref x0), some (.int x1), some (.int x2), none, none]) [] := by
  rw [← hs.1]
  exact ent rfl ((blkM (fun p => Nat.beq p 15) 8 0 _ _ _).trans rfl)

set_option maxRecDepth 16384 in
theorem t_269_15 {d : Nat} {h : AH} (hs : Sh h) (x0 : Nat) (x2 : Int32) (u1 : Option Value) (u3 : Option Value) (u4 : Option Value) (s0 : Nat) :
    Q d 269 15 [some (.ref x0), u1, some (.int x2), u3, u4] [.ref s0] h =
  (ck (gC h s0) 7 <|
  ck (gC h x0) 2 <|
  (gR h 512 x0).bind fun y1 =>
   ck (gC h y1) 1 <|
   cK (E d 212 [.ref y1, .int x2] h) (Q d 269 27 [some (.ref x0), u1, some (.int x2), some (.ref s0), u4]) []) := by
  rw [← hs.1]
  exact (blkM (fun p => Nat.beq p 27) 7 15 _ _ _).trans rfl

set_option maxRecDepth 16384 in
theorem t_269_27 {d : Nat} {h : AH} (hs : Sh h) (x3 : Nat) (u0 : Option Value) (u1 : Option Value) (u2 : Option Value) (u4 : Option Value) (s0 : Nat) :
    Q d 269 27 [u0, u1, u2, some (.ref x3), u4] [.ref s0] h =
  (ck (gC h s0) 7 <|
  ck (gC h x3) 7 <|
  ck (gC h s0) 7 <|
  cK (E d 345 [.int ((gI h 1795 x3) - (gI h 1795 s0))] h) (Q d 269 48 [u0, u1, u2, some (.ref x3), some (.ref s0)]) [.int 1, .int 9]) := by
  rw [← hs.1]
  exact (blkM (fun p => Nat.beq p 48) 11 27 _ _ _).trans rfl

set_option maxRecDepth 16384 in
theorem t_269_48 {d : Nat} {h : AH} (hs : Sh h) (x3 : Nat) (x4 : Nat) (u0 : Option Value) (u1 : Option Value) (u2 : Option Value) (s0 : Int32) (s1 : Int32) (s2 : Int32) :
    Q d 269 48 [u0, u1, u2, some (.ref x3), some (.ref x4)] [.int s2, .int s1, .int s0] h =
  (ck (gC h x3) 7 <|
  ck (gC h x4) 7 <|
  cK (E d 345 [.int ((gI h 1796 x3) - (gI h 1796 x4))] h) (Q d 269 61 [u0, u1, u2, some (.ref x3), some (.ref x4)]) [.int s2, .int s1, .int s0]) := by
  rw [← hs.1]
  exact (blkM (fun p => Nat.beq p 61) 7 48 _ _ _).trans rfl

set_option maxRecDepth 16384 in
theorem t_269_61 {d : Nat} {h : AH} (hs : Sh h) (u0 : Option Value) (u1 : Option Value) (u2 : Option Value) (u3 : Option Value) (u4 : Option Value) (s0 : Int32) (s1 : Int32) (s2 : Int32) (s3 : Int32) :
    Q d 269 61 [u0, u1, u2, u3, u4] [.int s3, .int s2, .int s1, .int s0] h =
  cK (E d 302 [.int s0, .int (s1 + ((s2 + s3) / 100))] h) (Q d 269 69 [u0, u1, u2, u3, u4]) [] := by
  rw [← hs.1]
  exact (blkM (fun p => Nat.beq p 69) 6 61 _ _ _).trans rfl

set_option maxRecDepth 16384 in
theorem t_269_69 {d : Nat} {h : AH} (hs : Sh h) (u0 : Option Value) (u1 : Option Value) (u2 : Option Value) (u3 : Option Value) (u4 : Option Value) (s0 : Int32) :
    Q d 269 69 [u0, u1, u2, u3, u4] [.int s0] h =
  some (some (.int s0), h) := by
  rw [← hs.1]
  exact (blkM (fun p => false) 2 69 _ _ _).trans rfl

/-! 270 PostRoom$Service.priceFor(II)I -/
set_option maxRecDepth 16384 in
theorem t_270 {d : Nat} {h : AH} (hs : Sh h) (x0 : Nat) (x1 : Int32) (x2 : Int32) :
    E (d + 1) 270 [.ref x0, .int x1, .int x2] h =
  Q d 270 5 [some (.ref x0), some (.int x1), some (.int x2), some (.long 0), none, some (.int 0)] [] h := by
  rw [← hs.1]
  exact ent rfl ((blkM (fun p => Nat.beq p 5) 6 0 _ _ _).trans rfl)

set_option maxRecDepth 16384 in
theorem t_270_5 {d : Nat} {h : AH} (hs : Sh h) (x0 : Nat) (x1 : Int32) (x2 : Int32) (x3 : Int64) (x5 : Int32) :
    Q d 270 5 [some (.ref x0), some (.int x1), some (.int x2), some (.long x3), none, some (.int x5)] [] h =
  (ck (gC h x0) 10 <|
  if x5 < gI h 2563 x0 then
   ck (gC h x0) 10 <|
   cK (E d 346 [.ref x0, .int x5, .long x3, .int x1, .int x2] h) (Q d 270 23 [some (.ref x0), some (.int x1), some (.int x2), some (.long x3), none, some (.int x5)]) []
  else
   if (0 : Int32) < lg_cmp x3 1000000 then
    some (some (.int 1000000), h)
   else
    some (some (.int x3.toInt32), h)) := by
  rw [← hs.1]
  exact (blkM (fun p => Nat.beq p 23) 12 5 _ _ _).trans rfl

set_option maxRecDepth 16384 in
theorem t_270_23 {d : Nat} {h : AH} (hs : Sh h) (x0 : Nat) (x1 : Int32) (x2 : Int32) (x5 : Int32) (u3 : Option Value) (u4 : Option Value) (s0 : Int64) :
    Q d 270 23 [some (.ref x0), some (.int x1), some (.int x2), u3, u4, some (.int x5)] [.long s0] h =
  Q d 270 5 [some (.ref x0), some (.int x1), some (.int x2), some (.long s0), none, some (.int (x5 + 1))] [] h := by
  rw [← hs.1]
  exact (blkM (fun p => Nat.beq p 5) 5 23 _ _ _).trans rfl

/-! 271 PostRoom$Item.<init>(IIIII)V -/
set_option maxRecDepth 16384 in
theorem t_271 {d : Nat} {h : AH} (hs : Sh h) (x0 : Nat) (x1 : Int32) (x2 : Int32) (x3 : Int32) (x4 : Int32) (x5 : Int32) :
    E (d + 1) 271 [.ref x0, .int x1, .int x2, .int x3, .int x4, .int x5] h =
  (ck (gC h x0) 5 <|
  ck (gC h x0) 5 <|
  ck (gC h x0) 5 <|
  ck (gC h x0) 5 <|
  ck (gC h x0) 5 <|
  Q d 271 36 [some (.ref x0), some (.int x1), some (.int x2), some (.int x3), some (.int x4), some (.int x5)] [.ref (gN h), .ref x0] (nwA (sI (sI (sI (sI (sI h 1280 x0 x1) 1281 x0 x2) 1284 x0 x3) 1282 x0 x4) 1283 x0 x5) 60 11)) := by
  rw [← hs.1]
  exact ent rfl ((blkM (fun p => Nat.beq p 36) 22 0 _ _ _).trans rfl)

set_option maxRecDepth 16384 in
theorem t_271_36 {d : Nat} {h : AH} (hs : Sh h) (x0 : Nat) (u1 : Option Value) (u2 : Option Value) (u3 : Option Value) (u4 : Option Value) (u5 : Option Value) (s0 : Nat) (s1 : Nat) :
    Q d 271 36 [some (.ref x0), u1, u2, u3, u4, u5] [.ref s1, .ref s0] h =
  (ck (gC h s0) 5 <|
  ck (gC h x0) 5 <|
  some (none, sI (sR h 1285 s0 (some s1)) 1290 x0 (-1))) := by
  rw [← hs.1]
  exact (blkM (fun p => false) 6 36 _ _ _).trans rfl

/-! 272 PostRoom$Item.setSigns(I)V -/
set_option maxRecDepth 16384 in
theorem t_272 {d : Nat} {h : AH} (hs : Sh h) (x0 : Nat) (x1 : Int32) :
    E (d + 1) 272 [.ref x0, .int x1] h =
  (ck (gC h x0) 5 <|
  (gR h 1285 x0).bind fun y1 =>
   ck (gC h x0) 5 <|
   cw (gC h y1) 60 y1 <|
   gd (0 : Int32) (gK h y1) <|
   ck (gC h x0) 5 <|
   (gR h 1285 x0).bind fun y2 =>
    cw (gC h y2) 60 y2 <|
    gd (1 : Int32) (gK h y2) <|
    ck (gC h x0) 5 <|
    (gR h 1285 x0).bind fun y3 =>
     cw (gC h y3) 60 y3 <|
     gd (2 : Int32) (gK h y3) <|
     ck (gC h x0) 5 <|
     (gR h 1285 x0).bind fun y4 =>
      ck (gC h x0) 5 <|
      cw (gC h y4) 60 y4 <|
      gd (3 : Int32) (gK h y4) <|
      ck (gC h x0) 5 <|
      (gR h 1285 x0).bind fun y5 =>
       ck (gC h x0) 5 <|
       cw (gC h y5) 60 y5 <|
       gd (4 : Int32) (gK h y5) <|
       ck (gC h x0) 5 <|
       (gR h 1285 x0).bind fun y6 =>
        ck (gC h x0) 5 <|
        cw (gC h y6) 60 y6 <|
        gd (5 : Int32) (gK h y6) <|
        ck (gC h x0) 5 <|
        (gR h 1285 x0).bind fun y7 =>
         ck (gC h x0) 5 <|
         cw (gC h y7) 60 y7 <|
         gd (6 : Int32) (gK h y7) <|
         Q d 272 86 [some (.ref x0), some (.int x1), none] [.ref (gN h)] (nwA (sA (sA (sA (sA (sA (sA (sA h y1 0 (gI h 1281 x0)) y2 1 (x1 / 64)) y3 2 (x1 - x1 / 64 * 64)) y4 3 ((gI h 1280 x0) / 64)) y5 4 ((gI h 1280 x0) - (gI h 1280 x0) / 64 * 64)) y6 5 ((gI h 1282 x0) / 64)) y7 6 ((gI h 1282 x0) - (gI h 1282 x0) / 64 * 64)) 60 4)) := by
  rw [← hs.1]
  exact ent rfl ((blkM (fun p => Nat.beq p 86) 56 0 _ _ _).trans rfl)

set_option maxRecDepth 16384 in
theorem t_272_86 {d : Nat} {h : AH} (hs : Sh h) (x0 : Nat) (u1 : Option Value) (u2 : Option Value) (s0 : Nat) :
    Q d 272 86 [some (.ref x0), u1, u2] [.ref s0] h =
  (cw (gC h s0) 60 s0 <|
  gd (0 : Int32) (gK h s0) <|
  cw (gC h s0) 60 s0 <|
  gd (1 : Int32) (gK h s0) <|
  cw (gC h s0) 60 s0 <|
  gd (2 : Int32) (gK h s0) <|
  cw (gC h s0) 60 s0 <|
  gd (3 : Int32) (gK h s0) <|
  ck (gC h x0) 5 <|
  (gR h 1285 x0).bind fun y1 =>
   Q d 272 119 [some (.ref x0), klV u1, some (.ref s0)] [.ref (gN h), .int 4, .ref s0, .ref y1] (nwM (sA (sA (sA (sA h s0 0 7) s0 1 8) s0 2 9) s0 3 10) 4 5)) := by
  rw [← hs.1]
  exact (blkM (fun p => Nat.beq p 119) 26 86 _ _ _).trans rfl

set_option maxRecDepth 16384 in
theorem t_272_119 {d : Nat} {h : AH} (hs : Sh h) (u0 : Option Value) (u1 : Option Value) (u2 : Option Value) (s0 : Nat) (s1 : Nat) (s2 : Int32) (s3 : Nat) :
    Q d 272 119 [u0, u1, u2] [.ref s3, .int s2, .ref s1, .ref s0] h =
  cK (E d 246 [.ref s0, .ref s1, .int s2, .ref s3] h) (Q d 272 122 [u0, u1, u2]) [] := by
  rw [← hs.1]
  exact (blkM (fun p => Nat.beq p 122) 2 119 _ _ _).trans rfl

set_option maxRecDepth 16384 in
theorem t_272_122 {d : Nat} {h : AH} (hs : Sh h) (u0 : Option Value) (u1 : Option Value) (u2 : Option Value) (s0 : Int32) :
    Q d 272 122 [u0, u1, u2] [.int s0] h =
  some (none, h) := by
  rw [← hs.1]
  exact (blkM (fun p => false) 3 122 _ _ _).trans rfl

/-! 273 java/util/ArrayList.add(Ljava/lang/Object;)Z -/
set_option maxRecDepth 16384 in
theorem t_273 {d : Nat} {h : AH} (hs : Sh h) (x0 : Nat) (x1 : Nat) :
    E (d + 1) 273 [.ref x0, .ref x1] h =
  (ck (gC h x0) 1 <|
  ck (gC h x0) 1 <|
  ck (gC h x0) 1 <|
  (gR h 257 x0).bind fun y1 =>
   ck (gC h x0) 1 <|
   ck (gC h x0) 1 <|
   cK (E d 347 [.ref x0, .ref x1, .ref y1, .int (gI h 258 x0)] (sI h 256 x0 ((gI h 256 x0) + 1))) (Q d 273 23 [some (.ref x0), some (.ref x1)]) []) := by
  rw [← hs.1]
  exact ent rfl ((blkM (fun p => Nat.beq p 23) 14 0 _ _ _).trans rfl)

set_option maxRecDepth 16384 in
theorem t_273_23 {d : Nat} {h : AH} (hs : Sh h) (u0 : Option Value) (u1 : Option Value) :
    Q d 273 23 [u0, u1] [] h =
  some (some (.int 1), h) := by
  rw [← hs.1]
  exact (blkM (fun p => false) 3 23 _ _ _).trans rfl

/-! 274 java/util/AbstractList.<init>()V -/
set_option maxRecDepth 16384 in
theorem t_274 {d : Nat} {h : AH} (hs : Sh h) (x0 : Nat) :
    E (d + 1) 274 [.ref x0] h =
  cK (E d 348 [.ref x0] h) (Q d 274 4 [some (.ref x0)]) [] := by
  rw [← hs.1]
  exact ent rfl ((blkM (fun p => Nat.beq p 4) 3 0 _ _ _).trans rfl)

set_option maxRecDepth 16384 in
theorem t_274_4 {d : Nat} {h : AH} (hs : Sh h) (x0 : Nat) :
    Q d 274 4 [some (.ref x0)] [] h =
  (ck (gC h x0) 1 <|
  some (none, sI h 256 x0 0)) := by
  rw [← hs.1]
  exact (blkM (fun p => false) 5 4 _ _ _).trans rfl

/-! 275 java/lang/String.checkIndex(II)V -/
set_option maxRecDepth 16384 in
theorem t_275 {d : Nat} {h : AH} (hs : Sh h) (x0 : Int32) (x1 : Int32) :
    E (d + 1) 275 [.int x0, .int x1] h =
  cK (E d 344 [.int x0, .int x1, gsv h 64] h) (Q d 275 8 [some (.int x0), some (.int x1)]) [] := by
  rw [← hs.1]
  exact ent rfl ((blkM (fun p => Nat.beq p 8) 5 0 _ _ _).trans rfl)

set_option maxRecDepth 16384 in
theorem t_275_8 {d : Nat} {h : AH} (hs : Sh h) (u0 : Option Value) (u1 : Option Value) (s0 : Int32) :
    Q d 275 8 [u0, u1] [.int s0] h =
  some (none, h) := by
  rw [← hs.1]
  exact (blkM (fun p => false) 3 8 _ _ _).trans rfl

/-! 276 PostRoom$Office.<init>()V -/
set_option maxRecDepth 16384 in
theorem t_276 {d : Nat} {h : AH} (hs : Sh h) (x0 : Nat) :
    E (d + 1) 276 [.ref x0] h =
  Q d 276 8 [some (.ref x0)] [.ref (gN h), .ref x0] (nwO h 1 3) := by
  rw [← hs.1]
  exact ent rfl ((blkM (fun p => Nat.beq p 8) 6 0 _ _ _).trans rfl)

set_option maxRecDepth 16384 in
theorem t_276_8 {d : Nat} {h : AH} (hs : Sh h) (u0 : Option Value) (s0 : Nat) (s1 : Nat) :
    Q d 276 8 [u0] [.ref s1, .ref s0] h =
  cK (E d 226 [.ref s1] h) (Q d 276 12 [u0]) [.ref s1, .ref s0] := by
  rw [← hs.1]
  exact (blkM (fun p => Nat.beq p 12) 3 8 _ _ _).trans rfl

set_option maxRecDepth 16384 in
theorem t_276_12 {d : Nat} {h : AH} (hs : Sh h) (u0 : Option Value) (s0 : Nat) (s1 : Nat) :
    Q d 276 12 [u0] [.ref s1, .ref s0] h =
  (ck (gC h s0) 7 <|
  some (none, sR h 1797 s0 (some s1))) := by
  rw [← hs.1]
  exact (blkM (fun p => false) 3 12 _ _ _).trans rfl

/-! 277 PostRoom$Book.takesName()Z -/
set_option maxRecDepth 16384 in
theorem t_277 {d : Nat} {h : AH} (hs : Sh h) (x0 : Nat) :
    E (d + 1) 277 [.ref x0] h =
  (ck (gC h x0) 2 <|
  (gR h 520 x0).bind fun y1 =>
   ck (gC h y1) 12 <|
   cK (E d 238 [.ref y1] h) (Q d 277 7 [some (.ref x0)]) []) := by
  rw [← hs.1]
  exact ent rfl ((blkM (fun p => Nat.beq p 7) 4 0 _ _ _).trans rfl)

set_option maxRecDepth 16384 in
theorem t_277_7 {d : Nat} {h : AH} (hs : Sh h) (x0 : Nat) :
    Q d 277 7 [some (.ref x0)] [] h =
  (ck (gC h x0) 2 <|
  (gR h 520 x0).bind fun y1 =>
   ck (gC h y1) 12 <|
   if gI h 3076 y1 = 2 then
    some (some (.int 1), h)
   else
    ck (gC h x0) 2 <|
    cK (E d 237 [.ref x0, .int 1] h) (Q d 277 23 [some (.ref x0)]) []) := by
  rw [← hs.1]
  exact (blkM (fun p => Nat.beq p 23) 9 7 _ _ _).trans rfl

set_option maxRecDepth 16384 in
theorem t_277_23 {d : Nat} {h : AH} (hs : Sh h) (u0 : Option Value) (s0 : Int32) :
    Q d 277 23 [u0] [.int s0] h =
  if s0 = 0 then
   some (some (.int 0), h)
  else
   some (some (.int 1), h) := by
  rw [← hs.1]
  exact (blkM (fun p => false) 5 23 _ _ _).trans rfl

/-! 278 PostRoom$Book.officeNamed(J)I -/
set_option maxRecDepth 16384 in
theorem t_278 {d : Nat} {h : AH} (hs : Sh h) (x0 : Nat) (x1 : Int64) :
    E (d + 1) 278 [.ref x0, .long x1] h =
  Q d 278 2 [some (.ref x0), some (.long x1), none, some (.int 0)] [] h := by
  rw [← hs.1]
  exact ent rfl ((blkM (fun p => Nat.beq p 2) 4 0 _ _ _).trans rfl)

set_option maxRecDepth 16384 in
theorem t_278_2 {d : Nat} {h : AH} (hs : Sh h) (x0 : Nat) (x1 : Int64) (x3 : Int32) :
    Q d 278 2 [some (.ref x0), some (.long x1), none, some (.int x3)] [] h =
  (ck (gC h x0) 2 <|
  (gR h 512 x0).bind fun y1 =>
   ck (gC h y1) 1 <|
   cK (E d 213 [.ref y1] h) (Q d 278 10 [some (.ref x0), some (.long x1), none, some (.int x3)]) [.int x3]) := by
  rw [← hs.1]
  exact (blkM (fun p => Nat.beq p 10) 5 2 _ _ _).trans rfl

set_option maxRecDepth 16384 in
theorem t_278_10 {d : Nat} {h : AH} (hs : Sh h) (x0 : Nat) (x1 : Int64) (x3 : Int32) (s0 : Int32) (s1 : Int32) :
    Q d 278 10 [some (.ref x0), some (.long x1), none, some (.int x3)] [.int s1, .int s0] h =
  if s0 < s1 then
   ck (gC h x0) 2 <|
   (gR h 512 x0).bind fun y1 =>
    ck (gC h y1) 1 <|
    cK (E d 212 [.ref y1, .int x3] h) (Q d 278 21 [some (.ref x0), some (.long x1), none, some (.int x3)]) []
  else
   some (some (.int (-1)), h) := by
  rw [← hs.1]
  exact (blkM (fun p => Nat.beq p 21) 6 10 _ _ _).trans rfl

set_option maxRecDepth 16384 in
theorem t_278_21 {d : Nat} {h : AH} (hs : Sh h) (x0 : Nat) (x1 : Int64) (x3 : Int32) (s0 : Nat) :
    Q d 278 21 [some (.ref x0), some (.long x1), none, some (.int x3)] [.ref s0] h =
  (ck (gC h s0) 7 <|
  ck (gC h s0) 7 <|
  if lg_cmp (gL h 1792 s0) x1 = 0 then
   some (some (.int x3), h)
  else
   Q d 278 2 [some (.ref x0), some (.long x1), none, some (.int (x3 + 1))] [] h) := by
  rw [← hs.1]
  exact (blkM (fun p => Nat.beq p 2) 9 21 _ _ _).trans rfl

/-! 279 PostRoom$Tape.copyCodes([II)I -/
set_option maxRecDepth 16384 in
theorem t_279 {d : Nat} {h : AH} (hs : Sh h) (x1 : Nat) (x2 : Int32) :
    E (d + 1) 279 [.ref 101, .ref x1, .int x2] h =
  Q d 279 8 [some (.ref 101), some (.ref x1), none, some (.int x2), some (.int (gI h 3074 101))] [] h := by
  rw [← hs.1]
  exact ent rfl ((blkM (fun p => Nat.beq p 8) 7 0 _ _ _).trans rfl)

set_option maxRecDepth 16384 in
theorem t_279_8 {d : Nat} {h : AH} (hs : Sh h) (x1 : Nat) (x3 : Int32) (x4 : Int32) :
    Q d 279 8 [some (.ref 101), some (.ref x1), none, some (.int x3), some (.int x4)] [] h =
  if x4 < gI h 3075 101 then
   if 60 ≤ gC h x1 ∧ gC h x1 ≤ 66 then
    if x3 < nI (gK h x1) then
     gd x4 4000 <|
     cK (E d 294 [.int (gA h 102 (ix x4))] h) (Q d 279 35 [some (.ref 101), some (.ref x1), none, some (.int x3), some (.int x4)]) [.int x3, .ref x1]
    else
     some (some (.int x3), h)
   else
    none
  else
   some (some (.int x3), h) := by
  rw [← hs.1]
  exact (blkM (fun p => Nat.beq p 35) 16 8 _ _ _).trans rfl

set_option maxRecDepth 16384 in
theorem t_279_35 {d : Nat} {h : AH} (hs : Sh h) (x1 : Nat) (x3 : Int32) (x4 : Int32) (u2 : Option Value) (s0 : Nat) (s1 : Int32) (s2 : Int32) :
    Q d 279 35 [some (.ref 101), some (.ref x1), u2, some (.int x3), some (.int x4)] [.int s2, .int s1, .ref s0] h =
  (cw (gC h s0) 60 s0 <|
  gd s1 (gK h s0) <|
  Q d 279 8 [some (.ref 101), some (.ref x1), none, some (.int (x3 + 1)), some (.int (x4 + 1))] [] (sA h s0 (ix s1) s2)) := by
  rw [← hs.1]
  exact (blkM (fun p => Nat.beq p 8) 6 35 _ _ _).trans rfl

/-! 280 PostRoom$Book.takesNumber(II)Z -/
set_option maxRecDepth 16384 in
theorem t_280 {d : Nat} {h : AH} (hs : Sh h) (x0 : Nat) (x1 : Int32) (x2 : Int32) :
    E (d + 1) 280 [.ref x0, .int x1, .int x2] h =
  (ck (gC h x0) 2 <|
  (gR h 520 x0).bind fun y1 =>
   ck (gC h y1) 12 <|
   cK (E d 238 [.ref y1] h) (Q d 280 7 [some (.ref x0), some (.int x1), some (.int x2)]) []) := by
  rw [← hs.1]
  exact ent rfl ((blkM (fun p => Nat.beq p 7) 4 0 _ _ _).trans rfl)

set_option maxRecDepth 16384 in
theorem t_280_7 {d : Nat} {h : AH} (hs : Sh h) (x0 : Nat) (x1 : Int32) (x2 : Int32) :
    Q d 280 7 [some (.ref x0), some (.int x1), some (.int x2)] [] h =
  (ck (gC h x0) 2 <|
  (gR h 520 x0).bind fun y1 =>
   ck (gC h y1) 12 <|
   if gI h 3076 y1 = 3 then
    ck (gC h x0) 2 <|
    (gR h 520 x0).bind fun y2 =>
     ck (gC h y2) 12 <|
     if gI h 3077 y2 < x1 then
      ck (gC h x0) 2 <|
      cK (E d 237 [.ref x0, .int 4] h) (Q d 280 51 [some (.ref x0), none, none]) []
     else
      ck (gC h x0) 2 <|
      (gR h 520 x0).bind fun y3 =>
       ck (gC h y3) 12 <|
       if x2 < gI h 3077 y3 then
        ck (gC h x0) 2 <|
        cK (E d 237 [.ref x0, .int 4] h) (Q d 280 51 [some (.ref x0), none, none]) []
       else
        some (some (.int 1), h)
   else
    ck (gC h x0) 2 <|
    cK (E d 237 [.ref x0, .int 1] h) (Q d 280 23 [some (.ref x0), some (.int x1), some (.int x2)]) []) := by
  rw [← hs.1]
  exact (blkM (fun p => Nat.beq p 23 || Nat.beq p 51) 19 7 _ _ _).trans rfl

set_option maxRecDepth 16384 in
theorem t_280_23 {d : Nat} {h : AH} (hs : Sh h) (u0 : Option Value) (u1 : Option Value) (u2 : Option Value) (s0 : Int32) :
    Q d 280 23 [u0, u1, u2] [.int s0] h =
  if s0 = 0 ∨ s0 = 1 then
   some (some (.int s0), h)
  else
   none := by
  rw [← hs.1]
  exact (blkM (fun p => false) 2 23 _ _ _).trans rfl

set_option maxRecDepth 16384 in
theorem t_280_51 {d : Nat} {h : AH} (hs : Sh h) (u0 : Option Value) (u1 : Option Value) (u2 : Option Value) (s0 : Int32) :
    Q d 280 51 [u0, u1, u2] [.int s0] h =
  if s0 = 0 then
   some (some (.int 0), h)
  else
   some (some (.int 1), h) := by
  rw [← hs.1]
  exact (blkM (fun p => false) 5 51 _ _ _).trans rfl

/-! 281 PostRoom$Book.hasCode(I)Z -/
set_option maxRecDepth 16384 in
theorem t_281 {d : Nat} {h : AH} (hs : Sh h) (x0 : Nat) (x1 : Int32) :
    E (d + 1) 281 [.ref x0, .int x1] h =
  Q d 281 2 [some (.ref x0), some (.int x1), some (.int 0)] [] h := by
  rw [← hs.1]
  exact ent rfl ((blkM (fun p => Nat.beq p 2) 4 0 _ _ _).trans rfl)

set_option maxRecDepth 16384 in
theorem t_281_2 {d : Nat} {h : AH} (hs : Sh h) (x0 : Nat) (x1 : Int32) (x2 : Int32) :
    Q d 281 2 [some (.ref x0), some (.int x1), some (.int x2)] [] h =
  (ck (gC h x0) 2 <|
  (gR h 512 x0).bind fun y1 =>
   ck (gC h y1) 1 <|
   cK (E d 213 [.ref y1] h) (Q d 281 10 [some (.ref x0), some (.int x1), some (.int x2)]) [.int x2]) := by
  rw [← hs.1]
  exact (blkM (fun p => Nat.beq p 10) 5 2 _ _ _).trans rfl

set_option maxRecDepth 16384 in
theorem t_281_10 {d : Nat} {h : AH} (hs : Sh h) (x0 : Nat) (x1 : Int32) (x2 : Int32) (s0 : Int32) (s1 : Int32) :
    Q d 281 10 [some (.ref x0), some (.int x1), some (.int x2)] [.int s1, .int s0] h =
  if s0 < s1 then
   ck (gC h x0) 2 <|
   (gR h 512 x0).bind fun y1 =>
    ck (gC h y1) 1 <|
    cK (E d 212 [.ref y1, .int x2] h) (Q d 281 21 [some (.ref x0), some (.int x1), some (.int x2)]) []
  else
   some (some (.int 0), h) := by
  rw [← hs.1]
  exact (blkM (fun p => Nat.beq p 21) 6 10 _ _ _).trans rfl

set_option maxRecDepth 16384 in
theorem t_281_21 {d : Nat} {h : AH} (hs : Sh h) (x0 : Nat) (x1 : Int32) (x2 : Int32) (s0 : Nat) :
    Q d 281 21 [some (.ref x0), some (.int x1), some (.int x2)] [.ref s0] h =
  (ck (gC h s0) 7 <|
  ck (gC h s0) 7 <|
  if gI h 1794 s0 = x1 then
   some (some (.int 1), h)
  else
   Q d 281 2 [some (.ref x0), some (.int x1), some (.int (x2 + 1))] [] h) := by
  rw [← hs.1]
  exact (blkM (fun p => Nat.beq p 2) 8 21 _ _ _).trans rfl

/-! 282 PostRoom$Book.takesEnd()Z -/
set_option maxRecDepth 16384 in
theorem t_282 {d : Nat} {h : AH} (hs : Sh h) (x0 : Nat) :
    E (d + 1) 282 [.ref x0] h =
  (ck (gC h x0) 2 <|
  (gR h 520 x0).bind fun y1 =>
   ck (gC h y1) 12 <|
   cK (E d 238 [.ref y1] h) (Q d 282 7 [some (.ref x0)]) []) := by
  rw [← hs.1]
  exact ent rfl ((blkM (fun p => Nat.beq p 7) 4 0 _ _ _).trans rfl)

set_option maxRecDepth 16384 in
theorem t_282_7 {d : Nat} {h : AH} (hs : Sh h) (x0 : Nat) :
    Q d 282 7 [some (.ref x0)] [] h =
  (ck (gC h x0) 2 <|
  (gR h 520 x0).bind fun y1 =>
   ck (gC h y1) 12 <|
   if gI h 3076 y1 = 59 then
    some (some (.int 1), h)
   else
    ck (gC h x0) 2 <|
    cK (E d 237 [.ref x0, .int 1] h) (Q d 282 24 [some (.ref x0)]) []) := by
  rw [← hs.1]
  exact (blkM (fun p => Nat.beq p 24) 9 7 _ _ _).trans rfl

set_option maxRecDepth 16384 in
theorem t_282_24 {d : Nat} {h : AH} (hs : Sh h) (u0 : Option Value) (s0 : Int32) :
    Q d 282 24 [u0] [.int s0] h =
  if s0 = 0 then
   some (some (.int 0), h)
  else
   some (some (.int 1), h) := by
  rw [← hs.1]
  exact (blkM (fun p => false) 5 24 _ _ _).trans rfl

/-! 283 PostRoom$Book.shortNamed(J)I -/
set_option maxRecDepth 16384 in
theorem t_283 {d : Nat} {h : AH} (hs : Sh h) (x0 : Nat) (x1 : Int64) :
    E (d + 1) 283 [.ref x0, .long x1] h =
  Q d 283 2 [some (.ref x0), some (.long x1), none, some (.int 0)] [] h := by
  rw [← hs.1]
  exact ent rfl ((blkM (fun p => Nat.beq p 2) 4 0 _ _ _).trans rfl)

set_option maxRecDepth 16384 in
theorem t_283_2 {d : Nat} {h : AH} (hs : Sh h) (x0 : Nat) (x1 : Int64) (x3 : Int32) :
    Q d 283 2 [some (.ref x0), some (.long x1), none, some (.int x3)] [] h =
  (ck (gC h x0) 2 <|
  if x3 < gI h 518 x0 then
   ck (gC h x0) 2 <|
   (gR h 516 x0).bind fun y1 =>
    ck (gC h y1) 61 <|
    gd x3 (gK h y1) <|
    if lg_cmp (gB h y1 (ix x3)) x1 = 0 then
     some (some (.int x3), h)
    else
     Q d 283 2 [some (.ref x0), some (.long x1), none, some (.int (x3 + 1))] [] h
  else
   some (some (.int (-1)), h)) := by
  rw [← hs.1]
  exact (blkM (fun p => Nat.beq p 2) 15 2 _ _ _).trans rfl

/-! 284 PostRoom$Street.<init>()V -/
set_option maxRecDepth 16384 in
theorem t_284 {d : Nat} {h : AH} (hs : Sh h) (x0 : Nat) :
    E (d + 1) 284 [.ref x0] h =
  some (none, h) := by
  rw [← hs.1]
  exact ent rfl ((blkM (fun p => false) 4 0 _ _ _).trans rfl)

/-! 285 PostRoom$Book.readNames(LPostRoom$Street;)Z -/
set_option maxRecDepth 16384 in
theorem t_285 {d : Nat} {h : AH} (hs : Sh h) (x0 : Nat) (x1 : Nat) :
    E (d + 1) 285 [.ref x0, .ref x1] h =
  Q d 285 4 [some (.ref x0), some (.ref x1), none, none, none, none] [.ref (gN h)] (nwA h 60 39) := by
  rw [← hs.1]
  exact ent rfl ((blkM (fun p => Nat.beq p 4) 4 0 _ _ _).trans rfl)

set_option maxRecDepth 16384 in
theorem t_285_4 {d : Nat} {h : AH} (hs : Sh h) (x0 : Nat) (x1 : Nat) (u2 : Option Value) (u3 : Option Value) (u4 : Option Value) (u5 : Option Value) (s0 : Nat) :
    Q d 285 4 [some (.ref x0), some (.ref x1), u2, u3, u4, u5] [.ref s0] h =
  Q d 285 10 [some (.ref x0), some (.ref x1), some (.ref s0), some (.int 0), some (.int 0), none] [] h := by
  rw [← hs.1]
  exact (blkM (fun p => Nat.beq p 10) 7 4 _ _ _).trans rfl

set_option maxRecDepth 16384 in
theorem t_285_10 {d : Nat} {h : AH} (hs : Sh h) (x0 : Nat) (x1 : Nat) (x2 : Nat) (x3 : Int32) (x4 : Int32) :
    Q d 285 10 [some (.ref x0), some (.ref x1), some (.ref x2), some (.int x3), some (.int x4), none] [] h =
  if x4 < 3 then
   ck (gC h x0) 2 <|
   cK (E d 277 [.ref x0] h) (Q d 285 20 [some (.ref x0), some (.ref x1), some (.ref x2), some (.int x3), some (.int x4), none]) []
  else
   cK (E d 349 [.ref x2, .int x3] h) (Q d 285 109 [some (.ref x0), some (.ref x1), some (.ref x2), some (.int x3), some (.int x4), none]) [.ref x1] := by
  rw [← hs.1]
  exact (blkM (fun p => Nat.beq p 20 || Nat.beq p 109) 8 10 _ _ _).trans rfl

set_option maxRecDepth 16384 in
theorem t_285_20 {d : Nat} {h : AH} (hs : Sh h) (x0 : Nat) (x1 : Nat) (x2 : Nat) (x3 : Int32) (x4 : Int32) (u5 : Option Value) (s0 : Int32) :
    Q d 285 20 [some (.ref x0), some (.ref x1), some (.ref x2), some (.int x3), some (.int x4), u5] [.int s0] h =
  if s0 = 0 then
   some (some (.int 0), h)
  else
   ck (gC h x0) 2 <|
   (gR h 520 x0).bind fun y1 =>
    ck (gC h y1) 12 <|
    cK (E d 231 [.ref y1, .ref 2] h) (Q d 285 34 [some (.ref x0), some (.ref x1), some (.ref x2), some (.int x3), some (.int x4), u5]) [] := by
  rw [← hs.1]
  exact (blkM (fun p => Nat.beq p 34) 6 20 _ _ _).trans rfl

set_option maxRecDepth 16384 in
theorem t_285_109 {d : Nat} {h : AH} (hs : Sh h) (x0 : Nat) (u1 : Option Value) (u2 : Option Value) (u3 : Option Value) (u4 : Option Value) (u5 : Option Value) (s0 : Nat) (s1 : Nat) :
    Q d 285 109 [some (.ref x0), u1, u2, u3, u4, u5] [.ref s1, .ref s0] h =
  (ck (gC h s0) 11 <|
  ck (gC h x0) 2 <|
  cK (E d 288 [.ref x0, .ref 2] (sR h 2816 s0 (some s1))) (Q d 285 118 [some (.ref x0), u1, u2, u3, u4, u5]) []) := by
  rw [← hs.1]
  exact (blkM (fun p => Nat.beq p 118) 5 109 _ _ _).trans rfl

set_option maxRecDepth 16384 in
theorem t_285_34 {d : Nat} {h : AH} (hs : Sh h) (x0 : Nat) (x1 : Nat) (x2 : Nat) (x3 : Int32) (x4 : Int32) (u5 : Option Value) (s0 : Int32) :
    Q d 285 34 [some (.ref x0), some (.ref x1), some (.ref x2), some (.int x3), some (.int x4), u5] [.int s0] h =
  if s0 = 0 then
   if (1 : Int32) = 0 then
    if (1 : Int32) = 0 then
     ck (gC h x0) 2 <|
     (gR h 520 x0).bind fun y1 =>
      if x4 = 0 then
       ck (gC h y1) 12 <|
       cK (E d 279 [.ref y1, .ref x2, .int 0] h) (Q d 285 96 [some (.ref x0), some (.ref x1), some (.ref x2), none, some (.int x4), none]) []
      else
       ck (gC h y1) 12 <|
       cK (E d 279 [.ref y1, .ref x2, .int (x3 + 1)] h) (Q d 285 96 [some (.ref x0), some (.ref x1), some (.ref x2), none, some (.int x4), none]) []
    else
     cK (E d 349 [.ref x2, .int x3] h) (Q d 285 71 [some (.ref x0), some (.ref x1), some (.ref x2), some (.int x3), some (.int x4), some (.int 1)]) [.ref x1]
   else
    if x4 = 0 then
     ck (gC h x0) 2 <|
     cK (E d 237 [.ref x0, .int 1] h) (Q d 285 59 [some (.ref x0), some (.ref x1), some (.ref x2), some (.int x3), some (.int x4), some (.int 1)]) []
    else
     if (1 : Int32) = 0 then
      ck (gC h x0) 2 <|
      (gR h 520 x0).bind fun y2 =>
       if x4 = 0 then
        ck (gC h y2) 12 <|
        cK (E d 279 [.ref y2, .ref x2, .int 0] h) (Q d 285 96 [some (.ref x0), some (.ref x1), some (.ref x2), none, some (.int x4), none]) []
       else
        ck (gC h y2) 12 <|
        cK (E d 279 [.ref y2, .ref x2, .int (x3 + 1)] h) (Q d 285 96 [some (.ref x0), some (.ref x1), some (.ref x2), none, some (.int x4), none]) []
     else
      cK (E d 349 [.ref x2, .int x3] h) (Q d 285 71 [some (.ref x0), some (.ref x1), some (.ref x2), some (.int x3), some (.int x4), some (.int 1)]) [.ref x1]
  else
   if (0 : Int32) = 0 then
    if (0 : Int32) = 0 then
     ck (gC h x0) 2 <|
     (gR h 520 x0).bind fun y3 =>
      if x4 = 0 then
       ck (gC h y3) 12 <|
       cK (E d 279 [.ref y3, .ref x2, .int 0] h) (Q d 285 96 [some (.ref x0), some (.ref x1), some (.ref x2), none, some (.int x4), none]) []
      else
       ck (gC h y3) 12 <|
       cK (E d 279 [.ref y3, .ref x2, .int (x3 + 1)] h) (Q d 285 96 [some (.ref x0), some (.ref x1), some (.ref x2), none, some (.int x4), none]) []
    else
     cK (E d 349 [.ref x2, .int x3] h) (Q d 285 71 [some (.ref x0), some (.ref x1), some (.ref x2), some (.int x3), some (.int x4), some (.int 0)]) [.ref x1]
   else
    if x4 = 0 then
     ck (gC h x0) 2 <|
     cK (E d 237 [.ref x0, .int 1] h) (Q d 285 59 [some (.ref x0), some (.ref x1), some (.ref x2), some (.int x3), some (.int x4), some (.int 0)]) []
    else
     if (0 : Int32) = 0 then
      ck (gC h x0) 2 <|
      (gR h 520 x0).bind fun y4 =>
       if x4 = 0 then
        ck (gC h y4) 12 <|
        cK (E d 279 [.ref y4, .ref x2, .int 0] h) (Q d 285 96 [some (.ref x0), some (.ref x1), some (.ref x2), none, some (.int x4), none]) []
       else
        ck (gC h y4) 12 <|
        cK (E d 279 [.ref y4, .ref x2, .int (x3 + 1)] h) (Q d 285 96 [some (.ref x0), some (.ref x1), some (.ref x2), none, some (.int x4), none]) []
     else
      cK (E d 349 [.ref x2, .int x3] h) (Q d 285 71 [some (.ref x0), some (.ref x1), some (.ref x2), some (.int x3), some (.int x4), some (.int 0)]) [.ref x1] := by
  rw [← hs.1]
  exact (blkM (fun p => Nat.beq p 59 || Nat.beq p 71 || Nat.beq p 96) 20 34 _ _ _).trans rfl

set_option maxRecDepth 16384 in
theorem t_285_118 {d : Nat} {h : AH} (hs : Sh h) (u0 : Option Value) (u1 : Option Value) (u2 : Option Value) (u3 : Option Value) (u4 : Option Value) (u5 : Option Value) (s0 : Int32) :
    Q d 285 118 [u0, u1, u2, u3, u4, u5] [.int s0] h =
  if s0 = 0 ∨ s0 = 1 then
   some (some (.int s0), h)
  else
   none := by
  rw [← hs.1]
  exact (blkM (fun p => false) 2 118 _ _ _).trans rfl

set_option maxRecDepth 16384 in
theorem t_285_59 {d : Nat} {h : AH} (hs : Sh h) (u0 : Option Value) (u1 : Option Value) (u2 : Option Value) (u3 : Option Value) (u4 : Option Value) (u5 : Option Value) (s0 : Int32) :
    Q d 285 59 [u0, u1, u2, u3, u4, u5] [.int s0] h =
  if s0 = 0 ∨ s0 = 1 then
   some (some (.int s0), h)
  else
   none := by
  rw [← hs.1]
  exact (blkM (fun p => false) 2 59 _ _ _).trans rfl

set_option maxRecDepth 16384 in
theorem t_285_71 {d : Nat} {h : AH} (hs : Sh h) (u0 : Option Value) (u1 : Option Value) (u2 : Option Value) (u3 : Option Value) (u4 : Option Value) (u5 : Option Value) (s0 : Nat) (s1 : Nat) :
    Q d 285 71 [u0, u1, u2, u3, u4, u5] [.ref s1, .ref s0] h =
  (ck (gC h s0) 11 <|
  some (some (.int 1), sR h 2816 s0 (some s1))) := by
  rw [← hs.1]
  exact (blkM (fun p => false) 4 71 _ _ _).trans rfl

set_option maxRecDepth 16384 in
theorem t_285_96 {d : Nat} {h : AH} (hs : Sh h) (x0 : Nat) (x1 : Nat) (x2 : Nat) (x4 : Int32) (u3 : Option Value) (u5 : Option Value) (s0 : Int32) :
    Q d 285 96 [some (.ref x0), some (.ref x1), some (.ref x2), u3, some (.int x4), u5] [.int s0] h =
  Q d 285 10 [some (.ref x0), some (.ref x1), some (.ref x2), some (.int s0), some (.int (x4 + 1)), none] [] h := by
  rw [← hs.1]
  exact (blkM (fun p => Nat.beq p 10) 5 96 _ _ _).trans rfl

/-! 286 PostRoom$Book.takesOffice()Z -/
set_option maxRecDepth 16384 in
theorem t_286 {d : Nat} {h : AH} (hs : Sh h) (x0 : Nat) :
    E (d + 1) 286 [.ref x0] h =
  (ck (gC h x0) 2 <|
  cK (E d 277 [.ref x0] h) (Q d 286 4 [some (.ref x0)]) []) := by
  rw [← hs.1]
  exact ent rfl ((blkM (fun p => Nat.beq p 4) 3 0 _ _ _).trans rfl)

set_option maxRecDepth 16384 in
theorem t_286_4 {d : Nat} {h : AH} (hs : Sh h) (x0 : Nat) (s0 : Int32) :
    Q d 286 4 [some (.ref x0)] [.int s0] h =
  if s0 = 0 then
   some (some (.int 0), h)
  else
   ck (gC h x0) 2 <|
   (gR h 520 x0).bind fun y1 =>
    ck (gC h y1) 12 <|
    ck (gC h x0) 2 <|
    cK (E d 278 [.ref x0, .long (gL h 3078 y1)] h) (Q d 286 18 [some (.ref x0)]) [] := by
  rw [← hs.1]
  exact (blkM (fun p => Nat.beq p 18) 7 4 _ _ _).trans rfl

set_option maxRecDepth 16384 in
theorem t_286_18 {d : Nat} {h : AH} (hs : Sh h) (x0 : Nat) (s0 : Int32) :
    Q d 286 18 [some (.ref x0)] [.int s0] h =
  if s0 = (-1) then
   ck (gC h x0) 2 <|
   cK (E d 237 [.ref x0, .int 2] h) (Q d 286 27 [some (.ref x0)]) []
  else
   some (some (.int 1), h) := by
  rw [← hs.1]
  exact (blkM (fun p => Nat.beq p 27) 6 18 _ _ _).trans rfl

set_option maxRecDepth 16384 in
theorem t_286_27 {d : Nat} {h : AH} (hs : Sh h) (u0 : Option Value) (s0 : Int32) :
    Q d 286 27 [u0] [.int s0] h =
  if s0 = 0 then
   some (some (.int 0), h)
  else
   some (some (.int 1), h) := by
  rw [← hs.1]
  exact (blkM (fun p => false) 5 27 _ _ _).trans rfl

/-! 287 PostRoom$Book.readNumbers(LPostRoom$Street;)Z -/
set_option maxRecDepth 16384 in
theorem t_287 {d : Nat} {h : AH} (hs : Sh h) (x0 : Nat) (x1 : Nat) :
    E (d + 1) 287 [.ref x0, .ref x1] h =
  (ck (gC h x0) 2 <|
  (gR h 520 x0).bind fun y1 =>
   ck (gC h y1) 12 <|
   cK (E d 238 [.ref y1] h) (Q d 287 7 [some (.ref x0), some (.ref x1)]) []) := by
  rw [← hs.1]
  exact ent rfl ((blkM (fun p => Nat.beq p 7) 4 0 _ _ _).trans rfl)

set_option maxRecDepth 16384 in
theorem t_287_7 {d : Nat} {h : AH} (hs : Sh h) (x0 : Nat) (x1 : Nat) :
    Q d 287 7 [some (.ref x0), some (.ref x1)] [] h =
  (ck (gC h x0) 2 <|
  (gR h 520 x0).bind fun y1 =>
   ck (gC h y1) 12 <|
   cK (E d 231 [.ref y1, .ref 3] h) (Q d 287 17 [some (.ref x0), some (.ref x1)]) [.ref x1]) := by
  rw [← hs.1]
  exact (blkM (fun p => Nat.beq p 17) 6 7 _ _ _).trans rfl

set_option maxRecDepth 16384 in
theorem t_287_17 {d : Nat} {h : AH} (hs : Sh h) (x0 : Nat) (x1 : Nat) (s0 : Nat) (s1 : Int32) :
    Q d 287 17 [some (.ref x0), some (.ref x1)] [.int s1, .ref s0] h =
  (ck (gC h s0) 11 <|
  ck (gC h x1) 11 <|
  if gI (sI h 2818 s0 s1) 2818 x1 = (-1) then
   ck (gC h x0) 2 <|
   cK (E d 237 [.ref x0, .int 1] (sI h 2818 s0 s1)) (Q d 287 33 [some (.ref x0), some (.ref x1)]) []
  else
   ck (gC h x1) 11 <|
   if gI (sI h 2818 s0 s1) 2818 x1 = 0 then
    ck (gC h x0) 2 <|
    cK (E d 280 [.ref x0, .int 1, .int 999] (sI h 2818 s0 s1)) (Q d 287 58 [some (.ref x0), some (.ref x1)]) []
   else
    ck (gC h x0) 2 <|
    cK (E d 288 [.ref x0, .ref 4] (sI h 2818 s0 s1)) (Q d 287 47 [some (.ref x0), some (.ref x1)]) []) := by
  rw [← hs.1]
  exact (blkM (fun p => Nat.beq p 33 || Nat.beq p 47 || Nat.beq p 58) 13 17 _ _ _).trans rfl

set_option maxRecDepth 16384 in
theorem t_287_33 {d : Nat} {h : AH} (hs : Sh h) (u0 : Option Value) (u1 : Option Value) (s0 : Int32) :
    Q d 287 33 [u0, u1] [.int s0] h =
  if s0 = 0 ∨ s0 = 1 then
   some (some (.int s0), h)
  else
   none := by
  rw [← hs.1]
  exact (blkM (fun p => false) 2 33 _ _ _).trans rfl

set_option maxRecDepth 16384 in
theorem t_287_47 {d : Nat} {h : AH} (hs : Sh h) (x0 : Nat) (x1 : Nat) (s0 : Int32) :
    Q d 287 47 [some (.ref x0), some (.ref x1)] [.int s0] h =
  if s0 = 0 then
   some (some (.int 0), h)
  else
   ck (gC h x0) 2 <|
   cK (E d 280 [.ref x0, .int 1, .int 999] h) (Q d 287 58 [some (.ref x0), some (.ref x1)]) [] := by
  rw [← hs.1]
  exact (blkM (fun p => Nat.beq p 58) 6 47 _ _ _).trans rfl

set_option maxRecDepth 16384 in
theorem t_287_58 {d : Nat} {h : AH} (hs : Sh h) (x0 : Nat) (x1 : Nat) (s0 : Int32) :
    Q d 287 58 [some (.ref x0), some (.ref x1)] [.int s0] h =
  if s0 = 0 then
   some (some (.int 0), h)
  else
   ck (gC h x0) 2 <|
   (gR h 520 x0).bind fun y1 =>
    ck (gC h y1) 12 <|
    ck (gC h x1) 11 <|
    ck (gC h x0) 2 <|
    cK (E d 288 [.ref x0, .ref 5] (sI h 2819 x1 (gI h 3077 y1))) (Q d 287 80 [some (.ref x0), some (.ref x1)]) [] := by
  rw [← hs.1]
  exact (blkM (fun p => Nat.beq p 80) 10 58 _ _ _).trans rfl

set_option maxRecDepth 16384 in
theorem t_287_80 {d : Nat} {h : AH} (hs : Sh h) (x0 : Nat) (x1 : Nat) (s0 : Int32) :
    Q d 287 80 [some (.ref x0), some (.ref x1)] [.int s0] h =
  if s0 = 0 then
   some (some (.int 0), h)
  else
   ck (gC h x1) 11 <|
   ck (gC h x0) 2 <|
   cK (E d 280 [.ref x0, .int (gI h 2819 x1), .int 999] h) (Q d 287 94 [some (.ref x0), some (.ref x1)]) [] := by
  rw [← hs.1]
  exact (blkM (fun p => Nat.beq p 94) 7 80 _ _ _).trans rfl

set_option maxRecDepth 16384 in
theorem t_287_94 {d : Nat} {h : AH} (hs : Sh h) (x0 : Nat) (x1 : Nat) (s0 : Int32) :
    Q d 287 94 [some (.ref x0), some (.ref x1)] [.int s0] h =
  if s0 = 0 then
   some (some (.int 0), h)
  else
   ck (gC h x0) 2 <|
   (gR h 520 x0).bind fun y1 =>
    ck (gC h y1) 12 <|
    ck (gC h x1) 11 <|
    some (some (.int 1), sI h 2820 x1 (gI h 3077 y1)) := by
  rw [← hs.1]
  exact (blkM (fun p => false) 9 94 _ _ _).trans rfl

/-! 288 PostRoom$Book.takesWord(Ljava/lang/String;)Z -/
set_option maxRecDepth 16384 in
theorem t_288 {d : Nat} {h : AH} (hs : Sh h) (x0 : Nat) (x1 : Nat) :
    E (d + 1) 288 [.ref x0, .ref x1] h =
  (ck (gC h x0) 2 <|
  (gR h 520 x0).bind fun y1 =>
   ck (gC h y1) 12 <|
   cK (E d 238 [.ref y1] h) (Q d 288 7 [some (.ref x0), some (.ref x1)]) []) := by
  rw [← hs.1]
  exact ent rfl ((blkM (fun p => Nat.beq p 7) 4 0 _ _ _).trans rfl)

set_option maxRecDepth 16384 in
theorem t_288_7 {d : Nat} {h : AH} (hs : Sh h) (x0 : Nat) (x1 : Nat) :
    Q d 288 7 [some (.ref x0), some (.ref x1)] [] h =
  (ck (gC h x0) 2 <|
  (gR h 520 x0).bind fun y1 =>
   ck (gC h y1) 12 <|
   cK (E d 231 [.ref y1, .ref x1] h) (Q d 288 15 [some (.ref x0), some (.ref x1)]) []) := by
  rw [← hs.1]
  exact (blkM (fun p => Nat.beq p 15) 5 7 _ _ _).trans rfl

set_option maxRecDepth 16384 in
theorem t_288_15 {d : Nat} {h : AH} (hs : Sh h) (x0 : Nat) (u1 : Option Value) (s0 : Int32) :
    Q d 288 15 [some (.ref x0), u1] [.int s0] h =
  if s0 = 0 then
   some (some (.int 1), h)
  else
   ck (gC h x0) 2 <|
   cK (E d 237 [.ref x0, .int 1] h) (Q d 288 23 [some (.ref x0), u1]) [] := by
  rw [← hs.1]
  exact (blkM (fun p => Nat.beq p 23) 5 15 _ _ _).trans rfl

set_option maxRecDepth 16384 in
theorem t_288_23 {d : Nat} {h : AH} (hs : Sh h) (u0 : Option Value) (u1 : Option Value) (s0 : Int32) :
    Q d 288 23 [u0, u1] [.int s0] h =
  if s0 = 0 then
   some (some (.int 0), h)
  else
   some (some (.int 1), h) := by
  rw [← hs.1]
  exact (blkM (fun p => false) 5 23 _ _ _).trans rfl

/-! 289 PostRoom$Service.<init>()V -/
set_option maxRecDepth 16384 in
theorem t_289 {d : Nat} {h : AH} (hs : Sh h) (x0 : Nat) :
    E (d + 1) 289 [.ref x0] h =
  Q d 289 9 [some (.ref x0)] [.ref (gN h), .ref x0] (nwA h 60 8) := by
  rw [← hs.1]
  exact ent rfl ((blkM (fun p => Nat.beq p 9) 7 0 _ _ _).trans rfl)

set_option maxRecDepth 16384 in
theorem t_289_9 {d : Nat} {h : AH} (hs : Sh h) (x0 : Nat) (s0 : Nat) (s1 : Nat) :
    Q d 289 9 [some (.ref x0)] [.ref s1, .ref s0] h =
  (ck (gC h s0) 10 <|
  Q d 289 17 [some (.ref x0)] [.ref (gN h), .ref x0] (nwA (sR h 2564 s0 (some s1)) 60 8)) := by
  rw [← hs.1]
  exact (blkM (fun p => Nat.beq p 17) 6 9 _ _ _).trans rfl

set_option maxRecDepth 16384 in
theorem t_289_17 {d : Nat} {h : AH} (hs : Sh h) (x0 : Nat) (s0 : Nat) (s1 : Nat) :
    Q d 289 17 [some (.ref x0)] [.ref s1, .ref s0] h =
  (ck (gC h s0) 10 <|
  Q d 289 25 [some (.ref x0)] [.ref (gN h), .ref x0] (nwA (sR h 2565 s0 (some s1)) 60 8)) := by
  rw [← hs.1]
  exact (blkM (fun p => Nat.beq p 25) 6 17 _ _ _).trans rfl

set_option maxRecDepth 16384 in
theorem t_289_25 {d : Nat} {h : AH} (hs : Sh h) (x0 : Nat) (s0 : Nat) (s1 : Nat) :
    Q d 289 25 [some (.ref x0)] [.ref s1, .ref s0] h =
  (ck (gC h s0) 10 <|
  Q d 289 33 [some (.ref x0)] [.ref (gN h), .ref x0] (nwA (sR h 2566 s0 (some s1)) 60 8)) := by
  rw [← hs.1]
  exact (blkM (fun p => Nat.beq p 33) 6 25 _ _ _).trans rfl

set_option maxRecDepth 16384 in
theorem t_289_33 {d : Nat} {h : AH} (hs : Sh h) (u0 : Option Value) (s0 : Nat) (s1 : Nat) :
    Q d 289 33 [u0] [.ref s1, .ref s0] h =
  (ck (gC h s0) 10 <|
  some (none, sR h 2567 s0 (some s1))) := by
  rw [← hs.1]
  exact (blkM (fun p => false) 3 33 _ _ _).trans rfl

/-! 290 PostRoom$Book.hasServiceNamed(J)Z -/
set_option maxRecDepth 16384 in
theorem t_290 {d : Nat} {h : AH} (hs : Sh h) (x0 : Nat) (x1 : Int64) :
    E (d + 1) 290 [.ref x0, .long x1] h =
  Q d 290 2 [some (.ref x0), some (.long x1), none, some (.int 0)] [] h := by
  rw [← hs.1]
  exact ent rfl ((blkM (fun p => Nat.beq p 2) 4 0 _ _ _).trans rfl)

set_option maxRecDepth 16384 in
theorem t_290_2 {d : Nat} {h : AH} (hs : Sh h) (x0 : Nat) (x1 : Int64) (x3 : Int32) :
    Q d 290 2 [some (.ref x0), some (.long x1), none, some (.int x3)] [] h =
  (ck (gC h x0) 2 <|
  (gR h 514 x0).bind fun y1 =>
   ck (gC h y1) 1 <|
   cK (E d 213 [.ref y1] h) (Q d 290 10 [some (.ref x0), some (.long x1), none, some (.int x3)]) [.int x3]) := by
  rw [← hs.1]
  exact (blkM (fun p => Nat.beq p 10) 5 2 _ _ _).trans rfl

set_option maxRecDepth 16384 in
theorem t_290_10 {d : Nat} {h : AH} (hs : Sh h) (x0 : Nat) (x1 : Int64) (x3 : Int32) (s0 : Int32) (s1 : Int32) :
    Q d 290 10 [some (.ref x0), some (.long x1), none, some (.int x3)] [.int s1, .int s0] h =
  if s0 < s1 then
   ck (gC h x0) 2 <|
   (gR h 514 x0).bind fun y1 =>
    ck (gC h y1) 1 <|
    cK (E d 212 [.ref y1, .int x3] h) (Q d 290 21 [some (.ref x0), some (.long x1), none, some (.int x3)]) []
  else
   some (some (.int 0), h) := by
  rw [← hs.1]
  exact (blkM (fun p => Nat.beq p 21) 6 10 _ _ _).trans rfl

set_option maxRecDepth 16384 in
theorem t_290_21 {d : Nat} {h : AH} (hs : Sh h) (x0 : Nat) (x1 : Int64) (x3 : Int32) (s0 : Nat) :
    Q d 290 21 [some (.ref x0), some (.long x1), none, some (.int x3)] [.ref s0] h =
  (ck (gC h s0) 10 <|
  ck (gC h s0) 10 <|
  if lg_cmp (gL h 2560 s0) x1 = 0 then
   some (some (.int 1), h)
  else
   Q d 290 2 [some (.ref x0), some (.long x1), none, some (.int (x3 + 1))] [] h) := by
  rw [← hs.1]
  exact (blkM (fun p => Nat.beq p 2) 9 21 _ _ _).trans rfl

