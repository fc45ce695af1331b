/-! ===== THE METHODS, PIECE BY PIECE: 10 (made by wip/gen/gen40.py) ===== -/
/-! 373 PostRoom$Machine.doBlock(I)V -/
set_option maxRecDepth 16384 in
theorem t_373 {d : Nat} {h : AH} (hs : Sh h) (x1 : Int32) :
    E (d + 1) 373 [.ref 175, .int x1] h =
  (gR h 1544 175).bind fun y1 =>
   ck (gC h y1) 9 <|
   cK (E d 330 [.ref y1, .int (gI h 1545 175)] h) (Q d 373 11 [some (.ref 175), some (.int x1), none, none, none]) [] := by
  rw [← hs.1]
  exact ent rfl ((blkM (fun p => Nat.beq p 11) 6 0 _ _ _).trans rfl)

set_option maxRecDepth 16384 in
theorem t_373_11 {d : Nat} {h : AH} (hs : Sh h) (x1 : Int32) (u2 : Option Value) (u3 : Option Value) (u4 : Option Value) (s0 : Int32) :
    Q d 373 11 [some (.ref 175), some (.int x1), u2, u3, u4] [.int s0] h =
  cK (E d 383 [.ref 175, .int x1] (sI h 1545 175 ((gI h 1545 175) + 1))) (Q d 373 27 [some (.ref 175), some (.int x1), some (.int s0), u3, u4]) [] := by
  rw [← hs.1]
  exact (blkM (fun p => Nat.beq p 27) 11 11 _ _ _).trans rfl

set_option maxRecDepth 16384 in
theorem t_373_27 {d : Nat} {h : AH} (hs : Sh h) (x1 : Int32) (x2 : Int32) (u3 : Option Value) (u4 : Option Value) (s0 : Int32) :
    Q d 373 27 [some (.ref 175), some (.int x1), some (.int x2), u3, u4] [.int s0] h =
  if s0 = 0 then
   Q d 373 39 [some (.ref 175), some (.int x1), some (.int x2), some (.int 1), some (.int 0)] [] h
  else
   Q d 373 39 [some (.ref 175), some (.int x1), some (.int x2), some (.int 0), some (.int 0)] [] h := by
  rw [← hs.1]
  exact (blkM (fun p => Nat.beq p 39) 8 27 _ _ _).trans rfl

set_option maxRecDepth 16384 in
theorem t_373_39 {d : Nat} {h : AH} (hs : Sh h) (x1 : Int32) (x2 : Int32) (x3 : Int32) (x4 : Int32) :
    Q d 373 39 [some (.ref 175), some (.int x1), some (.int x2), some (.int x3), some (.int x4)] [] h =
  if x4 < 4000 then
   if x3 = 0 then
    some (none, sI h 1545 175 (x2 + 1))
   else
    cK (E d 362 [.ref 175] h) (Q d 373 55 [some (.ref 175), some (.int x1), some (.int x2), some (.int x3), some (.int x4)]) []
  else
   some (none, sI h 1545 175 (x2 + 1)) := by
  rw [← hs.1]
  exact (blkM (fun p => Nat.beq p 55) 12 39 _ _ _).trans rfl

set_option maxRecDepth 16384 in
theorem t_373_55 {d : Nat} {h : AH} (hs : Sh h) (x1 : Int32) (x2 : Int32) (x3 : Int32) (x4 : Int32) (s0 : Int32) :
    Q d 373 55 [some (.ref 175), some (.int x1), some (.int x2), some (.int x3), some (.int x4)] [.int s0] h =
  if s0 = 0 then
   some (none, sI h 1545 175 (x2 + 1))
  else
   if gI h 1545 175 < x2 then
    cK (E d 266 [.ref 175, .int (x1 + 1)] h) (Q d 373 73 [some (.ref 175), some (.int x1), some (.int x2), some (.int x3), some (.int x4)]) []
   else
    some (none, sI h 1545 175 (x2 + 1)) := by
  rw [← hs.1]
  exact (blkM (fun p => Nat.beq p 73) 12 55 _ _ _).trans rfl

set_option maxRecDepth 16384 in
theorem t_373_73 {d : Nat} {h : AH} (hs : Sh h) (x1 : Int32) (x2 : Int32) (x3 : Int32) (x4 : Int32) :
    Q d 373 73 [some (.ref 175), some (.int x1), some (.int x2), some (.int x3), some (.int x4)] [] h =
  Q d 373 39 [some (.ref 175), some (.int x1), some (.int x2), some (.int x3), some (.int (x4 + 1))] [] h := by
  rw [← hs.1]
  exact (blkM (fun p => Nat.beq p 39) 4 73 _ _ _).trans rfl

/-! 374 PostRoom$Machine.passBlock()V -/
set_option maxRecDepth 16384 in
theorem t_374 {d : Nat} {h : AH} (hs : Sh h)  :
    E (d + 1) 374 [.ref 175] h =
  (gR h 1544 175).bind fun y1 =>
   ck (gC h y1) 9 <|
   cK (E d 330 [.ref y1, .int (gI h 1545 175)] h) (Q d 374 12 [some (.ref 175)]) [.ref 175] := by
  rw [← hs.1]
  exact ent rfl ((blkM (fun p => Nat.beq p 12) 7 0 _ _ _).trans rfl)

set_option maxRecDepth 16384 in
theorem t_374_12 {d : Nat} {h : AH} (hs : Sh h) (u0 : Option Value) (s0 : Nat) (s1 : Int32) :
    Q d 374 12 [u0] [.int s1, .ref s0] h =
  (ck (gC h s0) 6 <|
  some (none, sI h 1545 s0 (s1 + 1))) := by
  rw [← hs.1]
  exact (blkM (fun p => false) 5 12 _ _ _).trans rfl

/-! 375 PostRoom$Machine.doAlways(I)V -/
set_option maxRecDepth 16384 in
theorem t_375 {d : Nat} {h : AH} (hs : Sh h) (x1 : Int32) :
    E (d + 1) 375 [.ref 175, .int x1] h =
  cK (E d 373 [.ref 175, .int x1] (sI h 1547 175 0)) (Q d 375 20 [some (.ref 175), some (.int x1), some (.int (gI h 1547 175)), some (.long (gL h 1548 175)), none]) [] := by
  rw [← hs.1]
  exact ent rfl ((blkM (fun p => Nat.beq p 20) 13 0 _ _ _).trans rfl)

set_option maxRecDepth 16384 in
theorem t_375_20 {d : Nat} {h : AH} (hs : Sh h) (x2 : Int32) (x3 : Int64) (u1 : Option Value) :
    Q d 375 20 [some (.ref 175), u1, some (.int x2), some (.long x3), none] [] h =
  cK (E d 362 [.ref 175] h) (Q d 375 24 [some (.ref 175), u1, some (.int x2), some (.long x3), none]) [] := by
  rw [← hs.1]
  exact (blkM (fun p => Nat.beq p 24) 3 20 _ _ _).trans rfl

set_option maxRecDepth 16384 in
theorem t_375_24 {d : Nat} {h : AH} (hs : Sh h) (x2 : Int32) (x3 : Int64) (u1 : Option Value) (s0 : Int32) :
    Q d 375 24 [some (.ref 175), u1, some (.int x2), some (.long x3), none] [.int s0] h =
  if s0 = 0 then
   some (none, h)
  else
   some (none, sL (sI h 1547 175 x2) 1548 175 x3) := by
  rw [← hs.1]
  exact (blkM (fun p => false) 9 24 _ _ _).trans rfl

/-! 376 java/lang/Math.max(JJ)J -/
set_option maxRecDepth 16384 in
theorem t_376 {d : Nat} {h : AH} (hs : Sh h) (x0 : Int64) (x2 : Int64) :
    E (d + 1) 376 [.long x0, .long x2] h =
  if lg_cmp x0 x2 < 0 then
   some (some (.long x2), h)
  else
   some (some (.long x0), h) := by
  rw [← hs.1]
  exact ent rfl ((blkM (fun p => false) 8 0 _ _ _).trans rfl)

/-! 377 java/util/ArrayList.grow()[Ljava/lang/Object; -/
set_option maxRecDepth 16384 in
theorem t_377 {d : Nat} {h : AH} (hs : Sh h) (x0 : Nat) :
    E (d + 1) 377 [.ref x0] h =
  (ck (gC h x0) 1 <|
  ck (gC h x0) 1 <|
  cK (E d 389 [.ref x0, .int ((gI h 258 x0) + 1)] h) (Q d 377 10 [some (.ref x0)]) []) := by
  rw [← hs.1]
  exact ent rfl ((blkM (fun p => Nat.beq p 10) 7 0 _ _ _).trans rfl)

set_option maxRecDepth 16384 in
theorem t_377_10 {d : Nat} {h : AH} (hs : Sh h) (u0 : Option Value) (s0 : Nat) :
    Q d 377 10 [u0] [.ref s0] h =
  some (some (.ref s0), h) := by
  rw [← hs.1]
  exact (blkM (fun p => false) 2 10 _ _ _).trans rfl

/-! 378 java/lang/StringLatin1.indexOf([BIII)I -/
set_option maxRecDepth 16384 in
theorem t_378 {d : Nat} {h : AH} (hs : Sh h) (x0 : Nat) (x1 : Int32) (x2 : Int32) (x3 : Int32) :
    E (d + 1) 378 [.ref x0, .int x1, .int x2, .int x3] h =
  cK (E d 390 [.int x1] h) (Q d 378 4 [some (.ref x0), some (.int x1), some (.int x2), some (.int x3)]) [] := by
  rw [← hs.1]
  exact ent rfl ((blkM (fun p => Nat.beq p 4) 3 0 _ _ _).trans rfl)

set_option maxRecDepth 16384 in
theorem t_378_4 {d : Nat} {h : AH} (hs : Sh h) (x0 : Nat) (x1 : Int32) (x2 : Int32) (x3 : Int32) (s0 : Int32) :
    Q d 378 4 [some (.ref x0), some (.int x1), some (.int x2), some (.int x3)] [.int s0] h =
  if s0 = 0 then
   some (some (.int (-1)), h)
  else
   cK (E d 391 [.int x2, .int 0] h) (Q d 378 14 [some (.ref x0), some (.int x1), some (.int x2), some (.int x3)]) [] := by
  rw [← hs.1]
  exact (blkM (fun p => Nat.beq p 14) 5 4 _ _ _).trans rfl

set_option maxRecDepth 16384 in
theorem t_378_14 {d : Nat} {h : AH} (hs : Sh h) (x0 : Nat) (x1 : Int32) (x3 : Int32) (u2 : Option Value) (s0 : Int32) :
    Q d 378 14 [some (.ref x0), some (.int x1), u2, some (.int x3)] [.int s0] h =
  if 60 ≤ gC h x0 ∧ gC h x0 ≤ 66 then
   cK (E d 302 [.int x3, .int (nI (gK h x0))] h) (Q d 378 21 [some (.ref x0), some (.int x1), some (.int s0), some (.int x3)]) []
  else
   none := by
  rw [← hs.1]
  exact (blkM (fun p => Nat.beq p 21) 6 14 _ _ _).trans rfl

set_option maxRecDepth 16384 in
theorem t_378_21 {d : Nat} {h : AH} (hs : Sh h) (x0 : Nat) (x1 : Int32) (x2 : Int32) (u3 : Option Value) (s0 : Int32) :
    Q d 378 21 [some (.ref x0), some (.int x1), some (.int x2), u3] [.int s0] h =
  if x2 < s0 then
   cK (E d 392 [.ref x0, .int x1, .int x2, .int s0] h) (Q d 378 36 [some (.ref x0), some (.int x1), some (.int x2), some (.int s0)]) []
  else
   some (some (.int (-1)), h) := by
  rw [← hs.1]
  exact (blkM (fun p => Nat.beq p 36) 10 21 _ _ _).trans rfl

set_option maxRecDepth 16384 in
theorem t_378_36 {d : Nat} {h : AH} (hs : Sh h) (u0 : Option Value) (u1 : Option Value) (u2 : Option Value) (u3 : Option Value) (s0 : Int32) :
    Q d 378 36 [u0, u1, u2, u3] [.int s0] h =
  some (some (.int s0), h) := by
  rw [← hs.1]
  exact (blkM (fun p => false) 2 36 _ _ _).trans rfl

/-! 379 PostRoom$Finder.fillLine([IIII)V -/
set_option maxRecDepth 16384 in
theorem t_379 {d : Nat} {h : AH} (hs : Sh h) (x1 : Nat) (x2 : Int32) (x3 : Int32) (x4 : Int32) :
    E (d + 1) 379 [.ref 103, .ref x1, .int x2, .int x3, .int x4] h =
  cK (E d 391 [.int 1, .int (x2 - 3)] h) (Q d 379 7 [some (.ref 103), some (.ref x1), some (.int x2), some (.int x3), some (.int x4), none, none, none, none, none]) [] := by
  rw [← hs.1]
  exact ent rfl ((blkM (fun p => Nat.beq p 7) 6 0 _ _ _).trans rfl)

set_option maxRecDepth 16384 in
theorem t_379_7 {d : Nat} {h : AH} (hs : Sh h) (x1 : Nat) (x2 : Int32) (x3 : Int32) (x4 : Int32) (u5 : Option Value) (u6 : Option Value) (u7 : Option Value) (u8 : Option Value) (u9 : Option Value) (s0 : Int32) :
    Q d 379 7 [some (.ref 103), some (.ref x1), some (.int x2), some (.int x3), some (.int x4), u5, u6, u7, u8, u9] [.int s0] h =
  cK (E d 302 [.int x4, .int (x2 + 3)] h) (Q d 379 17 [some (.ref 103), some (.ref x1), some (.int x2), some (.int x3), some (.int x4), some (.int s0), u6, u7, u8, u9]) [] := by
  rw [← hs.1]
  exact (blkM (fun p => Nat.beq p 17) 7 7 _ _ _).trans rfl

set_option maxRecDepth 16384 in
theorem t_379_17 {d : Nat} {h : AH} (hs : Sh h) (x1 : Nat) (x2 : Int32) (x3 : Int32) (x4 : Int32) (x5 : Int32) (u6 : Option Value) (u7 : Option Value) (u8 : Option Value) (u9 : Option Value) (s0 : Int32) :
    Q d 379 17 [some (.ref 103), some (.ref x1), some (.int x2), some (.int x3), some (.int x4), some (.int x5), u6, u7, u8, u9] [.int s0] h =
  (gd x2 48 <|
  (gO h 107 (ix x2)).bind fun y1 =>
   if x5 = 1 then
    cw (gC h y1) 60 y1 <|
    gd (x5 - 1) (gK h y1) <|
    Q d 379 46 [some (.ref 103), some (.ref x1), some (.int x2), some (.int x3), some (.int x4), none, some (.int s0), some (.int x5), none, none] [] (sA h y1 (ix (x5 - 1)) x2)
   else
    cw (gC h y1) 60 y1 <|
    gd (x5 - 1) (gK h y1) <|
    Q d 379 46 [some (.ref 103), some (.ref x1), some (.int x2), some (.int x3), some (.int x4), none, some (.int s0), some (.int x5), none, none] [] (sA h y1 (ix (x5 - 1)) 99)) := by
  rw [← hs.1]
  exact (blkM (fun p => Nat.beq p 46) 18 17 _ _ _).trans rfl

set_option maxRecDepth 16384 in
theorem t_379_46 {d : Nat} {h : AH} (hs : Sh h) (x1 : Nat) (x2 : Int32) (x3 : Int32) (x4 : Int32) (x6 : Int32) (x7 : Int32) :
    Q d 379 46 [some (.ref 103), some (.ref x1), some (.int x2), some (.int x3), some (.int x4), none, some (.int x6), some (.int x7), none, none] [] h =
  if x6 < x7 then
   if x6 < x4 then
    gd x2 48 <|
    (gO h 107 (ix x2)).bind fun y1 =>
     cw (gC h y1) 60 y1 <|
     gd (x6 + 1) (gK h y1) <|
     some (none, sA h y1 (ix (x6 + 1)) 99)
   else
    some (none, h)
  else
   ck (gC h x1) 60 <|
   gd (x2 - 1) (gK h x1) <|
   gd ((x3 + x7) - 1) 613 <|
   if gA h x1 (ix (x2 - 1)) = gA h 104 (ix ((x3 + x7) - 1)) then
    gd (x2 - 1) 48 <|
    (gO h 107 (ix (x2 - 1))).bind fun y2 =>
     ck (gC h y2) 60 <|
     gd (x7 - 1) (gK h y2) <|
     if (1 : Int32) = 0 then
      gd (x2 - 1) 48 <|
      (gO h 107 (ix (x2 - 1))).bind fun y3 =>
       ck (gC h y3) 60 <|
       gd x7 (gK h y3) <|
       gd x2 48 <|
       (gO h 107 (ix x2)).bind fun y4 =>
        ck (gC h y4) 60 <|
        gd (x7 - 1) (gK h y4) <|
        cK (E d 302 [.int (gA h y3 (ix x7)), .int (gA h y4 (ix (x7 - 1)))] h) (Q d 379 132 [some (.ref 103), some (.ref x1), some (.int x2), some (.int x3), some (.int x4), none, some (.int x6), some (.int x7), none, some (.int ((gA h y2 (ix (x7 - 1))) + 1))]) [.int ((gA h y2 (ix (x7 - 1))) + 1)]
     else
      gd (x2 - 1) 48 <|
      (gO h 107 (ix (x2 - 1))).bind fun y5 =>
       ck (gC h y5) 60 <|
       gd x7 (gK h y5) <|
       gd x2 48 <|
       (gO h 107 (ix x2)).bind fun y6 =>
        ck (gC h y6) 60 <|
        gd (x7 - 1) (gK h y6) <|
        cK (E d 302 [.int (gA h y5 (ix x7)), .int (gA h y6 (ix (x7 - 1)))] h) (Q d 379 132 [some (.ref 103), some (.ref x1), some (.int x2), some (.int x3), some (.int x4), none, some (.int x6), some (.int x7), none, some (.int ((gA h y2 (ix (x7 - 1))) + 0))]) [.int ((gA h y2 (ix (x7 - 1))) + 0)]
   else
    gd (x2 - 1) 48 <|
    (gO h 107 (ix (x2 - 1))).bind fun y7 =>
     ck (gC h y7) 60 <|
     gd (x7 - 1) (gK h y7) <|
     if (0 : Int32) = 0 then
      gd (x2 - 1) 48 <|
      (gO h 107 (ix (x2 - 1))).bind fun y8 =>
       ck (gC h y8) 60 <|
       gd x7 (gK h y8) <|
       gd x2 48 <|
       (gO h 107 (ix x2)).bind fun y9 =>
        ck (gC h y9) 60 <|
        gd (x7 - 1) (gK h y9) <|
        cK (E d 302 [.int (gA h y8 (ix x7)), .int (gA h y9 (ix (x7 - 1)))] h) (Q d 379 132 [some (.ref 103), some (.ref x1), some (.int x2), some (.int x3), some (.int x4), none, some (.int x6), some (.int x7), none, some (.int ((gA h y7 (ix (x7 - 1))) + 1))]) [.int ((gA h y7 (ix (x7 - 1))) + 1)]
     else
      gd (x2 - 1) 48 <|
      (gO h 107 (ix (x2 - 1))).bind fun y10 =>
       ck (gC h y10) 60 <|
       gd x7 (gK h y10) <|
       gd x2 48 <|
       (gO h 107 (ix x2)).bind fun y11 =>
        ck (gC h y11) 60 <|
        gd (x7 - 1) (gK h y11) <|
        cK (E d 302 [.int (gA h y10 (ix x7)), .int (gA h y11 (ix (x7 - 1)))] h) (Q d 379 132 [some (.ref 103), some (.ref x1), some (.int x2), some (.int x3), some (.int x4), none, some (.int x6), some (.int x7), none, some (.int ((gA h y7 (ix (x7 - 1))) + 0))]) [.int ((gA h y7 (ix (x7 - 1))) + 0)] := by
  rw [← hs.1]
  exact (blkM (fun p => Nat.beq p 132) 55 46 _ _ _).trans rfl

set_option maxRecDepth 16384 in
theorem t_379_132 {d : Nat} {h : AH} (hs : Sh h) (x1 : Nat) (x2 : Int32) (x3 : Int32) (x4 : Int32) (x6 : Int32) (x7 : Int32) (u5 : Option Value) (u8 : Option Value) (u9 : Option Value) (s0 : Int32) (s1 : Int32) :
    Q d 379 132 [some (.ref 103), some (.ref x1), some (.int x2), some (.int x3), some (.int x4), u5, some (.int x6), some (.int x7), u8, u9] [.int s1, .int s0] h =
  cK (E d 302 [.int s0, .int (s1 + 1)] h) (Q d 379 137 [some (.ref 103), some (.ref x1), some (.int x2), some (.int x3), some (.int x4), u5, some (.int x6), some (.int x7), u8, u9]) [] := by
  rw [← hs.1]
  exact (blkM (fun p => Nat.beq p 137) 4 132 _ _ _).trans rfl

set_option maxRecDepth 16384 in
theorem t_379_137 {d : Nat} {h : AH} (hs : Sh h) (x1 : Nat) (x2 : Int32) (x3 : Int32) (x4 : Int32) (x6 : Int32) (x7 : Int32) (u5 : Option Value) (u8 : Option Value) (u9 : Option Value) (s0 : Int32) :
    Q d 379 137 [some (.ref 103), some (.ref x1), some (.int x2), some (.int x3), some (.int x4), u5, some (.int x6), some (.int x7), u8, u9] [.int s0] h =
  if (1 : Int32) < x2 then
   if (1 : Int32) < x7 then
    ck (gC h x1) 60 <|
    gd (x2 - 1) (gK h x1) <|
    gd ((x3 + x7) - 2) 613 <|
    if gA h x1 (ix (x2 - 1)) = gA h 104 (ix ((x3 + x7) - 2)) then
     ck (gC h x1) 60 <|
     gd (x2 - 2) (gK h x1) <|
     gd ((x3 + x7) - 1) 613 <|
     if gA h x1 (ix (x2 - 2)) = gA h 104 (ix ((x3 + x7) - 1)) then
      gd (x2 - 2) 48 <|
      (gO h 107 (ix (x2 - 2))).bind fun y1 =>
       ck (gC h y1) 60 <|
       gd (x7 - 2) (gK h y1) <|
       cK (E d 302 [.int s0, .int ((gA h y1 (ix (x7 - 2))) + 1)] h) (Q d 379 208 [some (.ref 103), some (.ref x1), some (.int x2), some (.int x3), some (.int x4), u5, some (.int x6), some (.int x7), klV u8, some (.int s0)]) []
     else
      gd x2 48 <|
      (gO h 107 (ix x2)).bind fun y2 =>
       cw (gC h y2) 60 y2 <|
       gd x7 (gK h y2) <|
       Q d 379 46 [some (.ref 103), some (.ref x1), some (.int x2), some (.int x3), some (.int x4), none, some (.int x6), some (.int (x7 + 1)), none, none] [] (sA h y2 (ix x7) s0)
    else
     gd x2 48 <|
     (gO h 107 (ix x2)).bind fun y3 =>
      cw (gC h y3) 60 y3 <|
      gd x7 (gK h y3) <|
      Q d 379 46 [some (.ref 103), some (.ref x1), some (.int x2), some (.int x3), some (.int x4), none, some (.int x6), some (.int (x7 + 1)), none, none] [] (sA h y3 (ix x7) s0)
   else
    gd x2 48 <|
    (gO h 107 (ix x2)).bind fun y4 =>
     cw (gC h y4) 60 y4 <|
     gd x7 (gK h y4) <|
     Q d 379 46 [some (.ref 103), some (.ref x1), some (.int x2), some (.int x3), some (.int x4), none, some (.int x6), some (.int (x7 + 1)), none, none] [] (sA h y4 (ix x7) s0)
  else
   gd x2 48 <|
   (gO h 107 (ix x2)).bind fun y5 =>
    cw (gC h y5) 60 y5 <|
    gd x7 (gK h y5) <|
    Q d 379 46 [some (.ref 103), some (.ref x1), some (.int x2), some (.int x3), some (.int x4), none, some (.int x6), some (.int (x7 + 1)), none, none] [] (sA h y5 (ix x7) s0) := by
  rw [← hs.1]
  exact (blkM (fun p => Nat.beq p 46 || Nat.beq p 208) 50 137 _ _ _).trans rfl

set_option maxRecDepth 16384 in
theorem t_379_208 {d : Nat} {h : AH} (hs : Sh h) (x1 : Nat) (x2 : Int32) (x3 : Int32) (x4 : Int32) (x6 : Int32) (x7 : Int32) (u5 : Option Value) (u8 : Option Value) (u9 : Option Value) (s0 : Int32) :
    Q d 379 208 [some (.ref 103), some (.ref x1), some (.int x2), some (.int x3), some (.int x4), u5, some (.int x6), some (.int x7), u8, u9] [.int s0] h =
  (gd x2 48 <|
  (gO h 107 (ix x2)).bind fun y1 =>
   cw (gC h y1) 60 y1 <|
   gd x7 (gK h y1) <|
   Q d 379 46 [some (.ref 103), some (.ref x1), some (.int x2), some (.int x3), some (.int x4), none, some (.int x6), some (.int (x7 + 1)), none, none] [] (sA h y1 (ix x7) s0)) := by
  rw [← hs.1]
  exact (blkM (fun p => Nat.beq p 46) 12 208 _ _ _).trans rfl

/-! 380 PostRoom$Script.readProduct(I)Z -/
set_option maxRecDepth 16384 in
theorem t_380 {d : Nat} {h : AH} (hs : Sh h) (x0 : Nat) (x1 : Int32) :
    E (d + 1) 380 [.ref x0, .int x1] h =
  (ck (gC h x0) 9 <|
  cK (E d 358 [.ref x0, .int x1] h) (Q d 380 5 [some (.ref x0), some (.int x1), none]) []) := by
  rw [← hs.1]
  exact ent rfl ((blkM (fun p => Nat.beq p 5) 4 0 _ _ _).trans rfl)

set_option maxRecDepth 16384 in
theorem t_380_5 {d : Nat} {h : AH} (hs : Sh h) (x0 : Nat) (x1 : Int32) (u2 : Option Value) (s0 : Int32) :
    Q d 380 5 [some (.ref x0), some (.int x1), u2] [.int s0] h =
  if s0 = 0 then
   some (some (.int 0), h)
  else
   Q d 380 12 [some (.ref x0), some (.int x1), some (.int 0)] [] h := by
  rw [← hs.1]
  exact (blkM (fun p => Nat.beq p 12) 5 5 _ _ _).trans rfl

set_option maxRecDepth 16384 in
theorem t_380_12 {d : Nat} {h : AH} (hs : Sh h) (x0 : Nat) (x1 : Int32) (x2 : Int32) :
    Q d 380 12 [some (.ref x0), some (.int x1), some (.int x2)] [] h =
  if x2 < 4000 then
   ck (gC h x0) 9 <|
   if gI h 2307 x0 = 42 then
    ck (gC h x0) 9 <|
    cK (E d 317 [.ref x0] h) (Q d 380 50 [some (.ref x0), some (.int x1), some (.int x2)]) []
   else
    ck (gC h x0) 9 <|
    if gI h 2307 x0 = 47 then
     ck (gC h x0) 9 <|
     cK (E d 317 [.ref x0] h) (Q d 380 50 [some (.ref x0), some (.int x1), some (.int x2)]) []
    else
     ck (gC h x0) 9 <|
     if gI h 2307 x0 = 37 then
      ck (gC h x0) 9 <|
      cK (E d 317 [.ref x0] h) (Q d 380 50 [some (.ref x0), some (.int x1), some (.int x2)]) []
     else
      some (some (.int 1), h)
  else
   some (some (.int 1), h) := by
  rw [← hs.1]
  exact (blkM (fun p => Nat.beq p 50) 18 12 _ _ _).trans rfl

set_option maxRecDepth 16384 in
theorem t_380_50 {d : Nat} {h : AH} (hs : Sh h) (x0 : Nat) (x1 : Int32) (x2 : Int32) (s0 : Int32) :
    Q d 380 50 [some (.ref x0), some (.int x1), some (.int x2)] [.int s0] h =
  if s0 = 0 then
   some (some (.int 0), h)
  else
   ck (gC h x0) 9 <|
   cK (E d 358 [.ref x0, .int x1] h) (Q d 380 58 [some (.ref x0), some (.int x1), some (.int x2)]) [] := by
  rw [← hs.1]
  exact (blkM (fun p => Nat.beq p 58) 5 50 _ _ _).trans rfl

set_option maxRecDepth 16384 in
theorem t_380_58 {d : Nat} {h : AH} (hs : Sh h) (x0 : Nat) (x1 : Int32) (x2 : Int32) (s0 : Int32) :
    Q d 380 58 [some (.ref x0), some (.int x1), some (.int x2)] [.int s0] h =
  if s0 = 0 then
   some (some (.int 0), h)
  else
   Q d 380 12 [some (.ref x0), some (.int x1), some (.int (x2 + 1))] [] h := by
  rw [← hs.1]
  exact (blkM (fun p => Nat.beq p 12) 5 58 _ _ _).trans rfl

/-! 381 PostRoom$Script.beginsUnit()Z -/
set_option maxRecDepth 16384 in
theorem t_381 {d : Nat} {h : AH} (hs : Sh h) (x0 : Nat) :
    E (d + 1) 381 [.ref x0] h =
  (ck (gC h x0) 9 <|
  if gI h 2307 x0 = 3 then
   some (some (.int 1), h)
  else
   ck (gC h x0) 9 <|
   if gI h 2307 x0 = 4 then
    some (some (.int 1), h)
   else
    ck (gC h x0) 9 <|
    if gI h 2307 x0 = 40 then
     some (some (.int 1), h)
    else
     ck (gC h x0) 9 <|
     if gI h 2307 x0 = 45 then
      some (some (.int 1), h)
     else
      ck (gC h x0) 9 <|
      if gI h 2307 x0 < 143 then
       some (some (.int 0), h)
      else
       ck (gC h x0) 9 <|
       if (153 : Int32) < gI h 2307 x0 then
        some (some (.int 0), h)
       else
        some (some (.int 1), h)) := by
  rw [← hs.1]
  exact ent rfl ((blkM (fun p => false) 28 0 _ _ _).trans rfl)

/-! 382 PostRoom$Machine.sum(I)J -/
set_option maxRecDepth 16384 in
theorem t_382 {d : Nat} {h : AH} (hs : Sh h) (x1 : Int32) :
    E (d + 1) 382 [.ref 175, .int x1] h =
  cK (E d 393 [.ref 175, .int x1] h) (Q d 382 5 [some (.ref 175), some (.int x1), none, none, none, none, none, none]) [] := by
  rw [← hs.1]
  exact ent rfl ((blkM (fun p => Nat.beq p 5) 4 0 _ _ _).trans rfl)

set_option maxRecDepth 16384 in
theorem t_382_5 {d : Nat} {h : AH} (hs : Sh h) (x1 : Int32) (u2 : Option Value) (u3 : Option Value) (u4 : Option Value) (u5 : Option Value) (u6 : Option Value) (u7 : Option Value) (s0 : Int64) :
    Q d 382 5 [some (.ref 175), some (.int x1), u2, u3, u4, u5, u6, u7] [.long s0] h =
  Q d 382 9 [some (.ref 175), some (.int x1), some (.long s0), none, some (.int 0), none, none, none] [] h := by
  rw [← hs.1]
  exact (blkM (fun p => Nat.beq p 9) 5 5 _ _ _).trans rfl

set_option maxRecDepth 16384 in
theorem t_382_9 {d : Nat} {h : AH} (hs : Sh h) (x1 : Int32) (x2 : Int64) (x4 : Int32) :
    Q d 382 9 [some (.ref 175), some (.int x1), some (.long x2), none, some (.int x4), none, none, none] [] h =
  if x4 < 4000 then
   cK (E d 362 [.ref 175] h) (Q d 382 21 [some (.ref 175), some (.int x1), some (.long x2), none, some (.int x4), none, none, none]) []
  else
   some (some (.long x2), h) := by
  rw [← hs.1]
  exact (blkM (fun p => Nat.beq p 21) 6 9 _ _ _).trans rfl

set_option maxRecDepth 16384 in
theorem t_382_21 {d : Nat} {h : AH} (hs : Sh h) (x1 : Int32) (x2 : Int64) (x4 : Int32) (u5 : Option Value) (u6 : Option Value) (u7 : Option Value) (s0 : Int32) :
    Q d 382 21 [some (.ref 175), some (.int x1), some (.long x2), none, some (.int x4), u5, u6, u7] [.int s0] h =
  if s0 = 0 then
   some (some (.long x2), h)
  else
   cK (E d 328 [.ref 175] h) (Q d 382 28 [some (.ref 175), some (.int x1), some (.long x2), none, some (.int x4), u5, u6, u7]) [] := by
  rw [← hs.1]
  exact (blkM (fun p => Nat.beq p 28) 4 21 _ _ _).trans rfl

set_option maxRecDepth 16384 in
theorem t_382_28 {d : Nat} {h : AH} (hs : Sh h) (x1 : Int32) (x2 : Int64) (x4 : Int32) (u5 : Option Value) (u6 : Option Value) (u7 : Option Value) (s0 : Int32) :
    Q d 382 28 [some (.ref 175), some (.int x1), some (.long x2), none, some (.int x4), u5, u6, u7] [.int s0] h =
  if s0 = 43 then
   cK (E d 328 [.ref 175] h) (Q d 382 46 [some (.ref 175), some (.int x1), some (.long x2), none, some (.int x4), none, none, none]) []
  else
   cK (E d 328 [.ref 175] h) (Q d 382 37 [some (.ref 175), some (.int x1), some (.long x2), none, some (.int x4), u5, u6, u7]) [] := by
  rw [← hs.1]
  exact (blkM (fun p => Nat.beq p 37 || Nat.beq p 46) 5 28 _ _ _).trans rfl

set_option maxRecDepth 16384 in
theorem t_382_37 {d : Nat} {h : AH} (hs : Sh h) (x1 : Int32) (x2 : Int64) (x4 : Int32) (u5 : Option Value) (u6 : Option Value) (u7 : Option Value) (s0 : Int32) :
    Q d 382 37 [some (.ref 175), some (.int x1), some (.long x2), none, some (.int x4), u5, u6, u7] [.int s0] h =
  if s0 = 45 then
   cK (E d 328 [.ref 175] h) (Q d 382 46 [some (.ref 175), some (.int x1), some (.long x2), none, some (.int x4), none, none, none]) []
  else
   some (some (.long x2), h) := by
  rw [← hs.1]
  exact (blkM (fun p => Nat.beq p 46) 5 37 _ _ _).trans rfl

set_option maxRecDepth 16384 in
theorem t_382_46 {d : Nat} {h : AH} (hs : Sh h) (x1 : Int32) (x2 : Int64) (x4 : Int32) (u5 : Option Value) (u6 : Option Value) (u7 : Option Value) (s0 : Int32) :
    Q d 382 46 [some (.ref 175), some (.int x1), some (.long x2), none, some (.int x4), u5, u6, u7] [.int s0] h =
  if s0 = 45 then
   cK (E d 393 [.ref 175, .int x1] (sI h 1545 175 ((gI h 1545 175) + 1))) (Q d 382 73 [some (.ref 175), some (.int x1), some (.long x2), none, some (.int x4), some (.int 1), none, none]) []
  else
   cK (E d 393 [.ref 175, .int x1] (sI h 1545 175 ((gI h 1545 175) + 1))) (Q d 382 73 [some (.ref 175), some (.int x1), some (.long x2), none, some (.int x4), some (.int 0), none, none]) [] := by
  rw [← hs.1]
  exact (blkM (fun p => Nat.beq p 73) 15 46 _ _ _).trans rfl

set_option maxRecDepth 16384 in
theorem t_382_73 {d : Nat} {h : AH} (hs : Sh h) (x1 : Int32) (x2 : Int64) (x4 : Int32) (x5 : Int32) (u6 : Option Value) (u7 : Option Value) (s0 : Int64) :
    Q d 382 73 [some (.ref 175), some (.int x1), some (.long x2), none, some (.int x4), some (.int x5), u6, u7] [.long s0] h =
  if x5 = 0 then
   Q d 382 9 [some (.ref 175), some (.int x1), some (.long (x2 + s0)), none, some (.int (x4 + 1)), none, none, none] [] h
  else
   Q d 382 9 [some (.ref 175), some (.int x1), some (.long (x2 - s0)), none, some (.int (x4 + 1)), none, none, none] [] h := by
  rw [← hs.1]
  exact (blkM (fun p => Nat.beq p 9) 12 73 _ _ _).trans rfl

/-! 383 PostRoom$Machine.isTooDeep(I)Z -/
set_option maxRecDepth 16384 in
theorem t_383 {d : Nat} {h : AH} (hs : Sh h) (x1 : Int32) :
    E (d + 1) 383 [.ref 175, .int x1] h =
  if x1 < 20 then
   if x1 < 20 then
    some (some (.int 0), h)
   else
    some (some (.int 1), h)
  else
   if x1 < 20 then
    some (some (.int 0), sI h 1547 175 10)
   else
    some (some (.int 1), sI h 1547 175 10) := by
  rw [← hs.1]
  exact ent rfl ((blkM (fun p => false) 13 0 _ _ _).trans rfl)

/-! 384 PostRoom$Machine.unit(I)J -/
set_option maxRecDepth 16384 in
theorem t_384 {d : Nat} {h : AH} (hs : Sh h) (x1 : Int32) :
    E (d + 1) 384 [.ref 175, .int x1] h =
  cK (E d 383 [.ref 175, .int x1] h) (Q d 384 5 [some (.ref 175), some (.int x1), none, none]) [] := by
  rw [← hs.1]
  exact ent rfl ((blkM (fun p => Nat.beq p 5) 4 0 _ _ _).trans rfl)

set_option maxRecDepth 16384 in
theorem t_384_5 {d : Nat} {h : AH} (hs : Sh h) (x1 : Int32) (u2 : Option Value) (u3 : Option Value) (s0 : Int32) :
    Q d 384 5 [some (.ref 175), some (.int x1), u2, u3] [.int s0] h =
  if s0 = 0 then
   cK (E d 328 [.ref 175] h) (Q d 384 14 [some (.ref 175), some (.int x1), u2, u3]) []
  else
   some (some (.long 0), h) := by
  rw [← hs.1]
  exact (blkM (fun p => Nat.beq p 14) 4 5 _ _ _).trans rfl

set_option maxRecDepth 16384 in
theorem t_384_14 {d : Nat} {h : AH} (hs : Sh h) (x1 : Int32) (u2 : Option Value) (u3 : Option Value) (s0 : Int32) :
    Q d 384 14 [some (.ref 175), some (.int x1), u2, u3] [.int s0] h =
  (gR h 1544 175).bind fun y1 =>
   ck (gC h y1) 9 <|
   cK (E d 330 [.ref y1, .int (gI h 1545 175)] h) (Q d 384 26 [some (.ref 175), some (.int x1), some (.int s0), u3]) [] := by
  rw [← hs.1]
  exact (blkM (fun p => Nat.beq p 26) 7 14 _ _ _).trans rfl

set_option maxRecDepth 16384 in
theorem t_384_26 {d : Nat} {h : AH} (hs : Sh h) (x1 : Int32) (x2 : Int32) (u3 : Option Value) (s0 : Int32) :
    Q d 384 26 [some (.ref 175), some (.int x1), some (.int x2), u3] [.int s0] h =
  if x2 = 3 then
   some (some (.long s0.toInt64), sI h 1545 175 ((gI h 1545 175) + 1))
  else
   if x2 = 4 then
   gd s0 10 <|
   some (some (.long (gB h 176 (ix s0))), sI h 1545 175 ((gI h 1545 175) + 1))
  else
   if x2 = 40 then
   cK (E d 394 [.ref 175, .int (x1 + 1)] (sI h 1545 175 ((gI h 1545 175) + 1))) (Q d 384 145 [some (.ref 175), some (.int x1), some (.int x2), some (.int s0)]) []
  else
   if x2 = 45 then
   cK (E d 384 [.ref 175, .int (x1 + 1)] (sI h 1545 175 ((gI h 1545 175) + 1))) (Q d 384 153 [some (.ref 175), some (.int x1), some (.int x2), some (.int s0)]) []
  else
   if x2 = 143 then
   cK (E d 395 [.ref 175, .int (x1 + 1)] (sI h 1545 175 ((gI h 1545 175) + 1))) (Q d 384 162 [some (.ref 175), some (.int x1), some (.int x2), some (.int s0)]) []
  else
   if x2 = 144 then
   cK (E d 396 [.ref 175, .int (x1 + 1)] (sI h 1545 175 ((gI h 1545 175) + 1))) (Q d 384 170 [some (.ref 175), some (.int x1), some (.int x2), some (.int s0)]) []
  else
   if x2 = 145 then
   cK (E d 397 [.ref 175, .int (x1 + 1)] (sI h 1545 175 ((gI h 1545 175) + 1))) (Q d 384 178 [some (.ref 175), some (.int x1), some (.int x2), some (.int s0)]) []
  else
   if x2 = 151 then
   (gR h 2048 156).bind fun y1 =>
    ck (gC h y1) 2 <|
    (gR h 512 y1).bind fun y2 =>
     ck (gC h y2) 1 <|
     cK (E d 212 [.ref y2, .int (gI h 1546 175)] (sI h 1545 175 ((gI h 1545 175) + 1))) (Q d 384 196 [some (.ref 175), some (.int x1), some (.int x2), some (.int s0)]) []
  else
   if x2 = 152 then
   some (some (.long ((gI h 1546 175).toInt64)), sI h 1545 175 ((gI h 1545 175) + 1))
  else
   if x2 = 153 then
   some (some (.long ((gI h 2051 156).toInt64)), sI h 1545 175 ((gI h 1545 175) + 1))
  else
   cK (E d 363 [.ref 175, .int (x1 + 1)] (sI h 1545 175 ((gI h 1545 175) + 1))) (Q d 384 231 [some (.ref 175), some (.int x1), some (.int x2), some (.int s0)]) [.int x2, .ref 175] := by
  rw [← hs.1]
  exact (blkM (fun p => Nat.beq p 145 || Nat.beq p 153 || Nat.beq p 162 || Nat.beq p 170 || Nat.beq p 178 || Nat.beq p 196 || Nat.beq p 231) 17 26 _ _ _).trans rfl

set_option maxRecDepth 16384 in
theorem t_384_145 {d : Nat} {h : AH} (hs : Sh h) (u0 : Option Value) (u1 : Option Value) (u2 : Option Value) (u3 : Option Value) (s0 : Int64) :
    Q d 384 145 [u0, u1, u2, u3] [.long s0] h =
  some (some (.long s0), h) := by
  rw [← hs.1]
  exact (blkM (fun p => false) 2 145 _ _ _).trans rfl

set_option maxRecDepth 16384 in
theorem t_384_153 {d : Nat} {h : AH} (hs : Sh h) (u0 : Option Value) (u1 : Option Value) (u2 : Option Value) (u3 : Option Value) (s0 : Int64) :
    Q d 384 153 [u0, u1, u2, u3] [.long s0] h =
  some (some (.long (-s0)), h) := by
  rw [← hs.1]
  exact (blkM (fun p => false) 3 153 _ _ _).trans rfl

set_option maxRecDepth 16384 in
theorem t_384_162 {d : Nat} {h : AH} (hs : Sh h) (u0 : Option Value) (u1 : Option Value) (u2 : Option Value) (u3 : Option Value) (s0 : Int64) :
    Q d 384 162 [u0, u1, u2, u3] [.long s0] h =
  some (some (.long s0), h) := by
  rw [← hs.1]
  exact (blkM (fun p => false) 2 162 _ _ _).trans rfl

set_option maxRecDepth 16384 in
theorem t_384_170 {d : Nat} {h : AH} (hs : Sh h) (u0 : Option Value) (u1 : Option Value) (u2 : Option Value) (u3 : Option Value) (s0 : Int64) :
    Q d 384 170 [u0, u1, u2, u3] [.long s0] h =
  some (some (.long s0), h) := by
  rw [← hs.1]
  exact (blkM (fun p => false) 2 170 _ _ _).trans rfl

set_option maxRecDepth 16384 in
theorem t_384_178 {d : Nat} {h : AH} (hs : Sh h) (u0 : Option Value) (u1 : Option Value) (u2 : Option Value) (u3 : Option Value) (s0 : Int64) :
    Q d 384 178 [u0, u1, u2, u3] [.long s0] h =
  some (some (.long s0), h) := by
  rw [← hs.1]
  exact (blkM (fun p => false) 2 178 _ _ _).trans rfl

set_option maxRecDepth 16384 in
theorem t_384_196 {d : Nat} {h : AH} (hs : Sh h) (u0 : Option Value) (u1 : Option Value) (u2 : Option Value) (u3 : Option Value) (s0 : Nat) :
    Q d 384 196 [u0, u1, u2, u3] [.ref s0] h =
  (ck (gC h s0) 7 <|
  ck (gC h s0) 7 <|
  (gR h 1797 s0).bind fun y1 =>
   ck (gC h y1) 1 <|
   cK (E d 213 [.ref y1] h) (Q d 384 205 [u0, u1, u2, u3]) []) := by
  rw [← hs.1]
  exact (blkM (fun p => Nat.beq p 205) 4 196 _ _ _).trans rfl

set_option maxRecDepth 16384 in
theorem t_384_231 {d : Nat} {h : AH} (hs : Sh h) (u0 : Option Value) (u1 : Option Value) (u2 : Option Value) (u3 : Option Value) (s0 : Nat) (s1 : Int32) (s2 : Int32) :
    Q d 384 231 [u0, u1, u2, u3] [.int s2, .int s1, .ref s0] h =
  (ck (gC h s0) 6 <|
  cK (E d 398 [.ref s0, .int s1, .int s2] h) (Q d 384 234 [u0, u1, u2, u3]) []) := by
  rw [← hs.1]
  exact (blkM (fun p => Nat.beq p 234) 2 231 _ _ _).trans rfl

set_option maxRecDepth 16384 in
theorem t_384_205 {d : Nat} {h : AH} (hs : Sh h) (u0 : Option Value) (u1 : Option Value) (u2 : Option Value) (u3 : Option Value) (s0 : Int32) :
    Q d 384 205 [u0, u1, u2, u3] [.int s0] h =
  some (some (.long s0.toInt64), h) := by
  rw [← hs.1]
  exact (blkM (fun p => false) 3 205 _ _ _).trans rfl

set_option maxRecDepth 16384 in
theorem t_384_234 {d : Nat} {h : AH} (hs : Sh h) (u0 : Option Value) (u1 : Option Value) (u2 : Option Value) (u3 : Option Value) (s0 : Int64) :
    Q d 384 234 [u0, u1, u2, u3] [.long s0] h =
  some (some (.long s0), h) := by
  rw [← hs.1]
  exact (blkM (fun p => false) 2 234 _ _ _).trans rfl

/-! 385 PostRoom$Machine.onShelf(J)I -/
set_option maxRecDepth 16384 in
theorem t_385 {d : Nat} {h : AH} (hs : Sh h) (x1 : Int64) :
    E (d + 1) 385 [.ref 175, .long x1] h =
  cK (E d 362 [.ref 175] h) (Q d 385 4 [some (.ref 175), some (.long x1), none, none]) [] := by
  rw [← hs.1]
  exact ent rfl ((blkM (fun p => Nat.beq p 4) 3 0 _ _ _).trans rfl)

set_option maxRecDepth 16384 in
theorem t_385_4 {d : Nat} {h : AH} (hs : Sh h) (x1 : Int64) (u3 : Option Value) (s0 : Int32) :
    Q d 385 4 [some (.ref 175), some (.long x1), none, u3] [.int s0] h =
  if s0 = 0 then
   some (some (.int (-1)), h)
  else
   (gR h 2048 156).bind fun y1 =>
    ck (gC h y1) 2 <|
    (gR h 512 y1).bind fun y2 =>
     ck (gC h y2) 1 <|
     cK (E d 212 [.ref y2, .int (gI h 1546 175)] h) (Q d 385 26 [some (.ref 175), some (.long x1), none, u3]) [] := by
  rw [← hs.1]
  exact (blkM (fun p => Nat.beq p 26) 9 4 _ _ _).trans rfl

set_option maxRecDepth 16384 in
theorem t_385_26 {d : Nat} {h : AH} (hs : Sh h) (x1 : Int64) (u3 : Option Value) (s0 : Nat) :
    Q d 385 26 [some (.ref 175), some (.long x1), none, u3] [.ref s0] h =
  (ck (gC h s0) 7 <|
  ck (gC h s0) 7 <|
  (gR h 1797 s0).bind fun y1 =>
   if lg_cmp x1 0 < 0 then
    cK (E d 365 [.ref 175, .int 3] h) (Q d 385 54 [some (.ref 175), none, none, none]) []
   else
    ck (gC h y1) 1 <|
    cK (E d 213 [.ref y1] h) (Q d 385 44 [some (.ref 175), some (.long x1), none, some (.ref y1)]) [.long x1]) := by
  rw [← hs.1]
  exact (blkM (fun p => Nat.beq p 44 || Nat.beq p 54) 11 26 _ _ _).trans rfl

set_option maxRecDepth 16384 in
theorem t_385_44 {d : Nat} {h : AH} (hs : Sh h) (x1 : Int64) (x3 : Nat) (s0 : Int64) (s1 : Int32) :
    Q d 385 44 [some (.ref 175), some (.long x1), none, some (.ref x3)] [.int s1, .long s0] h =
  if lg_cmp s0 s1.toInt64 < 0 then
   ck (gC h x3) 1 <|
   cK (E d 212 [.ref x3, .int x1.toInt32] h) (Q d 385 62 [some (.ref 175), some (.long x1), none, some (.ref x3)]) []
  else
   cK (E d 365 [.ref 175, .int 3] h) (Q d 385 54 [some (.ref 175), none, none, none]) [] := by
  rw [← hs.1]
  exact (blkM (fun p => Nat.beq p 54 || Nat.beq p 62) 8 44 _ _ _).trans rfl

set_option maxRecDepth 16384 in
theorem t_385_54 {d : Nat} {h : AH} (hs : Sh h) (u0 : Option Value) (u1 : Option Value) (u2 : Option Value) (u3 : Option Value) :
    Q d 385 54 [u0, u1, u2, u3] [] h =
  some (some (.int (-1)), h) := by
  rw [← hs.1]
  exact (blkM (fun p => false) 3 54 _ _ _).trans rfl

set_option maxRecDepth 16384 in
theorem t_385_62 {d : Nat} {h : AH} (hs : Sh h) (u0 : Option Value) (u1 : Option Value) (u2 : Option Value) (u3 : Option Value) (s0 : Nat) :
    Q d 385 62 [u0, u1, u2, u3] [.ref s0] h =
  (ck (gC h s0) 5 <|
  ck (gC h s0) 5 <|
  some (some (.int (gI h 1280 s0)), h)) := by
  rw [← hs.1]
  exact (blkM (fun p => false) 4 62 _ _ _).trans rfl

/-! 386 PostRoom$Machine.inRow(I)I -/
set_option maxRecDepth 16384 in
theorem t_386 {d : Nat} {h : AH} (hs : Sh h) (x1 : Int32) :
    E (d + 1) 386 [.ref 175, .int x1] h =
  cK (E d 399 [.ref 175, .int x1, .int 1] h) (Q d 386 6 [some (.ref 175), some (.int x1), none]) [] := by
  rw [← hs.1]
  exact ent rfl ((blkM (fun p => Nat.beq p 6) 5 0 _ _ _).trans rfl)

set_option maxRecDepth 16384 in
theorem t_386_6 {d : Nat} {h : AH} (hs : Sh h) (u1 : Option Value) (u2 : Option Value) (s0 : Int32) :
    Q d 386 6 [some (.ref 175), u1, u2] [.int s0] h =
  if s0 = (-1) then
   some (some (.int (-1)), h)
  else
   gd s0 2000 <|
   some (some (.int ((gB h 182 (ix s0)).toInt32)), h) := by
  rw [← hs.1]
  exact (blkM (fun p => false) 11 6 _ _ _).trans rfl

/-! 387 PostRoom$Machine.ofSort(II)I -/
set_option maxRecDepth 16384 in
theorem t_387 {d : Nat} {h : AH} (hs : Sh h) (x1 : Int32) (x2 : Int32) :
    E (d + 1) 387 [.ref 175, .int x1, .int x2] h =
  cK (E d 362 [.ref 175] h) (Q d 387 4 [some (.ref 175), some (.int x1), some (.int x2)]) [] := by
  rw [← hs.1]
  exact ent rfl ((blkM (fun p => Nat.beq p 4) 3 0 _ _ _).trans rfl)

set_option maxRecDepth 16384 in
theorem t_387_4 {d : Nat} {h : AH} (hs : Sh h) (x1 : Int32) (x2 : Int32) (s0 : Int32) :
    Q d 387 4 [some (.ref 175), some (.int x1), some (.int x2)] [.int s0] h =
  if s0 = 0 then
   Q d 387 38 [some (.ref 175), none, some (.int x2)] [] h
  else
   if x2 = (-1) then
    Q d 387 38 [some (.ref 175), none, some (.int x2)] [] h
   else
    cK (E d 212 [.ref 164, .int x2] h) (Q d 387 23 [some (.ref 175), some (.int x1), some (.int x2)]) [] := by
  rw [← hs.1]
  exact (blkM (fun p => Nat.beq p 23 || Nat.beq p 38) 10 4 _ _ _).trans rfl

set_option maxRecDepth 16384 in
theorem t_387_23 {d : Nat} {h : AH} (hs : Sh h) (x1 : Int32) (x2 : Int32) (s0 : Nat) :
    Q d 387 23 [some (.ref 175), some (.int x1), some (.int x2)] [.ref s0] h =
  (ck (gC h s0) 5 <|
  ck (gC h s0) 5 <|
  cK (E d 388 [.ref s0, .int x1] h) (Q d 387 30 [some (.ref 175), some (.int x1), some (.int x2)]) []) := by
  rw [← hs.1]
  exact (blkM (fun p => Nat.beq p 30) 4 23 _ _ _).trans rfl

set_option maxRecDepth 16384 in
theorem t_387_38 {d : Nat} {h : AH} (hs : Sh h) (x2 : Int32) :
    Q d 387 38 [some (.ref 175), none, some (.int x2)] [] h =
  cK (E d 362 [.ref 175] h) (Q d 387 42 [some (.ref 175), none, some (.int x2)]) [] := by
  rw [← hs.1]
  exact (blkM (fun p => Nat.beq p 42) 3 38 _ _ _).trans rfl

set_option maxRecDepth 16384 in
theorem t_387_30 {d : Nat} {h : AH} (hs : Sh h) (x2 : Int32) (u1 : Option Value) (s0 : Int32) :
    Q d 387 30 [some (.ref 175), u1, some (.int x2)] [.int s0] h =
  if s0 = 0 then
   cK (E d 365 [.ref 175, .int 2] h) (Q d 387 38 [some (.ref 175), none, some (.int x2)]) []
  else
   Q d 387 38 [some (.ref 175), none, some (.int x2)] [] h := by
  rw [← hs.1]
  exact (blkM (fun p => Nat.beq p 38) 5 30 _ _ _).trans rfl

set_option maxRecDepth 16384 in
theorem t_387_42 {d : Nat} {h : AH} (hs : Sh h) (x2 : Int32) (u0 : Option Value) (u1 : Option Value) (s0 : Int32) :
    Q d 387 42 [u0, u1, some (.int x2)] [.int s0] h =
  if s0 = 0 then
   some (some (.int (-1)), h)
  else
   some (some (.int x2), h) := by
  rw [← hs.1]
  exact (blkM (fun p => false) 5 42 _ _ _).trans rfl

/-! 388 PostRoom$Item.isOf(I)Z -/
set_option maxRecDepth 16384 in
theorem t_388 {d : Nat} {h : AH} (hs : Sh h) (x0 : Nat) (x1 : Int32) :
    E (d + 1) 388 [.ref x0, .int x1] h =
  (ck (gC h x0) 5 <|
  if gI h 1284 x0 = x1 then
   some (some (.int 1), h)
  else
   if x1 = 0 then
    ck (gC h x0) 5 <|
    if gI h 1284 x0 = 2 then
     some (some (.int 1), h)
    else
     some (some (.int 0), h)
   else
    some (some (.int 0), h)) := by
  rw [← hs.1]
  exact ent rfl ((blkM (fun p => false) 14 0 _ _ _).trans rfl)

/-! 389 java/util/ArrayList.grow(I)[Ljava/lang/Object; -/
set_option maxRecDepth 16384 in
theorem t_389 {d : Nat} {h : AH} (hs : Sh h) (x0 : Nat) (x1 : Int32) :
    E (d + 1) 389 [.ref x0, .int x1] h =
  (ck (gC h x0) 1 <|
  (gR h 257 x0).bind fun y1 =>
   if 60 ≤ gC h y1 ∧ gC h y1 ≤ 66 then
    if (0 : Int32) < nI (gK h y1) then
     cK (E d 400 [.int (nI (gK h y1)), .int (x1 - (nI (gK h y1))), .int ((nI (gK h y1)) >>> (1 &&& 31))] h) (Q d 389 30 [some (.ref x0), some (.int x1), some (.int (nI (gK h y1))), none]) []
    else
     ck (gC h x0) 1 <|
     (gR h 257 x0).bind fun y2 =>
      if y2 = 61 then
       cK (E d 391 [.int 10, .int x1] h) (Q d 389 52 [some (.ref x0), some (.int x1), some (.int (nI (gK h y1))), none]) [.ref x0]
      else
       if gC h y2 ≠ 0 ∧ gC h 61 ≠ 0 ∧ (100 ≤ y2 ∨ 100 ≤ 61) then
        cK (E d 400 [.int (nI (gK h y1)), .int (x1 - (nI (gK h y1))), .int ((nI (gK h y1)) >>> (1 &&& 31))] h) (Q d 389 30 [some (.ref x0), some (.int x1), some (.int (nI (gK h y1))), none]) []
       else
        none
   else
    none) := by
  rw [← hs.1]
  exact ent rfl ((blkM (fun p => Nat.beq p 30 || Nat.beq p 52) 19 0 _ _ _).trans rfl)

set_option maxRecDepth 16384 in
theorem t_389_30 {d : Nat} {h : AH} (hs : Sh h) (x0 : Nat) (u1 : Option Value) (u2 : Option Value) (u3 : Option Value) (s0 : Int32) :
    Q d 389 30 [some (.ref x0), u1, u2, u3] [.int s0] h =
  (ck (gC h x0) 1 <|
  (gR h 257 x0).bind fun y1 =>
   cK (E d 401 [.ref y1, .int s0] h) (Q d 389 40 [some (.ref x0), u1, klV u2, some (.int s0)]) [.ref x0]) := by
  rw [← hs.1]
  exact (blkM (fun p => Nat.beq p 40) 7 30 _ _ _).trans rfl

set_option maxRecDepth 16384 in
theorem t_389_52 {d : Nat} {h : AH} (hs : Sh h) (u0 : Option Value) (u1 : Option Value) (u2 : Option Value) (u3 : Option Value) (s0 : Nat) (s1 : Int32) :
    Q d 389 52 [u0, u1, u2, u3] [.int s1, .ref s0] h =
  if s1 < 0 then
   none
  else
   if ix s1 ≤ 1000000 then
    Q d 389 55 [u0, u1, u2, u3] [.ref (gN h), .ref s0] (nwA h 65 (ix s1))
   else
    none := by
  rw [← hs.1]
  exact (blkM (fun p => Nat.beq p 55) 3 52 _ _ _).trans rfl

set_option maxRecDepth 16384 in
theorem t_389_40 {d : Nat} {h : AH} (hs : Sh h) (u0 : Option Value) (u1 : Option Value) (u2 : Option Value) (u3 : Option Value) (s0 : Nat) (s1 : Nat) :
    Q d 389 40 [u0, u1, u2, u3] [.ref s1, .ref s0] h =
  (ck (gC h s0) 1 <|
  some (some (.ref s1), sR h 257 s0 (some s1))) := by
  rw [← hs.1]
  exact (blkM (fun p => false) 4 40 _ _ _).trans rfl

set_option maxRecDepth 16384 in
theorem t_389_55 {d : Nat} {h : AH} (hs : Sh h) (u0 : Option Value) (u1 : Option Value) (u2 : Option Value) (u3 : Option Value) (s0 : Nat) (s1 : Nat) :
    Q d 389 55 [u0, u1, u2, u3] [.ref s1, .ref s0] h =
  (ck (gC h s0) 1 <|
  some (some (.ref s1), sR h 257 s0 (some s1))) := by
  rw [← hs.1]
  exact (blkM (fun p => false) 4 55 _ _ _).trans rfl

/-! 390 java/lang/StringLatin1.canEncode(I)Z -/
set_option maxRecDepth 16384 in
theorem t_390 {d : Nat} {h : AH} (hs : Sh h) (x0 : Int32) :
    E (d + 1) 390 [.int x0] h =
  if x0 < 0 then
   some (some (.int 0), h)
  else
   if (255 : Int32) < x0 then
    some (some (.int 0), h)
   else
    some (some (.int 1), h) := by
  rw [← hs.1]
  exact ent rfl ((blkM (fun p => false) 9 0 _ _ _).trans rfl)

/-! 391 java/lang/Math.max(II)I -/
set_option maxRecDepth 16384 in
theorem t_391 {d : Nat} {h : AH} (hs : Sh h) (x0 : Int32) (x1 : Int32) :
    E (d + 1) 391 [.int x0, .int x1] h =
  if x0 < x1 then
   some (some (.int x1), h)
  else
   some (some (.int x0), h) := by
  rw [← hs.1]
  exact ent rfl ((blkM (fun p => false) 7 0 _ _ _).trans rfl)

/-! 392 java/lang/StringLatin1.indexOfChar([BIII)I -/
set_option maxRecDepth 16384 in
theorem t_392 {d : Nat} {h : AH} (hs : Sh h) (x0 : Nat) (x1 : Int32) (x2 : Int32) (x3 : Int32) :
    E (d + 1) 392 [.ref x0, .int x1, .int x2, .int x3] h =
  Q d 392 7 [some (.ref x0), none, none, some (.int x3), some (.int x1.toInt8.toInt32), some (.int x2)] [] h := by
  rw [← hs.1]
  exact ent rfl ((blkM (fun p => Nat.beq p 7) 7 0 _ _ _).trans rfl)

set_option maxRecDepth 16384 in
theorem t_392_7 {d : Nat} {h : AH} (hs : Sh h) (x0 : Nat) (x3 : Int32) (x4 : Int32) (x5 : Int32) :
    Q d 392 7 [some (.ref x0), none, none, some (.int x3), some (.int x4), some (.int x5)] [] h =
  if x5 < x3 then
   ck (gC h x0) 64 <|
   gd x5 (gK h x0) <|
   if gA h x0 (ix x5) = x4 then
    some (some (.int x5), h)
   else
    Q d 392 7 [some (.ref x0), none, none, some (.int x3), some (.int x4), some (.int (x5 + 1))] [] h
  else
   some (some (.int (-1)), h) := by
  rw [← hs.1]
  exact (blkM (fun p => Nat.beq p 7) 12 7 _ _ _).trans rfl

/-! 393 PostRoom$Machine.product(I)J -/
set_option maxRecDepth 16384 in
theorem t_393 {d : Nat} {h : AH} (hs : Sh h) (x1 : Int32) :
    E (d + 1) 393 [.ref 175, .int x1] h =
  cK (E d 384 [.ref 175, .int x1] h) (Q d 393 5 [some (.ref 175), some (.int x1), none, none, none, none, none, none]) [] := by
  rw [← hs.1]
  exact ent rfl ((blkM (fun p => Nat.beq p 5) 4 0 _ _ _).trans rfl)

set_option maxRecDepth 16384 in
theorem t_393_5 {d : Nat} {h : AH} (hs : Sh h) (x1 : Int32) (u2 : Option Value) (u3 : Option Value) (u4 : Option Value) (u5 : Option Value) (u6 : Option Value) (u7 : Option Value) (s0 : Int64) :
    Q d 393 5 [some (.ref 175), some (.int x1), u2, u3, u4, u5, u6, u7] [.long s0] h =
  Q d 393 9 [some (.ref 175), some (.int x1), some (.long s0), none, some (.int 0), none, none, none] [] h := by
  rw [← hs.1]
  exact (blkM (fun p => Nat.beq p 9) 5 5 _ _ _).trans rfl

set_option maxRecDepth 16384 in
theorem t_393_9 {d : Nat} {h : AH} (hs : Sh h) (x1 : Int32) (x2 : Int64) (x4 : Int32) :
    Q d 393 9 [some (.ref 175), some (.int x1), some (.long x2), none, some (.int x4), none, none, none] [] h =
  if x4 < 4000 then
   cK (E d 362 [.ref 175] h) (Q d 393 21 [some (.ref 175), some (.int x1), some (.long x2), none, some (.int x4), none, none, none]) []
  else
   some (some (.long x2), h) := by
  rw [← hs.1]
  exact (blkM (fun p => Nat.beq p 21) 6 9 _ _ _).trans rfl

set_option maxRecDepth 16384 in
theorem t_393_21 {d : Nat} {h : AH} (hs : Sh h) (x1 : Int32) (x2 : Int64) (x4 : Int32) (u5 : Option Value) (u6 : Option Value) (u7 : Option Value) (s0 : Int32) :
    Q d 393 21 [some (.ref 175), some (.int x1), some (.long x2), none, some (.int x4), u5, u6, u7] [.int s0] h =
  if s0 = 0 then
   some (some (.long x2), h)
  else
   cK (E d 328 [.ref 175] h) (Q d 393 28 [some (.ref 175), some (.int x1), some (.long x2), none, some (.int x4), u5, u6, u7]) [] := by
  rw [← hs.1]
  exact (blkM (fun p => Nat.beq p 28) 4 21 _ _ _).trans rfl

set_option maxRecDepth 16384 in
theorem t_393_28 {d : Nat} {h : AH} (hs : Sh h) (x1 : Int32) (x2 : Int64) (x4 : Int32) (u5 : Option Value) (u6 : Option Value) (u7 : Option Value) (s0 : Int32) :
    Q d 393 28 [some (.ref 175), some (.int x1), some (.long x2), none, some (.int x4), u5, u6, u7] [.int s0] h =
  if s0 = 42 then
   cK (E d 384 [.ref 175, .int x1] (sI h 1545 175 ((gI h 1545 175) + 1))) (Q d 393 68 [some (.ref 175), some (.int x1), some (.long x2), none, some (.int x4), some (.int s0), none, none]) []
  else
   if s0 = 47 then
    cK (E d 384 [.ref 175, .int x1] (sI h 1545 175 ((gI h 1545 175) + 1))) (Q d 393 68 [some (.ref 175), some (.int x1), some (.long x2), none, some (.int x4), some (.int s0), none, none]) []
   else
    if s0 = 37 then
     cK (E d 384 [.ref 175, .int x1] (sI h 1545 175 ((gI h 1545 175) + 1))) (Q d 393 68 [some (.ref 175), some (.int x1), some (.long x2), none, some (.int x4), some (.int s0), none, none]) []
    else
     some (some (.long x2), h) := by
  rw [← hs.1]
  exact (blkM (fun p => Nat.beq p 68) 20 28 _ _ _).trans rfl

set_option maxRecDepth 16384 in
theorem t_393_68 {d : Nat} {h : AH} (hs : Sh h) (x1 : Int32) (x2 : Int64) (x4 : Int32) (x5 : Int32) (u6 : Option Value) (u7 : Option Value) (s0 : Int64) :
    Q d 393 68 [some (.ref 175), some (.int x1), some (.long x2), none, some (.int x4), some (.int x5), u6, u7] [.long s0] h =
  cK (E d 362 [.ref 175] h) (Q d 393 74 [some (.ref 175), some (.int x1), some (.long x2), none, some (.int x4), some (.int x5), some (.long s0), none]) [] := by
  rw [← hs.1]
  exact (blkM (fun p => Nat.beq p 74) 4 68 _ _ _).trans rfl

set_option maxRecDepth 16384 in
theorem t_393_74 {d : Nat} {h : AH} (hs : Sh h) (x1 : Int32) (x2 : Int64) (x4 : Int32) (x5 : Int32) (x6 : Int64) (s0 : Int32) :
    Q d 393 74 [some (.ref 175), some (.int x1), some (.long x2), none, some (.int x4), some (.int x5), some (.long x6), none] [.int s0] h =
  if s0 = 0 then
   Q d 393 97 [some (.ref 175), some (.int x1), some (.long x2), none, some (.int x4), some (.int x5), some (.long x6), none] [] h
  else
   if x5 = 42 then
    Q d 393 97 [some (.ref 175), some (.int x1), some (.long x2), none, some (.int x4), some (.int x5), some (.long x6), none] [] h
   else
    if lg_cmp x6 0 = 0 then
     cK (E d 365 [.ref 175, .int 6] h) (Q d 393 97 [some (.ref 175), some (.int x1), some (.long x2), none, some (.int x4), some (.int x5), some (.long x6), none]) []
    else
     Q d 393 97 [some (.ref 175), some (.int x1), some (.long x2), none, some (.int x4), some (.int x5), some (.long x6), none] [] h := by
  rw [← hs.1]
  exact (blkM (fun p => Nat.beq p 97) 12 74 _ _ _).trans rfl

set_option maxRecDepth 16384 in
theorem t_393_97 {d : Nat} {h : AH} (hs : Sh h) (x1 : Int32) (x2 : Int64) (x4 : Int32) (x5 : Int32) (x6 : Int64) :
    Q d 393 97 [some (.ref 175), some (.int x1), some (.long x2), none, some (.int x4), some (.int x5), some (.long x6), none] [] h =
  cK (E d 362 [.ref 175] h) (Q d 393 101 [some (.ref 175), some (.int x1), some (.long x2), none, some (.int x4), some (.int x5), some (.long x6), none]) [] := by
  rw [← hs.1]
  exact (blkM (fun p => Nat.beq p 101) 3 97 _ _ _).trans rfl

set_option maxRecDepth 16384 in
theorem t_393_101 {d : Nat} {h : AH} (hs : Sh h) (x1 : Int32) (x2 : Int64) (x4 : Int32) (x5 : Int32) (x6 : Int64) (s0 : Int32) :
    Q d 393 101 [some (.ref 175), some (.int x1), some (.long x2), none, some (.int x4), some (.int x5), some (.long x6), none] [.int s0] h =
  if s0 = 0 then
   Q d 393 9 [some (.ref 175), some (.int x1), some (.long x2), none, some (.int (x4 + 1)), none, none, none] [] h
  else
   if x5 = 42 then
    Q d 393 9 [some (.ref 175), some (.int x1), some (.long (x2 * x6)), none, some (.int (x4 + 1)), none, none, none] [] h
   else
    if x5 = 47 then
     if x6 = 0 then
      none
     else
      Q d 393 9 [some (.ref 175), some (.int x1), some (.long (x2 / x6)), none, some (.int (x4 + 1)), none, none, none] [] h
    else
     if x6 = 0 then
      none
     else
      Q d 393 9 [some (.ref 175), some (.int x1), some (.long (x2 - x2 / x6 * x6)), none, some (.int (x4 + 1)), none, none, none] [] h := by
  rw [← hs.1]
  exact (blkM (fun p => Nat.beq p 9) 16 101 _ _ _).trans rfl

/-! 394 PostRoom$Machine.inBrackets(I)J -/
set_option maxRecDepth 16384 in
theorem t_394 {d : Nat} {h : AH} (hs : Sh h) (x1 : Int32) :
    E (d + 1) 394 [.ref 175, .int x1] h =
  cK (E d 361 [.ref 175, .int x1] h) (Q d 394 5 [some (.ref 175), some (.int x1), none, none]) [] := by
  rw [← hs.1]
  exact ent rfl ((blkM (fun p => Nat.beq p 5) 4 0 _ _ _).trans rfl)

set_option maxRecDepth 16384 in
theorem t_394_5 {d : Nat} {h : AH} (hs : Sh h) (u1 : Option Value) (u2 : Option Value) (u3 : Option Value) (s0 : Int64) :
    Q d 394 5 [some (.ref 175), u1, u2, u3] [.long s0] h =
  some (some (.long s0), sI h 1545 175 ((gI h 1545 175) + 1)) := by
  rw [← hs.1]
  exact (blkM (fun p => false) 10 5 _ _ _).trans rfl

/-! 395 PostRoom$Machine.lengthTold(I)J -/
set_option maxRecDepth 16384 in
theorem t_395 {d : Nat} {h : AH} (hs : Sh h) (x1 : Int32) :
    E (d + 1) 395 [.ref 175, .int x1] h =
  cK (E d 364 [.ref 175, .int x1] h) (Q d 395 5 [some (.ref 175), some (.int x1), none]) [] := by
  rw [← hs.1]
  exact ent rfl ((blkM (fun p => Nat.beq p 5) 4 0 _ _ _).trans rfl)

set_option maxRecDepth 16384 in
theorem t_395_5 {d : Nat} {h : AH} (hs : Sh h) (u1 : Option Value) (u2 : Option Value) (s0 : Int32) :
    Q d 395 5 [some (.ref 175), u1, u2] [.int s0] h =
  cK (E d 362 [.ref 175] h) (Q d 395 10 [some (.ref 175), klV u1, some (.int s0)]) [] := by
  rw [← hs.1]
  exact (blkM (fun p => Nat.beq p 10) 4 5 _ _ _).trans rfl

set_option maxRecDepth 16384 in
theorem t_395_10 {d : Nat} {h : AH} (hs : Sh h) (x2 : Int32) (u1 : Option Value) (s0 : Int32) :
    Q d 395 10 [some (.ref 175), u1, some (.int x2)] [.int s0] h =
  if s0 = 0 then
   some (some (.long 0), h)
  else
   gd x2 12 <|
   if gA h 178 (ix x2) = 0 then
    cK (E d 365 [.ref 175, .int 1] h) (Q d 395 29 [some (.ref 175), u1, some (.int x2)]) []
   else
    gd x2 12 <|
    some (some (.long ((gA h 180 (ix x2)).toInt64)), h) := by
  rw [← hs.1]
  exact (blkM (fun p => Nat.beq p 29) 13 10 _ _ _).trans rfl

set_option maxRecDepth 16384 in
theorem t_395_29 {d : Nat} {h : AH} (hs : Sh h) (u0 : Option Value) (u1 : Option Value) (u2 : Option Value) :
    Q d 395 29 [u0, u1, u2] [] h =
  some (some (.long 0), h) := by
  rw [← hs.1]
  exact (blkM (fun p => false) 3 29 _ _ _).trans rfl

/-! 396 PostRoom$Machine.rowTold(I)J -/
set_option maxRecDepth 16384 in
theorem t_396 {d : Nat} {h : AH} (hs : Sh h) (x1 : Int32) :
    E (d + 1) 396 [.ref 175, .int x1] h =
  cK (E d 364 [.ref 175, .int x1] h) (Q d 396 5 [some (.ref 175), some (.int x1), none]) [] := by
  rw [← hs.1]
  exact ent rfl ((blkM (fun p => Nat.beq p 5) 4 0 _ _ _).trans rfl)

set_option maxRecDepth 16384 in
theorem t_396_5 {d : Nat} {h : AH} (hs : Sh h) (u1 : Option Value) (u2 : Option Value) (s0 : Int32) :
    Q d 396 5 [some (.ref 175), u1, u2] [.int s0] h =
  cK (E d 362 [.ref 175] h) (Q d 396 10 [some (.ref 175), klV u1, some (.int s0)]) [] := by
  rw [← hs.1]
  exact (blkM (fun p => Nat.beq p 10) 4 5 _ _ _).trans rfl

set_option maxRecDepth 16384 in
theorem t_396_10 {d : Nat} {h : AH} (hs : Sh h) (x2 : Int32) (u1 : Option Value) (s0 : Int32) :
    Q d 396 10 [some (.ref 175), u1, some (.int x2)] [.int s0] h =
  if s0 = 0 then
   some (some (.long 0), h)
  else
   gd x2 12 <|
   some (some (.long ((gA h 178 (ix x2)).toInt64)), h) := by
  rw [← hs.1]
  exact (blkM (fun p => false) 9 10 _ _ _).trans rfl

/-! 397 PostRoom$Machine.numberTold(I)J -/
set_option maxRecDepth 16384 in
theorem t_397 {d : Nat} {h : AH} (hs : Sh h) (x1 : Int32) :
    E (d + 1) 397 [.ref 175, .int x1] h =
  cK (E d 399 [.ref 175, .int x1, .int 0] h) (Q d 397 6 [some (.ref 175), some (.int x1), none]) [] := by
  rw [← hs.1]
  exact ent rfl ((blkM (fun p => Nat.beq p 6) 5 0 _ _ _).trans rfl)

set_option maxRecDepth 16384 in
theorem t_397_6 {d : Nat} {h : AH} (hs : Sh h) (u1 : Option Value) (u2 : Option Value) (s0 : Int32) :
    Q d 397 6 [some (.ref 175), u1, u2] [.int s0] h =
  if s0 = (-1) then
   some (some (.long 0), h)
  else
   gd s0 2000 <|
   some (some (.long (gB h 182 (ix s0))), h) := by
  rw [← hs.1]
  exact (blkM (fun p => false) 10 6 _ _ _).trans rfl

/-! 398 PostRoom$Machine.ofItem(II)J -/
set_option maxRecDepth 16384 in
theorem t_398 {d : Nat} {h : AH} (hs : Sh h) (x1 : Int32) (x2 : Int32) :
    E (d + 1) 398 [.ref 175, .int x1, .int x2] h =
  cK (E d 362 [.ref 175] h) (Q d 398 4 [some (.ref 175), some (.int x1), some (.int x2), none]) [] := by
  rw [← hs.1]
  exact ent rfl ((blkM (fun p => Nat.beq p 4) 3 0 _ _ _).trans rfl)

set_option maxRecDepth 16384 in
theorem t_398_4 {d : Nat} {h : AH} (hs : Sh h) (x1 : Int32) (x2 : Int32) (u3 : Option Value) (s0 : Int32) :
    Q d 398 4 [some (.ref 175), some (.int x1), some (.int x2), u3] [.int s0] h =
  if s0 = 0 then
   some (some (.long 0), h)
  else
   if x1 = 150 then
    if x2 = (-1) then
     some (some (.long 0), h)
    else
     some (some (.long 1), h)
   else
    if x2 = (-1) then
     cK (E d 365 [.ref 175, .int 1] h) (Q d 398 37 [some (.ref 175), some (.int x1), some (.int x2), u3]) []
    else
     cK (E d 212 [.ref 164, .int x2] h) (Q d 398 50 [some (.ref 175), some (.int x1), some (.int x2), u3]) [] := by
  rw [← hs.1]
  exact (blkM (fun p => Nat.beq p 37 || Nat.beq p 50) 13 4 _ _ _).trans rfl

set_option maxRecDepth 16384 in
theorem t_398_37 {d : Nat} {h : AH} (hs : Sh h) (u0 : Option Value) (u1 : Option Value) (u2 : Option Value) (u3 : Option Value) :
    Q d 398 37 [u0, u1, u2, u3] [] h =
  some (some (.long 0), h) := by
  rw [← hs.1]
  exact (blkM (fun p => false) 3 37 _ _ _).trans rfl

set_option maxRecDepth 16384 in
theorem t_398_50 {d : Nat} {h : AH} (hs : Sh h) (x1 : Int32) (u2 : Option Value) (u3 : Option Value) (s0 : Nat) :
    Q d 398 50 [some (.ref 175), some (.int x1), u2, u3] [.ref s0] h =
  (ck (gC h s0) 5 <|
  if x1 = 146 then
   (gR h 2048 156).bind fun y1 =>
    ck (gC h y1) 2 <|
    (gR h 512 y1).bind fun y2 =>
     cK (E d 254 [.ref 156, .ref s0] h) (Q d 398 98 [some (.ref 175), some (.int x1), klV u2, some (.ref s0)]) [.ref y2]
  else
   if x1 = 147 then
   ck (gC h s0) 5 <|
   some (some (.long ((gI h 1282 s0).toInt64)), h)
  else
   if x1 = 148 then
   ck (gC h s0) 5 <|
   some (some (.long ((gI h 1281 s0).toInt64)), h)
  else
   cK (E d 329 [.ref 175] h) (Q d 398 125 [some (.ref 175), some (.int x1), klV u2, some (.ref s0)]) []) := by
  rw [← hs.1]
  exact (blkM (fun p => Nat.beq p 98 || Nat.beq p 125) 13 50 _ _ _).trans rfl

set_option maxRecDepth 16384 in
theorem t_398_98 {d : Nat} {h : AH} (hs : Sh h) (u0 : Option Value) (u1 : Option Value) (u2 : Option Value) (u3 : Option Value) (s0 : Nat) (s1 : Int32) :
    Q d 398 98 [u0, u1, u2, u3] [.int s1, .ref s0] h =
  (ck (gC h s0) 1 <|
  cK (E d 212 [.ref s0, .int s1] h) (Q d 398 101 [u0, u1, u2, u3]) []) := by
  rw [← hs.1]
  exact (blkM (fun p => Nat.beq p 101) 2 98 _ _ _).trans rfl

set_option maxRecDepth 16384 in
theorem t_398_125 {d : Nat} {h : AH} (hs : Sh h) (x3 : Nat) (u1 : Option Value) (u2 : Option Value) (s0 : Int32) :
    Q d 398 125 [some (.ref 175), u1, u2, some (.ref x3)] [.int s0] h =
  if s0 = 0 then
   some (some (.long 0), h)
  else
   cK (E d 253 [.ref 156, .int (gI h 1546 175)] h) (Q d 398 141 [some (.ref 175), u1, u2, some (.ref x3)]) [] := by
  rw [← hs.1]
  exact (blkM (fun p => Nat.beq p 141) 7 125 _ _ _).trans rfl

set_option maxRecDepth 16384 in
theorem t_398_101 {d : Nat} {h : AH} (hs : Sh h) (u0 : Option Value) (u1 : Option Value) (u2 : Option Value) (u3 : Option Value) (s0 : Nat) :
    Q d 398 101 [u0, u1, u2, u3] [.ref s0] h =
  (ck (gC h s0) 7 <|
  ck (gC h s0) 7 <|
  some (some (.long ((gI h 1794 s0).toInt64)), h)) := by
  rw [← hs.1]
  exact (blkM (fun p => false) 5 101 _ _ _).trans rfl

set_option maxRecDepth 16384 in
theorem t_398_141 {d : Nat} {h : AH} (hs : Sh h) (x3 : Nat) (u1 : Option Value) (u2 : Option Value) :
    Q d 398 141 [some (.ref 175), u1, u2, some (.ref x3)] [] h =
  cK (E d 254 [.ref 156, .ref x3] h) (Q d 398 156 [some (.ref 175), u1, u2, some (.ref x3)]) [.ref 169] := by
  rw [← hs.1]
  exact (blkM (fun p => Nat.beq p 156) 8 141 _ _ _).trans rfl

set_option maxRecDepth 16384 in
theorem t_398_156 {d : Nat} {h : AH} (hs : Sh h) (u0 : Option Value) (u1 : Option Value) (u2 : Option Value) (u3 : Option Value) (s0 : Nat) (s1 : Int32) :
    Q d 398 156 [u0, u1, u2, u3] [.int s1, .ref s0] h =
  (ck (gC h s0) 60 <|
  gd s1 (gK h s0) <|
  some (some (.long ((gA h s0 (ix s1)).toInt64)), h)) := by
  rw [← hs.1]
  exact (blkM (fun p => false) 4 156 _ _ _).trans rfl

/-! 399 PostRoom$Machine.whereTold(IZ)I -/
set_option maxRecDepth 16384 in
theorem t_399 {d : Nat} {h : AH} (hs : Sh h) (x1 : Int32) (x2 : Int32) :
    E (d + 1) 399 [.ref 175, .int x1, .int x2] h =
  cK (E d 364 [.ref 175, .int x1] h) (Q d 399 5 [some (.ref 175), some (.int x1), some (.int x2), none, none, none]) [] := by
  rw [← hs.1]
  exact ent rfl ((blkM (fun p => Nat.beq p 5) 4 0 _ _ _).trans rfl)

set_option maxRecDepth 16384 in
theorem t_399_5 {d : Nat} {h : AH} (hs : Sh h) (x1 : Int32) (x2 : Int32) (u3 : Option Value) (u4 : Option Value) (u5 : Option Value) (s0 : Int32) :
    Q d 399 5 [some (.ref 175), some (.int x1), some (.int x2), u3, u4, u5] [.int s0] h =
  cK (E d 362 [.ref 175] h) (Q d 399 10 [some (.ref 175), some (.int x1), some (.int x2), some (.int s0), u4, u5]) [] := by
  rw [← hs.1]
  exact (blkM (fun p => Nat.beq p 10) 4 5 _ _ _).trans rfl

set_option maxRecDepth 16384 in
theorem t_399_10 {d : Nat} {h : AH} (hs : Sh h) (x1 : Int32) (x2 : Int32) (x3 : Int32) (u4 : Option Value) (u5 : Option Value) (s0 : Int32) :
    Q d 399 10 [some (.ref 175), some (.int x1), some (.int x2), some (.int x3), u4, u5] [.int s0] h =
  if s0 = 0 then
   some (some (.int (-1)), h)
  else
   cK (E d 367 [.ref 175, .int x1] h) (Q d 399 20 [some (.ref 175), some (.int x1), some (.int x2), some (.int x3), u4, u5]) [] := by
  rw [← hs.1]
  exact (blkM (fun p => Nat.beq p 20) 5 10 _ _ _).trans rfl

set_option maxRecDepth 16384 in
theorem t_399_20 {d : Nat} {h : AH} (hs : Sh h) (x2 : Int32) (x3 : Int32) (u1 : Option Value) (u4 : Option Value) (u5 : Option Value) (s0 : Int64) :
    Q d 399 20 [some (.ref 175), u1, some (.int x2), some (.int x3), u4, u5] [.long s0] h =
  cK (E d 362 [.ref 175] h) (Q d 399 26 [some (.ref 175), u1, some (.int x2), some (.int x3), some (.long s0), none]) [] := by
  rw [← hs.1]
  exact (blkM (fun p => Nat.beq p 26) 4 20 _ _ _).trans rfl

set_option maxRecDepth 16384 in
theorem t_399_26 {d : Nat} {h : AH} (hs : Sh h) (x2 : Int32) (x3 : Int32) (x4 : Int64) (u1 : Option Value) (s0 : Int32) :
    Q d 399 26 [some (.ref 175), u1, some (.int x2), some (.int x3), some (.long x4), none] [.int s0] h =
  if s0 = 0 then
   some (some (.int (-1)), h)
  else
   cK (E d 368 [.ref 175, .int x3, .long x4, .int x2] h) (Q d 399 37 [some (.ref 175), u1, some (.int x2), some (.int x3), some (.long x4), none]) [] := by
  rw [← hs.1]
  exact (blkM (fun p => Nat.beq p 37) 7 26 _ _ _).trans rfl

set_option maxRecDepth 16384 in
theorem t_399_37 {d : Nat} {h : AH} (hs : Sh h) (u0 : Option Value) (u1 : Option Value) (u2 : Option Value) (u3 : Option Value) (u4 : Option Value) (u5 : Option Value) (s0 : Int32) :
    Q d 399 37 [u0, u1, u2, u3, u4, u5] [.int s0] h =
  some (some (.int s0), h) := by
  rw [← hs.1]
  exact (blkM (fun p => false) 3 37 _ _ _).trans rfl

/-! 400 jdk/internal/util/ArraysSupport.newLength(III)I -/
set_option maxRecDepth 16384 in
theorem t_400 {d : Nat} {h : AH} (hs : Sh h) (x0 : Int32) (x1 : Int32) (x2 : Int32) :
    E (d + 1) 400 [.int x0, .int x1, .int x2] h =
  cK (E d 391 [.int x1, .int x2] h) (Q d 400 6 [some (.int x0), some (.int x1), some (.int x2), none]) [.int x0] := by
  rw [← hs.1]
  exact ent rfl ((blkM (fun p => Nat.beq p 6) 5 0 _ _ _).trans rfl)

set_option maxRecDepth 16384 in
theorem t_400_6 {d : Nat} {h : AH} (hs : Sh h) (x0 : Int32) (x1 : Int32) (u2 : Option Value) (u3 : Option Value) (s0 : Int32) (s1 : Int32) :
    Q d 400 6 [some (.int x0), some (.int x1), u2, u3] [.int s1, .int s0] h =
  if (0 : Int32) < s0 + s1 then
   if (2147483639 : Int32) < s0 + s1 then
    none
   else
    some (some (.int (s0 + s1)), h)
  else
   none := by
  rw [← hs.1]
  exact (blkM (fun p => false) 12 6 _ _ _).trans rfl

/-! 401 java/util/Arrays.copyOf([Ljava/lang/Object;I)[Ljava/lang/Object; -/
set_option maxRecDepth 16384 in
theorem t_401 {d : Nat} {h : AH} (hs : Sh h) (x0 : Nat) (x1 : Int32) :
    E (d + 1) 401 [.ref x0, .int x1] h =
  if gC h x0 = 65 ∧ 2 ≤ 20 then
   cK (E d 402 [.ref x0, .int x1, .ref 62] h) (Q d 401 9 [some (.ref x0), some (.int x1)]) []
  else
   none := by
  rw [← hs.1]
  exact ent rfl ((blkM (fun p => Nat.beq p 9) 6 0 _ _ _).trans rfl)

set_option maxRecDepth 16384 in
theorem t_401_9 {d : Nat} {h : AH} (hs : Sh h) (u0 : Option Value) (u1 : Option Value) (s0 : Nat) :
    Q d 401 9 [u0, u1] [.ref s0] h =
  some (some (.ref s0), h) := by
  rw [← hs.1]
  exact (blkM (fun p => false) 2 9 _ _ _).trans rfl

/-! 402 java/util/Arrays.copyOf([Ljava/lang/Object;ILjava/lang/Class;)[Ljava/lang/Object; -/
set_option maxRecDepth 16384 in
theorem t_402 {d : Nat} {h : AH} (hs : Sh h) (x0 : Nat) (x1 : Int32) (x2 : Nat) :
    E (d + 1) 402 [.ref x0, .int x1, .ref x2] h =
  if x2 = 62 then
   if x1 < 0 then
    none
   else
    if ix x1 ≤ 1000000 then
     Q d 402 10 [some (.ref x0), some (.int x1), some (.ref x2), none] [.ref (gN h)] (nwA h 65 (ix x1))
    else
     none
  else
   if gC h x2 ≠ 0 ∧ gC h 62 ≠ 0 ∧ (100 ≤ x2 ∨ 100 ≤ 62) then
    none
   else
    none := by
  rw [← hs.1]
  exact ent rfl ((blkM (fun p => Nat.beq p 10) 7 0 _ _ _).trans rfl)

set_option maxRecDepth 16384 in
theorem t_402_10 {d : Nat} {h : AH} (hs : Sh h) (x0 : Nat) (x1 : Int32) (u2 : Option Value) (u3 : Option Value) (s0 : Nat) :
    Q d 402 10 [some (.ref x0), some (.int x1), u2, u3] [.ref s0] h =
  if 60 ≤ gC h x0 ∧ gC h x0 ≤ 66 then
   cK (E d 302 [.int (nI (gK h x0)), .int x1] h) (Q d 402 35 [some (.ref x0), some (.int x1), none, some (.ref s0)]) [.int 0, .ref s0, .int 0, .ref x0]
  else
   none := by
  rw [← hs.1]
  exact (blkM (fun p => Nat.beq p 35) 11 10 _ _ _).trans rfl

set_option maxRecDepth 16384 in
theorem t_402_35 {d : Nat} {h : AH} (hs : Sh h) (x3 : Nat) (u0 : Option Value) (u1 : Option Value) (u2 : Option Value) (s0 : Nat) (s1 : Int32) (s2 : Nat) (s3 : Int32) (s4 : Int32) :
    Q d 402 35 [u0, u1, u2, some (.ref x3)] [.int s4, .int s3, .ref s2, .int s1, .ref s0] h =
  if gC h s0 = 65 ∧ gC h s2 = 65 ∧ 100 ≤ s0 ∧ 100 ≤ s2 ∧ 0 ≤ 20 then
   if s4 < 0 ∨ s3 < 0 ∨ s1 < 0 then
   none
  else
   if ix s1 + ix s4 ≤ gK h s0 ∧ ix s3 + ix s4 ≤ gK h s2 then
    some (some (.ref x3), cpO h s0 (ix s1) s2 (ix s3) (ix s4))
   else
    none
  else
   none := by
  rw [← hs.1]
  exact (blkM (fun p => false) 4 35 _ _ _).trans rfl

