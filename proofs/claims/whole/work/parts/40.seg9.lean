/-! ===== THE METHODS, PIECE BY PIECE: 9 (made by wip/gen/gen40.py) ===== -/
/-! 337 PostRoom$Machine.lay(I)V -/
set_option maxRecDepth 16384 in
theorem t_337 {d : Nat} {h : AH} (hs : Sh h) (x1 : Int32) :
    E (d + 1) 337 [.ref 175, .int x1] h =
  cK (E d 364 [.ref 175, .int x1] h) (Q d 337 5 [some (.ref 175), some (.int x1), none, none, none, none, none]) [] := by
  rw [← hs.1]
  exact ent rfl ((blkM (fun p => Nat.beq p 5) 4 0 _ _ _).trans rfl)

set_option maxRecDepth 16384 in
theorem t_337_5 {d : Nat} {h : AH} (hs : Sh h) (x1 : Int32) (u2 : Option Value) (u3 : Option Value) (u4 : Option Value) (u5 : Option Value) (u6 : Option Value) (s0 : Int32) :
    Q d 337 5 [some (.ref 175), some (.int x1), u2, u3, u4, u5, u6] [.int s0] h =
  cK (E d 362 [.ref 175] h) (Q d 337 10 [some (.ref 175), some (.int x1), some (.int s0), u3, u4, u5, u6]) [] := by
  rw [← hs.1]
  exact (blkM (fun p => Nat.beq p 10) 4 5 _ _ _).trans rfl

set_option maxRecDepth 16384 in
theorem t_337_10 {d : Nat} {h : AH} (hs : Sh h) (x1 : Int32) (x2 : Int32) (u3 : Option Value) (u4 : Option Value) (u5 : Option Value) (u6 : Option Value) (s0 : Int32) :
    Q d 337 10 [some (.ref 175), some (.int x1), some (.int x2), u3, u4, u5, u6] [.int s0] h =
  if s0 = 0 then
   some (none, h)
  else
   cK (E d 367 [.ref 175, .int x1] h) (Q d 337 19 [some (.ref 175), some (.int x1), some (.int x2), u3, u4, u5, u6]) [] := by
  rw [← hs.1]
  exact (blkM (fun p => Nat.beq p 19) 5 10 _ _ _).trans rfl

set_option maxRecDepth 16384 in
theorem t_337_19 {d : Nat} {h : AH} (hs : Sh h) (x1 : Int32) (x2 : Int32) (u3 : Option Value) (u4 : Option Value) (u5 : Option Value) (u6 : Option Value) (s0 : Int64) :
    Q d 337 19 [some (.ref 175), some (.int x1), some (.int x2), u3, u4, u5, u6] [.long s0] h =
  cK (E d 362 [.ref 175] h) (Q d 337 24 [some (.ref 175), some (.int x1), some (.int x2), some (.long s0), none, u5, u6]) [] := by
  rw [← hs.1]
  exact (blkM (fun p => Nat.beq p 24) 4 19 _ _ _).trans rfl

set_option maxRecDepth 16384 in
theorem t_337_24 {d : Nat} {h : AH} (hs : Sh h) (x1 : Int32) (x2 : Int32) (x3 : Int64) (u5 : Option Value) (u6 : Option Value) (s0 : Int32) :
    Q d 337 24 [some (.ref 175), some (.int x1), some (.int x2), some (.long x3), none, u5, u6] [.int s0] h =
  if s0 = 0 then
   some (none, h)
  else
   cK (E d 363 [.ref 175, .int x1] h) (Q d 337 33 [some (.ref 175), some (.int x1), some (.int x2), some (.long x3), none, u5, u6]) [] := by
  rw [← hs.1]
  exact (blkM (fun p => Nat.beq p 33) 5 24 _ _ _).trans rfl

set_option maxRecDepth 16384 in
theorem t_337_33 {d : Nat} {h : AH} (hs : Sh h) (x2 : Int32) (x3 : Int64) (u1 : Option Value) (u5 : Option Value) (u6 : Option Value) (s0 : Int32) :
    Q d 337 33 [some (.ref 175), u1, some (.int x2), some (.long x3), none, u5, u6] [.int s0] h =
  cK (E d 362 [.ref 175] (sI h 1545 175 ((gI h 1545 175) + 1))) (Q d 337 49 [some (.ref 175), u1, some (.int x2), some (.long x3), none, some (.int s0), u6]) [] := by
  rw [← hs.1]
  exact (blkM (fun p => Nat.beq p 49) 10 33 _ _ _).trans rfl

set_option maxRecDepth 16384 in
theorem t_337_49 {d : Nat} {h : AH} (hs : Sh h) (x2 : Int32) (x3 : Int64) (x5 : Int32) (u1 : Option Value) (u6 : Option Value) (s0 : Int32) :
    Q d 337 49 [some (.ref 175), u1, some (.int x2), some (.long x3), none, some (.int x5), u6] [.int s0] h =
  if s0 = 0 then
   some (none, h)
  else
   cK (E d 368 [.ref 175, .int x2, .long x3, .int 1] h) (Q d 337 60 [some (.ref 175), u1, some (.int x2), some (.long x3), none, some (.int x5), u6]) [] := by
  rw [← hs.1]
  exact (blkM (fun p => Nat.beq p 60) 7 49 _ _ _).trans rfl

set_option maxRecDepth 16384 in
theorem t_337_60 {d : Nat} {h : AH} (hs : Sh h) (x2 : Int32) (x5 : Int32) (u1 : Option Value) (u3 : Option Value) (u4 : Option Value) (u6 : Option Value) (s0 : Int32) :
    Q d 337 60 [some (.ref 175), u1, some (.int x2), u3, u4, some (.int x5), u6] [.int s0] h =
  if s0 = (-1) then
   some (none, h)
  else
   gd x2 12 <|
   cK (E d 370 [.ref 175, .int (gA h 178 (ix x2)), .long x5.toInt64] h) (Q d 337 82 [some (.ref 175), u1, some (.int x2), u3, u4, some (.int x5), some (.int s0)]) [] := by
  rw [← hs.1]
  exact (blkM (fun p => Nat.beq p 82) 13 60 _ _ _).trans rfl

set_option maxRecDepth 16384 in
theorem t_337_82 {d : Nat} {h : AH} (hs : Sh h) (x5 : Int32) (x6 : Int32) (u1 : Option Value) (u2 : Option Value) (u3 : Option Value) (u4 : Option Value) (s0 : Int32) :
    Q d 337 82 [some (.ref 175), u1, u2, u3, u4, some (.int x5), some (.int x6)] [.int s0] h =
  if s0 = 0 then
   cK (E d 365 [.ref 175, .int 5] h) (Q d 337 90 [some (.ref 175), u1, u2, u3, u4, some (.int x5), some (.int x6)]) []
  else
   gd x6 2000 <|
   some (none, sB h 182 (ix x6) x5.toInt64) := by
  rw [← hs.1]
  exact (blkM (fun p => Nat.beq p 90) 9 82 _ _ _).trans rfl

set_option maxRecDepth 16384 in
theorem t_337_90 {d : Nat} {h : AH} (hs : Sh h) (u0 : Option Value) (u1 : Option Value) (u2 : Option Value) (u3 : Option Value) (u4 : Option Value) (u5 : Option Value) (u6 : Option Value) :
    Q d 337 90 [u0, u1, u2, u3, u4, u5, u6] [] h =
  some (none, h) := by
  rw [← hs.1]
  exact (blkM (fun p => false) 2 90 _ _ _).trans rfl

/-! 338 PostRoom$Machine.slide(I)V -/
set_option maxRecDepth 16384 in
theorem t_338 {d : Nat} {h : AH} (hs : Sh h) (x1 : Int32) :
    E (d + 1) 338 [.ref 175, .int x1] h =
  cK (E d 364 [.ref 175, .int x1] h) (Q d 338 5 [some (.ref 175), some (.int x1), none, none, none, none, none, none, none, none]) [] := by
  rw [← hs.1]
  exact ent rfl ((blkM (fun p => Nat.beq p 5) 4 0 _ _ _).trans rfl)

set_option maxRecDepth 16384 in
theorem t_338_5 {d : Nat} {h : AH} (hs : Sh h) (x1 : Int32) (u2 : Option Value) (u3 : Option Value) (u4 : Option Value) (u5 : Option Value) (u6 : Option Value) (u7 : Option Value) (u8 : Option Value) (u9 : Option Value) (s0 : Int32) :
    Q d 338 5 [some (.ref 175), some (.int x1), u2, u3, u4, u5, u6, u7, u8, u9] [.int s0] h =
  cK (E d 362 [.ref 175] h) (Q d 338 10 [some (.ref 175), some (.int x1), some (.int s0), u3, u4, u5, u6, u7, u8, u9]) [] := by
  rw [← hs.1]
  exact (blkM (fun p => Nat.beq p 10) 4 5 _ _ _).trans rfl

set_option maxRecDepth 16384 in
theorem t_338_10 {d : Nat} {h : AH} (hs : Sh h) (x1 : Int32) (x2 : Int32) (u3 : Option Value) (u4 : Option Value) (u5 : Option Value) (u6 : Option Value) (u7 : Option Value) (u8 : Option Value) (u9 : Option Value) (s0 : Int32) :
    Q d 338 10 [some (.ref 175), some (.int x1), some (.int x2), u3, u4, u5, u6, u7, u8, u9] [.int s0] h =
  if s0 = 0 then
   cK (E d 362 [.ref 175] (sI h 1545 175 ((gI h 1545 175) + 1))) (Q d 338 37 [some (.ref 175), some (.int x1), some (.int x2), some (.long 0), none, none, none, none, none, none]) []
  else
   cK (E d 361 [.ref 175, .int x1] h) (Q d 338 18 [some (.ref 175), some (.int x1), some (.int x2), u3, u4, u5, u6, u7, u8, u9]) [] := by
  rw [← hs.1]
  exact (blkM (fun p => Nat.beq p 18 || Nat.beq p 37) 12 10 _ _ _).trans rfl

set_option maxRecDepth 16384 in
theorem t_338_18 {d : Nat} {h : AH} (hs : Sh h) (x1 : Int32) (x2 : Int32) (u3 : Option Value) (u4 : Option Value) (u5 : Option Value) (u6 : Option Value) (u7 : Option Value) (u8 : Option Value) (u9 : Option Value) (s0 : Int64) :
    Q d 338 18 [some (.ref 175), some (.int x1), some (.int x2), u3, u4, u5, u6, u7, u8, u9] [.long s0] h =
  cK (E d 362 [.ref 175] (sI h 1545 175 ((gI h 1545 175) + 1))) (Q d 338 37 [some (.ref 175), some (.int x1), some (.int x2), some (.long s0), none, none, none, none, none, none]) [] := by
  rw [← hs.1]
  exact (blkM (fun p => Nat.beq p 37) 11 18 _ _ _).trans rfl

set_option maxRecDepth 16384 in
theorem t_338_37 {d : Nat} {h : AH} (hs : Sh h) (x1 : Int32) (x2 : Int32) (x3 : Int64) (u5 : Option Value) (u6 : Option Value) (u7 : Option Value) (u8 : Option Value) (u9 : Option Value) (s0 : Int32) :
    Q d 338 37 [some (.ref 175), some (.int x1), some (.int x2), some (.long x3), none, u5, u6, u7, u8, u9] [.int s0] h =
  if s0 = 0 then
   cK (E d 362 [.ref 175] h) (Q d 338 55 [some (.ref 175), some (.int x1), some (.int x2), some (.long x3), none, some (.int 0), none, none, none, none]) []
  else
   cK (E d 364 [.ref 175, .int x1] h) (Q d 338 45 [some (.ref 175), some (.int x1), some (.int x2), some (.long x3), none, u5, u6, u7, u8, u9]) [] := by
  rw [← hs.1]
  exact (blkM (fun p => Nat.beq p 45 || Nat.beq p 55) 6 37 _ _ _).trans rfl

set_option maxRecDepth 16384 in
theorem t_338_45 {d : Nat} {h : AH} (hs : Sh h) (x1 : Int32) (x2 : Int32) (x3 : Int64) (u5 : Option Value) (u6 : Option Value) (u7 : Option Value) (u8 : Option Value) (u9 : Option Value) (s0 : Int32) :
    Q d 338 45 [some (.ref 175), some (.int x1), some (.int x2), some (.long x3), none, u5, u6, u7, u8, u9] [.int s0] h =
  cK (E d 362 [.ref 175] h) (Q d 338 55 [some (.ref 175), some (.int x1), some (.int x2), some (.long x3), none, some (.int s0), none, none, none, none]) [] := by
  rw [← hs.1]
  exact (blkM (fun p => Nat.beq p 55) 5 45 _ _ _).trans rfl

set_option maxRecDepth 16384 in
theorem t_338_55 {d : Nat} {h : AH} (hs : Sh h) (x1 : Int32) (x2 : Int32) (x3 : Int64) (x5 : Int32) (u6 : Option Value) (u7 : Option Value) (u8 : Option Value) (u9 : Option Value) (s0 : Int32) :
    Q d 338 55 [some (.ref 175), some (.int x1), some (.int x2), some (.long x3), none, some (.int x5), u6, u7, u8, u9] [.int s0] h =
  if s0 = 0 then
   cK (E d 362 [.ref 175] (sI h 1545 175 ((gI h 1545 175) + 1))) (Q d 338 83 [some (.ref 175), some (.int x1), some (.int x2), some (.long x3), none, some (.int x5), some (.long 0), none, none, none]) []
  else
   cK (E d 361 [.ref 175, .int x1] h) (Q d 338 63 [some (.ref 175), some (.int x1), some (.int x2), some (.long x3), none, some (.int x5), u6, u7, u8, u9]) [] := by
  rw [← hs.1]
  exact (blkM (fun p => Nat.beq p 63 || Nat.beq p 83) 12 55 _ _ _).trans rfl

set_option maxRecDepth 16384 in
theorem t_338_63 {d : Nat} {h : AH} (hs : Sh h) (x1 : Int32) (x2 : Int32) (x3 : Int64) (x5 : Int32) (u6 : Option Value) (u7 : Option Value) (u8 : Option Value) (u9 : Option Value) (s0 : Int64) :
    Q d 338 63 [some (.ref 175), some (.int x1), some (.int x2), some (.long x3), none, some (.int x5), u6, u7, u8, u9] [.long s0] h =
  cK (E d 362 [.ref 175] (sI h 1545 175 ((gI h 1545 175) + 1))) (Q d 338 83 [some (.ref 175), some (.int x1), some (.int x2), some (.long x3), none, some (.int x5), some (.long s0), none, none, none]) [] := by
  rw [← hs.1]
  exact (blkM (fun p => Nat.beq p 83) 11 63 _ _ _).trans rfl

set_option maxRecDepth 16384 in
theorem t_338_83 {d : Nat} {h : AH} (hs : Sh h) (x1 : Int32) (x2 : Int32) (x3 : Int64) (x5 : Int32) (x6 : Int64) (u8 : Option Value) (u9 : Option Value) (s0 : Int32) :
    Q d 338 83 [some (.ref 175), some (.int x1), some (.int x2), some (.long x3), none, some (.int x5), some (.long x6), none, u8, u9] [.int s0] h =
  if s0 = 0 then
   cK (E d 362 [.ref 175] (sI h 1545 175 ((gI h 1545 175) + 1))) (Q d 338 111 [some (.ref 175), none, some (.int x2), some (.long x3), none, some (.int x5), some (.long x6), none, some (.long 0), none]) []
  else
   cK (E d 361 [.ref 175, .int x1] h) (Q d 338 91 [some (.ref 175), some (.int x1), some (.int x2), some (.long x3), none, some (.int x5), some (.long x6), none, u8, u9]) [] := by
  rw [← hs.1]
  exact (blkM (fun p => Nat.beq p 91 || Nat.beq p 111) 12 83 _ _ _).trans rfl

set_option maxRecDepth 16384 in
theorem t_338_91 {d : Nat} {h : AH} (hs : Sh h) (x2 : Int32) (x3 : Int64) (x5 : Int32) (x6 : Int64) (u1 : Option Value) (u8 : Option Value) (u9 : Option Value) (s0 : Int64) :
    Q d 338 91 [some (.ref 175), u1, some (.int x2), some (.long x3), none, some (.int x5), some (.long x6), none, u8, u9] [.long s0] h =
  cK (E d 362 [.ref 175] (sI h 1545 175 ((gI h 1545 175) + 1))) (Q d 338 111 [some (.ref 175), none, some (.int x2), some (.long x3), none, some (.int x5), some (.long x6), none, some (.long s0), none]) [] := by
  rw [← hs.1]
  exact (blkM (fun p => Nat.beq p 111) 11 91 _ _ _).trans rfl

set_option maxRecDepth 16384 in
theorem t_338_111 {d : Nat} {h : AH} (hs : Sh h) (x2 : Int32) (x3 : Int64) (x5 : Int32) (x6 : Int64) (x8 : Int64) (u1 : Option Value) (s0 : Int32) :
    Q d 338 111 [some (.ref 175), u1, some (.int x2), some (.long x3), none, some (.int x5), some (.long x6), none, some (.long x8), none] [.int s0] h =
  if s0 = 0 then
   some (none, h)
  else
   gd x2 12 <|
   if gA h 178 (ix x2) = 0 then
    cK (E d 365 [.ref 175, .int 1] h) (Q d 338 139 [some (.ref 175), none, none, none, none, none, none, none, none, none]) []
   else
    gd x5 12 <|
    if gA h 178 (ix x5) = 0 then
     cK (E d 365 [.ref 175, .int 1] h) (Q d 338 139 [some (.ref 175), none, none, none, none, none, none, none, none, none]) []
    else
     gd x2 12 <|
     gd x5 12 <|
     if gA h 178 (ix x2) = gA h 178 (ix x5) then
      cK (E d 371 [.ref 175, .int x2, .long x3, .long x8] h) (Q d 338 197 [some (.ref 175), none, some (.int x2), some (.long x3), none, some (.int x5), some (.long x6), none, some (.long x8), none]) []
     else
      gd x2 12 <|
      if gA h 178 (ix x2) < 9 then
       cK (E d 365 [.ref 175, .int 2] h) (Q d 338 186 [some (.ref 175), none, none, none, none, none, none, none, none, none]) []
      else
       gd x5 12 <|
       if gA h 178 (ix x5) < 9 then
        cK (E d 365 [.ref 175, .int 2] h) (Q d 338 186 [some (.ref 175), none, none, none, none, none, none, none, none, none]) []
       else
        cK (E d 371 [.ref 175, .int x2, .long x3, .long x8] h) (Q d 338 197 [some (.ref 175), none, some (.int x2), some (.long x3), none, some (.int x5), some (.long x6), none, some (.long x8), none]) [] := by
  rw [← hs.1]
  exact (blkM (fun p => Nat.beq p 139 || Nat.beq p 186 || Nat.beq p 197) 38 111 _ _ _).trans rfl

set_option maxRecDepth 16384 in
theorem t_338_139 {d : Nat} {h : AH} (hs : Sh h) (u0 : Option Value) (u1 : Option Value) (u2 : Option Value) (u3 : Option Value) (u4 : Option Value) (u5 : Option Value) (u6 : Option Value) (u7 : Option Value) (u8 : Option Value) (u9 : Option Value) :
    Q d 338 139 [u0, u1, u2, u3, u4, u5, u6, u7, u8, u9] [] h =
  Q d 338 255 [none, none, none, none, none, none, none, none, none, none] [] h := by
  rw [← hs.1]
  exact (blkM (fun p => Nat.beq p 255) 3 139 _ _ _).trans rfl

set_option maxRecDepth 16384 in
theorem t_338_186 {d : Nat} {h : AH} (hs : Sh h) (u0 : Option Value) (u1 : Option Value) (u2 : Option Value) (u3 : Option Value) (u4 : Option Value) (u5 : Option Value) (u6 : Option Value) (u7 : Option Value) (u8 : Option Value) (u9 : Option Value) :
    Q d 338 186 [u0, u1, u2, u3, u4, u5, u6, u7, u8, u9] [] h =
  Q d 338 255 [none, none, none, none, none, none, none, none, none, none] [] h := by
  rw [← hs.1]
  exact (blkM (fun p => Nat.beq p 255) 3 186 _ _ _).trans rfl

set_option maxRecDepth 16384 in
theorem t_338_197 {d : Nat} {h : AH} (hs : Sh h) (x2 : Int32) (x3 : Int64) (x5 : Int32) (x6 : Int64) (x8 : Int64) (u1 : Option Value) (s0 : Int32) :
    Q d 338 197 [some (.ref 175), u1, some (.int x2), some (.long x3), none, some (.int x5), some (.long x6), none, some (.long x8), none] [.int s0] h =
  if s0 = 0 then
   cK (E d 365 [.ref 175, .int 3] h) (Q d 338 218 [some (.ref 175), none, none, none, none, none, none, none, none, none]) []
  else
   cK (E d 371 [.ref 175, .int x5, .long x6, .long x8] h) (Q d 338 210 [some (.ref 175), u1, some (.int x2), some (.long x3), none, some (.int x5), some (.long x6), none, some (.long x8), none]) [] := by
  rw [← hs.1]
  exact (blkM (fun p => Nat.beq p 210 || Nat.beq p 218) 7 197 _ _ _).trans rfl

set_option maxRecDepth 16384 in
theorem t_338_255 {d : Nat} {h : AH} (hs : Sh h)  :
    Q d 338 255 [none, none, none, none, none, none, none, none, none, none] [] h =
  some (none, h) := by
  rw [← hs.1]
  exact (blkM (fun p => false) 2 255 _ _ _).trans rfl

set_option maxRecDepth 16384 in
theorem t_338_210 {d : Nat} {h : AH} (hs : Sh h) (x2 : Int32) (x3 : Int64) (x5 : Int32) (x6 : Int64) (x8 : Int64) (u1 : Option Value) (s0 : Int32) :
    Q d 338 210 [some (.ref 175), u1, some (.int x2), some (.long x3), none, some (.int x5), some (.long x6), none, some (.long x8), none] [.int s0] h =
  if s0 = 0 then
   cK (E d 365 [.ref 175, .int 3] h) (Q d 338 218 [some (.ref 175), none, none, none, none, none, none, none, none, none]) []
  else
   gd x2 12 <|
   gd x5 12 <|
   gd x5 12 <|
   cK (E d 372 [.ref 175, .int ((gA h 179 (ix x2)) + x3.toInt32), .int ((gA h 179 (ix x5)) + x6.toInt32), .int x8.toInt32, .int (gA h 178 (ix x5))] h) (Q d 338 255 [none, none, none, none, none, none, none, none, none, none]) [] := by
  rw [← hs.1]
  exact (blkM (fun p => Nat.beq p 218 || Nat.beq p 255) 24 210 _ _ _).trans rfl

set_option maxRecDepth 16384 in
theorem t_338_218 {d : Nat} {h : AH} (hs : Sh h) (u0 : Option Value) (u1 : Option Value) (u2 : Option Value) (u3 : Option Value) (u4 : Option Value) (u5 : Option Value) (u6 : Option Value) (u7 : Option Value) (u8 : Option Value) (u9 : Option Value) :
    Q d 338 218 [u0, u1, u2, u3, u4, u5, u6, u7, u8, u9] [] h =
  Q d 338 255 [none, none, none, none, none, none, none, none, none, none] [] h := by
  rw [← hs.1]
  exact (blkM (fun p => Nat.beq p 255) 3 218 _ _ _).trans rfl

/-! 339 PostRoom$Machine.bagItem(I)V -/
set_option maxRecDepth 16384 in
theorem t_339 {d : Nat} {h : AH} (hs : Sh h) (x1 : Int32) :
    E (d + 1) 339 [.ref 175, .int x1] h =
  cK (E d 363 [.ref 175, .int x1] h) (Q d 339 5 [some (.ref 175), some (.int x1), none, none, none]) [] := by
  rw [← hs.1]
  exact ent rfl ((blkM (fun p => Nat.beq p 5) 4 0 _ _ _).trans rfl)

set_option maxRecDepth 16384 in
theorem t_339_5 {d : Nat} {h : AH} (hs : Sh h) (x1 : Int32) (u2 : Option Value) (u3 : Option Value) (u4 : Option Value) (s0 : Int32) :
    Q d 339 5 [some (.ref 175), some (.int x1), u2, u3, u4] [.int s0] h =
  cK (E d 362 [.ref 175] (sI h 1545 175 ((gI h 1545 175) + 1))) (Q d 339 20 [some (.ref 175), some (.int x1), some (.int s0), u3, u4]) [] := by
  rw [← hs.1]
  exact (blkM (fun p => Nat.beq p 20) 10 5 _ _ _).trans rfl

set_option maxRecDepth 16384 in
theorem t_339_20 {d : Nat} {h : AH} (hs : Sh h) (x1 : Int32) (x2 : Int32) (u3 : Option Value) (u4 : Option Value) (s0 : Int32) :
    Q d 339 20 [some (.ref 175), some (.int x1), some (.int x2), u3, u4] [.int s0] h =
  if s0 = 0 then
   some (none, h)
  else
   cK (E d 361 [.ref 175, .int x1] h) (Q d 339 29 [some (.ref 175), some (.int x1), some (.int x2), u3, u4]) [] := by
  rw [← hs.1]
  exact (blkM (fun p => Nat.beq p 29) 5 20 _ _ _).trans rfl

set_option maxRecDepth 16384 in
theorem t_339_29 {d : Nat} {h : AH} (hs : Sh h) (x2 : Int32) (u1 : Option Value) (u3 : Option Value) (u4 : Option Value) (s0 : Int64) :
    Q d 339 29 [some (.ref 175), u1, some (.int x2), u3, u4] [.long s0] h =
  cK (E d 362 [.ref 175] (sI h 1545 175 ((gI h 1545 175) + 1))) (Q d 339 44 [some (.ref 175), u1, some (.int x2), some (.long s0), none]) [] := by
  rw [← hs.1]
  exact (blkM (fun p => Nat.beq p 44) 10 29 _ _ _).trans rfl

set_option maxRecDepth 16384 in
theorem t_339_44 {d : Nat} {h : AH} (hs : Sh h) (x2 : Int32) (x3 : Int64) (u1 : Option Value) (s0 : Int32) :
    Q d 339 44 [some (.ref 175), u1, some (.int x2), some (.long x3), none] [.int s0] h =
  if s0 = 0 then
   some (none, h)
  else
   if x2 = (-1) then
    cK (E d 365 [.ref 175, .int 1] h) (Q d 339 58 [some (.ref 175), u1, some (.int x2), some (.long x3), none]) []
   else
    if lg_cmp x3 0 < 0 then
     cK (E d 365 [.ref 175, .int 3] h) (Q d 339 91 [some (.ref 175), none, none, none, none]) []
    else
     (gR h 2048 156).bind fun y1 =>
      ck (gC h y1) 2 <|
      (gR h 515 y1).bind fun y2 =>
       ck (gC h y2) 1 <|
       cK (E d 213 [.ref y2] h) (Q d 339 81 [some (.ref 175), u1, some (.int x2), some (.long x3), none]) [.long x3] := by
  rw [← hs.1]
  exact (blkM (fun p => Nat.beq p 58 || Nat.beq p 81 || Nat.beq p 91) 15 44 _ _ _).trans rfl

set_option maxRecDepth 16384 in
theorem t_339_58 {d : Nat} {h : AH} (hs : Sh h) (u0 : Option Value) (u1 : Option Value) (u2 : Option Value) (u3 : Option Value) (u4 : Option Value) :
    Q d 339 58 [u0, u1, u2, u3, u4] [] h =
  Q d 339 207 [none, none, none, none, none] [] h := by
  rw [← hs.1]
  exact (blkM (fun p => Nat.beq p 207) 3 58 _ _ _).trans rfl

set_option maxRecDepth 16384 in
theorem t_339_81 {d : Nat} {h : AH} (hs : Sh h) (x2 : Int32) (x3 : Int64) (u1 : Option Value) (s0 : Int64) (s1 : Int32) :
    Q d 339 81 [some (.ref 175), u1, some (.int x2), some (.long x3), none] [.int s1, .long s0] h =
  if lg_cmp s0 s1.toInt64 < 0 then
   cK (E d 212 [.ref 164, .int x2] h) (Q d 339 105 [some (.ref 175), u1, some (.int x2), some (.long x3), none]) []
  else
   cK (E d 365 [.ref 175, .int 3] h) (Q d 339 91 [some (.ref 175), none, none, none, none]) [] := by
  rw [← hs.1]
  exact (blkM (fun p => Nat.beq p 91 || Nat.beq p 105) 9 81 _ _ _).trans rfl

set_option maxRecDepth 16384 in
theorem t_339_91 {d : Nat} {h : AH} (hs : Sh h) (u0 : Option Value) (u1 : Option Value) (u2 : Option Value) (u3 : Option Value) (u4 : Option Value) :
    Q d 339 91 [u0, u1, u2, u3, u4] [] h =
  Q d 339 207 [none, none, none, none, none] [] h := by
  rw [← hs.1]
  exact (blkM (fun p => Nat.beq p 207) 3 91 _ _ _).trans rfl

set_option maxRecDepth 16384 in
theorem t_339_207 {d : Nat} {h : AH} (hs : Sh h)  :
    Q d 339 207 [none, none, none, none, none] [] h =
  some (none, h) := by
  rw [← hs.1]
  exact (blkM (fun p => false) 2 207 _ _ _).trans rfl

set_option maxRecDepth 16384 in
theorem t_339_105 {d : Nat} {h : AH} (hs : Sh h) (x2 : Int32) (x3 : Int64) (u1 : Option Value) (s0 : Nat) :
    Q d 339 105 [some (.ref 175), u1, some (.int x2), some (.long x3), none] [.ref s0] h =
  (ck (gC h s0) 5 <|
  ck (gC h s0) 5 <|
  if gI h 1288 s0 = 0 then
   cK (E d 212 [.ref 164, .int x2] h) (Q d 339 125 [some (.ref 175), u1, some (.int x2), some (.long x3), none]) []
  else
   cK (E d 365 [.ref 175, .int 7] h) (Q d 339 144 [some (.ref 175), none, none, none, none]) []) := by
  rw [← hs.1]
  exact (blkM (fun p => Nat.beq p 125 || Nat.beq p 144) 9 105 _ _ _).trans rfl

set_option maxRecDepth 16384 in
theorem t_339_125 {d : Nat} {h : AH} (hs : Sh h) (x2 : Int32) (x3 : Int64) (u1 : Option Value) (s0 : Nat) :
    Q d 339 125 [some (.ref 175), u1, some (.int x2), some (.long x3), none] [.ref s0] h =
  (ck (gC h s0) 5 <|
  ck (gC h s0) 5 <|
  if gI h 1289 s0 = gI h 1546 175 then
   (gR h 2048 156).bind fun y1 =>
    ck (gC h y1) 2 <|
    (gR h 515 y1).bind fun y2 =>
     ck (gC h y2) 1 <|
     cK (E d 212 [.ref y2, .int x3.toInt32] h) (Q d 339 162 [some (.ref 175), u1, some (.int x2), some (.long x3), none]) []
  else
   cK (E d 365 [.ref 175, .int 7] h) (Q d 339 144 [some (.ref 175), none, none, none, none]) []) := by
  rw [← hs.1]
  exact (blkM (fun p => Nat.beq p 144 || Nat.beq p 162) 13 125 _ _ _).trans rfl

set_option maxRecDepth 16384 in
theorem t_339_144 {d : Nat} {h : AH} (hs : Sh h) (u0 : Option Value) (u1 : Option Value) (u2 : Option Value) (u3 : Option Value) (u4 : Option Value) :
    Q d 339 144 [u0, u1, u2, u3, u4] [] h =
  Q d 339 207 [none, none, none, none, none] [] h := by
  rw [← hs.1]
  exact (blkM (fun p => Nat.beq p 207) 3 144 _ _ _).trans rfl

set_option maxRecDepth 16384 in
theorem t_339_162 {d : Nat} {h : AH} (hs : Sh h) (x2 : Int32) (x3 : Int64) (u1 : Option Value) (s0 : Nat) :
    Q d 339 162 [some (.ref 175), u1, some (.int x2), some (.long x3), none] [.ref s0] h =
  (ck (gC h s0) 3 <|
  ck (gC h s0) 3 <|
  if gI h 768 s0 = gI h 1546 175 then
   cK (E d 212 [.ref 164, .int x2] h) (Q d 339 199 [some (.ref 175), u1, some (.int x2), some (.long x3), none]) [.ref 156]
  else
   cK (E d 365 [.ref 175, .int 8] h) (Q d 339 181 [some (.ref 175), u1, some (.int x2), some (.long x3), none]) []) := by
  rw [← hs.1]
  exact (blkM (fun p => Nat.beq p 181 || Nat.beq p 199) 13 162 _ _ _).trans rfl

set_option maxRecDepth 16384 in
theorem t_339_181 {d : Nat} {h : AH} (hs : Sh h) (u0 : Option Value) (u1 : Option Value) (u2 : Option Value) (u3 : Option Value) (u4 : Option Value) :
    Q d 339 181 [u0, u1, u2, u3, u4] [] h =
  Q d 339 207 [none, none, none, none, none] [] h := by
  rw [← hs.1]
  exact (blkM (fun p => Nat.beq p 207) 3 181 _ _ _).trans rfl

set_option maxRecDepth 16384 in
theorem t_339_199 {d : Nat} {h : AH} (hs : Sh h) (x3 : Int64) (u0 : Option Value) (u1 : Option Value) (u2 : Option Value) (s0 : Nat) (s1 : Nat) :
    Q d 339 199 [u0, u1, u2, some (.long x3), none] [.ref s1, .ref s0] h =
  (ck (gC h s1) 5 <|
  ck (gC h s0) 8 <|
  cK (E d 255 [.ref s0, .ref s1, .int x3.toInt32] h) (Q d 339 207 [none, none, none, none, none]) []) := by
  rw [← hs.1]
  exact (blkM (fun p => Nat.beq p 207) 5 199 _ _ _).trans rfl

/-! 340 PostRoom$Machine.refuseOwn(I)V -/
set_option maxRecDepth 16384 in
theorem t_340 {d : Nat} {h : AH} (hs : Sh h) (x1 : Int32) :
    E (d + 1) 340 [.ref 175, .int x1] h =
  cK (E d 361 [.ref 175, .int x1] h) (Q d 340 5 [some (.ref 175), some (.int x1), none, none]) [] := by
  rw [← hs.1]
  exact ent rfl ((blkM (fun p => Nat.beq p 5) 4 0 _ _ _).trans rfl)

set_option maxRecDepth 16384 in
theorem t_340_5 {d : Nat} {h : AH} (hs : Sh h) (u1 : Option Value) (u2 : Option Value) (u3 : Option Value) (s0 : Int64) :
    Q d 340 5 [some (.ref 175), u1, u2, u3] [.long s0] h =
  cK (E d 362 [.ref 175] h) (Q d 340 10 [some (.ref 175), klV u1, some (.long s0), none]) [] := by
  rw [← hs.1]
  exact (blkM (fun p => Nat.beq p 10) 4 5 _ _ _).trans rfl

set_option maxRecDepth 16384 in
theorem t_340_10 {d : Nat} {h : AH} (hs : Sh h) (x2 : Int64) (u1 : Option Value) (s0 : Int32) :
    Q d 340 10 [some (.ref 175), u1, some (.long x2), none] [.int s0] h =
  if s0 = 0 then
   Q d 340 24 [none, none, none, none] [] h
  else
   cK (E d 365 [.ref 175, .int 9] (sL h 1548 175 x2)) (Q d 340 24 [none, none, none, none]) [] := by
  rw [← hs.1]
  exact (blkM (fun p => Nat.beq p 24) 8 10 _ _ _).trans rfl

set_option maxRecDepth 16384 in
theorem t_340_24 {d : Nat} {h : AH} (hs : Sh h)  :
    Q d 340 24 [none, none, none, none] [] h =
  some (none, h) := by
  rw [← hs.1]
  exact (blkM (fun p => false) 2 24 _ _ _).trans rfl

/-! 341 PostRoom$Machine.choose(I)V -/
set_option maxRecDepth 16384 in
theorem t_341 {d : Nat} {h : AH} (hs : Sh h) (x1 : Int32) :
    E (d + 1) 341 [.ref 175, .int x1] h =
  cK (E d 361 [.ref 175, .int x1] h) (Q d 341 5 [some (.ref 175), some (.int x1), none]) [] := by
  rw [← hs.1]
  exact ent rfl ((blkM (fun p => Nat.beq p 5) 4 0 _ _ _).trans rfl)

set_option maxRecDepth 16384 in
theorem t_341_5 {d : Nat} {h : AH} (hs : Sh h) (x1 : Int32) (u2 : Option Value) (s0 : Int64) :
    Q d 341 5 [some (.ref 175), some (.int x1), u2] [.long s0] h =
  if lg_cmp s0 0 = 0 then
   cK (E d 362 [.ref 175] h) (Q d 341 20 [some (.ref 175), some (.int x1), some (.int 0)]) []
  else
   cK (E d 362 [.ref 175] h) (Q d 341 20 [some (.ref 175), some (.int x1), some (.int 1)]) [] := by
  rw [← hs.1]
  exact (blkM (fun p => Nat.beq p 20) 9 5 _ _ _).trans rfl

set_option maxRecDepth 16384 in
theorem t_341_20 {d : Nat} {h : AH} (hs : Sh h) (x1 : Int32) (x2 : Int32) (s0 : Int32) :
    Q d 341 20 [some (.ref 175), some (.int x1), some (.int x2)] [.int s0] h =
  if s0 = 0 then
   some (none, h)
  else
   if x2 = 0 then
    cK (E d 374 [.ref 175] h) (Q d 341 40 [some (.ref 175), some (.int x1), some (.int x2)]) []
   else
    cK (E d 373 [.ref 175, .int x1] h) (Q d 341 33 [some (.ref 175), some (.int x1), some (.int x2)]) [] := by
  rw [← hs.1]
  exact (blkM (fun p => Nat.beq p 33 || Nat.beq p 40) 7 20 _ _ _).trans rfl

set_option maxRecDepth 16384 in
theorem t_341_33 {d : Nat} {h : AH} (hs : Sh h) (x1 : Int32) (x2 : Int32) :
    Q d 341 33 [some (.ref 175), some (.int x1), some (.int x2)] [] h =
  Q d 341 40 [some (.ref 175), some (.int x1), some (.int x2)] [] h := by
  rw [← hs.1]
  exact (blkM (fun p => Nat.beq p 40) 3 33 _ _ _).trans rfl

set_option maxRecDepth 16384 in
theorem t_341_40 {d : Nat} {h : AH} (hs : Sh h) (x1 : Int32) (x2 : Int32) :
    Q d 341 40 [some (.ref 175), some (.int x1), some (.int x2)] [] h =
  cK (E d 362 [.ref 175] h) (Q d 341 44 [some (.ref 175), some (.int x1), some (.int x2)]) [] := by
  rw [← hs.1]
  exact (blkM (fun p => Nat.beq p 44) 3 40 _ _ _).trans rfl

set_option maxRecDepth 16384 in
theorem t_341_44 {d : Nat} {h : AH} (hs : Sh h) (x1 : Int32) (x2 : Int32) (s0 : Int32) :
    Q d 341 44 [some (.ref 175), some (.int x1), some (.int x2)] [.int s0] h =
  if s0 = 0 then
   some (none, h)
  else
   cK (E d 328 [.ref 175] h) (Q d 341 51 [some (.ref 175), some (.int x1), some (.int x2)]) [] := by
  rw [← hs.1]
  exact (blkM (fun p => Nat.beq p 51) 4 44 _ _ _).trans rfl

set_option maxRecDepth 16384 in
theorem t_341_51 {d : Nat} {h : AH} (hs : Sh h) (x1 : Int32) (x2 : Int32) (s0 : Int32) :
    Q d 341 51 [some (.ref 175), some (.int x1), some (.int x2)] [.int s0] h =
  if s0 = 138 then
   if x2 = 0 then
    cK (E d 373 [.ref 175, .int x1] (sI h 1545 175 ((gI h 1545 175) + 1))) (Q d 341 84 [none, none, none]) []
   else
    cK (E d 374 [.ref 175] (sI h 1545 175 ((gI h 1545 175) + 1))) (Q d 341 76 [some (.ref 175), some (.int x1), some (.int x2)]) []
  else
   some (none, h) := by
  rw [← hs.1]
  exact (blkM (fun p => Nat.beq p 76 || Nat.beq p 84) 14 51 _ _ _).trans rfl

set_option maxRecDepth 16384 in
theorem t_341_76 {d : Nat} {h : AH} (hs : Sh h) (u0 : Option Value) (u1 : Option Value) (u2 : Option Value) :
    Q d 341 76 [u0, u1, u2] [] h =
  Q d 341 84 [none, none, none] [] h := by
  rw [← hs.1]
  exact (blkM (fun p => Nat.beq p 84) 3 76 _ _ _).trans rfl

set_option maxRecDepth 16384 in
theorem t_341_84 {d : Nat} {h : AH} (hs : Sh h)  :
    Q d 341 84 [none, none, none] [] h =
  some (none, h) := by
  rw [← hs.1]
  exact (blkM (fun p => false) 2 84 _ _ _).trans rfl

/-! 342 PostRoom$Machine.repeat(I)V -/
set_option maxRecDepth 16384 in
theorem t_342 {d : Nat} {h : AH} (hs : Sh h) (x1 : Int32) :
    E (d + 1) 342 [.ref 175, .int x1] h =
  Q d 342 7 [some (.ref 175), some (.int x1), some (.int (gI h 1545 175)), some (.int 0), none] [] h := by
  rw [← hs.1]
  exact ent rfl ((blkM (fun p => Nat.beq p 7) 7 0 _ _ _).trans rfl)

set_option maxRecDepth 16384 in
theorem t_342_7 {d : Nat} {h : AH} (hs : Sh h) (x1 : Int32) (x2 : Int32) (x3 : Int32) :
    Q d 342 7 [some (.ref 175), some (.int x1), some (.int x2), some (.int x3), none] [] h =
  if (20000 : Int32) < x3 then
   some (none, h)
  else
   cK (E d 329 [.ref 175] (sI h 1545 175 x2)) (Q d 342 23 [some (.ref 175), some (.int x1), some (.int x2), some (.int x3), none]) [] := by
  rw [← hs.1]
  exact (blkM (fun p => Nat.beq p 23) 9 7 _ _ _).trans rfl

set_option maxRecDepth 16384 in
theorem t_342_23 {d : Nat} {h : AH} (hs : Sh h) (x1 : Int32) (x2 : Int32) (x3 : Int32) (u4 : Option Value) (s0 : Int32) :
    Q d 342 23 [some (.ref 175), some (.int x1), some (.int x2), some (.int x3), u4] [.int s0] h =
  if s0 = 0 then
   some (none, h)
  else
   cK (E d 361 [.ref 175, .int x1] h) (Q d 342 32 [some (.ref 175), some (.int x1), some (.int x2), some (.int x3), u4]) [] := by
  rw [← hs.1]
  exact (blkM (fun p => Nat.beq p 32) 5 23 _ _ _).trans rfl

set_option maxRecDepth 16384 in
theorem t_342_32 {d : Nat} {h : AH} (hs : Sh h) (x1 : Int32) (x2 : Int32) (x3 : Int32) (u4 : Option Value) (s0 : Int64) :
    Q d 342 32 [some (.ref 175), some (.int x1), some (.int x2), some (.int x3), u4] [.long s0] h =
  if lg_cmp s0 0 = 0 then
   cK (E d 362 [.ref 175] h) (Q d 342 48 [some (.ref 175), some (.int x1), some (.int x2), some (.int x3), some (.int 0)]) []
  else
   cK (E d 362 [.ref 175] h) (Q d 342 48 [some (.ref 175), some (.int x1), some (.int x2), some (.int x3), some (.int 1)]) [] := by
  rw [← hs.1]
  exact (blkM (fun p => Nat.beq p 48) 9 32 _ _ _).trans rfl

set_option maxRecDepth 16384 in
theorem t_342_48 {d : Nat} {h : AH} (hs : Sh h) (x1 : Int32) (x2 : Int32) (x3 : Int32) (x4 : Int32) (s0 : Int32) :
    Q d 342 48 [some (.ref 175), some (.int x1), some (.int x2), some (.int x3), some (.int x4)] [.int s0] h =
  if s0 = 0 then
   some (none, h)
  else
   if x4 = 0 then
    cK (E d 374 [.ref 175] h) (Q d 342 61 [some (.ref 175), some (.int x1), some (.int x2), some (.int x3), some (.int x4)]) []
   else
    cK (E d 373 [.ref 175, .int x1] h) (Q d 342 67 [some (.ref 175), some (.int x1), some (.int x2), some (.int x3), some (.int x4)]) [] := by
  rw [← hs.1]
  exact (blkM (fun p => Nat.beq p 61 || Nat.beq p 67) 7 48 _ _ _).trans rfl

set_option maxRecDepth 16384 in
theorem t_342_61 {d : Nat} {h : AH} (hs : Sh h) (u0 : Option Value) (u1 : Option Value) (u2 : Option Value) (u3 : Option Value) (u4 : Option Value) :
    Q d 342 61 [u0, u1, u2, u3, u4] [] h =
  some (none, h) := by
  rw [← hs.1]
  exact (blkM (fun p => false) 2 61 _ _ _).trans rfl

set_option maxRecDepth 16384 in
theorem t_342_67 {d : Nat} {h : AH} (hs : Sh h) (x1 : Int32) (x2 : Int32) (x3 : Int32) (u4 : Option Value) :
    Q d 342 67 [some (.ref 175), some (.int x1), some (.int x2), some (.int x3), u4] [] h =
  cK (E d 362 [.ref 175] h) (Q d 342 71 [some (.ref 175), some (.int x1), some (.int x2), some (.int x3), u4]) [] := by
  rw [← hs.1]
  exact (blkM (fun p => Nat.beq p 71) 3 67 _ _ _).trans rfl

set_option maxRecDepth 16384 in
theorem t_342_71 {d : Nat} {h : AH} (hs : Sh h) (x1 : Int32) (x2 : Int32) (x3 : Int32) (u4 : Option Value) (s0 : Int32) :
    Q d 342 71 [some (.ref 175), some (.int x1), some (.int x2), some (.int x3), u4] [.int s0] h =
  if s0 = 0 then
   some (none, h)
  else
   Q d 342 7 [some (.ref 175), some (.int x1), some (.int x2), some (.int (x3 + 1)), none] [] h := by
  rw [← hs.1]
  exact (blkM (fun p => Nat.beq p 7) 5 71 _ _ _).trans rfl

/-! 343 PostRoom$Machine.attempt(I)V -/
set_option maxRecDepth 16384 in
theorem t_343 {d : Nat} {h : AH} (hs : Sh h) (x1 : Int32) :
    E (d + 1) 343 [.ref 175, .int x1] h =
  cK (E d 373 [.ref 175, .int x1] h) (Q d 343 5 [some (.ref 175), some (.int x1), none, none, none, none]) [] := by
  rw [← hs.1]
  exact ent rfl ((blkM (fun p => Nat.beq p 5) 4 0 _ _ _).trans rfl)

set_option maxRecDepth 16384 in
theorem t_343_5 {d : Nat} {h : AH} (hs : Sh h) (x1 : Int32) (u2 : Option Value) (u3 : Option Value) (u4 : Option Value) (u5 : Option Value) :
    Q d 343 5 [some (.ref 175), some (.int x1), u2, u3, u4, u5] [] h =
  if gI h 1547 175 < 1 then
   Q d 343 30 [some (.ref 175), some (.int x1), some (.int (gI h 1547 175)), some (.int 0), some (.int 0), none] [] h
  else
   if (9 : Int32) < gI h 1547 175 then
    Q d 343 30 [some (.ref 175), some (.int x1), some (.int (gI h 1547 175)), some (.int 0), some (.int 0), none] [] h
   else
    Q d 343 30 [some (.ref 175), some (.int x1), some (.int (gI h 1547 175)), some (.int 1), some (.int 0), none] [] h := by
  rw [← hs.1]
  exact (blkM (fun p => Nat.beq p 30) 16 5 _ _ _).trans rfl

set_option maxRecDepth 16384 in
theorem t_343_30 {d : Nat} {h : AH} (hs : Sh h) (x1 : Int32) (x2 : Int32) (x3 : Int32) (x4 : Int32) :
    Q d 343 30 [some (.ref 175), some (.int x1), some (.int x2), some (.int x3), some (.int x4), none] [] h =
  if x4 < 4000 then
   cK (E d 328 [.ref 175] h) (Q d 343 42 [some (.ref 175), some (.int x1), some (.int x2), some (.int x3), some (.int x4), none]) []
  else
   cK (E d 328 [.ref 175] h) (Q d 343 139 [some (.ref 175), some (.int x1), none, none, none, none]) [] := by
  rw [← hs.1]
  exact (blkM (fun p => Nat.beq p 42 || Nat.beq p 139) 6 30 _ _ _).trans rfl

set_option maxRecDepth 16384 in
theorem t_343_42 {d : Nat} {h : AH} (hs : Sh h) (x1 : Int32) (x2 : Int32) (x3 : Int32) (x4 : Int32) (u5 : Option Value) (s0 : Int32) :
    Q d 343 42 [some (.ref 175), some (.int x1), some (.int x2), some (.int x3), some (.int x4), u5] [.int s0] h =
  if s0 = 141 then
   (gR h 1544 175).bind fun y1 =>
    ck (gC h y1) 9 <|
    cK (E d 330 [.ref y1, .int ((gI h 1545 175) + 1)] h) (Q d 343 61 [some (.ref 175), some (.int x1), some (.int x2), some (.int x3), some (.int x4), u5]) []
  else
   cK (E d 328 [.ref 175] h) (Q d 343 139 [some (.ref 175), some (.int x1), none, none, none, none]) [] := by
  rw [← hs.1]
  exact (blkM (fun p => Nat.beq p 61 || Nat.beq p 139) 10 42 _ _ _).trans rfl

set_option maxRecDepth 16384 in
theorem t_343_139 {d : Nat} {h : AH} (hs : Sh h) (x1 : Int32) (u2 : Option Value) (u3 : Option Value) (u4 : Option Value) (u5 : Option Value) (s0 : Int32) :
    Q d 343 139 [some (.ref 175), some (.int x1), u2, u3, u4, u5] [.int s0] h =
  if s0 = 142 then
   if gI h 1547 175 = 10 then
    Q d 343 178 [none, none, none, none, none, none] [] h
   else
    if gI h 1547 175 = 11 then
     Q d 343 178 [none, none, none, none, none, none] [] h
    else
     cK (E d 375 [.ref 175, .int x1] (sI h 1545 175 ((gI h 1545 175) + 1))) (Q d 343 178 [none, none, none, none, none, none]) []
  else
   Q d 343 178 [none, none, none, none, none, none] [] h := by
  rw [← hs.1]
  exact (blkM (fun p => Nat.beq p 178) 20 139 _ _ _).trans rfl

set_option maxRecDepth 16384 in
theorem t_343_61 {d : Nat} {h : AH} (hs : Sh h) (x1 : Int32) (x2 : Int32) (x3 : Int32) (x4 : Int32) (u5 : Option Value) (s0 : Int32) :
    Q d 343 61 [some (.ref 175), some (.int x1), some (.int x2), some (.int x3), some (.int x4), u5] [.int s0] h =
  if x3 = 0 then
   cK (E d 374 [.ref 175] (sI h 1545 175 ((gI h 1545 175) + 2))) (Q d 343 129 [some (.ref 175), some (.int x1), some (.int x2), some (.int x3), some (.int x4), none]) []
  else
   if s0 = x2 then
    if x2 = 9 then
     cK (E d 373 [.ref 175, .int x1] (sI (sB (sI h 1545 175 ((gI h 1545 175) + 2)) 176 9 (gL h 1548 175)) 1547 175 0)) (Q d 343 122 [some (.ref 175), some (.int x1), some (.int x2), some (.int 0), some (.int x4), none]) []
    else
     cK (E d 373 [.ref 175, .int x1] (sI (sB (sI h 1545 175 ((gI h 1545 175) + 2)) 176 9 x2.toInt64) 1547 175 0)) (Q d 343 122 [some (.ref 175), some (.int x1), some (.int x2), some (.int 0), some (.int x4), none]) []
   else
    if s0 = 0 then
     if x2 = 9 then
      cK (E d 373 [.ref 175, .int x1] (sI (sB (sI h 1545 175 ((gI h 1545 175) + 2)) 176 9 (gL h 1548 175)) 1547 175 0)) (Q d 343 122 [some (.ref 175), some (.int x1), some (.int x2), some (.int 0), some (.int x4), none]) []
     else
      cK (E d 373 [.ref 175, .int x1] (sI (sB (sI h 1545 175 ((gI h 1545 175) + 2)) 176 9 x2.toInt64) 1547 175 0)) (Q d 343 122 [some (.ref 175), some (.int x1), some (.int x2), some (.int 0), some (.int x4), none]) []
    else
     cK (E d 374 [.ref 175] (sI h 1545 175 ((gI h 1545 175) + 2))) (Q d 343 129 [some (.ref 175), some (.int x1), some (.int x2), some (.int x3), some (.int x4), none]) [] := by
  rw [← hs.1]
  exact (blkM (fun p => Nat.beq p 122 || Nat.beq p 129) 33 61 _ _ _).trans rfl

set_option maxRecDepth 16384 in
theorem t_343_178 {d : Nat} {h : AH} (hs : Sh h)  :
    Q d 343 178 [none, none, none, none, none, none] [] h =
  some (none, h) := by
  rw [← hs.1]
  exact (blkM (fun p => false) 2 178 _ _ _).trans rfl

set_option maxRecDepth 16384 in
theorem t_343_122 {d : Nat} {h : AH} (hs : Sh h) (x1 : Int32) (x2 : Int32) (x3 : Int32) (x4 : Int32) (u5 : Option Value) :
    Q d 343 122 [some (.ref 175), some (.int x1), some (.int x2), some (.int x3), some (.int x4), u5] [] h =
  Q d 343 129 [some (.ref 175), some (.int x1), some (.int x2), some (.int x3), some (.int x4), none] [] h := by
  rw [← hs.1]
  exact (blkM (fun p => Nat.beq p 129) 3 122 _ _ _).trans rfl

set_option maxRecDepth 16384 in
theorem t_343_129 {d : Nat} {h : AH} (hs : Sh h) (x1 : Int32) (x2 : Int32) (x3 : Int32) (x4 : Int32) :
    Q d 343 129 [some (.ref 175), some (.int x1), some (.int x2), some (.int x3), some (.int x4), none] [] h =
  Q d 343 30 [some (.ref 175), some (.int x1), some (.int x2), some (.int x3), some (.int (x4 + 1)), none] [] h := by
  rw [← hs.1]
  exact (blkM (fun p => Nat.beq p 30) 4 129 _ _ _).trans rfl

/-! 344 jdk/internal/util/Preconditions.checkIndex(IILjava/util/function/BiFunction;)I -/
set_option maxRecDepth 16384 in
theorem t_344 {d : Nat} {h : AH} (hs : Sh h) (x0 : Int32) (x1 : Int32) (x2 : Nat) :
    E (d + 1) 344 [.int x0, .int x1, .ref x2] h =
  if x0 < 0 then
   none
  else
   if x0 < x1 then
    some (some (.int x0), h)
   else
    none := by
  rw [← hs.1]
  exact ent rfl ((blkM (fun p => false) 10 0 _ _ _).trans rfl)

/-! 345 java/lang/Math.abs(I)I -/
set_option maxRecDepth 16384 in
theorem t_345 {d : Nat} {h : AH} (hs : Sh h) (x0 : Int32) :
    E (d + 1) 345 [.int x0] h =
  if x0 < 0 then
   some (some (.int (-x0)), h)
  else
   some (some (.int x0), h) := by
  rw [← hs.1]
  exact ent rfl ((blkM (fun p => false) 7 0 _ _ _).trans rfl)

/-! 346 PostRoom$Service.byRule(IJII)J -/
set_option maxRecDepth 16384 in
theorem t_346 {d : Nat} {h : AH} (hs : Sh h) (x0 : Nat) (x1 : Int32) (x2 : Int64) (x4 : Int32) (x5 : Int32) :
    E (d + 1) 346 [.ref x0, .int x1, .long x2, .int x4, .int x5] h =
  (ck (gC h x0) 10 <|
  (gR h 2565 x0).bind fun y1 =>
   ck (gC h y1) 60 <|
   gd x1 (gK h y1) <|
   ck (gC h x0) 10 <|
   (gR h 2564 x0).bind fun y2 =>
    ck (gC h y2) 60 <|
    gd x1 (gK h y2) <|
    if gA h y2 (ix x1) = 0 then
     some (some (.long (x2 + ((gA h y1 (ix x1)).toInt64))), h)
    else
     if gA h y2 (ix x1) = 1 then
     ck (gC h x0) 10 <|
     (gR h 2567 x0).bind fun y4 =>
      ck (gC h y4) 60 <|
      gd x1 (gK h y4) <|
      if gA h y4 (ix x1) < x4 then
       ck (gC h x0) 10 <|
       (gR h 2566 x0).bind fun y5 =>
        ck (gC h y5) 60 <|
        gd x1 (gK h y5) <|
        if (0 : Int32) < gA h y5 (ix x1) then
         ck (gC h x0) 10 <|
         (gR h 2567 x0).bind fun y6 =>
          ck (gC h y6) 60 <|
          gd x1 (gK h y6) <|
          ck (gC h x0) 10 <|
          (gR h 2566 x0).bind fun y7 =>
           ck (gC h y7) 60 <|
           gd x1 (gK h y7) <|
           ck (gC h x0) 10 <|
           (gR h 2566 x0).bind fun y8 =>
            ck (gC h y8) 60 <|
            gd x1 (gK h y8) <|
            if gA h y8 (ix x1) = 0 then
             none
            else
             some (some (.long (x2 + (((gA h y1 (ix x1)).toInt64) * (((((x4 - (gA h y6 (ix x1))) + (gA h y7 (ix x1))) - 1) / (gA h y8 (ix x1))).toInt64)))), h)
        else
         some (some (.long x2), h)
      else
       some (some (.long x2), h)
    else
     if gA h y2 (ix x1) = 2 then
     ck (gC h x0) 10 <|
     (gR h 2566 x0).bind fun y3 =>
      ck (gC h y3) 60 <|
      gd x1 (gK h y3) <|
      if x5 = gA h y3 (ix x1) then
       some (some (.long (x2 + ((gA h y1 (ix x1)).toInt64))), h)
      else
       some (some (.long x2), h)
    else
     if gA h y2 (ix x1) = 3 then
     if (1 : Int32) < x5 then
      some (some (.long (x2 + (((gA h y1 (ix x1)).toInt64) * ((x5 - 1).toInt64)))), h)
     else
      some (some (.long x2), h)
    else
     if gA h y2 (ix x1) = 4 then
     if (0 : Int32) < lg_cmp ((gA h y1 (ix x1)).toInt64) 0 then
      if (gA h y1 (ix x1)).toInt64 = 0 then
       none
      else
       some (some (.long ((((x2 + ((gA h y1 (ix x1)).toInt64)) - 1) / ((gA h y1 (ix x1)).toInt64)) * ((gA h y1 (ix x1)).toInt64))), h)
     else
      some (some (.long x2), h)
    else
     if gA h y2 (ix x1) = 5 then
     cK (E d 376 [.long x2, .long ((gA h y1 (ix x1)).toInt64)] h) (Q d 346 184 [some (.ref x0), some (.int x1), some (.long x2), none, some (.int x4), some (.int x5), some (.long ((gA h y1 (ix x1)).toInt64)), none]) []
    else
     some (some (.long (x2 - ((x2 * ((gA h y1 (ix x1)).toInt64)) / 100))), h)) := by
  rw [← hs.1]
  exact ent rfl ((blkM (fun p => Nat.beq p 184) 48 0 _ _ _).trans rfl)

set_option maxRecDepth 16384 in
theorem t_346_184 {d : Nat} {h : AH} (hs : Sh h) (u0 : Option Value) (u1 : Option Value) (u2 : Option Value) (u3 : Option Value) (u4 : Option Value) (u5 : Option Value) (u6 : Option Value) (u7 : Option Value) (s0 : Int64) :
    Q d 346 184 [u0, u1, u2, u3, u4, u5, u6, u7] [.long s0] h =
  some (some (.long s0), h) := by
  rw [← hs.1]
  exact (blkM (fun p => false) 2 184 _ _ _).trans rfl

/-! 347 java/util/ArrayList.add(Ljava/lang/Object;[Ljava/lang/Object;I)V -/
set_option maxRecDepth 16384 in
theorem t_347 {d : Nat} {h : AH} (hs : Sh h) (x0 : Nat) (x1 : Nat) (x2 : Nat) (x3 : Int32) :
    E (d + 1) 347 [.ref x0, .ref x1, .ref x2, .int x3] h =
  if 60 ≤ gC h x2 ∧ gC h x2 ≤ 66 then
   if x3 = nI (gK h x2) then
    ck (gC h x0) 1 <|
    cK (E d 377 [.ref x0] h) (Q d 347 10 [some (.ref x0), some (.ref x1), some (.ref x2), some (.int x3)]) []
   else
    cw (gC h x2) 65 x2 <|
    if gC h x1 ≠ 0 ∧ gC h x1 < 15 then
     gd x3 (gK h x2) <|
    ck (gC h x0) 1 <|
    some (none, sI (sO h x2 (ix x3) (some x1)) 258 x0 (x3 + 1))
    else
     none
  else
   none := by
  rw [← hs.1]
  exact ent rfl ((blkM (fun p => Nat.beq p 10) 15 0 _ _ _).trans rfl)

set_option maxRecDepth 16384 in
theorem t_347_10 {d : Nat} {h : AH} (hs : Sh h) (x0 : Nat) (x1 : Nat) (x3 : Int32) (u2 : Option Value) (s0 : Nat) :
    Q d 347 10 [some (.ref x0), some (.ref x1), u2, some (.int x3)] [.ref s0] h =
  (cw (gC h s0) 65 s0 <|
  if gC h x1 ≠ 0 ∧ gC h x1 < 15 then
   gd x3 (gK h s0) <|
  ck (gC h x0) 1 <|
  some (none, sI (sO h s0 (ix x3) (some x1)) 258 x0 (x3 + 1))
  else
   none) := by
  rw [← hs.1]
  exact (blkM (fun p => false) 12 10 _ _ _).trans rfl

/-! 348 java/util/AbstractCollection.<init>()V -/
set_option maxRecDepth 16384 in
theorem t_348 {d : Nat} {h : AH} (hs : Sh h) (x0 : Nat) :
    E (d + 1) 348 [.ref x0] h =
  some (none, h) := by
  rw [← hs.1]
  exact ent rfl ((blkM (fun p => false) 4 0 _ _ _).trans rfl)

/-! 349 java/util/Arrays.copyOf([II)[I -/
set_option maxRecDepth 16384 in
theorem t_349 {d : Nat} {h : AH} (hs : Sh h) (x0 : Nat) (x1 : Int32) :
    E (d + 1) 349 [.ref x0, .int x1] h =
  if 60 ≤ gC h x0 ∧ gC h x0 ≤ 66 then
   if x1 = nI (gK h x0) then
    none
   else
    if x1 < 0 then
     none
    else
     if ix x1 ≤ 1000000 then
      Q d 349 17 [some (.ref x0), some (.int x1), none] [.ref (gN h)] (nwA h 60 (ix x1))
     else
      none
  else
   none := by
  rw [← hs.1]
  exact ent rfl ((blkM (fun p => Nat.beq p 17) 8 0 _ _ _).trans rfl)

set_option maxRecDepth 16384 in
theorem t_349_17 {d : Nat} {h : AH} (hs : Sh h) (x0 : Nat) (x1 : Int32) (u2 : Option Value) (s0 : Nat) :
    Q d 349 17 [some (.ref x0), some (.int x1), u2] [.ref s0] h =
  if 60 ≤ gC h x0 ∧ gC h x0 ≤ 66 then
   cK (E d 302 [.int (nI (gK h x0)), .int x1] h) (Q d 349 28 [some (.ref x0), some (.int x1), some (.ref s0)]) [.int 0, .ref s0, .int 0, .ref x0]
  else
   none := by
  rw [← hs.1]
  exact (blkM (fun p => Nat.beq p 28) 10 17 _ _ _).trans rfl

set_option maxRecDepth 16384 in
theorem t_349_28 {d : Nat} {h : AH} (hs : Sh h) (x2 : Nat) (u0 : Option Value) (u1 : Option Value) (s0 : Nat) (s1 : Int32) (s2 : Nat) (s3 : Int32) (s4 : Int32) :
    Q d 349 28 [u0, u1, some (.ref x2)] [.int s4, .int s3, .ref s2, .int s1, .ref s0] h =
  if gC h s0 = 60 ∧ gC h s2 = 60 ∧ 100 ≤ s0 ∧ 100 ≤ s2 ∧ 0 ≤ 20 then
   if s4 < 0 ∨ s3 < 0 ∨ s1 < 0 then
   none
  else
   if ix s1 + ix s4 ≤ gK h s0 ∧ ix s3 + ix s4 ≤ gK h s2 then
    some (some (.ref x2), cpA h s0 (ix s1) s2 (ix s3) (ix s4))
   else
    none
  else
   none := by
  rw [← hs.1]
  exact (blkM (fun p => false) 4 28 _ _ _).trans rfl

/-! 350 PostRoom$Book.readRule(LPostRoom$Service;II)Z -/
set_option maxRecDepth 16384 in
theorem t_350 {d : Nat} {h : AH} (hs : Sh h) (x0 : Nat) (x1 : Nat) (x2 : Int32) (x3 : Int32) :
    E (d + 1) 350 [.ref x0, .ref x1, .int x2, .int x3] h =
  (ck (gC h x1) 10 <|
  (gR h 2564 x1).bind fun y1 =>
   cw (gC h y1) 60 y1 <|
   gd x2 (gK h y1) <|
   if x3 = 1 then
    ck (gC h x0) 2 <|
    cK (E d 280 [.ref x0, .int 1, .int 4000] (sA h y1 (ix x2) x3)) (Q d 350 20 [some (.ref x0), some (.ref x1), some (.int x2), some (.int x3)]) []
   else
    if x3 = 2 then
     ck (gC h x0) 2 <|
     cK (E d 280 [.ref x0, .int 0, .int 9] (sA h y1 (ix x2) x3)) (Q d 350 35 [some (.ref x0), some (.ref x1), some (.int x2), some (.int x3)]) []
    else
     ck (gC h x1) 10 <|
     (gR h 2566 x1).bind fun y2 =>
      ck (gC h x0) 2 <|
      (gR h 520 x0).bind fun y3 =>
       ck (gC h y3) 12 <|
       cw (gC h y2) 60 y2 <|
       gd x2 (gK h y2) <|
       if x3 = 6 then
        ck (gC h x0) 2 <|
        cK (E d 280 [.ref x0, .int 1, .int 99] (sA (sA h y1 (ix x2) x3) y2 (ix x2) (gI h 3077 y3))) (Q d 350 66 [some (.ref x0), some (.ref x1), some (.int x2), some (.int x3)]) []
       else
        ck (gC h x0) 2 <|
        cK (E d 280 [.ref x0, .int 0, .int 9999] (sA (sA h y1 (ix x2) x3) y2 (ix x2) (gI h 3077 y3))) (Q d 350 80 [some (.ref x0), some (.ref x1), some (.int x2), some (.int x3)]) []) := by
  rw [← hs.1]
  exact ent rfl ((blkM (fun p => Nat.beq p 20 || Nat.beq p 35 || Nat.beq p 66 || Nat.beq p 80) 26 0 _ _ _).trans rfl)

set_option maxRecDepth 16384 in
theorem t_350_20 {d : Nat} {h : AH} (hs : Sh h) (x0 : Nat) (x1 : Nat) (x2 : Int32) (x3 : Int32) (s0 : Int32) :
    Q d 350 20 [some (.ref x0), some (.ref x1), some (.int x2), some (.int x3)] [.int s0] h =
  if s0 = 0 then
   some (some (.int 0), h)
  else
   if x3 = 2 then
    ck (gC h x0) 2 <|
    cK (E d 280 [.ref x0, .int 0, .int 9] h) (Q d 350 35 [some (.ref x0), some (.ref x1), some (.int x2), some (.int x3)]) []
   else
    ck (gC h x1) 10 <|
    (gR h 2566 x1).bind fun y1 =>
     ck (gC h x0) 2 <|
     (gR h 520 x0).bind fun y2 =>
      ck (gC h y2) 12 <|
      cw (gC h y1) 60 y1 <|
      gd x2 (gK h y1) <|
      if x3 = 6 then
       ck (gC h x0) 2 <|
       cK (E d 280 [.ref x0, .int 1, .int 99] (sA h y1 (ix x2) (gI h 3077 y2))) (Q d 350 66 [some (.ref x0), some (.ref x1), some (.int x2), some (.int x3)]) []
      else
       ck (gC h x0) 2 <|
       cK (E d 280 [.ref x0, .int 0, .int 9999] (sA h y1 (ix x2) (gI h 3077 y2))) (Q d 350 80 [some (.ref x0), some (.ref x1), some (.int x2), some (.int x3)]) [] := by
  rw [← hs.1]
  exact (blkM (fun p => Nat.beq p 35 || Nat.beq p 66 || Nat.beq p 80) 19 20 _ _ _).trans rfl

set_option maxRecDepth 16384 in
theorem t_350_35 {d : Nat} {h : AH} (hs : Sh h) (x0 : Nat) (x1 : Nat) (x2 : Int32) (x3 : Int32) (s0 : Int32) :
    Q d 350 35 [some (.ref x0), some (.ref x1), some (.int x2), some (.int x3)] [.int s0] h =
  if s0 = 0 then
   some (some (.int 0), h)
  else
   ck (gC h x1) 10 <|
   (gR h 2566 x1).bind fun y1 =>
    ck (gC h x0) 2 <|
    (gR h 520 x0).bind fun y2 =>
     ck (gC h y2) 12 <|
     cw (gC h y1) 60 y1 <|
     gd x2 (gK h y1) <|
     if x3 = 6 then
      ck (gC h x0) 2 <|
      cK (E d 280 [.ref x0, .int 1, .int 99] (sA h y1 (ix x2) (gI h 3077 y2))) (Q d 350 66 [some (.ref x0), some (.ref x1), some (.int x2), some (.int x3)]) []
     else
      ck (gC h x0) 2 <|
      cK (E d 280 [.ref x0, .int 0, .int 9999] (sA h y1 (ix x2) (gI h 3077 y2))) (Q d 350 80 [some (.ref x0), some (.ref x1), some (.int x2), some (.int x3)]) [] := by
  rw [← hs.1]
  exact (blkM (fun p => Nat.beq p 66 || Nat.beq p 80) 16 35 _ _ _).trans rfl

set_option maxRecDepth 16384 in
theorem t_350_66 {d : Nat} {h : AH} (hs : Sh h) (x0 : Nat) (x1 : Nat) (x2 : Int32) (x3 : Int32) (s0 : Int32) :
    Q d 350 66 [some (.ref x0), some (.ref x1), some (.int x2), some (.int x3)] [.int s0] h =
  if s0 = 0 then
   some (some (.int 0), h)
  else
   ck (gC h x1) 10 <|
   (gR h 2565 x1).bind fun y1 =>
    ck (gC h x0) 2 <|
    (gR h 520 x0).bind fun y2 =>
     ck (gC h y2) 12 <|
     cw (gC h y1) 60 y1 <|
     gd x2 (gK h y1) <|
     if x3 = 1 then
      ck (gC h x0) 2 <|
      cK (E d 288 [.ref x0, .ref 12] (sA h y1 (ix x2) (gI h 3077 y2))) (Q d 350 110 [some (.ref x0), some (.ref x1), some (.int x2), some (.int x3)]) []
     else
      ck (gC h x1) 10 <|
      some (some (.int 1), sI (sA h y1 (ix x2) (gI h 3077 y2)) 2563 x1 (x2 + 1)) := by
  rw [← hs.1]
  exact (blkM (fun p => Nat.beq p 110) 20 66 _ _ _).trans rfl

set_option maxRecDepth 16384 in
theorem t_350_80 {d : Nat} {h : AH} (hs : Sh h) (x0 : Nat) (x1 : Nat) (x2 : Int32) (x3 : Int32) (s0 : Int32) :
    Q d 350 80 [some (.ref x0), some (.ref x1), some (.int x2), some (.int x3)] [.int s0] h =
  if s0 = 0 then
   some (some (.int 0), h)
  else
   ck (gC h x1) 10 <|
   (gR h 2565 x1).bind fun y1 =>
    ck (gC h x0) 2 <|
    (gR h 520 x0).bind fun y2 =>
     ck (gC h y2) 12 <|
     cw (gC h y1) 60 y1 <|
     gd x2 (gK h y1) <|
     if x3 = 1 then
      ck (gC h x0) 2 <|
      cK (E d 288 [.ref x0, .ref 12] (sA h y1 (ix x2) (gI h 3077 y2))) (Q d 350 110 [some (.ref x0), some (.ref x1), some (.int x2), some (.int x3)]) []
     else
      ck (gC h x1) 10 <|
      some (some (.int 1), sI (sA h y1 (ix x2) (gI h 3077 y2)) 2563 x1 (x2 + 1)) := by
  rw [← hs.1]
  exact (blkM (fun p => Nat.beq p 110) 19 80 _ _ _).trans rfl

set_option maxRecDepth 16384 in
theorem t_350_110 {d : Nat} {h : AH} (hs : Sh h) (x0 : Nat) (x1 : Nat) (x2 : Int32) (u3 : Option Value) (s0 : Int32) :
    Q d 350 110 [some (.ref x0), some (.ref x1), some (.int x2), u3] [.int s0] h =
  if s0 = 0 then
   some (some (.int 0), h)
  else
   ck (gC h x0) 2 <|
   cK (E d 280 [.ref x0, .int 0, .int 4000] h) (Q d 350 121 [some (.ref x0), some (.ref x1), some (.int x2), u3]) [] := by
  rw [← hs.1]
  exact (blkM (fun p => Nat.beq p 121) 6 110 _ _ _).trans rfl

set_option maxRecDepth 16384 in
theorem t_350_121 {d : Nat} {h : AH} (hs : Sh h) (x0 : Nat) (x1 : Nat) (x2 : Int32) (u3 : Option Value) (s0 : Int32) :
    Q d 350 121 [some (.ref x0), some (.ref x1), some (.int x2), u3] [.int s0] h =
  if s0 = 0 then
   some (some (.int 0), h)
  else
   ck (gC h x1) 10 <|
   (gR h 2567 x1).bind fun y1 =>
    ck (gC h x0) 2 <|
    (gR h 520 x0).bind fun y2 =>
     ck (gC h y2) 12 <|
     cw (gC h y1) 60 y1 <|
     gd x2 (gK h y1) <|
     ck (gC h x1) 10 <|
     some (some (.int 1), sI (sA h y1 (ix x2) (gI h 3077 y2)) 2563 x1 (x2 + 1)) := by
  rw [← hs.1]
  exact (blkM (fun p => false) 16 121 _ _ _).trans rfl


/-! 352 PostRoom$Finder.unpack(JI)I -/
set_option maxRecDepth 16384 in
theorem t_352 {d : Nat} {h : AH} (hs : Sh h) (x1 : Int64) (x3 : Int32) :
    E (d + 1) 352 [.ref 103, .long x1, .int x3] h =
  Q d 352 6 [some (.ref 103), some (.long x1), none, some (.int x3), some (.int 0), some (.long x1), none, none] [] h := by
  rw [← hs.1]
  exact ent rfl ((blkM (fun p => Nat.beq p 6) 6 0 _ _ _).trans rfl)

set_option maxRecDepth 16384 in
theorem t_352_6 {d : Nat} {h : AH} (hs : Sh h) (x1 : Int64) (x3 : Int32) (x4 : Int32) (x5 : Int64) :
    Q d 352 6 [some (.ref 103), some (.long x1), none, some (.int x3), some (.int x4), some (.long x5), none, none] [] h =
  if (0 : Int32) < lg_cmp x5 0 then
   if x4 < 12 then
    Q d 352 6 [some (.ref 103), some (.long x1), none, some (.int x3), some (.int (x4 + 1)), some (.long (x5 / 37)), none, none] [] h
   else
    Q d 352 43 [some (.ref 103), none, none, some (.int x3), some (.int x4), some (.long x1), none, some (.int (x4 - 1))] [] h
  else
   Q d 352 43 [some (.ref 103), none, none, some (.int x3), some (.int x4), some (.long x1), none, some (.int (x4 - 1))] [] h := by
  rw [← hs.1]
  exact (blkM (fun p => Nat.beq p 6 || Nat.beq p 43) 15 6 _ _ _).trans rfl

set_option maxRecDepth 16384 in
theorem t_352_43 {d : Nat} {h : AH} (hs : Sh h) (x3 : Int32) (x4 : Int32) (x5 : Int64) (x7 : Int32) :
    Q d 352 43 [some (.ref 103), none, none, some (.int x3), some (.int x4), some (.long x5), none, some (.int x7)] [] h =
  if x7 < 0 then
   some (some (.int x4), h)
  else
   gd (x3 + x7) 613 <|
   Q d 352 43 [some (.ref 103), none, none, some (.int x3), some (.int x4), some (.long (x5 / 37)), none, some (.int (x7 + (-1)))] [] (sA h 104 (ix (x3 + x7)) ((x5 - x5 / 37 * 37).toInt32)) := by
  rw [← hs.1]
  exact (blkM (fun p => Nat.beq p 43) 20 43 _ _ _).trans rfl

/-! 353 PostRoom$Finder.farness([III)I -/
set_option maxRecDepth 16384 in
theorem t_353 {d : Nat} {h : AH} (hs : Sh h) (x1 : Nat) (x2 : Int32) (x3 : Int32) :
    E (d + 1) 353 [.ref 103, .ref x1, .int x2, .int x3] h =
  (gd x2 41 <|
  gd (x3 - 1) 41 <|
  if 60 ≤ gC h x1 ∧ gC h x1 ≤ 66 then
   cK (E d 345 [.int (((gA h 106 (ix (x3 - 1))) - (gA h 105 (ix x2))) - (nI (gK h x1)))] h) (Q d 353 33 [some (.ref 103), some (.ref x1), some (.int x2), some (.int x3), some (.int (gA h 105 (ix x2))), some (.int ((gA h 106 (ix (x3 - 1))) - (gA h 105 (ix x2)))), some (.int (nI (gK h x1))), none]) []
  else
   none) := by
  rw [← hs.1]
  exact ent rfl ((blkM (fun p => Nat.beq p 33) 22 0 _ _ _).trans rfl)

set_option maxRecDepth 16384 in
theorem t_353_33 {d : Nat} {h : AH} (hs : Sh h) (x1 : Nat) (x4 : Int32) (x5 : Int32) (x6 : Int32) (u2 : Option Value) (u3 : Option Value) (u7 : Option Value) (s0 : Int32) :
    Q d 353 33 [some (.ref 103), some (.ref x1), u2, u3, some (.int x4), some (.int x5), some (.int x6), u7] [.int s0] h =
  if (3 : Int32) < s0 then
   some (some (.int 99), h)
  else
   if x5 < 48 then
    if x6 < 48 then
     Q d 353 57 [some (.ref 103), some (.ref x1), none, none, some (.int x4), some (.int x5), some (.int x6), some (.int 0)] [] h
    else
     some (some (.int 99), h)
   else
    some (some (.int 99), h) := by
  rw [← hs.1]
  exact (blkM (fun p => Nat.beq p 57) 12 33 _ _ _).trans rfl

set_option maxRecDepth 16384 in
theorem t_353_57 {d : Nat} {h : AH} (hs : Sh h) (x1 : Nat) (x4 : Int32) (x5 : Int32) (x6 : Int32) (x7 : Int32) :
    Q d 353 57 [some (.ref 103), some (.ref x1), none, none, some (.int x4), some (.int x5), some (.int x6), some (.int x7)] [] h =
  if x5 < x7 then
   Q d 353 84 [some (.ref 103), some (.ref x1), none, none, some (.int x4), some (.int x5), some (.int x6), some (.int 1)] [] h
  else
   (gO h 107 (0)).bind fun y1 =>
    cw (gC h y1) 60 y1 <|
    gd x7 (gK h y1) <|
    Q d 353 57 [some (.ref 103), some (.ref x1), none, none, some (.int x4), some (.int x5), some (.int x6), some (.int (x7 + 1))] [] (sA h y1 (ix x7) x7) := by
  rw [← hs.1]
  exact (blkM (fun p => Nat.beq p 57 || Nat.beq p 84) 14 57 _ _ _).trans rfl

set_option maxRecDepth 16384 in
theorem t_353_84 {d : Nat} {h : AH} (hs : Sh h) (x1 : Nat) (x4 : Int32) (x5 : Int32) (x6 : Int32) (x7 : Int32) :
    Q d 353 84 [some (.ref 103), some (.ref x1), none, none, some (.int x4), some (.int x5), some (.int x6), some (.int x7)] [] h =
  if x6 < x7 then
   gd x6 48 <|
   (gO h 107 (ix x6)).bind fun y1 =>
    ck (gC h y1) 60 <|
    gd x5 (gK h y1) <|
    some (some (.int (gA h y1 (ix x5))), h)
  else
   cK (E d 379 [.ref 103, .ref x1, .int x7, .int x4, .int x5] h) (Q d 353 102 [some (.ref 103), some (.ref x1), none, none, some (.int x4), some (.int x5), some (.int x6), some (.int x7)]) [] := by
  rw [← hs.1]
  exact (blkM (fun p => Nat.beq p 102) 11 84 _ _ _).trans rfl

set_option maxRecDepth 16384 in
theorem t_353_102 {d : Nat} {h : AH} (hs : Sh h) (x1 : Nat) (x4 : Int32) (x5 : Int32) (x6 : Int32) (x7 : Int32) (u2 : Option Value) (u3 : Option Value) :
    Q d 353 102 [some (.ref 103), some (.ref x1), u2, u3, some (.int x4), some (.int x5), some (.int x6), some (.int x7)] [] h =
  Q d 353 84 [some (.ref 103), some (.ref x1), none, none, some (.int x4), some (.int x5), some (.int x6), some (.int (x7 + 1))] [] h := by
  rw [← hs.1]
  exact (blkM (fun p => Nat.beq p 84) 4 102 _ _ _).trans rfl

/-! 354 PostRoom$Finder.wrongDigits(I)I -/
set_option maxRecDepth 16384 in
theorem t_354 {d : Nat} {h : AH} (hs : Sh h) (x1 : Int32) :
    E (d + 1) 354 [.ref 103, .int x1] h =
  (gd (gI h 1029 103) 41 <|
  gd (gA h 105 (ix (gI h 1029 103))) 613 <|
  if (gA h 104 (ix (gA h 105 (ix (gI h 1029 103))))) - 27 = x1 / 100 then
   gd ((gA h 105 (ix (gI h 1029 103))) + 1) 613 <|
   if (gA h 104 (ix ((gA h 105 (ix (gI h 1029 103))) + 1))) - 27 = (x1 / 10) - (x1 / 10) / 10 * 10 then
    gd ((gA h 105 (ix (gI h 1029 103))) + 2) 613 <|
    if (gA h 104 (ix ((gA h 105 (ix (gI h 1029 103))) + 2))) - 27 = x1 - x1 / 10 * 10 then
     some (some (.int ((0 + 0) + 0)), h)
    else
     some (some (.int ((0 + 0) + 1)), h)
   else
    gd ((gA h 105 (ix (gI h 1029 103))) + 2) 613 <|
    if (gA h 104 (ix ((gA h 105 (ix (gI h 1029 103))) + 2))) - 27 = x1 - x1 / 10 * 10 then
     some (some (.int ((0 + 1) + 0)), h)
    else
     some (some (.int ((0 + 1) + 1)), h)
  else
   gd ((gA h 105 (ix (gI h 1029 103))) + 1) 613 <|
   if (gA h 104 (ix ((gA h 105 (ix (gI h 1029 103))) + 1))) - 27 = (x1 / 10) - (x1 / 10) / 10 * 10 then
    gd ((gA h 105 (ix (gI h 1029 103))) + 2) 613 <|
    if (gA h 104 (ix ((gA h 105 (ix (gI h 1029 103))) + 2))) - 27 = x1 - x1 / 10 * 10 then
     some (some (.int ((1 + 0) + 0)), h)
    else
     some (some (.int ((1 + 0) + 1)), h)
   else
    gd ((gA h 105 (ix (gI h 1029 103))) + 2) 613 <|
    if (gA h 104 (ix ((gA h 105 (ix (gI h 1029 103))) + 2))) - 27 = x1 - x1 / 10 * 10 then
     some (some (.int ((1 + 1) + 0)), h)
    else
     some (some (.int ((1 + 1) + 1)), h)) := by
  rw [← hs.1]
  exact ent rfl ((blkM (fun p => false) 58 0 _ _ _).trans rfl)

/-! 355 PostRoom$Item.times(II)I -/
set_option maxRecDepth 16384 in
theorem t_355 {d : Nat} {h : AH} (hs : Sh h) (x0 : Int32) (x1 : Int32) :
    E (d + 1) 355 [.int x0, .int x1] h =
  Q d 355 4 [some (.int x0), some (.int x1), some (.int 0), some (.int 5)] [] h := by
  rw [← hs.1]
  exact ent rfl ((blkM (fun p => Nat.beq p 4) 6 0 _ _ _).trans rfl)

set_option maxRecDepth 16384 in
theorem t_355_4 {d : Nat} {h : AH} (hs : Sh h) (x0 : Int32) (x1 : Int32) (x2 : Int32) (x3 : Int32) :
    Q d 355 4 [some (.int x0), some (.int x1), some (.int x2), some (.int x3)] [] h =
  if x3 < 0 then
   some (some (.int x2), h)
  else
   if x2 <<< (1 &&& 31) < 64 then
    if (x1 >>> (x3 &&& 31)) &&& 1 = 0 then
     Q d 355 4 [some (.int x0), some (.int x1), some (.int (x2 <<< (1 &&& 31))), some (.int (x3 + (-1)))] [] h
    else
     Q d 355 4 [some (.int x0), some (.int x1), some (.int ((x2 <<< (1 &&& 31)) ^^^ x0)), some (.int (x3 + (-1)))] [] h
   else
    if (x1 >>> (x3 &&& 31)) &&& 1 = 0 then
     Q d 355 4 [some (.int x0), some (.int x1), some (.int ((x2 <<< (1 &&& 31)) ^^^ 67)), some (.int (x3 + (-1)))] [] h
    else
     Q d 355 4 [some (.int x0), some (.int x1), some (.int (((x2 <<< (1 &&& 31)) ^^^ 67) ^^^ x0)), some (.int (x3 + (-1)))] [] h := by
  rw [← hs.1]
  exact (blkM (fun p => Nat.beq p 4) 27 4 _ _ _).trans rfl

/-! 356 PostRoom$Item.inverse(I)I -/
set_option maxRecDepth 16384 in
theorem t_356 {d : Nat} {h : AH} (hs : Sh h) (x0 : Int32) :
    E (d + 1) 356 [.int x0] h =
  Q d 356 2 [some (.int x0), some (.int 0)] [] h := by
  rw [← hs.1]
  exact ent rfl ((blkM (fun p => Nat.beq p 2) 4 0 _ _ _).trans rfl)

set_option maxRecDepth 16384 in
theorem t_356_2 {d : Nat} {h : AH} (hs : Sh h) (x0 : Int32) (x1 : Int32) :
    Q d 356 2 [some (.int x0), some (.int x1)] [] h =
  if x1 < 63 then
   gd x1 63 <|
   if gA h 60 (ix x1) = x0 then
    gd ((63 - x1) - (63 - x1) / 63 * 63) 63 <|
    some (some (.int (gA h 60 (ix ((63 - x1) - (63 - x1) / 63 * 63)))), h)
   else
    Q d 356 2 [some (.int x0), some (.int (x1 + 1))] [] h
  else
   some (some (.int 0), h) := by
  rw [← hs.1]
  exact (blkM (fun p => Nat.beq p 2) 17 2 _ _ _).trans rfl

/-! 357 PostRoom$Script.readSum(I)Z -/
set_option maxRecDepth 16384 in
theorem t_357 {d : Nat} {h : AH} (hs : Sh h) (x0 : Nat) (x1 : Int32) :
    E (d + 1) 357 [.ref x0, .int x1] h =
  (ck (gC h x0) 9 <|
  cK (E d 380 [.ref x0, .int x1] h) (Q d 357 5 [some (.ref x0), some (.int x1), none]) []) := by
  rw [← hs.1]
  exact ent rfl ((blkM (fun p => Nat.beq p 5) 4 0 _ _ _).trans rfl)

set_option maxRecDepth 16384 in
theorem t_357_5 {d : Nat} {h : AH} (hs : Sh h) (x0 : Nat) (x1 : Int32) (u2 : Option Value) (s0 : Int32) :
    Q d 357 5 [some (.ref x0), some (.int x1), u2] [.int s0] h =
  if s0 = 0 then
   some (some (.int 0), h)
  else
   Q d 357 12 [some (.ref x0), some (.int x1), some (.int 0)] [] h := by
  rw [← hs.1]
  exact (blkM (fun p => Nat.beq p 12) 5 5 _ _ _).trans rfl

set_option maxRecDepth 16384 in
theorem t_357_12 {d : Nat} {h : AH} (hs : Sh h) (x0 : Nat) (x1 : Int32) (x2 : Int32) :
    Q d 357 12 [some (.ref x0), some (.int x1), some (.int x2)] [] h =
  if x2 < 4000 then
   ck (gC h x0) 9 <|
   if gI h 2307 x0 = 43 then
    ck (gC h x0) 9 <|
    cK (E d 317 [.ref x0] h) (Q d 357 41 [some (.ref x0), some (.int x1), some (.int x2)]) []
   else
    ck (gC h x0) 9 <|
    if gI h 2307 x0 = 45 then
     ck (gC h x0) 9 <|
     cK (E d 317 [.ref x0] h) (Q d 357 41 [some (.ref x0), some (.int x1), some (.int x2)]) []
    else
     some (some (.int 1), h)
  else
   some (some (.int 1), h) := by
  rw [← hs.1]
  exact (blkM (fun p => Nat.beq p 41) 14 12 _ _ _).trans rfl

set_option maxRecDepth 16384 in
theorem t_357_41 {d : Nat} {h : AH} (hs : Sh h) (x0 : Nat) (x1 : Int32) (x2 : Int32) (s0 : Int32) :
    Q d 357 41 [some (.ref x0), some (.int x1), some (.int x2)] [.int s0] h =
  if s0 = 0 then
   some (some (.int 0), h)
  else
   ck (gC h x0) 9 <|
   cK (E d 380 [.ref x0, .int x1] h) (Q d 357 49 [some (.ref x0), some (.int x1), some (.int x2)]) [] := by
  rw [← hs.1]
  exact (blkM (fun p => Nat.beq p 49) 5 41 _ _ _).trans rfl

set_option maxRecDepth 16384 in
theorem t_357_49 {d : Nat} {h : AH} (hs : Sh h) (x0 : Nat) (x1 : Int32) (x2 : Int32) (s0 : Int32) :
    Q d 357 49 [some (.ref x0), some (.int x1), some (.int x2)] [.int s0] h =
  if s0 = 0 then
   some (some (.int 0), h)
  else
   Q d 357 12 [some (.ref x0), some (.int x1), some (.int (x2 + 1))] [] h := by
  rw [← hs.1]
  exact (blkM (fun p => Nat.beq p 12) 5 49 _ _ _).trans rfl

/-! 358 PostRoom$Script.readUnit(I)Z -/
set_option maxRecDepth 16384 in
theorem t_358 {d : Nat} {h : AH} (hs : Sh h) (x0 : Nat) (x1 : Int32) :
    E (d + 1) 358 [.ref x0, .int x1] h =
  (ck (gC h x0) 9 <|
  cK (E d 381 [.ref x0] h) (Q d 358 4 [some (.ref x0), some (.int x1), none]) []) := by
  rw [← hs.1]
  exact ent rfl ((blkM (fun p => Nat.beq p 4) 3 0 _ _ _).trans rfl)

set_option maxRecDepth 16384 in
theorem t_358_4 {d : Nat} {h : AH} (hs : Sh h) (x0 : Nat) (x1 : Int32) (u2 : Option Value) (s0 : Int32) :
    Q d 358 4 [some (.ref x0), some (.int x1), u2] [.int s0] h =
  if s0 = 0 then
   ck (gC h x0) 9 <|
   cK (E d 327 [.ref x0, .int 1] h) (Q d 358 12 [some (.ref x0), some (.int x1), u2]) []
  else
   if x1 < 20 then
    ck (gC h x0) 9 <|
    ck (gC h x0) 9 <|
    cK (E d 317 [.ref x0] h) (Q d 358 34 [some (.ref x0), some (.int x1), some (.int (gI h 2307 x0))]) []
   else
    ck (gC h x0) 9 <|
    cK (E d 327 [.ref x0, .int 5] h) (Q d 358 24 [some (.ref x0), some (.int x1), u2]) [] := by
  rw [← hs.1]
  exact (blkM (fun p => Nat.beq p 12 || Nat.beq p 24 || Nat.beq p 34) 10 4 _ _ _).trans rfl

set_option maxRecDepth 16384 in
theorem t_358_12 {d : Nat} {h : AH} (hs : Sh h) (u0 : Option Value) (u1 : Option Value) (u2 : Option Value) (s0 : Int32) :
    Q d 358 12 [u0, u1, u2] [.int s0] h =
  if s0 = 0 ∨ s0 = 1 then
   some (some (.int s0), h)
  else
   none := by
  rw [← hs.1]
  exact (blkM (fun p => false) 2 12 _ _ _).trans rfl

set_option maxRecDepth 16384 in
theorem t_358_24 {d : Nat} {h : AH} (hs : Sh h) (u0 : Option Value) (u1 : Option Value) (u2 : Option Value) (s0 : Int32) :
    Q d 358 24 [u0, u1, u2] [.int s0] h =
  if s0 = 0 ∨ s0 = 1 then
   some (some (.int s0), h)
  else
   none := by
  rw [← hs.1]
  exact (blkM (fun p => false) 2 24 _ _ _).trans rfl

set_option maxRecDepth 16384 in
theorem t_358_34 {d : Nat} {h : AH} (hs : Sh h) (x0 : Nat) (x1 : Int32) (x2 : Int32) (s0 : Int32) :
    Q d 358 34 [some (.ref x0), some (.int x1), some (.int x2)] [.int s0] h =
  if x2 = 40 then
   ck (gC h x0) 9 <|
   cK (E d 319 [.ref x0, .int (x1 + 1)] h) (Q d 358 135 [some (.ref x0), some (.int x1), some (.int x2)]) []
  else
   if x2 = 45 then
   ck (gC h x0) 9 <|
   cK (E d 358 [.ref x0, .int (x1 + 1)] h) (Q d 358 160 [some (.ref x0), some (.int x1), some (.int x2)]) []
  else
   if x2 = 143 then
   ck (gC h x0) 9 <|
   cK (E d 321 [.ref x0, .int (x1 + 1)] h) (Q d 358 168 [some (.ref x0), some (.int x1), some (.int x2)]) []
  else
   if x2 = 144 then
   ck (gC h x0) 9 <|
   cK (E d 321 [.ref x0, .int (x1 + 1)] h) (Q d 358 168 [some (.ref x0), some (.int x1), some (.int x2)]) []
  else
   if x2 = 145 then
   ck (gC h x0) 9 <|
   cK (E d 323 [.ref x0, .int (x1 + 1)] h) (Q d 358 176 [some (.ref x0), some (.int x1), some (.int x2)]) []
  else
   if x2 = 146 then
   ck (gC h x0) 9 <|
   cK (E d 320 [.ref x0, .int (x1 + 1)] h) (Q d 358 184 [some (.ref x0), some (.int x1), some (.int x2)]) []
  else
   if x2 = 147 then
   ck (gC h x0) 9 <|
   cK (E d 320 [.ref x0, .int (x1 + 1)] h) (Q d 358 184 [some (.ref x0), some (.int x1), some (.int x2)]) []
  else
   if x2 = 148 then
   ck (gC h x0) 9 <|
   cK (E d 320 [.ref x0, .int (x1 + 1)] h) (Q d 358 184 [some (.ref x0), some (.int x1), some (.int x2)]) []
  else
   if x2 = 149 then
   ck (gC h x0) 9 <|
   cK (E d 320 [.ref x0, .int (x1 + 1)] h) (Q d 358 184 [some (.ref x0), some (.int x1), some (.int x2)]) []
  else
   if x2 = 150 then
   ck (gC h x0) 9 <|
   cK (E d 320 [.ref x0, .int (x1 + 1)] h) (Q d 358 184 [some (.ref x0), some (.int x1), some (.int x2)]) []
  else
   some (some (.int 1), h) := by
  rw [← hs.1]
  exact (blkM (fun p => Nat.beq p 135 || Nat.beq p 160 || Nat.beq p 168 || Nat.beq p 176 || Nat.beq p 184) 9 34 _ _ _).trans rfl

set_option maxRecDepth 16384 in
theorem t_358_135 {d : Nat} {h : AH} (hs : Sh h) (x0 : Nat) (u1 : Option Value) (u2 : Option Value) (s0 : Int32) :
    Q d 358 135 [some (.ref x0), u1, u2] [.int s0] h =
  if s0 = 0 then
   some (some (.int 0), h)
  else
   ck (gC h x0) 9 <|
   cK (E d 318 [.ref x0, .int 41] h) (Q d 358 144 [some (.ref x0), u1, u2]) [] := by
  rw [← hs.1]
  exact (blkM (fun p => Nat.beq p 144) 5 135 _ _ _).trans rfl

set_option maxRecDepth 16384 in
theorem t_358_160 {d : Nat} {h : AH} (hs : Sh h) (u0 : Option Value) (u1 : Option Value) (u2 : Option Value) (s0 : Int32) :
    Q d 358 160 [u0, u1, u2] [.int s0] h =
  if s0 = 0 ∨ s0 = 1 then
   some (some (.int s0), h)
  else
   none := by
  rw [← hs.1]
  exact (blkM (fun p => false) 2 160 _ _ _).trans rfl

set_option maxRecDepth 16384 in
theorem t_358_168 {d : Nat} {h : AH} (hs : Sh h) (u0 : Option Value) (u1 : Option Value) (u2 : Option Value) (s0 : Int32) :
    Q d 358 168 [u0, u1, u2] [.int s0] h =
  if s0 = 0 ∨ s0 = 1 then
   some (some (.int s0), h)
  else
   none := by
  rw [← hs.1]
  exact (blkM (fun p => false) 2 168 _ _ _).trans rfl

set_option maxRecDepth 16384 in
theorem t_358_176 {d : Nat} {h : AH} (hs : Sh h) (u0 : Option Value) (u1 : Option Value) (u2 : Option Value) (s0 : Int32) :
    Q d 358 176 [u0, u1, u2] [.int s0] h =
  if s0 = 0 ∨ s0 = 1 then
   some (some (.int s0), h)
  else
   none := by
  rw [← hs.1]
  exact (blkM (fun p => false) 2 176 _ _ _).trans rfl

set_option maxRecDepth 16384 in
theorem t_358_184 {d : Nat} {h : AH} (hs : Sh h) (u0 : Option Value) (u1 : Option Value) (u2 : Option Value) (s0 : Int32) :
    Q d 358 184 [u0, u1, u2] [.int s0] h =
  if s0 = 0 ∨ s0 = 1 then
   some (some (.int s0), h)
  else
   none := by
  rw [← hs.1]
  exact (blkM (fun p => false) 2 184 _ _ _).trans rfl

set_option maxRecDepth 16384 in
theorem t_358_144 {d : Nat} {h : AH} (hs : Sh h) (u0 : Option Value) (u1 : Option Value) (u2 : Option Value) (s0 : Int32) :
    Q d 358 144 [u0, u1, u2] [.int s0] h =
  if s0 = 0 then
   some (some (.int 0), h)
  else
   some (some (.int 1), h) := by
  rw [← hs.1]
  exact (blkM (fun p => false) 5 144 _ _ _).trans rfl

/-! 359 PostRoom$Script.readRefusal()Z -/
set_option maxRecDepth 16384 in
theorem t_359 {d : Nat} {h : AH} (hs : Sh h) (x0 : Nat) :
    E (d + 1) 359 [.ref x0] h =
  (ck (gC h x0) 9 <|
  if gI h 2307 x0 = 3 then
   ck (gC h x0) 9 <|
   (gR h 2309 x0).bind fun y1 =>
    ck (gC h y1) 12 <|
    if (9 : Int32) < gI h 3077 y1 then
     ck (gC h x0) 9 <|
     cK (E d 327 [.ref x0, .int 4] h) (Q d 359 25 [some (.ref x0)]) []
    else
     ck (gC h x0) 9 <|
     cK (E d 318 [.ref x0, .int 3] h) (Q d 359 31 [some (.ref x0)]) []
  else
   ck (gC h x0) 9 <|
   cK (E d 318 [.ref x0, .int 3] h) (Q d 359 31 [some (.ref x0)]) []) := by
  rw [← hs.1]
  exact ent rfl ((blkM (fun p => Nat.beq p 25 || Nat.beq p 31) 13 0 _ _ _).trans rfl)

set_option maxRecDepth 16384 in
theorem t_359_25 {d : Nat} {h : AH} (hs : Sh h) (u0 : Option Value) (s0 : Int32) :
    Q d 359 25 [u0] [.int s0] h =
  if s0 = 0 ∨ s0 = 1 then
   some (some (.int s0), h)
  else
   none := by
  rw [← hs.1]
  exact (blkM (fun p => false) 2 25 _ _ _).trans rfl

set_option maxRecDepth 16384 in
theorem t_359_31 {d : Nat} {h : AH} (hs : Sh h) (u0 : Option Value) (s0 : Int32) :
    Q d 359 31 [u0] [.int s0] h =
  if s0 = 0 ∨ s0 = 1 then
   some (some (.int s0), h)
  else
   none := by
  rw [← hs.1]
  exact (blkM (fun p => false) 2 31 _ _ _).trans rfl

/-! 360 PostRoom$Script.kindAt(I)I -/
set_option maxRecDepth 16384 in
theorem t_360 {d : Nat} {h : AH} (hs : Sh h) (x0 : Nat) (x1 : Int32) :
    E (d + 1) 360 [.ref x0, .int x1] h =
  if x1 < 0 then
   some (some (.int 0), h)
  else
   ck (gC h x0) 9 <|
   if x1 < gI h 2306 x0 then
    ck (gC h x0) 9 <|
    (gR h 2304 x0).bind fun y1 =>
     ck (gC h y1) 60 <|
     gd x1 (gK h y1) <|
     some (some (.int (gA h y1 (ix x1))), h)
   else
    some (some (.int 0), h) := by
  rw [← hs.1]
  exact ent rfl ((blkM (fun p => false) 13 0 _ _ _).trans rfl)

/-! 361 PostRoom$Machine.expression(I)J -/
set_option maxRecDepth 16384 in
theorem t_361 {d : Nat} {h : AH} (hs : Sh h) (x1 : Int32) :
    E (d + 1) 361 [.ref 175, .int x1] h =
  cK (E d 382 [.ref 175, .int x1] h) (Q d 361 5 [some (.ref 175), some (.int x1), none, none, none, none, none, none]) [] := by
  rw [← hs.1]
  exact ent rfl ((blkM (fun p => Nat.beq p 5) 4 0 _ _ _).trans rfl)

set_option maxRecDepth 16384 in
theorem t_361_5 {d : Nat} {h : AH} (hs : Sh h) (x1 : Int32) (u2 : Option Value) (u3 : Option Value) (u4 : Option Value) (u5 : Option Value) (u6 : Option Value) (u7 : Option Value) (s0 : Int64) :
    Q d 361 5 [some (.ref 175), some (.int x1), u2, u3, u4, u5, u6, u7] [.long s0] h =
  cK (E d 328 [.ref 175] h) (Q d 361 10 [some (.ref 175), some (.int x1), some (.long s0), none, u4, u5, u6, u7]) [] := by
  rw [← hs.1]
  exact (blkM (fun p => Nat.beq p 10) 4 5 _ _ _).trans rfl

set_option maxRecDepth 16384 in
theorem t_361_10 {d : Nat} {h : AH} (hs : Sh h) (x1 : Int32) (x2 : Int64) (u4 : Option Value) (u5 : Option Value) (u6 : Option Value) (u7 : Option Value) (s0 : Int32) :
    Q d 361 10 [some (.ref 175), some (.int x1), some (.long x2), none, u4, u5, u6, u7] [.int s0] h =
  cK (E d 362 [.ref 175] h) (Q d 361 16 [some (.ref 175), some (.int x1), some (.long x2), none, some (.int s0), u5, u6, u7]) [] := by
  rw [← hs.1]
  exact (blkM (fun p => Nat.beq p 16) 4 10 _ _ _).trans rfl

set_option maxRecDepth 16384 in
theorem t_361_16 {d : Nat} {h : AH} (hs : Sh h) (x1 : Int32) (x2 : Int64) (x4 : Int32) (u5 : Option Value) (u6 : Option Value) (u7 : Option Value) (s0 : Int32) :
    Q d 361 16 [some (.ref 175), some (.int x1), some (.long x2), none, some (.int x4), u5, u6, u7] [.int s0] h =
  if s0 = 0 then
   some (some (.long x2), h)
  else
   if x4 = 60 then
    cK (E d 382 [.ref 175, .int x1] (sI h 1545 175 ((gI h 1545 175) + 1))) (Q d 361 50 [some (.ref 175), some (.int x1), some (.long x2), none, some (.int x4), none, none, none]) []
   else
    if x4 = 61 then
     cK (E d 382 [.ref 175, .int x1] (sI h 1545 175 ((gI h 1545 175) + 1))) (Q d 361 50 [some (.ref 175), some (.int x1), some (.long x2), none, some (.int x4), none, none, none]) []
    else
     some (some (.long x2), h) := by
  rw [← hs.1]
  exact (blkM (fun p => Nat.beq p 50) 17 16 _ _ _).trans rfl

set_option maxRecDepth 16384 in
theorem t_361_50 {d : Nat} {h : AH} (hs : Sh h) (x2 : Int64) (x4 : Int32) (u0 : Option Value) (u1 : Option Value) (u5 : Option Value) (u6 : Option Value) (u7 : Option Value) (s0 : Int64) :
    Q d 361 50 [u0, u1, some (.long x2), none, some (.int x4), u5, u6, u7] [.long s0] h =
  if x4 = 60 then
   if lg_cmp x2 s0 < 0 then
    if (1 : Int32) = 0 then
     some (some (.long 0), h)
    else
     some (some (.long 1), h)
   else
    if (0 : Int32) = 0 then
     some (some (.long 0), h)
    else
     some (some (.long 1), h)
  else
   if lg_cmp x2 s0 = 0 then
    if (1 : Int32) = 0 then
     some (some (.long 0), h)
    else
     some (some (.long 1), h)
   else
    if (0 : Int32) = 0 then
     some (some (.long 0), h)
    else
     some (some (.long 1), h) := by
  rw [← hs.1]
  exact (blkM (fun p => false) 17 50 _ _ _).trans rfl

/-! 362 PostRoom$Machine.isGoing()Z -/
set_option maxRecDepth 16384 in
theorem t_362 {d : Nat} {h : AH} (hs : Sh h)  :
    E (d + 1) 362 [.ref 175] h =
  if gI h 1547 175 = 0 then
   some (some (.int 1), h)
  else
   some (some (.int 0), h) := by
  rw [← hs.1]
  exact ent rfl ((blkM (fun p => false) 7 0 _ _ _).trans rfl)

/-! 363 PostRoom$Machine.itemTold(I)I -/
set_option maxRecDepth 16384 in
theorem t_363 {d : Nat} {h : AH} (hs : Sh h) (x1 : Int32) :
    E (d + 1) 363 [.ref 175, .int x1] h =
  cK (E d 383 [.ref 175, .int x1] h) (Q d 363 5 [some (.ref 175), some (.int x1), none, none]) [] := by
  rw [← hs.1]
  exact ent rfl ((blkM (fun p => Nat.beq p 5) 4 0 _ _ _).trans rfl)

set_option maxRecDepth 16384 in
theorem t_363_5 {d : Nat} {h : AH} (hs : Sh h) (x1 : Int32) (u2 : Option Value) (u3 : Option Value) (s0 : Int32) :
    Q d 363 5 [some (.ref 175), some (.int x1), u2, u3] [.int s0] h =
  if s0 = 0 then
   cK (E d 328 [.ref 175] h) (Q d 363 14 [some (.ref 175), some (.int x1), u2, u3]) []
  else
   some (some (.int (-1)), h) := by
  rw [← hs.1]
  exact (blkM (fun p => Nat.beq p 14) 4 5 _ _ _).trans rfl

set_option maxRecDepth 16384 in
theorem t_363_14 {d : Nat} {h : AH} (hs : Sh h) (x1 : Int32) (u2 : Option Value) (u3 : Option Value) (s0 : Int32) :
    Q d 363 14 [some (.ref 175), some (.int x1), u2, u3] [.int s0] h =
  (gR h 1544 175).bind fun y1 =>
   ck (gC h y1) 9 <|
   cK (E d 330 [.ref y1, .int (gI h 1545 175)] h) (Q d 363 26 [some (.ref 175), some (.int x1), some (.int s0), u3]) [] := by
  rw [← hs.1]
  exact (blkM (fun p => Nat.beq p 26) 7 14 _ _ _).trans rfl

set_option maxRecDepth 16384 in
theorem t_363_26 {d : Nat} {h : AH} (hs : Sh h) (x1 : Int32) (x2 : Int32) (u3 : Option Value) (s0 : Int32) :
    Q d 363 26 [some (.ref 175), some (.int x1), some (.int x2), u3] [.int s0] h =
  if x2 = 5 then
   gd s0 4 <|
   some (some (.int (gA h 177 (ix s0))), sI h 1545 175 ((gI h 1545 175) + 1))
  else
   if x2 = 154 then
   some (some (.int (-1)), sI h 1545 175 ((gI h 1545 175) + 1))
  else
   if x2 = 155 then
   cK (E d 384 [.ref 175, .int (x1 + 1)] (sI h 1545 175 ((gI h 1545 175) + 1))) (Q d 363 97 [some (.ref 175), some (.int x1), some (.int x2), some (.int s0)]) [.ref 175]
  else
   if x2 = 156 then
   cK (E d 386 [.ref 175, .int (x1 + 1)] (sI h 1545 175 ((gI h 1545 175) + 1))) (Q d 363 108 [some (.ref 175), some (.int x1), some (.int x2), some (.int s0)]) []
  else
   cK (E d 363 [.ref 175, .int (x1 + 1)] (sI h 1545 175 ((gI h 1545 175) + 1))) (Q d 363 122 [some (.ref 175), some (.int x1), some (.int x2), some (.int s0)]) [.int (x2 - 157), .ref 175] := by
  rw [← hs.1]
  exact (blkM (fun p => Nat.beq p 97 || Nat.beq p 108 || Nat.beq p 122) 19 26 _ _ _).trans rfl

set_option maxRecDepth 16384 in
theorem t_363_97 {d : Nat} {h : AH} (hs : Sh h) (u0 : Option Value) (u1 : Option Value) (u2 : Option Value) (u3 : Option Value) (s0 : Nat) (s1 : Int64) :
    Q d 363 97 [u0, u1, u2, u3] [.long s1, .ref s0] h =
  (ck (gC h s0) 6 <|
  cK (E d 385 [.ref s0, .long s1] h) (Q d 363 100 [u0, u1, u2, u3]) []) := by
  rw [← hs.1]
  exact (blkM (fun p => Nat.beq p 100) 2 97 _ _ _).trans rfl

set_option maxRecDepth 16384 in
theorem t_363_108 {d : Nat} {h : AH} (hs : Sh h) (u0 : Option Value) (u1 : Option Value) (u2 : Option Value) (u3 : Option Value) (s0 : Int32) :
    Q d 363 108 [u0, u1, u2, u3] [.int s0] h =
  some (some (.int s0), h) := by
  rw [← hs.1]
  exact (blkM (fun p => false) 2 108 _ _ _).trans rfl

set_option maxRecDepth 16384 in
theorem t_363_122 {d : Nat} {h : AH} (hs : Sh h) (u0 : Option Value) (u1 : Option Value) (u2 : Option Value) (u3 : Option Value) (s0 : Nat) (s1 : Int32) (s2 : Int32) :
    Q d 363 122 [u0, u1, u2, u3] [.int s2, .int s1, .ref s0] h =
  (ck (gC h s0) 6 <|
  cK (E d 387 [.ref s0, .int s1, .int s2] h) (Q d 363 125 [u0, u1, u2, u3]) []) := by
  rw [← hs.1]
  exact (blkM (fun p => Nat.beq p 125) 2 122 _ _ _).trans rfl

set_option maxRecDepth 16384 in
theorem t_363_100 {d : Nat} {h : AH} (hs : Sh h) (u0 : Option Value) (u1 : Option Value) (u2 : Option Value) (u3 : Option Value) (s0 : Int32) :
    Q d 363 100 [u0, u1, u2, u3] [.int s0] h =
  some (some (.int s0), h) := by
  rw [← hs.1]
  exact (blkM (fun p => false) 2 100 _ _ _).trans rfl

set_option maxRecDepth 16384 in
theorem t_363_125 {d : Nat} {h : AH} (hs : Sh h) (u0 : Option Value) (u1 : Option Value) (u2 : Option Value) (u3 : Option Value) (s0 : Int32) :
    Q d 363 125 [u0, u1, u2, u3] [.int s0] h =
  some (some (.int s0), h) := by
  rw [← hs.1]
  exact (blkM (fun p => false) 2 125 _ _ _).trans rfl

/-! 364 PostRoom$Machine.trayTold(I)I -/
set_option maxRecDepth 16384 in
theorem t_364 {d : Nat} {h : AH} (hs : Sh h) (x1 : Int32) :
    E (d + 1) 364 [.ref 175, .int x1] h =
  cK (E d 384 [.ref 175, .int x1] (sI h 1545 175 ((gI h 1545 175) + 1))) (Q d 364 15 [some (.ref 175), some (.int x1), none, none]) [] := by
  rw [← hs.1]
  exact ent rfl ((blkM (fun p => Nat.beq p 15) 10 0 _ _ _).trans rfl)

set_option maxRecDepth 16384 in
theorem t_364_15 {d : Nat} {h : AH} (hs : Sh h) (u1 : Option Value) (u2 : Option Value) (u3 : Option Value) (s0 : Int64) :
    Q d 364 15 [some (.ref 175), u1, u2, u3] [.long s0] h =
  cK (E d 362 [.ref 175] h) (Q d 364 20 [some (.ref 175), klV u1, some (.long s0), none]) [] := by
  rw [← hs.1]
  exact (blkM (fun p => Nat.beq p 20) 4 15 _ _ _).trans rfl

set_option maxRecDepth 16384 in
theorem t_364_20 {d : Nat} {h : AH} (hs : Sh h) (x2 : Int64) (u1 : Option Value) (s0 : Int32) :
    Q d 364 20 [some (.ref 175), u1, some (.long x2), none] [.int s0] h =
  if s0 = 0 then
   Q d 364 42 [some (.ref 175), none, some (.long x2), none] [] h
  else
   if lg_cmp x2 0 < 0 then
    cK (E d 365 [.ref 175, .int 3] h) (Q d 364 42 [some (.ref 175), none, some (.long x2), none]) []
   else
    if lg_cmp x2 12 < 0 then
     Q d 364 42 [some (.ref 175), none, some (.long x2), none] [] h
    else
     cK (E d 365 [.ref 175, .int 3] h) (Q d 364 42 [some (.ref 175), none, some (.long x2), none]) [] := by
  rw [← hs.1]
  exact (blkM (fun p => Nat.beq p 42) 13 20 _ _ _).trans rfl

set_option maxRecDepth 16384 in
theorem t_364_42 {d : Nat} {h : AH} (hs : Sh h) (x2 : Int64) :
    Q d 364 42 [some (.ref 175), none, some (.long x2), none] [] h =
  cK (E d 362 [.ref 175] h) (Q d 364 46 [some (.ref 175), none, some (.long x2), none]) [] := by
  rw [← hs.1]
  exact (blkM (fun p => Nat.beq p 46) 3 42 _ _ _).trans rfl

set_option maxRecDepth 16384 in
theorem t_364_46 {d : Nat} {h : AH} (hs : Sh h) (x2 : Int64) (u0 : Option Value) (u1 : Option Value) (s0 : Int32) :
    Q d 364 46 [u0, u1, some (.long x2), none] [.int s0] h =
  if s0 = 0 then
   some (some (.int 0), h)
  else
   some (some (.int x2.toInt32), h) := by
  rw [← hs.1]
  exact (blkM (fun p => false) 6 46 _ _ _).trans rfl

/-! 365 PostRoom$Machine.refuse(I)V -/
set_option maxRecDepth 16384 in
theorem t_365 {d : Nat} {h : AH} (hs : Sh h) (x1 : Int32) :
    E (d + 1) 365 [.ref 175, .int x1] h =
  if gI h 1555 175 < 4000 then
   some (none, sI (sI h 1555 175 ((gI h 1555 175) + 1)) 1547 175 x1)
  else
   some (none, sI h 1547 175 11) := by
  rw [← hs.1]
  exact ent rfl ((blkM (fun p => false) 15 0 _ _ _).trans rfl)

/-! 366 PostRoom$Machine.newRow(III)V -/
set_option maxRecDepth 16384 in
theorem t_366 {d : Nat} {h : AH} (hs : Sh h) (x1 : Int32) (x2 : Int32) (x3 : Int32) :
    E (d + 1) 366 [.ref 175, .int x1, .int x2, .int x3] h =
  (gd x1 12 <|
  gd x1 12 <|
  gd x1 12 <|
  gd x1 12 <|
  Q d 366 37 [some (.ref 175), none, some (.int x2), some (.int x3), some (.int 0)] [] (sA (sA (sA (sA h 178 (ix x1) x2) 179 (ix x1) (gI h 1551 175)) 180 (ix x1) x3) 181 (ix x1) (gI h 1552 175))) := by
  rw [← hs.1]
  exact ent rfl ((blkM (fun p => Nat.beq p 37) 26 0 _ _ _).trans rfl)

set_option maxRecDepth 16384 in
theorem t_366_37 {d : Nat} {h : AH} (hs : Sh h) (x2 : Int32) (x3 : Int32) (x4 : Int32) :
    Q d 366 37 [some (.ref 175), none, some (.int x2), some (.int x3), some (.int x4)] [] h =
  if x4 < x3 then
   if x2 < 9 then
    gd ((gI h 1551 175) + x4) 2000 <|
    Q d 366 37 [some (.ref 175), none, some (.int x2), some (.int x3), some (.int (x4 + 1))] [] (sB h 182 (ix ((gI h 1551 175) + x4)) 0)
   else
    gd ((gI h 1551 175) + x4) 2000 <|
    Q d 366 37 [some (.ref 175), none, some (.int x2), some (.int x3), some (.int (x4 + 1))] [] (sB h 182 (ix ((gI h 1551 175) + x4)) (-1))
  else
   some (none, sI (sI (sI h 1551 175 ((gI h 1551 175) + x3)) 1554 175 ((gI h 1554 175) + x3)) 1552 175 ((gI h 1552 175) + 1)) := by
  rw [← hs.1]
  exact (blkM (fun p => Nat.beq p 37) 23 37 _ _ _).trans rfl

/-! 367 PostRoom$Machine.spotTold(I)J -/
set_option maxRecDepth 16384 in
theorem t_367 {d : Nat} {h : AH} (hs : Sh h) (x1 : Int32) :
    E (d + 1) 367 [.ref 175, .int x1] h =
  cK (E d 361 [.ref 175, .int x1] (sI h 1545 175 ((gI h 1545 175) + 1))) (Q d 367 15 [some (.ref 175), some (.int x1), none, none]) [] := by
  rw [← hs.1]
  exact ent rfl ((blkM (fun p => Nat.beq p 15) 10 0 _ _ _).trans rfl)

set_option maxRecDepth 16384 in
theorem t_367_15 {d : Nat} {h : AH} (hs : Sh h) (u1 : Option Value) (u2 : Option Value) (u3 : Option Value) (s0 : Int64) :
    Q d 367 15 [some (.ref 175), u1, u2, u3] [.long s0] h =
  some (some (.long s0), sI h 1545 175 ((gI h 1545 175) + 1)) := by
  rw [← hs.1]
  exact (blkM (fun p => false) 10 15 _ _ _).trans rfl

/-! 368 PostRoom$Machine.arenaPlace(IJZ)I -/
set_option maxRecDepth 16384 in
theorem t_368 {d : Nat} {h : AH} (hs : Sh h) (x1 : Int32) (x2 : Int64) (x4 : Int32) :
    E (d + 1) 368 [.ref 175, .int x1, .long x2, .int x4] h =
  (gd x1 12 <|
  if gA h 178 (ix x1) = 0 then
   cK (E d 365 [.ref 175, .int 1] h) (Q d 368 14 [some (.ref 175), some (.int x1), some (.long x2), none, some (.int x4)]) []
  else
   gd x1 12 <|
   if gA h 178 (ix x1) < 9 then
    if (0 : Int32) = x4 then
     if lg_cmp x2 0 < 0 then
      cK (E d 365 [.ref 175, .int 3] h) (Q d 368 69 [some (.ref 175), none, none, none, none]) []
     else
      gd x1 12 <|
      if lg_cmp x2 ((gA h 180 (ix x1)).toInt64) < 0 then
       gd x1 12 <|
       some (some (.int ((gA h 179 (ix x1)) + x2.toInt32)), h)
      else
       cK (E d 365 [.ref 175, .int 3] h) (Q d 368 69 [some (.ref 175), none, none, none, none]) []
    else
     cK (E d 365 [.ref 175, .int 2] h) (Q d 368 43 [some (.ref 175), some (.int x1), some (.long x2), none, some (.int x4)]) []
   else
    if (1 : Int32) = x4 then
     if lg_cmp x2 0 < 0 then
      cK (E d 365 [.ref 175, .int 3] h) (Q d 368 69 [some (.ref 175), none, none, none, none]) []
     else
      gd x1 12 <|
      if lg_cmp x2 ((gA h 180 (ix x1)).toInt64) < 0 then
       gd x1 12 <|
       some (some (.int ((gA h 179 (ix x1)) + x2.toInt32)), h)
      else
       cK (E d 365 [.ref 175, .int 3] h) (Q d 368 69 [some (.ref 175), none, none, none, none]) []
    else
     cK (E d 365 [.ref 175, .int 2] h) (Q d 368 43 [some (.ref 175), some (.int x1), some (.long x2), none, some (.int x4)]) []) := by
  rw [← hs.1]
  exact ent rfl ((blkM (fun p => Nat.beq p 14 || Nat.beq p 43 || Nat.beq p 69) 36 0 _ _ _).trans rfl)

set_option maxRecDepth 16384 in
theorem t_368_14 {d : Nat} {h : AH} (hs : Sh h) (u0 : Option Value) (u1 : Option Value) (u2 : Option Value) (u3 : Option Value) (u4 : Option Value) :
    Q d 368 14 [u0, u1, u2, u3, u4] [] h =
  some (some (.int (-1)), h) := by
  rw [← hs.1]
  exact (blkM (fun p => false) 4 14 _ _ _).trans rfl

set_option maxRecDepth 16384 in
theorem t_368_43 {d : Nat} {h : AH} (hs : Sh h) (u0 : Option Value) (u1 : Option Value) (u2 : Option Value) (u3 : Option Value) (u4 : Option Value) :
    Q d 368 43 [u0, u1, u2, u3, u4] [] h =
  some (some (.int (-1)), h) := by
  rw [← hs.1]
  exact (blkM (fun p => false) 4 43 _ _ _).trans rfl

set_option maxRecDepth 16384 in
theorem t_368_69 {d : Nat} {h : AH} (hs : Sh h) (u0 : Option Value) (u1 : Option Value) (u2 : Option Value) (u3 : Option Value) (u4 : Option Value) :
    Q d 368 69 [u0, u1, u2, u3, u4] [] h =
  some (some (.int (-1)), h) := by
  rw [← hs.1]
  exact (blkM (fun p => false) 4 69 _ _ _).trans rfl

/-! 369 PostRoom$Machine.kept(IJ)J -/
set_option maxRecDepth 16384 in
theorem t_369 {d : Nat} {h : AH} (hs : Sh h) (x0 : Int32) (x1 : Int64) :
    E (d + 1) 369 [.int x0, .long x1] h =
  if x0 = 1 then
   if lg_cmp x1 0 = 0 then
    some (some (.long 0), h)
   else
    some (some (.long 1), h)
  else
   if x0 = 2 then
   some (some (.long x1.toInt32.toInt8.toInt32.toInt64), h)
  else
   if x0 = 3 then
   some (some (.long (x1 &&& 65535)), h)
  else
   if x0 = 4 then
   some (some (.long x1.toInt32.toInt16.toInt32.toInt64), h)
  else
   if x0 = 5 then
   some (some (.long x1.toInt32.toInt64), h)
  else
   if x0 = 6 then
   some (some (.long x1), h)
  else
   if x0 = 7 then
   some (some (.long (FP.f2l (FP.l2f x1))), h)
  else
   if x0 = 8 then
   some (some (.long (FP.d2l (FP.l2d x1))), h)
  else
   some (some (.long x1), h) := by
  rw [← hs.1]
  exact ent rfl ((blkM (fun p => false) 10 0 _ _ _).trans rfl)

/-! 370 PostRoom$Machine.fitsRow(IJ)Z -/
set_option maxRecDepth 16384 in
theorem t_370 {d : Nat} {h : AH} (hs : Sh h) (x1 : Int32) (x2 : Int64) :
    E (d + 1) 370 [.ref 175, .int x1, .long x2] h =
  if lg_cmp x2 (-1) = 0 then
   some (some (.int 1), h)
  else
   if x1 = 9 then
    some (some (.int 1), h)
   else
    cK (E d 212 [.ref 164, .int x2.toInt32] h) (Q d 370 26 [some (.ref 175), some (.int x1), some (.long x2), none]) [] := by
  rw [← hs.1]
  exact ent rfl ((blkM (fun p => Nat.beq p 26) 14 0 _ _ _).trans rfl)

set_option maxRecDepth 16384 in
theorem t_370_26 {d : Nat} {h : AH} (hs : Sh h) (x1 : Int32) (u0 : Option Value) (u2 : Option Value) (u3 : Option Value) (s0 : Nat) :
    Q d 370 26 [u0, some (.int x1), u2, u3] [.ref s0] h =
  (ck (gC h s0) 5 <|
  ck (gC h s0) 5 <|
  cK (E d 388 [.ref s0, .int ((x1 - 9) - 1)] h) (Q d 370 38 [u0, some (.int x1), u2, u3]) []) := by
  rw [← hs.1]
  exact (blkM (fun p => Nat.beq p 38) 8 26 _ _ _).trans rfl

set_option maxRecDepth 16384 in
theorem t_370_38 {d : Nat} {h : AH} (hs : Sh h) (u0 : Option Value) (u1 : Option Value) (u2 : Option Value) (u3 : Option Value) (s0 : Int32) :
    Q d 370 38 [u0, u1, u2, u3] [.int s0] h =
  if s0 = 0 then
   some (some (.int 0), h)
  else
   some (some (.int 1), h) := by
  rw [← hs.1]
  exact (blkM (fun p => false) 5 38 _ _ _).trans rfl

/-! 371 PostRoom$Machine.hasPart(IJJ)Z -/
set_option maxRecDepth 16384 in
theorem t_371 {d : Nat} {h : AH} (hs : Sh h) (x1 : Int32) (x2 : Int64) (x4 : Int64) :
    E (d + 1) 371 [.ref 175, .int x1, .long x2, .long x4] h =
  if lg_cmp x2 0 < 0 then
   some (some (.int 0), h)
  else
   if lg_cmp x4 0 < 0 then
    some (some (.int 0), h)
   else
    gd x1 12 <|
    if (0 : Int32) < lg_cmp x4 ((gA h 180 (ix x1)).toInt64) then
     some (some (.int 0), h)
    else
     gd x1 12 <|
     if (0 : Int32) < lg_cmp x2 (((gA h 180 (ix x1)).toInt64) - x4) then
      some (some (.int 0), h)
     else
      some (some (.int 1), h) := by
  rw [← hs.1]
  exact ent rfl ((blkM (fun p => false) 30 0 _ _ _).trans rfl)

/-! 372 PostRoom$Machine.slideRow(IIII)V -/
set_option maxRecDepth 16384 in
theorem t_372 {d : Nat} {h : AH} (hs : Sh h) (x1 : Int32) (x2 : Int32) (x3 : Int32) (x4 : Int32) :
    E (d + 1) 372 [.ref 175, .int x1, .int x2, .int x3, .int x4] h =
  if (9 : Int32) < x4 then
   Q d 372 13 [some (.ref 175), some (.int x1), some (.int x2), some (.int x3), some (.int x4), some (.int 0)] [] h
  else
   if gC h 182 = 61 ∧ gC h 182 = 61 ∧ 100 ≤ 182 ∧ 100 ≤ 182 ∧ 0 ≤ 20 then
    if x3 < 0 ∨ x2 < 0 ∨ x1 < 0 then
    none
   else
    if ix x1 + ix x3 ≤ gK h 182 ∧ ix x2 + ix x3 ≤ gK h 182 then
     if x3 < x3 then
      cK (E d 365 [.ref 175, .int 5] (cpB h 182 (ix x1) 182 (ix x2) (ix x3))) (Q d 372 69 [none, none, none, none, none, none]) []
     else
      Q d 372 69 [none, none, none, none, none, none] [] (cpB h 182 (ix x1) 182 (ix x2) (ix x3))
    else
     none
   else
    none := by
  rw [← hs.1]
  exact ent rfl ((blkM (fun p => Nat.beq p 13 || Nat.beq p 69) 20 0 _ _ _).trans rfl)

set_option maxRecDepth 16384 in
theorem t_372_13 {d : Nat} {h : AH} (hs : Sh h) (x1 : Int32) (x2 : Int32) (x3 : Int32) (x4 : Int32) (x5 : Int32) :
    Q d 372 13 [some (.ref 175), some (.int x1), some (.int x2), some (.int x3), some (.int x4), some (.int x5)] [] h =
  if x5 < x3 then
   gd (x1 + x5) 2000 <|
   cK (E d 370 [.ref 175, .int x4, .long (gB h 182 (ix (x1 + x5)))] h) (Q d 372 34 [some (.ref 175), some (.int x1), some (.int x2), some (.int x3), some (.int x4), some (.int x5)]) []
  else
   if gC h 182 = 61 ∧ gC h 182 = 61 ∧ 100 ≤ 182 ∧ 100 ≤ 182 ∧ 0 ≤ 20 then
    if x5 < 0 ∨ x2 < 0 ∨ x1 < 0 then
    none
   else
    if ix x1 + ix x5 ≤ gK h 182 ∧ ix x2 + ix x5 ≤ gK h 182 then
     if x5 < x3 then
      cK (E d 365 [.ref 175, .int 5] (cpB h 182 (ix x1) 182 (ix x2) (ix x5))) (Q d 372 69 [none, none, none, none, none, none]) []
     else
      Q d 372 69 [none, none, none, none, none, none] [] (cpB h 182 (ix x1) 182 (ix x2) (ix x5))
    else
     none
   else
    none := by
  rw [← hs.1]
  exact (blkM (fun p => Nat.beq p 34 || Nat.beq p 69) 18 13 _ _ _).trans rfl

set_option maxRecDepth 16384 in
theorem t_372_69 {d : Nat} {h : AH} (hs : Sh h)  :
    Q d 372 69 [none, none, none, none, none, none] [] h =
  some (none, h) := by
  rw [← hs.1]
  exact (blkM (fun p => false) 2 69 _ _ _).trans rfl

set_option maxRecDepth 16384 in
theorem t_372_34 {d : Nat} {h : AH} (hs : Sh h) (x1 : Int32) (x2 : Int32) (x3 : Int32) (x4 : Int32) (x5 : Int32) (s0 : Int32) :
    Q d 372 34 [some (.ref 175), some (.int x1), some (.int x2), some (.int x3), some (.int x4), some (.int x5)] [.int s0] h =
  if s0 = 0 then
   if gC h 182 = 61 ∧ gC h 182 = 61 ∧ 100 ≤ 182 ∧ 100 ≤ 182 ∧ 0 ≤ 20 then
    if x5 < 0 ∨ x2 < 0 ∨ x1 < 0 then
    none
   else
    if ix x1 + ix x5 ≤ gK h 182 ∧ ix x2 + ix x5 ≤ gK h 182 then
     if x5 < x3 then
      cK (E d 365 [.ref 175, .int 5] (cpB h 182 (ix x1) 182 (ix x2) (ix x5))) (Q d 372 69 [none, none, none, none, none, none]) []
     else
      Q d 372 69 [none, none, none, none, none, none] [] (cpB h 182 (ix x1) 182 (ix x2) (ix x5))
    else
     none
   else
    none
  else
   Q d 372 13 [some (.ref 175), some (.int x1), some (.int x2), some (.int x3), some (.int x4), some (.int (x5 + 1))] [] h := by
  rw [← hs.1]
  exact (blkM (fun p => Nat.beq p 13 || Nat.beq p 69) 16 34 _ _ _).trans rfl

