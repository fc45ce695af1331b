/-! ===== THE METHODS, PIECE BY PIECE: 11 (made by wip/gen/gen40.py) ===== -/
/-! 389 java/util/ArrayList.grow(I)[Ljava/lang/Object; -/
set_option maxRecDepth 16384 in
theorem t_389 {d : Nat} {h : AH} (hs : Sh h) (x0 : Nat) (x1 : Int32) :
    E (d + 1) 389 [.ref x0, .int x1] h =
  (ck (gC h x0) 1 <|
  (gR h 257 x0).bind fun y1 =>
   if 60 ≤ gC h y1 ∧ gC h y1 ≤ 66 then
    if (nI 0) < nI (gK h y1) then
     cK (E d 400 [.int (nI (gK h y1)), .int (x1 - (nI (gK h y1))), .int ((nI (gK h y1)) >>> ((nI 1) &&& 31))] h) (Q d 389 30 [some (.ref x0), some (.int x1), some (.int (nI (gK h y1))), none]) []
    else
     ck (gC h x0) 1 <|
     (gR h 257 x0).bind fun y2 =>
      if y2 = 61 then
       cK (E d 391 [.int (nI 10), .int x1] h) (Q d 389 52 [some (.ref x0), some (.int x1), some (.int (nI (gK h y1))), none]) [.ref x0]
      else
       if gC h y2 ≠ 0 ∧ gC h 61 ≠ 0 ∧ (100 ≤ y2 ∨ 100 ≤ 61) then
        cK (E d 400 [.int (nI (gK h y1)), .int (x1 - (nI (gK h y1))), .int ((nI (gK h y1)) >>> ((nI 1) &&& 31))] h) (Q d 389 30 [some (.ref x0), some (.int x1), some (.int (nI (gK h y1))), none]) []
       else
        none
   else
    none) := by
  rw [← hs.1]
  exact entL (l := [some (.ref x0), some (.int x1), none, none]) rfl rfl ((blkM (fun p => Nat.beq p 30 || Nat.beq p 52) 19 0 _ _ _).trans rfl)

set_option maxRecDepth 16384 in
theorem t_389_30 {d : Nat} {h : AH} (hs : Sh h) (x0 : Nat) (u1 : Option Value) (u2 : Option Value) (u3 : Option Value) (s0 : Int32) :
    Q d 389 30 [some (.ref x0), u1, u2, u3] [.int s0] h =
  (ck (gC h x0) 1 <|
  (gR h 257 x0).bind fun y1 =>
   cK (E d 401 [.ref y1, .int s0] h) (Q d 389 40 [some (.ref x0), u1, klV u2, some (.int s0)]) [.ref x0]) := by
  rw [← hs.1]
  exact (blkM (fun p => Nat.beq p 40) 7 30 _ _ _).trans rfl

set_option maxRecDepth 16384 in
theorem t_389_52 {d : Nat} {h : AH} (hs : Sh h) (u0 : Option Value) (u1 : Option Value) (u2 : Option Value) (u3 : Option Value) (s0 : Nat) (s1 : Int32) :
    Q d 389 52 [u0, u1, u2, u3] [.int s1, .ref s0] h =
  if s1 < 0 then
   none
  else
   if ix s1 ≤ 1000000 then
    Q d 389 55 [u0, u1, u2, u3] [.ref (gN h), .ref s0] (nwA h 65 (ix s1))
   else
    none := by
  rw [← hs.1]
  exact (blkM (fun p => Nat.beq p 55) 3 52 _ _ _).trans rfl

set_option maxRecDepth 16384 in
theorem t_389_40 {d : Nat} {h : AH} (hs : Sh h) (u0 : Option Value) (u1 : Option Value) (u2 : Option Value) (u3 : Option Value) (s0 : Nat) (s1 : Nat) :
    Q d 389 40 [u0, u1, u2, u3] [.ref s1, .ref s0] h =
  (ck (gC h s0) 1 <|
  some (some (.ref s1), sR h 257 s0 (some s1))) := by
  rw [← hs.1]
  exact (blkM (fun p => false) 4 40 _ _ _).trans rfl

set_option maxRecDepth 16384 in
theorem t_389_55 {d : Nat} {h : AH} (hs : Sh h) (u0 : Option Value) (u1 : Option Value) (u2 : Option Value) (u3 : Option Value) (s0 : Nat) (s1 : Nat) :
    Q d 389 55 [u0, u1, u2, u3] [.ref s1, .ref s0] h =
  (ck (gC h s0) 1 <|
  some (some (.ref s1), sR h 257 s0 (some s1))) := by
  rw [← hs.1]
  exact (blkM (fun p => false) 4 55 _ _ _).trans rfl

/-! 390 java/lang/StringLatin1.canEncode(I)Z -/
set_option maxRecDepth 16384 in
theorem t_390 {d : Nat} {h : AH} (hs : Sh h) (x0 : Int32) :
    E (d + 1) 390 [.int x0] h =
  if x0 < nI 0 then
   some (some (.int (nI 0)), h)
  else
   if (nI 255) < x0 then
    some (some (.int (nI 0)), h)
   else
    some (some (.int (nI 1)), h) := by
  rw [← hs.1]
  exact entL (l := [some (.int x0)]) rfl rfl ((blkM (fun p => false) 9 0 _ _ _).trans rfl)

/-! 391 java/lang/Math.max(II)I -/
set_option maxRecDepth 16384 in
theorem t_391 {d : Nat} {h : AH} (hs : Sh h) (x0 : Int32) (x1 : Int32) :
    E (d + 1) 391 [.int x0, .int x1] h =
  if x0 < x1 then
   some (some (.int x1), h)
  else
   some (some (.int x0), h) := by
  rw [← hs.1]
  exact entL (l := [some (.int x0), some (.int x1)]) rfl rfl ((blkM (fun p => false) 7 0 _ _ _).trans rfl)

/-! 392 java/lang/StringLatin1.indexOfChar([BIII)I -/
set_option maxRecDepth 16384 in
theorem t_392 {d : Nat} {h : AH} (hs : Sh h) (x0 : Nat) (x1 : Int32) (x2 : Int32) (x3 : Int32) :
    E (d + 1) 392 [.ref x0, .int x1, .int x2, .int x3] h =
  Q d 392 7 [some (.ref x0), none, none, some (.int x3), some (.int x1.toInt8.toInt32), some (.int x2)] [] h := by
  rw [← hs.1]
  exact entL (l := [some (.ref x0), some (.int x1), some (.int x2), some (.int x3), none, none]) rfl rfl ((blkM (fun p => Nat.beq p 7) 7 0 _ _ _).trans rfl)

set_option maxRecDepth 16384 in
theorem t_392_7 {d : Nat} {h : AH} (hs : Sh h) (x0 : Nat) (x3 : Int32) (x4 : Int32) (x5 : Int32) :
    Q d 392 7 [some (.ref x0), none, none, some (.int x3), some (.int x4), some (.int x5)] [] h =
  if x5 < x3 then
   ck (gC h x0) 64 <|
   gd x5 (gK h x0) <|
   if gA h x0 (ix x5) = x4 then
    some (some (.int x5), h)
   else
    Q d 392 7 [some (.ref x0), none, none, some (.int x3), some (.int x4), some (.int (x5 + nI 1))] [] h
  else
   some (some (.int (-1)), h) := by
  rw [← hs.1]
  exact (blkM (fun p => Nat.beq p 7) 12 7 _ _ _).trans rfl

/-! 393 PostRoom$Machine.product(I)J -/
set_option maxRecDepth 16384 in
theorem t_393 {d : Nat} {h : AH} (hs : Sh h) (x1 : Int32) :
    E (d + 1) 393 [.ref 175, .int x1] h =
  cK (E d 384 [.ref 175, .int x1] h) (Q d 393 5 [some (.ref 175), some (.int x1), none, none, none, none, none, none]) [] := by
  rw [← hs.1]
  exact entL (l := [some (.ref 175), some (.int x1), none, none, none, none, none, none]) rfl rfl ((blkM (fun p => Nat.beq p 5) 4 0 _ _ _).trans rfl)

set_option maxRecDepth 16384 in
theorem t_393_5 {d : Nat} {h : AH} (hs : Sh h) (x1 : Int32) (u2 : Option Value) (u3 : Option Value) (u4 : Option Value) (u5 : Option Value) (u6 : Option Value) (u7 : Option Value) (s0 : Int64) :
    Q d 393 5 [some (.ref 175), some (.int x1), u2, u3, u4, u5, u6, u7] [.long s0] h =
  Q d 393 9 [some (.ref 175), some (.int x1), some (.long s0), none, some (.int (nI 0)), none, none, none] [] h := by
  rw [← hs.1]
  exact (blkM (fun p => Nat.beq p 9) 5 5 _ _ _).trans rfl

set_option maxRecDepth 16384 in
theorem t_393_9 {d : Nat} {h : AH} (hs : Sh h) (x1 : Int32) (x2 : Int64) (x4 : Int32) :
    Q d 393 9 [some (.ref 175), some (.int x1), some (.long x2), none, some (.int x4), none, none, none] [] h =
  if x4 < nI 4000 then
   cK (E d 362 [.ref 175] h) (Q d 393 21 [some (.ref 175), some (.int x1), some (.long x2), none, some (.int x4), none, none, none]) []
  else
   some (some (.long x2), h) := by
  rw [← hs.1]
  exact (blkM (fun p => Nat.beq p 21) 6 9 _ _ _).trans rfl

set_option maxRecDepth 16384 in
theorem t_393_21 {d : Nat} {h : AH} (hs : Sh h) (x1 : Int32) (x2 : Int64) (x4 : Int32) (u5 : Option Value) (u6 : Option Value) (u7 : Option Value) (s0 : Int32) :
    Q d 393 21 [some (.ref 175), some (.int x1), some (.long x2), none, some (.int x4), u5, u6, u7] [.int s0] h =
  if s0 = nI 0 then
   some (some (.long x2), h)
  else
   cK (E d 328 [.ref 175] h) (Q d 393 28 [some (.ref 175), some (.int x1), some (.long x2), none, some (.int x4), u5, u6, u7]) [] := by
  rw [← hs.1]
  exact (blkM (fun p => Nat.beq p 28) 4 21 _ _ _).trans rfl

set_option maxRecDepth 16384 in
theorem t_393_28 {d : Nat} {h : AH} (hs : Sh h) (x1 : Int32) (x2 : Int64) (x4 : Int32) (u5 : Option Value) (u6 : Option Value) (u7 : Option Value) (s0 : Int32) :
    Q d 393 28 [some (.ref 175), some (.int x1), some (.long x2), none, some (.int x4), u5, u6, u7] [.int s0] h =
  if s0 = nI 42 then
   cK (E d 384 [.ref 175, .int x1] (sI h 1545 175 ((gI h 1545 175) + (nI 1)))) (Q d 393 68 [some (.ref 175), some (.int x1), some (.long x2), none, some (.int x4), some (.int s0), none, none]) []
  else
   if s0 = nI 47 then
    cK (E d 384 [.ref 175, .int x1] (sI h 1545 175 ((gI h 1545 175) + (nI 1)))) (Q d 393 68 [some (.ref 175), some (.int x1), some (.long x2), none, some (.int x4), some (.int s0), none, none]) []
   else
    if s0 = nI 37 then
     cK (E d 384 [.ref 175, .int x1] (sI h 1545 175 ((gI h 1545 175) + (nI 1)))) (Q d 393 68 [some (.ref 175), some (.int x1), some (.long x2), none, some (.int x4), some (.int s0), none, none]) []
    else
     some (some (.long x2), h) := by
  rw [← hs.1]
  exact (blkM (fun p => Nat.beq p 68) 20 28 _ _ _).trans rfl

set_option maxRecDepth 16384 in
theorem t_393_68 {d : Nat} {h : AH} (hs : Sh h) (x1 : Int32) (x2 : Int64) (x4 : Int32) (x5 : Int32) (u6 : Option Value) (u7 : Option Value) (s0 : Int64) :
    Q d 393 68 [some (.ref 175), some (.int x1), some (.long x2), none, some (.int x4), some (.int x5), u6, u7] [.long s0] h =
  cK (E d 362 [.ref 175] h) (Q d 393 74 [some (.ref 175), some (.int x1), some (.long x2), none, some (.int x4), some (.int x5), some (.long s0), none]) [] := by
  rw [← hs.1]
  exact (blkM (fun p => Nat.beq p 74) 4 68 _ _ _).trans rfl

set_option maxRecDepth 16384 in
theorem t_393_74 {d : Nat} {h : AH} (hs : Sh h) (x1 : Int32) (x2 : Int64) (x4 : Int32) (x5 : Int32) (x6 : Int64) (s0 : Int32) :
    Q d 393 74 [some (.ref 175), some (.int x1), some (.long x2), none, some (.int x4), some (.int x5), some (.long x6), none] [.int s0] h =
  if s0 = nI 0 then
   Q d 393 97 [some (.ref 175), some (.int x1), some (.long x2), none, some (.int x4), some (.int x5), some (.long x6), none] [] h
  else
   if x5 = nI 42 then
    Q d 393 97 [some (.ref 175), some (.int x1), some (.long x2), none, some (.int x4), some (.int x5), some (.long x6), none] [] h
   else
    if lg_cmp x6 0 = nI 0 then
     cK (E d 365 [.ref 175, .int (nI 6)] h) (Q d 393 97 [some (.ref 175), some (.int x1), some (.long x2), none, some (.int x4), some (.int x5), some (.long x6), none]) []
    else
     Q d 393 97 [some (.ref 175), some (.int x1), some (.long x2), none, some (.int x4), some (.int x5), some (.long x6), none] [] h := by
  rw [← hs.1]
  exact (blkM (fun p => Nat.beq p 97) 12 74 _ _ _).trans rfl

set_option maxRecDepth 16384 in
theorem t_393_97 {d : Nat} {h : AH} (hs : Sh h) (x1 : Int32) (x2 : Int64) (x4 : Int32) (x5 : Int32) (x6 : Int64) :
    Q d 393 97 [some (.ref 175), some (.int x1), some (.long x2), none, some (.int x4), some (.int x5), some (.long x6), none] [] h =
  cK (E d 362 [.ref 175] h) (Q d 393 101 [some (.ref 175), some (.int x1), some (.long x2), none, some (.int x4), some (.int x5), some (.long x6), none]) [] := by
  rw [← hs.1]
  exact (blkM (fun p => Nat.beq p 101) 3 97 _ _ _).trans rfl

set_option maxRecDepth 16384 in
theorem t_393_101 {d : Nat} {h : AH} (hs : Sh h) (x1 : Int32) (x2 : Int64) (x4 : Int32) (x5 : Int32) (x6 : Int64) (s0 : Int32) :
    Q d 393 101 [some (.ref 175), some (.int x1), some (.long x2), none, some (.int x4), some (.int x5), some (.long x6), none] [.int s0] h =
  if s0 = nI 0 then
   Q d 393 9 [some (.ref 175), some (.int x1), some (.long x2), none, some (.int (x4 + nI 1)), none, none, none] [] h
  else
   if x5 = nI 42 then
    Q d 393 9 [some (.ref 175), some (.int x1), some (.long (x2 * x6)), none, some (.int (x4 + nI 1)), none, none, none] [] h
   else
    if x5 = nI 47 then
     dZ x6 <|
     Q d 393 9 [some (.ref 175), some (.int x1), some (.long (x2 / x6)), none, some (.int (x4 + nI 1)), none, none, none] [] h
    else
     dZ x6 <|
     Q d 393 9 [some (.ref 175), some (.int x1), some (.long (x2 - x2 / x6 * x6)), none, some (.int (x4 + nI 1)), none, none, none] [] h := by
  rw [← hs.1]
  exact (blkM (fun p => Nat.beq p 9) 16 101 _ _ _).trans rfl

/-! 394 PostRoom$Machine.inBrackets(I)J -/
set_option maxRecDepth 16384 in
theorem t_394 {d : Nat} {h : AH} (hs : Sh h) (x1 : Int32) :
    E (d + 1) 394 [.ref 175, .int x1] h =
  cK (E d 361 [.ref 175, .int x1] h) (Q d 394 5 [some (.ref 175), some (.int x1), none, none]) [] := by
  rw [← hs.1]
  exact entL (l := [some (.ref 175), some (.int x1), none, none]) rfl rfl ((blkM (fun p => Nat.beq p 5) 4 0 _ _ _).trans rfl)

set_option maxRecDepth 16384 in
theorem t_394_5 {d : Nat} {h : AH} (hs : Sh h) (u1 : Option Value) (u2 : Option Value) (u3 : Option Value) (s0 : Int64) :
    Q d 394 5 [some (.ref 175), u1, u2, u3] [.long s0] h =
  some (some (.long s0), sI h 1545 175 ((gI h 1545 175) + (nI 1))) := by
  rw [← hs.1]
  exact (blkM (fun p => false) 10 5 _ _ _).trans rfl

/-! 395 PostRoom$Machine.lengthTold(I)J -/
set_option maxRecDepth 16384 in
theorem t_395 {d : Nat} {h : AH} (hs : Sh h) (x1 : Int32) :
    E (d + 1) 395 [.ref 175, .int x1] h =
  cK (E d 364 [.ref 175, .int x1] h) (Q d 395 5 [some (.ref 175), some (.int x1), none]) [] := by
  rw [← hs.1]
  exact entL (l := [some (.ref 175), some (.int x1), none]) rfl rfl ((blkM (fun p => Nat.beq p 5) 4 0 _ _ _).trans rfl)

set_option maxRecDepth 16384 in
theorem t_395_5 {d : Nat} {h : AH} (hs : Sh h) (u1 : Option Value) (u2 : Option Value) (s0 : Int32) :
    Q d 395 5 [some (.ref 175), u1, u2] [.int s0] h =
  cK (E d 362 [.ref 175] h) (Q d 395 10 [some (.ref 175), klV u1, some (.int s0)]) [] := by
  rw [← hs.1]
  exact (blkM (fun p => Nat.beq p 10) 4 5 _ _ _).trans rfl

set_option maxRecDepth 16384 in
theorem t_395_10 {d : Nat} {h : AH} (hs : Sh h) (x2 : Int32) (u1 : Option Value) (s0 : Int32) :
    Q d 395 10 [some (.ref 175), u1, some (.int x2)] [.int s0] h =
  if s0 = nI 0 then
   some (some (.long 0), h)
  else
   gd x2 12 <|
   if gA h 178 (ix x2) = nI 0 then
    cK (E d 365 [.ref 175, .int (nI 1)] h) (Q d 395 29 [some (.ref 175), u1, some (.int x2)]) []
   else
    gd x2 12 <|
    some (some (.long ((gA h 180 (ix x2)).toInt64)), h) := by
  rw [← hs.1]
  exact (blkM (fun p => Nat.beq p 29) 13 10 _ _ _).trans rfl

set_option maxRecDepth 16384 in
theorem t_395_29 {d : Nat} {h : AH} (hs : Sh h) (u0 : Option Value) (u1 : Option Value) (u2 : Option Value) :
    Q d 395 29 [u0, u1, u2] [] h =
  some (some (.long 0), h) := by
  rw [← hs.1]
  exact (blkM (fun p => false) 3 29 _ _ _).trans rfl

/-! 396 PostRoom$Machine.rowTold(I)J -/
set_option maxRecDepth 16384 in
theorem t_396 {d : Nat} {h : AH} (hs : Sh h) (x1 : Int32) :
    E (d + 1) 396 [.ref 175, .int x1] h =
  cK (E d 364 [.ref 175, .int x1] h) (Q d 396 5 [some (.ref 175), some (.int x1), none]) [] := by
  rw [← hs.1]
  exact entL (l := [some (.ref 175), some (.int x1), none]) rfl rfl ((blkM (fun p => Nat.beq p 5) 4 0 _ _ _).trans rfl)

set_option maxRecDepth 16384 in
theorem t_396_5 {d : Nat} {h : AH} (hs : Sh h) (u1 : Option Value) (u2 : Option Value) (s0 : Int32) :
    Q d 396 5 [some (.ref 175), u1, u2] [.int s0] h =
  cK (E d 362 [.ref 175] h) (Q d 396 10 [some (.ref 175), klV u1, some (.int s0)]) [] := by
  rw [← hs.1]
  exact (blkM (fun p => Nat.beq p 10) 4 5 _ _ _).trans rfl

set_option maxRecDepth 16384 in
theorem t_396_10 {d : Nat} {h : AH} (hs : Sh h) (x2 : Int32) (u1 : Option Value) (s0 : Int32) :
    Q d 396 10 [some (.ref 175), u1, some (.int x2)] [.int s0] h =
  if s0 = nI 0 then
   some (some (.long 0), h)
  else
   gd x2 12 <|
   some (some (.long ((gA h 178 (ix x2)).toInt64)), h) := by
  rw [← hs.1]
  exact (blkM (fun p => false) 9 10 _ _ _).trans rfl

/-! 397 PostRoom$Machine.numberTold(I)J -/
set_option maxRecDepth 16384 in
theorem t_397 {d : Nat} {h : AH} (hs : Sh h) (x1 : Int32) :
    E (d + 1) 397 [.ref 175, .int x1] h =
  cK (E d 399 [.ref 175, .int x1, .int (nI 0)] h) (Q d 397 6 [some (.ref 175), some (.int x1), none]) [] := by
  rw [← hs.1]
  exact entL (l := [some (.ref 175), some (.int x1), none]) rfl rfl ((blkM (fun p => Nat.beq p 6) 5 0 _ _ _).trans rfl)

set_option maxRecDepth 16384 in
theorem t_397_6 {d : Nat} {h : AH} (hs : Sh h) (u1 : Option Value) (u2 : Option Value) (s0 : Int32) :
    Q d 397 6 [some (.ref 175), u1, u2] [.int s0] h =
  if s0 = (-1) then
   some (some (.long 0), h)
  else
   gd s0 2000 <|
   some (some (.long (gB h 182 (ix s0))), h) := by
  rw [← hs.1]
  exact (blkM (fun p => false) 10 6 _ _ _).trans rfl

/-! 398 PostRoom$Machine.ofItem(II)J -/
set_option maxRecDepth 16384 in
theorem t_398 {d : Nat} {h : AH} (hs : Sh h) (x1 : Int32) (x2 : Int32) :
    E (d + 1) 398 [.ref 175, .int x1, .int x2] h =
  cK (E d 362 [.ref 175] h) (Q d 398 4 [some (.ref 175), some (.int x1), some (.int x2), none]) [] := by
  rw [← hs.1]
  exact entL (l := [some (.ref 175), some (.int x1), some (.int x2), none]) rfl rfl ((blkM (fun p => Nat.beq p 4) 3 0 _ _ _).trans rfl)

set_option maxRecDepth 16384 in
theorem t_398_4 {d : Nat} {h : AH} (hs : Sh h) (x1 : Int32) (x2 : Int32) (u3 : Option Value) (s0 : Int32) :
    Q d 398 4 [some (.ref 175), some (.int x1), some (.int x2), u3] [.int s0] h =
  if s0 = nI 0 then
   some (some (.long 0), h)
  else
   if x1 = nI 150 then
    if x2 = (-1) then
     some (some (.long 0), h)
    else
     some (some (.long 1), h)
   else
    if x2 = (-1) then
     cK (E d 365 [.ref 175, .int (nI 1)] h) (Q d 398 37 [some (.ref 175), some (.int x1), some (.int x2), u3]) []
    else
     cK (E d 212 [.ref 164, .int x2] h) (Q d 398 50 [some (.ref 175), some (.int x1), some (.int x2), u3]) [] := by
  rw [← hs.1]
  exact (blkM (fun p => Nat.beq p 37 || Nat.beq p 50) 13 4 _ _ _).trans rfl

set_option maxRecDepth 16384 in
theorem t_398_37 {d : Nat} {h : AH} (hs : Sh h) (u0 : Option Value) (u1 : Option Value) (u2 : Option Value) (u3 : Option Value) :
    Q d 398 37 [u0, u1, u2, u3] [] h =
  some (some (.long 0), h) := by
  rw [← hs.1]
  exact (blkM (fun p => false) 3 37 _ _ _).trans rfl

set_option maxRecDepth 16384 in
theorem t_398_50 {d : Nat} {h : AH} (hs : Sh h) (x1 : Int32) (u2 : Option Value) (u3 : Option Value) (s0 : Nat) :
    Q d 398 50 [some (.ref 175), some (.int x1), u2, u3] [.ref s0] h =
  (ck (gC h s0) 5 <|
  if x1 = nI 146 then
   (gR h 2048 156).bind fun y1 =>
    ck (gC h y1) 2 <|
    (gR h 512 y1).bind fun y2 =>
     cK (E d 254 [.ref 156, .ref s0] h) (Q d 398 98 [some (.ref 175), some (.int x1), klV u2, some (.ref s0)]) [.ref y2]
  else
   if x1 = nI 147 then
   ck (gC h s0) 5 <|
   some (some (.long ((gI h 1282 s0).toInt64)), h)
  else
   if x1 = nI 148 then
   ck (gC h s0) 5 <|
   some (some (.long ((gI h 1281 s0).toInt64)), h)
  else
   cK (E d 329 [.ref 175] h) (Q d 398 125 [some (.ref 175), some (.int x1), klV u2, some (.ref s0)]) []) := by
  rw [← hs.1]
  exact (blkM (fun p => Nat.beq p 98 || Nat.beq p 125) 13 50 _ _ _).trans rfl

set_option maxRecDepth 16384 in
theorem t_398_98 {d : Nat} {h : AH} (hs : Sh h) (u0 : Option Value) (u1 : Option Value) (u2 : Option Value) (u3 : Option Value) (s0 : Nat) (s1 : Int32) :
    Q d 398 98 [u0, u1, u2, u3] [.int s1, .ref s0] h =
  (ck (gC h s0) 1 <|
  cK (E d 212 [.ref s0, .int s1] h) (Q d 398 101 [u0, u1, u2, u3]) []) := by
  rw [← hs.1]
  exact (blkM (fun p => Nat.beq p 101) 2 98 _ _ _).trans rfl

set_option maxRecDepth 16384 in
theorem t_398_125 {d : Nat} {h : AH} (hs : Sh h) (x3 : Nat) (u1 : Option Value) (u2 : Option Value) (s0 : Int32) :
    Q d 398 125 [some (.ref 175), u1, u2, some (.ref x3)] [.int s0] h =
  if s0 = nI 0 then
   some (some (.long 0), h)
  else
   cK (E d 253 [.ref 156, .int (gI h 1546 175)] h) (Q d 398 141 [some (.ref 175), u1, u2, some (.ref x3)]) [] := by
  rw [← hs.1]
  exact (blkM (fun p => Nat.beq p 141) 7 125 _ _ _).trans rfl

set_option maxRecDepth 16384 in
theorem t_398_101 {d : Nat} {h : AH} (hs : Sh h) (u0 : Option Value) (u1 : Option Value) (u2 : Option Value) (u3 : Option Value) (s0 : Nat) :
    Q d 398 101 [u0, u1, u2, u3] [.ref s0] h =
  (ck (gC h s0) 7 <|
  ck (gC h s0) 7 <|
  some (some (.long ((gI h 1794 s0).toInt64)), h)) := by
  rw [← hs.1]
  exact (blkM (fun p => false) 5 101 _ _ _).trans rfl

set_option maxRecDepth 16384 in
theorem t_398_141 {d : Nat} {h : AH} (hs : Sh h) (x3 : Nat) (u1 : Option Value) (u2 : Option Value) :
    Q d 398 141 [some (.ref 175), u1, u2, some (.ref x3)] [] h =
  cK (E d 254 [.ref 156, .ref x3] h) (Q d 398 156 [some (.ref 175), u1, u2, some (.ref x3)]) [.ref 169] := by
  rw [← hs.1]
  exact (blkM (fun p => Nat.beq p 156) 8 141 _ _ _).trans rfl

set_option maxRecDepth 16384 in
theorem t_398_156 {d : Nat} {h : AH} (hs : Sh h) (u0 : Option Value) (u1 : Option Value) (u2 : Option Value) (u3 : Option Value) (s0 : Nat) (s1 : Int32) :
    Q d 398 156 [u0, u1, u2, u3] [.int s1, .ref s0] h =
  (ck (gC h s0) 60 <|
  gd s1 (gK h s0) <|
  some (some (.long ((gA h s0 (ix s1)).toInt64)), h)) := by
  rw [← hs.1]
  exact (blkM (fun p => false) 4 156 _ _ _).trans rfl

/-! 399 PostRoom$Machine.whereTold(IZ)I -/
set_option maxRecDepth 16384 in
theorem t_399 {d : Nat} {h : AH} (hs : Sh h) (x1 : Int32) (x2 : Int32) :
    E (d + 1) 399 [.ref 175, .int x1, .int x2] h =
  cK (E d 364 [.ref 175, .int x1] h) (Q d 399 5 [some (.ref 175), some (.int x1), some (.int x2), none, none, none]) [] := by
  rw [← hs.1]
  exact entL (l := [some (.ref 175), some (.int x1), some (.int x2), none, none, none]) rfl rfl ((blkM (fun p => Nat.beq p 5) 4 0 _ _ _).trans rfl)

set_option maxRecDepth 16384 in
theorem t_399_5 {d : Nat} {h : AH} (hs : Sh h) (x1 : Int32) (x2 : Int32) (u3 : Option Value) (u4 : Option Value) (u5 : Option Value) (s0 : Int32) :
    Q d 399 5 [some (.ref 175), some (.int x1), some (.int x2), u3, u4, u5] [.int s0] h =
  cK (E d 362 [.ref 175] h) (Q d 399 10 [some (.ref 175), some (.int x1), some (.int x2), some (.int s0), u4, u5]) [] := by
  rw [← hs.1]
  exact (blkM (fun p => Nat.beq p 10) 4 5 _ _ _).trans rfl

set_option maxRecDepth 16384 in
theorem t_399_10 {d : Nat} {h : AH} (hs : Sh h) (x1 : Int32) (x2 : Int32) (x3 : Int32) (u4 : Option Value) (u5 : Option Value) (s0 : Int32) :
    Q d 399 10 [some (.ref 175), some (.int x1), some (.int x2), some (.int x3), u4, u5] [.int s0] h =
  if s0 = nI 0 then
   some (some (.int (-1)), h)
  else
   cK (E d 367 [.ref 175, .int x1] h) (Q d 399 20 [some (.ref 175), some (.int x1), some (.int x2), some (.int x3), u4, u5]) [] := by
  rw [← hs.1]
  exact (blkM (fun p => Nat.beq p 20) 5 10 _ _ _).trans rfl

set_option maxRecDepth 16384 in
theorem t_399_20 {d : Nat} {h : AH} (hs : Sh h) (x2 : Int32) (x3 : Int32) (u1 : Option Value) (u4 : Option Value) (u5 : Option Value) (s0 : Int64) :
    Q d 399 20 [some (.ref 175), u1, some (.int x2), some (.int x3), u4, u5] [.long s0] h =
  cK (E d 362 [.ref 175] h) (Q d 399 26 [some (.ref 175), u1, some (.int x2), some (.int x3), some (.long s0), none]) [] := by
  rw [← hs.1]
  exact (blkM (fun p => Nat.beq p 26) 4 20 _ _ _).trans rfl

set_option maxRecDepth 16384 in
theorem t_399_26 {d : Nat} {h : AH} (hs : Sh h) (x2 : Int32) (x3 : Int32) (x4 : Int64) (u1 : Option Value) (s0 : Int32) :
    Q d 399 26 [some (.ref 175), u1, some (.int x2), some (.int x3), some (.long x4), none] [.int s0] h =
  if s0 = nI 0 then
   some (some (.int (-1)), h)
  else
   cK (E d 368 [.ref 175, .int x3, .long x4, .int x2] h) (Q d 399 37 [some (.ref 175), u1, some (.int x2), some (.int x3), some (.long x4), none]) [] := by
  rw [← hs.1]
  exact (blkM (fun p => Nat.beq p 37) 7 26 _ _ _).trans rfl

set_option maxRecDepth 16384 in
theorem t_399_37 {d : Nat} {h : AH} (hs : Sh h) (u0 : Option Value) (u1 : Option Value) (u2 : Option Value) (u3 : Option Value) (u4 : Option Value) (u5 : Option Value) (s0 : Int32) :
    Q d 399 37 [u0, u1, u2, u3, u4, u5] [.int s0] h =
  some (some (.int s0), h) := by
  rw [← hs.1]
  exact (blkM (fun p => false) 3 37 _ _ _).trans rfl

/-! 400 jdk/internal/util/ArraysSupport.newLength(III)I -/
set_option maxRecDepth 16384 in
theorem t_400 {d : Nat} {h : AH} (hs : Sh h) (x0 : Int32) (x1 : Int32) (x2 : Int32) :
    E (d + 1) 400 [.int x0, .int x1, .int x2] h =
  cK (E d 391 [.int x1, .int x2] h) (Q d 400 6 [some (.int x0), some (.int x1), some (.int x2), none]) [.int x0] := by
  rw [← hs.1]
  exact entL (l := [some (.int x0), some (.int x1), some (.int x2), none]) rfl rfl ((blkM (fun p => Nat.beq p 6) 5 0 _ _ _).trans rfl)

set_option maxRecDepth 16384 in
theorem t_400_6 {d : Nat} {h : AH} (hs : Sh h) (x0 : Int32) (x1 : Int32) (u2 : Option Value) (u3 : Option Value) (s0 : Int32) (s1 : Int32) :
    Q d 400 6 [some (.int x0), some (.int x1), u2, u3] [.int s1, .int s0] h =
  if (nI 0) < s0 + s1 then
   if (nI 2147483639) < s0 + s1 then
    none
   else
    some (some (.int (s0 + s1)), h)
  else
   none := by
  rw [← hs.1]
  exact (blkM (fun p => false) 12 6 _ _ _).trans rfl

/-! 401 java/util/Arrays.copyOf([Ljava/lang/Object;I)[Ljava/lang/Object; -/
set_option maxRecDepth 16384 in
theorem t_401 {d : Nat} {h : AH} (hs : Sh h) (x0 : Nat) (x1 : Int32) :
    E (d + 1) 401 [.ref x0, .int x1] h =
  if gC h x0 = 65 ∧ 2 ≤ 20 then
   cK (E d 402 [.ref x0, .int x1, .ref 62] h) (Q d 401 9 [some (.ref x0), some (.int x1)]) []
  else
   none := by
  rw [← hs.1]
  exact entL (l := [some (.ref x0), some (.int x1)]) rfl rfl ((blkM (fun p => Nat.beq p 9) 6 0 _ _ _).trans rfl)

set_option maxRecDepth 16384 in
theorem t_401_9 {d : Nat} {h : AH} (hs : Sh h) (u0 : Option Value) (u1 : Option Value) (s0 : Nat) :
    Q d 401 9 [u0, u1] [.ref s0] h =
  some (some (.ref s0), h) := by
  rw [← hs.1]
  exact (blkM (fun p => false) 2 9 _ _ _).trans rfl

/-! 402 java/util/Arrays.copyOf([Ljava/lang/Object;ILjava/lang/Class;)[Ljava/lang/Object; -/
set_option maxRecDepth 16384 in
theorem t_402 {d : Nat} {h : AH} (hs : Sh h) (x0 : Nat) (x1 : Int32) (x2 : Nat) :
    E (d + 1) 402 [.ref x0, .int x1, .ref x2] h =
  if x2 = 62 then
   if x1 < 0 then
    none
   else
    if ix x1 ≤ 1000000 then
     Q d 402 10 [some (.ref x0), some (.int x1), some (.ref x2), none] [.ref (gN h)] (nwA h 65 (ix x1))
    else
     none
  else
   if gC h x2 ≠ 0 ∧ gC h 62 ≠ 0 ∧ (100 ≤ x2 ∨ 100 ≤ 62) then
    none
   else
    none := by
  rw [← hs.1]
  exact entL (l := [some (.ref x0), some (.int x1), some (.ref x2), none]) rfl rfl ((blkM (fun p => Nat.beq p 10) 7 0 _ _ _).trans rfl)

set_option maxRecDepth 16384 in
theorem t_402_10 {d : Nat} {h : AH} (hs : Sh h) (x0 : Nat) (x1 : Int32) (u2 : Option Value) (u3 : Option Value) (s0 : Nat) :
    Q d 402 10 [some (.ref x0), some (.int x1), u2, u3] [.ref s0] h =
  if 60 ≤ gC h x0 ∧ gC h x0 ≤ 66 then
   cK (E d 302 [.int (nI (gK h x0)), .int x1] h) (Q d 402 35 [some (.ref x0), some (.int x1), none, some (.ref s0)]) [.int (nI 0), .ref s0, .int (nI 0), .ref x0]
  else
   none := by
  rw [← hs.1]
  exact (blkM (fun p => Nat.beq p 35) 11 10 _ _ _).trans rfl

set_option maxRecDepth 16384 in
theorem t_402_35 {d : Nat} {h : AH} (hs : Sh h) (x3 : Nat) (u0 : Option Value) (u1 : Option Value) (u2 : Option Value) (s0 : Nat) (s1 : Int32) (s2 : Nat) (s3 : Int32) (s4 : Int32) :
    Q d 402 35 [u0, u1, u2, some (.ref x3)] [.int s4, .int s3, .ref s2, .int s1, .ref s0] h =
  if gC h s0 = 65 ∧ gC h s2 = 65 ∧ 100 ≤ s0 ∧ 100 ≤ s2 ∧ 0 ≤ 20 then
   if s4 < 0 ∨ s3 < 0 ∨ s1 < 0 then
   none
  else
   if ix s1 + ix s4 ≤ gK h s0 ∧ ix s3 + ix s4 ≤ gK h s2 then
    some (some (.ref x3), cpO h s0 (ix s1) s2 (ix s3) (ix s4))
   else
    none
  else
   none := by
  rw [← hs.1]
  exact (blkM (fun p => false) 4 35 _ _ _).trans rfl

