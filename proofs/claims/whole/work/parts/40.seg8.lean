/-! ===== THE METHODS, PIECE BY PIECE: 8 (made by wip/gen/gen40.py) ===== -/
/-! 291 PostRoom$Book.readRules(LPostRoom$Service;)Z -/
set_option maxRecDepth 16384 in
theorem t_291 {d : Nat} {h : AH} (hs : Sh h) (x0 : Nat) (x1 : Nat) :
    E (d + 1) 291 [.ref x0, .ref x1] h =
  Q d 291 2 [some (.ref x0), some (.ref x1), some (.int 0), none] [] h := by
  rw [← hs.1]
  exact ent rfl ((blkM (fun p => Nat.beq p 2) 4 0 _ _ _).trans rfl)

set_option maxRecDepth 16384 in
theorem t_291_2 {d : Nat} {h : AH} (hs : Sh h) (x0 : Nat) (x1 : Nat) (x2 : Int32) :
    Q d 291 2 [some (.ref x0), some (.ref x1), some (.int x2), none] [] h =
  if (8 : Int32) < x2 then
   ck (gC h x0) 2 <|
   cK (E d 237 [.ref x0, .int 1] h) (Q d 291 85 [some (.ref x0), some (.ref x1), some (.int x2), none]) []
  else
   ck (gC h x0) 2 <|
   (gR h 520 x0).bind fun y1 =>
    ck (gC h y1) 12 <|
    cK (E d 238 [.ref y1] h) (Q d 291 15 [some (.ref x0), some (.ref x1), some (.int x2), none]) [] := by
  rw [← hs.1]
  exact (blkM (fun p => Nat.beq p 15 || Nat.beq p 85) 7 2 _ _ _).trans rfl

set_option maxRecDepth 16384 in
theorem t_291_15 {d : Nat} {h : AH} (hs : Sh h) (x0 : Nat) (x1 : Nat) (x2 : Int32) (u3 : Option Value) :
    Q d 291 15 [some (.ref x0), some (.ref x1), some (.int x2), u3] [] h =
  (ck (gC h x0) 2 <|
  (gR h 520 x0).bind fun y1 =>
   ck (gC h y1) 12 <|
   if gI h 3076 y1 = 59 then
    some (some (.int 1), h)
   else
    ck (gC h x0) 2 <|
    (gR h 520 x0).bind fun y2 =>
     ck (gC h y2) 12 <|
     cK (E d 231 [.ref y2, .ref 11] h) (Q d 291 38 [some (.ref x0), some (.ref x1), some (.int x2), u3]) []) := by
  rw [← hs.1]
  exact (blkM (fun p => Nat.beq p 38) 10 15 _ _ _).trans rfl

set_option maxRecDepth 16384 in
theorem t_291_85 {d : Nat} {h : AH} (hs : Sh h) (u0 : Option Value) (u1 : Option Value) (u2 : Option Value) (u3 : Option Value) (s0 : Int32) :
    Q d 291 85 [u0, u1, u2, u3] [.int s0] h =
  if s0 = 0 ∨ s0 = 1 then
   some (some (.int s0), h)
  else
   none := by
  rw [← hs.1]
  exact (blkM (fun p => false) 2 85 _ _ _).trans rfl

set_option maxRecDepth 16384 in
theorem t_291_38 {d : Nat} {h : AH} (hs : Sh h) (x0 : Nat) (x1 : Nat) (x2 : Int32) (u3 : Option Value) (s0 : Int32) :
    Q d 291 38 [some (.ref x0), some (.ref x1), some (.int x2), u3] [.int s0] h =
  if s0 = (-1) then
   ck (gC h x0) 2 <|
   cK (E d 237 [.ref x0, .int 1] h) (Q d 291 49 [some (.ref x0), some (.ref x1), some (.int x2), some (.int s0)]) []
  else
   if x2 < 8 then
    ck (gC h x0) 2 <|
    cK (E d 350 [.ref x0, .ref x1, .int x2, .int s0] h) (Q d 291 69 [some (.ref x0), some (.ref x1), some (.int x2), some (.int s0)]) []
   else
    ck (gC h x0) 2 <|
    cK (E d 237 [.ref x0, .int 5] h) (Q d 291 61 [some (.ref x0), some (.ref x1), some (.int x2), some (.int s0)]) [] := by
  rw [← hs.1]
  exact (blkM (fun p => Nat.beq p 49 || Nat.beq p 61 || Nat.beq p 69) 13 38 _ _ _).trans rfl

set_option maxRecDepth 16384 in
theorem t_291_49 {d : Nat} {h : AH} (hs : Sh h) (u0 : Option Value) (u1 : Option Value) (u2 : Option Value) (u3 : Option Value) (s0 : Int32) :
    Q d 291 49 [u0, u1, u2, u3] [.int s0] h =
  if s0 = 0 ∨ s0 = 1 then
   some (some (.int s0), h)
  else
   none := by
  rw [← hs.1]
  exact (blkM (fun p => false) 2 49 _ _ _).trans rfl

set_option maxRecDepth 16384 in
theorem t_291_61 {d : Nat} {h : AH} (hs : Sh h) (u0 : Option Value) (u1 : Option Value) (u2 : Option Value) (u3 : Option Value) (s0 : Int32) :
    Q d 291 61 [u0, u1, u2, u3] [.int s0] h =
  if s0 = 0 ∨ s0 = 1 then
   some (some (.int s0), h)
  else
   none := by
  rw [← hs.1]
  exact (blkM (fun p => false) 2 61 _ _ _).trans rfl

set_option maxRecDepth 16384 in
theorem t_291_69 {d : Nat} {h : AH} (hs : Sh h) (x0 : Nat) (x1 : Nat) (x2 : Int32) (u3 : Option Value) (s0 : Int32) :
    Q d 291 69 [some (.ref x0), some (.ref x1), some (.int x2), u3] [.int s0] h =
  if s0 = 0 then
   some (some (.int 0), h)
  else
   Q d 291 2 [some (.ref x0), some (.ref x1), some (.int (x2 + 1)), none] [] h := by
  rw [← hs.1]
  exact (blkM (fun p => Nat.beq p 2) 5 69 _ _ _).trans rfl

/-! 292 PostRoom$Coach.<init>()V -/
set_option maxRecDepth 16384 in
theorem t_292 {d : Nat} {h : AH} (hs : Sh h) (x0 : Nat) :
    E (d + 1) 292 [.ref x0] h =
  (ck (gC h x0) 3 <|
  Q d 292 13 [some (.ref x0)] [.ref (gN h), .ref x0] (nwO (sI h 771 x0 1) 1 3)) := by
  rw [← hs.1]
  exact ent rfl ((blkM (fun p => Nat.beq p 13) 9 0 _ _ _).trans rfl)

set_option maxRecDepth 16384 in
theorem t_292_13 {d : Nat} {h : AH} (hs : Sh h) (u0 : Option Value) (s0 : Nat) (s1 : Nat) :
    Q d 292 13 [u0] [.ref s1, .ref s0] h =
  cK (E d 226 [.ref s1] h) (Q d 292 17 [u0]) [.ref s1, .ref s0] := by
  rw [← hs.1]
  exact (blkM (fun p => Nat.beq p 17) 3 13 _ _ _).trans rfl

set_option maxRecDepth 16384 in
theorem t_292_17 {d : Nat} {h : AH} (hs : Sh h) (u0 : Option Value) (s0 : Nat) (s1 : Nat) :
    Q d 292 17 [u0] [.ref s1, .ref s0] h =
  (ck (gC h s0) 3 <|
  some (none, sR h 775 s0 (some s1))) := by
  rw [← hs.1]
  exact (blkM (fun p => false) 3 17 _ _ _).trans rfl

/-! 293 PostRoom$Book.readTimes(LPostRoom$Coach;)Z -/
set_option maxRecDepth 16384 in
theorem t_293 {d : Nat} {h : AH} (hs : Sh h) (x0 : Nat) (x1 : Nat) :
    E (d + 1) 293 [.ref x0, .ref x1] h =
  (ck (gC h x0) 2 <|
  cK (E d 288 [.ref x0, .ref 13] h) (Q d 293 7 [some (.ref x0), some (.ref x1)]) []) := by
  rw [← hs.1]
  exact ent rfl ((blkM (fun p => Nat.beq p 7) 4 0 _ _ _).trans rfl)

set_option maxRecDepth 16384 in
theorem t_293_7 {d : Nat} {h : AH} (hs : Sh h) (x0 : Nat) (x1 : Nat) (s0 : Int32) :
    Q d 293 7 [some (.ref x0), some (.ref x1)] [.int s0] h =
  if s0 = 0 then
   some (some (.int 0), h)
  else
   ck (gC h x0) 2 <|
   cK (E d 280 [.ref x0, .int 0, .int 1439] h) (Q d 293 18 [some (.ref x0), some (.ref x1)]) [] := by
  rw [← hs.1]
  exact (blkM (fun p => Nat.beq p 18) 6 7 _ _ _).trans rfl

set_option maxRecDepth 16384 in
theorem t_293_18 {d : Nat} {h : AH} (hs : Sh h) (x0 : Nat) (x1 : Nat) (s0 : Int32) :
    Q d 293 18 [some (.ref x0), some (.ref x1)] [.int s0] h =
  if s0 = 0 then
   some (some (.int 0), h)
  else
   ck (gC h x0) 2 <|
   (gR h 520 x0).bind fun y1 =>
    ck (gC h y1) 12 <|
    ck (gC h x1) 3 <|
    ck (gC h x0) 2 <|
    cK (E d 288 [.ref x0, .ref 14] (sI h 770 x1 (gI h 3077 y1))) (Q d 293 41 [some (.ref x0), some (.ref x1)]) [] := by
  rw [← hs.1]
  exact (blkM (fun p => Nat.beq p 41) 10 18 _ _ _).trans rfl

set_option maxRecDepth 16384 in
theorem t_293_41 {d : Nat} {h : AH} (hs : Sh h) (x0 : Nat) (x1 : Nat) (s0 : Int32) :
    Q d 293 41 [some (.ref x0), some (.ref x1)] [.int s0] h =
  if s0 = 0 then
   some (some (.int 0), h)
  else
   ck (gC h x0) 2 <|
   cK (E d 280 [.ref x0, .int 1, .int 1440] h) (Q d 293 52 [some (.ref x0), some (.ref x1)]) [] := by
  rw [← hs.1]
  exact (blkM (fun p => Nat.beq p 52) 6 41 _ _ _).trans rfl

set_option maxRecDepth 16384 in
theorem t_293_52 {d : Nat} {h : AH} (hs : Sh h) (x0 : Nat) (x1 : Nat) (s0 : Int32) :
    Q d 293 52 [some (.ref x0), some (.ref x1)] [.int s0] h =
  if s0 = 0 then
   some (some (.int 0), h)
  else
   ck (gC h x0) 2 <|
   (gR h 520 x0).bind fun y1 =>
    ck (gC h y1) 12 <|
    ck (gC h x1) 3 <|
    ck (gC h x0) 2 <|
    cK (E d 288 [.ref x0, .ref 15] (sI h 771 x1 (gI h 3077 y1))) (Q d 293 75 [some (.ref x0), some (.ref x1)]) [] := by
  rw [← hs.1]
  exact (blkM (fun p => Nat.beq p 75) 10 52 _ _ _).trans rfl

set_option maxRecDepth 16384 in
theorem t_293_75 {d : Nat} {h : AH} (hs : Sh h) (x0 : Nat) (x1 : Nat) (s0 : Int32) :
    Q d 293 75 [some (.ref x0), some (.ref x1)] [.int s0] h =
  if s0 = 0 then
   some (some (.int 0), h)
  else
   ck (gC h x1) 3 <|
   ck (gC h x0) 2 <|
   cK (E d 280 [.ref x0, .int (gI h 770 x1), .int 1439] h) (Q d 293 89 [some (.ref x0), some (.ref x1)]) [] := by
  rw [← hs.1]
  exact (blkM (fun p => Nat.beq p 89) 7 75 _ _ _).trans rfl

set_option maxRecDepth 16384 in
theorem t_293_89 {d : Nat} {h : AH} (hs : Sh h) (x0 : Nat) (x1 : Nat) (s0 : Int32) :
    Q d 293 89 [some (.ref x0), some (.ref x1)] [.int s0] h =
  if s0 = 0 then
   some (some (.int 0), h)
  else
   ck (gC h x0) 2 <|
   (gR h 520 x0).bind fun y1 =>
    ck (gC h y1) 12 <|
    ck (gC h x1) 3 <|
    some (some (.int 1), sI h 772 x1 (gI h 3077 y1)) := by
  rw [← hs.1]
  exact (blkM (fun p => false) 9 89 _ _ _).trans rfl

/-! 294 PostRoom$Tape.codeOf(C)I -/
set_option maxRecDepth 16384 in
theorem t_294 {d : Nat} {h : AH} (hs : Sh h) (x0 : Int32) :
    E (d + 1) 294 [.int x0] h =
  if x0 < 97 then
   if x0 < 48 then
    some (some (.int 0), h)
   else
    if (57 : Int32) < x0 then
     some (some (.int 0), h)
    else
     some (some (.int ((x0 - 48) + 27)), h)
  else
   if (122 : Int32) < x0 then
    if x0 < 48 then
     some (some (.int 0), h)
    else
     if (57 : Int32) < x0 then
      some (some (.int 0), h)
     else
      some (some (.int ((x0 - 48) + 27)), h)
   else
    some (some (.int ((x0 - 97) + 1)), h) := by
  rw [← hs.1]
  exact ent rfl ((blkM (fun p => false) 20 0 _ _ _).trans rfl)

/-! 295 java/lang/String.indexOf(I)I -/
set_option maxRecDepth 16384 in
theorem t_295 {d : Nat} {h : AH} (hs : Sh h) (x0 : Nat) (x1 : Int32) :
    E (d + 1) 295 [.ref x0, .int x1] h =
  (ck (gC h x0) 15 <|
  cK (E d 351 [.ref x0, .int x1, .int 0] h) (Q d 295 6 [some (.ref x0), some (.int x1)]) []) := by
  rw [← hs.1]
  exact ent rfl ((blkM (fun p => Nat.beq p 6) 5 0 _ _ _).trans rfl)

set_option maxRecDepth 16384 in
theorem t_295_6 {d : Nat} {h : AH} (hs : Sh h) (u0 : Option Value) (u1 : Option Value) (s0 : Int32) :
    Q d 295 6 [u0, u1] [.int s0] h =
  some (some (.int s0), h) := by
  rw [← hs.1]
  exact (blkM (fun p => false) 2 6 _ _ _).trans rfl

/-! 296 PostRoom$Finder.plainCode(C)I -/
set_option maxRecDepth 16384 in
theorem t_296 {d : Nat} {h : AH} (hs : Sh h) (x0 : Int32) :
    E (d + 1) 296 [.int x0] h =
  if x0 < 65 then
   cK (E d 294 [.int x0] h) (Q d 296 25 [none]) []
  else
   if (90 : Int32) < x0 then
    cK (E d 294 [.int x0] h) (Q d 296 25 [none]) []
   else
    Q d 296 25 [none] [.int ((x0 - 65) + 1)] h := by
  rw [← hs.1]
  exact ent rfl ((blkM (fun p => Nat.beq p 25) 14 0 _ _ _).trans rfl)

set_option maxRecDepth 16384 in
theorem t_296_25 {d : Nat} {h : AH} (hs : Sh h) (s0 : Int32) :
    Q d 296 25 [none] [.int s0] h =
  some (some (.int s0), h) := by
  rw [← hs.1]
  exact (blkM (fun p => false) 2 25 _ _ _).trans rfl

/-! 297 PostRoom$Finder.addWord(LPostRoom$Tape;IILPostRoom$Book;)V -/
set_option maxRecDepth 16384 in
theorem t_297 {d : Nat} {h : AH} (hs : Sh h) (x1 : Nat) (x2 : Int32) (x3 : Int32) (x4 : Nat) :
    E (d + 1) 297 [.ref 103, .ref x1, .int x2, .int x3, .ref x4] h =
  if gI h 1028 103 = 0 then
   Q d 297 24 [some (.ref 103), some (.ref x1), some (.int x2), some (.int x3), some (.ref x4), none, none, none, none, none] [.int 0] h
  else
   gd ((gI h 1028 103) - 1) 41 <|
   Q d 297 24 [some (.ref 103), some (.ref x1), some (.int x2), some (.int x3), some (.ref x4), none, none, none, none, none] [.int ((gA h 106 (ix ((gI h 1028 103) - 1))) + 1)] h := by
  rw [← hs.1]
  exact ent rfl ((blkM (fun p => Nat.beq p 24) 14 0 _ _ _).trans rfl)

set_option maxRecDepth 16384 in
theorem t_297_24 {d : Nat} {h : AH} (hs : Sh h) (x1 : Nat) (x2 : Int32) (x3 : Int32) (x4 : Nat) (s0 : Int32) :
    Q d 297 24 [some (.ref 103), some (.ref x1), some (.int x2), some (.int x3), some (.ref x4), none, none, none, none, none] [.int s0] h =
  if (0 : Int32) < s0 then
   gd (s0 - 1) 613 <|
   Q d 297 51 [some (.ref 103), some (.ref x1), some (.int x2), some (.int x3), some (.ref x4), some (.int s0), some (.int s0), some (.long 0), none, some (.int x2)] [] (sA h 104 (ix (s0 - 1)) 0)
  else
   Q d 297 51 [some (.ref 103), some (.ref x1), some (.int x2), some (.int x3), some (.ref x4), some (.int s0), some (.int s0), some (.long 0), none, some (.int x2)] [] h := by
  rw [← hs.1]
  exact (blkM (fun p => Nat.beq p 51) 18 24 _ _ _).trans rfl

set_option maxRecDepth 16384 in
theorem t_297_51 {d : Nat} {h : AH} (hs : Sh h) (x1 : Nat) (x2 : Int32) (x3 : Int32) (x4 : Nat) (x5 : Int32) (x6 : Int32) (x7 : Int64) (x9 : Int32) :
    Q d 297 51 [some (.ref 103), some (.ref x1), some (.int x2), some (.int x3), some (.ref x4), some (.int x5), some (.int x6), some (.long x7), none, some (.int x9)] [] h =
  if x9 < x3 then
   ck (gC h x1) 12 <|
   (gR h 3072 x1).bind fun y1 =>
    ck (gC h y1) 62 <|
    gd x9 (gK h y1) <|
    cK (E d 296 [.int (gA h y1 (ix x9))] h) (Q d 297 73 [some (.ref 103), some (.ref x1), some (.int x2), some (.int x3), some (.ref x4), some (.int x5), some (.int x6), some (.long x7), none, some (.int x9)]) [.int x6, .ref 104]
  else
   if (12 : Int32) < x3 - x2 then
    gd (gI h 1028 103) 41 <|
    if ((-1) : Int32) = (-1) then
     gd (gI h 1028 103) 41 <|
     some (none, sI (sA (sA h 105 (ix (gI h 1028 103)) x5) 106 (ix (gI h 1028 103)) x6) 1028 103 ((gI h 1028 103) + 1))
    else
     ck (gC h x4) 2 <|
     (gR h 517 x4).bind fun y2 =>
      ck (gC h y2) 61 <|
      gd ((-1) : Int32) (gK h y2) <|
      cK (E d 352 [.ref 103, .long (gB h y2 (ix ((-1) : Int32))), .int x5] (sA h 105 (ix (gI h 1028 103)) x5)) (Q d 297 167 [some (.ref 103), none, none, none, some (.ref x4), some (.int x5), some (.int x6), none, none, some (.int (-1))]) [.int x5, .int (gI h 1028 103), .ref 106]
   else
    ck (gC h x4) 2 <|
    cK (E d 283 [.ref x4, .long x7] h) (Q d 297 115 [some (.ref 103), some (.ref x1), some (.int x2), some (.int x3), some (.ref x4), some (.int x5), some (.int x6), some (.long x7), none, some (.int x9)]) [] := by
  rw [← hs.1]
  exact (blkM (fun p => Nat.beq p 73 || Nat.beq p 115 || Nat.beq p 167) 34 51 _ _ _).trans rfl

set_option maxRecDepth 16384 in
theorem t_297_73 {d : Nat} {h : AH} (hs : Sh h) (x1 : Nat) (x2 : Int32) (x3 : Int32) (x4 : Nat) (x5 : Int32) (x6 : Int32) (x7 : Int64) (x9 : Int32) (s0 : Nat) (s1 : Int32) (s2 : Int32) :
    Q d 297 73 [some (.ref 103), some (.ref x1), some (.int x2), some (.int x3), some (.ref x4), some (.int x5), some (.int x6), some (.long x7), none, some (.int x9)] [.int s2, .int s1, .ref s0] h =
  (cw (gC h s0) 60 s0 <|
  gd s1 (gK h s0) <|
  gd x6 613 <|
  Q d 297 51 [some (.ref 103), some (.ref x1), some (.int x2), some (.int x3), some (.ref x4), some (.int x5), some (.int (x6 + 1)), some (.long ((x7 * 37) + ((gA (sA h s0 (ix s1) s2) 104 (ix x6)).toInt64))), none, some (.int (x9 + 1))] [] (sA h s0 (ix s1) s2)) := by
  rw [← hs.1]
  exact (blkM (fun p => Nat.beq p 51) 16 73 _ _ _).trans rfl

set_option maxRecDepth 16384 in
theorem t_297_115 {d : Nat} {h : AH} (hs : Sh h) (x4 : Nat) (x5 : Int32) (x6 : Int32) (u1 : Option Value) (u2 : Option Value) (u3 : Option Value) (u7 : Option Value) (u8 : Option Value) (u9 : Option Value) (s0 : Int32) :
    Q d 297 115 [some (.ref 103), u1, u2, u3, some (.ref x4), some (.int x5), some (.int x6), u7, u8, u9] [.int s0] h =
  (gd (gI h 1028 103) 41 <|
  if s0 = (-1) then
   gd (gI h 1028 103) 41 <|
   some (none, sI (sA (sA h 105 (ix (gI h 1028 103)) x5) 106 (ix (gI h 1028 103)) x6) 1028 103 ((gI h 1028 103) + 1))
  else
   ck (gC h x4) 2 <|
   (gR h 517 x4).bind fun y1 =>
    ck (gC h y1) 61 <|
    gd s0 (gK h y1) <|
    cK (E d 352 [.ref 103, .long (gB h y1 (ix s0)), .int x5] (sA h 105 (ix (gI h 1028 103)) x5)) (Q d 297 167 [some (.ref 103), none, none, none, some (.ref x4), some (.int x5), some (.int x6), none, none, some (.int s0)]) [.int x5, .int (gI h 1028 103), .ref 106]) := by
  rw [← hs.1]
  exact (blkM (fun p => Nat.beq p 167) 26 115 _ _ _).trans rfl

set_option maxRecDepth 16384 in
theorem t_297_167 {d : Nat} {h : AH} (hs : Sh h) (u1 : Option Value) (u2 : Option Value) (u3 : Option Value) (u4 : Option Value) (u5 : Option Value) (u6 : Option Value) (u7 : Option Value) (u8 : Option Value) (u9 : Option Value) (s0 : Nat) (s1 : Int32) (s2 : Int32) (s3 : Int32) :
    Q d 297 167 [some (.ref 103), u1, u2, u3, u4, u5, u6, u7, u8, u9] [.int s3, .int s2, .int s1, .ref s0] h =
  (cw (gC h s0) 60 s0 <|
  gd s1 (gK h s0) <|
  some (none, sI (sA h s0 (ix s1) (s2 + s3)) 1028 103 ((gI h 1028 103) + 1))) := by
  rw [← hs.1]
  exact (blkM (fun p => false) 10 167 _ _ _).trans rfl

/-! 298 PostRoom$Street.fits(I)Z -/
set_option maxRecDepth 16384 in
theorem t_298 {d : Nat} {h : AH} (hs : Sh h) (x0 : Nat) (x1 : Int32) :
    E (d + 1) 298 [.ref x0, .int x1] h =
  (ck (gC h x0) 11 <|
  if x1 < gI h 2819 x0 then
   some (some (.int 0), h)
  else
   ck (gC h x0) 11 <|
   if gI h 2820 x0 < x1 then
    some (some (.int 0), h)
   else
    ck (gC h x0) 11 <|
    if gI h 2818 x0 = 0 then
     some (some (.int 1), h)
    else
     ck (gC h x0) 11 <|
     if x1 - x1 / 2 * 2 = (gI h 2818 x0) - (gI h 2818 x0) / 2 * 2 then
      some (some (.int 1), h)
     else
      some (some (.int 0), h)) := by
  rw [← hs.1]
  exact ent rfl ((blkM (fun p => false) 23 0 _ _ _).trans rfl)

/-! 299 PostRoom$Finder.farOf(LPostRoom$Street;LPostRoom$Office;)I -/
set_option maxRecDepth 16384 in
theorem t_299 {d : Nat} {h : AH} (hs : Sh h) (x1 : Nat) (x2 : Nat) :
    E (d + 1) 299 [.ref 103, .ref x1, .ref x2] h =
  if gI h 1029 103 = (-1) then
   Q d 299 75 [some (.ref 103), some (.ref x1), some (.ref x2), some (.int 99), some (.int 2), none] [] h
  else
   if (gI h 1029 103) + 1 < gI h 1028 103 then
    ck (gC h x2) 7 <|
    (gR h 1793 x2).bind fun y1 =>
     cK (E d 353 [.ref 103, .ref y1, .int ((gI h 1029 103) + 1), .int (gI h 1028 103)] h) (Q d 299 39 [some (.ref 103), some (.ref x1), some (.ref x2), none, none, none]) []
   else
    ck (gC h x1) 11 <|
    (gR h 2816 x1).bind fun y2 =>
     cK (E d 353 [.ref 103, .ref y2, .int 1, .int (gI h 1029 103)] h) (Q d 299 57 [some (.ref 103), some (.ref x1), some (.ref x2), some (.int 0), none, none]) [] := by
  rw [← hs.1]
  exact ent rfl ((blkM (fun p => Nat.beq p 39 || Nat.beq p 57 || Nat.beq p 75) 22 0 _ _ _).trans rfl)

set_option maxRecDepth 16384 in
theorem t_299_39 {d : Nat} {h : AH} (hs : Sh h) (x1 : Nat) (x2 : Nat) (u3 : Option Value) (u4 : Option Value) (u5 : Option Value) (s0 : Int32) :
    Q d 299 39 [some (.ref 103), some (.ref x1), some (.ref x2), u3, u4, u5] [.int s0] h =
  (ck (gC h x1) 11 <|
  (gR h 2816 x1).bind fun y1 =>
   cK (E d 353 [.ref 103, .ref y1, .int 1, .int (gI h 1029 103)] h) (Q d 299 57 [some (.ref 103), some (.ref x1), some (.ref x2), some (.int s0), none, none]) []) := by
  rw [← hs.1]
  exact (blkM (fun p => Nat.beq p 57) 10 39 _ _ _).trans rfl

set_option maxRecDepth 16384 in
theorem t_299_57 {d : Nat} {h : AH} (hs : Sh h) (x2 : Nat) (x3 : Int32) (u1 : Option Value) (u4 : Option Value) (u5 : Option Value) (s0 : Int32) :
    Q d 299 57 [some (.ref 103), u1, some (.ref x2), some (.int x3), u4, u5] [.int s0] h =
  (ck (gC h x2) 7 <|
  cK (E d 354 [.ref 103, .int (gI h 1794 x2)] h) (Q d 299 67 [some (.ref 103), u1, some (.ref x2), some (.int x3), u4, u5]) [.int (s0 + x3)]) := by
  rw [← hs.1]
  exact (blkM (fun p => Nat.beq p 67) 7 57 _ _ _).trans rfl

set_option maxRecDepth 16384 in
theorem t_299_75 {d : Nat} {h : AH} (hs : Sh h) (x1 : Nat) (x2 : Nat) (x3 : Int32) (x4 : Int32) :
    Q d 299 75 [some (.ref 103), some (.ref x1), some (.ref x2), some (.int x3), some (.int x4), none] [] h =
  if x4 < gI h 1028 103 then
   ck (gC h x1) 11 <|
   (gR h 2816 x1).bind fun y1 =>
    cK (E d 353 [.ref 103, .ref y1, .int 1, .int x4] h) (Q d 299 95 [some (.ref 103), some (.ref x1), some (.ref x2), some (.int x3), some (.int x4), none]) []
  else
   some (some (.int x3), h) := by
  rw [← hs.1]
  exact (blkM (fun p => Nat.beq p 95) 11 75 _ _ _).trans rfl

set_option maxRecDepth 16384 in
theorem t_299_67 {d : Nat} {h : AH} (hs : Sh h) (u0 : Option Value) (u1 : Option Value) (u2 : Option Value) (u3 : Option Value) (u4 : Option Value) (u5 : Option Value) (s0 : Int32) (s1 : Int32) :
    Q d 299 67 [u0, u1, u2, u3, u4, u5] [.int s1, .int s0] h =
  some (some (.int (s0 + s1)), h) := by
  rw [← hs.1]
  exact (blkM (fun p => false) 3 67 _ _ _).trans rfl

set_option maxRecDepth 16384 in
theorem t_299_95 {d : Nat} {h : AH} (hs : Sh h) (x1 : Nat) (x2 : Nat) (x3 : Int32) (x4 : Int32) (u5 : Option Value) (s0 : Int32) :
    Q d 299 95 [some (.ref 103), some (.ref x1), some (.ref x2), some (.int x3), some (.int x4), u5] [.int s0] h =
  if s0 < x3 then
   ck (gC h x2) 7 <|
   (gR h 1793 x2).bind fun y1 =>
    cK (E d 353 [.ref 103, .ref y1, .int x4, .int (gI h 1028 103)] h) (Q d 299 120 [some (.ref 103), some (.ref x1), some (.ref x2), some (.int x3), some (.int x4), some (.int s0)]) [.int s0, .int x3]
  else
   Q d 299 75 [some (.ref 103), some (.ref x1), some (.ref x2), some (.int x3), some (.int (x4 + 1)), none] [] h := by
  rw [← hs.1]
  exact (blkM (fun p => Nat.beq p 75 || Nat.beq p 120) 14 95 _ _ _).trans rfl

set_option maxRecDepth 16384 in
theorem t_299_120 {d : Nat} {h : AH} (hs : Sh h) (x1 : Nat) (x2 : Nat) (x4 : Int32) (u3 : Option Value) (u5 : Option Value) (s0 : Int32) (s1 : Int32) (s2 : Int32) :
    Q d 299 120 [some (.ref 103), some (.ref x1), some (.ref x2), u3, some (.int x4), u5] [.int s2, .int s1, .int s0] h =
  cK (E d 302 [.int s0, .int (s1 + s2)] h) (Q d 299 124 [some (.ref 103), some (.ref x1), some (.ref x2), u3, some (.int x4), u5]) [] := by
  rw [← hs.1]
  exact (blkM (fun p => Nat.beq p 124) 3 120 _ _ _).trans rfl

set_option maxRecDepth 16384 in
theorem t_299_124 {d : Nat} {h : AH} (hs : Sh h) (x1 : Nat) (x2 : Nat) (x4 : Int32) (u3 : Option Value) (u5 : Option Value) (s0 : Int32) :
    Q d 299 124 [some (.ref 103), some (.ref x1), some (.ref x2), u3, some (.int x4), u5] [.int s0] h =
  Q d 299 75 [some (.ref 103), some (.ref x1), some (.ref x2), some (.int s0), some (.int (x4 + 1)), none] [] h := by
  rw [← hs.1]
  exact (blkM (fun p => Nat.beq p 75) 5 124 _ _ _).trans rfl

/-! 300 PostRoom$Item.valueAt([II)I -/
set_option maxRecDepth 16384 in
theorem t_300 {d : Nat} {h : AH} (hs : Sh h) (x0 : Nat) (x1 : Int32) :
    E (d + 1) 300 [.ref x0, .int x1] h =
  Q d 300 4 [some (.ref x0), some (.int x1), some (.int 0), some (.int 0)] [] h := by
  rw [← hs.1]
  exact ent rfl ((blkM (fun p => Nat.beq p 4) 6 0 _ _ _).trans rfl)

set_option maxRecDepth 16384 in
theorem t_300_4 {d : Nat} {h : AH} (hs : Sh h) (x0 : Nat) (x1 : Int32) (x2 : Int32) (x3 : Int32) :
    Q d 300 4 [some (.ref x0), some (.int x1), some (.int x2), some (.int x3)] [] h =
  if x3 < 11 then
   cK (E d 355 [.int x2, .int x1] h) (Q d 300 15 [some (.ref x0), some (.int x1), some (.int x2), some (.int x3)]) []
  else
   some (some (.int x2), h) := by
  rw [← hs.1]
  exact (blkM (fun p => Nat.beq p 15) 7 4 _ _ _).trans rfl

set_option maxRecDepth 16384 in
theorem t_300_15 {d : Nat} {h : AH} (hs : Sh h) (x0 : Nat) (x1 : Int32) (x3 : Int32) (u2 : Option Value) (s0 : Int32) :
    Q d 300 15 [some (.ref x0), some (.int x1), u2, some (.int x3)] [.int s0] h =
  (ck (gC h x0) 60 <|
  gd x3 (gK h x0) <|
  Q d 300 4 [some (.ref x0), some (.int x1), some (.int (s0 ^^^ (gA h x0 (ix x3)))), some (.int (x3 + 1))] [] h) := by
  rw [← hs.1]
  exact (blkM (fun p => Nat.beq p 4) 9 15 _ _ _).trans rfl

/-! 301 PostRoom$Item.clearColumn([[III)Z -/
set_option maxRecDepth 16384 in
theorem t_301 {d : Nat} {h : AH} (hs : Sh h) (x0 : Nat) (x1 : Int32) (x2 : Int32) :
    E (d + 1) 301 [.ref x0, .int x1, .int x2] h =
  (ck (gC h x0) 66 <|
  gd x1 (gK h x0) <|
  (gO h x0 (ix x1)).bind fun y1 =>
   ck (gC h y1) 60 <|
   gd x1 (gK h y1) <|
   if gA h y1 (ix x1) = 0 then
    some (some (.int 0), h)
   else
    ck (gC h y1) 60 <|
    gd x1 (gK h y1) <|
    cK (E d 356 [.int (gA h y1 (ix x1))] h) (Q d 301 18 [some (.ref x0), some (.int x1), some (.int x2), some (.ref y1), none, none, none, none]) []) := by
  rw [← hs.1]
  exact ent rfl ((blkM (fun p => Nat.beq p 18) 13 0 _ _ _).trans rfl)

set_option maxRecDepth 16384 in
theorem t_301_18 {d : Nat} {h : AH} (hs : Sh h) (x0 : Nat) (x1 : Int32) (x2 : Int32) (x3 : Nat) (u4 : Option Value) (u5 : Option Value) (u6 : Option Value) (u7 : Option Value) (s0 : Int32) :
    Q d 301 18 [some (.ref x0), some (.int x1), some (.int x2), some (.ref x3), u4, u5, u6, u7] [.int s0] h =
  Q d 301 23 [some (.ref x0), some (.int x1), some (.int x2), some (.ref x3), some (.int s0), some (.int x1), none, none] [] h := by
  rw [← hs.1]
  exact (blkM (fun p => Nat.beq p 23) 5 18 _ _ _).trans rfl

set_option maxRecDepth 16384 in
theorem t_301_23 {d : Nat} {h : AH} (hs : Sh h) (x0 : Nat) (x1 : Int32) (x2 : Int32) (x3 : Nat) (x4 : Int32) (x5 : Int32) :
    Q d 301 23 [some (.ref x0), some (.int x1), some (.int x2), some (.ref x3), some (.int x4), some (.int x5), none, none] [] h =
  if x2 < x5 then
   Q d 301 51 [some (.ref x0), some (.int x1), some (.int x2), some (.ref x3), none, some (.int 0), none, none] [] h
  else
   ck (gC h x3) 60 <|
   gd x5 (gK h x3) <|
   cK (E d 355 [.int (gA h x3 (ix x5)), .int x4] h) (Q d 301 41 [some (.ref x0), some (.int x1), some (.int x2), some (.ref x3), some (.int x4), some (.int x5), none, none]) [.int x5, .ref x3] := by
  rw [← hs.1]
  exact (blkM (fun p => Nat.beq p 41 || Nat.beq p 51) 11 23 _ _ _).trans rfl

set_option maxRecDepth 16384 in
theorem t_301_41 {d : Nat} {h : AH} (hs : Sh h) (x0 : Nat) (x1 : Int32) (x2 : Int32) (x3 : Nat) (x4 : Int32) (x5 : Int32) (u6 : Option Value) (u7 : Option Value) (s0 : Nat) (s1 : Int32) (s2 : Int32) :
    Q d 301 41 [some (.ref x0), some (.int x1), some (.int x2), some (.ref x3), some (.int x4), some (.int x5), u6, u7] [.int s2, .int s1, .ref s0] h =
  (cw (gC h s0) 60 s0 <|
  gd s1 (gK h s0) <|
  Q d 301 23 [some (.ref x0), some (.int x1), some (.int x2), some (.ref x3), some (.int x4), some (.int (x5 + 1)), none, none] [] (sA h s0 (ix s1) s2)) := by
  rw [← hs.1]
  exact (blkM (fun p => Nat.beq p 23) 5 41 _ _ _).trans rfl

set_option maxRecDepth 16384 in
theorem t_301_51 {d : Nat} {h : AH} (hs : Sh h) (x0 : Nat) (x1 : Int32) (x2 : Int32) (x3 : Nat) (x5 : Int32) :
    Q d 301 51 [some (.ref x0), some (.int x1), some (.int x2), some (.ref x3), none, some (.int x5), none, none] [] h =
  if x5 < 4 then
   ck (gC h x0) 66 <|
   gd x5 (gK h x0) <|
   (gO h x0 (ix x5)).bind fun y1 =>
    ck (gC h y1) 60 <|
    gd x1 (gK h y1) <|
    Q d 301 68 [some (.ref x0), some (.int x1), some (.int x2), some (.ref x3), none, some (.int x5), some (.int (gA h y1 (ix x1))), some (.int x1)] [] h
  else
   some (some (.int 1), h) := by
  rw [← hs.1]
  exact (blkM (fun p => Nat.beq p 68) 13 51 _ _ _).trans rfl

set_option maxRecDepth 16384 in
theorem t_301_68 {d : Nat} {h : AH} (hs : Sh h) (x0 : Nat) (x1 : Int32) (x2 : Int32) (x3 : Nat) (x5 : Int32) (x6 : Int32) (x7 : Int32) :
    Q d 301 68 [some (.ref x0), some (.int x1), some (.int x2), some (.ref x3), none, some (.int x5), some (.int x6), some (.int x7)] [] h =
  if x5 = x1 then
   Q d 301 51 [some (.ref x0), some (.int x1), some (.int x2), some (.ref x3), none, some (.int (x5 + 1)), none, none] [] h
  else
   if x2 < x7 then
    Q d 301 51 [some (.ref x0), some (.int x1), some (.int x2), some (.ref x3), none, some (.int (x5 + 1)), none, none] [] h
   else
    ck (gC h x0) 66 <|
    gd x5 (gK h x0) <|
    (gO h x0 (ix x5)).bind fun y1 =>
     ck (gC h y1) 60 <|
     gd x7 (gK h y1) <|
     ck (gC h x3) 60 <|
     gd x7 (gK h x3) <|
     cK (E d 355 [.int (gA h x3 (ix x7)), .int x6] h) (Q d 301 97 [some (.ref x0), some (.int x1), some (.int x2), some (.ref x3), none, some (.int x5), some (.int x6), some (.int x7)]) [.int (gA h y1 (ix x7)), .int x7, .ref y1] := by
  rw [← hs.1]
  exact (blkM (fun p => Nat.beq p 51 || Nat.beq p 97) 18 68 _ _ _).trans rfl

set_option maxRecDepth 16384 in
theorem t_301_97 {d : Nat} {h : AH} (hs : Sh h) (x0 : Nat) (x1 : Int32) (x2 : Int32) (x3 : Nat) (x5 : Int32) (x6 : Int32) (x7 : Int32) (u4 : Option Value) (s0 : Nat) (s1 : Int32) (s2 : Int32) (s3 : Int32) :
    Q d 301 97 [some (.ref x0), some (.int x1), some (.int x2), some (.ref x3), u4, some (.int x5), some (.int x6), some (.int x7)] [.int s3, .int s2, .int s1, .ref s0] h =
  (cw (gC h s0) 60 s0 <|
  gd s1 (gK h s0) <|
  Q d 301 68 [some (.ref x0), some (.int x1), some (.int x2), some (.ref x3), none, some (.int x5), some (.int x6), some (.int (x7 + 1))] [] (sA h s0 (ix s1) (s2 ^^^ s3))) := by
  rw [← hs.1]
  exact (blkM (fun p => Nat.beq p 68) 6 97 _ _ _).trans rfl

/-! 302 java/lang/Math.min(II)I -/
set_option maxRecDepth 16384 in
theorem t_302 {d : Nat} {h : AH} (hs : Sh h) (x0 : Int32) (x1 : Int32) :
    E (d + 1) 302 [.int x0, .int x1] h =
  if x1 < x0 then
   some (some (.int x1), h)
  else
   some (some (.int x0), h) := by
  rw [← hs.1]
  exact ent rfl ((blkM (fun p => false) 7 0 _ _ _).trans rfl)

/-! 303 java/util/ArrayList.isEmpty()Z -/
set_option maxRecDepth 16384 in
theorem t_303 {d : Nat} {h : AH} (hs : Sh h) (x0 : Nat) :
    E (d + 1) 303 [.ref x0] h =
  (ck (gC h x0) 1 <|
  if gI h 258 x0 = 0 then
   some (some (.int 1), h)
  else
   some (some (.int 0), h)) := by
  rw [← hs.1]
  exact ent rfl ((blkM (fun p => false) 7 0 _ _ _).trans rfl)

/-! 304 PostRoom$Coach.timeBehind(I)I -/
set_option maxRecDepth 16384 in
theorem t_304 {d : Nat} {h : AH} (hs : Sh h) (x0 : Nat) (x1 : Int32) :
    E (d + 1) 304 [.ref x0, .int x1] h =
  (ck (gC h x0) 3 <|
  if x1 - x1 / 1440 * 1440 < gI h 770 x0 then
   ck (gC h x0) 3 <|
   some (some (.int ((x1 - (x1 - x1 / 1440 * 1440)) + (gI h 770 x0))), h)
  else
   ck (gC h x0) 3 <|
   if (0 : Int32) < gI h 771 x0 then
    ck (gC h x0) 3 <|
    ck (gC h x0) 3 <|
    ck (gC h x0) 3 <|
    if gI h 771 x0 = 0 then
     none
    else
     ck (gC h x0) 3 <|
     if gI h 772 x0 < ((x1 - x1 / 1440 * 1440) + (gI h 771 x0)) - (((x1 - x1 / 1440 * 1440) - (gI h 770 x0)) - ((x1 - x1 / 1440 * 1440) - (gI h 770 x0)) / (gI h 771 x0) * (gI h 771 x0)) then
      ck (gC h x0) 3 <|
      some (some (.int (((x1 - (x1 - x1 / 1440 * 1440)) + 1440) + (gI h 770 x0))), h)
     else
      some (some (.int ((x1 - (x1 - x1 / 1440 * 1440)) + (((x1 - x1 / 1440 * 1440) + (gI h 771 x0)) - (((x1 - x1 / 1440 * 1440) - (gI h 770 x0)) - ((x1 - x1 / 1440 * 1440) - (gI h 770 x0)) / (gI h 771 x0) * (gI h 771 x0))))), h)
   else
    ck (gC h x0) 3 <|
    if gI h 772 x0 < 1440 then
     ck (gC h x0) 3 <|
     some (some (.int (((x1 - (x1 - x1 / 1440 * 1440)) + 1440) + (gI h 770 x0))), h)
    else
     some (some (.int ((x1 - (x1 - x1 / 1440 * 1440)) + 1440)), h)) := by
  rw [← hs.1]
  exact ent rfl ((blkM (fun p => false) 43 0 _ _ _).trans rfl)

/-! 305 PostRoom$Coach.goesAt(I)Z -/
set_option maxRecDepth 16384 in
theorem t_305 {d : Nat} {h : AH} (hs : Sh h) (x0 : Nat) (x1 : Int32) :
    E (d + 1) 305 [.ref x0, .int x1] h =
  (ck (gC h x0) 3 <|
  if x1 - x1 / 1440 * 1440 < gI h 770 x0 then
   some (some (.int 0), h)
  else
   ck (gC h x0) 3 <|
   if gI h 772 x0 < x1 - x1 / 1440 * 1440 then
    some (some (.int 0), h)
   else
    ck (gC h x0) 3 <|
    if (0 : Int32) < gI h 771 x0 then
     ck (gC h x0) 3 <|
     ck (gC h x0) 3 <|
     if gI h 771 x0 = 0 then
      none
     else
      if ((x1 - x1 / 1440 * 1440) - (gI h 770 x0)) - ((x1 - x1 / 1440 * 1440) - (gI h 770 x0)) / (gI h 771 x0) * (gI h 771 x0) = 0 then
       some (some (.int 1), h)
      else
       some (some (.int 0), h)
    else
     some (some (.int 0), h)) := by
  rw [← hs.1]
  exact ent rfl ((blkM (fun p => false) 27 0 _ _ _).trans rfl)

/-! 306 PostRoom$Post.rideFirst(LPostRoom$Coach;)V -/
set_option maxRecDepth 16384 in
theorem t_306 {d : Nat} {h : AH} (hs : Sh h) (x1 : Nat) :
    E (d + 1) 306 [.ref 156, .ref x1] h =
  cK (E d 241 [.ref 170, .int 2147483647] h) (Q d 306 9 [some (.ref 156), some (.ref x1), none, none, none, none, none]) [] := by
  rw [← hs.1]
  exact ent rfl ((blkM (fun p => Nat.beq p 9) 5 0 _ _ _).trans rfl)

set_option maxRecDepth 16384 in
theorem t_306_9 {d : Nat} {h : AH} (hs : Sh h) (x1 : Nat) (u2 : Option Value) (u3 : Option Value) (u4 : Option Value) (u5 : Option Value) (u6 : Option Value) :
    Q d 306 9 [some (.ref 156), some (.ref x1), u2, u3, u4, u5, u6] [] h =
  (ck (gC h x1) 3 <|
  ck (gC h x1) 3 <|
  cK (E d 304 [.ref x1, .int (gI h 2051 156)] h) (Q d 306 25 [some (.ref 156), some (.ref x1), u2, u3, u4, u5, u6]) [.int (gI h 769 x1), .ref 170]) := by
  rw [← hs.1]
  exact (blkM (fun p => Nat.beq p 25) 9 9 _ _ _).trans rfl

set_option maxRecDepth 16384 in
theorem t_306_25 {d : Nat} {h : AH} (hs : Sh h) (x1 : Nat) (u2 : Option Value) (u3 : Option Value) (u4 : Option Value) (u5 : Option Value) (u6 : Option Value) (s0 : Nat) (s1 : Int32) (s2 : Int32) :
    Q d 306 25 [some (.ref 156), some (.ref x1), u2, u3, u4, u5, u6] [.int s2, .int s1, .ref s0] h =
  (ck (gC h x1) 3 <|
  cw (gC h s0) 60 s0 <|
  gd s1 (gK h s0) <|
  Q d 306 35 [some (.ref 156), none, some (.int 1), some (.int 0), none, none, none] [] (sA h s0 (ix s1) (s2 + (gI h 773 x1)))) := by
  rw [← hs.1]
  exact (blkM (fun p => Nat.beq p 35) 10 25 _ _ _).trans rfl

set_option maxRecDepth 16384 in
theorem t_306_35 {d : Nat} {h : AH} (hs : Sh h) (x2 : Int32) (x3 : Int32) :
    Q d 306 35 [some (.ref 156), none, some (.int x2), some (.int x3), none, none, none] [] h =
  if x3 < 16 then
   if x2 = 0 then
    some (none, h)
   else
    Q d 306 50 [some (.ref 156), none, some (.int 0), some (.int x3), some (.int 0), none, none] [] h
  else
   some (none, h) := by
  rw [← hs.1]
  exact (blkM (fun p => Nat.beq p 50) 11 35 _ _ _).trans rfl

set_option maxRecDepth 16384 in
theorem t_306_50 {d : Nat} {h : AH} (hs : Sh h) (x2 : Int32) (x3 : Int32) (x4 : Int32) :
    Q d 306 50 [some (.ref 156), none, some (.int x2), some (.int x3), some (.int x4), none, none] [] h =
  (gR h 2048 156).bind fun y1 =>
   ck (gC h y1) 2 <|
   (gR h 515 y1).bind fun y2 =>
    ck (gC h y2) 1 <|
    cK (E d 213 [.ref y2] h) (Q d 306 62 [some (.ref 156), none, some (.int x2), some (.int x3), some (.int x4), none, none]) [.int x4] := by
  rw [← hs.1]
  exact (blkM (fun p => Nat.beq p 62) 6 50 _ _ _).trans rfl

set_option maxRecDepth 16384 in
theorem t_306_62 {d : Nat} {h : AH} (hs : Sh h) (x2 : Int32) (x3 : Int32) (x4 : Int32) (u1 : Option Value) (u5 : Option Value) (u6 : Option Value) (s0 : Int32) (s1 : Int32) :
    Q d 306 62 [some (.ref 156), u1, some (.int x2), some (.int x3), some (.int x4), u5, u6] [.int s1, .int s0] h =
  if s0 < s1 then
   (gR h 2048 156).bind fun y1 =>
    ck (gC h y1) 2 <|
    (gR h 515 y1).bind fun y2 =>
     ck (gC h y2) 1 <|
     cK (E d 212 [.ref y2, .int x4] h) (Q d 306 77 [some (.ref 156), u1, some (.int x2), some (.int x3), some (.int x4), u5, u6]) []
  else
   Q d 306 35 [some (.ref 156), none, some (.int x2), some (.int (x3 + 1)), none, none, none] [] h := by
  rw [← hs.1]
  exact (blkM (fun p => Nat.beq p 35 || Nat.beq p 77) 7 62 _ _ _).trans rfl

set_option maxRecDepth 16384 in
theorem t_306_77 {d : Nat} {h : AH} (hs : Sh h) (x2 : Int32) (x3 : Int32) (x4 : Int32) (u1 : Option Value) (u5 : Option Value) (u6 : Option Value) (s0 : Nat) :
    Q d 306 77 [some (.ref 156), u1, some (.int x2), some (.int x3), some (.int x4), u5, u6] [.ref s0] h =
  (ck (gC h s0) 3 <|
  ck (gC h s0) 3 <|
  gd (gI h 768 s0) 16 <|
  if (gI h 2051 156) + 20160 < gA h 170 (ix (gI h 768 s0)) then
   Q d 306 50 [some (.ref 156), none, some (.int x2), some (.int x3), some (.int (x4 + 1)), none, none] [] h
  else
   ck (gC h s0) 3 <|
   gd (gI h 768 s0) 16 <|
   ck (gC h s0) 3 <|
   cK (E d 304 [.ref s0, .int (gA h 170 (ix (gI h 768 s0)))] h) (Q d 306 118 [some (.ref 156), u1, some (.int x2), some (.int x3), some (.int x4), some (.ref s0), u6]) []) := by
  rw [← hs.1]
  exact (blkM (fun p => Nat.beq p 50 || Nat.beq p 118) 20 77 _ _ _).trans rfl

set_option maxRecDepth 16384 in
theorem t_306_118 {d : Nat} {h : AH} (hs : Sh h) (x2 : Int32) (x3 : Int32) (x4 : Int32) (x5 : Nat) (u1 : Option Value) (u6 : Option Value) (s0 : Int32) :
    Q d 306 118 [some (.ref 156), u1, some (.int x2), some (.int x3), some (.int x4), some (.ref x5), u6] [.int s0] h =
  (ck (gC h x5) 3 <|
  ck (gC h x5) 3 <|
  gd (gI h 769 x5) 16 <|
  if s0 + (gI h 773 x5) < gA h 170 (ix (gI h 769 x5)) then
   ck (gC h x5) 3 <|
   ck (gC h x5) 3 <|
   gd (gI h 769 x5) 16 <|
   cK (E d 302 [.int (gA h 170 (ix (gI h 769 x5))), .int (s0 + (gI h 773 x5))] h) (Q d 306 173 [some (.ref 156), none, some (.int (x2 ||| 1)), some (.int x3), some (.int x4), some (.ref x5), some (.int (s0 + (gI h 773 x5)))]) [.int (gI h 769 x5), .ref 170]
  else
   ck (gC h x5) 3 <|
   ck (gC h x5) 3 <|
   gd (gI h 769 x5) 16 <|
   cK (E d 302 [.int (gA h 170 (ix (gI h 769 x5))), .int (s0 + (gI h 773 x5))] h) (Q d 306 173 [some (.ref 156), none, some (.int (x2 ||| 0)), some (.int x3), some (.int x4), some (.ref x5), some (.int (s0 + (gI h 773 x5)))]) [.int (gI h 769 x5), .ref 170]) := by
  rw [← hs.1]
  exact (blkM (fun p => Nat.beq p 173) 28 118 _ _ _).trans rfl

set_option maxRecDepth 16384 in
theorem t_306_173 {d : Nat} {h : AH} (hs : Sh h) (x2 : Int32) (x3 : Int32) (x4 : Int32) (u1 : Option Value) (u5 : Option Value) (u6 : Option Value) (s0 : Nat) (s1 : Int32) (s2 : Int32) :
    Q d 306 173 [some (.ref 156), u1, some (.int x2), some (.int x3), some (.int x4), u5, u6] [.int s2, .int s1, .ref s0] h =
  (cw (gC h s0) 60 s0 <|
  gd s1 (gK h s0) <|
  Q d 306 50 [some (.ref 156), none, some (.int x2), some (.int x3), some (.int (x4 + 1)), none, none] [] (sA h s0 (ix s1) s2)) := by
  rw [← hs.1]
  exact (blkM (fun p => Nat.beq p 50) 5 173 _ _ _).trans rfl

/-! 307 PostRoom$Post.keepEarlier(I)V -/
set_option maxRecDepth 16384 in
theorem t_307 {d : Nat} {h : AH} (hs : Sh h) (x1 : Int32) :
    E (d + 1) 307 [.ref 156, .int x1] h =
  Q d 307 2 [some (.ref 156), some (.int x1), some (.int 0)] [] h := by
  rw [← hs.1]
  exact ent rfl ((blkM (fun p => Nat.beq p 2) 4 0 _ _ _).trans rfl)

set_option maxRecDepth 16384 in
theorem t_307_2 {d : Nat} {h : AH} (hs : Sh h) (x1 : Int32) (x2 : Int32) :
    Q d 307 2 [some (.ref 156), some (.int x1), some (.int x2)] [] h =
  if x2 < 16 then
   gd x2 16 <|
   gd x2 16 <|
   if gA h 170 (ix x2) < gA h 168 (ix x2) then
    gd x2 16 <|
    if (gI h 2051 156) + 20160 < gA h 170 (ix x2) then
     Q d 307 2 [some (.ref 156), some (.int x1), some (.int (x2 + 1))] [] h
    else
     gd x2 16 <|
     gd x2 16 <|
     gd x2 16 <|
     Q d 307 2 [some (.ref 156), some (.int x1), some (.int (x2 + 1))] [] (sA (sA h 168 (ix x2) (gA h 170 (ix x2))) 169 (ix x2) x1)
   else
    Q d 307 2 [some (.ref 156), some (.int x1), some (.int (x2 + 1))] [] h
  else
   some (none, h) := by
  rw [← hs.1]
  exact (blkM (fun p => Nat.beq p 2) 38 2 _ _ _).trans rfl

/-! 308 PostRoom$Post.takeFromShelf(LPostRoom$Item;)V -/
set_option maxRecDepth 16384 in
theorem t_308 {d : Nat} {h : AH} (hs : Sh h) (x1 : Nat) :
    E (d + 1) 308 [.ref 156, .ref x1] h =
  (gR h 2048 156).bind fun y1 =>
   ck (gC h y1) 2 <|
   (gR h 512 y1).bind fun y2 =>
    ck (gC h x1) 5 <|
    ck (gC h y2) 1 <|
    cK (E d 212 [.ref y2, .int (gI h 1289 x1)] h) (Q d 308 14 [some (.ref 156), some (.ref x1), none, none]) [] := by
  rw [← hs.1]
  exact ent rfl ((blkM (fun p => Nat.beq p 14) 7 0 _ _ _).trans rfl)

set_option maxRecDepth 16384 in
theorem t_308_14 {d : Nat} {h : AH} (hs : Sh h) (x1 : Nat) (u0 : Option Value) (u2 : Option Value) (u3 : Option Value) (s0 : Nat) :
    Q d 308 14 [u0, some (.ref x1), u2, u3] [.ref s0] h =
  (ck (gC h s0) 7 <|
  ck (gC h s0) 7 <|
  (gR h 1797 s0).bind fun y1 =>
   Q d 308 23 [none, some (.ref x1), some (.ref y1), some (.int 0)] [] h) := by
  rw [← hs.1]
  exact (blkM (fun p => Nat.beq p 23) 7 14 _ _ _).trans rfl

set_option maxRecDepth 16384 in
theorem t_308_23 {d : Nat} {h : AH} (hs : Sh h) (x1 : Nat) (x2 : Nat) (x3 : Int32) :
    Q d 308 23 [none, some (.ref x1), some (.ref x2), some (.int x3)] [] h =
  (ck (gC h x2) 1 <|
  cK (E d 213 [.ref x2] h) (Q d 308 28 [none, some (.ref x1), some (.ref x2), some (.int x3)]) [.int x3]) := by
  rw [← hs.1]
  exact (blkM (fun p => Nat.beq p 28) 4 23 _ _ _).trans rfl

set_option maxRecDepth 16384 in
theorem t_308_28 {d : Nat} {h : AH} (hs : Sh h) (x1 : Nat) (x2 : Nat) (x3 : Int32) (u0 : Option Value) (s0 : Int32) (s1 : Int32) :
    Q d 308 28 [u0, some (.ref x1), some (.ref x2), some (.int x3)] [.int s1, .int s0] h =
  if s0 < s1 then
   ck (gC h x2) 1 <|
   cK (E d 212 [.ref x2, .int x3] h) (Q d 308 36 [u0, some (.ref x1), some (.ref x2), some (.int x3)]) []
  else
   some (none, h) := by
  rw [← hs.1]
  exact (blkM (fun p => Nat.beq p 36) 5 28 _ _ _).trans rfl

set_option maxRecDepth 16384 in
theorem t_308_36 {d : Nat} {h : AH} (hs : Sh h) (x1 : Nat) (x2 : Nat) (x3 : Int32) (u0 : Option Value) (s0 : Nat) :
    Q d 308 36 [u0, some (.ref x1), some (.ref x2), some (.int x3)] [.ref s0] h =
  if s0 = x1 then
   ck (gC h x2) 1 <|
   cK (E d 256 [.ref x2, .int x3] h) (Q d 308 45 [u0, some (.ref x1), some (.ref x2), some (.int x3)]) []
  else
   if gC h s0 ≠ 0 ∧ gC h x1 ≠ 0 ∧ (100 ≤ s0 ∨ 100 ≤ x1) then
    Q d 308 23 [none, some (.ref x1), some (.ref x2), some (.int (x3 + 1))] [] h
   else
    none := by
  rw [← hs.1]
  exact (blkM (fun p => Nat.beq p 23 || Nat.beq p 45) 6 36 _ _ _).trans rfl

set_option maxRecDepth 16384 in
theorem t_308_45 {d : Nat} {h : AH} (hs : Sh h) (u0 : Option Value) (u1 : Option Value) (u2 : Option Value) (u3 : Option Value) (s0 : Nat) :
    Q d 308 45 [u0, u1, u2, u3] [.ref s0] h =
  some (none, h) := by
  rw [← hs.1]
  exact (blkM (fun p => false) 3 45 _ _ _).trans rfl

/-! 309 java/util/ArrayList.fastRemove([Ljava/lang/Object;I)V -/
set_option maxRecDepth 16384 in
theorem t_309 {d : Nat} {h : AH} (hs : Sh h) (x0 : Nat) (x1 : Nat) (x2 : Int32) :
    E (d + 1) 309 [.ref x0, .ref x1, .int x2] h =
  (ck (gC h x0) 1 <|
  ck (gC h x0) 1 <|
  ck (gC h x0) 1 <|
  if x2 < (gI h 258 x0) - 1 then
   if gC h x1 = 65 ∧ gC h x1 = 65 ∧ 100 ≤ x1 ∧ 100 ≤ x1 ∧ 0 ≤ 20 then
    if (((gI h 258 x0) - 1) - x2) < 0 ∨ x2 < 0 ∨ (x2 + 1) < 0 then
    none
   else
    if ix (x2 + 1) + ix (((gI h 258 x0) - 1) - x2) ≤ gK h x1 ∧ ix x2 + ix (((gI h 258 x0) - 1) - x2) ≤ gK h x1 then
     ck (gC h x0) 1 <|
     cw (gC h x1) 65 x1 <|
     gd ((gI h 258 x0) - 1) (gK h x1) <|
     some (none, sO (sI (cpO (sI h 256 x0 ((gI h 256 x0) + 1)) x1 (ix (x2 + 1)) x1 (ix x2) (ix (((gI h 258 x0) - 1) - x2))) 258 x0 ((gI h 258 x0) - 1)) x1 (ix ((gI h 258 x0) - 1)) none)
    else
     none
   else
    none
  else
   ck (gC h x0) 1 <|
   cw (gC h x1) 65 x1 <|
   gd ((gI h 258 x0) - 1) (gK h x1) <|
   some (none, sO (sI (sI h 256 x0 ((gI h 256 x0) + 1)) 258 x0 ((gI h 258 x0) - 1)) x1 (ix ((gI h 258 x0) - 1)) none)) := by
  rw [← hs.1]
  exact ent rfl ((blkM (fun p => false) 33 0 _ _ _).trans rfl)

/-! 310 PostRoom$Post.sendOn(LPostRoom$Item;I)V -/
set_option maxRecDepth 16384 in
theorem t_310 {d : Nat} {h : AH} (hs : Sh h) (x1 : Nat) (x2 : Int32) :
    E (d + 1) 310 [.ref 156, .ref x1, .int x2] h =
  if x2 = (-1) then
   ck (gC h x1) 5 <|
   ck (gC h x1) 5 <|
   cK (E d 258 [.ref 156, .ref x1, .int 7, .int (gI h 1289 x1)] (sI h 1286 x1 (-1))) (Q d 310 29 [some (.ref 156), some (.ref x1), none]) []
  else
   ck (gC h x1) 5 <|
   if gI h 1292 x1 < 2 then
    ck (gC h x1) 5 <|
    ck (gC h x1) 5 <|
    ck (gC h x1) 5 <|
    ck (gC h x1) 5 <|
    ck (gC h x1) 5 <|
    cK (E d 258 [.ref 156, .ref x1, .int 6, .int (gI h 1289 x1)] (sI (sI (sI h 1286 x1 (x2 / 27000)) 1287 x1 (x2 - x2 / 27000 * 27000)) 1292 x1 ((gI h 1292 x1) + 1))) (Q d 310 69 [some (.ref 156), some (.ref x1), some (.int x2)]) []
   else
    ck (gC h x1) 5 <|
    ck (gC h x1) 5 <|
    cK (E d 258 [.ref 156, .ref x1, .int 7, .int (gI h 1289 x1)] (sI h 1286 x1 (-1))) (Q d 310 29 [some (.ref 156), some (.ref x1), none]) [] := by
  rw [← hs.1]
  exact ent rfl ((blkM (fun p => Nat.beq p 29 || Nat.beq p 69) 30 0 _ _ _).trans rfl)

set_option maxRecDepth 16384 in
theorem t_310_29 {d : Nat} {h : AH} (hs : Sh h) (u0 : Option Value) (u1 : Option Value) (u2 : Option Value) :
    Q d 310 29 [u0, u1, u2] [] h =
  some (none, h) := by
  rw [← hs.1]
  exact (blkM (fun p => false) 2 29 _ _ _).trans rfl

set_option maxRecDepth 16384 in
theorem t_310_69 {d : Nat} {h : AH} (hs : Sh h) (u0 : Option Value) (u1 : Option Value) (u2 : Option Value) :
    Q d 310 69 [u0, u1, u2] [] h =
  some (none, h) := by
  rw [← hs.1]
  exact (blkM (fun p => false) 2 69 _ _ _).trans rfl

/-! 311 PostRoom$Street.doorX(I)I -/
set_option maxRecDepth 16384 in
theorem t_311 {d : Nat} {h : AH} (hs : Sh h) (x0 : Nat) (x1 : Int32) :
    E (d + 1) 311 [.ref x0, .int x1] h =
  (ck (gC h x0) 11 <|
  ck (gC h x0) 11 <|
  if gI h 2823 x0 = 0 then
   ck (gC h x0) 11 <|
   some (some (.int ((gI h 2821 x0) + (x1 - (gI h 2819 x0)))), h)
  else
   ck (gC h x0) 11 <|
   if gI h 2823 x0 = 2 then
    ck (gC h x0) 11 <|
    some (some (.int ((gI h 2821 x0) - (x1 - (gI h 2819 x0)))), h)
   else
    ck (gC h x0) 11 <|
    some (some (.int (gI h 2821 x0)), h)) := by
  rw [← hs.1]
  exact ent rfl ((blkM (fun p => false) 19 0 _ _ _).trans rfl)

/-! 312 PostRoom$Street.doorY(I)I -/
set_option maxRecDepth 16384 in
theorem t_312 {d : Nat} {h : AH} (hs : Sh h) (x0 : Nat) (x1 : Int32) :
    E (d + 1) 312 [.ref x0, .int x1] h =
  (ck (gC h x0) 11 <|
  ck (gC h x0) 11 <|
  if gI h 2823 x0 = 1 then
   ck (gC h x0) 11 <|
   some (some (.int ((gI h 2822 x0) + (x1 - (gI h 2819 x0)))), h)
  else
   ck (gC h x0) 11 <|
   if gI h 2823 x0 = 3 then
    ck (gC h x0) 11 <|
    some (some (.int ((gI h 2822 x0) - (x1 - (gI h 2819 x0)))), h)
   else
    ck (gC h x0) 11 <|
    some (some (.int (gI h 2822 x0)), h)) := by
  rw [← hs.1]
  exact ent rfl ((blkM (fun p => false) 20 0 _ _ _).trans rfl)

/-! 313 PostRoom$Post.between(II)I -/
set_option maxRecDepth 16384 in
theorem t_313 {d : Nat} {h : AH} (hs : Sh h) (x1 : Int32) (x2 : Int32) :
    E (d + 1) 313 [.ref 156, .int x1, .int x2] h =
  (gd x1 9 <|
  gd x2 9 <|
  cK (E d 345 [.int ((gA h 172 (ix x1)) - (gA h 172 (ix x2)))] h) (Q d 313 16 [some (.ref 156), some (.int x1), some (.int x2)]) []) := by
  rw [← hs.1]
  exact ent rfl ((blkM (fun p => Nat.beq p 16) 11 0 _ _ _).trans rfl)

set_option maxRecDepth 16384 in
theorem t_313_16 {d : Nat} {h : AH} (hs : Sh h) (x1 : Int32) (x2 : Int32) (s0 : Int32) :
    Q d 313 16 [some (.ref 156), some (.int x1), some (.int x2)] [.int s0] h =
  (gd x1 9 <|
  gd x2 9 <|
  cK (E d 345 [.int ((gA h 173 (ix x1)) - (gA h 173 (ix x2)))] h) (Q d 313 32 [some (.ref 156), some (.int x1), some (.int x2)]) [.int s0]) := by
  rw [← hs.1]
  exact (blkM (fun p => Nat.beq p 32) 11 16 _ _ _).trans rfl

set_option maxRecDepth 16384 in
theorem t_313_32 {d : Nat} {h : AH} (hs : Sh h) (u0 : Option Value) (u1 : Option Value) (u2 : Option Value) (s0 : Int32) (s1 : Int32) :
    Q d 313 32 [u0, u1, u2] [.int s1, .int s0] h =
  some (some (.int (s0 + s1)), h) := by
  rw [← hs.1]
  exact (blkM (fun p => false) 3 32 _ _ _).trans rfl

/-! 314 PostRoom$Post.leastFrom(II)I -/
set_option maxRecDepth 16384 in
theorem t_314 {d : Nat} {h : AH} (hs : Sh h) (x1 : Int32) (x2 : Int32) :
    E (d + 1) 314 [.ref 156, .int x1, .int x2] h =
  Q d 314 6 [some (.ref 156), some (.int x1), some (.int x2), some (.int 2147483647), some (.int 0)] [] h := by
  rw [← hs.1]
  exact ent rfl ((blkM (fun p => Nat.beq p 6) 6 0 _ _ _).trans rfl)

set_option maxRecDepth 16384 in
theorem t_314_6 {d : Nat} {h : AH} (hs : Sh h) (x1 : Int32) (x2 : Int32) (x3 : Int32) (x4 : Int32) :
    Q d 314 6 [some (.ref 156), some (.int x1), some (.int x2), some (.int x3), some (.int x4)] [] h =
  if x4 < gI h 2064 156 then
   if (x2 >>> (x4 &&& 31)) &&& 1 = 0 then
    Q d 314 6 [some (.ref 156), some (.int x1), some (.int x2), some (.int x3), some (.int (x4 + 1))] [] h
   else
    cK (E d 315 [.ref 156, .int x1, .int x4, .int x2] h) (Q d 314 33 [some (.ref 156), some (.int x1), some (.int x2), some (.int x3), some (.int x4)]) [.int x3]
  else
   some (some (.int x3), h) := by
  rw [← hs.1]
  exact (blkM (fun p => Nat.beq p 6 || Nat.beq p 33) 17 6 _ _ _).trans rfl

set_option maxRecDepth 16384 in
theorem t_314_33 {d : Nat} {h : AH} (hs : Sh h) (x1 : Int32) (x2 : Int32) (x4 : Int32) (u3 : Option Value) (s0 : Int32) (s1 : Int32) :
    Q d 314 33 [some (.ref 156), some (.int x1), some (.int x2), u3, some (.int x4)] [.int s1, .int s0] h =
  cK (E d 302 [.int s0, .int s1] h) (Q d 314 36 [some (.ref 156), some (.int x1), some (.int x2), u3, some (.int x4)]) [] := by
  rw [← hs.1]
  exact (blkM (fun p => Nat.beq p 36) 2 33 _ _ _).trans rfl

set_option maxRecDepth 16384 in
theorem t_314_36 {d : Nat} {h : AH} (hs : Sh h) (x1 : Int32) (x2 : Int32) (x4 : Int32) (u3 : Option Value) (s0 : Int32) :
    Q d 314 36 [some (.ref 156), some (.int x1), some (.int x2), u3, some (.int x4)] [.int s0] h =
  Q d 314 6 [some (.ref 156), some (.int x1), some (.int x2), some (.int s0), some (.int (x4 + 1))] [] h := by
  rw [← hs.1]
  exact (blkM (fun p => Nat.beq p 6) 5 36 _ _ _).trans rfl

/-! 315 PostRoom$Post.restBy(III)I -/
set_option maxRecDepth 16384 in
theorem t_315 {d : Nat} {h : AH} (hs : Sh h) (x1 : Int32) (x2 : Int32) (x3 : Int32) :
    E (d + 1) 315 [.ref 156, .int x1, .int x2, .int x3] h =
  cK (E d 313 [.ref 156, .int x1, .int x2] h) (Q d 315 6 [some (.ref 156), some (.int x1), some (.int x2), some (.int x3)]) [] := by
  rw [← hs.1]
  exact ent rfl ((blkM (fun p => Nat.beq p 6) 5 0 _ _ _).trans rfl)

set_option maxRecDepth 16384 in
theorem t_315_6 {d : Nat} {h : AH} (hs : Sh h) (x2 : Int32) (x3 : Int32) (u1 : Option Value) (s0 : Int32) :
    Q d 315 6 [some (.ref 156), u1, some (.int x2), some (.int x3)] [.int s0] h =
  (gd (((x3 &&& (((1 : Int32) <<< (x2 &&& 31)) ^^^ (-1))) * 8) + x2) 2048 <|
  some (some (.int (s0 + (gA h 174 (ix (((x3 &&& (((1 : Int32) <<< (x2 &&& 31)) ^^^ (-1))) * 8) + x2))))), h)) := by
  rw [← hs.1]
  exact (blkM (fun p => false) 17 6 _ _ _).trans rfl

/-! 316 PostRoom$Post.deliverAt(ILjava/util/ArrayList;I)V -/
set_option maxRecDepth 16384 in
theorem t_316 {d : Nat} {h : AH} (hs : Sh h) (x1 : Int32) (x2 : Nat) (x3 : Int32) :
    E (d + 1) 316 [.ref 156, .int x1, .ref x2, .int x3] h =
  (ck (gC h x2) 1 <|
  cK (E d 213 [.ref x2] h) (Q d 316 7 [some (.ref 156), some (.int x1), some (.ref x2), some (.int x3), some (.int 0), none, none]) []) := by
  rw [← hs.1]
  exact ent rfl ((blkM (fun p => Nat.beq p 7) 5 0 _ _ _).trans rfl)

set_option maxRecDepth 16384 in
theorem t_316_7 {d : Nat} {h : AH} (hs : Sh h) (x1 : Int32) (x2 : Nat) (x3 : Int32) (x4 : Int32) (u5 : Option Value) (u6 : Option Value) (s0 : Int32) :
    Q d 316 7 [some (.ref 156), some (.int x1), some (.ref x2), some (.int x3), some (.int x4), u5, u6] [.int s0] h =
  Q d 316 9 [some (.ref 156), some (.int x1), some (.ref x2), some (.int x3), some (.int x4), some (.int s0), none] [] h := by
  rw [← hs.1]
  exact (blkM (fun p => Nat.beq p 9) 3 7 _ _ _).trans rfl

set_option maxRecDepth 16384 in
theorem t_316_9 {d : Nat} {h : AH} (hs : Sh h) (x1 : Int32) (x2 : Nat) (x3 : Int32) (x4 : Int32) (x5 : Int32) :
    Q d 316 9 [some (.ref 156), some (.int x1), some (.ref x2), some (.int x3), some (.int x4), some (.int x5), none] [] h =
  if (0 : Int32) < x5 then
   ck (gC h x2) 1 <|
   cK (E d 212 [.ref x2, .int x4] h) (Q d 316 20 [some (.ref 156), some (.int x1), some (.ref x2), some (.int x3), some (.int x4), some (.int x5), none]) []
  else
   some (none, h) := by
  rw [← hs.1]
  exact (blkM (fun p => Nat.beq p 20) 6 9 _ _ _).trans rfl

set_option maxRecDepth 16384 in
theorem t_316_20 {d : Nat} {h : AH} (hs : Sh h) (x1 : Int32) (x2 : Nat) (x3 : Int32) (x4 : Int32) (x5 : Int32) (u6 : Option Value) (s0 : Nat) :
    Q d 316 20 [some (.ref 156), some (.int x1), some (.ref x2), some (.int x3), some (.int x4), some (.int x5), u6] [.ref s0] h =
  (ck (gC h s0) 5 <|
  ck (gC h s0) 5 <|
  gd (gI h 1280 s0) 200 <|
  if gA h 171 (ix (gI h 1280 s0)) = x1 then
   ck (gC h x2) 1 <|
   cK (E d 256 [.ref x2, .int x4] h) (Q d 316 45 [some (.ref 156), some (.int x1), some (.ref x2), some (.int x3), some (.int x4), some (.int x5), some (.ref s0)]) []
  else
   Q d 316 9 [some (.ref 156), some (.int x1), some (.ref x2), some (.int x3), some (.int (x4 + 1)), some (.int (x5 + (-1))), none] [] h) := by
  rw [← hs.1]
  exact (blkM (fun p => Nat.beq p 9 || Nat.beq p 45) 14 20 _ _ _).trans rfl

set_option maxRecDepth 16384 in
theorem t_316_45 {d : Nat} {h : AH} (hs : Sh h) (x1 : Int32) (x2 : Nat) (x3 : Int32) (x4 : Int32) (x5 : Int32) (x6 : Nat) (s0 : Nat) :
    Q d 316 45 [some (.ref 156), some (.int x1), some (.ref x2), some (.int x3), some (.int x4), some (.int x5), some (.ref x6)] [.ref s0] h =
  (ck (gC h x6) 5 <|
  cK (E d 257 [.ref x6, .int 3, .int x3, .int (-1), .int (gI h 2051 156)] h) (Q d 316 58 [some (.ref 156), some (.int x1), some (.ref x2), some (.int x3), some (.int x4), some (.int x5), some (.ref x6)]) []) := by
  rw [← hs.1]
  exact (blkM (fun p => Nat.beq p 58) 9 45 _ _ _).trans rfl

set_option maxRecDepth 16384 in
theorem t_316_58 {d : Nat} {h : AH} (hs : Sh h) (x1 : Int32) (x2 : Nat) (x3 : Int32) (x4 : Int32) (x5 : Int32) (x6 : Nat) :
    Q d 316 58 [some (.ref 156), some (.int x1), some (.ref x2), some (.int x3), some (.int x4), some (.int x5), some (.ref x6)] [] h =
  cK (E d 258 [.ref 156, .ref x6, .int 4, .int x3] h) (Q d 316 66 [some (.ref 156), some (.int x1), some (.ref x2), some (.int x3), some (.int x4), some (.int x5), some (.ref x6)]) [] := by
  rw [← hs.1]
  exact (blkM (fun p => Nat.beq p 66) 6 58 _ _ _).trans rfl

set_option maxRecDepth 16384 in
theorem t_316_66 {d : Nat} {h : AH} (hs : Sh h) (x1 : Int32) (x2 : Nat) (x3 : Int32) (x4 : Int32) (x5 : Int32) (u6 : Option Value) :
    Q d 316 66 [some (.ref 156), some (.int x1), some (.ref x2), some (.int x3), some (.int x4), some (.int x5), u6] [] h =
  Q d 316 9 [some (.ref 156), some (.int x1), some (.ref x2), some (.int x3), some (.int x4), some (.int (x5 + (-1))), none] [] h := by
  rw [← hs.1]
  exact (blkM (fun p => Nat.beq p 9) 5 66 _ _ _).trans rfl

/-! 317 PostRoom$Script.push()Z -/
set_option maxRecDepth 16384 in
theorem t_317 {d : Nat} {h : AH} (hs : Sh h) (x0 : Nat) :
    E (d + 1) 317 [.ref x0] h =
  (ck (gC h x0) 9 <|
  ck (gC h x0) 9 <|
  (gR h 2304 x0).bind fun y1 =>
   if 60 ≤ gC h y1 ∧ gC h y1 ≤ 66 then
    if gI h 2306 x0 < nI (gK h y1) then
     ck (gC h x0) 9 <|
     (gR h 2304 x0).bind fun y2 =>
      ck (gC h x0) 9 <|
      ck (gC h x0) 9 <|
      cw (gC h y2) 60 y2 <|
      gd (gI h 2306 x0) (gK h y2) <|
      ck (gC h x0) 9 <|
      (gR h 2305 x0).bind fun y3 =>
       ck (gC h x0) 9 <|
       ck (gC h x0) 9 <|
       (gR h 2309 x0).bind fun y4 =>
        ck (gC h y4) 12 <|
        cw (gC h y3) 60 y3 <|
        gd (gI h 2306 x0) (gK h y3) <|
        ck (gC h x0) 9 <|
        ck (gC h x0) 9 <|
        ck (gC h x0) 9 <|
        (gR h 2309 x0).bind fun y5 =>
         ck (gC h y5) 12 <|
         cK (E d 238 [.ref y5] (sI (sA (sA h y2 (ix (gI h 2306 x0)) (gI h 2307 x0)) y3 (ix (gI h 2306 x0)) (gI h 3077 y4)) 2306 x0 ((gI h 2306 x0) + 1))) (Q d 317 64 [some (.ref x0)]) []
    else
     ck (gC h x0) 9 <|
     cK (E d 327 [.ref x0, .int 1] h) (Q d 317 17 [some (.ref x0)]) []
   else
    none) := by
  rw [← hs.1]
  exact ent rfl ((blkM (fun p => Nat.beq p 17 || Nat.beq p 64) 31 0 _ _ _).trans rfl)

set_option maxRecDepth 16384 in
theorem t_317_17 {d : Nat} {h : AH} (hs : Sh h) (u0 : Option Value) (s0 : Int32) :
    Q d 317 17 [u0] [.int s0] h =
  if s0 = 0 ∨ s0 = 1 then
   some (some (.int s0), h)
  else
   none := by
  rw [← hs.1]
  exact (blkM (fun p => false) 2 17 _ _ _).trans rfl

set_option maxRecDepth 16384 in
theorem t_317_64 {d : Nat} {h : AH} (hs : Sh h) (x0 : Nat) :
    Q d 317 64 [some (.ref x0)] [] h =
  (ck (gC h x0) 9 <|
  cK (E d 264 [.ref x0] h) (Q d 317 68 [some (.ref x0)]) []) := by
  rw [← hs.1]
  exact (blkM (fun p => Nat.beq p 68) 3 64 _ _ _).trans rfl

set_option maxRecDepth 16384 in
theorem t_317_68 {d : Nat} {h : AH} (hs : Sh h) (u0 : Option Value) :
    Q d 317 68 [u0] [] h =
  some (some (.int 1), h) := by
  rw [← hs.1]
  exact (blkM (fun p => false) 3 68 _ _ _).trans rfl

/-! 318 PostRoom$Script.takes(I)Z -/
set_option maxRecDepth 16384 in
theorem t_318 {d : Nat} {h : AH} (hs : Sh h) (x0 : Nat) (x1 : Int32) :
    E (d + 1) 318 [.ref x0, .int x1] h =
  (ck (gC h x0) 9 <|
  if gI h 2307 x0 = x1 then
   ck (gC h x0) 9 <|
   cK (E d 317 [.ref x0] h) (Q d 318 12 [some (.ref x0), some (.int x1)]) []
  else
   ck (gC h x0) 9 <|
   cK (E d 327 [.ref x0, .int 1] h) (Q d 318 20 [none, none]) []) := by
  rw [← hs.1]
  exact ent rfl ((blkM (fun p => Nat.beq p 12 || Nat.beq p 20) 8 0 _ _ _).trans rfl)

set_option maxRecDepth 16384 in
theorem t_318_12 {d : Nat} {h : AH} (hs : Sh h) (u0 : Option Value) (u1 : Option Value) (s0 : Int32) :
    Q d 318 12 [u0, u1] [.int s0] h =
  Q d 318 20 [none, none] [.int s0] h := by
  rw [← hs.1]
  exact (blkM (fun p => Nat.beq p 20) 3 12 _ _ _).trans rfl

set_option maxRecDepth 16384 in
theorem t_318_20 {d : Nat} {h : AH} (hs : Sh h) (s0 : Int32) :
    Q d 318 20 [none, none] [.int s0] h =
  if s0 = 0 ∨ s0 = 1 then
   some (some (.int s0), h)
  else
   none := by
  rw [← hs.1]
  exact (blkM (fun p => false) 2 20 _ _ _).trans rfl

/-! 319 PostRoom$Script.readExpression(I)Z -/
set_option maxRecDepth 16384 in
theorem t_319 {d : Nat} {h : AH} (hs : Sh h) (x0 : Nat) (x1 : Int32) :
    E (d + 1) 319 [.ref x0, .int x1] h =
  (ck (gC h x0) 9 <|
  cK (E d 357 [.ref x0, .int x1] h) (Q d 319 5 [some (.ref x0), some (.int x1)]) []) := by
  rw [← hs.1]
  exact ent rfl ((blkM (fun p => Nat.beq p 5) 4 0 _ _ _).trans rfl)

set_option maxRecDepth 16384 in
theorem t_319_5 {d : Nat} {h : AH} (hs : Sh h) (x0 : Nat) (x1 : Int32) (s0 : Int32) :
    Q d 319 5 [some (.ref x0), some (.int x1)] [.int s0] h =
  if s0 = 0 then
   some (some (.int 0), h)
  else
   ck (gC h x0) 9 <|
   if gI h 2307 x0 = 60 then
    ck (gC h x0) 9 <|
    cK (E d 317 [.ref x0] h) (Q d 319 32 [some (.ref x0), some (.int x1)]) []
   else
    ck (gC h x0) 9 <|
    if gI h 2307 x0 = 61 then
     ck (gC h x0) 9 <|
     cK (E d 317 [.ref x0] h) (Q d 319 32 [some (.ref x0), some (.int x1)]) []
    else
     some (some (.int 1), h) := by
  rw [← hs.1]
  exact (blkM (fun p => Nat.beq p 32) 13 5 _ _ _).trans rfl

set_option maxRecDepth 16384 in
theorem t_319_32 {d : Nat} {h : AH} (hs : Sh h) (x0 : Nat) (x1 : Int32) (s0 : Int32) :
    Q d 319 32 [some (.ref x0), some (.int x1)] [.int s0] h =
  if s0 = 0 then
   some (some (.int 0), h)
  else
   ck (gC h x0) 9 <|
   cK (E d 357 [.ref x0, .int x1] h) (Q d 319 40 [some (.ref x0), some (.int x1)]) [] := by
  rw [← hs.1]
  exact (blkM (fun p => Nat.beq p 40) 5 32 _ _ _).trans rfl

set_option maxRecDepth 16384 in
theorem t_319_40 {d : Nat} {h : AH} (hs : Sh h) (u0 : Option Value) (u1 : Option Value) (s0 : Int32) :
    Q d 319 40 [u0, u1] [.int s0] h =
  if s0 = 0 then
   some (some (.int 0), h)
  else
   some (some (.int 1), h) := by
  rw [← hs.1]
  exact (blkM (fun p => false) 5 40 _ _ _).trans rfl

/-! 320 PostRoom$Script.readItem(I)Z -/
set_option maxRecDepth 16384 in
theorem t_320 {d : Nat} {h : AH} (hs : Sh h) (x0 : Nat) (x1 : Int32) :
    E (d + 1) 320 [.ref x0, .int x1] h =
  (ck (gC h x0) 9 <|
  if gI h 2307 x0 = 5 then
   if x1 < 20 then
    ck (gC h x0) 9 <|
    ck (gC h x0) 9 <|
    cK (E d 317 [.ref x0] h) (Q d 320 55 [some (.ref x0), some (.int x1), some (.int (gI h 2307 x0))]) []
   else
    ck (gC h x0) 9 <|
    cK (E d 327 [.ref x0, .int 5] h) (Q d 320 45 [some (.ref x0), some (.int x1), none]) []
  else
   ck (gC h x0) 9 <|
   if gI h 2307 x0 < 154 then
    ck (gC h x0) 9 <|
    cK (E d 327 [.ref x0, .int 1] h) (Q d 320 33 [some (.ref x0), none, none]) []
   else
    ck (gC h x0) 9 <|
    if (159 : Int32) < gI h 2307 x0 then
     ck (gC h x0) 9 <|
     cK (E d 327 [.ref x0, .int 1] h) (Q d 320 33 [some (.ref x0), none, none]) []
    else
     if x1 < 20 then
      ck (gC h x0) 9 <|
      ck (gC h x0) 9 <|
      cK (E d 317 [.ref x0] h) (Q d 320 55 [some (.ref x0), some (.int x1), some (.int (gI h 2307 x0))]) []
     else
      ck (gC h x0) 9 <|
      cK (E d 327 [.ref x0, .int 5] h) (Q d 320 45 [some (.ref x0), some (.int x1), none]) []) := by
  rw [← hs.1]
  exact ent rfl ((blkM (fun p => Nat.beq p 33 || Nat.beq p 45 || Nat.beq p 55) 21 0 _ _ _).trans rfl)

set_option maxRecDepth 16384 in
theorem t_320_33 {d : Nat} {h : AH} (hs : Sh h) (u0 : Option Value) (u1 : Option Value) (u2 : Option Value) (s0 : Int32) :
    Q d 320 33 [u0, u1, u2] [.int s0] h =
  if s0 = 0 ∨ s0 = 1 then
   some (some (.int s0), h)
  else
   none := by
  rw [← hs.1]
  exact (blkM (fun p => false) 2 33 _ _ _).trans rfl

set_option maxRecDepth 16384 in
theorem t_320_45 {d : Nat} {h : AH} (hs : Sh h) (u0 : Option Value) (u1 : Option Value) (u2 : Option Value) (s0 : Int32) :
    Q d 320 45 [u0, u1, u2] [.int s0] h =
  if s0 = 0 ∨ s0 = 1 then
   some (some (.int s0), h)
  else
   none := by
  rw [← hs.1]
  exact (blkM (fun p => false) 2 45 _ _ _).trans rfl

set_option maxRecDepth 16384 in
theorem t_320_55 {d : Nat} {h : AH} (hs : Sh h) (x0 : Nat) (x1 : Int32) (x2 : Int32) (s0 : Int32) :
    Q d 320 55 [some (.ref x0), some (.int x1), some (.int x2)] [.int s0] h =
  if x2 = 5 then
   some (some (.int 1), h)
  else
   if x2 = 154 then
   some (some (.int 1), h)
  else
   if x2 = 155 then
   ck (gC h x0) 9 <|
   cK (E d 358 [.ref x0, .int (x1 + 1)] h) (Q d 320 109 [some (.ref x0), some (.int x1), some (.int x2)]) []
  else
   if x2 = 156 then
   ck (gC h x0) 9 <|
   cK (E d 323 [.ref x0, .int (x1 + 1)] h) (Q d 320 117 [some (.ref x0), some (.int x1), some (.int x2)]) []
  else
   ck (gC h x0) 9 <|
  cK (E d 320 [.ref x0, .int (x1 + 1)] h) (Q d 320 125 [some (.ref x0), some (.int x1), some (.int x2)]) [] := by
  rw [← hs.1]
  exact (blkM (fun p => Nat.beq p 109 || Nat.beq p 117 || Nat.beq p 125) 9 55 _ _ _).trans rfl

set_option maxRecDepth 16384 in
theorem t_320_109 {d : Nat} {h : AH} (hs : Sh h) (u0 : Option Value) (u1 : Option Value) (u2 : Option Value) (s0 : Int32) :
    Q d 320 109 [u0, u1, u2] [.int s0] h =
  if s0 = 0 ∨ s0 = 1 then
   some (some (.int s0), h)
  else
   none := by
  rw [← hs.1]
  exact (blkM (fun p => false) 2 109 _ _ _).trans rfl

set_option maxRecDepth 16384 in
theorem t_320_117 {d : Nat} {h : AH} (hs : Sh h) (u0 : Option Value) (u1 : Option Value) (u2 : Option Value) (s0 : Int32) :
    Q d 320 117 [u0, u1, u2] [.int s0] h =
  if s0 = 0 ∨ s0 = 1 then
   some (some (.int s0), h)
  else
   none := by
  rw [← hs.1]
  exact (blkM (fun p => false) 2 117 _ _ _).trans rfl

set_option maxRecDepth 16384 in
theorem t_320_125 {d : Nat} {h : AH} (hs : Sh h) (u0 : Option Value) (u1 : Option Value) (u2 : Option Value) (s0 : Int32) :
    Q d 320 125 [u0, u1, u2] [.int s0] h =
  if s0 = 0 ∨ s0 = 1 then
   some (some (.int s0), h)
  else
   none := by
  rw [← hs.1]
  exact (blkM (fun p => false) 2 125 _ _ _).trans rfl

/-! 321 PostRoom$Script.readTray(I)Z -/
set_option maxRecDepth 16384 in
theorem t_321 {d : Nat} {h : AH} (hs : Sh h) (x0 : Nat) (x1 : Int32) :
    E (d + 1) 321 [.ref x0, .int x1] h =
  (ck (gC h x0) 9 <|
  cK (E d 318 [.ref x0, .int 64] h) (Q d 321 6 [some (.ref x0), some (.int x1)]) []) := by
  rw [← hs.1]
  exact ent rfl ((blkM (fun p => Nat.beq p 6) 4 0 _ _ _).trans rfl)

set_option maxRecDepth 16384 in
theorem t_321_6 {d : Nat} {h : AH} (hs : Sh h) (x0 : Nat) (x1 : Int32) (s0 : Int32) :
    Q d 321 6 [some (.ref x0), some (.int x1)] [.int s0] h =
  if s0 = 0 then
   some (some (.int 0), h)
  else
   ck (gC h x0) 9 <|
   cK (E d 358 [.ref x0, .int x1] h) (Q d 321 14 [some (.ref x0), some (.int x1)]) [] := by
  rw [← hs.1]
  exact (blkM (fun p => Nat.beq p 14) 5 6 _ _ _).trans rfl

set_option maxRecDepth 16384 in
theorem t_321_14 {d : Nat} {h : AH} (hs : Sh h) (u0 : Option Value) (u1 : Option Value) (s0 : Int32) :
    Q d 321 14 [u0, u1] [.int s0] h =
  if s0 = 0 then
   some (some (.int 0), h)
  else
   some (some (.int 1), h) := by
  rw [← hs.1]
  exact (blkM (fun p => false) 5 14 _ _ _).trans rfl

/-! 322 PostRoom$Script.readRow()Z -/
set_option maxRecDepth 16384 in
theorem t_322 {d : Nat} {h : AH} (hs : Sh h) (x0 : Nat) :
    E (d + 1) 322 [.ref x0] h =
  (ck (gC h x0) 9 <|
  if gI h 2307 x0 < 160 then
   ck (gC h x0) 9 <|
   cK (E d 327 [.ref x0, .int 1] h) (Q d 322 32 [none]) []
  else
   ck (gC h x0) 9 <|
   if (171 : Int32) < gI h 2307 x0 then
    ck (gC h x0) 9 <|
    cK (E d 327 [.ref x0, .int 1] h) (Q d 322 32 [none]) []
   else
    ck (gC h x0) 9 <|
    cK (E d 317 [.ref x0] h) (Q d 322 24 [some (.ref x0)]) []) := by
  rw [← hs.1]
  exact ent rfl ((blkM (fun p => Nat.beq p 24 || Nat.beq p 32) 12 0 _ _ _).trans rfl)

set_option maxRecDepth 16384 in
theorem t_322_24 {d : Nat} {h : AH} (hs : Sh h) (u0 : Option Value) (s0 : Int32) :
    Q d 322 24 [u0] [.int s0] h =
  Q d 322 32 [none] [.int s0] h := by
  rw [← hs.1]
  exact (blkM (fun p => Nat.beq p 32) 3 24 _ _ _).trans rfl

set_option maxRecDepth 16384 in
theorem t_322_32 {d : Nat} {h : AH} (hs : Sh h) (s0 : Int32) :
    Q d 322 32 [none] [.int s0] h =
  if s0 = 0 ∨ s0 = 1 then
   some (some (.int s0), h)
  else
   none := by
  rw [← hs.1]
  exact (blkM (fun p => false) 2 32 _ _ _).trans rfl

/-! 323 PostRoom$Script.readSpot(I)Z -/
set_option maxRecDepth 16384 in
theorem t_323 {d : Nat} {h : AH} (hs : Sh h) (x0 : Nat) (x1 : Int32) :
    E (d + 1) 323 [.ref x0, .int x1] h =
  (ck (gC h x0) 9 <|
  cK (E d 321 [.ref x0, .int x1] h) (Q d 323 5 [some (.ref x0), some (.int x1)]) []) := by
  rw [← hs.1]
  exact ent rfl ((blkM (fun p => Nat.beq p 5) 4 0 _ _ _).trans rfl)

set_option maxRecDepth 16384 in
theorem t_323_5 {d : Nat} {h : AH} (hs : Sh h) (x0 : Nat) (x1 : Int32) (s0 : Int32) :
    Q d 323 5 [some (.ref x0), some (.int x1)] [.int s0] h =
  if s0 = 0 then
   some (some (.int 0), h)
  else
   ck (gC h x0) 9 <|
   cK (E d 318 [.ref x0, .int 91] h) (Q d 323 14 [some (.ref x0), some (.int x1)]) [] := by
  rw [← hs.1]
  exact (blkM (fun p => Nat.beq p 14) 5 5 _ _ _).trans rfl

set_option maxRecDepth 16384 in
theorem t_323_14 {d : Nat} {h : AH} (hs : Sh h) (x0 : Nat) (x1 : Int32) (s0 : Int32) :
    Q d 323 14 [some (.ref x0), some (.int x1)] [.int s0] h =
  if s0 = 0 then
   some (some (.int 0), h)
  else
   ck (gC h x0) 9 <|
   cK (E d 319 [.ref x0, .int x1] h) (Q d 323 22 [some (.ref x0), some (.int x1)]) [] := by
  rw [← hs.1]
  exact (blkM (fun p => Nat.beq p 22) 5 14 _ _ _).trans rfl

set_option maxRecDepth 16384 in
theorem t_323_22 {d : Nat} {h : AH} (hs : Sh h) (x0 : Nat) (u1 : Option Value) (s0 : Int32) :
    Q d 323 22 [some (.ref x0), u1] [.int s0] h =
  if s0 = 0 then
   some (some (.int 0), h)
  else
   ck (gC h x0) 9 <|
   cK (E d 318 [.ref x0, .int 93] h) (Q d 323 31 [some (.ref x0), u1]) [] := by
  rw [← hs.1]
  exact (blkM (fun p => Nat.beq p 31) 5 22 _ _ _).trans rfl

set_option maxRecDepth 16384 in
theorem t_323_31 {d : Nat} {h : AH} (hs : Sh h) (u0 : Option Value) (u1 : Option Value) (s0 : Int32) :
    Q d 323 31 [u0, u1] [.int s0] h =
  if s0 = 0 then
   some (some (.int 0), h)
  else
   some (some (.int 1), h) := by
  rw [← hs.1]
  exact (blkM (fun p => false) 5 31 _ _ _).trans rfl

/-! 324 PostRoom$Script.readSlide(I)Z -/
set_option maxRecDepth 16384 in
theorem t_324 {d : Nat} {h : AH} (hs : Sh h) (x0 : Nat) (x1 : Int32) :
    E (d + 1) 324 [.ref x0, .int x1] h =
  (ck (gC h x0) 9 <|
  cK (E d 321 [.ref x0, .int x1] h) (Q d 324 5 [some (.ref x0), some (.int x1)]) []) := by
  rw [← hs.1]
  exact ent rfl ((blkM (fun p => Nat.beq p 5) 4 0 _ _ _).trans rfl)

set_option maxRecDepth 16384 in
theorem t_324_5 {d : Nat} {h : AH} (hs : Sh h) (x0 : Nat) (x1 : Int32) (s0 : Int32) :
    Q d 324 5 [some (.ref x0), some (.int x1)] [.int s0] h =
  if s0 = 0 then
   some (some (.int 0), h)
  else
   ck (gC h x0) 9 <|
   cK (E d 319 [.ref x0, .int x1] h) (Q d 324 13 [some (.ref x0), some (.int x1)]) [] := by
  rw [← hs.1]
  exact (blkM (fun p => Nat.beq p 13) 5 5 _ _ _).trans rfl

set_option maxRecDepth 16384 in
theorem t_324_13 {d : Nat} {h : AH} (hs : Sh h) (x0 : Nat) (x1 : Int32) (s0 : Int32) :
    Q d 324 13 [some (.ref x0), some (.int x1)] [.int s0] h =
  if s0 = 0 then
   some (some (.int 0), h)
  else
   ck (gC h x0) 9 <|
   cK (E d 318 [.ref x0, .int 44] h) (Q d 324 22 [some (.ref x0), some (.int x1)]) [] := by
  rw [← hs.1]
  exact (blkM (fun p => Nat.beq p 22) 5 13 _ _ _).trans rfl

set_option maxRecDepth 16384 in
theorem t_324_22 {d : Nat} {h : AH} (hs : Sh h) (x0 : Nat) (x1 : Int32) (s0 : Int32) :
    Q d 324 22 [some (.ref x0), some (.int x1)] [.int s0] h =
  if s0 = 0 then
   some (some (.int 0), h)
  else
   ck (gC h x0) 9 <|
   cK (E d 321 [.ref x0, .int x1] h) (Q d 324 30 [some (.ref x0), some (.int x1)]) [] := by
  rw [← hs.1]
  exact (blkM (fun p => Nat.beq p 30) 5 22 _ _ _).trans rfl

set_option maxRecDepth 16384 in
theorem t_324_30 {d : Nat} {h : AH} (hs : Sh h) (x0 : Nat) (x1 : Int32) (s0 : Int32) :
    Q d 324 30 [some (.ref x0), some (.int x1)] [.int s0] h =
  if s0 = 0 then
   some (some (.int 0), h)
  else
   ck (gC h x0) 9 <|
   cK (E d 319 [.ref x0, .int x1] h) (Q d 324 38 [some (.ref x0), some (.int x1)]) [] := by
  rw [← hs.1]
  exact (blkM (fun p => Nat.beq p 38) 5 30 _ _ _).trans rfl

set_option maxRecDepth 16384 in
theorem t_324_38 {d : Nat} {h : AH} (hs : Sh h) (x0 : Nat) (x1 : Int32) (s0 : Int32) :
    Q d 324 38 [some (.ref x0), some (.int x1)] [.int s0] h =
  if s0 = 0 then
   some (some (.int 0), h)
  else
   ck (gC h x0) 9 <|
   cK (E d 318 [.ref x0, .int 44] h) (Q d 324 47 [some (.ref x0), some (.int x1)]) [] := by
  rw [← hs.1]
  exact (blkM (fun p => Nat.beq p 47) 5 38 _ _ _).trans rfl

set_option maxRecDepth 16384 in
theorem t_324_47 {d : Nat} {h : AH} (hs : Sh h) (x0 : Nat) (x1 : Int32) (s0 : Int32) :
    Q d 324 47 [some (.ref x0), some (.int x1)] [.int s0] h =
  if s0 = 0 then
   some (some (.int 0), h)
  else
   ck (gC h x0) 9 <|
   cK (E d 319 [.ref x0, .int x1] h) (Q d 324 55 [some (.ref x0), some (.int x1)]) [] := by
  rw [← hs.1]
  exact (blkM (fun p => Nat.beq p 55) 5 47 _ _ _).trans rfl

set_option maxRecDepth 16384 in
theorem t_324_55 {d : Nat} {h : AH} (hs : Sh h) (x0 : Nat) (u1 : Option Value) (s0 : Int32) :
    Q d 324 55 [some (.ref x0), u1] [.int s0] h =
  if s0 = 0 then
   some (some (.int 0), h)
  else
   ck (gC h x0) 9 <|
   cK (E d 318 [.ref x0, .int 59] h) (Q d 324 64 [some (.ref x0), u1]) [] := by
  rw [← hs.1]
  exact (blkM (fun p => Nat.beq p 64) 5 55 _ _ _).trans rfl

set_option maxRecDepth 16384 in
theorem t_324_64 {d : Nat} {h : AH} (hs : Sh h) (u0 : Option Value) (u1 : Option Value) (s0 : Int32) :
    Q d 324 64 [u0, u1] [.int s0] h =
  if s0 = 0 then
   some (some (.int 0), h)
  else
   some (some (.int 1), h) := by
  rw [← hs.1]
  exact (blkM (fun p => false) 5 64 _ _ _).trans rfl

/-! 325 PostRoom$Script.readBlock(I)Z -/
set_option maxRecDepth 16384 in
theorem t_325 {d : Nat} {h : AH} (hs : Sh h) (x0 : Nat) (x1 : Int32) :
    E (d + 1) 325 [.ref x0, .int x1] h =
  (ck (gC h x0) 9 <|
  if gI h 2307 x0 = 123 then
   if x1 < 20 then
    ck (gC h x0) 9 <|
    ck (gC h x0) 9 <|
    cK (E d 317 [.ref x0] h) (Q d 325 36 [some (.ref x0), some (.int x1), some (.int (gI h 2306 x0)), none]) []
   else
    ck (gC h x0) 9 <|
    cK (E d 327 [.ref x0, .int 5] h) (Q d 325 26 [some (.ref x0), some (.int x1), none, none]) []
  else
   ck (gC h x0) 9 <|
   cK (E d 327 [.ref x0, .int 1] h) (Q d 325 14 [some (.ref x0), some (.int x1), none, none]) []) := by
  rw [← hs.1]
  exact ent rfl ((blkM (fun p => Nat.beq p 14 || Nat.beq p 26 || Nat.beq p 36) 13 0 _ _ _).trans rfl)

set_option maxRecDepth 16384 in
theorem t_325_14 {d : Nat} {h : AH} (hs : Sh h) (u0 : Option Value) (u1 : Option Value) (u2 : Option Value) (u3 : Option Value) (s0 : Int32) :
    Q d 325 14 [u0, u1, u2, u3] [.int s0] h =
  if s0 = 0 ∨ s0 = 1 then
   some (some (.int s0), h)
  else
   none := by
  rw [← hs.1]
  exact (blkM (fun p => false) 2 14 _ _ _).trans rfl

set_option maxRecDepth 16384 in
theorem t_325_26 {d : Nat} {h : AH} (hs : Sh h) (u0 : Option Value) (u1 : Option Value) (u2 : Option Value) (u3 : Option Value) (s0 : Int32) :
    Q d 325 26 [u0, u1, u2, u3] [.int s0] h =
  if s0 = 0 ∨ s0 = 1 then
   some (some (.int s0), h)
  else
   none := by
  rw [← hs.1]
  exact (blkM (fun p => false) 2 26 _ _ _).trans rfl

set_option maxRecDepth 16384 in
theorem t_325_36 {d : Nat} {h : AH} (hs : Sh h) (x0 : Nat) (x1 : Int32) (x2 : Int32) (u3 : Option Value) (s0 : Int32) :
    Q d 325 36 [some (.ref x0), some (.int x1), some (.int x2), u3] [.int s0] h =
  Q d 325 39 [some (.ref x0), some (.int x1), some (.int x2), some (.int 0)] [] h := by
  rw [← hs.1]
  exact (blkM (fun p => Nat.beq p 39) 5 36 _ _ _).trans rfl

set_option maxRecDepth 16384 in
theorem t_325_39 {d : Nat} {h : AH} (hs : Sh h) (x0 : Nat) (x1 : Int32) (x2 : Int32) (x3 : Int32) :
    Q d 325 39 [some (.ref x0), some (.int x1), some (.int x2), some (.int x3)] [] h =
  if x3 < 4000 then
   ck (gC h x0) 9 <|
   if gI h 2307 x0 = 125 then
    ck (gC h x0) 9 <|
    (gR h 2305 x0).bind fun y1 =>
     ck (gC h x0) 9 <|
     cw (gC h y1) 60 y1 <|
     gd x2 (gK h y1) <|
     ck (gC h x0) 9 <|
     cK (E d 318 [.ref x0, .int 125] (sA h y1 (ix x2) (gI h 2306 x0))) (Q d 325 89 [some (.ref x0), none, some (.int x2), none]) []
   else
    ck (gC h x0) 9 <|
    cK (E d 265 [.ref x0, .int (x1 + 1)] h) (Q d 325 62 [some (.ref x0), some (.int x1), some (.int x2), some (.int x3)]) []
  else
   ck (gC h x0) 9 <|
   (gR h 2305 x0).bind fun y2 =>
    ck (gC h x0) 9 <|
    cw (gC h y2) 60 y2 <|
    gd x2 (gK h y2) <|
    ck (gC h x0) 9 <|
    cK (E d 318 [.ref x0, .int 125] (sA h y2 (ix x2) (gI h 2306 x0))) (Q d 325 89 [some (.ref x0), none, some (.int x2), none]) [] := by
  rw [← hs.1]
  exact (blkM (fun p => Nat.beq p 62 || Nat.beq p 89) 17 39 _ _ _).trans rfl

set_option maxRecDepth 16384 in
theorem t_325_62 {d : Nat} {h : AH} (hs : Sh h) (x0 : Nat) (x1 : Int32) (x2 : Int32) (x3 : Int32) (s0 : Int32) :
    Q d 325 62 [some (.ref x0), some (.int x1), some (.int x2), some (.int x3)] [.int s0] h =
  if s0 = 0 then
   some (some (.int 0), h)
  else
   Q d 325 39 [some (.ref x0), some (.int x1), some (.int x2), some (.int (x3 + 1))] [] h := by
  rw [← hs.1]
  exact (blkM (fun p => Nat.beq p 39) 5 62 _ _ _).trans rfl

set_option maxRecDepth 16384 in
theorem t_325_89 {d : Nat} {h : AH} (hs : Sh h) (u0 : Option Value) (u1 : Option Value) (u2 : Option Value) (u3 : Option Value) (s0 : Int32) :
    Q d 325 89 [u0, u1, u2, u3] [.int s0] h =
  if s0 = 0 ∨ s0 = 1 then
   some (some (.int s0), h)
  else
   none := by
  rw [← hs.1]
  exact (blkM (fun p => false) 2 89 _ _ _).trans rfl

/-! 326 PostRoom$Script.readTry(I)Z -/
set_option maxRecDepth 16384 in
theorem t_326 {d : Nat} {h : AH} (hs : Sh h) (x0 : Nat) (x1 : Int32) :
    E (d + 1) 326 [.ref x0, .int x1] h =
  (ck (gC h x0) 9 <|
  cK (E d 325 [.ref x0, .int x1] h) (Q d 326 5 [some (.ref x0), some (.int x1), none]) []) := by
  rw [← hs.1]
  exact ent rfl ((blkM (fun p => Nat.beq p 5) 4 0 _ _ _).trans rfl)

set_option maxRecDepth 16384 in
theorem t_326_5 {d : Nat} {h : AH} (hs : Sh h) (x0 : Nat) (x1 : Int32) (u2 : Option Value) (s0 : Int32) :
    Q d 326 5 [some (.ref x0), some (.int x1), u2] [.int s0] h =
  if s0 = 0 then
   some (some (.int 0), h)
  else
   Q d 326 12 [some (.ref x0), some (.int x1), some (.int 0)] [] h := by
  rw [← hs.1]
  exact (blkM (fun p => Nat.beq p 12) 5 5 _ _ _).trans rfl

set_option maxRecDepth 16384 in
theorem t_326_12 {d : Nat} {h : AH} (hs : Sh h) (x0 : Nat) (x1 : Int32) (x2 : Int32) :
    Q d 326 12 [some (.ref x0), some (.int x1), some (.int x2)] [] h =
  if x2 < 4000 then
   ck (gC h x0) 9 <|
   if gI h 2307 x0 = 141 then
    ck (gC h x0) 9 <|
    cK (E d 317 [.ref x0] h) (Q d 326 33 [some (.ref x0), some (.int x1), some (.int x2)]) []
   else
    ck (gC h x0) 9 <|
    if gI h 2307 x0 = 142 then
     ck (gC h x0) 9 <|
     cK (E d 317 [.ref x0] h) (Q d 326 73 [some (.ref x0), some (.int x1), none]) []
    else
     some (some (.int 1), h)
  else
   ck (gC h x0) 9 <|
   if gI h 2307 x0 = 142 then
    ck (gC h x0) 9 <|
    cK (E d 317 [.ref x0] h) (Q d 326 73 [some (.ref x0), some (.int x1), none]) []
   else
    some (some (.int 1), h) := by
  rw [← hs.1]
  exact (blkM (fun p => Nat.beq p 33 || Nat.beq p 73) 15 12 _ _ _).trans rfl

set_option maxRecDepth 16384 in
theorem t_326_33 {d : Nat} {h : AH} (hs : Sh h) (x0 : Nat) (x1 : Int32) (x2 : Int32) (s0 : Int32) :
    Q d 326 33 [some (.ref x0), some (.int x1), some (.int x2)] [.int s0] h =
  if s0 = 0 then
   some (some (.int 0), h)
  else
   ck (gC h x0) 9 <|
   cK (E d 359 [.ref x0] h) (Q d 326 40 [some (.ref x0), some (.int x1), some (.int x2)]) [] := by
  rw [← hs.1]
  exact (blkM (fun p => Nat.beq p 40) 4 33 _ _ _).trans rfl

set_option maxRecDepth 16384 in
theorem t_326_73 {d : Nat} {h : AH} (hs : Sh h) (x0 : Nat) (x1 : Int32) (u2 : Option Value) (s0 : Int32) :
    Q d 326 73 [some (.ref x0), some (.int x1), u2] [.int s0] h =
  if s0 = 0 then
   some (some (.int 0), h)
  else
   ck (gC h x0) 9 <|
   cK (E d 325 [.ref x0, .int x1] h) (Q d 326 81 [some (.ref x0), some (.int x1), u2]) [] := by
  rw [← hs.1]
  exact (blkM (fun p => Nat.beq p 81) 5 73 _ _ _).trans rfl

set_option maxRecDepth 16384 in
theorem t_326_40 {d : Nat} {h : AH} (hs : Sh h) (x0 : Nat) (x1 : Int32) (x2 : Int32) (s0 : Int32) :
    Q d 326 40 [some (.ref x0), some (.int x1), some (.int x2)] [.int s0] h =
  if s0 = 0 then
   some (some (.int 0), h)
  else
   ck (gC h x0) 9 <|
   cK (E d 325 [.ref x0, .int x1] h) (Q d 326 48 [some (.ref x0), some (.int x1), some (.int x2)]) [] := by
  rw [← hs.1]
  exact (blkM (fun p => Nat.beq p 48) 5 40 _ _ _).trans rfl

set_option maxRecDepth 16384 in
theorem t_326_81 {d : Nat} {h : AH} (hs : Sh h) (u0 : Option Value) (u1 : Option Value) (u2 : Option Value) (s0 : Int32) :
    Q d 326 81 [u0, u1, u2] [.int s0] h =
  if s0 = 0 then
   some (some (.int 0), h)
  else
   some (some (.int 1), h) := by
  rw [← hs.1]
  exact (blkM (fun p => false) 5 81 _ _ _).trans rfl

set_option maxRecDepth 16384 in
theorem t_326_48 {d : Nat} {h : AH} (hs : Sh h) (x0 : Nat) (x1 : Int32) (x2 : Int32) (s0 : Int32) :
    Q d 326 48 [some (.ref x0), some (.int x1), some (.int x2)] [.int s0] h =
  if s0 = 0 then
   some (some (.int 0), h)
  else
   Q d 326 12 [some (.ref x0), some (.int x1), some (.int (x2 + 1))] [] h := by
  rw [← hs.1]
  exact (blkM (fun p => Nat.beq p 12) 5 48 _ _ _).trans rfl

/-! 327 PostRoom$Script.fails(I)Z -/
set_option maxRecDepth 16384 in
theorem t_327 {d : Nat} {h : AH} (hs : Sh h) (x0 : Nat) (x1 : Int32) :
    E (d + 1) 327 [.ref x0, .int x1] h =
  (ck (gC h x0) 9 <|
  (gR h 2309 x0).bind fun y1 =>
   ck (gC h y1) 12 <|
   ck (gC h x0) 9 <|
   some (some (.int 0), sI h 2308 x0 (x1 + (16 * (gI h 3074 y1))))) := by
  rw [← hs.1]
  exact ent rfl ((blkM (fun p => false) 12 0 _ _ _).trans rfl)

/-! 328 PostRoom$Machine.peek()I -/
set_option maxRecDepth 16384 in
theorem t_328 {d : Nat} {h : AH} (hs : Sh h)  :
    E (d + 1) 328 [.ref 175] h =
  (gR h 1544 175).bind fun y1 =>
   ck (gC h y1) 9 <|
   cK (E d 360 [.ref y1, .int (gI h 1545 175)] h) (Q d 328 11 [some (.ref 175)]) [] := by
  rw [← hs.1]
  exact ent rfl ((blkM (fun p => Nat.beq p 11) 6 0 _ _ _).trans rfl)

set_option maxRecDepth 16384 in
theorem t_328_11 {d : Nat} {h : AH} (hs : Sh h) (u0 : Option Value) (s0 : Int32) :
    Q d 328 11 [u0] [.int s0] h =
  some (some (.int s0), h) := by
  rw [← hs.1]
  exact (blkM (fun p => false) 2 11 _ _ _).trans rfl

/-! 329 PostRoom$Machine.begins()Z -/
set_option maxRecDepth 16384 in
theorem t_329 {d : Nat} {h : AH} (hs : Sh h)  :
    E (d + 1) 329 [.ref 175] h =
  if gI h 1549 175 < gI h 1550 175 then
   if gI h 1553 175 < 200000 then
    some (some (.int 1), sI (sI h 1549 175 ((gI h 1549 175) + 1)) 1553 175 ((gI h 1553 175) + 1))
   else
    some (some (.int 0), sI h 1547 175 10)
  else
   some (some (.int 0), sI h 1547 175 10) := by
  rw [← hs.1]
  exact ent rfl ((blkM (fun p => false) 24 0 _ _ _).trans rfl)

/-! 330 PostRoom$Script.valueAt(I)I -/
set_option maxRecDepth 16384 in
theorem t_330 {d : Nat} {h : AH} (hs : Sh h) (x0 : Nat) (x1 : Int32) :
    E (d + 1) 330 [.ref x0, .int x1] h =
  if x1 < 0 then
   some (some (.int 0), h)
  else
   ck (gC h x0) 9 <|
   if x1 < gI h 2306 x0 then
    ck (gC h x0) 9 <|
    (gR h 2305 x0).bind fun y1 =>
     ck (gC h y1) 60 <|
     gd x1 (gK h y1) <|
     some (some (.int (gA h y1 (ix x1))), h)
   else
    some (some (.int 0), h) := by
  rw [← hs.1]
  exact ent rfl ((blkM (fun p => false) 13 0 _ _ _).trans rfl)

/-! 331 PostRoom$Machine.setNumber(II)V -/
set_option maxRecDepth 16384 in
theorem t_331 {d : Nat} {h : AH} (hs : Sh h) (x1 : Int32) (x2 : Int32) :
    E (d + 1) 331 [.ref 175, .int x1, .int x2] h =
  cK (E d 361 [.ref 175, .int x2] (sI h 1545 175 ((gI h 1545 175) + 1))) (Q d 331 15 [some (.ref 175), some (.int x1), some (.int x2), none, none]) [] := by
  rw [← hs.1]
  exact ent rfl ((blkM (fun p => Nat.beq p 15) 10 0 _ _ _).trans rfl)

set_option maxRecDepth 16384 in
theorem t_331_15 {d : Nat} {h : AH} (hs : Sh h) (x1 : Int32) (u2 : Option Value) (u3 : Option Value) (u4 : Option Value) (s0 : Int64) :
    Q d 331 15 [some (.ref 175), some (.int x1), u2, u3, u4] [.long s0] h =
  cK (E d 362 [.ref 175] (sI h 1545 175 ((gI h 1545 175) + 1))) (Q d 331 30 [some (.ref 175), some (.int x1), klV u2, some (.long s0), none]) [] := by
  rw [← hs.1]
  exact (blkM (fun p => Nat.beq p 30) 10 15 _ _ _).trans rfl

set_option maxRecDepth 16384 in
theorem t_331_30 {d : Nat} {h : AH} (hs : Sh h) (x1 : Int32) (x3 : Int64) (u2 : Option Value) (s0 : Int32) :
    Q d 331 30 [some (.ref 175), some (.int x1), u2, some (.long x3), none] [.int s0] h =
  if s0 = 0 then
   some (none, h)
  else
   gd x1 10 <|
   some (none, sB h 176 (ix x1) x3) := by
  rw [← hs.1]
  exact (blkM (fun p => false) 8 30 _ _ _).trans rfl

/-! 332 PostRoom$Machine.setHand(II)V -/
set_option maxRecDepth 16384 in
theorem t_332 {d : Nat} {h : AH} (hs : Sh h) (x1 : Int32) (x2 : Int32) :
    E (d + 1) 332 [.ref 175, .int x1, .int x2] h =
  cK (E d 363 [.ref 175, .int x2] (sI h 1545 175 ((gI h 1545 175) + 1))) (Q d 332 15 [some (.ref 175), some (.int x1), some (.int x2), none]) [] := by
  rw [← hs.1]
  exact ent rfl ((blkM (fun p => Nat.beq p 15) 10 0 _ _ _).trans rfl)

set_option maxRecDepth 16384 in
theorem t_332_15 {d : Nat} {h : AH} (hs : Sh h) (x1 : Int32) (u2 : Option Value) (u3 : Option Value) (s0 : Int32) :
    Q d 332 15 [some (.ref 175), some (.int x1), u2, u3] [.int s0] h =
  cK (E d 362 [.ref 175] (sI h 1545 175 ((gI h 1545 175) + 1))) (Q d 332 30 [some (.ref 175), some (.int x1), klV u2, some (.int s0)]) [] := by
  rw [← hs.1]
  exact (blkM (fun p => Nat.beq p 30) 10 15 _ _ _).trans rfl

set_option maxRecDepth 16384 in
theorem t_332_30 {d : Nat} {h : AH} (hs : Sh h) (x1 : Int32) (x3 : Int32) (u2 : Option Value) (s0 : Int32) :
    Q d 332 30 [some (.ref 175), some (.int x1), u2, some (.int x3)] [.int s0] h =
  if s0 = 0 then
   some (none, h)
  else
   gd x1 4 <|
   some (none, sA h 177 (ix x1) x3) := by
  rw [← hs.1]
  exact (blkM (fun p => false) 8 30 _ _ _).trans rfl

/-! 333 PostRoom$Machine.make(I)V -/
set_option maxRecDepth 16384 in
theorem t_333 {d : Nat} {h : AH} (hs : Sh h) (x1 : Int32) :
    E (d + 1) 333 [.ref 175, .int x1] h =
  cK (E d 364 [.ref 175, .int x1] h) (Q d 333 5 [some (.ref 175), some (.int x1), none, none, none, none]) [] := by
  rw [← hs.1]
  exact ent rfl ((blkM (fun p => Nat.beq p 5) 4 0 _ _ _).trans rfl)

set_option maxRecDepth 16384 in
theorem t_333_5 {d : Nat} {h : AH} (hs : Sh h) (x1 : Int32) (u2 : Option Value) (u3 : Option Value) (u4 : Option Value) (u5 : Option Value) (s0 : Int32) :
    Q d 333 5 [some (.ref 175), some (.int x1), u2, u3, u4, u5] [.int s0] h =
  cK (E d 362 [.ref 175] h) (Q d 333 10 [some (.ref 175), some (.int x1), some (.int s0), u3, u4, u5]) [] := by
  rw [← hs.1]
  exact (blkM (fun p => Nat.beq p 10) 4 5 _ _ _).trans rfl

set_option maxRecDepth 16384 in
theorem t_333_10 {d : Nat} {h : AH} (hs : Sh h) (x1 : Int32) (x2 : Int32) (u3 : Option Value) (u4 : Option Value) (u5 : Option Value) (s0 : Int32) :
    Q d 333 10 [some (.ref 175), some (.int x1), some (.int x2), u3, u4, u5] [.int s0] h =
  if s0 = 0 then
   some (none, h)
  else
   cK (E d 328 [.ref 175] h) (Q d 333 18 [some (.ref 175), some (.int x1), some (.int x2), u3, u4, u5]) [] := by
  rw [← hs.1]
  exact (blkM (fun p => Nat.beq p 18) 4 10 _ _ _).trans rfl

set_option maxRecDepth 16384 in
theorem t_333_18 {d : Nat} {h : AH} (hs : Sh h) (x1 : Int32) (x2 : Int32) (u3 : Option Value) (u4 : Option Value) (u5 : Option Value) (s0 : Int32) :
    Q d 333 18 [some (.ref 175), some (.int x1), some (.int x2), u3, u4, u5] [.int s0] h =
  cK (E d 361 [.ref 175, .int x1] (sI h 1545 175 ((gI h 1545 175) + 1))) (Q d 333 40 [some (.ref 175), some (.int x1), some (.int x2), some (.int ((s0 - 160) + 1)), u4, u5]) [] := by
  rw [← hs.1]
  exact (blkM (fun p => Nat.beq p 40) 15 18 _ _ _).trans rfl

set_option maxRecDepth 16384 in
theorem t_333_40 {d : Nat} {h : AH} (hs : Sh h) (x2 : Int32) (x3 : Int32) (u1 : Option Value) (u4 : Option Value) (u5 : Option Value) (s0 : Int64) :
    Q d 333 40 [some (.ref 175), u1, some (.int x2), some (.int x3), u4, u5] [.long s0] h =
  cK (E d 362 [.ref 175] (sI h 1545 175 ((gI h 1545 175) + 1))) (Q d 333 56 [some (.ref 175), u1, some (.int x2), some (.int x3), some (.long s0), none]) [] := by
  rw [← hs.1]
  exact (blkM (fun p => Nat.beq p 56) 10 40 _ _ _).trans rfl

set_option maxRecDepth 16384 in
theorem t_333_56 {d : Nat} {h : AH} (hs : Sh h) (x2 : Int32) (x3 : Int32) (x4 : Int64) (u1 : Option Value) (s0 : Int32) :
    Q d 333 56 [some (.ref 175), u1, some (.int x2), some (.int x3), some (.long x4), none] [.int s0] h =
  if s0 = 0 then
   some (none, h)
  else
   if lg_cmp x4 0 < 0 then
    cK (E d 365 [.ref 175, .int 4] h) (Q d 333 72 [some (.ref 175), u1, some (.int x2), some (.int x3), some (.long x4), none]) []
   else
    if (0 : Int32) < lg_cmp x4 ((2000 - (gI h 1551 175)).toInt64) then
     Q d 333 122 [none, none, none, none, none, none] [] (sI h 1547 175 11)
    else
     if (0 : Int32) < lg_cmp x4 ((200000 - (gI h 1554 175)).toInt64) then
      Q d 333 122 [none, none, none, none, none, none] [] (sI h 1547 175 11)
     else
      cK (E d 366 [.ref 175, .int x2, .int x3, .int x4.toInt32] h) (Q d 333 122 [none, none, none, none, none, none]) [] := by
  rw [← hs.1]
  exact (blkM (fun p => Nat.beq p 72 || Nat.beq p 122) 28 56 _ _ _).trans rfl

set_option maxRecDepth 16384 in
theorem t_333_72 {d : Nat} {h : AH} (hs : Sh h) (u0 : Option Value) (u1 : Option Value) (u2 : Option Value) (u3 : Option Value) (u4 : Option Value) (u5 : Option Value) :
    Q d 333 72 [u0, u1, u2, u3, u4, u5] [] h =
  Q d 333 122 [none, none, none, none, none, none] [] h := by
  rw [← hs.1]
  exact (blkM (fun p => Nat.beq p 122) 3 72 _ _ _).trans rfl

set_option maxRecDepth 16384 in
theorem t_333_122 {d : Nat} {h : AH} (hs : Sh h)  :
    Q d 333 122 [none, none, none, none, none, none] [] h =
  some (none, h) := by
  rw [← hs.1]
  exact (blkM (fun p => false) 2 122 _ _ _).trans rfl

/-! 334 PostRoom$Machine.drop(I)V -/
set_option maxRecDepth 16384 in
theorem t_334 {d : Nat} {h : AH} (hs : Sh h) (x1 : Int32) :
    E (d + 1) 334 [.ref 175, .int x1] h =
  cK (E d 364 [.ref 175, .int x1] h) (Q d 334 5 [some (.ref 175), some (.int x1), none]) [] := by
  rw [← hs.1]
  exact ent rfl ((blkM (fun p => Nat.beq p 5) 4 0 _ _ _).trans rfl)

set_option maxRecDepth 16384 in
theorem t_334_5 {d : Nat} {h : AH} (hs : Sh h) (u1 : Option Value) (u2 : Option Value) (s0 : Int32) :
    Q d 334 5 [some (.ref 175), u1, u2] [.int s0] h =
  cK (E d 362 [.ref 175] (sI h 1545 175 ((gI h 1545 175) + 1))) (Q d 334 20 [some (.ref 175), klV u1, some (.int s0)]) [] := by
  rw [← hs.1]
  exact (blkM (fun p => Nat.beq p 20) 10 5 _ _ _).trans rfl

set_option maxRecDepth 16384 in
theorem t_334_20 {d : Nat} {h : AH} (hs : Sh h) (x2 : Int32) (u1 : Option Value) (s0 : Int32) :
    Q d 334 20 [some (.ref 175), u1, some (.int x2)] [.int s0] h =
  if s0 = 0 then
   some (none, h)
  else
   gd x2 12 <|
   some (none, sA h 178 (ix x2) 0) := by
  rw [← hs.1]
  exact (blkM (fun p => false) 8 20 _ _ _).trans rfl

/-! 335 PostRoom$Machine.same(I)V -/
set_option maxRecDepth 16384 in
theorem t_335 {d : Nat} {h : AH} (hs : Sh h) (x1 : Int32) :
    E (d + 1) 335 [.ref 175, .int x1] h =
  cK (E d 364 [.ref 175, .int x1] h) (Q d 335 5 [some (.ref 175), some (.int x1), none, none]) [] := by
  rw [← hs.1]
  exact ent rfl ((blkM (fun p => Nat.beq p 5) 4 0 _ _ _).trans rfl)

set_option maxRecDepth 16384 in
theorem t_335_5 {d : Nat} {h : AH} (hs : Sh h) (x1 : Int32) (u2 : Option Value) (u3 : Option Value) (s0 : Int32) :
    Q d 335 5 [some (.ref 175), some (.int x1), u2, u3] [.int s0] h =
  cK (E d 362 [.ref 175] h) (Q d 335 10 [some (.ref 175), some (.int x1), some (.int s0), u3]) [] := by
  rw [← hs.1]
  exact (blkM (fun p => Nat.beq p 10) 4 5 _ _ _).trans rfl

set_option maxRecDepth 16384 in
theorem t_335_10 {d : Nat} {h : AH} (hs : Sh h) (x1 : Int32) (x2 : Int32) (u3 : Option Value) (s0 : Int32) :
    Q d 335 10 [some (.ref 175), some (.int x1), some (.int x2), u3] [.int s0] h =
  if s0 = 0 then
   some (none, h)
  else
   cK (E d 364 [.ref 175, .int x1] h) (Q d 335 19 [some (.ref 175), some (.int x1), some (.int x2), u3]) [] := by
  rw [← hs.1]
  exact (blkM (fun p => Nat.beq p 19) 5 10 _ _ _).trans rfl

set_option maxRecDepth 16384 in
theorem t_335_19 {d : Nat} {h : AH} (hs : Sh h) (x2 : Int32) (u1 : Option Value) (u3 : Option Value) (s0 : Int32) :
    Q d 335 19 [some (.ref 175), u1, some (.int x2), u3] [.int s0] h =
  cK (E d 362 [.ref 175] (sI h 1545 175 ((gI h 1545 175) + 1))) (Q d 335 34 [some (.ref 175), u1, some (.int x2), some (.int s0)]) [] := by
  rw [← hs.1]
  exact (blkM (fun p => Nat.beq p 34) 10 19 _ _ _).trans rfl

set_option maxRecDepth 16384 in
theorem t_335_34 {d : Nat} {h : AH} (hs : Sh h) (x2 : Int32) (x3 : Int32) (u1 : Option Value) (s0 : Int32) :
    Q d 335 34 [some (.ref 175), u1, some (.int x2), some (.int x3)] [.int s0] h =
  if s0 = 0 then
   some (none, h)
  else
   gd x3 12 <|
   gd x2 12 <|
   gd x3 12 <|
   gd x2 12 <|
   gd x3 12 <|
   gd x2 12 <|
   gd x3 12 <|
   gd x2 12 <|
   some (none, sA (sA (sA (sA h 178 (ix x2) (gA h 178 (ix x3))) 179 (ix x2) (gA h 179 (ix x3))) 180 (ix x2) (gA h 180 (ix x3))) 181 (ix x2) (gA h 181 (ix x3))) := by
  rw [← hs.1]
  exact (blkM (fun p => false) 35 34 _ _ _).trans rfl

/-! 336 PostRoom$Machine.put(I)V -/
set_option maxRecDepth 16384 in
theorem t_336 {d : Nat} {h : AH} (hs : Sh h) (x1 : Int32) :
    E (d + 1) 336 [.ref 175, .int x1] h =
  cK (E d 364 [.ref 175, .int x1] h) (Q d 336 5 [some (.ref 175), some (.int x1), none, none, none, none, none, none]) [] := by
  rw [← hs.1]
  exact ent rfl ((blkM (fun p => Nat.beq p 5) 4 0 _ _ _).trans rfl)

set_option maxRecDepth 16384 in
theorem t_336_5 {d : Nat} {h : AH} (hs : Sh h) (x1 : Int32) (u2 : Option Value) (u3 : Option Value) (u4 : Option Value) (u5 : Option Value) (u6 : Option Value) (u7 : Option Value) (s0 : Int32) :
    Q d 336 5 [some (.ref 175), some (.int x1), u2, u3, u4, u5, u6, u7] [.int s0] h =
  cK (E d 362 [.ref 175] h) (Q d 336 10 [some (.ref 175), some (.int x1), some (.int s0), u3, u4, u5, u6, u7]) [] := by
  rw [← hs.1]
  exact (blkM (fun p => Nat.beq p 10) 4 5 _ _ _).trans rfl

set_option maxRecDepth 16384 in
theorem t_336_10 {d : Nat} {h : AH} (hs : Sh h) (x1 : Int32) (x2 : Int32) (u3 : Option Value) (u4 : Option Value) (u5 : Option Value) (u6 : Option Value) (u7 : Option Value) (s0 : Int32) :
    Q d 336 10 [some (.ref 175), some (.int x1), some (.int x2), u3, u4, u5, u6, u7] [.int s0] h =
  if s0 = 0 then
   some (none, h)
  else
   cK (E d 367 [.ref 175, .int x1] h) (Q d 336 19 [some (.ref 175), some (.int x1), some (.int x2), u3, u4, u5, u6, u7]) [] := by
  rw [← hs.1]
  exact (blkM (fun p => Nat.beq p 19) 5 10 _ _ _).trans rfl

set_option maxRecDepth 16384 in
theorem t_336_19 {d : Nat} {h : AH} (hs : Sh h) (x1 : Int32) (x2 : Int32) (u3 : Option Value) (u4 : Option Value) (u5 : Option Value) (u6 : Option Value) (u7 : Option Value) (s0 : Int64) :
    Q d 336 19 [some (.ref 175), some (.int x1), some (.int x2), u3, u4, u5, u6, u7] [.long s0] h =
  cK (E d 362 [.ref 175] h) (Q d 336 24 [some (.ref 175), some (.int x1), some (.int x2), some (.long s0), none, u5, u6, u7]) [] := by
  rw [← hs.1]
  exact (blkM (fun p => Nat.beq p 24) 4 19 _ _ _).trans rfl

set_option maxRecDepth 16384 in
theorem t_336_24 {d : Nat} {h : AH} (hs : Sh h) (x1 : Int32) (x2 : Int32) (x3 : Int64) (u5 : Option Value) (u6 : Option Value) (u7 : Option Value) (s0 : Int32) :
    Q d 336 24 [some (.ref 175), some (.int x1), some (.int x2), some (.long x3), none, u5, u6, u7] [.int s0] h =
  if s0 = 0 then
   some (none, h)
  else
   cK (E d 361 [.ref 175, .int x1] h) (Q d 336 33 [some (.ref 175), some (.int x1), some (.int x2), some (.long x3), none, u5, u6, u7]) [] := by
  rw [← hs.1]
  exact (blkM (fun p => Nat.beq p 33) 5 24 _ _ _).trans rfl

set_option maxRecDepth 16384 in
theorem t_336_33 {d : Nat} {h : AH} (hs : Sh h) (x2 : Int32) (x3 : Int64) (u1 : Option Value) (u5 : Option Value) (u6 : Option Value) (u7 : Option Value) (s0 : Int64) :
    Q d 336 33 [some (.ref 175), u1, some (.int x2), some (.long x3), none, u5, u6, u7] [.long s0] h =
  cK (E d 362 [.ref 175] (sI h 1545 175 ((gI h 1545 175) + 1))) (Q d 336 49 [some (.ref 175), u1, some (.int x2), some (.long x3), none, some (.long s0), none, u7]) [] := by
  rw [← hs.1]
  exact (blkM (fun p => Nat.beq p 49) 10 33 _ _ _).trans rfl

set_option maxRecDepth 16384 in
theorem t_336_49 {d : Nat} {h : AH} (hs : Sh h) (x2 : Int32) (x3 : Int64) (x5 : Int64) (u1 : Option Value) (u7 : Option Value) (s0 : Int32) :
    Q d 336 49 [some (.ref 175), u1, some (.int x2), some (.long x3), none, some (.long x5), none, u7] [.int s0] h =
  if s0 = 0 then
   some (none, h)
  else
   cK (E d 368 [.ref 175, .int x2, .long x3, .int 0] h) (Q d 336 60 [some (.ref 175), u1, some (.int x2), some (.long x3), none, some (.long x5), none, u7]) [] := by
  rw [← hs.1]
  exact (blkM (fun p => Nat.beq p 60) 7 49 _ _ _).trans rfl

set_option maxRecDepth 16384 in
theorem t_336_60 {d : Nat} {h : AH} (hs : Sh h) (x2 : Int32) (x5 : Int64) (u1 : Option Value) (u3 : Option Value) (u4 : Option Value) (u7 : Option Value) (s0 : Int32) :
    Q d 336 60 [some (.ref 175), u1, some (.int x2), u3, u4, some (.long x5), none, u7] [.int s0] h =
  if s0 = (-1) then
   some (none, h)
  else
   gd x2 12 <|
   cK (E d 369 [.int (gA h 178 (ix x2)), .long x5] h) (Q d 336 85 [some (.ref 175), u1, some (.int x2), u3, u4, some (.long x5), none, some (.int s0)]) [.int s0, .ref 182] := by
  rw [← hs.1]
  exact (blkM (fun p => Nat.beq p 85) 14 60 _ _ _).trans rfl

set_option maxRecDepth 16384 in
theorem t_336_85 {d : Nat} {h : AH} (hs : Sh h) (u0 : Option Value) (u1 : Option Value) (u2 : Option Value) (u3 : Option Value) (u4 : Option Value) (u5 : Option Value) (u6 : Option Value) (u7 : Option Value) (s0 : Nat) (s1 : Int32) (s2 : Int64) :
    Q d 336 85 [u0, u1, u2, u3, u4, u5, u6, u7] [.long s2, .int s1, .ref s0] h =
  (cw (gC h s0) 61 s0 <|
  gd s1 (gK h s0) <|
  some (none, sB h s0 (ix s1) s2)) := by
  rw [← hs.1]
  exact (blkM (fun p => false) 3 85 _ _ _).trans rfl

