/-! ===== THE METHODS, PIECE BY PIECE: 6 (made by wip/gen/gen40.py) ===== -/
/-! 231 PostRoom$Tape.wordIn(Ljava/lang/String;)I -/
set_option maxRecDepth 16384 in
theorem t_231 {d : Nat} {h : AH} (hs : Sh h) (x1 : Nat) :
    E (d + 1) 231 [.ref 101, .ref x1] h =
  if gI h 3076 101 = 2 then
   Q d 231 17 [some (.ref 101), some (.ref x1), some (.int 0), some (.long 0), none, some (.int 0), none] [] h
  else
   some (some (.int (-1)), h) := by
  rw [← hs.1]
  exact ent rfl ((blkM (fun p => Nat.beq p 17) 12 0 _ _ _).trans rfl)

set_option maxRecDepth 16384 in
theorem t_231_17 {d : Nat} {h : AH} (hs : Sh h) (x1 : Nat) (x2 : Int32) (x3 : Int64) (x5 : Int32) :
    Q d 231 17 [some (.ref 101), some (.ref x1), some (.int x2), some (.long x3), none, some (.int x5), none] [] h =
  (ck (gC h x1) 15 <|
  cK (E d 190 [.ref x1] h) (Q d 231 23 [some (.ref 101), some (.ref x1), some (.int x2), some (.long x3), none, some (.int x5), none]) [.int x5]) := by
  rw [← hs.1]
  exact (blkM (fun p => Nat.beq p 23) 4 17 _ _ _).trans rfl

set_option maxRecDepth 16384 in
theorem t_231_23 {d : Nat} {h : AH} (hs : Sh h) (x1 : Nat) (x2 : Int32) (x3 : Int64) (x5 : Int32) (u6 : Option Value) (s0 : Int32) (s1 : Int32) :
    Q d 231 23 [some (.ref 101), some (.ref x1), some (.int x2), some (.long x3), none, some (.int x5), u6] [.int s1, .int s0] h =
  if s0 < s1 then
   ck (gC h x1) 15 <|
   cK (E d 191 [.ref x1, .int x5] h) (Q d 231 32 [some (.ref 101), some (.ref x1), some (.int x2), some (.long x3), none, some (.int x5), u6]) []
  else
   if lg_cmp x3 (gL h 3078 101) = 0 then
    some (some (.int x2), h)
   else
    some (some (.int (-1)), h) := by
  rw [← hs.1]
  exact (blkM (fun p => Nat.beq p 32) 10 23 _ _ _).trans rfl

set_option maxRecDepth 16384 in
theorem t_231_32 {d : Nat} {h : AH} (hs : Sh h) (x1 : Nat) (x2 : Int32) (x3 : Int64) (x5 : Int32) (u6 : Option Value) (s0 : Int32) :
    Q d 231 32 [some (.ref 101), some (.ref x1), some (.int x2), some (.long x3), none, some (.int x5), u6] [.int s0] h =
  if s0 = 32 then
   if lg_cmp x3 (gL h 3078 101) = 0 then
    some (some (.int x2), h)
   else
    Q d 231 17 [some (.ref 101), some (.ref x1), some (.int (x2 + 1)), some (.long 0), none, some (.int (x5 + 1)), none] [] h
  else
   Q d 231 17 [some (.ref 101), some (.ref x1), some (.int x2), some (.long ((((x3 * 37) + s0.toInt64) - 97) + 1)), none, some (.int (x5 + 1)), none] [] h := by
  rw [← hs.1]
  exact (blkM (fun p => Nat.beq p 17) 20 32 _ _ _).trans rfl

/-! 232 PostRoom$Book.readOffice()Z -/
set_option maxRecDepth 16384 in
theorem t_232 {d : Nat} {h : AH} (hs : Sh h) (x0 : Nat) :
    E (d + 1) 232 [.ref x0] h =
  (ck (gC h x0) 2 <|
  (gR h 512 x0).bind fun y1 =>
   ck (gC h y1) 1 <|
   cK (E d 213 [.ref y1] h) (Q d 232 7 [some (.ref x0), none]) []) := by
  rw [← hs.1]
  exact ent rfl ((blkM (fun p => Nat.beq p 7) 4 0 _ _ _).trans rfl)

set_option maxRecDepth 16384 in
theorem t_232_7 {d : Nat} {h : AH} (hs : Sh h) (x0 : Nat) (u1 : Option Value) (s0 : Int32) :
    Q d 232 7 [some (.ref x0), u1] [.int s0] h =
  if s0 < 16 then
   Q d 232 21 [some (.ref x0), u1] [.ref (gN h)] (nwO h 7 6)
  else
   ck (gC h x0) 2 <|
   cK (E d 237 [.ref x0, .int 5] h) (Q d 232 17 [some (.ref x0), u1]) [] := by
  rw [← hs.1]
  exact (blkM (fun p => Nat.beq p 17 || Nat.beq p 21) 6 7 _ _ _).trans rfl

set_option maxRecDepth 16384 in
theorem t_232_17 {d : Nat} {h : AH} (hs : Sh h) (u0 : Option Value) (u1 : Option Value) (s0 : Int32) :
    Q d 232 17 [u0, u1] [.int s0] h =
  if s0 = 0 ∨ s0 = 1 then
   some (some (.int s0), h)
  else
   none := by
  rw [← hs.1]
  exact (blkM (fun p => false) 2 17 _ _ _).trans rfl

set_option maxRecDepth 16384 in
theorem t_232_21 {d : Nat} {h : AH} (hs : Sh h) (x0 : Nat) (u1 : Option Value) (s0 : Nat) :
    Q d 232 21 [some (.ref x0), u1] [.ref s0] h =
  cK (E d 276 [.ref s0] h) (Q d 232 25 [some (.ref x0), u1]) [.ref s0] := by
  rw [← hs.1]
  exact (blkM (fun p => Nat.beq p 25) 3 21 _ _ _).trans rfl

set_option maxRecDepth 16384 in
theorem t_232_25 {d : Nat} {h : AH} (hs : Sh h) (x0 : Nat) (u1 : Option Value) (s0 : Nat) :
    Q d 232 25 [some (.ref x0), u1] [.ref s0] h =
  (ck (gC h x0) 2 <|
  cK (E d 277 [.ref x0] h) (Q d 232 30 [some (.ref x0), some (.ref s0)]) []) := by
  rw [← hs.1]
  exact (blkM (fun p => Nat.beq p 30) 4 25 _ _ _).trans rfl

set_option maxRecDepth 16384 in
theorem t_232_30 {d : Nat} {h : AH} (hs : Sh h) (x0 : Nat) (x1 : Nat) (s0 : Int32) :
    Q d 232 30 [some (.ref x0), some (.ref x1)] [.int s0] h =
  if s0 = 0 then
   some (some (.int 0), h)
  else
   ck (gC h x0) 2 <|
   (gR h 520 x0).bind fun y1 =>
    ck (gC h y1) 12 <|
    ck (gC h x0) 2 <|
    cK (E d 278 [.ref x0, .long (gL h 3078 y1)] h) (Q d 232 46 [some (.ref x0), some (.ref x1)]) [] := by
  rw [← hs.1]
  exact (blkM (fun p => Nat.beq p 46) 7 30 _ _ _).trans rfl

set_option maxRecDepth 16384 in
theorem t_232_46 {d : Nat} {h : AH} (hs : Sh h) (x0 : Nat) (x1 : Nat) (s0 : Int32) :
    Q d 232 46 [some (.ref x0), some (.ref x1)] [.int s0] h =
  if s0 = (-1) then
   ck (gC h x0) 2 <|
   (gR h 520 x0).bind fun y1 =>
    ck (gC h y1) 12 <|
    ck (gC h x1) 7 <|
    ck (gC h x0) 2 <|
    (gR h 520 x0).bind fun y2 =>
     ck (gC h y2) 12 <|
     ck (gC h x0) 2 <|
     (gR h 520 x0).bind fun y3 =>
      ck (gC h y3) 12 <|
      if (gI h 3075 y2) - (gI h 3074 y3) < 0 then
       none
      else
       if ix ((gI h 3075 y2) - (gI h 3074 y3)) ≤ 1000000 then
        Q d 232 85 [some (.ref x0), some (.ref x1)] [.ref (gN h), .ref x1] (nwA (sL h 1792 x1 (gL h 3078 y1)) 60 (ix ((gI h 3075 y2) - (gI h 3074 y3))))
       else
        none
  else
   ck (gC h x0) 2 <|
   cK (E d 237 [.ref x0, .int 3] h) (Q d 232 55 [some (.ref x0), some (.ref x1)]) [] := by
  rw [← hs.1]
  exact (blkM (fun p => Nat.beq p 55 || Nat.beq p 85) 18 46 _ _ _).trans rfl

set_option maxRecDepth 16384 in
theorem t_232_55 {d : Nat} {h : AH} (hs : Sh h) (u0 : Option Value) (u1 : Option Value) (s0 : Int32) :
    Q d 232 55 [u0, u1] [.int s0] h =
  if s0 = 0 ∨ s0 = 1 then
   some (some (.int s0), h)
  else
   none := by
  rw [← hs.1]
  exact (blkM (fun p => false) 2 55 _ _ _).trans rfl

set_option maxRecDepth 16384 in
theorem t_232_85 {d : Nat} {h : AH} (hs : Sh h) (x0 : Nat) (x1 : Nat) (s0 : Nat) (s1 : Nat) :
    Q d 232 85 [some (.ref x0), some (.ref x1)] [.ref s1, .ref s0] h =
  (ck (gC h s0) 7 <|
  ck (gC h x0) 2 <|
  (gR h 520 x0).bind fun y1 =>
   ck (gC h x1) 7 <|
   (gR (sR h 1793 s0 (some s1)) 1793 x1).bind fun y2 =>
    ck (gC h y1) 12 <|
    cK (E d 279 [.ref y1, .ref y2, .int 0] (sR h 1793 s0 (some s1))) (Q d 232 100 [some (.ref x0), some (.ref x1)]) []) := by
  rw [← hs.1]
  exact (blkM (fun p => Nat.beq p 100) 8 85 _ _ _).trans rfl

set_option maxRecDepth 16384 in
theorem t_232_100 {d : Nat} {h : AH} (hs : Sh h) (x0 : Nat) (x1 : Nat) (s0 : Int32) :
    Q d 232 100 [some (.ref x0), some (.ref x1)] [.int s0] h =
  (ck (gC h x0) 2 <|
  cK (E d 280 [.ref x0, .int 1, .int 999] h) (Q d 232 109 [some (.ref x0), some (.ref x1)]) []) := by
  rw [← hs.1]
  exact (blkM (fun p => Nat.beq p 109) 6 100 _ _ _).trans rfl

set_option maxRecDepth 16384 in
theorem t_232_109 {d : Nat} {h : AH} (hs : Sh h) (x0 : Nat) (x1 : Nat) (s0 : Int32) :
    Q d 232 109 [some (.ref x0), some (.ref x1)] [.int s0] h =
  if s0 = 0 then
   some (some (.int 0), h)
  else
   ck (gC h x0) 2 <|
   (gR h 520 x0).bind fun y1 =>
    ck (gC h y1) 12 <|
    ck (gC h x0) 2 <|
    cK (E d 281 [.ref x0, .int (gI h 3077 y1)] h) (Q d 232 125 [some (.ref x0), some (.ref x1)]) [] := by
  rw [← hs.1]
  exact (blkM (fun p => Nat.beq p 125) 7 109 _ _ _).trans rfl

set_option maxRecDepth 16384 in
theorem t_232_125 {d : Nat} {h : AH} (hs : Sh h) (x0 : Nat) (x1 : Nat) (s0 : Int32) :
    Q d 232 125 [some (.ref x0), some (.ref x1)] [.int s0] h =
  if s0 = 0 then
   ck (gC h x0) 2 <|
   (gR h 520 x0).bind fun y1 =>
    ck (gC h y1) 12 <|
    ck (gC h x1) 7 <|
    ck (gC h x0) 2 <|
    cK (E d 280 [.ref x0, .int 0, .int 999] (sI h 1794 x1 (gI h 3077 y1))) (Q d 232 153 [some (.ref x0), some (.ref x1)]) []
  else
   ck (gC h x0) 2 <|
   cK (E d 237 [.ref x0, .int 3] h) (Q d 232 133 [some (.ref x0), some (.ref x1)]) [] := by
  rw [← hs.1]
  exact (blkM (fun p => Nat.beq p 133 || Nat.beq p 153) 11 125 _ _ _).trans rfl

set_option maxRecDepth 16384 in
theorem t_232_133 {d : Nat} {h : AH} (hs : Sh h) (u0 : Option Value) (u1 : Option Value) (s0 : Int32) :
    Q d 232 133 [u0, u1] [.int s0] h =
  if s0 = 0 ∨ s0 = 1 then
   some (some (.int s0), h)
  else
   none := by
  rw [← hs.1]
  exact (blkM (fun p => false) 2 133 _ _ _).trans rfl

set_option maxRecDepth 16384 in
theorem t_232_153 {d : Nat} {h : AH} (hs : Sh h) (x0 : Nat) (x1 : Nat) (s0 : Int32) :
    Q d 232 153 [some (.ref x0), some (.ref x1)] [.int s0] h =
  if s0 = 0 then
   some (some (.int 0), h)
  else
   ck (gC h x0) 2 <|
   (gR h 520 x0).bind fun y1 =>
    ck (gC h y1) 12 <|
    ck (gC h x1) 7 <|
    ck (gC h x0) 2 <|
    cK (E d 280 [.ref x0, .int 0, .int 999] (sI h 1795 x1 (gI h 3077 y1))) (Q d 232 177 [some (.ref x0), some (.ref x1)]) [] := by
  rw [← hs.1]
  exact (blkM (fun p => Nat.beq p 177) 11 153 _ _ _).trans rfl

set_option maxRecDepth 16384 in
theorem t_232_177 {d : Nat} {h : AH} (hs : Sh h) (x0 : Nat) (x1 : Nat) (s0 : Int32) :
    Q d 232 177 [some (.ref x0), some (.ref x1)] [.int s0] h =
  if s0 = 0 then
   some (some (.int 0), h)
  else
   ck (gC h x0) 2 <|
   (gR h 520 x0).bind fun y1 =>
    ck (gC h y1) 12 <|
    ck (gC h x1) 7 <|
    ck (gC h x0) 2 <|
    (gR h 512 x0).bind fun y2 =>
     ck (gC h y2) 1 <|
     cK (E d 273 [.ref y2, .ref x1] (sI h 1796 x1 (gI h 3077 y1))) (Q d 232 201 [some (.ref x0), some (.ref x1)]) [] := by
  rw [← hs.1]
  exact (blkM (fun p => Nat.beq p 201) 11 177 _ _ _).trans rfl

set_option maxRecDepth 16384 in
theorem t_232_201 {d : Nat} {h : AH} (hs : Sh h) (x0 : Nat) (u1 : Option Value) (s0 : Int32) :
    Q d 232 201 [some (.ref x0), u1] [.int s0] h =
  (ck (gC h x0) 2 <|
  cK (E d 282 [.ref x0] h) (Q d 232 206 [some (.ref x0), u1]) []) := by
  rw [← hs.1]
  exact (blkM (fun p => Nat.beq p 206) 4 201 _ _ _).trans rfl

set_option maxRecDepth 16384 in
theorem t_232_206 {d : Nat} {h : AH} (hs : Sh h) (u0 : Option Value) (u1 : Option Value) (s0 : Int32) :
    Q d 232 206 [u0, u1] [.int s0] h =
  if s0 = 0 ∨ s0 = 1 then
   some (some (.int s0), h)
  else
   none := by
  rw [← hs.1]
  exact (blkM (fun p => false) 2 206 _ _ _).trans rfl

/-! 233 PostRoom$Book.readShort()Z -/
set_option maxRecDepth 16384 in
theorem t_233 {d : Nat} {h : AH} (hs : Sh h) (x0 : Nat) :
    E (d + 1) 233 [.ref x0] h =
  (ck (gC h x0) 2 <|
  if gI h 518 x0 < 20 then
   ck (gC h x0) 2 <|
   cK (E d 277 [.ref x0] h) (Q d 233 19 [some (.ref x0)]) []
  else
   ck (gC h x0) 2 <|
   cK (E d 237 [.ref x0, .int 5] h) (Q d 233 14 [some (.ref x0)]) []) := by
  rw [← hs.1]
  exact ent rfl ((blkM (fun p => Nat.beq p 14 || Nat.beq p 19) 8 0 _ _ _).trans rfl)

set_option maxRecDepth 16384 in
theorem t_233_14 {d : Nat} {h : AH} (hs : Sh h) (u0 : Option Value) (s0 : Int32) :
    Q d 233 14 [u0] [.int s0] h =
  if s0 = 0 ∨ s0 = 1 then
   some (some (.int s0), h)
  else
   none := by
  rw [← hs.1]
  exact (blkM (fun p => false) 2 14 _ _ _).trans rfl

set_option maxRecDepth 16384 in
theorem t_233_19 {d : Nat} {h : AH} (hs : Sh h) (x0 : Nat) (s0 : Int32) :
    Q d 233 19 [some (.ref x0)] [.int s0] h =
  if s0 = 0 then
   some (some (.int 0), h)
  else
   ck (gC h x0) 2 <|
   (gR h 520 x0).bind fun y1 =>
    ck (gC h y1) 12 <|
    ck (gC h x0) 2 <|
    cK (E d 283 [.ref x0, .long (gL h 3078 y1)] h) (Q d 233 35 [some (.ref x0)]) [] := by
  rw [← hs.1]
  exact (blkM (fun p => Nat.beq p 35) 7 19 _ _ _).trans rfl

set_option maxRecDepth 16384 in
theorem t_233_35 {d : Nat} {h : AH} (hs : Sh h) (x0 : Nat) (s0 : Int32) :
    Q d 233 35 [some (.ref x0)] [.int s0] h =
  if s0 = (-1) then
   ck (gC h x0) 2 <|
   (gR h 516 x0).bind fun y1 =>
    ck (gC h x0) 2 <|
    ck (gC h x0) 2 <|
    (gR h 520 x0).bind fun y2 =>
     ck (gC h y2) 12 <|
     cw (gC h y1) 61 y1 <|
     gd (gI h 518 x0) (gK h y1) <|
     ck (gC h x0) 2 <|
     cK (E d 277 [.ref x0] (sB h y1 (ix (gI h 518 x0)) (gL h 3078 y2))) (Q d 233 65 [some (.ref x0)]) []
  else
   ck (gC h x0) 2 <|
   cK (E d 237 [.ref x0, .int 3] h) (Q d 233 44 [some (.ref x0)]) [] := by
  rw [← hs.1]
  exact (blkM (fun p => Nat.beq p 44 || Nat.beq p 65) 13 35 _ _ _).trans rfl

set_option maxRecDepth 16384 in
theorem t_233_44 {d : Nat} {h : AH} (hs : Sh h) (u0 : Option Value) (s0 : Int32) :
    Q d 233 44 [u0] [.int s0] h =
  if s0 = 0 ∨ s0 = 1 then
   some (some (.int s0), h)
  else
   none := by
  rw [← hs.1]
  exact (blkM (fun p => false) 2 44 _ _ _).trans rfl

set_option maxRecDepth 16384 in
theorem t_233_65 {d : Nat} {h : AH} (hs : Sh h) (x0 : Nat) (s0 : Int32) :
    Q d 233 65 [some (.ref x0)] [.int s0] h =
  if s0 = 0 then
   some (some (.int 0), h)
  else
   ck (gC h x0) 2 <|
   (gR h 517 x0).bind fun y1 =>
    ck (gC h x0) 2 <|
    ck (gC h x0) 2 <|
    (gR h 520 x0).bind fun y2 =>
     ck (gC h y2) 12 <|
     cw (gC h y1) 61 y1 <|
     gd (gI h 518 x0) (gK h y1) <|
     ck (gC h x0) 2 <|
     ck (gC h x0) 2 <|
     ck (gC h x0) 2 <|
     cK (E d 282 [.ref x0] (sI (sB h y1 (ix (gI h 518 x0)) (gL h 3078 y2)) 518 x0 ((gI h 518 x0) + 1))) (Q d 233 100 [some (.ref x0)]) [] := by
  rw [← hs.1]
  exact (blkM (fun p => Nat.beq p 100) 18 65 _ _ _).trans rfl

set_option maxRecDepth 16384 in
theorem t_233_100 {d : Nat} {h : AH} (hs : Sh h) (u0 : Option Value) (s0 : Int32) :
    Q d 233 100 [u0] [.int s0] h =
  if s0 = 0 ∨ s0 = 1 then
   some (some (.int s0), h)
  else
   none := by
  rw [← hs.1]
  exact (blkM (fun p => false) 2 100 _ _ _).trans rfl

/-! 234 PostRoom$Book.readStreet()Z -/
set_option maxRecDepth 16384 in
theorem t_234 {d : Nat} {h : AH} (hs : Sh h) (x0 : Nat) :
    E (d + 1) 234 [.ref x0] h =
  (ck (gC h x0) 2 <|
  (gR h 513 x0).bind fun y1 =>
   ck (gC h y1) 1 <|
   cK (E d 213 [.ref y1] h) (Q d 234 7 [some (.ref x0), none]) []) := by
  rw [← hs.1]
  exact ent rfl ((blkM (fun p => Nat.beq p 7) 4 0 _ _ _).trans rfl)

set_option maxRecDepth 16384 in
theorem t_234_7 {d : Nat} {h : AH} (hs : Sh h) (x0 : Nat) (u1 : Option Value) (s0 : Int32) :
    Q d 234 7 [some (.ref x0), u1] [.int s0] h =
  if s0 < 60 then
   Q d 234 21 [some (.ref x0), u1] [.ref (gN h)] (nwO h 11 9)
  else
   ck (gC h x0) 2 <|
   cK (E d 237 [.ref x0, .int 5] h) (Q d 234 17 [some (.ref x0), u1]) [] := by
  rw [← hs.1]
  exact (blkM (fun p => Nat.beq p 17 || Nat.beq p 21) 6 7 _ _ _).trans rfl

set_option maxRecDepth 16384 in
theorem t_234_17 {d : Nat} {h : AH} (hs : Sh h) (u0 : Option Value) (u1 : Option Value) (s0 : Int32) :
    Q d 234 17 [u0, u1] [.int s0] h =
  if s0 = 0 ∨ s0 = 1 then
   some (some (.int s0), h)
  else
   none := by
  rw [← hs.1]
  exact (blkM (fun p => false) 2 17 _ _ _).trans rfl

set_option maxRecDepth 16384 in
theorem t_234_21 {d : Nat} {h : AH} (hs : Sh h) (x0 : Nat) (u1 : Option Value) (s0 : Nat) :
    Q d 234 21 [some (.ref x0), u1] [.ref s0] h =
  cK (E d 284 [.ref s0] h) (Q d 234 25 [some (.ref x0), u1]) [.ref s0] := by
  rw [← hs.1]
  exact (blkM (fun p => Nat.beq p 25) 3 21 _ _ _).trans rfl

set_option maxRecDepth 16384 in
theorem t_234_25 {d : Nat} {h : AH} (hs : Sh h) (x0 : Nat) (u1 : Option Value) (s0 : Nat) :
    Q d 234 25 [some (.ref x0), u1] [.ref s0] h =
  (ck (gC h x0) 2 <|
  cK (E d 285 [.ref x0, .ref s0] h) (Q d 234 31 [some (.ref x0), some (.ref s0)]) []) := by
  rw [← hs.1]
  exact (blkM (fun p => Nat.beq p 31) 5 25 _ _ _).trans rfl

set_option maxRecDepth 16384 in
theorem t_234_31 {d : Nat} {h : AH} (hs : Sh h) (x0 : Nat) (x1 : Nat) (s0 : Int32) :
    Q d 234 31 [some (.ref x0), some (.ref x1)] [.int s0] h =
  if s0 = 0 then
   some (some (.int 0), h)
  else
   ck (gC h x0) 2 <|
   cK (E d 286 [.ref x0] h) (Q d 234 38 [some (.ref x0), some (.ref x1)]) [] := by
  rw [← hs.1]
  exact (blkM (fun p => Nat.beq p 38) 4 31 _ _ _).trans rfl

set_option maxRecDepth 16384 in
theorem t_234_38 {d : Nat} {h : AH} (hs : Sh h) (x0 : Nat) (x1 : Nat) (s0 : Int32) :
    Q d 234 38 [some (.ref x0), some (.ref x1)] [.int s0] h =
  if s0 = 0 then
   some (some (.int 0), h)
  else
   ck (gC h x0) 2 <|
   (gR h 520 x0).bind fun y1 =>
    ck (gC h y1) 12 <|
    ck (gC h x0) 2 <|
    cK (E d 278 [.ref x0, .long (gL h 3078 y1)] h) (Q d 234 55 [some (.ref x0), some (.ref x1)]) [.ref x1] := by
  rw [← hs.1]
  exact (blkM (fun p => Nat.beq p 55) 8 38 _ _ _).trans rfl

set_option maxRecDepth 16384 in
theorem t_234_55 {d : Nat} {h : AH} (hs : Sh h) (x0 : Nat) (x1 : Nat) (s0 : Nat) (s1 : Int32) :
    Q d 234 55 [some (.ref x0), some (.ref x1)] [.int s1, .ref s0] h =
  (ck (gC h s0) 11 <|
  ck (gC h x0) 2 <|
  cK (E d 287 [.ref x0, .ref x1] (sI h 2817 s0 s1)) (Q d 234 63 [some (.ref x0), some (.ref x1)]) []) := by
  rw [← hs.1]
  exact (blkM (fun p => Nat.beq p 63) 5 55 _ _ _).trans rfl

set_option maxRecDepth 16384 in
theorem t_234_63 {d : Nat} {h : AH} (hs : Sh h) (x0 : Nat) (x1 : Nat) (s0 : Int32) :
    Q d 234 63 [some (.ref x0), some (.ref x1)] [.int s0] h =
  if s0 = 0 then
   some (some (.int 0), h)
  else
   ck (gC h x0) 2 <|
   cK (E d 288 [.ref x0, .ref 6] h) (Q d 234 72 [some (.ref x0), some (.ref x1)]) [] := by
  rw [← hs.1]
  exact (blkM (fun p => Nat.beq p 72) 5 63 _ _ _).trans rfl

set_option maxRecDepth 16384 in
theorem t_234_72 {d : Nat} {h : AH} (hs : Sh h) (x0 : Nat) (x1 : Nat) (s0 : Int32) :
    Q d 234 72 [some (.ref x0), some (.ref x1)] [.int s0] h =
  if s0 = 0 then
   some (some (.int 0), h)
  else
   ck (gC h x0) 2 <|
   cK (E d 280 [.ref x0, .int 0, .int 999] h) (Q d 234 83 [some (.ref x0), some (.ref x1)]) [] := by
  rw [← hs.1]
  exact (blkM (fun p => Nat.beq p 83) 6 72 _ _ _).trans rfl

set_option maxRecDepth 16384 in
theorem t_234_83 {d : Nat} {h : AH} (hs : Sh h) (x0 : Nat) (x1 : Nat) (s0 : Int32) :
    Q d 234 83 [some (.ref x0), some (.ref x1)] [.int s0] h =
  if s0 = 0 then
   some (some (.int 0), h)
  else
   ck (gC h x0) 2 <|
   (gR h 520 x0).bind fun y1 =>
    ck (gC h y1) 12 <|
    ck (gC h x1) 11 <|
    ck (gC h x0) 2 <|
    cK (E d 280 [.ref x0, .int 0, .int 999] (sI h 2821 x1 (gI h 3077 y1))) (Q d 234 107 [some (.ref x0), some (.ref x1)]) [] := by
  rw [← hs.1]
  exact (blkM (fun p => Nat.beq p 107) 11 83 _ _ _).trans rfl

set_option maxRecDepth 16384 in
theorem t_234_107 {d : Nat} {h : AH} (hs : Sh h) (x0 : Nat) (x1 : Nat) (s0 : Int32) :
    Q d 234 107 [some (.ref x0), some (.ref x1)] [.int s0] h =
  if s0 = 0 then
   some (some (.int 0), h)
  else
   ck (gC h x0) 2 <|
   (gR h 520 x0).bind fun y1 =>
    ck (gC h y1) 12 <|
    ck (gC h x1) 11 <|
    ck (gC h x0) 2 <|
    (gR h 520 x0).bind fun y2 =>
     ck (gC h y2) 12 <|
     cK (E d 238 [.ref y2] (sI h 2822 x1 (gI h 3077 y1))) (Q d 234 130 [some (.ref x0), some (.ref x1)]) [] := by
  rw [← hs.1]
  exact (blkM (fun p => Nat.beq p 130) 10 107 _ _ _).trans rfl

set_option maxRecDepth 16384 in
theorem t_234_130 {d : Nat} {h : AH} (hs : Sh h) (x0 : Nat) (x1 : Nat) :
    Q d 234 130 [some (.ref x0), some (.ref x1)] [] h =
  (ck (gC h x0) 2 <|
  (gR h 520 x0).bind fun y1 =>
   ck (gC h y1) 12 <|
   cK (E d 231 [.ref y1, .ref 7] h) (Q d 234 140 [some (.ref x0), some (.ref x1)]) [.ref x1]) := by
  rw [← hs.1]
  exact (blkM (fun p => Nat.beq p 140) 6 130 _ _ _).trans rfl

set_option maxRecDepth 16384 in
theorem t_234_140 {d : Nat} {h : AH} (hs : Sh h) (x0 : Nat) (x1 : Nat) (s0 : Nat) (s1 : Int32) :
    Q d 234 140 [some (.ref x0), some (.ref x1)] [.int s1, .ref s0] h =
  (ck (gC h s0) 11 <|
  ck (gC h x1) 11 <|
  if gI (sI h 2823 s0 s1) 2823 x1 = (-1) then
   ck (gC h x0) 2 <|
   cK (E d 237 [.ref x0, .int 1] (sI h 2823 s0 s1)) (Q d 234 156 [some (.ref x0), some (.ref x1)]) []
  else
   ck (gC h x0) 2 <|
   cK (E d 288 [.ref x0, .ref 8] (sI h 2823 s0 s1)) (Q d 234 163 [some (.ref x0), some (.ref x1)]) []) := by
  rw [← hs.1]
  exact (blkM (fun p => Nat.beq p 156 || Nat.beq p 163) 9 140 _ _ _).trans rfl

set_option maxRecDepth 16384 in
theorem t_234_156 {d : Nat} {h : AH} (hs : Sh h) (u0 : Option Value) (u1 : Option Value) (s0 : Int32) :
    Q d 234 156 [u0, u1] [.int s0] h =
  if s0 = 0 ∨ s0 = 1 then
   some (some (.int s0), h)
  else
   none := by
  rw [← hs.1]
  exact (blkM (fun p => false) 2 156 _ _ _).trans rfl

set_option maxRecDepth 16384 in
theorem t_234_163 {d : Nat} {h : AH} (hs : Sh h) (x0 : Nat) (x1 : Nat) (s0 : Int32) :
    Q d 234 163 [some (.ref x0), some (.ref x1)] [.int s0] h =
  if s0 = 0 then
   some (some (.int 0), h)
  else
   ck (gC h x0) 2 <|
   cK (E d 280 [.ref x0, .int 0, .int 9] h) (Q d 234 173 [some (.ref x0), some (.ref x1)]) [] := by
  rw [← hs.1]
  exact (blkM (fun p => Nat.beq p 173) 6 163 _ _ _).trans rfl

set_option maxRecDepth 16384 in
theorem t_234_173 {d : Nat} {h : AH} (hs : Sh h) (x0 : Nat) (x1 : Nat) (s0 : Int32) :
    Q d 234 173 [some (.ref x0), some (.ref x1)] [.int s0] h =
  if s0 = 0 then
   some (some (.int 0), h)
  else
   ck (gC h x0) 2 <|
   (gR h 520 x0).bind fun y1 =>
    ck (gC h y1) 12 <|
    ck (gC h x1) 11 <|
    ck (gC h x0) 2 <|
    (gR h 513 x0).bind fun y2 =>
     ck (gC h y2) 1 <|
     cK (E d 273 [.ref y2, .ref x1] (sI h 2824 x1 (gI h 3077 y1))) (Q d 234 197 [some (.ref x0), some (.ref x1)]) [] := by
  rw [← hs.1]
  exact (blkM (fun p => Nat.beq p 197) 11 173 _ _ _).trans rfl

set_option maxRecDepth 16384 in
theorem t_234_197 {d : Nat} {h : AH} (hs : Sh h) (x0 : Nat) (u1 : Option Value) (s0 : Int32) :
    Q d 234 197 [some (.ref x0), u1] [.int s0] h =
  (ck (gC h x0) 2 <|
  cK (E d 282 [.ref x0] h) (Q d 234 202 [some (.ref x0), u1]) []) := by
  rw [← hs.1]
  exact (blkM (fun p => Nat.beq p 202) 4 197 _ _ _).trans rfl

set_option maxRecDepth 16384 in
theorem t_234_202 {d : Nat} {h : AH} (hs : Sh h) (u0 : Option Value) (u1 : Option Value) (s0 : Int32) :
    Q d 234 202 [u0, u1] [.int s0] h =
  if s0 = 0 ∨ s0 = 1 then
   some (some (.int s0), h)
  else
   none := by
  rw [← hs.1]
  exact (blkM (fun p => false) 2 202 _ _ _).trans rfl

/-! 235 PostRoom$Book.readService()Z -/
set_option maxRecDepth 16384 in
theorem t_235 {d : Nat} {h : AH} (hs : Sh h) (x0 : Nat) :
    E (d + 1) 235 [.ref x0] h =
  (ck (gC h x0) 2 <|
  (gR h 514 x0).bind fun y1 =>
   ck (gC h y1) 1 <|
   cK (E d 213 [.ref y1] h) (Q d 235 7 [some (.ref x0), none]) []) := by
  rw [← hs.1]
  exact ent rfl ((blkM (fun p => Nat.beq p 7) 4 0 _ _ _).trans rfl)

set_option maxRecDepth 16384 in
theorem t_235_7 {d : Nat} {h : AH} (hs : Sh h) (x0 : Nat) (u1 : Option Value) (s0 : Int32) :
    Q d 235 7 [some (.ref x0), u1] [.int s0] h =
  if s0 < 8 then
   Q d 235 21 [some (.ref x0), u1] [.ref (gN h)] (nwO h 10 8)
  else
   ck (gC h x0) 2 <|
   cK (E d 237 [.ref x0, .int 5] h) (Q d 235 17 [some (.ref x0), u1]) [] := by
  rw [← hs.1]
  exact (blkM (fun p => Nat.beq p 17 || Nat.beq p 21) 6 7 _ _ _).trans rfl

set_option maxRecDepth 16384 in
theorem t_235_17 {d : Nat} {h : AH} (hs : Sh h) (u0 : Option Value) (u1 : Option Value) (s0 : Int32) :
    Q d 235 17 [u0, u1] [.int s0] h =
  if s0 = 0 ∨ s0 = 1 then
   some (some (.int s0), h)
  else
   none := by
  rw [← hs.1]
  exact (blkM (fun p => false) 2 17 _ _ _).trans rfl

set_option maxRecDepth 16384 in
theorem t_235_21 {d : Nat} {h : AH} (hs : Sh h) (x0 : Nat) (u1 : Option Value) (s0 : Nat) :
    Q d 235 21 [some (.ref x0), u1] [.ref s0] h =
  cK (E d 289 [.ref s0] h) (Q d 235 25 [some (.ref x0), u1]) [.ref s0] := by
  rw [← hs.1]
  exact (blkM (fun p => Nat.beq p 25) 3 21 _ _ _).trans rfl

set_option maxRecDepth 16384 in
theorem t_235_25 {d : Nat} {h : AH} (hs : Sh h) (x0 : Nat) (u1 : Option Value) (s0 : Nat) :
    Q d 235 25 [some (.ref x0), u1] [.ref s0] h =
  (ck (gC h x0) 2 <|
  cK (E d 277 [.ref x0] h) (Q d 235 30 [some (.ref x0), some (.ref s0)]) []) := by
  rw [← hs.1]
  exact (blkM (fun p => Nat.beq p 30) 4 25 _ _ _).trans rfl

set_option maxRecDepth 16384 in
theorem t_235_30 {d : Nat} {h : AH} (hs : Sh h) (x0 : Nat) (x1 : Nat) (s0 : Int32) :
    Q d 235 30 [some (.ref x0), some (.ref x1)] [.int s0] h =
  if s0 = 0 then
   some (some (.int 0), h)
  else
   ck (gC h x0) 2 <|
   (gR h 520 x0).bind fun y1 =>
    ck (gC h y1) 12 <|
    ck (gC h x0) 2 <|
    cK (E d 290 [.ref x0, .long (gL h 3078 y1)] h) (Q d 235 46 [some (.ref x0), some (.ref x1)]) [] := by
  rw [← hs.1]
  exact (blkM (fun p => Nat.beq p 46) 7 30 _ _ _).trans rfl

set_option maxRecDepth 16384 in
theorem t_235_46 {d : Nat} {h : AH} (hs : Sh h) (x0 : Nat) (x1 : Nat) (s0 : Int32) :
    Q d 235 46 [some (.ref x0), some (.ref x1)] [.int s0] h =
  if s0 = 0 then
   ck (gC h x0) 2 <|
   (gR h 520 x0).bind fun y1 =>
    ck (gC h y1) 12 <|
    ck (gC h x1) 10 <|
    ck (gC h x0) 2 <|
    (gR h 520 x0).bind fun y2 =>
     ck (gC h y2) 12 <|
     cK (E d 238 [.ref y2] (sL h 2560 x1 (gL h 3078 y1))) (Q d 235 73 [some (.ref x0), some (.ref x1)]) []
  else
   ck (gC h x0) 2 <|
   cK (E d 237 [.ref x0, .int 3] h) (Q d 235 54 [some (.ref x0), some (.ref x1)]) [] := by
  rw [← hs.1]
  exact (blkM (fun p => Nat.beq p 54 || Nat.beq p 73) 10 46 _ _ _).trans rfl

set_option maxRecDepth 16384 in
theorem t_235_54 {d : Nat} {h : AH} (hs : Sh h) (u0 : Option Value) (u1 : Option Value) (s0 : Int32) :
    Q d 235 54 [u0, u1] [.int s0] h =
  if s0 = 0 ∨ s0 = 1 then
   some (some (.int s0), h)
  else
   none := by
  rw [← hs.1]
  exact (blkM (fun p => false) 2 54 _ _ _).trans rfl

set_option maxRecDepth 16384 in
theorem t_235_73 {d : Nat} {h : AH} (hs : Sh h) (x0 : Nat) (x1 : Nat) :
    Q d 235 73 [some (.ref x0), some (.ref x1)] [] h =
  (ck (gC h x0) 2 <|
  (gR h 520 x0).bind fun y1 =>
   ck (gC h y1) 12 <|
   cK (E d 231 [.ref y1, .ref 9] h) (Q d 235 83 [some (.ref x0), some (.ref x1)]) [.ref x1]) := by
  rw [← hs.1]
  exact (blkM (fun p => Nat.beq p 83) 6 73 _ _ _).trans rfl

set_option maxRecDepth 16384 in
theorem t_235_83 {d : Nat} {h : AH} (hs : Sh h) (x0 : Nat) (x1 : Nat) (s0 : Nat) (s1 : Int32) :
    Q d 235 83 [some (.ref x0), some (.ref x1)] [.int s1, .ref s0] h =
  (ck (gC h s0) 10 <|
  ck (gC h x1) 10 <|
  if gI (sI h 2561 s0 s1) 2561 x1 = (-1) then
   ck (gC h x0) 2 <|
   cK (E d 237 [.ref x0, .int 1] (sI h 2561 s0 s1)) (Q d 235 99 [some (.ref x0), some (.ref x1)]) []
  else
   ck (gC h x0) 2 <|
   cK (E d 288 [.ref x0, .ref 10] (sI h 2561 s0 s1)) (Q d 235 106 [some (.ref x0), some (.ref x1)]) []) := by
  rw [← hs.1]
  exact (blkM (fun p => Nat.beq p 99 || Nat.beq p 106) 9 83 _ _ _).trans rfl

set_option maxRecDepth 16384 in
theorem t_235_99 {d : Nat} {h : AH} (hs : Sh h) (u0 : Option Value) (u1 : Option Value) (s0 : Int32) :
    Q d 235 99 [u0, u1] [.int s0] h =
  if s0 = 0 ∨ s0 = 1 then
   some (some (.int s0), h)
  else
   none := by
  rw [← hs.1]
  exact (blkM (fun p => false) 2 99 _ _ _).trans rfl

set_option maxRecDepth 16384 in
theorem t_235_106 {d : Nat} {h : AH} (hs : Sh h) (x0 : Nat) (x1 : Nat) (s0 : Int32) :
    Q d 235 106 [some (.ref x0), some (.ref x1)] [.int s0] h =
  if s0 = 0 then
   some (some (.int 0), h)
  else
   ck (gC h x0) 2 <|
   cK (E d 280 [.ref x0, .int 1, .int 4000] h) (Q d 235 117 [some (.ref x0), some (.ref x1)]) [] := by
  rw [← hs.1]
  exact (blkM (fun p => Nat.beq p 117) 6 106 _ _ _).trans rfl

set_option maxRecDepth 16384 in
theorem t_235_117 {d : Nat} {h : AH} (hs : Sh h) (x0 : Nat) (x1 : Nat) (s0 : Int32) :
    Q d 235 117 [some (.ref x0), some (.ref x1)] [.int s0] h =
  if s0 = 0 then
   some (some (.int 0), h)
  else
   ck (gC h x0) 2 <|
   (gR h 520 x0).bind fun y1 =>
    ck (gC h y1) 12 <|
    ck (gC h x1) 10 <|
    ck (gC h x0) 2 <|
    (gR h 514 x0).bind fun y2 =>
     ck (gC h y2) 1 <|
     cK (E d 273 [.ref y2, .ref x1] (sI h 2562 x1 (gI h 3077 y1))) (Q d 235 141 [some (.ref x0), some (.ref x1)]) [] := by
  rw [← hs.1]
  exact (blkM (fun p => Nat.beq p 141) 11 117 _ _ _).trans rfl

set_option maxRecDepth 16384 in
theorem t_235_141 {d : Nat} {h : AH} (hs : Sh h) (x0 : Nat) (x1 : Nat) (s0 : Int32) :
    Q d 235 141 [some (.ref x0), some (.ref x1)] [.int s0] h =
  (ck (gC h x0) 2 <|
  cK (E d 291 [.ref x0, .ref x1] h) (Q d 235 147 [some (.ref x0), some (.ref x1)]) []) := by
  rw [← hs.1]
  exact (blkM (fun p => Nat.beq p 147) 5 141 _ _ _).trans rfl

set_option maxRecDepth 16384 in
theorem t_235_147 {d : Nat} {h : AH} (hs : Sh h) (u0 : Option Value) (u1 : Option Value) (s0 : Int32) :
    Q d 235 147 [u0, u1] [.int s0] h =
  if s0 = 0 ∨ s0 = 1 then
   some (some (.int s0), h)
  else
   none := by
  rw [← hs.1]
  exact (blkM (fun p => false) 2 147 _ _ _).trans rfl

/-! 236 PostRoom$Book.readCoach()Z -/
set_option maxRecDepth 16384 in
theorem t_236 {d : Nat} {h : AH} (hs : Sh h) (x0 : Nat) :
    E (d + 1) 236 [.ref x0] h =
  (ck (gC h x0) 2 <|
  (gR h 515 x0).bind fun y1 =>
   ck (gC h y1) 1 <|
   cK (E d 213 [.ref y1] h) (Q d 236 7 [some (.ref x0), none]) []) := by
  rw [← hs.1]
  exact ent rfl ((blkM (fun p => Nat.beq p 7) 4 0 _ _ _).trans rfl)

set_option maxRecDepth 16384 in
theorem t_236_7 {d : Nat} {h : AH} (hs : Sh h) (x0 : Nat) (u1 : Option Value) (s0 : Int32) :
    Q d 236 7 [some (.ref x0), u1] [.int s0] h =
  if s0 < 40 then
   Q d 236 21 [some (.ref x0), u1] [.ref (gN h)] (nwO h 3 8)
  else
   ck (gC h x0) 2 <|
   cK (E d 237 [.ref x0, .int 5] h) (Q d 236 17 [some (.ref x0), u1]) [] := by
  rw [← hs.1]
  exact (blkM (fun p => Nat.beq p 17 || Nat.beq p 21) 6 7 _ _ _).trans rfl

set_option maxRecDepth 16384 in
theorem t_236_17 {d : Nat} {h : AH} (hs : Sh h) (u0 : Option Value) (u1 : Option Value) (s0 : Int32) :
    Q d 236 17 [u0, u1] [.int s0] h =
  if s0 = 0 ∨ s0 = 1 then
   some (some (.int s0), h)
  else
   none := by
  rw [← hs.1]
  exact (blkM (fun p => false) 2 17 _ _ _).trans rfl

set_option maxRecDepth 16384 in
theorem t_236_21 {d : Nat} {h : AH} (hs : Sh h) (x0 : Nat) (u1 : Option Value) (s0 : Nat) :
    Q d 236 21 [some (.ref x0), u1] [.ref s0] h =
  cK (E d 292 [.ref s0] h) (Q d 236 25 [some (.ref x0), u1]) [.ref s0] := by
  rw [← hs.1]
  exact (blkM (fun p => Nat.beq p 25) 3 21 _ _ _).trans rfl

set_option maxRecDepth 16384 in
theorem t_236_25 {d : Nat} {h : AH} (hs : Sh h) (x0 : Nat) (u1 : Option Value) (s0 : Nat) :
    Q d 236 25 [some (.ref x0), u1] [.ref s0] h =
  (ck (gC h x0) 2 <|
  cK (E d 286 [.ref x0] h) (Q d 236 30 [some (.ref x0), some (.ref s0)]) []) := by
  rw [← hs.1]
  exact (blkM (fun p => Nat.beq p 30) 4 25 _ _ _).trans rfl

set_option maxRecDepth 16384 in
theorem t_236_30 {d : Nat} {h : AH} (hs : Sh h) (x0 : Nat) (x1 : Nat) (s0 : Int32) :
    Q d 236 30 [some (.ref x0), some (.ref x1)] [.int s0] h =
  if s0 = 0 then
   some (some (.int 0), h)
  else
   ck (gC h x0) 2 <|
   (gR h 520 x0).bind fun y1 =>
    ck (gC h y1) 12 <|
    ck (gC h x0) 2 <|
    cK (E d 278 [.ref x0, .long (gL h 3078 y1)] h) (Q d 236 47 [some (.ref x0), some (.ref x1)]) [.ref x1] := by
  rw [← hs.1]
  exact (blkM (fun p => Nat.beq p 47) 8 30 _ _ _).trans rfl

set_option maxRecDepth 16384 in
theorem t_236_47 {d : Nat} {h : AH} (hs : Sh h) (x0 : Nat) (x1 : Nat) (s0 : Nat) (s1 : Int32) :
    Q d 236 47 [some (.ref x0), some (.ref x1)] [.int s1, .ref s0] h =
  (ck (gC h s0) 3 <|
  ck (gC h x0) 2 <|
  cK (E d 286 [.ref x0] (sI h 768 s0 s1)) (Q d 236 54 [some (.ref x0), some (.ref x1)]) []) := by
  rw [← hs.1]
  exact (blkM (fun p => Nat.beq p 54) 4 47 _ _ _).trans rfl

set_option maxRecDepth 16384 in
theorem t_236_54 {d : Nat} {h : AH} (hs : Sh h) (x0 : Nat) (x1 : Nat) (s0 : Int32) :
    Q d 236 54 [some (.ref x0), some (.ref x1)] [.int s0] h =
  if s0 = 0 then
   some (some (.int 0), h)
  else
   ck (gC h x0) 2 <|
   (gR h 520 x0).bind fun y1 =>
    ck (gC h y1) 12 <|
    ck (gC h x0) 2 <|
    cK (E d 278 [.ref x0, .long (gL h 3078 y1)] h) (Q d 236 71 [some (.ref x0), some (.ref x1)]) [.ref x1] := by
  rw [← hs.1]
  exact (blkM (fun p => Nat.beq p 71) 8 54 _ _ _).trans rfl

set_option maxRecDepth 16384 in
theorem t_236_71 {d : Nat} {h : AH} (hs : Sh h) (x0 : Nat) (x1 : Nat) (s0 : Nat) (s1 : Int32) :
    Q d 236 71 [some (.ref x0), some (.ref x1)] [.int s1, .ref s0] h =
  (ck (gC h s0) 3 <|
  ck (gC h x1) 3 <|
  ck (gC h x1) 3 <|
  if gI (sI h 769 s0 s1) 769 x1 = gI h 768 x1 then
   ck (gC h x0) 2 <|
   cK (E d 237 [.ref x0, .int 3] (sI h 769 s0 s1)) (Q d 236 90 [some (.ref x0), some (.ref x1)]) []
  else
   ck (gC h x0) 2 <|
   cK (E d 293 [.ref x0, .ref x1] (sI h 769 s0 s1)) (Q d 236 96 [some (.ref x0), some (.ref x1)]) []) := by
  rw [← hs.1]
  exact (blkM (fun p => Nat.beq p 90 || Nat.beq p 96) 10 71 _ _ _).trans rfl

set_option maxRecDepth 16384 in
theorem t_236_90 {d : Nat} {h : AH} (hs : Sh h) (u0 : Option Value) (u1 : Option Value) (s0 : Int32) :
    Q d 236 90 [u0, u1] [.int s0] h =
  if s0 = 0 ∨ s0 = 1 then
   some (some (.int s0), h)
  else
   none := by
  rw [← hs.1]
  exact (blkM (fun p => false) 2 90 _ _ _).trans rfl

set_option maxRecDepth 16384 in
theorem t_236_96 {d : Nat} {h : AH} (hs : Sh h) (x0 : Nat) (x1 : Nat) (s0 : Int32) :
    Q d 236 96 [some (.ref x0), some (.ref x1)] [.int s0] h =
  if s0 = 0 then
   some (some (.int 0), h)
  else
   ck (gC h x0) 2 <|
   cK (E d 288 [.ref x0, .ref 16] h) (Q d 236 106 [some (.ref x0), some (.ref x1)]) [] := by
  rw [← hs.1]
  exact (blkM (fun p => Nat.beq p 106) 5 96 _ _ _).trans rfl

set_option maxRecDepth 16384 in
theorem t_236_106 {d : Nat} {h : AH} (hs : Sh h) (x0 : Nat) (x1 : Nat) (s0 : Int32) :
    Q d 236 106 [some (.ref x0), some (.ref x1)] [.int s0] h =
  if s0 = 0 then
   some (some (.int 0), h)
  else
   ck (gC h x0) 2 <|
   cK (E d 280 [.ref x0, .int 1, .int 3000] h) (Q d 236 117 [some (.ref x0), some (.ref x1)]) [] := by
  rw [← hs.1]
  exact (blkM (fun p => Nat.beq p 117) 6 106 _ _ _).trans rfl

set_option maxRecDepth 16384 in
theorem t_236_117 {d : Nat} {h : AH} (hs : Sh h) (x0 : Nat) (x1 : Nat) (s0 : Int32) :
    Q d 236 117 [some (.ref x0), some (.ref x1)] [.int s0] h =
  if s0 = 0 then
   some (some (.int 0), h)
  else
   ck (gC h x0) 2 <|
   (gR h 520 x0).bind fun y1 =>
    ck (gC h y1) 12 <|
    ck (gC h x1) 3 <|
    ck (gC h x0) 2 <|
    cK (E d 288 [.ref x0, .ref 17] (sI h 773 x1 (gI h 3077 y1))) (Q d 236 140 [some (.ref x0), some (.ref x1)]) [] := by
  rw [← hs.1]
  exact (blkM (fun p => Nat.beq p 140) 10 117 _ _ _).trans rfl

set_option maxRecDepth 16384 in
theorem t_236_140 {d : Nat} {h : AH} (hs : Sh h) (x0 : Nat) (x1 : Nat) (s0 : Int32) :
    Q d 236 140 [some (.ref x0), some (.ref x1)] [.int s0] h =
  if s0 = 0 then
   some (some (.int 0), h)
  else
   ck (gC h x0) 2 <|
   cK (E d 280 [.ref x0, .int 1, .int 20] h) (Q d 236 150 [some (.ref x0), some (.ref x1)]) [] := by
  rw [← hs.1]
  exact (blkM (fun p => Nat.beq p 150) 6 140 _ _ _).trans rfl

set_option maxRecDepth 16384 in
theorem t_236_150 {d : Nat} {h : AH} (hs : Sh h) (x0 : Nat) (x1 : Nat) (s0 : Int32) :
    Q d 236 150 [some (.ref x0), some (.ref x1)] [.int s0] h =
  if s0 = 0 then
   some (some (.int 0), h)
  else
   ck (gC h x0) 2 <|
   (gR h 520 x0).bind fun y1 =>
    ck (gC h y1) 12 <|
    ck (gC h x1) 3 <|
    ck (gC h x0) 2 <|
    (gR h 515 x0).bind fun y2 =>
     ck (gC h y2) 1 <|
     cK (E d 273 [.ref y2, .ref x1] (sI h 774 x1 (gI h 3077 y1))) (Q d 236 174 [some (.ref x0), some (.ref x1)]) [] := by
  rw [← hs.1]
  exact (blkM (fun p => Nat.beq p 174) 11 150 _ _ _).trans rfl

set_option maxRecDepth 16384 in
theorem t_236_174 {d : Nat} {h : AH} (hs : Sh h) (x0 : Nat) (u1 : Option Value) (s0 : Int32) :
    Q d 236 174 [some (.ref x0), u1] [.int s0] h =
  (ck (gC h x0) 2 <|
  cK (E d 282 [.ref x0] h) (Q d 236 179 [some (.ref x0), u1]) []) := by
  rw [← hs.1]
  exact (blkM (fun p => Nat.beq p 179) 4 174 _ _ _).trans rfl

set_option maxRecDepth 16384 in
theorem t_236_179 {d : Nat} {h : AH} (hs : Sh h) (u0 : Option Value) (u1 : Option Value) (s0 : Int32) :
    Q d 236 179 [u0, u1] [.int s0] h =
  if s0 = 0 ∨ s0 = 1 then
   some (some (.int s0), h)
  else
   none := by
  rw [← hs.1]
  exact (blkM (fun p => false) 2 179 _ _ _).trans rfl

/-! 237 PostRoom$Book.fails(I)Z -/
set_option maxRecDepth 16384 in
theorem t_237 {d : Nat} {h : AH} (hs : Sh h) (x0 : Nat) (x1 : Int32) :
    E (d + 1) 237 [.ref x0, .int x1] h =
  (ck (gC h x0) 2 <|
  (gR h 520 x0).bind fun y1 =>
   ck (gC h y1) 12 <|
   ck (gC h x0) 2 <|
   some (some (.int 0), sI h 519 x0 (x1 + (16 * (gI h 3074 y1))))) := by
  rw [← hs.1]
  exact ent rfl ((blkM (fun p => false) 12 0 _ _ _).trans rfl)

/-! 238 PostRoom$Tape.advance()V -/
set_option maxRecDepth 16384 in
theorem t_238 {d : Nat} {h : AH} (hs : Sh h)  :
    E (d + 1) 238 [.ref 101] h =
  Q d 238 5 [some (.ref 101), some (.int (gI h 3075 101)), none, none, none] [] h := by
  rw [← hs.1]
  exact ent rfl ((blkM (fun p => Nat.beq p 5) 5 0 _ _ _).trans rfl)

set_option maxRecDepth 16384 in
theorem t_238_5 {d : Nat} {h : AH} (hs : Sh h) (x1 : Int32) :
    Q d 238 5 [some (.ref 101), some (.int x1), none, none, none] [] h =
  if x1 < gI h 3073 101 then
   gd x1 4000 <|
   if gA h 102 (ix x1) = 32 then
    Q d 238 5 [some (.ref 101), some (.int (x1 + 1)), none, none, none] [] h
   else
    gd x1 4000 <|
    if gA h 102 (ix x1) = 10 then
     Q d 238 5 [some (.ref 101), some (.int (x1 + 1)), none, none, none] [] h
    else
     if x1 < gI h 3073 101 then
      gd x1 4000 <|
      cK (E d 294 [.int (gA h 102 (ix x1))] (sL (sI (sI h 3074 101 x1) 3077 101 0) 3078 101 0)) (Q d 238 73 [some (.ref 101), some (.int x1), none, none, none]) []
     else
      if (0 : Int32) = 0 then
       Q d 238 95 [some (.ref 101), some (.int x1), some (.int 0), some (.int 1), none] [] (sL (sI (sI h 3074 101 x1) 3077 101 0) 3078 101 0)
      else
       Q d 238 95 [some (.ref 101), some (.int x1), some (.int 0), some (.int 27), none] [] (sL (sI (sI h 3074 101 x1) 3077 101 0) 3078 101 0)
  else
   if x1 < gI h 3073 101 then
    gd x1 4000 <|
    cK (E d 294 [.int (gA h 102 (ix x1))] (sL (sI (sI h 3074 101 x1) 3077 101 0) 3078 101 0)) (Q d 238 73 [some (.ref 101), some (.int x1), none, none, none]) []
   else
    if (0 : Int32) = 0 then
     Q d 238 95 [some (.ref 101), some (.int x1), some (.int 0), some (.int 1), none] [] (sL (sI (sI h 3074 101 x1) 3077 101 0) 3078 101 0)
    else
     Q d 238 95 [some (.ref 101), some (.int x1), some (.int 0), some (.int 27), none] [] (sL (sI (sI h 3074 101 x1) 3077 101 0) 3078 101 0) := by
  rw [← hs.1]
  exact (blkM (fun p => Nat.beq p 5 || Nat.beq p 73 || Nat.beq p 95) 38 5 _ _ _).trans rfl

set_option maxRecDepth 16384 in
theorem t_238_73 {d : Nat} {h : AH} (hs : Sh h) (x1 : Int32) (u2 : Option Value) (u3 : Option Value) (u4 : Option Value) (s0 : Int32) :
    Q d 238 73 [some (.ref 101), some (.int x1), u2, u3, u4] [.int s0] h =
  if s0 < 27 then
   if (0 : Int32) = 0 then
    Q d 238 95 [some (.ref 101), some (.int x1), some (.int 0), some (.int 1), none] [] h
   else
    Q d 238 95 [some (.ref 101), some (.int x1), some (.int 0), some (.int 27), none] [] h
  else
   if (1 : Int32) = 0 then
    Q d 238 95 [some (.ref 101), some (.int x1), some (.int 1), some (.int 1), none] [] h
   else
    Q d 238 95 [some (.ref 101), some (.int x1), some (.int 1), some (.int 27), none] [] h := by
  rw [← hs.1]
  exact (blkM (fun p => Nat.beq p 95) 12 73 _ _ _).trans rfl

set_option maxRecDepth 16384 in
theorem t_238_95 {d : Nat} {h : AH} (hs : Sh h) (x1 : Int32) (x2 : Int32) (x3 : Int32) :
    Q d 238 95 [some (.ref 101), some (.int x1), some (.int x2), some (.int x3), none] [] h =
  if x1 < gI h 3073 101 then
   gd x1 4000 <|
   cK (E d 294 [.int (gA h 102 (ix x1))] h) (Q d 238 112 [some (.ref 101), some (.int x1), some (.int x2), some (.int x3), none]) []
  else
   if gI h 3074 101 < gI h 3073 101 then
    if x1 = gI h 3074 101 then
     gd (gI h 3074 101) 4000 <|
     cK (E d 295 [.ref 0, .int (gA h 102 (ix (gI h 3074 101)))] (sI h 3075 101 x1)) (Q d 238 224 [some (.ref 101), some (.int x1), some (.int x2), none, none]) [.ref 101]
    else
     if x2 = 0 then
      if (12 : Int32) < x1 - (gI h 3074 101) then
       some (none, sI (sI h 3075 101 x1) 3076 101 1)
      else
       some (none, sI (sI h 3075 101 x1) 3076 101 2)
     else
      if (9 : Int32) < x1 - (gI h 3074 101) then
       some (none, sI (sI h 3075 101 x1) 3076 101 1)
      else
       some (none, sI (sI h 3075 101 x1) 3076 101 3)
   else
    some (none, sI (sI h 3075 101 x1) 3076 101 0) := by
  rw [← hs.1]
  exact (blkM (fun p => Nat.beq p 112 || Nat.beq p 224) 33 95 _ _ _).trans rfl

set_option maxRecDepth 16384 in
theorem t_238_112 {d : Nat} {h : AH} (hs : Sh h) (x1 : Int32) (x2 : Int32) (x3 : Int32) (u4 : Option Value) (s0 : Int32) :
    Q d 238 112 [some (.ref 101), some (.int x1), some (.int x2), some (.int x3), u4] [.int s0] h =
  if s0 < x3 then
   if gI h 3074 101 < gI h 3073 101 then
    if x1 = gI h 3074 101 then
     gd (gI h 3074 101) 4000 <|
     cK (E d 295 [.ref 0, .int (gA h 102 (ix (gI h 3074 101)))] (sI h 3075 101 x1)) (Q d 238 224 [some (.ref 101), some (.int x1), some (.int x2), none, none]) [.ref 101]
    else
     if x2 = 0 then
      if (12 : Int32) < x1 - (gI h 3074 101) then
       some (none, sI (sI h 3075 101 x1) 3076 101 1)
      else
       some (none, sI (sI h 3075 101 x1) 3076 101 2)
     else
      if (9 : Int32) < x1 - (gI h 3074 101) then
       some (none, sI (sI h 3075 101 x1) 3076 101 1)
      else
       some (none, sI (sI h 3075 101 x1) 3076 101 3)
   else
    some (none, sI (sI h 3075 101 x1) 3076 101 0)
  else
   gd x1 4000 <|
   cK (E d 294 [.int (gA h 102 (ix x1))] h) (Q d 238 125 [some (.ref 101), some (.int x1), some (.int x2), some (.int x3), u4]) [] := by
  rw [← hs.1]
  exact (blkM (fun p => Nat.beq p 125 || Nat.beq p 224) 31 112 _ _ _).trans rfl

set_option maxRecDepth 16384 in
theorem t_238_224 {d : Nat} {h : AH} (hs : Sh h) (u1 : Option Value) (u2 : Option Value) (u3 : Option Value) (u4 : Option Value) (s0 : Nat) (s1 : Int32) :
    Q d 238 224 [some (.ref 101), u1, u2, u3, u4] [.int s1, .ref s0] h =
  if s1 < 0 then
   ck (gC h s0) 12 <|
   some (none, sI (sI h 3076 s0 1) 3075 101 ((gI h 3074 101) + 1))
  else
   gd (gI h 3074 101) 4000 <|
   ck (gC h s0) 12 <|
   some (none, sI (sI h 3076 s0 (gA h 102 (ix (gI h 3074 101)))) 3075 101 ((gI h 3074 101) + 1)) := by
  rw [← hs.1]
  exact (blkM (fun p => false) 17 224 _ _ _).trans rfl

set_option maxRecDepth 16384 in
theorem t_238_125 {d : Nat} {h : AH} (hs : Sh h) (x1 : Int32) (x2 : Int32) (x3 : Int32) (u4 : Option Value) (s0 : Int32) :
    Q d 238 125 [some (.ref 101), some (.int x1), some (.int x2), some (.int x3), u4] [.int s0] h =
  if x2 = 0 then
   Q d 238 95 [some (.ref 101), some (.int (x1 + 1)), some (.int x2), some (.int x3), none] [] (sL (sI h 3077 101 0) 3078 101 (((gL h 3078 101) * 37) + s0.toInt64))
  else
   Q d 238 95 [some (.ref 101), some (.int (x1 + 1)), some (.int x2), some (.int x3), none] [] (sL (sI h 3077 101 ((((gI h 3077 101) * 10) + s0) - 27)) 3078 101 (((gL h 3078 101) * 37) + s0.toInt64)) := by
  rw [← hs.1]
  exact (blkM (fun p => Nat.beq p 95) 27 125 _ _ _).trans rfl

/-! 239 java/util/ArrayList.clear()V -/
set_option maxRecDepth 16384 in
theorem t_239 {d : Nat} {h : AH} (hs : Sh h) (x0 : Nat) :
    E (d + 1) 239 [.ref x0] h =
  (ck (gC h x0) 1 <|
  ck (gC h x0) 1 <|
  ck (gC h x0) 1 <|
  (gR h 257 x0).bind fun y1 =>
   ck (gC h x0) 1 <|
   ck (gC h x0) 1 <|
   Q d 239 27 [none, some (.ref y1), some (.int (gI h 258 x0)), some (.int 0)] [] (sI (sI h 256 x0 ((gI h 256 x0) + 1)) 258 x0 0)) := by
  rw [← hs.1]
  exact ent rfl ((blkM (fun p => Nat.beq p 27) 19 0 _ _ _).trans rfl)

set_option maxRecDepth 16384 in
theorem t_239_27 {d : Nat} {h : AH} (hs : Sh h) (x1 : Nat) (x2 : Int32) (x3 : Int32) :
    Q d 239 27 [none, some (.ref x1), some (.int x2), some (.int x3)] [] h =
  if x3 < x2 then
   cw (gC h x1) 65 x1 <|
   gd x3 (gK h x1) <|
   Q d 239 27 [none, some (.ref x1), some (.int x2), some (.int (x3 + 1))] [] (sO h x1 (ix x3) none)
  else
   some (none, h) := by
  rw [← hs.1]
  exact (blkM (fun p => Nat.beq p 27) 11 27 _ _ _).trans rfl

/-! 240 java/util/Arrays.fill([JJ)V -/
set_option maxRecDepth 16384 in
theorem t_240 {d : Nat} {h : AH} (hs : Sh h) (x0 : Nat) (x1 : Int64) :
    E (d + 1) 240 [.ref x0, .long x1] h =
  if 60 ≤ gC h x0 ∧ gC h x0 ≤ 66 then
   Q d 240 6 [some (.ref x0), some (.long x1), none, some (.int 0), some (.int (nI (gK h x0)))] [] h
  else
   none := by
  rw [← hs.1]
  exact ent rfl ((blkM (fun p => Nat.beq p 6) 7 0 _ _ _).trans rfl)

set_option maxRecDepth 16384 in
theorem t_240_6 {d : Nat} {h : AH} (hs : Sh h) (x0 : Nat) (x1 : Int64) (x3 : Int32) (x4 : Int32) :
    Q d 240 6 [some (.ref x0), some (.long x1), none, some (.int x3), some (.int x4)] [] h =
  if x3 < x4 then
   cw (gC h x0) 61 x0 <|
   gd x3 (gK h x0) <|
   Q d 240 6 [some (.ref x0), some (.long x1), none, some (.int (x3 + 1)), some (.int x4)] [] (sB h x0 (ix x3) x1)
  else
   some (none, h) := by
  rw [← hs.1]
  exact (blkM (fun p => Nat.beq p 6) 11 6 _ _ _).trans rfl

/-! 241 java/util/Arrays.fill([II)V -/
set_option maxRecDepth 16384 in
theorem t_241 {d : Nat} {h : AH} (hs : Sh h) (x0 : Nat) (x1 : Int32) :
    E (d + 1) 241 [.ref x0, .int x1] h =
  if 60 ≤ gC h x0 ∧ gC h x0 ≤ 66 then
   Q d 241 5 [some (.ref x0), some (.int x1), some (.int 0), some (.int (nI (gK h x0)))] [] h
  else
   none := by
  rw [← hs.1]
  exact ent rfl ((blkM (fun p => Nat.beq p 5) 7 0 _ _ _).trans rfl)

set_option maxRecDepth 16384 in
theorem t_241_5 {d : Nat} {h : AH} (hs : Sh h) (x0 : Nat) (x1 : Int32) (x2 : Int32) (x3 : Int32) :
    Q d 241 5 [some (.ref x0), some (.int x1), some (.int x2), some (.int x3)] [] h =
  if x2 < x3 then
   cw (gC h x0) 60 x0 <|
   gd x2 (gK h x0) <|
   Q d 241 5 [some (.ref x0), some (.int x1), some (.int (x2 + 1)), some (.int x3)] [] (sA h x0 (ix x2) x1)
  else
   some (none, h) := by
  rw [← hs.1]
  exact (blkM (fun p => Nat.beq p 5) 11 5 _ _ _).trans rfl

/-! 242 PostRoom$Finder.readWords(LPostRoom$Tape;LPostRoom$Book;)V -/
set_option maxRecDepth 16384 in
theorem t_242 {d : Nat} {h : AH} (hs : Sh h) (x1 : Nat) (x2 : Nat) :
    E (d + 1) 242 [.ref 103, .ref x1, .ref x2] h =
  Q d 242 10 [some (.ref 103), some (.ref x1), some (.ref x2), some (.int 0), some (.int 0)] [] (sI h 1028 103 0) := by
  rw [← hs.1]
  exact ent rfl ((blkM (fun p => Nat.beq p 10) 9 0 _ _ _).trans rfl)

set_option maxRecDepth 16384 in
theorem t_242_10 {d : Nat} {h : AH} (hs : Sh h) (x1 : Nat) (x2 : Nat) (x3 : Int32) (x4 : Int32) :
    Q d 242 10 [some (.ref 103), some (.ref x1), some (.ref x2), some (.int x3), some (.int x4)] [] h =
  (ck (gC h x1) 12 <|
  if gI h 3073 x1 < x4 then
   some (none, h)
  else
   ck (gC h x1) 12 <|
   if x4 = gI h 3073 x1 then
    if x3 < x4 then
     if gI h 1028 103 < 41 then
      cK (E d 297 [.ref 103, .ref x1, .int x3, .int x4, .ref x2] h) (Q d 242 65 [some (.ref 103), some (.ref x1), some (.ref x2), none, some (.int x4)]) []
     else
      Q d 242 65 [some (.ref 103), some (.ref x1), some (.ref x2), none, some (.int x4)] [] h
    else
     Q d 242 65 [some (.ref 103), some (.ref x1), some (.ref x2), none, some (.int x4)] [] h
   else
    ck (gC h x1) 12 <|
    (gR h 3072 x1).bind fun y1 =>
     ck (gC h y1) 62 <|
     gd x4 (gK h y1) <|
     cK (E d 296 [.int (gA h y1 (ix x4))] h) (Q d 242 38 [some (.ref 103), some (.ref x1), some (.ref x2), some (.int x3), some (.int x4)]) []) := by
  rw [← hs.1]
  exact (blkM (fun p => Nat.beq p 38 || Nat.beq p 65) 22 10 _ _ _).trans rfl

set_option maxRecDepth 16384 in
theorem t_242_38 {d : Nat} {h : AH} (hs : Sh h) (x1 : Nat) (x2 : Nat) (x3 : Int32) (x4 : Int32) (s0 : Int32) :
    Q d 242 38 [some (.ref 103), some (.ref x1), some (.ref x2), some (.int x3), some (.int x4)] [.int s0] h =
  if s0 = 0 then
   if x3 < x4 then
    if gI h 1028 103 < 41 then
     cK (E d 297 [.ref 103, .ref x1, .int x3, .int x4, .ref x2] h) (Q d 242 65 [some (.ref 103), some (.ref x1), some (.ref x2), none, some (.int x4)]) []
    else
     Q d 242 65 [some (.ref 103), some (.ref x1), some (.ref x2), none, some (.int x4)] [] h
   else
    Q d 242 65 [some (.ref 103), some (.ref x1), some (.ref x2), none, some (.int x4)] [] h
  else
   Q d 242 10 [some (.ref 103), some (.ref x1), some (.ref x2), some (.int x3), some (.int (x4 + 1))] [] h := by
  rw [← hs.1]
  exact (blkM (fun p => Nat.beq p 10 || Nat.beq p 65) 15 38 _ _ _).trans rfl

set_option maxRecDepth 16384 in
theorem t_242_65 {d : Nat} {h : AH} (hs : Sh h) (x1 : Nat) (x2 : Nat) (x4 : Int32) :
    Q d 242 65 [some (.ref 103), some (.ref x1), some (.ref x2), none, some (.int x4)] [] h =
  Q d 242 10 [some (.ref 103), some (.ref x1), some (.ref x2), some (.int (x4 + 1)), some (.int (x4 + 1))] [] h := by
  rw [← hs.1]
  exact (blkM (fun p => Nat.beq p 10) 8 65 _ _ _).trans rfl

/-! 243 PostRoom$Finder.readDoor()Z -/
set_option maxRecDepth 16384 in
theorem t_243 {d : Nat} {h : AH} (hs : Sh h)  :
    E (d + 1) 243 [.ref 103] h =
  Q d 243 9 [some (.ref 103), some (.int 0), some (.int (gA h 105 0)), none] [] h := by
  rw [← hs.1]
  exact ent rfl ((blkM (fun p => Nat.beq p 9) 9 0 _ _ _).trans rfl)

set_option maxRecDepth 16384 in
theorem t_243_9 {d : Nat} {h : AH} (hs : Sh h) (x1 : Int32) (x2 : Int32) :
    Q d 243 9 [some (.ref 103), some (.int x1), some (.int x2), none] [] h =
  if x2 < gA h 106 0 then
   if x2 < (gA h 105 0) + 3 then
    gd x2 613 <|
    if gA h 104 (ix x2) < 27 then
     Q d 243 63 [some (.ref 103), some (.int x1), some (.int x2), none] [] h
    else
     gd x2 613 <|
     Q d 243 9 [some (.ref 103), some (.int (((x1 * 10) + (gA h 104 (ix x2))) - 27)), some (.int (x2 + 1)), none] [] h
   else
    Q d 243 63 [some (.ref 103), some (.int x1), some (.int x2), none] [] h
  else
   Q d 243 63 [some (.ref 103), some (.int x1), some (.int x2), none] [] h := by
  rw [← hs.1]
  exact (blkM (fun p => Nat.beq p 9 || Nat.beq p 63) 35 9 _ _ _).trans rfl

set_option maxRecDepth 16384 in
theorem t_243_63 {d : Nat} {h : AH} (hs : Sh h) (x1 : Int32) (x2 : Int32) :
    Q d 243 63 [some (.ref 103), some (.int x1), some (.int x2), none] [] h =
  if x2 = gA h 105 0 then
   Q d 243 89 [none, none, none, none] [] h
  else
   gd (gA h 105 0) 613 <|
   if gA h 104 (ix (gA h 105 0)) = 27 then
    Q d 243 89 [none, none, none, none] [] h
   else
    if x2 < gA h 106 0 then
     gd x2 613 <|
     if gA h 104 (ix x2) < 27 then
      gd x2 613 <|
      Q d 243 124 [some (.ref 103), some (.int x1), some (.int (x2 + 1)), some (.int (gA h 104 (ix x2)))] [] h
     else
      Q d 243 124 [some (.ref 103), some (.int x1), some (.int x2), some (.int 0)] [] h
    else
     Q d 243 124 [some (.ref 103), some (.int x1), some (.int x2), some (.int 0)] [] h := by
  rw [← hs.1]
  exact (blkM (fun p => Nat.beq p 89 || Nat.beq p 124) 37 63 _ _ _).trans rfl

set_option maxRecDepth 16384 in
theorem t_243_89 {d : Nat} {h : AH} (hs : Sh h)  :
    Q d 243 89 [none, none, none, none] [] h =
  some (some (.int 0), h) := by
  rw [← hs.1]
  exact (blkM (fun p => false) 3 89 _ _ _).trans rfl

set_option maxRecDepth 16384 in
theorem t_243_124 {d : Nat} {h : AH} (hs : Sh h) (x1 : Int32) (x2 : Int32) (x3 : Int32) :
    Q d 243 124 [some (.ref 103), some (.int x1), some (.int x2), some (.int x3)] [] h =
  if x2 = gA h 106 0 then
   some (some (.int 1), sI h 1030 103 ((27 * x1) + x3))
  else
   some (some (.int 0), sI h 1030 103 ((27 * x1) + x3)) := by
  rw [← hs.1]
  exact (blkM (fun p => false) 17 124 _ _ _).trans rfl

/-! 244 PostRoom$Finder.findCode()I -/
set_option maxRecDepth 16384 in
theorem t_244 {d : Nat} {h : AH} (hs : Sh h)  :
    E (d + 1) 244 [.ref 103] h =
  Q d 244 2 [some (.ref 103), some (.int 2), none] [] h := by
  rw [← hs.1]
  exact ent rfl ((blkM (fun p => Nat.beq p 2) 4 0 _ _ _).trans rfl)

set_option maxRecDepth 16384 in
theorem t_244_2 {d : Nat} {h : AH} (hs : Sh h) (x1 : Int32) :
    Q d 244 2 [some (.ref 103), some (.int x1), none] [] h =
  if x1 < gI h 1028 103 then
   gd x1 41 <|
   gd x1 41 <|
   if (gA h 106 (ix x1)) - (gA h 105 (ix x1)) = 3 then
    gd (gA h 105 (ix x1)) 613 <|
    if gA h 104 (ix (gA h 105 (ix x1))) < 27 then
     Q d 244 2 [some (.ref 103), some (.int (x1 + 1)), none] [] h
    else
     gd ((gA h 105 (ix x1)) + 1) 613 <|
     if gA h 104 (ix ((gA h 105 (ix x1)) + 1)) < 27 then
      Q d 244 2 [some (.ref 103), some (.int (x1 + 1)), none] [] h
     else
      gd ((gA h 105 (ix x1)) + 2) 613 <|
      if gA h 104 (ix ((gA h 105 (ix x1)) + 2)) < 27 then
       Q d 244 2 [some (.ref 103), some (.int (x1 + 1)), none] [] h
      else
       some (some (.int x1), h)
   else
    Q d 244 2 [some (.ref 103), some (.int (x1 + 1)), none] [] h
  else
   some (some (.int (-1)), h) := by
  rw [← hs.1]
  exact (blkM (fun p => Nat.beq p 2) 43 2 _ _ _).trans rfl

/-! 245 PostRoom$Finder.nearest(LPostRoom$Book;)I -/
set_option maxRecDepth 16384 in
theorem t_245 {d : Nat} {h : AH} (hs : Sh h) (x1 : Nat) :
    E (d + 1) 245 [.ref 103, .ref x1] h =
  Q d 245 10 [some (.ref 103), some (.ref x1), some (.int (-1)), some (.int 4), some (.int 0), some (.int 0), none, none] [] h := by
  rw [← hs.1]
  exact ent rfl ((blkM (fun p => Nat.beq p 10) 10 0 _ _ _).trans rfl)

set_option maxRecDepth 16384 in
theorem t_245_10 {d : Nat} {h : AH} (hs : Sh h) (x1 : Nat) (x2 : Int32) (x3 : Int32) (x4 : Int32) (x5 : Int32) :
    Q d 245 10 [some (.ref 103), some (.ref x1), some (.int x2), some (.int x3), some (.int x4), some (.int x5), none, none] [] h =
  (ck (gC h x1) 2 <|
  (gR h 513 x1).bind fun y1 =>
   ck (gC h y1) 1 <|
   cK (E d 213 [.ref y1] h) (Q d 245 19 [some (.ref 103), some (.ref x1), some (.int x2), some (.int x3), some (.int x4), some (.int x5), none, none]) [.int x5]) := by
  rw [← hs.1]
  exact (blkM (fun p => Nat.beq p 19) 5 10 _ _ _).trans rfl

set_option maxRecDepth 16384 in
theorem t_245_19 {d : Nat} {h : AH} (hs : Sh h) (x1 : Nat) (x2 : Int32) (x3 : Int32) (x4 : Int32) (x5 : Int32) (u6 : Option Value) (u7 : Option Value) (s0 : Int32) (s1 : Int32) :
    Q d 245 19 [some (.ref 103), some (.ref x1), some (.int x2), some (.int x3), some (.int x4), some (.int x5), u6, u7] [.int s1, .int s0] h =
  if s0 < s1 then
   ck (gC h x1) 2 <|
   (gR h 513 x1).bind fun y1 =>
    ck (gC h y1) 1 <|
    cK (E d 212 [.ref y1, .int x5] h) (Q d 245 31 [some (.ref 103), some (.ref x1), some (.int x2), some (.int x3), some (.int x4), some (.int x5), u6, u7]) []
  else
   if x2 = (-1) then
    some (some (.int x2), sI h 1031 103 x3)
   else
    if x4 = 0 then
     some (some (.int x2), sI h 1031 103 x3)
    else
     some (some (.int (-2)), sI h 1031 103 x3) := by
  rw [← hs.1]
  exact (blkM (fun p => Nat.beq p 31) 13 19 _ _ _).trans rfl

set_option maxRecDepth 16384 in
theorem t_245_31 {d : Nat} {h : AH} (hs : Sh h) (x1 : Nat) (x2 : Int32) (x3 : Int32) (x4 : Int32) (x5 : Int32) (u6 : Option Value) (u7 : Option Value) (s0 : Nat) :
    Q d 245 31 [some (.ref 103), some (.ref x1), some (.int x2), some (.int x3), some (.int x4), some (.int x5), u6, u7] [.ref s0] h =
  (ck (gC h s0) 11 <|
  ck (gC h s0) 11 <|
  cK (E d 298 [.ref s0, .int ((gI h 1030 103) / 27)] h) (Q d 245 48 [some (.ref 103), some (.ref x1), some (.int x2), some (.int x3), some (.int x4), some (.int x5), some (.ref s0), u7]) []) := by
  rw [← hs.1]
  exact (blkM (fun p => Nat.beq p 48) 9 31 _ _ _).trans rfl

set_option maxRecDepth 16384 in
theorem t_245_48 {d : Nat} {h : AH} (hs : Sh h) (x1 : Nat) (x2 : Int32) (x3 : Int32) (x4 : Int32) (x5 : Int32) (x6 : Nat) (u7 : Option Value) (s0 : Int32) :
    Q d 245 48 [some (.ref 103), some (.ref x1), some (.int x2), some (.int x3), some (.int x4), some (.int x5), some (.ref x6), u7] [.int s0] h =
  if s0 = 0 then
   Q d 245 10 [some (.ref 103), some (.ref x1), some (.int x2), some (.int x3), some (.int x4), some (.int (x5 + 1)), none, none] [] h
  else
   ck (gC h x1) 2 <|
   (gR h 512 x1).bind fun y1 =>
    ck (gC h x6) 11 <|
    ck (gC h y1) 1 <|
    cK (E d 212 [.ref y1, .int (gI h 2817 x6)] h) (Q d 245 66 [some (.ref 103), some (.ref x1), some (.int x2), some (.int x3), some (.int x4), some (.int x5), some (.ref x6), u7]) [.ref x6, .ref 103] := by
  rw [← hs.1]
  exact (blkM (fun p => Nat.beq p 10 || Nat.beq p 66) 9 48 _ _ _).trans rfl

set_option maxRecDepth 16384 in
theorem t_245_66 {d : Nat} {h : AH} (hs : Sh h) (x1 : Nat) (x2 : Int32) (x3 : Int32) (x4 : Int32) (x5 : Int32) (u6 : Option Value) (u7 : Option Value) (s0 : Nat) (s1 : Nat) (s2 : Nat) :
    Q d 245 66 [some (.ref 103), some (.ref x1), some (.int x2), some (.int x3), some (.int x4), some (.int x5), u6, u7] [.ref s2, .ref s1, .ref s0] h =
  (ck (gC h s2) 7 <|
  ck (gC h s0) 4 <|
  cK (E d 299 [.ref s0, .ref s1, .ref s2] h) (Q d 245 72 [some (.ref 103), some (.ref x1), some (.int x2), some (.int x3), some (.int x4), some (.int x5), u6, u7]) []) := by
  rw [← hs.1]
  exact (blkM (fun p => Nat.beq p 72) 3 66 _ _ _).trans rfl

set_option maxRecDepth 16384 in
theorem t_245_72 {d : Nat} {h : AH} (hs : Sh h) (x1 : Nat) (x2 : Int32) (x3 : Int32) (x4 : Int32) (x5 : Int32) (u6 : Option Value) (u7 : Option Value) (s0 : Int32) :
    Q d 245 72 [some (.ref 103), some (.ref x1), some (.int x2), some (.int x3), some (.int x4), some (.int x5), u6, u7] [.int s0] h =
  if s0 < x3 then
   Q d 245 10 [some (.ref 103), some (.ref x1), some (.int x5), some (.int s0), some (.int 0), some (.int (x5 + 1)), none, none] [] h
  else
   if s0 = x3 then
    Q d 245 10 [some (.ref 103), some (.ref x1), some (.int x2), some (.int x3), some (.int 1), some (.int (x5 + 1)), none, none] [] h
   else
    Q d 245 10 [some (.ref 103), some (.ref x1), some (.int x2), some (.int x3), some (.int x4), some (.int (x5 + 1)), none, none] [] h := by
  rw [← hs.1]
  exact (blkM (fun p => Nat.beq p 10) 15 72 _ _ _).trans rfl

/-! 246 PostRoom$Item.solve([I[II[[I)Z -/
set_option maxRecDepth 16384 in
theorem t_246 {d : Nat} {h : AH} (hs : Sh h) (x0 : Nat) (x1 : Nat) (x2 : Int32) (x3 : Nat) :
    E (d + 1) 246 [.ref x0, .ref x1, .int x2, .ref x3] h =
  Q d 246 3 [some (.ref x0), some (.ref x1), some (.int x2), some (.ref x3), some (.int 0), none] [] h := by
  rw [← hs.1]
  exact ent rfl ((blkM (fun p => Nat.beq p 3) 4 0 _ _ _).trans rfl)

set_option maxRecDepth 16384 in
theorem t_246_3 {d : Nat} {h : AH} (hs : Sh h) (x0 : Nat) (x1 : Nat) (x2 : Int32) (x3 : Nat) (x4 : Int32) :
    Q d 246 3 [some (.ref x0), some (.ref x1), some (.int x2), some (.ref x3), some (.int x4), none] [] h =
  if x4 < 4 then
   Q d 246 12 [some (.ref x0), some (.ref x1), some (.int x2), some (.ref x3), some (.int x4), some (.int 0)] [] h
  else
   Q d 246 77 [some (.ref x0), some (.ref x1), some (.int x2), some (.ref x3), some (.int 0), none] [] h := by
  rw [← hs.1]
  exact (blkM (fun p => Nat.beq p 12 || Nat.beq p 77) 7 3 _ _ _).trans rfl

set_option maxRecDepth 16384 in
theorem t_246_12 {d : Nat} {h : AH} (hs : Sh h) (x0 : Nat) (x1 : Nat) (x2 : Int32) (x3 : Nat) (x4 : Int32) (x5 : Int32) :
    Q d 246 12 [some (.ref x0), some (.ref x1), some (.int x2), some (.ref x3), some (.int x4), some (.int x5)] [] h =
  if x5 < x2 then
   ck (gC h x3) 66 <|
   gd x4 (gK h x3) <|
   (gO h x3 (ix x4)).bind fun y1 =>
    ck (gC h x1) 60 <|
    gd x5 (gK h x1) <|
    gd (((x4 + 1) * (10 - (gA h x1 (ix x5)))) - ((x4 + 1) * (10 - (gA h x1 (ix x5)))) / 63 * 63) 63 <|
    cw (gC h y1) 60 y1 <|
    gd x5 (gK h y1) <|
    Q d 246 12 [some (.ref x0), some (.ref x1), some (.int x2), some (.ref x3), some (.int x4), some (.int (x5 + 1))] [] (sA h y1 (ix x5) (gA h 60 (ix (((x4 + 1) * (10 - (gA h x1 (ix x5)))) - ((x4 + 1) * (10 - (gA h x1 (ix x5)))) / 63 * 63))))
  else
   ck (gC h x3) 66 <|
   gd x4 (gK h x3) <|
   (gO h x3 (ix x4)).bind fun y2 =>
    gd (x4 + 1) 63 <|
    cK (E d 300 [.ref x0, .int (gA h 60 (ix (x4 + 1)))] h) (Q d 246 67 [some (.ref x0), some (.ref x1), some (.int x2), some (.ref x3), some (.int x4), some (.int x5)]) [.int x2, .ref y2] := by
  rw [← hs.1]
  exact (blkM (fun p => Nat.beq p 12 || Nat.beq p 67) 25 12 _ _ _).trans rfl

set_option maxRecDepth 16384 in
theorem t_246_77 {d : Nat} {h : AH} (hs : Sh h) (x0 : Nat) (x1 : Nat) (x2 : Int32) (x3 : Nat) (x4 : Int32) :
    Q d 246 77 [some (.ref x0), some (.ref x1), some (.int x2), some (.ref x3), some (.int x4), none] [] h =
  if x4 < x2 then
   cK (E d 301 [.ref x3, .int x4, .int x2] h) (Q d 246 90 [some (.ref x0), some (.ref x1), some (.int x2), some (.ref x3), some (.int x4), none]) []
  else
   Q d 246 104 [some (.ref x0), some (.ref x1), some (.int x2), some (.ref x3), some (.int x2), none] [] h := by
  rw [← hs.1]
  exact (blkM (fun p => Nat.beq p 90 || Nat.beq p 104) 8 77 _ _ _).trans rfl

set_option maxRecDepth 16384 in
theorem t_246_67 {d : Nat} {h : AH} (hs : Sh h) (x0 : Nat) (x1 : Nat) (x2 : Int32) (x3 : Nat) (x4 : Int32) (u5 : Option Value) (s0 : Nat) (s1 : Int32) (s2 : Int32) :
    Q d 246 67 [some (.ref x0), some (.ref x1), some (.int x2), some (.ref x3), some (.int x4), u5] [.int s2, .int s1, .ref s0] h =
  (cw (gC h s0) 60 s0 <|
  gd s1 (gK h s0) <|
  Q d 246 3 [some (.ref x0), some (.ref x1), some (.int x2), some (.ref x3), some (.int (x4 + 1)), none] [] (sA h s0 (ix s1) s2)) := by
  rw [← hs.1]
  exact (blkM (fun p => Nat.beq p 3) 5 67 _ _ _).trans rfl

set_option maxRecDepth 16384 in
theorem t_246_90 {d : Nat} {h : AH} (hs : Sh h) (x0 : Nat) (x1 : Nat) (x2 : Int32) (x3 : Nat) (x4 : Int32) (u5 : Option Value) (s0 : Int32) :
    Q d 246 90 [some (.ref x0), some (.ref x1), some (.int x2), some (.ref x3), some (.int x4), u5] [.int s0] h =
  if s0 = 0 then
   some (some (.int 0), h)
  else
   Q d 246 77 [some (.ref x0), some (.ref x1), some (.int x2), some (.ref x3), some (.int (x4 + 1)), none] [] h := by
  rw [← hs.1]
  exact (blkM (fun p => Nat.beq p 77) 5 90 _ _ _).trans rfl

set_option maxRecDepth 16384 in
theorem t_246_104 {d : Nat} {h : AH} (hs : Sh h) (x0 : Nat) (x1 : Nat) (x2 : Int32) (x3 : Nat) (x4 : Int32) :
    Q d 246 104 [some (.ref x0), some (.ref x1), some (.int x2), some (.ref x3), some (.int x4), none] [] h =
  if x4 < 4 then
   ck (gC h x3) 66 <|
   gd x4 (gK h x3) <|
   (gO h x3 (ix x4)).bind fun y1 =>
    ck (gC h y1) 60 <|
    gd x2 (gK h y1) <|
    if gA h y1 (ix x2) = 0 then
     Q d 246 104 [some (.ref x0), some (.ref x1), some (.int x2), some (.ref x3), some (.int (x4 + 1)), none] [] h
    else
     some (some (.int 0), h)
  else
   Q d 246 130 [some (.ref x0), some (.ref x1), some (.int x2), some (.ref x3), some (.int 0), none] [] h := by
  rw [← hs.1]
  exact (blkM (fun p => Nat.beq p 104 || Nat.beq p 130) 13 104 _ _ _).trans rfl

set_option maxRecDepth 16384 in
theorem t_246_130 {d : Nat} {h : AH} (hs : Sh h) (x0 : Nat) (x1 : Nat) (x2 : Int32) (x3 : Nat) (x4 : Int32) :
    Q d 246 130 [some (.ref x0), some (.ref x1), some (.int x2), some (.ref x3), some (.int x4), none] [] h =
  if x4 < x2 then
   ck (gC h x1) 60 <|
   gd x4 (gK h x1) <|
   ck (gC h x0) 60 <|
   gd (gA h x1 (ix x4)) (gK h x0) <|
   ck (gC h x3) 66 <|
   gd x4 (gK h x3) <|
   (gO h x3 (ix x4)).bind fun y1 =>
    ck (gC h y1) 60 <|
    gd x2 (gK h y1) <|
    cw (gC h x0) 60 x0 <|
    gd (gA h x1 (ix x4)) (gK h x0) <|
    Q d 246 130 [some (.ref x0), some (.ref x1), some (.int x2), some (.ref x3), some (.int (x4 + 1)), none] [] (sA h x0 (ix (gA h x1 (ix x4))) ((gA h x0 (ix (gA h x1 (ix x4)))) ^^^ (gA h y1 (ix x2))))
  else
   some (some (.int 1), h) := by
  rw [← hs.1]
  exact (blkM (fun p => Nat.beq p 130) 20 130 _ _ _).trans rfl

/-! 247 PostRoom$Item.mendOne([I[Z[II[[I)Z -/
set_option maxRecDepth 16384 in
theorem t_247 {d : Nat} {h : AH} (hs : Sh h) (x0 : Nat) (x1 : Nat) (x2 : Nat) (x3 : Int32) (x4 : Nat) :
    E (d + 1) 247 [.ref x0, .ref x1, .ref x2, .int x3, .ref x4] h =
  Q d 247 3 [some (.ref x0), some (.ref x1), some (.ref x2), some (.int x3), some (.ref x4), some (.int 0)] [] h := by
  rw [← hs.1]
  exact ent rfl ((blkM (fun p => Nat.beq p 3) 4 0 _ _ _).trans rfl)

set_option maxRecDepth 16384 in
theorem t_247_3 {d : Nat} {h : AH} (hs : Sh h) (x0 : Nat) (x1 : Nat) (x2 : Nat) (x3 : Int32) (x4 : Nat) (x5 : Int32) :
    Q d 247 3 [some (.ref x0), some (.ref x1), some (.ref x2), some (.int x3), some (.ref x4), some (.int x5)] [] h =
  if x5 < 11 then
   cw (gC h x2) 60 x2 <|
   gd x3 (gK h x2) <|
   ck (gC h x1) 63 <|
   gd x5 (gK h x1) <|
   if gA (sA h x2 (ix x3) x5) x1 (ix x5) = 0 then
    cK (E d 246 [.ref x0, .ref x2, .int (x3 + 1), .ref x4] (sA h x2 (ix x3) x5)) (Q d 247 32 [some (.ref x0), some (.ref x1), some (.ref x2), some (.int x3), some (.ref x4), some (.int x5)]) []
   else
    Q d 247 3 [some (.ref x0), some (.ref x1), some (.ref x2), some (.int x3), some (.ref x4), some (.int (x5 + 1))] [] (sA h x2 (ix x3) x5)
  else
   some (some (.int 0), h) := by
  rw [← hs.1]
  exact (blkM (fun p => Nat.beq p 3 || Nat.beq p 32) 19 3 _ _ _).trans rfl

set_option maxRecDepth 16384 in
theorem t_247_32 {d : Nat} {h : AH} (hs : Sh h) (x0 : Nat) (x1 : Nat) (x2 : Nat) (x3 : Int32) (x4 : Nat) (x5 : Int32) (s0 : Int32) :
    Q d 247 32 [some (.ref x0), some (.ref x1), some (.ref x2), some (.int x3), some (.ref x4), some (.int x5)] [.int s0] h =
  if s0 = 0 then
   Q d 247 3 [some (.ref x0), some (.ref x1), some (.ref x2), some (.int x3), some (.ref x4), some (.int (x5 + 1))] [] h
  else
   some (some (.int 1), h) := by
  rw [← hs.1]
  exact (blkM (fun p => Nat.beq p 3) 5 32 _ _ _).trans rfl

/-! 248 PostRoom$Item.mendTwo([I[Z[I[[I)Z -/
set_option maxRecDepth 16384 in
theorem t_248 {d : Nat} {h : AH} (hs : Sh h) (x0 : Nat) (x1 : Nat) (x2 : Nat) (x3 : Nat) :
    E (d + 1) 248 [.ref x0, .ref x1, .ref x2, .ref x3] h =
  Q d 248 3 [some (.ref x0), none, some (.ref x2), some (.ref x3), some (.int 0), none] [] h := by
  rw [← hs.1]
  exact ent rfl ((blkM (fun p => Nat.beq p 3) 4 0 _ _ _).trans rfl)

set_option maxRecDepth 16384 in
theorem t_248_3 {d : Nat} {h : AH} (hs : Sh h) (x0 : Nat) (x2 : Nat) (x3 : Nat) (x4 : Int32) :
    Q d 248 3 [some (.ref x0), none, some (.ref x2), some (.ref x3), some (.int x4), none] [] h =
  if x4 < 11 then
   Q d 248 16 [some (.ref x0), none, some (.ref x2), some (.ref x3), some (.int x4), some (.int (x4 + 1))] [] h
  else
   some (some (.int 0), h) := by
  rw [← hs.1]
  exact (blkM (fun p => Nat.beq p 16) 9 3 _ _ _).trans rfl

set_option maxRecDepth 16384 in
theorem t_248_16 {d : Nat} {h : AH} (hs : Sh h) (x0 : Nat) (x2 : Nat) (x3 : Nat) (x4 : Int32) (x5 : Int32) :
    Q d 248 16 [some (.ref x0), none, some (.ref x2), some (.ref x3), some (.int x4), some (.int x5)] [] h =
  if x5 < 11 then
   cw (gC h x2) 60 x2 <|
   gd (0 : Int32) (gK h x2) <|
   cw (gC h x2) 60 x2 <|
   gd (1 : Int32) (gK h x2) <|
   cK (E d 246 [.ref x0, .ref x2, .int 2, .ref x3] (sA (sA h x2 0 x4) x2 1 x5)) (Q d 248 40 [some (.ref x0), none, some (.ref x2), some (.ref x3), some (.int x4), some (.int x5)]) []
  else
   Q d 248 3 [some (.ref x0), none, some (.ref x2), some (.ref x3), some (.int (x4 + 1)), none] [] h := by
  rw [← hs.1]
  exact (blkM (fun p => Nat.beq p 3 || Nat.beq p 40) 17 16 _ _ _).trans rfl

set_option maxRecDepth 16384 in
theorem t_248_40 {d : Nat} {h : AH} (hs : Sh h) (x0 : Nat) (x2 : Nat) (x3 : Nat) (x4 : Int32) (x5 : Int32) (u1 : Option Value) (s0 : Int32) :
    Q d 248 40 [some (.ref x0), u1, some (.ref x2), some (.ref x3), some (.int x4), some (.int x5)] [.int s0] h =
  if s0 = 0 then
   Q d 248 16 [some (.ref x0), none, some (.ref x2), some (.ref x3), some (.int x4), some (.int (x5 + 1))] [] h
  else
   some (some (.int 1), h) := by
  rw [← hs.1]
  exact (blkM (fun p => Nat.beq p 16) 5 40 _ _ _).trans rfl

/-! 249 PostRoom$Item.hasSigns([I)Z -/
set_option maxRecDepth 16384 in
theorem t_249 {d : Nat} {h : AH} (hs : Sh h) (x0 : Nat) (x1 : Nat) :
    E (d + 1) 249 [.ref x0, .ref x1] h =
  Q d 249 2 [some (.ref x0), some (.ref x1), some (.int 0)] [] h := by
  rw [← hs.1]
  exact ent rfl ((blkM (fun p => Nat.beq p 2) 4 0 _ _ _).trans rfl)

set_option maxRecDepth 16384 in
theorem t_249_2 {d : Nat} {h : AH} (hs : Sh h) (x0 : Nat) (x1 : Nat) (x2 : Int32) :
    Q d 249 2 [some (.ref x0), some (.ref x1), some (.int x2)] [] h =
  if x2 < 11 then
   ck (gC h x0) 5 <|
   (gR h 1285 x0).bind fun y1 =>
    ck (gC h y1) 60 <|
    gd x2 (gK h y1) <|
    ck (gC h x1) 60 <|
    gd x2 (gK h x1) <|
    if gA h y1 (ix x2) = gA h x1 (ix x2) then
     Q d 249 2 [some (.ref x0), some (.ref x1), some (.int (x2 + 1))] [] h
    else
     some (some (.int 0), h)
  else
   some (some (.int 1), h) := by
  rw [← hs.1]
  exact (blkM (fun p => Nat.beq p 2) 15 2 _ _ _).trans rfl

/-! 250 PostRoom$Post.nextMinute(I)I -/
set_option maxRecDepth 16384 in
theorem t_250 {d : Nat} {h : AH} (hs : Sh h) (x1 : Int32) :
    E (d + 1) 250 [.ref 156, .int x1] h =
  Q d 250 4 [some (.ref 156), none, some (.int x1), some (.int 0), none] [] h := by
  rw [← hs.1]
  exact ent rfl ((blkM (fun p => Nat.beq p 4) 6 0 _ _ _).trans rfl)

set_option maxRecDepth 16384 in
theorem t_250_4 {d : Nat} {h : AH} (hs : Sh h) (x2 : Int32) (x3 : Int32) :
    Q d 250 4 [some (.ref 156), none, some (.int x2), some (.int x3), none] [] h =
  cK (E d 213 [.ref 165] h) (Q d 250 12 [some (.ref 156), none, some (.int x2), some (.int x3), none]) [.int x3] := by
  rw [← hs.1]
  exact (blkM (fun p => Nat.beq p 12) 5 4 _ _ _).trans rfl

set_option maxRecDepth 16384 in
theorem t_250_12 {d : Nat} {h : AH} (hs : Sh h) (x2 : Int32) (x3 : Int32) (u1 : Option Value) (u4 : Option Value) (s0 : Int32) (s1 : Int32) :
    Q d 250 12 [some (.ref 156), u1, some (.int x2), some (.int x3), u4] [.int s1, .int s0] h =
  if s0 < s1 then
   cK (E d 212 [.ref 165, .int x3] h) (Q d 250 24 [some (.ref 156), u1, some (.int x2), some (.int x3), u4]) [.int x2]
  else
   Q d 250 42 [some (.ref 156), none, some (.int x2), some (.int 0), none] [] h := by
  rw [← hs.1]
  exact (blkM (fun p => Nat.beq p 24 || Nat.beq p 42) 7 12 _ _ _).trans rfl

set_option maxRecDepth 16384 in
theorem t_250_24 {d : Nat} {h : AH} (hs : Sh h) (x3 : Int32) (u1 : Option Value) (u2 : Option Value) (u4 : Option Value) (s0 : Int32) (s1 : Nat) :
    Q d 250 24 [some (.ref 156), u1, u2, some (.int x3), u4] [.ref s1, .int s0] h =
  (ck (gC h s1) 5 <|
  ck (gC h s1) 5 <|
  cK (E d 302 [.int s0, .int (gI h 1294 s1)] h) (Q d 250 33 [some (.ref 156), u1, u2, some (.int x3), u4]) []) := by
  rw [← hs.1]
  exact (blkM (fun p => Nat.beq p 33) 4 24 _ _ _).trans rfl

set_option maxRecDepth 16384 in
theorem t_250_42 {d : Nat} {h : AH} (hs : Sh h) (x2 : Int32) (x3 : Int32) :
    Q d 250 42 [some (.ref 156), none, some (.int x2), some (.int x3), none] [] h =
  (gR h 2048 156).bind fun y1 =>
   ck (gC h y1) 2 <|
   (gR h 515 y1).bind fun y2 =>
    ck (gC h y2) 1 <|
    cK (E d 213 [.ref y2] h) (Q d 250 53 [some (.ref 156), none, some (.int x2), some (.int x3), none]) [.int x3] := by
  rw [← hs.1]
  exact (blkM (fun p => Nat.beq p 53) 6 42 _ _ _).trans rfl

set_option maxRecDepth 16384 in
theorem t_250_33 {d : Nat} {h : AH} (hs : Sh h) (x3 : Int32) (u1 : Option Value) (u2 : Option Value) (u4 : Option Value) (s0 : Int32) :
    Q d 250 33 [some (.ref 156), u1, u2, some (.int x3), u4] [.int s0] h =
  Q d 250 4 [some (.ref 156), none, some (.int s0), some (.int (x3 + 1)), none] [] h := by
  rw [← hs.1]
  exact (blkM (fun p => Nat.beq p 4) 5 33 _ _ _).trans rfl

set_option maxRecDepth 16384 in
theorem t_250_53 {d : Nat} {h : AH} (hs : Sh h) (x2 : Int32) (x3 : Int32) (u1 : Option Value) (u4 : Option Value) (s0 : Int32) (s1 : Int32) :
    Q d 250 53 [some (.ref 156), u1, some (.int x2), some (.int x3), u4] [.int s1, .int s0] h =
  if s0 < s1 then
   (gR h 2048 156).bind fun y1 =>
    ck (gC h y1) 2 <|
    (gR h 515 y1).bind fun y2 =>
     ck (gC h y2) 1 <|
     cK (E d 212 [.ref y2, .int x3] h) (Q d 250 67 [some (.ref 156), u1, some (.int x2), some (.int x3), u4]) []
  else
   some (some (.int x2), h) := by
  rw [← hs.1]
  exact (blkM (fun p => Nat.beq p 67) 7 53 _ _ _).trans rfl

set_option maxRecDepth 16384 in
theorem t_250_67 {d : Nat} {h : AH} (hs : Sh h) (x2 : Int32) (x3 : Int32) (u1 : Option Value) (u4 : Option Value) (s0 : Nat) :
    Q d 250 67 [some (.ref 156), u1, some (.int x2), some (.int x3), u4] [.ref s0] h =
  (ck (gC h s0) 3 <|
  ck (gC h s0) 3 <|
  (gR h 775 s0).bind fun y1 =>
   ck (gC h y1) 1 <|
   cK (E d 303 [.ref y1] h) (Q d 250 80 [some (.ref 156), u1, some (.int x2), some (.int x3), some (.ref s0)]) []) := by
  rw [← hs.1]
  exact (blkM (fun p => Nat.beq p 80) 6 67 _ _ _).trans rfl

set_option maxRecDepth 16384 in
theorem t_250_80 {d : Nat} {h : AH} (hs : Sh h) (x2 : Int32) (x3 : Int32) (x4 : Nat) (u1 : Option Value) (s0 : Int32) :
    Q d 250 80 [some (.ref 156), u1, some (.int x2), some (.int x3), some (.ref x4)] [.int s0] h =
  if s0 = 0 then
   ck (gC h x4) 3 <|
   cK (E d 304 [.ref x4, .int (gI h 2051 156)] h) (Q d 250 93 [some (.ref 156), u1, some (.int x2), some (.int x3), some (.ref x4)]) [.int x2]
  else
   Q d 250 42 [some (.ref 156), none, some (.int x2), some (.int (x3 + 1)), none] [] h := by
  rw [← hs.1]
  exact (blkM (fun p => Nat.beq p 42 || Nat.beq p 93) 7 80 _ _ _).trans rfl

set_option maxRecDepth 16384 in
theorem t_250_93 {d : Nat} {h : AH} (hs : Sh h) (x3 : Int32) (u1 : Option Value) (u2 : Option Value) (u4 : Option Value) (s0 : Int32) (s1 : Int32) :
    Q d 250 93 [some (.ref 156), u1, u2, some (.int x3), u4] [.int s1, .int s0] h =
  cK (E d 302 [.int s0, .int s1] h) (Q d 250 96 [some (.ref 156), u1, u2, some (.int x3), u4]) [] := by
  rw [← hs.1]
  exact (blkM (fun p => Nat.beq p 96) 2 93 _ _ _).trans rfl

set_option maxRecDepth 16384 in
theorem t_250_96 {d : Nat} {h : AH} (hs : Sh h) (x3 : Int32) (u1 : Option Value) (u2 : Option Value) (u4 : Option Value) (s0 : Int32) :
    Q d 250 96 [some (.ref 156), u1, u2, some (.int x3), u4] [.int s0] h =
  Q d 250 42 [some (.ref 156), none, some (.int s0), some (.int (x3 + 1)), none] [] h := by
  rw [← hs.1]
  exact (blkM (fun p => Nat.beq p 42) 5 96 _ _ _).trans rfl

/-! 251 PostRoom$Post.letCome()V -/
set_option maxRecDepth 16384 in
theorem t_251 {d : Nat} {h : AH} (hs : Sh h)  :
    E (d + 1) 251 [.ref 156] h =
  cK (E d 213 [.ref 165] h) (Q d 251 9 [some (.ref 156), some (.int 0), none, none]) [] := by
  rw [← hs.1]
  exact ent rfl ((blkM (fun p => Nat.beq p 9) 6 0 _ _ _).trans rfl)

set_option maxRecDepth 16384 in
theorem t_251_9 {d : Nat} {h : AH} (hs : Sh h) (x1 : Int32) (u2 : Option Value) (u3 : Option Value) (s0 : Int32) :
    Q d 251 9 [some (.ref 156), some (.int x1), u2, u3] [.int s0] h =
  Q d 251 10 [some (.ref 156), some (.int x1), some (.int s0), none] [] h := by
  rw [← hs.1]
  exact (blkM (fun p => Nat.beq p 10) 3 9 _ _ _).trans rfl

set_option maxRecDepth 16384 in
theorem t_251_10 {d : Nat} {h : AH} (hs : Sh h) (x1 : Int32) (x2 : Int32) :
    Q d 251 10 [some (.ref 156), some (.int x1), some (.int x2), none] [] h =
  if (0 : Int32) < x2 then
   cK (E d 212 [.ref 165, .int x1] h) (Q d 251 22 [some (.ref 156), some (.int x1), some (.int x2), none]) []
  else
   some (none, h) := by
  rw [← hs.1]
  exact (blkM (fun p => Nat.beq p 22) 7 10 _ _ _).trans rfl

set_option maxRecDepth 16384 in
theorem t_251_22 {d : Nat} {h : AH} (hs : Sh h) (x1 : Int32) (x2 : Int32) (u3 : Option Value) (s0 : Nat) :
    Q d 251 22 [some (.ref 156), some (.int x1), some (.int x2), u3] [.ref s0] h =
  (ck (gC h s0) 5 <|
  ck (gC h s0) 5 <|
  if gI h 1294 s0 = gI h 2051 156 then
   cK (E d 256 [.ref 165, .int x1] h) (Q d 251 45 [some (.ref 156), some (.int x1), some (.int x2), some (.ref s0)]) []
  else
   Q d 251 10 [some (.ref 156), some (.int (x1 + 1)), some (.int (x2 + (-1))), none] [] h) := by
  rw [← hs.1]
  exact (blkM (fun p => Nat.beq p 10 || Nat.beq p 45) 12 22 _ _ _).trans rfl

set_option maxRecDepth 16384 in
theorem t_251_45 {d : Nat} {h : AH} (hs : Sh h) (x1 : Int32) (x2 : Int32) (x3 : Nat) (s0 : Nat) :
    Q d 251 45 [some (.ref 156), some (.int x1), some (.int x2), some (.ref x3)] [.ref s0] h =
  (ck (gC h x3) 5 <|
  ck (gC h x3) 5 <|
  cK (E d 257 [.ref x3, .int 0, .int (gI h 1289 x3), .int (-1), .int (gI h 2051 156)] h) (Q d 251 60 [some (.ref 156), some (.int x1), some (.int x2), some (.ref x3)]) []) := by
  rw [← hs.1]
  exact (blkM (fun p => Nat.beq p 60) 10 45 _ _ _).trans rfl

set_option maxRecDepth 16384 in
theorem t_251_60 {d : Nat} {h : AH} (hs : Sh h) (x1 : Int32) (x2 : Int32) (x3 : Nat) :
    Q d 251 60 [some (.ref 156), some (.int x1), some (.int x2), some (.ref x3)] [] h =
  (gR h 2048 156).bind fun y1 =>
   ck (gC h y1) 2 <|
   (gR h 512 y1).bind fun y2 =>
    ck (gC h x3) 5 <|
    ck (gC h y2) 1 <|
    cK (E d 212 [.ref y2, .int (gI h 1289 x3)] h) (Q d 251 74 [some (.ref 156), some (.int x1), some (.int x2), some (.ref x3)]) [] := by
  rw [← hs.1]
  exact (blkM (fun p => Nat.beq p 74) 7 60 _ _ _).trans rfl

set_option maxRecDepth 16384 in
theorem t_251_74 {d : Nat} {h : AH} (hs : Sh h) (x1 : Int32) (x2 : Int32) (x3 : Nat) (s0 : Nat) :
    Q d 251 74 [some (.ref 156), some (.int x1), some (.int x2), some (.ref x3)] [.ref s0] h =
  (ck (gC h s0) 7 <|
  ck (gC h s0) 7 <|
  (gR h 1797 s0).bind fun y1 =>
   ck (gC h y1) 1 <|
   cK (E d 273 [.ref y1, .ref x3] h) (Q d 251 84 [some (.ref 156), some (.int x1), some (.int x2), some (.ref x3)]) []) := by
  rw [← hs.1]
  exact (blkM (fun p => Nat.beq p 84) 5 74 _ _ _).trans rfl

set_option maxRecDepth 16384 in
theorem t_251_84 {d : Nat} {h : AH} (hs : Sh h) (x1 : Int32) (x2 : Int32) (x3 : Nat) (s0 : Int32) :
    Q d 251 84 [some (.ref 156), some (.int x1), some (.int x2), some (.ref x3)] [.int s0] h =
  (ck (gC h x3) 5 <|
  cK (E d 258 [.ref 156, .ref x3, .int 3, .int (gI h 1289 x3)] h) (Q d 251 95 [some (.ref 156), some (.int x1), some (.int x2), some (.ref x3)]) []) := by
  rw [← hs.1]
  exact (blkM (fun p => Nat.beq p 95) 8 84 _ _ _).trans rfl

set_option maxRecDepth 16384 in
theorem t_251_95 {d : Nat} {h : AH} (hs : Sh h) (x1 : Int32) (x2 : Int32) (u3 : Option Value) :
    Q d 251 95 [some (.ref 156), some (.int x1), some (.int x2), u3] [] h =
  Q d 251 10 [some (.ref 156), some (.int x1), some (.int (x2 + (-1))), none] [] h := by
  rw [← hs.1]
  exact (blkM (fun p => Nat.beq p 10) 5 95 _ _ _).trans rfl

/-! 252 PostRoom$Post.letGo()V -/
set_option maxRecDepth 16384 in
theorem t_252 {d : Nat} {h : AH} (hs : Sh h)  :
    E (d + 1) 252 [.ref 156] h =
  Q d 252 2 [some (.ref 156), some (.int 0), none, none, none] [] h := by
  rw [← hs.1]
  exact ent rfl ((blkM (fun p => Nat.beq p 2) 4 0 _ _ _).trans rfl)

set_option maxRecDepth 16384 in
theorem t_252_2 {d : Nat} {h : AH} (hs : Sh h) (x1 : Int32) :
    Q d 252 2 [some (.ref 156), some (.int x1), none, none, none] [] h =
  (gR h 2048 156).bind fun y1 =>
   ck (gC h y1) 2 <|
   (gR h 515 y1).bind fun y2 =>
    ck (gC h y2) 1 <|
    cK (E d 213 [.ref y2] h) (Q d 252 13 [some (.ref 156), some (.int x1), none, none, none]) [.int x1] := by
  rw [← hs.1]
  exact (blkM (fun p => Nat.beq p 13) 6 2 _ _ _).trans rfl

set_option maxRecDepth 16384 in
theorem t_252_13 {d : Nat} {h : AH} (hs : Sh h) (x1 : Int32) (u2 : Option Value) (u3 : Option Value) (u4 : Option Value) (s0 : Int32) (s1 : Int32) :
    Q d 252 13 [some (.ref 156), some (.int x1), u2, u3, u4] [.int s1, .int s0] h =
  if s0 < s1 then
   (gR h 2048 156).bind fun y1 =>
    ck (gC h y1) 2 <|
    (gR h 515 y1).bind fun y2 =>
     ck (gC h y2) 1 <|
     cK (E d 212 [.ref y2, .int x1] h) (Q d 252 27 [some (.ref 156), some (.int x1), u2, u3, u4]) []
  else
   some (none, h) := by
  rw [← hs.1]
  exact (blkM (fun p => Nat.beq p 27) 7 13 _ _ _).trans rfl

set_option maxRecDepth 16384 in
theorem t_252_27 {d : Nat} {h : AH} (hs : Sh h) (x1 : Int32) (u2 : Option Value) (u3 : Option Value) (u4 : Option Value) (s0 : Nat) :
    Q d 252 27 [some (.ref 156), some (.int x1), u2, u3, u4] [.ref s0] h =
  (ck (gC h s0) 3 <|
  Q d 252 33 [some (.ref 156), some (.int x1), some (.ref s0), some (.int 0), none] [] h) := by
  rw [← hs.1]
  exact (blkM (fun p => Nat.beq p 33) 6 27 _ _ _).trans rfl

set_option maxRecDepth 16384 in
theorem t_252_33 {d : Nat} {h : AH} (hs : Sh h) (x1 : Int32) (x2 : Nat) (x3 : Int32) :
    Q d 252 33 [some (.ref 156), some (.int x1), some (.ref x2), some (.int x3), none] [] h =
  (ck (gC h x2) 3 <|
  cK (E d 305 [.ref x2, .int (gI h 2051 156)] h) (Q d 252 41 [some (.ref 156), some (.int x1), some (.ref x2), some (.int x3), none]) []) := by
  rw [← hs.1]
  exact (blkM (fun p => Nat.beq p 41) 5 33 _ _ _).trans rfl

set_option maxRecDepth 16384 in
theorem t_252_41 {d : Nat} {h : AH} (hs : Sh h) (x1 : Int32) (x2 : Nat) (x3 : Int32) (u4 : Option Value) (s0 : Int32) :
    Q d 252 41 [some (.ref 156), some (.int x1), some (.ref x2), some (.int x3), u4] [.int s0] h =
  if s0 = 0 then
   Q d 252 2 [some (.ref 156), some (.int (x1 + 1)), none, none, none] [] h
  else
   ck (gC h x2) 3 <|
   if x3 < gI h 774 x2 then
    ck (gC h x2) 3 <|
    (gR h 775 x2).bind fun y1 =>
     ck (gC h y1) 1 <|
     cK (E d 303 [.ref y1] h) (Q d 252 59 [some (.ref 156), some (.int x1), some (.ref x2), some (.int x3), u4]) []
   else
    Q d 252 2 [some (.ref 156), some (.int (x1 + 1)), none, none, none] [] h := by
  rw [← hs.1]
  exact (blkM (fun p => Nat.beq p 2 || Nat.beq p 59) 9 41 _ _ _).trans rfl

set_option maxRecDepth 16384 in
theorem t_252_59 {d : Nat} {h : AH} (hs : Sh h) (x1 : Int32) (x2 : Nat) (x3 : Int32) (u4 : Option Value) (s0 : Int32) :
    Q d 252 59 [some (.ref 156), some (.int x1), some (.ref x2), some (.int x3), u4] [.int s0] h =
  if s0 = 0 then
   ck (gC h x2) 3 <|
   (gR h 775 x2).bind fun y1 =>
    ck (gC h y1) 1 <|
    cK (E d 212 [.ref y1, .int 0] h) (Q d 252 70 [some (.ref 156), some (.int x1), some (.ref x2), some (.int x3), u4]) []
  else
   Q d 252 2 [some (.ref 156), some (.int (x1 + 1)), none, none, none] [] h := by
  rw [← hs.1]
  exact (blkM (fun p => Nat.beq p 2 || Nat.beq p 70) 6 59 _ _ _).trans rfl

set_option maxRecDepth 16384 in
theorem t_252_70 {d : Nat} {h : AH} (hs : Sh h) (x1 : Int32) (x2 : Nat) (x3 : Int32) (u4 : Option Value) (s0 : Nat) :
    Q d 252 70 [some (.ref 156), some (.int x1), some (.ref x2), some (.int x3), u4] [.ref s0] h =
  (ck (gC h s0) 5 <|
  ck (gC h x2) 3 <|
  (gR h 775 x2).bind fun y1 =>
   ck (gC h y1) 1 <|
   cK (E d 256 [.ref y1, .int 0] h) (Q d 252 83 [some (.ref 156), some (.int x1), some (.ref x2), some (.int x3), some (.ref s0)]) []) := by
  rw [← hs.1]
  exact (blkM (fun p => Nat.beq p 83) 7 70 _ _ _).trans rfl

set_option maxRecDepth 16384 in
theorem t_252_83 {d : Nat} {h : AH} (hs : Sh h) (x1 : Int32) (x2 : Nat) (x3 : Int32) (x4 : Nat) (s0 : Nat) :
    Q d 252 83 [some (.ref 156), some (.int x1), some (.ref x2), some (.int x3), some (.ref x4)] [.ref s0] h =
  (ck (gC h x2) 3 <|
  ck (gC h x4) 5 <|
  cK (E d 257 [.ref x4, .int 2, .int (gI h 769 x2), .int x1, .int (gI h 2051 156)] h) (Q d 252 99 [some (.ref 156), some (.int x1), some (.ref x2), some (.int x3), some (.ref x4)]) []) := by
  rw [← hs.1]
  exact (blkM (fun p => Nat.beq p 99) 10 83 _ _ _).trans rfl

set_option maxRecDepth 16384 in
theorem t_252_99 {d : Nat} {h : AH} (hs : Sh h) (x1 : Int32) (x2 : Nat) (x3 : Int32) (x4 : Nat) :
    Q d 252 99 [some (.ref 156), some (.int x1), some (.ref x2), some (.int x3), some (.ref x4)] [] h =
  (ck (gC h x2) 3 <|
  ck (gC h x4) 5 <|
  cK (E d 273 [.ref 165, .ref x4] (sI h 1294 x4 ((gI h 2051 156) + (gI h 773 x2)))) (Q d 252 122 [some (.ref 156), some (.int x1), some (.ref x2), some (.int x3), some (.ref x4)]) []) := by
  rw [← hs.1]
  exact (blkM (fun p => Nat.beq p 122) 12 99 _ _ _).trans rfl

set_option maxRecDepth 16384 in
theorem t_252_122 {d : Nat} {h : AH} (hs : Sh h) (x1 : Int32) (x2 : Nat) (x3 : Int32) (x4 : Nat) (s0 : Int32) :
    Q d 252 122 [some (.ref 156), some (.int x1), some (.ref x2), some (.int x3), some (.ref x4)] [.int s0] h =
  (ck (gC h x2) 3 <|
  cK (E d 258 [.ref 156, .ref x4, .int 2, .int (gI h 768 x2)] h) (Q d 252 134 [some (.ref 156), some (.int x1), some (.ref x2), some (.int x3), some (.ref x4)]) []) := by
  rw [← hs.1]
  exact (blkM (fun p => Nat.beq p 134) 8 122 _ _ _).trans rfl

set_option maxRecDepth 16384 in
theorem t_252_134 {d : Nat} {h : AH} (hs : Sh h) (x1 : Int32) (x2 : Nat) (x3 : Int32) (u4 : Option Value) :
    Q d 252 134 [some (.ref 156), some (.int x1), some (.ref x2), some (.int x3), u4] [] h =
  Q d 252 33 [some (.ref 156), some (.int x1), some (.ref x2), some (.int (x3 + 1)), none] [] h := by
  rw [← hs.1]
  exact (blkM (fun p => Nat.beq p 33) 4 134 _ _ _).trans rfl

/-! 253 PostRoom$Post.workOutWays(I)V -/
set_option maxRecDepth 16384 in
theorem t_253 {d : Nat} {h : AH} (hs : Sh h) (x1 : Int32) :
    E (d + 1) 253 [.ref 156, .int x1] h =
  if gI h 2059 156 = x1 then
   if gI h 2060 156 = gI h 2051 156 then
    some (none, h)
   else
    cK (E d 241 [.ref 168, .int 2147483647] (sI (sI h 2059 156 x1) 2060 156 (gI h 2051 156))) (Q d 253 42 [some (.ref 156), some (.int x1), none]) []
  else
   cK (E d 241 [.ref 168, .int 2147483647] (sI (sI h 2059 156 x1) 2060 156 (gI h 2051 156))) (Q d 253 42 [some (.ref 156), some (.int x1), none]) [] := by
  rw [← hs.1]
  exact ent rfl ((blkM (fun p => Nat.beq p 42) 21 0 _ _ _).trans rfl)

set_option maxRecDepth 16384 in
theorem t_253_42 {d : Nat} {h : AH} (hs : Sh h) (x1 : Int32) (u2 : Option Value) :
    Q d 253 42 [some (.ref 156), some (.int x1), u2] [] h =
  cK (E d 241 [.ref 169, .int (-1)] h) (Q d 253 50 [some (.ref 156), some (.int x1), u2]) [] := by
  rw [← hs.1]
  exact (blkM (fun p => Nat.beq p 50) 5 42 _ _ _).trans rfl

set_option maxRecDepth 16384 in
theorem t_253_50 {d : Nat} {h : AH} (hs : Sh h) (x1 : Int32) (u2 : Option Value) :
    Q d 253 50 [some (.ref 156), some (.int x1), u2] [] h =
  Q d 253 52 [some (.ref 156), some (.int x1), some (.int 0)] [] h := by
  rw [← hs.1]
  exact (blkM (fun p => Nat.beq p 52) 4 50 _ _ _).trans rfl

set_option maxRecDepth 16384 in
theorem t_253_52 {d : Nat} {h : AH} (hs : Sh h) (x1 : Int32) (x2 : Int32) :
    Q d 253 52 [some (.ref 156), some (.int x1), some (.int x2)] [] h =
  (gR h 2048 156).bind fun y1 =>
   ck (gC h y1) 2 <|
   (gR h 515 y1).bind fun y2 =>
    ck (gC h y2) 1 <|
    cK (E d 213 [.ref y2] h) (Q d 253 63 [some (.ref 156), some (.int x1), some (.int x2)]) [.int x2] := by
  rw [← hs.1]
  exact (blkM (fun p => Nat.beq p 63) 6 52 _ _ _).trans rfl

set_option maxRecDepth 16384 in
theorem t_253_63 {d : Nat} {h : AH} (hs : Sh h) (x1 : Int32) (x2 : Int32) (s0 : Int32) (s1 : Int32) :
    Q d 253 63 [some (.ref 156), some (.int x1), some (.int x2)] [.int s1, .int s0] h =
  if s0 < s1 then
   (gR h 2048 156).bind fun y1 =>
    ck (gC h y1) 2 <|
    (gR h 515 y1).bind fun y2 =>
     ck (gC h y2) 1 <|
     cK (E d 212 [.ref y2, .int x2] h) (Q d 253 77 [some (.ref 156), some (.int x1), some (.int x2)]) []
  else
   gd x1 16 <|
   some (none, sA h 169 (ix x1) (-1)) := by
  rw [← hs.1]
  exact (blkM (fun p => Nat.beq p 77) 8 63 _ _ _).trans rfl

set_option maxRecDepth 16384 in
theorem t_253_77 {d : Nat} {h : AH} (hs : Sh h) (x1 : Int32) (x2 : Int32) (s0 : Nat) :
    Q d 253 77 [some (.ref 156), some (.int x1), some (.int x2)] [.ref s0] h =
  (ck (gC h s0) 3 <|
  ck (gC h s0) 3 <|
  if gI h 768 s0 = x1 then
   (gR h 2048 156).bind fun y1 =>
    ck (gC h y1) 2 <|
    (gR h 515 y1).bind fun y2 =>
     ck (gC h y2) 1 <|
     cK (E d 212 [.ref y2, .int x2] h) (Q d 253 99 [some (.ref 156), some (.int x1), some (.int x2)]) [.ref 156]
  else
   Q d 253 110 [some (.ref 156), some (.int x1), some (.int x2)] [] h) := by
  rw [← hs.1]
  exact (blkM (fun p => Nat.beq p 99 || Nat.beq p 110) 11 77 _ _ _).trans rfl

set_option maxRecDepth 16384 in
theorem t_253_99 {d : Nat} {h : AH} (hs : Sh h) (x1 : Int32) (x2 : Int32) (s0 : Nat) (s1 : Nat) :
    Q d 253 99 [some (.ref 156), some (.int x1), some (.int x2)] [.ref s1, .ref s0] h =
  (ck (gC h s1) 3 <|
  ck (gC h s0) 8 <|
  cK (E d 306 [.ref s0, .ref s1] h) (Q d 253 105 [some (.ref 156), some (.int x1), some (.int x2)]) []) := by
  rw [← hs.1]
  exact (blkM (fun p => Nat.beq p 105) 3 99 _ _ _).trans rfl

set_option maxRecDepth 16384 in
theorem t_253_110 {d : Nat} {h : AH} (hs : Sh h) (x1 : Int32) (x2 : Int32) :
    Q d 253 110 [some (.ref 156), some (.int x1), some (.int x2)] [] h =
  Q d 253 52 [some (.ref 156), some (.int x1), some (.int (x2 + 1))] [] h := by
  rw [← hs.1]
  exact (blkM (fun p => Nat.beq p 52) 4 110 _ _ _).trans rfl

set_option maxRecDepth 16384 in
theorem t_253_105 {d : Nat} {h : AH} (hs : Sh h) (x1 : Int32) (x2 : Int32) :
    Q d 253 105 [some (.ref 156), some (.int x1), some (.int x2)] [] h =
  cK (E d 307 [.ref 156, .int x2] h) (Q d 253 110 [some (.ref 156), some (.int x1), some (.int x2)]) [] := by
  rw [← hs.1]
  exact (blkM (fun p => Nat.beq p 110) 4 105 _ _ _).trans rfl

/-! 254 PostRoom$Post.goal(LPostRoom$Item;)I -/
set_option maxRecDepth 16384 in
theorem t_254 {d : Nat} {h : AH} (hs : Sh h) (x1 : Nat) :
    E (d + 1) 254 [.ref 156, .ref x1] h =
  (gR h 2048 156).bind fun y1 =>
   ck (gC h x1) 5 <|
   ck (gC h y1) 2 <|
   cK (E d 207 [.ref y1, .int (gI h 1286 x1)] h) (Q d 254 11 [some (.ref 156), some (.ref x1)]) [] := by
  rw [← hs.1]
  exact ent rfl ((blkM (fun p => Nat.beq p 11) 6 0 _ _ _).trans rfl)

set_option maxRecDepth 16384 in
theorem t_254_11 {d : Nat} {h : AH} (hs : Sh h) (x1 : Nat) (s0 : Int32) :
    Q d 254 11 [some (.ref 156), some (.ref x1)] [.int s0] h =
  if s0 = 0 then
   ck (gC h x1) 5 <|
   some (some (.int (gI h 1283 x1)), h)
  else
   (gR h 2048 156).bind fun y1 =>
    ck (gC h y1) 2 <|
    (gR h 513 y1).bind fun y2 =>
     ck (gC h x1) 5 <|
     ck (gC h y2) 1 <|
     cK (E d 212 [.ref y2, .int (gI h 1286 x1)] h) (Q d 254 28 [some (.ref 156), some (.ref x1)]) [] := by
  rw [← hs.1]
  exact (blkM (fun p => Nat.beq p 28) 8 11 _ _ _).trans rfl

set_option maxRecDepth 16384 in
theorem t_254_28 {d : Nat} {h : AH} (hs : Sh h) (u0 : Option Value) (u1 : Option Value) (s0 : Nat) :
    Q d 254 28 [u0, u1] [.ref s0] h =
  (ck (gC h s0) 11 <|
  ck (gC h s0) 11 <|
  some (some (.int (gI h 2817 s0)), h)) := by
  rw [← hs.1]
  exact (blkM (fun p => false) 5 28 _ _ _).trans rfl

/-! 255 PostRoom$Post.putInBag(LPostRoom$Item;I)V -/
set_option maxRecDepth 16384 in
theorem t_255 {d : Nat} {h : AH} (hs : Sh h) (x1 : Nat) (x2 : Int32) :
    E (d + 1) 255 [.ref 156, .ref x1, .int x2] h =
  cK (E d 308 [.ref 156, .ref x1] h) (Q d 255 5 [some (.ref 156), some (.ref x1), some (.int x2), none]) [] := by
  rw [← hs.1]
  exact ent rfl ((blkM (fun p => Nat.beq p 5) 4 0 _ _ _).trans rfl)

set_option maxRecDepth 16384 in
theorem t_255_5 {d : Nat} {h : AH} (hs : Sh h) (x1 : Nat) (x2 : Int32) (u3 : Option Value) :
    Q d 255 5 [some (.ref 156), some (.ref x1), some (.int x2), u3] [] h =
  (gR h 2048 156).bind fun y1 =>
   ck (gC h y1) 2 <|
   (gR h 515 y1).bind fun y2 =>
    ck (gC h y2) 1 <|
    cK (E d 212 [.ref y2, .int x2] h) (Q d 255 16 [some (.ref 156), some (.ref x1), some (.int x2), u3]) [] := by
  rw [← hs.1]
  exact (blkM (fun p => Nat.beq p 16) 6 5 _ _ _).trans rfl

set_option maxRecDepth 16384 in
theorem t_255_16 {d : Nat} {h : AH} (hs : Sh h) (x1 : Nat) (x2 : Int32) (u3 : Option Value) (s0 : Nat) :
    Q d 255 16 [some (.ref 156), some (.ref x1), some (.int x2), u3] [.ref s0] h =
  (ck (gC h s0) 3 <|
  ck (gC h s0) 3 <|
  ck (gC h x1) 5 <|
  cK (E d 257 [.ref x1, .int 1, .int (gI h 768 s0), .int x2, .int (gI h 2051 156)] h) (Q d 255 34 [some (.ref 156), some (.ref x1), some (.int x2), some (.ref s0)]) []) := by
  rw [← hs.1]
  exact (blkM (fun p => Nat.beq p 34) 11 16 _ _ _).trans rfl

set_option maxRecDepth 16384 in
theorem t_255_34 {d : Nat} {h : AH} (hs : Sh h) (x1 : Nat) (x3 : Nat) (u2 : Option Value) :
    Q d 255 34 [some (.ref 156), some (.ref x1), u2, some (.ref x3)] [] h =
  (ck (gC h x3) 3 <|
  (gR h 775 x3).bind fun y1 =>
   ck (gC h y1) 1 <|
   cK (E d 273 [.ref y1, .ref x1] h) (Q d 255 42 [some (.ref 156), some (.ref x1), u2, some (.ref x3)]) []) := by
  rw [← hs.1]
  exact (blkM (fun p => Nat.beq p 42) 5 34 _ _ _).trans rfl

set_option maxRecDepth 16384 in
theorem t_255_42 {d : Nat} {h : AH} (hs : Sh h) (x1 : Nat) (x3 : Nat) (u2 : Option Value) (s0 : Int32) :
    Q d 255 42 [some (.ref 156), some (.ref x1), u2, some (.ref x3)] [.int s0] h =
  (ck (gC h x3) 3 <|
  cK (E d 258 [.ref 156, .ref x1, .int 1, .int (gI h 768 x3)] h) (Q d 255 53 [some (.ref 156), some (.ref x1), u2, some (.ref x3)]) []) := by
  rw [← hs.1]
  exact (blkM (fun p => Nat.beq p 53) 8 42 _ _ _).trans rfl

set_option maxRecDepth 16384 in
theorem t_255_53 {d : Nat} {h : AH} (hs : Sh h) (u0 : Option Value) (u1 : Option Value) (u2 : Option Value) (u3 : Option Value) :
    Q d 255 53 [u0, u1, u2, u3] [] h =
  some (none, h) := by
  rw [← hs.1]
  exact (blkM (fun p => false) 2 53 _ _ _).trans rfl

/-! 256 java/util/ArrayList.remove(I)Ljava/lang/Object; -/
set_option maxRecDepth 16384 in
theorem t_256 {d : Nat} {h : AH} (hs : Sh h) (x0 : Nat) (x1 : Int32) :
    E (d + 1) 256 [.ref x0, .int x1] h =
  (ck (gC h x0) 1 <|
  cK (E d 267 [.int x1, .int (gI h 258 x0)] h) (Q d 256 8 [some (.ref x0), some (.int x1), none, none]) []) := by
  rw [← hs.1]
  exact ent rfl ((blkM (fun p => Nat.beq p 8) 5 0 _ _ _).trans rfl)

set_option maxRecDepth 16384 in
theorem t_256_8 {d : Nat} {h : AH} (hs : Sh h) (x0 : Nat) (x1 : Int32) (u2 : Option Value) (u3 : Option Value) (s0 : Int32) :
    Q d 256 8 [some (.ref x0), some (.int x1), u2, u3] [.int s0] h =
  (ck (gC h x0) 1 <|
  (gR h 257 x0).bind fun y1 =>
   ck (gC h y1) 65 <|
   gd x1 (gK h y1) <|
   (gO h y1 (ix x1)).bind fun y2 =>
    ck (gC h x0) 1 <|
    cK (E d 309 [.ref x0, .ref y1, .int x1] h) (Q d 256 24 [some (.ref x0), some (.int x1), some (.ref y1), some (.ref y2)]) []) := by
  rw [← hs.1]
  exact (blkM (fun p => Nat.beq p 24) 13 8 _ _ _).trans rfl

set_option maxRecDepth 16384 in
theorem t_256_24 {d : Nat} {h : AH} (hs : Sh h) (x3 : Nat) (u0 : Option Value) (u1 : Option Value) (u2 : Option Value) :
    Q d 256 24 [u0, u1, u2, some (.ref x3)] [] h =
  some (some (.ref x3), h) := by
  rw [← hs.1]
  exact (blkM (fun p => false) 3 24 _ _ _).trans rfl

/-! 257 PostRoom$Item.comesTo(IIII)V -/
set_option maxRecDepth 16384 in
theorem t_257 {d : Nat} {h : AH} (hs : Sh h) (x0 : Nat) (x1 : Int32) (x2 : Int32) (x3 : Int32) (x4 : Int32) :
    E (d + 1) 257 [.ref x0, .int x1, .int x2, .int x3, .int x4] h =
  (ck (gC h x0) 5 <|
  ck (gC h x0) 5 <|
  ck (gC h x0) 5 <|
  ck (gC h x0) 5 <|
  some (none, sI (sI (sI (sI h 1288 x0 x1) 1289 x0 x2) 1290 x0 x3) 1293 x0 x4)) := by
  rw [← hs.1]
  exact ent rfl ((blkM (fun p => false) 14 0 _ _ _).trans rfl)

/-! 258 PostRoom$Post.log(LPostRoom$Item;II)V -/
set_option maxRecDepth 16384 in
theorem t_258 {d : Nat} {h : AH} (hs : Sh h) (x1 : Nat) (x2 : Int32) (x3 : Int32) :
    E (d + 1) 258 [.ref 156, .ref x1, .int x2, .int x3] h =
  (ck (gC h x1) 5 <|
  if gI h 1284 x1 = 2 then
   ck (gC h x1) 5 <|
   some (none, sI h 2052 156 ((((((33 * (gI h 2052 156)) + (gI h 1280 x1)) + (8 * x2)) + (64 * x3)) + (gI h 2051 156)) - (((((33 * (gI h 2052 156)) + (gI h 1280 x1)) + (8 * x2)) + (64 * x3)) + (gI h 2051 156)) / 65521 * 65521))
  else
   some (none, h)) := by
  rw [← hs.1]
  exact ent rfl ((blkM (fun p => false) 28 0 _ _ _).trans rfl)

