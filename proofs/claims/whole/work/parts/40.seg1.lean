/-! ===== THE METHODS, PIECE BY PIECE: 1 (made by wip/gen/gen40.py) ===== -/
/-! 52 PostRoomModel.toldStreet()V -/
set_option maxRecDepth 16384 in
theorem t_52 {d : Nat} {h : AH} (hs : Sh h)  :
    E (d + 1) 52 [.ref 189] h =
  (gd (gI h 3598 189) 2 <|
  if gA h 205 (ix (gI h 3598 189)) = nI 60 then
   cK (E d 47 [.ref 189, .int (nI 1)] h) (Q d 52 25 [some (.ref 189), some (.int (gA h 205 (ix (gI h 3598 189)))), none, none]) []
  else
   cK (E d 47 [.ref 189, .int (nI 0)] h) (Q d 52 25 [some (.ref 189), some (.int (gA h 205 (ix (gI h 3598 189)))), none, none]) []) := by
  rw [← hs.1]
  exact entL (l := [some (.ref 189), none, none, none]) rfl rfl ((blkM (fun p => Nat.beq p 25) 14 0 _ _ _).trans rfl)

set_option maxRecDepth 16384 in
theorem t_52_25 {d : Nat} {h : AH} (hs : Sh h) (x1 : Int32) (u2 : Option Value) (u3 : Option Value) :
    Q d 52 25 [some (.ref 189), some (.int x1), u2, u3] [] h =
  if (nI 0) < gI h 3596 189 then
   some (none, h)
  else
   Q d 52 45 [some (.ref 189), none, some (.int (((nI 60) * (gI h 3598 189)) + x1)), some (.int (nI 0))] [] h := by
  rw [← hs.1]
  exact (blkM (fun p => Nat.beq p 45) 14 25 _ _ _).trans rfl

set_option maxRecDepth 16384 in
theorem t_52_45 {d : Nat} {h : AH} (hs : Sh h) (x2 : Int32) (x3 : Int32) :
    Q d 52 45 [some (.ref 189), none, some (.int x2), some (.int x3)] [] h =
  if x3 < nI 3 then
   gd (gI h 3595 189) 4002 <|
   if gA h 194 (ix (gI h 3595 189)) = nI 1 then
    cK (E d 45 [.ref 189, .int (nI 4)] h) (Q d 52 68 [some (.ref 189), none, some (.int x2), some (.int x3)]) []
   else
    if x3 = nI 0 then
     cK (E d 48 [.ref 189, .int (nI 1)] h) (Q d 52 115 [some (.ref 189), none, some (.int x2), some (.int x3)]) []
    else
     Q d 52 115 [some (.ref 189), none, some (.int x2), some (.int x3)] [] h
  else
   if x3 = nI 0 then
    cK (E d 48 [.ref 189, .int (nI 1)] h) (Q d 52 115 [some (.ref 189), none, some (.int x2), some (.int x3)]) []
   else
    Q d 52 115 [some (.ref 189), none, some (.int x2), some (.int x3)] [] h := by
  rw [← hs.1]
  exact (blkM (fun p => Nat.beq p 68 || Nat.beq p 115) 16 45 _ _ _).trans rfl

set_option maxRecDepth 16384 in
theorem t_52_68 {d : Nat} {h : AH} (hs : Sh h) (x2 : Int32) (x3 : Int32) (u1 : Option Value) (s0 : Int32) :
    Q d 52 68 [some (.ref 189), u1, some (.int x2), some (.int x3)] [.int s0] h =
  if s0 = nI 0 then
   gd (gI h 3595 189) 4002 <|
   gd (((nI 3) * x2) + x3) 360 <|
   Q d 52 45 [some (.ref 189), none, some (.int x2), some (.int (x3 + nI 1))] [] (sI (sB h 206 (ix (((nI 3) * x2) + x3)) (gB h 196 (ix (gI h 3595 189)))) 3595 189 ((gI h 3595 189) + (nI 1)))
  else
   if x3 = nI 0 then
    cK (E d 48 [.ref 189, .int (nI 1)] h) (Q d 52 115 [some (.ref 189), none, some (.int x2), some (.int x3)]) []
   else
    Q d 52 115 [some (.ref 189), none, some (.int x2), some (.int x3)] [] h := by
  rw [← hs.1]
  exact (blkM (fun p => Nat.beq p 45 || Nat.beq p 115) 24 68 _ _ _).trans rfl

set_option maxRecDepth 16384 in
theorem t_52_115 {d : Nat} {h : AH} (hs : Sh h) (x2 : Int32) (x3 : Int32) :
    Q d 52 115 [some (.ref 189), none, some (.int x2), some (.int x3)] [] h =
  (gd x2 120 <|
  cK (E d 53 [.ref 189, .int (nI 4)] (sA h 207 (ix x2) x3)) (Q d 52 127 [some (.ref 189), none, some (.int x2), some (.int x3)]) []) := by
  rw [← hs.1]
  exact (blkM (fun p => Nat.beq p 127) 9 115 _ _ _).trans rfl

set_option maxRecDepth 16384 in
theorem t_52_127 {d : Nat} {h : AH} (hs : Sh h) (x2 : Int32) (u1 : Option Value) (u3 : Option Value) :
    Q d 52 127 [some (.ref 189), u1, some (.int x2), u3] [] h =
  cK (E d 54 [.ref 189] h) (Q d 52 136 [some (.ref 189), u1, some (.int x2), u3]) [.int x2, .ref 208] := by
  rw [← hs.1]
  exact (blkM (fun p => Nat.beq p 136) 6 127 _ _ _).trans rfl

set_option maxRecDepth 16384 in
theorem t_52_136 {d : Nat} {h : AH} (hs : Sh h) (x2 : Int32) (u1 : Option Value) (u3 : Option Value) (s0 : Nat) (s1 : Int32) (s2 : Int32) :
    Q d 52 136 [some (.ref 189), u1, some (.int x2), u3] [.int s2, .int s1, .ref s0] h =
  (cw (gC h s0) 60 s0 <|
  gd s1 (gK h s0) <|
  cK (E d 55 [.ref 189, .int (nI 5)] (sA h s0 (ix s1) s2)) (Q d 52 147 [some (.ref 189), u1, some (.int x2), u3]) [.int x2, .ref 209]) := by
  rw [← hs.1]
  exact (blkM (fun p => Nat.beq p 147) 8 136 _ _ _).trans rfl

set_option maxRecDepth 16384 in
theorem t_52_147 {d : Nat} {h : AH} (hs : Sh h) (x2 : Int32) (u1 : Option Value) (u3 : Option Value) (s0 : Nat) (s1 : Int32) (s2 : Int32) :
    Q d 52 147 [some (.ref 189), u1, some (.int x2), u3] [.int s2, .int s1, .ref s0] h =
  if s2 = nI 0 then
   cK (E d 55 [.ref 189, .int (nI 6)] h) (Q d 52 160 [some (.ref 189), u1, some (.int x2), u3]) [.int s1, .ref s0]
  else
   cw (gC h s0) 60 s0 <|
   gd s1 (gK h s0) <|
   cK (E d 53 [.ref 189, .int (nI 7)] (sA h s0 (ix s1) (nI 1))) (Q d 52 175 [some (.ref 189), none, some (.int x2), none]) [] := by
  rw [← hs.1]
  exact (blkM (fun p => Nat.beq p 160 || Nat.beq p 175) 8 147 _ _ _).trans rfl

set_option maxRecDepth 16384 in
theorem t_52_160 {d : Nat} {h : AH} (hs : Sh h) (x2 : Int32) (u1 : Option Value) (u3 : Option Value) (s0 : Nat) (s1 : Int32) (s2 : Int32) :
    Q d 52 160 [some (.ref 189), u1, some (.int x2), u3] [.int s2, .int s1, .ref s0] h =
  if s2 = nI 0 then
   cw (gC h s0) 60 s0 <|
   gd s1 (gK h s0) <|
   cK (E d 53 [.ref 189, .int (nI 7)] (sA h s0 (ix s1) (nI 0))) (Q d 52 175 [some (.ref 189), none, some (.int x2), none]) []
  else
   cw (gC h s0) 60 s0 <|
   gd s1 (gK h s0) <|
   cK (E d 53 [.ref 189, .int (nI 7)] (sA h s0 (ix s1) (nI 2))) (Q d 52 175 [some (.ref 189), none, some (.int x2), none]) [] := by
  rw [← hs.1]
  exact (blkM (fun p => Nat.beq p 175) 8 160 _ _ _).trans rfl

set_option maxRecDepth 16384 in
theorem t_52_175 {d : Nat} {h : AH} (hs : Sh h) (x2 : Int32) (u1 : Option Value) (u3 : Option Value) :
    Q d 52 175 [some (.ref 189), u1, some (.int x2), u3] [] h =
  cK (E d 50 [.ref 189, .int (nI 1), .int (nI 999)] h) (Q d 52 188 [some (.ref 189), u1, some (.int x2), u3]) [.int x2, .ref 210] := by
  rw [← hs.1]
  exact (blkM (fun p => Nat.beq p 188) 8 175 _ _ _).trans rfl

set_option maxRecDepth 16384 in
theorem t_52_188 {d : Nat} {h : AH} (hs : Sh h) (x2 : Int32) (u1 : Option Value) (u3 : Option Value) (s0 : Nat) (s1 : Int32) (s2 : Int32) :
    Q d 52 188 [some (.ref 189), u1, some (.int x2), u3] [.int s2, .int s1, .ref s0] h =
  (cw (gC h s0) 60 s0 <|
  gd s1 (gK h s0) <|
  cK (E d 53 [.ref 189, .int (nI 8)] (sA h s0 (ix s1) s2)) (Q d 52 195 [some (.ref 189), u1, some (.int x2), u3]) []) := by
  rw [← hs.1]
  exact (blkM (fun p => Nat.beq p 195) 5 188 _ _ _).trans rfl

set_option maxRecDepth 16384 in
theorem t_52_195 {d : Nat} {h : AH} (hs : Sh h) (x2 : Int32) (u1 : Option Value) (u3 : Option Value) :
    Q d 52 195 [some (.ref 189), u1, some (.int x2), u3] [] h =
  (gd x2 120 <|
  cK (E d 50 [.ref 189, .int (gA h 210 (ix x2)), .int (nI 999)] h) (Q d 52 213 [some (.ref 189), u1, some (.int x2), u3]) [.int x2, .ref 211]) := by
  rw [← hs.1]
  exact (blkM (fun p => Nat.beq p 213) 11 195 _ _ _).trans rfl

set_option maxRecDepth 16384 in
theorem t_52_213 {d : Nat} {h : AH} (hs : Sh h) (x2 : Int32) (u1 : Option Value) (u3 : Option Value) (s0 : Nat) (s1 : Int32) (s2 : Int32) :
    Q d 52 213 [some (.ref 189), u1, some (.int x2), u3] [.int s2, .int s1, .ref s0] h =
  (cw (gC h s0) 60 s0 <|
  gd s1 (gK h s0) <|
  cK (E d 53 [.ref 189, .int (nI 9)] (sA h s0 (ix s1) s2)) (Q d 52 220 [some (.ref 189), u1, some (.int x2), u3]) []) := by
  rw [← hs.1]
  exact (blkM (fun p => Nat.beq p 220) 5 213 _ _ _).trans rfl

set_option maxRecDepth 16384 in
theorem t_52_220 {d : Nat} {h : AH} (hs : Sh h) (x2 : Int32) (u1 : Option Value) (u3 : Option Value) :
    Q d 52 220 [some (.ref 189), u1, some (.int x2), u3] [] h =
  cK (E d 50 [.ref 189, .int (nI 0), .int (nI 999)] h) (Q d 52 233 [some (.ref 189), u1, some (.int x2), u3]) [.int x2, .ref 212] := by
  rw [← hs.1]
  exact (blkM (fun p => Nat.beq p 233) 8 220 _ _ _).trans rfl

set_option maxRecDepth 16384 in
theorem t_52_233 {d : Nat} {h : AH} (hs : Sh h) (x2 : Int32) (u1 : Option Value) (u3 : Option Value) (s0 : Nat) (s1 : Int32) (s2 : Int32) :
    Q d 52 233 [some (.ref 189), u1, some (.int x2), u3] [.int s2, .int s1, .ref s0] h =
  (cw (gC h s0) 60 s0 <|
  gd s1 (gK h s0) <|
  cK (E d 50 [.ref 189, .int (nI 0), .int (nI 999)] (sA h s0 (ix s1) s2)) (Q d 52 247 [some (.ref 189), u1, some (.int x2), u3]) [.int x2, .ref 213]) := by
  rw [← hs.1]
  exact (blkM (fun p => Nat.beq p 247) 9 233 _ _ _).trans rfl

set_option maxRecDepth 16384 in
theorem t_52_247 {d : Nat} {h : AH} (hs : Sh h) (x2 : Int32) (u1 : Option Value) (u3 : Option Value) (s0 : Nat) (s1 : Int32) (s2 : Int32) :
    Q d 52 247 [some (.ref 189), u1, some (.int x2), u3] [.int s2, .int s1, .ref s0] h =
  (cw (gC h s0) 60 s0 <|
  gd s1 (gK h s0) <|
  cK (E d 56 [.ref 189, .int (nI 10), .int (nI 13)] (sA h s0 (ix s1) s2)) (Q d 52 261 [some (.ref 189), u1, some (.int x2), u3]) [.int x2, .ref 214]) := by
  rw [← hs.1]
  exact (blkM (fun p => Nat.beq p 261) 9 247 _ _ _).trans rfl

set_option maxRecDepth 16384 in
theorem t_52_261 {d : Nat} {h : AH} (hs : Sh h) (x2 : Int32) (u1 : Option Value) (u3 : Option Value) (s0 : Nat) (s1 : Int32) (s2 : Int32) :
    Q d 52 261 [some (.ref 189), u1, some (.int x2), u3] [.int s2, .int s1, .ref s0] h =
  (cw (gC h s0) 60 s0 <|
  gd s1 (gK h s0) <|
  cK (E d 53 [.ref 189, .int (nI 14)] (sA h s0 (ix s1) s2)) (Q d 52 268 [some (.ref 189), u1, some (.int x2), u3]) []) := by
  rw [← hs.1]
  exact (blkM (fun p => Nat.beq p 268) 5 261 _ _ _).trans rfl

set_option maxRecDepth 16384 in
theorem t_52_268 {d : Nat} {h : AH} (hs : Sh h) (x2 : Int32) (u1 : Option Value) (u3 : Option Value) :
    Q d 52 268 [some (.ref 189), u1, some (.int x2), u3] [] h =
  cK (E d 50 [.ref 189, .int (nI 0), .int (nI 9)] h) (Q d 52 280 [some (.ref 189), u1, some (.int x2), u3]) [.int x2, .ref 215] := by
  rw [← hs.1]
  exact (blkM (fun p => Nat.beq p 280) 8 268 _ _ _).trans rfl

set_option maxRecDepth 16384 in
theorem t_52_280 {d : Nat} {h : AH} (hs : Sh h) (u1 : Option Value) (u2 : Option Value) (u3 : Option Value) (s0 : Nat) (s1 : Int32) (s2 : Int32) :
    Q d 52 280 [some (.ref 189), u1, u2, u3] [.int s2, .int s1, .ref s0] h =
  (cw (gC h s0) 60 s0 <|
  gd s1 (gK h s0) <|
  gd (gI h 3598 189) 2 <|
  gd (gI h 3598 189) 2 <|
  some (none, sA (sA h s0 (ix s1) s2) 205 (ix (gI h 3598 189)) ((gA (sA h s0 (ix s1) s2) 205 (ix (gI h 3598 189))) + (nI 1)))) := by
  rw [← hs.1]
  exact (blkM (fun p => false) 12 280 _ _ _).trans rfl

/-! 53 PostRoomModel.takeWord(I)V -/
set_option maxRecDepth 16384 in
theorem t_53 {d : Nat} {h : AH} (hs : Sh h) (x1 : Int32) :
    E (d + 1) 53 [.ref 189, .int x1] h =
  cK (E d 45 [.ref 189, .int x1] h) (Q d 53 5 [some (.ref 189), some (.int x1)]) [] := by
  rw [← hs.1]
  exact entL (l := [some (.ref 189), some (.int x1)]) rfl rfl ((blkM (fun p => Nat.beq p 5) 4 0 _ _ _).trans rfl)

set_option maxRecDepth 16384 in
theorem t_53_5 {d : Nat} {h : AH} (hs : Sh h) (u1 : Option Value) (s0 : Int32) :
    Q d 53 5 [some (.ref 189), u1] [.int s0] h =
  if s0 = nI 0 then
   cK (E d 48 [.ref 189, .int (nI 1)] h) (Q d 53 26 [none, none]) []
  else
   Q d 53 26 [none, none] [] (sI h 3595 189 ((gI h 3595 189) + (nI 1))) := by
  rw [← hs.1]
  exact (blkM (fun p => Nat.beq p 26) 10 5 _ _ _).trans rfl

set_option maxRecDepth 16384 in
theorem t_53_26 {d : Nat} {h : AH} (hs : Sh h)  :
    Q d 53 26 [none, none] [] h =
  some (none, h) := by
  rw [← hs.1]
  exact (blkM (fun p => false) 2 26 _ _ _).trans rfl

/-! 54 PostRoomModel.takeOffice()I -/
set_option maxRecDepth 16384 in
theorem t_54 {d : Nat} {h : AH} (hs : Sh h)  :
    E (d + 1) 54 [.ref 189] h =
  if (nI 0) < gI h 3596 189 then
   some (some (.int (nI 0)), h)
  else
   gd (gI h 3595 189) 4002 <|
   if gA h 194 (ix (gI h 3595 189)) = nI 1 then
    Q d 54 33 [some (.ref 189), some (.int (-1)), some (.int (nI 0))] [] h
   else
    cK (E d 48 [.ref 189, .int (nI 1)] h) (Q d 54 27 [some (.ref 189), none, none]) [] := by
  rw [← hs.1]
  exact entL (l := [some (.ref 189), none, none]) rfl rfl ((blkM (fun p => Nat.beq p 27 || Nat.beq p 33) 16 0 _ _ _).trans rfl)

set_option maxRecDepth 16384 in
theorem t_54_27 {d : Nat} {h : AH} (hs : Sh h) (u0 : Option Value) (u1 : Option Value) (u2 : Option Value) :
    Q d 54 27 [u0, u1, u2] [] h =
  some (some (.int (nI 0)), h) := by
  rw [← hs.1]
  exact (blkM (fun p => false) 3 27 _ _ _).trans rfl

set_option maxRecDepth 16384 in
theorem t_54_33 {d : Nat} {h : AH} (hs : Sh h) (x1 : Int32) (x2 : Int32) :
    Q d 54 33 [some (.ref 189), some (.int x1), some (.int x2)] [] h =
  (gd (gI h 3598 189) 2 <|
  if x2 < gA h 197 (ix (gI h 3598 189)) then
   gd (((nI 16) * (gI h 3598 189)) + x2) 32 <|
   gd (gI h 3595 189) 4002 <|
   if lg_cmp (gB h 198 (ix (((nI 16) * (gI h 3598 189)) + x2))) (gB h 196 (ix (gI h 3595 189))) = nI 0 then
    Q d 54 33 [some (.ref 189), some (.int x2), some (.int (x2 + nI 1))] [] h
   else
    Q d 54 33 [some (.ref 189), some (.int x1), some (.int (x2 + nI 1))] [] h
  else
   if x1 < nI 0 then
    cK (E d 48 [.ref 189, .int (nI 2)] h) (Q d 54 94 [some (.ref 189), some (.int x1), none]) []
   else
    Q d 54 94 [some (.ref 189), some (.int x1), none] [] h) := by
  rw [← hs.1]
  exact (blkM (fun p => Nat.beq p 33 || Nat.beq p 94) 30 33 _ _ _).trans rfl

set_option maxRecDepth 16384 in
theorem t_54_94 {d : Nat} {h : AH} (hs : Sh h) (x1 : Int32) :
    Q d 54 94 [some (.ref 189), some (.int x1), none] [] h =
  some (some (.int x1), sI h 3595 189 ((gI h 3595 189) + (nI 1))) := by
  rw [← hs.1]
  exact (blkM (fun p => false) 9 94 _ _ _).trans rfl

/-! 55 PostRoomModel.hasWord(I)Z -/
set_option maxRecDepth 16384 in
theorem t_55 {d : Nat} {h : AH} (hs : Sh h) (x1 : Int32) :
    E (d + 1) 55 [.ref 189, .int x1] h =
  cK (E d 45 [.ref 189, .int x1] h) (Q d 55 5 [some (.ref 189), some (.int x1), none]) [] := by
  rw [← hs.1]
  exact entL (l := [some (.ref 189), some (.int x1), none]) rfl rfl ((blkM (fun p => Nat.beq p 5) 4 0 _ _ _).trans rfl)

set_option maxRecDepth 16384 in
theorem t_55_5 {d : Nat} {h : AH} (hs : Sh h) (u1 : Option Value) (u2 : Option Value) (s0 : Int32) :
    Q d 55 5 [some (.ref 189), u1, u2] [.int s0] h =
  if s0 = nI 0 then
   if s0 = 0 ∨ s0 = 1 then
    some (some (.int s0), sI h 3595 189 ((gI h 3595 189) + (nI 0)))
   else
    none
  else
   if s0 = 0 ∨ s0 = 1 then
    some (some (.int s0), sI h 3595 189 ((gI h 3595 189) + (nI 1)))
   else
    none := by
  rw [← hs.1]
  exact (blkM (fun p => false) 13 5 _ _ _).trans rfl

/-! 56 PostRoomModel.oneOf(II)I -/
set_option maxRecDepth 16384 in
theorem t_56 {d : Nat} {h : AH} (hs : Sh h) (x1 : Int32) (x2 : Int32) :
    E (d + 1) 56 [.ref 189, .int x1, .int x2] h =
  Q d 56 2 [some (.ref 189), some (.int x1), some (.int x2), some (.int x1)] [] h := by
  rw [← hs.1]
  exact entL (l := [some (.ref 189), some (.int x1), some (.int x2), none]) rfl rfl ((blkM (fun p => Nat.beq p 2) 4 0 _ _ _).trans rfl)

set_option maxRecDepth 16384 in
theorem t_56_2 {d : Nat} {h : AH} (hs : Sh h) (x1 : Int32) (x2 : Int32) (x3 : Int32) :
    Q d 56 2 [some (.ref 189), some (.int x1), some (.int x2), some (.int x3)] [] h =
  if x2 < x3 then
   cK (E d 48 [.ref 189, .int (nI 1)] h) (Q d 56 30 [some (.ref 189), some (.int x1), some (.int x2), some (.int x3)]) []
  else
   cK (E d 55 [.ref 189, .int x3] h) (Q d 56 12 [some (.ref 189), some (.int x1), some (.int x2), some (.int x3)]) [] := by
  rw [← hs.1]
  exact (blkM (fun p => Nat.beq p 12 || Nat.beq p 30) 7 2 _ _ _).trans rfl

set_option maxRecDepth 16384 in
theorem t_56_12 {d : Nat} {h : AH} (hs : Sh h) (x1 : Int32) (x2 : Int32) (x3 : Int32) (s0 : Int32) :
    Q d 56 12 [some (.ref 189), some (.int x1), some (.int x2), some (.int x3)] [.int s0] h =
  if s0 = nI 0 then
   Q d 56 2 [some (.ref 189), some (.int x1), some (.int x2), some (.int (x3 + nI 1))] [] h
  else
   some (some (.int (x3 - x1)), h) := by
  rw [← hs.1]
  exact (blkM (fun p => Nat.beq p 2) 6 12 _ _ _).trans rfl

set_option maxRecDepth 16384 in
theorem t_56_30 {d : Nat} {h : AH} (hs : Sh h) (u0 : Option Value) (u1 : Option Value) (u2 : Option Value) (u3 : Option Value) :
    Q d 56 30 [u0, u1, u2, u3] [] h =
  some (some (.int (nI 0)), h) := by
  rw [← hs.1]
  exact (blkM (fun p => false) 3 30 _ _ _).trans rfl

/-! 57 PostRoomModel.toldService()V -/
set_option maxRecDepth 16384 in
theorem t_57 {d : Nat} {h : AH} (hs : Sh h)  :
    E (d + 1) 57 [.ref 189] h =
  (gd (gI h 3598 189) 2 <|
  if gA h 216 (ix (gI h 3598 189)) = nI 8 then
   cK (E d 47 [.ref 189, .int (nI 1)] h) (Q d 57 25 [some (.ref 189), some (.int (gA h 216 (ix (gI h 3598 189)))), none]) []
  else
   cK (E d 47 [.ref 189, .int (nI 0)] h) (Q d 57 25 [some (.ref 189), some (.int (gA h 216 (ix (gI h 3598 189)))), none]) []) := by
  rw [← hs.1]
  exact entL (l := [some (.ref 189), none, none]) rfl rfl ((blkM (fun p => Nat.beq p 25) 14 0 _ _ _).trans rfl)

set_option maxRecDepth 16384 in
theorem t_57_25 {d : Nat} {h : AH} (hs : Sh h) (x1 : Int32) (u2 : Option Value) :
    Q d 57 25 [some (.ref 189), some (.int x1), u2] [] h =
  if (nI 0) < gI h 3596 189 then
   some (none, h)
  else
   cK (E d 49 [.ref 189, .ref 217, .int ((nI 8) * (gI h 3598 189)), .int x1] h) (Q d 57 64 [some (.ref 189), some (.int x1), some (.int (((nI 8) * (gI h 3598 189)) + x1))]) [.int (((nI 8) * (gI h 3598 189)) + x1), .ref 217] := by
  rw [← hs.1]
  exact (blkM (fun p => Nat.beq p 64) 23 25 _ _ _).trans rfl

set_option maxRecDepth 16384 in
theorem t_57_64 {d : Nat} {h : AH} (hs : Sh h) (x2 : Int32) (u1 : Option Value) (s0 : Nat) (s1 : Int32) (s2 : Int64) :
    Q d 57 64 [some (.ref 189), u1, some (.int x2)] [.long s2, .int s1, .ref s0] h =
  (cw (gC h s0) 61 s0 <|
  gd s1 (gK h s0) <|
  cK (E d 56 [.ref 189, .int (nI 16), .int (nI 18)] (sB h s0 (ix s1) s2)) (Q d 57 78 [some (.ref 189), u1, some (.int x2)]) [.int x2, .ref 218]) := by
  rw [← hs.1]
  exact (blkM (fun p => Nat.beq p 78) 9 64 _ _ _).trans rfl

set_option maxRecDepth 16384 in
theorem t_57_78 {d : Nat} {h : AH} (hs : Sh h) (x2 : Int32) (u1 : Option Value) (s0 : Nat) (s1 : Int32) (s2 : Int32) :
    Q d 57 78 [some (.ref 189), u1, some (.int x2)] [.int s2, .int s1, .ref s0] h =
  (cw (gC h s0) 60 s0 <|
  gd s1 (gK h s0) <|
  cK (E d 53 [.ref 189, .int (nI 19)] (sA h s0 (ix s1) s2)) (Q d 57 85 [some (.ref 189), u1, some (.int x2)]) []) := by
  rw [← hs.1]
  exact (blkM (fun p => Nat.beq p 85) 5 78 _ _ _).trans rfl

set_option maxRecDepth 16384 in
theorem t_57_85 {d : Nat} {h : AH} (hs : Sh h) (x2 : Int32) (u1 : Option Value) :
    Q d 57 85 [some (.ref 189), u1, some (.int x2)] [] h =
  cK (E d 50 [.ref 189, .int (nI 1), .int (nI 4000)] h) (Q d 57 98 [some (.ref 189), u1, some (.int x2)]) [.int x2, .ref 219] := by
  rw [← hs.1]
  exact (blkM (fun p => Nat.beq p 98) 8 85 _ _ _).trans rfl

set_option maxRecDepth 16384 in
theorem t_57_98 {d : Nat} {h : AH} (hs : Sh h) (x2 : Int32) (u1 : Option Value) (s0 : Nat) (s1 : Int32) (s2 : Int32) :
    Q d 57 98 [some (.ref 189), u1, some (.int x2)] [.int s2, .int s1, .ref s0] h =
  (cw (gC h s0) 60 s0 <|
  gd s1 (gK h s0) <|
  gd x2 16 <|
  Q d 57 106 [some (.ref 189), none, some (.int x2)] [] (sA (sA h s0 (ix s1) s2) 220 (ix x2) (nI 0))) := by
  rw [← hs.1]
  exact (blkM (fun p => Nat.beq p 106) 8 98 _ _ _).trans rfl

set_option maxRecDepth 16384 in
theorem t_57_106 {d : Nat} {h : AH} (hs : Sh h) (x2 : Int32) :
    Q d 57 106 [some (.ref 189), none, some (.int x2)] [] h =
  if gI h 3596 189 = nI 0 then
   cK (E d 58 [.ref 189, .int (nI 59)] h) (Q d 57 119 [some (.ref 189), none, some (.int x2)]) []
  else
   gd (gI h 3598 189) 2 <|
   gd (gI h 3598 189) 2 <|
   some (none, sA h 216 (ix (gI h 3598 189)) ((gA h 216 (ix (gI h 3598 189))) + (nI 1))) := by
  rw [← hs.1]
  exact (blkM (fun p => Nat.beq p 119) 14 106 _ _ _).trans rfl

set_option maxRecDepth 16384 in
theorem t_57_119 {d : Nat} {h : AH} (hs : Sh h) (x2 : Int32) (u1 : Option Value) (s0 : Int32) :
    Q d 57 119 [some (.ref 189), u1, some (.int x2)] [.int s0] h =
  if s0 = nI 0 then
   cK (E d 59 [.ref 189, .int x2] h) (Q d 57 127 [some (.ref 189), u1, some (.int x2)]) []
  else
   gd (gI h 3598 189) 2 <|
   gd (gI h 3598 189) 2 <|
   some (none, sA h 216 (ix (gI h 3598 189)) ((gA h 216 (ix (gI h 3598 189))) + (nI 1))) := by
  rw [← hs.1]
  exact (blkM (fun p => Nat.beq p 127) 12 119 _ _ _).trans rfl

set_option maxRecDepth 16384 in
theorem t_57_127 {d : Nat} {h : AH} (hs : Sh h) (x2 : Int32) (u1 : Option Value) :
    Q d 57 127 [some (.ref 189), u1, some (.int x2)] [] h =
  Q d 57 106 [some (.ref 189), none, some (.int x2)] [] h := by
  rw [← hs.1]
  exact (blkM (fun p => Nat.beq p 106) 3 127 _ _ _).trans rfl

/-! 58 PostRoomModel.isAt(I)Z -/
set_option maxRecDepth 16384 in
theorem t_58 {d : Nat} {h : AH} (hs : Sh h) (x1 : Int32) :
    E (d + 1) 58 [.ref 189, .int x1] h =
  if gI h 3596 189 = nI 0 then
   gd (gI h 3595 189) 4002 <|
   if gA h 194 (ix (gI h 3595 189)) = nI 3 then
    gd (gI h 3595 189) 4002 <|
    if lg_cmp (gB h 196 (ix (gI h 3595 189))) x1.toInt64 = nI 0 then
     some (some (.int (nI 1)), h)
    else
     some (some (.int (nI 0)), h)
   else
    some (some (.int (nI 0)), h)
  else
   some (some (.int (nI 0)), h) := by
  rw [← hs.1]
  exact entL (l := [some (.ref 189), some (.int x1)]) rfl rfl ((blkM (fun p => false) 23 0 _ _ _).trans rfl)

/-! 59 PostRoomModel.toldRule(I)V -/
set_option maxRecDepth 16384 in
theorem t_59 {d : Nat} {h : AH} (hs : Sh h) (x1 : Int32) :
    E (d + 1) 59 [.ref 189, .int x1] h =
  Q d 59 8 [some (.ref 189), some (.int x1), some (.int (gI h 3595 189)), some (.int (nI 20)), none] [] h := by
  rw [← hs.1]
  exact entL (l := [some (.ref 189), some (.int x1), none, none, none]) rfl rfl ((blkM (fun p => Nat.beq p 8) 7 0 _ _ _).trans rfl)

set_option maxRecDepth 16384 in
theorem t_59_8 {d : Nat} {h : AH} (hs : Sh h) (x1 : Int32) (x2 : Int32) (x3 : Int32) :
    Q d 59 8 [some (.ref 189), some (.int x1), some (.int x2), some (.int x3), none] [] h =
  if (nI 27) < x3 then
   if (nI 27) < x3 then
    cK (E d 48 [.ref 189, .int (nI 1)] h) (Q d 59 45 [some (.ref 189), some (.int x1), some (.int x2), some (.int x3), none]) []
   else
    gd x1 16 <|
    if gA h 220 (ix x1) = nI 8 then
     cK (E d 48 [.ref 189, .int (nI 5)] h) (Q d 59 62 [some (.ref 189), some (.int x1), some (.int x2), some (.int x3), none]) []
    else
     gd x1 16 <|
     gd (((nI 8) * x1) + (gA h 220 (ix x1))) 128 <|
     if x3 = nI 21 then
      cK (E d 50 [.ref 189, .int (nI 1), .int (nI 4000)] (sA (sI h 3595 189 (x2 + (nI 1))) 221 (ix (((nI 8) * x1) + (gA h 220 (ix x1)))) x3)) (Q d 59 111 [some (.ref 189), some (.int x1), some (.int x2), some (.int x3), some (.int (((nI 8) * x1) + (gA h 220 (ix x1))))]) [.int (((nI 8) * x1) + (gA h 220 (ix x1))), .ref 223]
     else
      if x3 = nI 23 then
       cK (E d 50 [.ref 189, .int (nI 0), .int (nI 9)] (sA (sI h 3595 189 (x2 + (nI 1))) 221 (ix (((nI 8) * x1) + (gA h 220 (ix x1)))) x3)) (Q d 59 131 [some (.ref 189), some (.int x1), none, some (.int x3), some (.int (((nI 8) * x1) + (gA h 220 (ix x1))))]) [.int (((nI 8) * x1) + (gA h 220 (ix x1))), .ref 222]
      else
       if x3 = nI 27 then
        cK (E d 50 [.ref 189, .int (nI 1), .int (nI 99)] (sA (sI h 3595 189 (x2 + (nI 1))) 221 (ix (((nI 8) * x1) + (gA h 220 (ix x1)))) x3)) (Q d 59 147 [some (.ref 189), some (.int x1), none, some (.int x3), some (.int (((nI 8) * x1) + (gA h 220 (ix x1))))]) [.int (((nI 8) * x1) + (gA h 220 (ix x1))), .ref 222]
       else
        cK (E d 50 [.ref 189, .int (nI 0), .int (nI 9999)] (sA (sI h 3595 189 (x2 + (nI 1))) 221 (ix (((nI 8) * x1) + (gA h 220 (ix x1)))) x3)) (Q d 59 158 [some (.ref 189), some (.int x1), none, some (.int x3), some (.int (((nI 8) * x1) + (gA h 220 (ix x1))))]) [.int (((nI 8) * x1) + (gA h 220 (ix x1))), .ref 222]
  else
   cK (E d 45 [.ref 189, .int x3] h) (Q d 59 19 [some (.ref 189), some (.int x1), some (.int x2), some (.int x3), none]) [] := by
  rw [← hs.1]
  exact (blkM (fun p => Nat.beq p 19 || Nat.beq p 45 || Nat.beq p 62 || Nat.beq p 111 || Nat.beq p 131 || Nat.beq p 147 || Nat.beq p 158) 48 8 _ _ _).trans rfl

set_option maxRecDepth 16384 in
theorem t_59_19 {d : Nat} {h : AH} (hs : Sh h) (x1 : Int32) (x2 : Int32) (x3 : Int32) (u4 : Option Value) (s0 : Int32) :
    Q d 59 19 [some (.ref 189), some (.int x1), some (.int x2), some (.int x3), u4] [.int s0] h =
  if s0 = nI 0 then
   Q d 59 8 [some (.ref 189), some (.int x1), some (.int x2), some (.int (x3 + nI 1)), none] [] h
  else
   if x3 = nI 22 then
    Q d 59 8 [some (.ref 189), some (.int x1), some (.int x2), some (.int (x3 + nI 1)), none] [] h
   else
    if (nI 27) < x3 then
     cK (E d 48 [.ref 189, .int (nI 1)] h) (Q d 59 45 [some (.ref 189), some (.int x1), some (.int x2), some (.int x3), none]) []
    else
     gd x1 16 <|
     if gA h 220 (ix x1) = nI 8 then
      cK (E d 48 [.ref 189, .int (nI 5)] h) (Q d 59 62 [some (.ref 189), some (.int x1), some (.int x2), some (.int x3), none]) []
     else
      gd x1 16 <|
      gd (((nI 8) * x1) + (gA h 220 (ix x1))) 128 <|
      if x3 = nI 21 then
       cK (E d 50 [.ref 189, .int (nI 1), .int (nI 4000)] (sA (sI h 3595 189 (x2 + (nI 1))) 221 (ix (((nI 8) * x1) + (gA h 220 (ix x1)))) x3)) (Q d 59 111 [some (.ref 189), some (.int x1), some (.int x2), some (.int x3), some (.int (((nI 8) * x1) + (gA h 220 (ix x1))))]) [.int (((nI 8) * x1) + (gA h 220 (ix x1))), .ref 223]
      else
       if x3 = nI 23 then
        cK (E d 50 [.ref 189, .int (nI 0), .int (nI 9)] (sA (sI h 3595 189 (x2 + (nI 1))) 221 (ix (((nI 8) * x1) + (gA h 220 (ix x1)))) x3)) (Q d 59 131 [some (.ref 189), some (.int x1), none, some (.int x3), some (.int (((nI 8) * x1) + (gA h 220 (ix x1))))]) [.int (((nI 8) * x1) + (gA h 220 (ix x1))), .ref 222]
       else
        if x3 = nI 27 then
         cK (E d 50 [.ref 189, .int (nI 1), .int (nI 99)] (sA (sI h 3595 189 (x2 + (nI 1))) 221 (ix (((nI 8) * x1) + (gA h 220 (ix x1)))) x3)) (Q d 59 147 [some (.ref 189), some (.int x1), none, some (.int x3), some (.int (((nI 8) * x1) + (gA h 220 (ix x1))))]) [.int (((nI 8) * x1) + (gA h 220 (ix x1))), .ref 222]
        else
         cK (E d 50 [.ref 189, .int (nI 0), .int (nI 9999)] (sA (sI h 3595 189 (x2 + (nI 1))) 221 (ix (((nI 8) * x1) + (gA h 220 (ix x1)))) x3)) (Q d 59 158 [some (.ref 189), some (.int x1), none, some (.int x3), some (.int (((nI 8) * x1) + (gA h 220 (ix x1))))]) [.int (((nI 8) * x1) + (gA h 220 (ix x1))), .ref 222] := by
  rw [← hs.1]
  exact (blkM (fun p => Nat.beq p 8 || Nat.beq p 45 || Nat.beq p 62 || Nat.beq p 111 || Nat.beq p 131 || Nat.beq p 147 || Nat.beq p 158) 49 19 _ _ _).trans rfl

set_option maxRecDepth 16384 in
theorem t_59_45 {d : Nat} {h : AH} (hs : Sh h) (u0 : Option Value) (u1 : Option Value) (u2 : Option Value) (u3 : Option Value) (u4 : Option Value) :
    Q d 59 45 [u0, u1, u2, u3, u4] [] h =
  some (none, h) := by
  rw [← hs.1]
  exact (blkM (fun p => false) 2 45 _ _ _).trans rfl

set_option maxRecDepth 16384 in
theorem t_59_62 {d : Nat} {h : AH} (hs : Sh h) (u0 : Option Value) (u1 : Option Value) (u2 : Option Value) (u3 : Option Value) (u4 : Option Value) :
    Q d 59 62 [u0, u1, u2, u3, u4] [] h =
  some (none, h) := by
  rw [← hs.1]
  exact (blkM (fun p => false) 2 62 _ _ _).trans rfl

set_option maxRecDepth 16384 in
theorem t_59_111 {d : Nat} {h : AH} (hs : Sh h) (x1 : Int32) (x3 : Int32) (x4 : Int32) (u2 : Option Value) (s0 : Nat) (s1 : Int32) (s2 : Int32) :
    Q d 59 111 [some (.ref 189), some (.int x1), u2, some (.int x3), some (.int x4)] [.int s2, .int s1, .ref s0] h =
  (cw (gC h s0) 60 s0 <|
  gd s1 (gK h s0) <|
  if x3 = nI 23 then
   cK (E d 50 [.ref 189, .int (nI 0), .int (nI 9)] (sA h s0 (ix s1) s2)) (Q d 59 131 [some (.ref 189), some (.int x1), none, some (.int x3), some (.int x4)]) [.int x4, .ref 222]
  else
   if x3 = nI 27 then
    cK (E d 50 [.ref 189, .int (nI 1), .int (nI 99)] (sA h s0 (ix s1) s2)) (Q d 59 147 [some (.ref 189), some (.int x1), none, some (.int x3), some (.int x4)]) [.int x4, .ref 222]
   else
    cK (E d 50 [.ref 189, .int (nI 0), .int (nI 9999)] (sA h s0 (ix s1) s2)) (Q d 59 158 [some (.ref 189), some (.int x1), none, some (.int x3), some (.int x4)]) [.int x4, .ref 222]) := by
  rw [← hs.1]
  exact (blkM (fun p => Nat.beq p 131 || Nat.beq p 147 || Nat.beq p 158) 15 111 _ _ _).trans rfl

set_option maxRecDepth 16384 in
theorem t_59_131 {d : Nat} {h : AH} (hs : Sh h) (x1 : Int32) (x3 : Int32) (x4 : Int32) (u2 : Option Value) (s0 : Nat) (s1 : Int32) (s2 : Int32) :
    Q d 59 131 [some (.ref 189), some (.int x1), u2, some (.int x3), some (.int x4)] [.int s2, .int s1, .ref s0] h =
  Q d 59 158 [some (.ref 189), some (.int x1), none, some (.int x3), some (.int x4)] [.int s2, .int s1, .ref s0] h := by
  rw [← hs.1]
  exact (blkM (fun p => Nat.beq p 158) 3 131 _ _ _).trans rfl

set_option maxRecDepth 16384 in
theorem t_59_147 {d : Nat} {h : AH} (hs : Sh h) (x1 : Int32) (x3 : Int32) (x4 : Int32) (u2 : Option Value) (s0 : Nat) (s1 : Int32) (s2 : Int32) :
    Q d 59 147 [some (.ref 189), some (.int x1), u2, some (.int x3), some (.int x4)] [.int s2, .int s1, .ref s0] h =
  Q d 59 158 [some (.ref 189), some (.int x1), none, some (.int x3), some (.int x4)] [.int s2, .int s1, .ref s0] h := by
  rw [← hs.1]
  exact (blkM (fun p => Nat.beq p 158) 3 147 _ _ _).trans rfl

set_option maxRecDepth 16384 in
theorem t_59_158 {d : Nat} {h : AH} (hs : Sh h) (x1 : Int32) (x3 : Int32) (x4 : Int32) (s0 : Nat) (s1 : Int32) (s2 : Int32) :
    Q d 59 158 [some (.ref 189), some (.int x1), none, some (.int x3), some (.int x4)] [.int s2, .int s1, .ref s0] h =
  (cw (gC h s0) 60 s0 <|
  gd s1 (gK h s0) <|
  if x3 = nI 21 then
   cK (E d 53 [.ref 189, .int (nI 22)] (sA h s0 (ix s1) s2)) (Q d 59 171 [some (.ref 189), some (.int x1), none, some (.int x3), some (.int x4)]) []
  else
   if x3 = nI 23 then
    cK (E d 50 [.ref 189, .int (nI 0), .int (nI 9999)] (sA h s0 (ix s1) s2)) (Q d 59 206 [some (.ref 189), some (.int x1), none, some (.int x3), some (.int x4)]) [.int x4, .ref 223]
   else
    gd x1 16 <|
    gd x1 16 <|
    some (none, sA (sA h s0 (ix s1) s2) 220 (ix x1) ((gA (sA h s0 (ix s1) s2) 220 (ix x1)) + (nI 1)))) := by
  rw [← hs.1]
  exact (blkM (fun p => Nat.beq p 171 || Nat.beq p 206) 17 158 _ _ _).trans rfl

set_option maxRecDepth 16384 in
theorem t_59_171 {d : Nat} {h : AH} (hs : Sh h) (x1 : Int32) (x3 : Int32) (x4 : Int32) (u2 : Option Value) :
    Q d 59 171 [some (.ref 189), some (.int x1), u2, some (.int x3), some (.int x4)] [] h =
  cK (E d 50 [.ref 189, .int (nI 0), .int (nI 4000)] h) (Q d 59 185 [some (.ref 189), some (.int x1), u2, some (.int x3), some (.int x4)]) [.int x4, .ref 224] := by
  rw [← hs.1]
  exact (blkM (fun p => Nat.beq p 185) 8 171 _ _ _).trans rfl

set_option maxRecDepth 16384 in
theorem t_59_206 {d : Nat} {h : AH} (hs : Sh h) (x1 : Int32) (u2 : Option Value) (u3 : Option Value) (u4 : Option Value) (s0 : Nat) (s1 : Int32) (s2 : Int32) :
    Q d 59 206 [some (.ref 189), some (.int x1), u2, u3, u4] [.int s2, .int s1, .ref s0] h =
  (cw (gC h s0) 60 s0 <|
  gd s1 (gK h s0) <|
  gd x1 16 <|
  gd x1 16 <|
  some (none, sA (sA h s0 (ix s1) s2) 220 (ix x1) ((gA (sA h s0 (ix s1) s2) 220 (ix x1)) + (nI 1)))) := by
  rw [← hs.1]
  exact (blkM (fun p => false) 11 206 _ _ _).trans rfl

set_option maxRecDepth 16384 in
theorem t_59_185 {d : Nat} {h : AH} (hs : Sh h) (x1 : Int32) (x3 : Int32) (x4 : Int32) (u2 : Option Value) (s0 : Nat) (s1 : Int32) (s2 : Int32) :
    Q d 59 185 [some (.ref 189), some (.int x1), u2, some (.int x3), some (.int x4)] [.int s2, .int s1, .ref s0] h =
  (cw (gC h s0) 60 s0 <|
  gd s1 (gK h s0) <|
  if x3 = nI 23 then
   cK (E d 50 [.ref 189, .int (nI 0), .int (nI 9999)] (sA h s0 (ix s1) s2)) (Q d 59 206 [some (.ref 189), some (.int x1), none, some (.int x3), some (.int x4)]) [.int x4, .ref 223]
  else
   gd x1 16 <|
   gd x1 16 <|
   some (none, sA (sA h s0 (ix s1) s2) 220 (ix x1) ((gA (sA h s0 (ix s1) s2) 220 (ix x1)) + (nI 1)))) := by
  rw [← hs.1]
  exact (blkM (fun p => Nat.beq p 206) 14 185 _ _ _).trans rfl

/-! 60 PostRoomModel.toldCoach()V -/
set_option maxRecDepth 16384 in
theorem t_60 {d : Nat} {h : AH} (hs : Sh h)  :
    E (d + 1) 60 [.ref 189] h =
  (gd (gI h 3598 189) 2 <|
  if gA h 225 (ix (gI h 3598 189)) = nI 40 then
   cK (E d 47 [.ref 189, .int (nI 1)] h) (Q d 60 25 [some (.ref 189), some (.int (gA h 225 (ix (gI h 3598 189)))), none]) []
  else
   cK (E d 47 [.ref 189, .int (nI 0)] h) (Q d 60 25 [some (.ref 189), some (.int (gA h 225 (ix (gI h 3598 189)))), none]) []) := by
  rw [← hs.1]
  exact entL (l := [some (.ref 189), none, none]) rfl rfl ((blkM (fun p => Nat.beq p 25) 14 0 _ _ _).trans rfl)

set_option maxRecDepth 16384 in
theorem t_60_25 {d : Nat} {h : AH} (hs : Sh h) (x1 : Int32) (u2 : Option Value) :
    Q d 60 25 [some (.ref 189), some (.int x1), u2] [] h =
  if (nI 0) < gI h 3596 189 then
   some (none, h)
  else
   cK (E d 54 [.ref 189] h) (Q d 60 52 [some (.ref 189), some (.int x1), some (.int (((nI 40) * (gI h 3598 189)) + x1))]) [.int (((nI 40) * (gI h 3598 189)) + x1), .ref 226] := by
  rw [← hs.1]
  exact (blkM (fun p => Nat.beq p 52) 16 25 _ _ _).trans rfl

set_option maxRecDepth 16384 in
theorem t_60_52 {d : Nat} {h : AH} (hs : Sh h) (x2 : Int32) (u1 : Option Value) (s0 : Nat) (s1 : Int32) (s2 : Int32) :
    Q d 60 52 [some (.ref 189), u1, some (.int x2)] [.int s2, .int s1, .ref s0] h =
  (cw (gC h s0) 60 s0 <|
  gd s1 (gK h s0) <|
  cK (E d 54 [.ref 189] (sA h s0 (ix s1) s2)) (Q d 60 62 [some (.ref 189), u1, some (.int x2)]) [.int x2, .ref 227]) := by
  rw [← hs.1]
  exact (blkM (fun p => Nat.beq p 62) 7 52 _ _ _).trans rfl

set_option maxRecDepth 16384 in
theorem t_60_62 {d : Nat} {h : AH} (hs : Sh h) (x2 : Int32) (u1 : Option Value) (s0 : Nat) (s1 : Int32) (s2 : Int32) :
    Q d 60 62 [some (.ref 189), u1, some (.int x2)] [.int s2, .int s1, .ref s0] h =
  (cw (gC h s0) 60 s0 <|
  gd s1 (gK h s0) <|
  if gI h 3596 189 = nI 0 then
   gd x2 80 <|
   gd x2 80 <|
   if gA (sA h s0 (ix s1) s2) 227 (ix x2) = gA (sA h s0 (ix s1) s2) 226 (ix x2) then
    cK (E d 48 [.ref 189, .int (nI 3)] (sI (sA h s0 (ix s1) s2) 3595 189 ((gI h 3595 189) - (nI 1)))) (Q d 60 100 [some (.ref 189), none, some (.int x2)]) []
   else
    Q d 60 100 [some (.ref 189), none, some (.int x2)] [] (sA h s0 (ix s1) s2)
  else
   Q d 60 100 [some (.ref 189), none, some (.int x2)] [] (sA h s0 (ix s1) s2)) := by
  rw [← hs.1]
  exact (blkM (fun p => Nat.beq p 100) 23 62 _ _ _).trans rfl

set_option maxRecDepth 16384 in
theorem t_60_100 {d : Nat} {h : AH} (hs : Sh h) (x2 : Int32) :
    Q d 60 100 [some (.ref 189), none, some (.int x2)] [] h =
  cK (E d 53 [.ref 189, .int (nI 29)] h) (Q d 60 106 [some (.ref 189), none, some (.int x2)]) [] := by
  rw [← hs.1]
  exact (blkM (fun p => Nat.beq p 106) 4 100 _ _ _).trans rfl

set_option maxRecDepth 16384 in
theorem t_60_106 {d : Nat} {h : AH} (hs : Sh h) (x2 : Int32) (u1 : Option Value) :
    Q d 60 106 [some (.ref 189), u1, some (.int x2)] [] h =
  cK (E d 50 [.ref 189, .int (nI 0), .int (nI 1439)] h) (Q d 60 119 [some (.ref 189), u1, some (.int x2)]) [.int x2, .ref 228] := by
  rw [← hs.1]
  exact (blkM (fun p => Nat.beq p 119) 8 106 _ _ _).trans rfl

set_option maxRecDepth 16384 in
theorem t_60_119 {d : Nat} {h : AH} (hs : Sh h) (x2 : Int32) (u1 : Option Value) (s0 : Nat) (s1 : Int32) (s2 : Int32) :
    Q d 60 119 [some (.ref 189), u1, some (.int x2)] [.int s2, .int s1, .ref s0] h =
  (cw (gC h s0) 60 s0 <|
  gd s1 (gK h s0) <|
  cK (E d 53 [.ref 189, .int (nI 30)] (sA h s0 (ix s1) s2)) (Q d 60 126 [some (.ref 189), u1, some (.int x2)]) []) := by
  rw [← hs.1]
  exact (blkM (fun p => Nat.beq p 126) 5 119 _ _ _).trans rfl

set_option maxRecDepth 16384 in
theorem t_60_126 {d : Nat} {h : AH} (hs : Sh h) (x2 : Int32) (u1 : Option Value) :
    Q d 60 126 [some (.ref 189), u1, some (.int x2)] [] h =
  cK (E d 50 [.ref 189, .int (nI 1), .int (nI 1440)] h) (Q d 60 139 [some (.ref 189), u1, some (.int x2)]) [.int x2, .ref 229] := by
  rw [← hs.1]
  exact (blkM (fun p => Nat.beq p 139) 8 126 _ _ _).trans rfl

set_option maxRecDepth 16384 in
theorem t_60_139 {d : Nat} {h : AH} (hs : Sh h) (x2 : Int32) (u1 : Option Value) (s0 : Nat) (s1 : Int32) (s2 : Int32) :
    Q d 60 139 [some (.ref 189), u1, some (.int x2)] [.int s2, .int s1, .ref s0] h =
  (cw (gC h s0) 60 s0 <|
  gd s1 (gK h s0) <|
  cK (E d 53 [.ref 189, .int (nI 31)] (sA h s0 (ix s1) s2)) (Q d 60 146 [some (.ref 189), u1, some (.int x2)]) []) := by
  rw [← hs.1]
  exact (blkM (fun p => Nat.beq p 146) 5 139 _ _ _).trans rfl

set_option maxRecDepth 16384 in
theorem t_60_146 {d : Nat} {h : AH} (hs : Sh h) (x2 : Int32) (u1 : Option Value) :
    Q d 60 146 [some (.ref 189), u1, some (.int x2)] [] h =
  (gd x2 80 <|
  cK (E d 50 [.ref 189, .int (gA h 228 (ix x2)), .int (nI 1439)] h) (Q d 60 164 [some (.ref 189), u1, some (.int x2)]) [.int x2, .ref 230]) := by
  rw [← hs.1]
  exact (blkM (fun p => Nat.beq p 164) 11 146 _ _ _).trans rfl

set_option maxRecDepth 16384 in
theorem t_60_164 {d : Nat} {h : AH} (hs : Sh h) (x2 : Int32) (u1 : Option Value) (s0 : Nat) (s1 : Int32) (s2 : Int32) :
    Q d 60 164 [some (.ref 189), u1, some (.int x2)] [.int s2, .int s1, .ref s0] h =
  (cw (gC h s0) 60 s0 <|
  gd s1 (gK h s0) <|
  cK (E d 53 [.ref 189, .int (nI 32)] (sA h s0 (ix s1) s2)) (Q d 60 171 [some (.ref 189), u1, some (.int x2)]) []) := by
  rw [← hs.1]
  exact (blkM (fun p => Nat.beq p 171) 5 164 _ _ _).trans rfl

set_option maxRecDepth 16384 in
theorem t_60_171 {d : Nat} {h : AH} (hs : Sh h) (x2 : Int32) (u1 : Option Value) :
    Q d 60 171 [some (.ref 189), u1, some (.int x2)] [] h =
  cK (E d 50 [.ref 189, .int (nI 1), .int (nI 3000)] h) (Q d 60 184 [some (.ref 189), u1, some (.int x2)]) [.int x2, .ref 231] := by
  rw [← hs.1]
  exact (blkM (fun p => Nat.beq p 184) 8 171 _ _ _).trans rfl

set_option maxRecDepth 16384 in
theorem t_60_184 {d : Nat} {h : AH} (hs : Sh h) (x2 : Int32) (u1 : Option Value) (s0 : Nat) (s1 : Int32) (s2 : Int32) :
    Q d 60 184 [some (.ref 189), u1, some (.int x2)] [.int s2, .int s1, .ref s0] h =
  (cw (gC h s0) 60 s0 <|
  gd s1 (gK h s0) <|
  cK (E d 53 [.ref 189, .int (nI 33)] (sA h s0 (ix s1) s2)) (Q d 60 191 [some (.ref 189), u1, some (.int x2)]) []) := by
  rw [← hs.1]
  exact (blkM (fun p => Nat.beq p 191) 5 184 _ _ _).trans rfl

set_option maxRecDepth 16384 in
theorem t_60_191 {d : Nat} {h : AH} (hs : Sh h) (x2 : Int32) (u1 : Option Value) :
    Q d 60 191 [some (.ref 189), u1, some (.int x2)] [] h =
  cK (E d 50 [.ref 189, .int (nI 1), .int (nI 20)] h) (Q d 60 203 [some (.ref 189), u1, some (.int x2)]) [.int x2, .ref 232] := by
  rw [← hs.1]
  exact (blkM (fun p => Nat.beq p 203) 8 191 _ _ _).trans rfl

set_option maxRecDepth 16384 in
theorem t_60_203 {d : Nat} {h : AH} (hs : Sh h) (u1 : Option Value) (u2 : Option Value) (s0 : Nat) (s1 : Int32) (s2 : Int32) :
    Q d 60 203 [some (.ref 189), u1, u2] [.int s2, .int s1, .ref s0] h =
  (cw (gC h s0) 60 s0 <|
  gd s1 (gK h s0) <|
  gd (gI h 3598 189) 2 <|
  gd (gI h 3598 189) 2 <|
  some (none, sA (sA h s0 (ix s1) s2) 225 (ix (gI h 3598 189)) ((gA (sA h s0 (ix s1) s2) 225 (ix (gI h 3598 189))) + (nI 1)))) := by
  rw [← hs.1]
  exact (blkM (fun p => false) 12 203 _ _ _).trans rfl

/-! 61 PostRoomModel.takeSign(I)V -/
set_option maxRecDepth 16384 in
theorem t_61 {d : Nat} {h : AH} (hs : Sh h) (x1 : Int32) :
    E (d + 1) 61 [.ref 189, .int x1] h =
  cK (E d 58 [.ref 189, .int x1] h) (Q d 61 5 [some (.ref 189), some (.int x1)]) [] := by
  rw [← hs.1]
  exact entL (l := [some (.ref 189), some (.int x1)]) rfl rfl ((blkM (fun p => Nat.beq p 5) 4 0 _ _ _).trans rfl)

set_option maxRecDepth 16384 in
theorem t_61_5 {d : Nat} {h : AH} (hs : Sh h) (u1 : Option Value) (s0 : Int32) :
    Q d 61 5 [some (.ref 189), u1] [.int s0] h =
  if s0 = nI 0 then
   cK (E d 48 [.ref 189, .int (nI 1)] h) (Q d 61 26 [none, none]) []
  else
   Q d 61 26 [none, none] [] (sI h 3595 189 ((gI h 3595 189) + (nI 1))) := by
  rw [← hs.1]
  exact (blkM (fun p => Nat.beq p 26) 10 5 _ _ _).trans rfl

set_option maxRecDepth 16384 in
theorem t_61_26 {d : Nat} {h : AH} (hs : Sh h)  :
    Q d 61 26 [none, none] [] h =
  some (none, h) := by
  rw [← hs.1]
  exact (blkM (fun p => false) 2 26 _ _ _).trans rfl

/-! 62 PostRoomModel.find()I -/
set_option maxRecDepth 16384 in
theorem t_62 {d : Nat} {h : AH} (hs : Sh h)  :
    E (d + 1) 62 [.ref 189] h =
  cK (E d 36 [.ref 189] (sI h 3586 189 (nI 0))) (Q d 62 9 [some (.ref 189), none]) [] := by
  rw [← hs.1]
  exact entL (l := [some (.ref 189), none]) rfl rfl ((blkM (fun p => Nat.beq p 9) 6 0 _ _ _).trans rfl)

set_option maxRecDepth 16384 in
theorem t_62_9 {d : Nat} {h : AH} (hs : Sh h) (u1 : Option Value) :
    Q d 62 9 [some (.ref 189), u1] [] h =
  cK (E d 63 [.ref 189] h) (Q d 62 13 [some (.ref 189), u1]) [] := by
  rw [← hs.1]
  exact (blkM (fun p => Nat.beq p 13) 3 9 _ _ _).trans rfl

set_option maxRecDepth 16384 in
theorem t_62_13 {d : Nat} {h : AH} (hs : Sh h) (u1 : Option Value) (s0 : Int32) :
    Q d 62 13 [some (.ref 189), u1] [.int s0] h =
  if s0 < nI 0 then
   some (some (.int s0), h)
  else
   some (some (.int s0), sI (sI h 3644 189 (gI h 3641 189)) 3645 189 (gI h 3643 189)) := by
  rw [← hs.1]
  exact (blkM (fun p => false) 14 13 _ _ _).trans rfl

/-! 63 PostRoomModel.address()I -/
set_option maxRecDepth 16384 in
theorem t_63 {d : Nat} {h : AH} (hs : Sh h)  :
    E (d + 1) 63 [.ref 189] h =
  if (nI 80) < gI h 3591 189 then
   some (some (.int (-1)), sI h 3643 189 (nI 4))
  else
   cK (E d 64 [.ref 189] (sI h 3643 189 (nI 4))) (Q d 63 20 [some (.ref 189), none, none, none]) [] := by
  rw [← hs.1]
  exact entL (l := [some (.ref 189), none, none, none]) rfl rfl ((blkM (fun p => Nat.beq p 20) 10 0 _ _ _).trans rfl)

set_option maxRecDepth 16384 in
theorem t_63_20 {d : Nat} {h : AH} (hs : Sh h) (u1 : Option Value) (u2 : Option Value) (u3 : Option Value) :
    Q d 63 20 [some (.ref 189), u1, u2, u3] [] h =
  if gI h 3638 189 < nI 2 then
   some (some (.int (-1)), h)
  else
   cK (E d 70 [.ref 189] h) (Q d 63 32 [some (.ref 189), u1, u2, u3]) [] := by
  rw [← hs.1]
  exact (blkM (fun p => Nat.beq p 32) 7 20 _ _ _).trans rfl

set_option maxRecDepth 16384 in
theorem t_63_32 {d : Nat} {h : AH} (hs : Sh h) (u1 : Option Value) (u2 : Option Value) (u3 : Option Value) (s0 : Int32) :
    Q d 63 32 [some (.ref 189), u1, u2, u3] [.int s0] h =
  if s0 = nI 0 then
   some (some (.int (-1)), h)
  else
   Q d 63 49 [some (.ref 189), some (.int ((gI h 3638 189) - (nI 1))), none, none] [] (sI h 3642 189 (-1)) := by
  rw [← hs.1]
  exact (blkM (fun p => Nat.beq p 49) 11 32 _ _ _).trans rfl

set_option maxRecDepth 16384 in
theorem t_63_49 {d : Nat} {h : AH} (hs : Sh h) (x1 : Int32) :
    Q d 63 49 [some (.ref 189), some (.int x1), none, none] [] h =
  if (nI 1) < x1 then
   cK (E d 71 [.ref 189, .int x1] h) (Q d 63 60 [some (.ref 189), some (.int x1), none, none]) [.ref 189]
  else
   if gI h 3642 189 < nI 0 then
    if gI h 3638 189 < nI 3 then
     some (some (.int (-1)), h)
    else
     Q d 63 101 [some (.ref 189), some (.int (-1)), some (.int (nI 0)), none] [] h
   else
    Q d 63 101 [some (.ref 189), some (.int (-1)), some (.int (nI 0)), none] [] h := by
  rw [← hs.1]
  exact (blkM (fun p => Nat.beq p 60 || Nat.beq p 101) 16 49 _ _ _).trans rfl

set_option maxRecDepth 16384 in
theorem t_63_60 {d : Nat} {h : AH} (hs : Sh h) (x1 : Int32) (u2 : Option Value) (u3 : Option Value) (s0 : Nat) (s1 : Int32) :
    Q d 63 60 [some (.ref 189), some (.int x1), u2, u3] [.int s1, .ref s0] h =
  if s1 = nI 0 then
   ck (gC h s0) 14 <|
   Q d 63 49 [some (.ref 189), some (.int (x1 + (-1))), none, none] [] (sI h 3642 s0 (gI h 3642 189))
  else
   ck (gC h s0) 14 <|
   Q d 63 49 [some (.ref 189), some (.int (x1 + (-1))), none, none] [] (sI h 3642 s0 x1) := by
  rw [← hs.1]
  exact (blkM (fun p => Nat.beq p 49) 8 60 _ _ _).trans rfl

set_option maxRecDepth 16384 in
theorem t_63_101 {d : Nat} {h : AH} (hs : Sh h) (x1 : Int32) (x2 : Int32) :
    Q d 63 101 [some (.ref 189), some (.int x1), some (.int x2), none] [] h =
  (gd (gI h 3597 189) 2 <|
  if x2 < gA h 205 (ix (gI h 3597 189)) then
   cK (E d 72 [.ref 189, .int x2, .int (gI h 3640 189)] h) (Q d 63 123 [some (.ref 189), some (.int x1), some (.int x2), none]) []
  else
   some (some (.int x1), h)) := by
  rw [← hs.1]
  exact (blkM (fun p => Nat.beq p 123) 13 101 _ _ _).trans rfl

set_option maxRecDepth 16384 in
theorem t_63_123 {d : Nat} {h : AH} (hs : Sh h) (x1 : Int32) (x2 : Int32) (u3 : Option Value) (s0 : Int32) :
    Q d 63 123 [some (.ref 189), some (.int x1), some (.int x2), u3] [.int s0] h =
  if s0 = nI 0 then
   if (nI 4) < gI h 3643 189 then
    Q d 63 101 [some (.ref 189), some (.int x2), some (.int (x2 + nI 1)), none] [] (sI h 3643 189 (nI 4))
   else
    if (nI 4) = gI h 3643 189 then
     if (nI 4) < nI 4 then
      Q d 63 101 [some (.ref 189), some (.int (-2)), some (.int (x2 + nI 1)), none] [] h
     else
      Q d 63 101 [some (.ref 189), some (.int x1), some (.int (x2 + nI 1)), none] [] h
    else
     Q d 63 101 [some (.ref 189), some (.int x1), some (.int (x2 + nI 1)), none] [] h
  else
   cK (E d 73 [.ref 189, .int x2] h) (Q d 63 131 [some (.ref 189), some (.int x1), some (.int x2), u3]) [] := by
  rw [← hs.1]
  exact (blkM (fun p => Nat.beq p 101 || Nat.beq p 131) 20 123 _ _ _).trans rfl

set_option maxRecDepth 16384 in
theorem t_63_131 {d : Nat} {h : AH} (hs : Sh h) (x1 : Int32) (x2 : Int32) (u3 : Option Value) (s0 : Int32) :
    Q d 63 131 [some (.ref 189), some (.int x1), some (.int x2), u3] [.int s0] h =
  if s0 < gI h 3643 189 then
   Q d 63 101 [some (.ref 189), some (.int x2), some (.int (x2 + nI 1)), none] [] (sI h 3643 189 s0)
  else
   if s0 = gI h 3643 189 then
    if s0 < nI 4 then
     Q d 63 101 [some (.ref 189), some (.int (-2)), some (.int (x2 + nI 1)), none] [] h
    else
     Q d 63 101 [some (.ref 189), some (.int x1), some (.int (x2 + nI 1)), none] [] h
   else
    Q d 63 101 [some (.ref 189), some (.int x1), some (.int (x2 + nI 1)), none] [] h := by
  rw [← hs.1]
  exact (blkM (fun p => Nat.beq p 101) 19 131 _ _ _).trans rfl

/-! 64 PostRoomModel.takeWords()V -/
set_option maxRecDepth 16384 in
theorem t_64 {d : Nat} {h : AH} (hs : Sh h)  :
    E (d + 1) 64 [.ref 189] h =
  Q d 64 12 [some (.ref 189), some (.int (nI 0)), none, none, none, none, none, none] [] (sI (sI h 3638 189 (nI 0)) 3639 189 (nI 0)) := by
  rw [← hs.1]
  exact entL (l := [some (.ref 189), none, none, none, none, none, none, none]) rfl rfl ((blkM (fun p => Nat.beq p 12) 10 0 _ _ _).trans rfl)

set_option maxRecDepth 16384 in
theorem t_64_12 {d : Nat} {h : AH} (hs : Sh h) (x1 : Int32) :
    Q d 64 12 [some (.ref 189), some (.int x1), none, none, none, none, none, none] [] h =
  if x1 < gI h 3591 189 then
   cK (E d 65 [.ref 189, .int x1] h) (Q d 64 25 [some (.ref 189), some (.int x1), none, none, none, none, none, none]) []
  else
   some (none, h) := by
  rw [← hs.1]
  exact (blkM (fun p => Nat.beq p 25) 8 12 _ _ _).trans rfl

set_option maxRecDepth 16384 in
theorem t_64_25 {d : Nat} {h : AH} (hs : Sh h) (x1 : Int32) (u2 : Option Value) (u3 : Option Value) (u4 : Option Value) (u5 : Option Value) (u6 : Option Value) (u7 : Option Value) (s0 : Int32) :
    Q d 64 25 [some (.ref 189), some (.int x1), u2, u3, u4, u5, u6, u7] [.int s0] h =
  if s0 = nI 0 then
   Q d 64 12 [some (.ref 189), some (.int (x1 + nI 1)), none, none, none, none, none, none] [] h
  else
   Q d 64 38 [some (.ref 189), some (.int x1), some (.int x1), some (.long 0), none, none, none, none] [] h := by
  rw [← hs.1]
  exact (blkM (fun p => Nat.beq p 12 || Nat.beq p 38) 7 25 _ _ _).trans rfl

set_option maxRecDepth 16384 in
theorem t_64_38 {d : Nat} {h : AH} (hs : Sh h) (x1 : Int32) (x2 : Int32) (x3 : Int64) :
    Q d 64 38 [some (.ref 189), some (.int x1), some (.int x2), some (.long x3), none, none, none, none] [] h =
  cK (E d 65 [.ref 189, .int x1] h) (Q d 64 43 [some (.ref 189), some (.int x1), some (.int x2), some (.long x3), none, none, none, none]) [] := by
  rw [← hs.1]
  exact (blkM (fun p => Nat.beq p 43) 4 38 _ _ _).trans rfl

set_option maxRecDepth 16384 in
theorem t_64_43 {d : Nat} {h : AH} (hs : Sh h) (x1 : Int32) (x2 : Int32) (x3 : Int64) (u5 : Option Value) (u6 : Option Value) (u7 : Option Value) (s0 : Int32) :
    Q d 64 43 [some (.ref 189), some (.int x1), some (.int x2), some (.long x3), none, u5, u6, u7] [.int s0] h =
  if s0 = nI 0 then
   if (nI 12) < x1 - x2 then
    Q d 64 101 [some (.ref 189), some (.int x1), some (.int x2), none, none, none, none, none] [.long 0] h
   else
    cK (E d 67 [.ref 189, .long x3] h) (Q d 64 101 [some (.ref 189), some (.int x1), some (.int x2), none, none, none, none, none]) []
  else
   if x1 - x2 < nI 12 then
    gd x1 4000 <|
    cK (E d 66 [.int (gA h 193 (ix x1))] h) (Q d 64 68 [some (.ref 189), some (.int x1), some (.int x2), some (.long x3), none, u5, u6, u7]) [.long (37 * x3)]
   else
    Q d 64 38 [some (.ref 189), some (.int (x1 + nI 1)), some (.int x2), some (.long x3), none, none, none, none] [] h := by
  rw [← hs.1]
  exact (blkM (fun p => Nat.beq p 38 || Nat.beq p 68 || Nat.beq p 101) 15 43 _ _ _).trans rfl

set_option maxRecDepth 16384 in
theorem t_64_68 {d : Nat} {h : AH} (hs : Sh h) (x1 : Int32) (x2 : Int32) (u3 : Option Value) (u4 : Option Value) (u5 : Option Value) (u6 : Option Value) (u7 : Option Value) (s0 : Int64) (s1 : Int32) :
    Q d 64 68 [some (.ref 189), some (.int x1), some (.int x2), u3, u4, u5, u6, u7] [.int s1, .long s0] h =
  cK (E d 30 [.int s1] h) (Q d 64 71 [some (.ref 189), some (.int x1), some (.int x2), u3, u4, u5, u6, u7]) [.long s0] := by
  rw [← hs.1]
  exact (blkM (fun p => Nat.beq p 71) 2 68 _ _ _).trans rfl

set_option maxRecDepth 16384 in
theorem t_64_101 {d : Nat} {h : AH} (hs : Sh h) (x1 : Int32) (x2 : Int32) (s0 : Int64) :
    Q d 64 101 [some (.ref 189), some (.int x1), some (.int x2), none, none, none, none, none] [.long s0] h =
  (gd (gI h 3638 189) 82 <|
  if (nI 0) < lg_cmp s0 0 then
   cK (E d 68 [.ref 189, .long s0] (sA h 234 (ix (gI h 3638 189)) (gI h 3639 189))) (Q d 64 129 [some (.ref 189), some (.int x1), some (.int x2), none, none, some (.long s0), none, none]) []
  else
   Q d 64 135 [some (.ref 189), some (.int x1), none, none, none, none, none, some (.int x2)] [] (sA h 234 (ix (gI h 3638 189)) (gI h 3639 189))) := by
  rw [← hs.1]
  exact (blkM (fun p => Nat.beq p 129 || Nat.beq p 135) 16 101 _ _ _).trans rfl

set_option maxRecDepth 16384 in
theorem t_64_71 {d : Nat} {h : AH} (hs : Sh h) (x1 : Int32) (x2 : Int32) (u3 : Option Value) (u4 : Option Value) (u5 : Option Value) (u6 : Option Value) (u7 : Option Value) (s0 : Int64) (s1 : Int32) :
    Q d 64 71 [some (.ref 189), some (.int x1), some (.int x2), u3, u4, u5, u6, u7] [.int s1, .long s0] h =
  Q d 64 38 [some (.ref 189), some (.int (x1 + nI 1)), some (.int x2), some (.long (s0 + s1.toInt64)), none, none, none, none] [] h := by
  rw [← hs.1]
  exact (blkM (fun p => Nat.beq p 38) 8 71 _ _ _).trans rfl

set_option maxRecDepth 16384 in
theorem t_64_129 {d : Nat} {h : AH} (hs : Sh h) (x1 : Int32) (u2 : Option Value) (u3 : Option Value) (u4 : Option Value) (u5 : Option Value) (u6 : Option Value) (u7 : Option Value) :
    Q d 64 129 [some (.ref 189), some (.int x1), u2, u3, u4, u5, u6, u7] [] h =
  (gd (gI h 3638 189) 82 <|
  gd (gI h 3638 189) 82 <|
  gd (gI h 3639 189) 1200 <|
  Q d 64 12 [some (.ref 189), some (.int x1), none, none, none, none, none, none] [] (sI (sI (sA (sA h 235 (ix (gI h 3638 189)) ((gI h 3639 189) - (gA h 234 (ix (gI h 3638 189))))) 233 (ix (gI h 3639 189)) (nI 32)) 3639 189 ((gI h 3639 189) + (nI 1))) 3638 189 ((gI h 3638 189) + (nI 1)))) := by
  rw [← hs.1]
  exact (blkM (fun p => Nat.beq p 12) 35 129 _ _ _).trans rfl

set_option maxRecDepth 16384 in
theorem t_64_135 {d : Nat} {h : AH} (hs : Sh h) (x1 : Int32) (x7 : Int32) :
    Q d 64 135 [some (.ref 189), some (.int x1), none, none, none, none, none, some (.int x7)] [] h =
  if x7 < x1 then
   gd x7 4000 <|
   cK (E d 66 [.int (gA h 193 (ix x7))] h) (Q d 64 159 [some (.ref 189), some (.int x1), none, none, none, none, none, some (.int x7)]) [.int (gI h 3639 189), .ref 233]
  else
   gd (gI h 3638 189) 82 <|
   gd (gI h 3638 189) 82 <|
   gd (gI h 3639 189) 1200 <|
   Q d 64 12 [some (.ref 189), some (.int x1), none, none, none, none, none, none] [] (sI (sI (sA (sA h 235 (ix (gI h 3638 189)) ((gI h 3639 189) - (gA h 234 (ix (gI h 3638 189))))) 233 (ix (gI h 3639 189)) (nI 32)) 3639 189 ((gI h 3639 189) + (nI 1))) 3638 189 ((gI h 3638 189) + (nI 1))) := by
  rw [← hs.1]
  exact (blkM (fun p => Nat.beq p 12 || Nat.beq p 159) 37 135 _ _ _).trans rfl

set_option maxRecDepth 16384 in
theorem t_64_159 {d : Nat} {h : AH} (hs : Sh h) (x1 : Int32) (x7 : Int32) (u2 : Option Value) (u3 : Option Value) (u4 : Option Value) (u5 : Option Value) (u6 : Option Value) (s0 : Nat) (s1 : Int32) (s2 : Int32) :
    Q d 64 159 [some (.ref 189), some (.int x1), u2, u3, u4, u5, u6, some (.int x7)] [.int s2, .int s1, .ref s0] h =
  (cw (gC h s0) 60 s0 <|
  gd s1 (gK h s0) <|
  Q d 64 135 [some (.ref 189), some (.int x1), none, none, none, none, none, some (.int (x7 + nI 1))] [] (sI (sA h s0 (ix s1) s2) 3639 189 ((gI h 3639 189) + (nI 1)))) := by
  rw [← hs.1]
  exact (blkM (fun p => Nat.beq p 135) 11 159 _ _ _).trans rfl

/-! 65 PostRoomModel.isOfWord(I)Z -/
set_option maxRecDepth 16384 in
theorem t_65 {d : Nat} {h : AH} (hs : Sh h) (x1 : Int32) :
    E (d + 1) 65 [.ref 189, .int x1] h =
  if x1 < gI h 3591 189 then
   gd x1 4000 <|
   cK (E d 66 [.int (gA h 193 (ix x1))] h) (Q d 65 17 [some (.ref 189), some (.int x1)]) []
  else
   some (some (.int (nI 0)), h) := by
  rw [← hs.1]
  exact entL (l := [some (.ref 189), some (.int x1)]) rfl rfl ((blkM (fun p => Nat.beq p 17) 10 0 _ _ _).trans rfl)

set_option maxRecDepth 16384 in
theorem t_65_17 {d : Nat} {h : AH} (hs : Sh h) (x1 : Int32) (s0 : Int32) :
    Q d 65 17 [some (.ref 189), some (.int x1)] [.int s0] h =
  cK (E d 38 [.int s0] h) (Q d 65 20 [some (.ref 189), some (.int x1)]) [] := by
  rw [← hs.1]
  exact (blkM (fun p => Nat.beq p 20) 2 17 _ _ _).trans rfl

set_option maxRecDepth 16384 in
theorem t_65_20 {d : Nat} {h : AH} (hs : Sh h) (x1 : Int32) (s0 : Int32) :
    Q d 65 20 [some (.ref 189), some (.int x1)] [.int s0] h =
  if s0 = nI 0 then
   gd x1 4000 <|
   cK (E d 40 [.int (gA h 193 (ix x1))] h) (Q d 65 32 [some (.ref 189), some (.int x1)]) []
  else
   some (some (.int (nI 1)), h) := by
  rw [← hs.1]
  exact (blkM (fun p => Nat.beq p 32) 7 20 _ _ _).trans rfl

set_option maxRecDepth 16384 in
theorem t_65_32 {d : Nat} {h : AH} (hs : Sh h) (u0 : Option Value) (u1 : Option Value) (s0 : Int32) :
    Q d 65 32 [u0, u1] [.int s0] h =
  if s0 = nI 0 then
   some (some (.int (nI 0)), h)
  else
   some (some (.int (nI 1)), h) := by
  rw [← hs.1]
  exact (blkM (fun p => false) 5 32 _ _ _).trans rfl

/-! 66 PostRoomModel.small(I)I -/
set_option maxRecDepth 16384 in
theorem t_66 {d : Nat} {h : AH} (hs : Sh h) (x0 : Int32) :
    E (d + 1) 66 [.int x0] h =
  if x0 < nI 65 then
   some (some (.int x0), h)
  else
   if (nI 90) < x0 then
    some (some (.int x0), h)
   else
    some (some (.int (x0 + (nI 32))), h) := by
  rw [← hs.1]
  exact entL (l := [some (.int x0)]) rfl rfl ((blkM (fun p => false) 12 0 _ _ _).trans rfl)

/-! 67 PostRoomModel.shortened(J)J -/
set_option maxRecDepth 16384 in
theorem t_67 {d : Nat} {h : AH} (hs : Sh h) (x1 : Int64) :
    E (d + 1) 67 [.ref 189, .long x1] h =
  Q d 67 2 [some (.ref 189), some (.long x1), none, some (.int (nI 0))] [] h := by
  rw [← hs.1]
  exact entL (l := [some (.ref 189), some (.long x1), none, none]) rfl rfl ((blkM (fun p => Nat.beq p 2) 4 0 _ _ _).trans rfl)

set_option maxRecDepth 16384 in
theorem t_67_2 {d : Nat} {h : AH} (hs : Sh h) (x1 : Int64) (x3 : Int32) :
    Q d 67 2 [some (.ref 189), some (.long x1), none, some (.int x3)] [] h =
  (gd (gI h 3597 189) 2 <|
  if x3 < gA h 202 (ix (gI h 3597 189)) then
   gd (((nI 20) * (gI h 3597 189)) + x3) 40 <|
   if lg_cmp (gB h 203 (ix (((nI 20) * (gI h 3597 189)) + x3))) x1 = nI 0 then
    gd (((nI 20) * (gI h 3597 189)) + x3) 40 <|
    some (some (.long (gB h 204 (ix (((nI 20) * (gI h 3597 189)) + x3)))), h)
   else
    Q d 67 2 [some (.ref 189), some (.long x1), none, some (.int (x3 + nI 1))] [] h
  else
   some (some (.long 0), h)) := by
  rw [← hs.1]
  exact (blkM (fun p => Nat.beq p 2) 30 2 _ _ _).trans rfl

/-! 68 PostRoomModel.spell(J)V -/
set_option maxRecDepth 16384 in
theorem t_68 {d : Nat} {h : AH} (hs : Sh h) (x1 : Int64) :
    E (d + 1) 68 [.ref 189, .long x1] h =
  Q d 68 5 [some (.ref 189), some (.long x1), none, some (.int (nI 0)), some (.long x1), none, none] [] h := by
  rw [← hs.1]
  exact entL (l := [some (.ref 189), some (.long x1), none, none, none, none, none]) rfl rfl ((blkM (fun p => Nat.beq p 5) 6 0 _ _ _).trans rfl)

set_option maxRecDepth 16384 in
theorem t_68_5 {d : Nat} {h : AH} (hs : Sh h) (x1 : Int64) (x3 : Int32) (x4 : Int64) :
    Q d 68 5 [some (.ref 189), some (.long x1), none, some (.int x3), some (.long x4), none, none] [] h =
  if (nI 0) < lg_cmp x4 0 then
   dZ 37 <|
   Q d 68 5 [some (.ref 189), some (.long x1), none, some (.int (x3 + nI 1)), some (.long (x4 / 37)), none, none] [] h
  else
   Q d 68 34 [some (.ref 189), none, none, some (.int x3), some (.long x1), none, some (.int (x3 - (nI 1)))] [] h := by
  rw [← hs.1]
  exact (blkM (fun p => Nat.beq p 5 || Nat.beq p 34) 12 5 _ _ _).trans rfl

set_option maxRecDepth 16384 in
theorem t_68_34 {d : Nat} {h : AH} (hs : Sh h) (x3 : Int32) (x4 : Int64) (x6 : Int32) :
    Q d 68 34 [some (.ref 189), none, none, some (.int x3), some (.long x4), none, some (.int x6)] [] h =
  if x6 < nI 0 then
   some (none, sI h 3639 189 ((gI h 3639 189) + x3))
  else
   dZ 37 <|
   cK (E d 69 [.int ((x4 - x4 / 37 * 37).toInt32)] h) (Q d 68 60 [some (.ref 189), none, none, some (.int x3), some (.long x4), none, some (.int x6)]) [.int ((gI h 3639 189) + x6), .ref 233] := by
  rw [← hs.1]
  exact (blkM (fun p => Nat.beq p 60) 14 34 _ _ _).trans rfl

set_option maxRecDepth 16384 in
theorem t_68_60 {d : Nat} {h : AH} (hs : Sh h) (x3 : Int32) (x4 : Int64) (x6 : Int32) (u1 : Option Value) (u2 : Option Value) (s0 : Nat) (s1 : Int32) (s2 : Int32) :
    Q d 68 60 [some (.ref 189), u1, u2, some (.int x3), some (.long x4), none, some (.int x6)] [.int s2, .int s1, .ref s0] h =
  (cw (gC h s0) 60 s0 <|
  gd s1 (gK h s0) <|
  dZ 37 <|
  Q d 68 34 [some (.ref 189), none, none, some (.int x3), some (.long (x4 / 37)), none, some (.int (x6 + (-1)))] [] (sA h s0 (ix s1) s2)) := by
  rw [← hs.1]
  exact (blkM (fun p => Nat.beq p 34) 9 60 _ _ _).trans rfl

/-! 69 PostRoomModel.signOf(I)I -/
set_option maxRecDepth 16384 in
theorem t_69 {d : Nat} {h : AH} (hs : Sh h) (x0 : Int32) :
    E (d + 1) 69 [.int x0] h =
  if x0 < nI 27 then
   some (some (.int (x0 + (nI 96))), h)
  else
   some (some (.int (x0 + (nI 21))), h) := by
  rw [← hs.1]
  exact entL (l := [some (.int x0)]) rfl rfl ((blkM (fun p => false) 9 0 _ _ _).trans rfl)

/-! 70 PostRoomModel.isDoor()Z -/
set_option maxRecDepth 16384 in
theorem t_70 {d : Nat} {h : AH} (hs : Sh h)  :
    E (d + 1) 70 [.ref 189] h =
  Q d 70 7 [some (.ref 189), some (.int (nI 0))] [] (sI h 3640 189 (nI 0)) := by
  rw [← hs.1]
  exact entL (l := [some (.ref 189), none]) rfl rfl ((blkM (fun p => Nat.beq p 7) 7 0 _ _ _).trans rfl)

set_option maxRecDepth 16384 in
theorem t_70_7 {d : Nat} {h : AH} (hs : Sh h) (x1 : Int32) :
    Q d 70 7 [some (.ref 189), some (.int x1)] [] h =
  if x1 < gA h 235 0 then
   if x1 < nI 3 then
    gd x1 1200 <|
    cK (E d 40 [.int (gA h 233 (ix x1))] h) (Q d 70 31 [some (.ref 189), some (.int x1)]) []
   else
    if x1 = nI 0 then
     some (some (.int (nI 0)), h)
    else
     if gA h 233 0 = nI 48 then
      some (some (.int (nI 0)), h)
     else
      if x1 < gA h 235 0 then
       gd x1 1200 <|
       cK (E d 38 [.int (gA h 233 (ix x1))] (sI h 3641 189 ((nI 27) * (gI h 3640 189)))) (Q d 70 108 [some (.ref 189), some (.int x1)]) []
      else
       if x1 = gA h 235 0 then
        some (some (.int (nI 1)), sI h 3641 189 ((nI 27) * (gI h 3640 189)))
       else
        some (some (.int (nI 0)), sI h 3641 189 ((nI 27) * (gI h 3640 189)))
  else
   if x1 = nI 0 then
    some (some (.int (nI 0)), h)
   else
    if gA h 233 0 = nI 48 then
     some (some (.int (nI 0)), h)
    else
     if x1 < gA h 235 0 then
      gd x1 1200 <|
      cK (E d 38 [.int (gA h 233 (ix x1))] (sI h 3641 189 ((nI 27) * (gI h 3640 189)))) (Q d 70 108 [some (.ref 189), some (.int x1)]) []
     else
      if x1 = gA h 235 0 then
       some (some (.int (nI 1)), sI h 3641 189 ((nI 27) * (gI h 3640 189)))
      else
       some (some (.int (nI 0)), sI h 3641 189 ((nI 27) * (gI h 3640 189))) := by
  rw [← hs.1]
  exact (blkM (fun p => Nat.beq p 31 || Nat.beq p 108) 39 7 _ _ _).trans rfl

set_option maxRecDepth 16384 in
theorem t_70_31 {d : Nat} {h : AH} (hs : Sh h) (x1 : Int32) (s0 : Int32) :
    Q d 70 31 [some (.ref 189), some (.int x1)] [.int s0] h =
  if s0 = nI 0 then
   if x1 = nI 0 then
    some (some (.int (nI 0)), h)
   else
    if gA h 233 0 = nI 48 then
     some (some (.int (nI 0)), h)
    else
     if x1 < gA h 235 0 then
      gd x1 1200 <|
      cK (E d 38 [.int (gA h 233 (ix x1))] (sI h 3641 189 ((nI 27) * (gI h 3640 189)))) (Q d 70 108 [some (.ref 189), some (.int x1)]) []
     else
      if x1 = gA h 235 0 then
       some (some (.int (nI 1)), sI h 3641 189 ((nI 27) * (gI h 3640 189)))
      else
       some (some (.int (nI 0)), sI h 3641 189 ((nI 27) * (gI h 3640 189)))
  else
   gd x1 1200 <|
   Q d 70 7 [some (.ref 189), some (.int (x1 + nI 1))] [] (sI h 3640 189 ((((nI 10) * (gI h 3640 189)) + (gA h 233 (ix x1))) - (nI 48))) := by
  rw [← hs.1]
  exact (blkM (fun p => Nat.beq p 7 || Nat.beq p 108) 31 31 _ _ _).trans rfl

set_option maxRecDepth 16384 in
theorem t_70_108 {d : Nat} {h : AH} (hs : Sh h) (x1 : Int32) (s0 : Int32) :
    Q d 70 108 [some (.ref 189), some (.int x1)] [.int s0] h =
  if s0 = nI 0 then
   if x1 = gA h 235 0 then
    some (some (.int (nI 1)), h)
   else
    some (some (.int (nI 0)), h)
  else
   gd x1 1200 <|
   if x1 + nI 1 = gA h 235 0 then
    some (some (.int (nI 1)), sI h 3641 189 ((gI h 3641 189) + ((gA h 233 (ix x1)) - (nI 96))))
   else
    some (some (.int (nI 0)), sI h 3641 189 ((gI h 3641 189) + ((gA h 233 (ix x1)) - (nI 96)))) := by
  rw [← hs.1]
  exact (blkM (fun p => false) 23 108 _ _ _).trans rfl

/-! 71 PostRoomModel.isCode(I)Z -/
set_option maxRecDepth 16384 in
theorem t_71 {d : Nat} {h : AH} (hs : Sh h) (x1 : Int32) :
    E (d + 1) 71 [.ref 189, .int x1] h =
  (gd x1 82 <|
  if gA h 235 (ix x1) = nI 3 then
   Q d 71 18 [some (.ref 189), some (.int x1), some (.int (nI 1)), some (.int (nI 0))] [] h
  else
   Q d 71 18 [some (.ref 189), some (.int x1), some (.int (nI 0)), some (.int (nI 0))] [] h) := by
  rw [← hs.1]
  exact entL (l := [some (.ref 189), some (.int x1), none, none]) rfl rfl ((blkM (fun p => Nat.beq p 18) 13 0 _ _ _).trans rfl)

set_option maxRecDepth 16384 in
theorem t_71_18 {d : Nat} {h : AH} (hs : Sh h) (x1 : Int32) (x2 : Int32) (x3 : Int32) :
    Q d 71 18 [some (.ref 189), some (.int x1), some (.int x2), some (.int x3)] [] h =
  if x3 < nI 3 then
   if x2 = nI 0 then
    if x2 = 0 ∨ x2 = 1 then
     some (some (.int x2), h)
    else
     none
   else
    gd x1 82 <|
    gd ((gA h 234 (ix x1)) + x3) 1200 <|
    cK (E d 40 [.int (gA h 233 (ix ((gA h 234 (ix x1)) + x3)))] h) (Q d 71 43 [some (.ref 189), some (.int x1), some (.int x2), some (.int x3)]) []
  else
   if x2 = 0 ∨ x2 = 1 then
    some (some (.int x2), h)
   else
    none := by
  rw [← hs.1]
  exact (blkM (fun p => Nat.beq p 43) 16 18 _ _ _).trans rfl

set_option maxRecDepth 16384 in
theorem t_71_43 {d : Nat} {h : AH} (hs : Sh h) (x1 : Int32) (x3 : Int32) (u2 : Option Value) (s0 : Int32) :
    Q d 71 43 [some (.ref 189), some (.int x1), u2, some (.int x3)] [.int s0] h =
  Q d 71 18 [some (.ref 189), some (.int x1), some (.int s0), some (.int (x3 + nI 1))] [] h := by
  rw [← hs.1]
  exact (blkM (fun p => Nat.beq p 18) 5 43 _ _ _).trans rfl

/-! 72 PostRoomModel.fits(II)Z -/
set_option maxRecDepth 16384 in
theorem t_72 {d : Nat} {h : AH} (hs : Sh h) (x1 : Int32) (x2 : Int32) :
    E (d + 1) 72 [.ref 189, .int x1, .int x2] h =
  (gd (((nI 60) * (gI h 3597 189)) + x1) 120 <|
  if x2 < gA h 210 (ix (((nI 60) * (gI h 3597 189)) + x1)) then
   if (nI 0) = nI 0 then
    some (some (.int (nI 0)), h)
   else
    gd (((nI 60) * (gI h 3597 189)) + x1) 120 <|
    if gA h 209 (ix (((nI 60) * (gI h 3597 189)) + x1)) = nI 0 then
     some (some (.int (nI 1)), h)
    else
     gd (((nI 60) * (gI h 3597 189)) + x1) 120 <|
     dz (nI 2) <|
     dz (nI 2) <|
     if (gA h 209 (ix (((nI 60) * (gI h 3597 189)) + x1))) - (gA h 209 (ix (((nI 60) * (gI h 3597 189)) + x1))) / (nI 2) * (nI 2) = x2 - x2 / (nI 2) * (nI 2) then
      some (some (.int (nI 1)), h)
     else
      some (some (.int (nI 0)), h)
  else
   gd (((nI 60) * (gI h 3597 189)) + x1) 120 <|
   if gA h 211 (ix (((nI 60) * (gI h 3597 189)) + x1)) < x2 then
    if (nI 0) = nI 0 then
     some (some (.int (nI 0)), h)
    else
     gd (((nI 60) * (gI h 3597 189)) + x1) 120 <|
     if gA h 209 (ix (((nI 60) * (gI h 3597 189)) + x1)) = nI 0 then
      some (some (.int (nI 1)), h)
     else
      gd (((nI 60) * (gI h 3597 189)) + x1) 120 <|
      dz (nI 2) <|
      dz (nI 2) <|
      if (gA h 209 (ix (((nI 60) * (gI h 3597 189)) + x1))) - (gA h 209 (ix (((nI 60) * (gI h 3597 189)) + x1))) / (nI 2) * (nI 2) = x2 - x2 / (nI 2) * (nI 2) then
       some (some (.int (nI 1)), h)
      else
       some (some (.int (nI 0)), h)
   else
    if (nI 1) = nI 0 then
     some (some (.int (nI 0)), h)
    else
     gd (((nI 60) * (gI h 3597 189)) + x1) 120 <|
     if gA h 209 (ix (((nI 60) * (gI h 3597 189)) + x1)) = nI 0 then
      some (some (.int (nI 1)), h)
     else
      gd (((nI 60) * (gI h 3597 189)) + x1) 120 <|
      dz (nI 2) <|
      dz (nI 2) <|
      if (gA h 209 (ix (((nI 60) * (gI h 3597 189)) + x1))) - (gA h 209 (ix (((nI 60) * (gI h 3597 189)) + x1))) / (nI 2) * (nI 2) = x2 - x2 / (nI 2) * (nI 2) then
       some (some (.int (nI 1)), h)
      else
       some (some (.int (nI 0)), h)) := by
  rw [← hs.1]
  exact entL (l := [some (.ref 189), some (.int x1), some (.int x2), none, none]) rfl rfl ((blkM (fun p => false) 43 0 _ _ _).trans rfl)

/-! 73 PostRoomModel.farOf(I)I -/
set_option maxRecDepth 16384 in
theorem t_73 {d : Nat} {h : AH} (hs : Sh h) (x1 : Int32) :
    E (d + 1) 73 [.ref 189, .int x1] h =
  Q d 73 18 [some (.ref 189), none, some (.int (((nI 60) * (gI h 3597 189)) + x1)), some (.int (gI h 3639 189)), some (.int (nI 0)), none, none, none, none, none, none, none, none] [] h := by
  rw [← hs.1]
  exact entL (l := [some (.ref 189), some (.int x1), none, none, none, none, none, none, none, none, none, none, none]) rfl rfl ((blkM (fun p => Nat.beq p 18) 14 0 _ _ _).trans rfl)

set_option maxRecDepth 16384 in
theorem t_73_18 {d : Nat} {h : AH} (hs : Sh h) (x2 : Int32) (x3 : Int32) (x4 : Int32) :
    Q d 73 18 [some (.ref 189), none, some (.int x2), some (.int x3), some (.int x4), none, none, none, none, none, none, none, none] [] h =
  (gd x2 120 <|
  if x4 < gA h 207 (ix x2) then
   gd (((nI 3) * x2) + x4) 360 <|
   cK (E d 68 [.ref 189, .long (gB h 206 (ix (((nI 3) * x2) + x4)))] h) (Q d 73 44 [some (.ref 189), none, some (.int x2), some (.int x3), some (.int x4), none, none, none, none, none, none, none, none]) []
  else
   gd x2 120 <|
   gd (((nI 16) * (gI h 3597 189)) + (gA h 208 (ix x2))) 32 <|
   cK (E d 68 [.ref 189, .long (gB h 198 (ix (((nI 16) * (gI h 3597 189)) + (gA h 208 (ix x2)))))] h) (Q d 73 110 [some (.ref 189), none, some (.int x2), some (.int x3), some (.int (((gI h 3639 189) - x3) - (nI 1))), some (.int (gI h 3639 189)), none, none, none, none, none, none, none]) []) := by
  rw [← hs.1]
  exact (blkM (fun p => Nat.beq p 44 || Nat.beq p 110) 31 18 _ _ _).trans rfl

set_option maxRecDepth 16384 in
theorem t_73_44 {d : Nat} {h : AH} (hs : Sh h) (x2 : Int32) (x3 : Int32) (x4 : Int32) (u1 : Option Value) (u5 : Option Value) (u6 : Option Value) (u7 : Option Value) (u8 : Option Value) (u9 : Option Value) (u10 : Option Value) (u11 : Option Value) (u12 : Option Value) :
    Q d 73 44 [some (.ref 189), u1, some (.int x2), some (.int x3), some (.int x4), u5, u6, u7, u8, u9, u10, u11, u12] [] h =
  (gd (gI h 3639 189) 1200 <|
  Q d 73 18 [some (.ref 189), none, some (.int x2), some (.int x3), some (.int (x4 + nI 1)), none, none, none, none, none, none, none, none] [] (sI (sA h 233 (ix (gI h 3639 189)) (nI 32)) 3639 189 ((gI h 3639 189) + (nI 1)))) := by
  rw [← hs.1]
  exact (blkM (fun p => Nat.beq p 18) 16 44 _ _ _).trans rfl

set_option maxRecDepth 16384 in
theorem t_73_110 {d : Nat} {h : AH} (hs : Sh h) (x2 : Int32) (x3 : Int32) (x4 : Int32) (x5 : Int32) (u1 : Option Value) (u6 : Option Value) (u7 : Option Value) (u8 : Option Value) (u9 : Option Value) (u10 : Option Value) (u11 : Option Value) (u12 : Option Value) :
    Q d 73 110 [some (.ref 189), u1, some (.int x2), some (.int x3), some (.int x4), some (.int x5), u6, u7, u8, u9, u10, u11, u12] [] h =
  if (nI 0) < gI h 3642 189 then
   if (nI 0) < gI h 3642 189 then
    Q d 73 170 [some (.ref 189), none, some (.int x2), some (.int x3), some (.int x4), some (.int x5), some (.int ((gI h 3639 189) - x5)), some (.int (nI 4)), none, some (.int (gI h 3642 189)), some (.int (gI h 3642 189)), none, none] [] (sI h 3639 189 x3)
   else
    Q d 73 170 [some (.ref 189), none, some (.int x2), some (.int x3), some (.int x4), some (.int x5), some (.int ((gI h 3639 189) - x5)), some (.int (nI 4)), none, some (.int ((gI h 3638 189) - (nI 1))), some (.int (gI h 3642 189)), none, none] [] (sI h 3639 189 x3)
  else
   if (nI 0) < gI h 3642 189 then
    Q d 73 170 [some (.ref 189), none, some (.int x2), some (.int x3), some (.int x4), some (.int x5), some (.int ((gI h 3639 189) - x5)), some (.int (nI 4)), none, some (.int (gI h 3642 189)), some (.int (nI 2)), none, none] [] (sI h 3639 189 x3)
   else
    Q d 73 170 [some (.ref 189), none, some (.int x2), some (.int x3), some (.int x4), some (.int x5), some (.int ((gI h 3639 189) - x5)), some (.int (nI 4)), none, some (.int ((gI h 3638 189) - (nI 1))), some (.int (nI 2)), none, none] [] (sI h 3639 189 x3) := by
  rw [← hs.1]
  exact (blkM (fun p => Nat.beq p 170) 29 110 _ _ _).trans rfl

set_option maxRecDepth 16384 in
theorem t_73_170 {d : Nat} {h : AH} (hs : Sh h) (x2 : Int32) (x3 : Int32) (x4 : Int32) (x5 : Int32) (x6 : Int32) (x7 : Int32) (x9 : Int32) (x10 : Int32) :
    Q d 73 170 [some (.ref 189), none, some (.int x2), some (.int x3), some (.int x4), some (.int x5), some (.int x6), some (.int x7), none, some (.int x9), some (.int x10), none, none] [] h =
  if x9 < x10 then
   some (some (.int x7), h)
  else
   if (nI 0) < gI h 3642 189 then
    gd x2 120 <|
    gd (((nI 16) * (gI h 3597 189)) + (gA h 208 (ix x2))) 32 <|
    cK (E d 74 [.ref 189, .int (gA h 199 (ix (((nI 16) * (gI h 3597 189)) + (gA h 208 (ix x2)))))] h) (Q d 73 207 [some (.ref 189), none, some (.int x2), some (.int x3), some (.int x4), some (.int x5), some (.int x6), some (.int x7), none, some (.int x9), some (.int x10), none, none]) []
   else
    cK (E d 75 [.ref 189, .int (x10 - (nI 1))] h) (Q d 73 233 [some (.ref 189), none, some (.int x2), some (.int x3), some (.int x4), some (.int x5), some (.int x6), some (.int x7), none, some (.int x9), some (.int x10), some (.int (nI 0)), none]) [.int (gA h 234 1), .int x4, .int x3, .ref 189, .int (nI 0)] := by
  rw [← hs.1]
  exact (blkM (fun p => Nat.beq p 207 || Nat.beq p 233) 22 170 _ _ _).trans rfl

set_option maxRecDepth 16384 in
theorem t_73_207 {d : Nat} {h : AH} (hs : Sh h) (x2 : Int32) (x3 : Int32) (x4 : Int32) (x5 : Int32) (x6 : Int32) (x7 : Int32) (x9 : Int32) (x10 : Int32) (u1 : Option Value) (u8 : Option Value) (u11 : Option Value) (u12 : Option Value) (s0 : Int32) :
    Q d 73 207 [some (.ref 189), u1, some (.int x2), some (.int x3), some (.int x4), some (.int x5), some (.int x6), some (.int x7), u8, some (.int x9), some (.int x10), u11, u12] [.int s0] h =
  cK (E d 75 [.ref 189, .int (x10 - (nI 1))] h) (Q d 73 233 [some (.ref 189), none, some (.int x2), some (.int x3), some (.int x4), some (.int x5), some (.int x6), some (.int x7), none, some (.int x9), some (.int x10), some (.int s0), none]) [.int (gA h 234 1), .int x4, .int x3, .ref 189, .int s0] := by
  rw [← hs.1]
  exact (blkM (fun p => Nat.beq p 233) 16 207 _ _ _).trans rfl

set_option maxRecDepth 16384 in
theorem t_73_233 {d : Nat} {h : AH} (hs : Sh h) (x2 : Int32) (x3 : Int32) (x4 : Int32) (x5 : Int32) (x6 : Int32) (x7 : Int32) (x9 : Int32) (x10 : Int32) (u1 : Option Value) (u8 : Option Value) (u11 : Option Value) (u12 : Option Value) (s0 : Int32) (s1 : Nat) (s2 : Int32) (s3 : Int32) (s4 : Int32) (s5 : Int32) :
    Q d 73 233 [some (.ref 189), u1, some (.int x2), some (.int x3), some (.int x4), some (.int x5), some (.int x6), some (.int x7), u8, some (.int x9), some (.int x10), u11, u12] [.int s5, .int s4, .int s3, .int s2, .ref s1, .int s0] h =
  (ck (gC h s1) 14 <|
  cK (E d 76 [.ref s1, .int s2, .int s3, .int s4, .int (s5 - (gA h 234 1))] h) (Q d 73 243 [some (.ref 189), u1, some (.int x2), some (.int x3), some (.int x4), some (.int x5), some (.int x6), some (.int x7), u8, some (.int x9), some (.int x10), u11, u12]) [.int s0]) := by
  rw [← hs.1]
  exact (blkM (fun p => Nat.beq p 243) 7 233 _ _ _).trans rfl

set_option maxRecDepth 16384 in
theorem t_73_243 {d : Nat} {h : AH} (hs : Sh h) (x2 : Int32) (x3 : Int32) (x4 : Int32) (x5 : Int32) (x6 : Int32) (x7 : Int32) (x9 : Int32) (x10 : Int32) (u1 : Option Value) (u8 : Option Value) (u11 : Option Value) (u12 : Option Value) (s0 : Int32) (s1 : Int32) :
    Q d 73 243 [some (.ref 189), u1, some (.int x2), some (.int x3), some (.int x4), some (.int x5), some (.int x6), some (.int x7), u8, some (.int x9), some (.int x10), u11, u12] [.int s1, .int s0] h =
  if (nI 0) < gI h 3642 189 then
   if x10 + (nI 1) < gI h 3638 189 then
    if s0 + s1 < nI 4 then
     gd (x10 + (nI 1)) 82 <|
     cK (E d 75 [.ref 189, .int ((gI h 3638 189) - (nI 1))] h) (Q d 73 303 [some (.ref 189), none, some (.int x2), some (.int x3), some (.int x4), some (.int x5), some (.int x6), some (.int x7), none, some (.int x9), some (.int x10), some (.int (s0 + s1)), some (.int (x10 + (nI 1)))]) [.int (gA h 234 (ix (x10 + (nI 1)))), .int x6, .int x5, .ref 189, .int (s0 + s1)]
    else
     if (s0 + s1) + (nI 0) < x7 then
      Q d 73 170 [some (.ref 189), none, some (.int x2), some (.int x3), some (.int x4), some (.int x5), some (.int x6), some (.int ((s0 + s1) + (nI 0))), none, some (.int x9), some (.int (x10 + nI 1)), none, none] [] h
     else
      Q d 73 170 [some (.ref 189), none, some (.int x2), some (.int x3), some (.int x4), some (.int x5), some (.int x6), some (.int x7), none, some (.int x9), some (.int (x10 + nI 1)), none, none] [] h
   else
    if (s0 + s1) + (nI 0) < x7 then
     Q d 73 170 [some (.ref 189), none, some (.int x2), some (.int x3), some (.int x4), some (.int x5), some (.int x6), some (.int ((s0 + s1) + (nI 0))), none, some (.int x9), some (.int (x10 + nI 1)), none, none] [] h
    else
     Q d 73 170 [some (.ref 189), none, some (.int x2), some (.int x3), some (.int x4), some (.int x5), some (.int x6), some (.int x7), none, some (.int x9), some (.int (x10 + nI 1)), none, none] [] h
  else
   if x10 < gI h 3638 189 then
    if s0 + s1 < nI 4 then
     gd x10 82 <|
     cK (E d 75 [.ref 189, .int ((gI h 3638 189) - (nI 1))] h) (Q d 73 303 [some (.ref 189), none, some (.int x2), some (.int x3), some (.int x4), some (.int x5), some (.int x6), some (.int x7), none, some (.int x9), some (.int x10), some (.int (s0 + s1)), some (.int x10)]) [.int (gA h 234 (ix x10)), .int x6, .int x5, .ref 189, .int (s0 + s1)]
    else
     if (s0 + s1) + (nI 0) < x7 then
      Q d 73 170 [some (.ref 189), none, some (.int x2), some (.int x3), some (.int x4), some (.int x5), some (.int x6), some (.int ((s0 + s1) + (nI 0))), none, some (.int x9), some (.int (x10 + nI 1)), none, none] [] h
     else
      Q d 73 170 [some (.ref 189), none, some (.int x2), some (.int x3), some (.int x4), some (.int x5), some (.int x6), some (.int x7), none, some (.int x9), some (.int (x10 + nI 1)), none, none] [] h
   else
    if (s0 + s1) + (nI 0) < x7 then
     Q d 73 170 [some (.ref 189), none, some (.int x2), some (.int x3), some (.int x4), some (.int x5), some (.int x6), some (.int ((s0 + s1) + (nI 0))), none, some (.int x9), some (.int (x10 + nI 1)), none, none] [] h
    else
     Q d 73 170 [some (.ref 189), none, some (.int x2), some (.int x3), some (.int x4), some (.int x5), some (.int x6), some (.int x7), none, some (.int x9), some (.int (x10 + nI 1)), none, none] [] h := by
  rw [← hs.1]
  exact (blkM (fun p => Nat.beq p 170 || Nat.beq p 303) 32 243 _ _ _).trans rfl

set_option maxRecDepth 16384 in
theorem t_73_303 {d : Nat} {h : AH} (hs : Sh h) (x2 : Int32) (x3 : Int32) (x4 : Int32) (x5 : Int32) (x6 : Int32) (x7 : Int32) (x9 : Int32) (x10 : Int32) (x12 : Int32) (u1 : Option Value) (u8 : Option Value) (u11 : Option Value) (s0 : Int32) (s1 : Nat) (s2 : Int32) (s3 : Int32) (s4 : Int32) (s5 : Int32) :
    Q d 73 303 [some (.ref 189), u1, some (.int x2), some (.int x3), some (.int x4), some (.int x5), some (.int x6), some (.int x7), u8, some (.int x9), some (.int x10), u11, some (.int x12)] [.int s5, .int s4, .int s3, .int s2, .ref s1, .int s0] h =
  (gd x12 82 <|
  ck (gC h s1) 14 <|
  cK (E d 76 [.ref s1, .int s2, .int s3, .int s4, .int (s5 - (gA h 234 (ix x12)))] h) (Q d 73 314 [some (.ref 189), u1, some (.int x2), some (.int x3), some (.int x4), some (.int x5), some (.int x6), some (.int x7), u8, some (.int x9), some (.int x10), u11, some (.int x12)]) [.int s0]) := by
  rw [← hs.1]
  exact (blkM (fun p => Nat.beq p 314) 7 303 _ _ _).trans rfl

set_option maxRecDepth 16384 in
theorem t_73_314 {d : Nat} {h : AH} (hs : Sh h) (x2 : Int32) (x3 : Int32) (x4 : Int32) (x5 : Int32) (x6 : Int32) (x7 : Int32) (x9 : Int32) (x10 : Int32) (u1 : Option Value) (u8 : Option Value) (u11 : Option Value) (u12 : Option Value) (s0 : Int32) (s1 : Int32) :
    Q d 73 314 [some (.ref 189), u1, some (.int x2), some (.int x3), some (.int x4), some (.int x5), some (.int x6), some (.int x7), u8, some (.int x9), some (.int x10), u11, u12] [.int s1, .int s0] h =
  if s0 + s1 < x7 then
   Q d 73 170 [some (.ref 189), none, some (.int x2), some (.int x3), some (.int x4), some (.int x5), some (.int x6), some (.int (s0 + s1)), none, some (.int x9), some (.int (x10 + nI 1)), none, none] [] h
  else
   Q d 73 170 [some (.ref 189), none, some (.int x2), some (.int x3), some (.int x4), some (.int x5), some (.int x6), some (.int x7), none, some (.int x9), some (.int (x10 + nI 1)), none, none] [] h := by
  rw [← hs.1]
  exact (blkM (fun p => Nat.beq p 170) 13 314 _ _ _).trans rfl

/-! 74 PostRoomModel.unlikeDigits(I)I -/
set_option maxRecDepth 16384 in
theorem t_74 {d : Nat} {h : AH} (hs : Sh h) (x1 : Int32) :
    E (d + 1) 74 [.ref 189, .int x1] h =
  (gd (gI h 3642 189) 82 <|
  gd (gA h 234 (ix (gI h 3642 189))) 1200 <|
  dz (nI 100) <|
  if (gA h 233 (ix (gA h 234 (ix (gI h 3642 189))))) - (nI 48) = x1 / (nI 100) then
   gd ((gA h 234 (ix (gI h 3642 189))) + (nI 1)) 1200 <|
   dz (nI 10) <|
   dz (nI 10) <|
   if (gA h 233 (ix ((gA h 234 (ix (gI h 3642 189))) + (nI 1)))) - (nI 48) = (x1 / (nI 10)) - (x1 / (nI 10)) / (nI 10) * (nI 10) then
    gd ((gA h 234 (ix (gI h 3642 189))) + (nI 2)) 1200 <|
    dz (nI 10) <|
    if (gA h 233 (ix ((gA h 234 (ix (gI h 3642 189))) + (nI 2)))) - (nI 48) = x1 - x1 / (nI 10) * (nI 10) then
     some (some (.int (((nI 0) + (nI 0)) + (nI 0))), h)
    else
     some (some (.int (((nI 0) + (nI 0)) + (nI 1))), h)
   else
    gd ((gA h 234 (ix (gI h 3642 189))) + (nI 2)) 1200 <|
    dz (nI 10) <|
    if (gA h 233 (ix ((gA h 234 (ix (gI h 3642 189))) + (nI 2)))) - (nI 48) = x1 - x1 / (nI 10) * (nI 10) then
     some (some (.int (((nI 0) + (nI 1)) + (nI 0))), h)
    else
     some (some (.int (((nI 0) + (nI 1)) + (nI 1))), h)
  else
   gd ((gA h 234 (ix (gI h 3642 189))) + (nI 1)) 1200 <|
   dz (nI 10) <|
   dz (nI 10) <|
   if (gA h 233 (ix ((gA h 234 (ix (gI h 3642 189))) + (nI 1)))) - (nI 48) = (x1 / (nI 10)) - (x1 / (nI 10)) / (nI 10) * (nI 10) then
    gd ((gA h 234 (ix (gI h 3642 189))) + (nI 2)) 1200 <|
    dz (nI 10) <|
    if (gA h 233 (ix ((gA h 234 (ix (gI h 3642 189))) + (nI 2)))) - (nI 48) = x1 - x1 / (nI 10) * (nI 10) then
     some (some (.int (((nI 1) + (nI 0)) + (nI 0))), h)
    else
     some (some (.int (((nI 1) + (nI 0)) + (nI 1))), h)
   else
    gd ((gA h 234 (ix (gI h 3642 189))) + (nI 2)) 1200 <|
    dz (nI 10) <|
    if (gA h 233 (ix ((gA h 234 (ix (gI h 3642 189))) + (nI 2)))) - (nI 48) = x1 - x1 / (nI 10) * (nI 10) then
     some (some (.int (((nI 1) + (nI 1)) + (nI 0))), h)
    else
     some (some (.int (((nI 1) + (nI 1)) + (nI 1))), h)) := by
  rw [← hs.1]
  exact entL (l := [some (.ref 189), some (.int x1), none, none]) rfl rfl ((blkM (fun p => false) 58 0 _ _ _).trans rfl)

/-! 75 PostRoomModel.endOf(I)I -/
set_option maxRecDepth 16384 in
theorem t_75 {d : Nat} {h : AH} (hs : Sh h) (x1 : Int32) :
    E (d + 1) 75 [.ref 189, .int x1] h =
  (gd x1 82 <|
  gd x1 82 <|
  some (some (.int ((gA h 234 (ix x1)) + (gA h 235 (ix x1)))), h)) := by
  rw [← hs.1]
  exact entL (l := [some (.ref 189), some (.int x1)]) rfl rfl ((blkM (fun p => false) 11 0 _ _ _).trans rfl)

/-! 76 PostRoomModel.apart(IIII)I -/
set_option maxRecDepth 16384 in
theorem t_76 {d : Nat} {h : AH} (hs : Sh h) (x1 : Int32) (x2 : Int32) (x3 : Int32) (x4 : Int32) :
    E (d + 1) 76 [.ref 189, .int x1, .int x2, .int x3, .int x4] h =
  cK (E d 77 [.int x2, .int x4] h) (Q d 76 6 [some (.ref 189), some (.int x1), some (.int x2), some (.int x3), some (.int x4), none, none, none, none, none, none]) [] := by
  rw [← hs.1]
  exact entL (l := [some (.ref 189), some (.int x1), some (.int x2), some (.int x3), some (.int x4), none, none, none, none, none, none]) rfl rfl ((blkM (fun p => Nat.beq p 6) 4 0 _ _ _).trans rfl)

set_option maxRecDepth 16384 in
theorem t_76_6 {d : Nat} {h : AH} (hs : Sh h) (x1 : Int32) (x2 : Int32) (x3 : Int32) (x4 : Int32) (u5 : Option Value) (u6 : Option Value) (u7 : Option Value) (u8 : Option Value) (u9 : Option Value) (u10 : Option Value) (s0 : Int32) :
    Q d 76 6 [some (.ref 189), some (.int x1), some (.int x2), some (.int x3), some (.int x4), u5, u6, u7, u8, u9, u10] [.int s0] h =
  if (nI 3) < s0 then
   some (some (.int (nI 4)), h)
  else
   Q d 76 21 [some (.ref 189), some (.int x1), some (.int x2), some (.int x3), some (.int x4), some (.int (x4 + (nI 1))), some (.int (nI 0)), none, none, none, none] [] h := by
  rw [← hs.1]
  exact (blkM (fun p => Nat.beq p 21) 10 6 _ _ _).trans rfl

set_option maxRecDepth 16384 in
theorem t_76_21 {d : Nat} {h : AH} (hs : Sh h) (x1 : Int32) (x2 : Int32) (x3 : Int32) (x4 : Int32) (x5 : Int32) (x6 : Int32) :
    Q d 76 21 [some (.ref 189), some (.int x1), some (.int x2), some (.int x3), some (.int x4), some (.int x5), some (.int x6), none, none, none, none] [] h =
  if x2 < x6 then
   gd ((x5 * x2) + x4) 2200 <|
   if (nI 3) < gA h 236 (ix ((x5 * x2) + x4)) then
    some (some (.int (nI 4)), h)
   else
    some (some (.int (gA h 236 (ix ((x5 * x2) + x4)))), h)
  else
   Q d 76 30 [some (.ref 189), some (.int x1), some (.int x2), some (.int x3), some (.int x4), some (.int x5), some (.int x6), some (.int (nI 0)), none, none, none] [] h := by
  rw [← hs.1]
  exact (blkM (fun p => Nat.beq p 30) 19 21 _ _ _).trans rfl

set_option maxRecDepth 16384 in
theorem t_76_30 {d : Nat} {h : AH} (hs : Sh h) (x1 : Int32) (x2 : Int32) (x3 : Int32) (x4 : Int32) (x5 : Int32) (x6 : Int32) (x7 : Int32) :
    Q d 76 30 [some (.ref 189), some (.int x1), some (.int x2), some (.int x3), some (.int x4), some (.int x5), some (.int x6), some (.int x7), none, none, none] [] h =
  if x4 < x7 then
   Q d 76 21 [some (.ref 189), some (.int x1), some (.int x2), some (.int x3), some (.int x4), some (.int x5), some (.int (x6 + nI 1)), none, none, none, none] [] h
  else
   if x6 = nI 0 then
    Q d 76 59 [some (.ref 189), some (.int x1), some (.int x2), some (.int x3), some (.int x4), some (.int x5), some (.int x6), some (.int x7), none, none, none] [.int x7] h
   else
    if x7 = nI 0 then
     Q d 76 59 [some (.ref 189), some (.int x1), some (.int x2), some (.int x3), some (.int x4), some (.int x5), some (.int x6), some (.int x7), none, none, none] [.int x6] h
    else
     Q d 76 59 [some (.ref 189), some (.int x1), some (.int x2), some (.int x3), some (.int x4), some (.int x5), some (.int x6), some (.int x7), none, none, none] [.int (nI 99)] h := by
  rw [← hs.1]
  exact (blkM (fun p => Nat.beq p 21 || Nat.beq p 59) 11 30 _ _ _).trans rfl

set_option maxRecDepth 16384 in
theorem t_76_59 {d : Nat} {h : AH} (hs : Sh h) (x1 : Int32) (x2 : Int32) (x3 : Int32) (x4 : Int32) (x5 : Int32) (x6 : Int32) (x7 : Int32) (s0 : Int32) :
    Q d 76 59 [some (.ref 189), some (.int x1), some (.int x2), some (.int x3), some (.int x4), some (.int x5), some (.int x6), some (.int x7), none, none, none] [.int s0] h =
  if (nI 0) < x6 then
   if (nI 0) < x7 then
    gd ((x1 + x6) - (nI 1)) 1200 <|
    gd ((x3 + x7) - (nI 1)) 1200 <|
    if gA h 233 (ix ((x1 + x6) - (nI 1))) = gA h 233 (ix ((x3 + x7) - (nI 1))) then
     Q d 76 101 [some (.ref 189), some (.int x1), some (.int x2), some (.int x3), some (.int x4), some (.int x5), some (.int x6), some (.int x7), none, none, none] [.int (nI 0)] h
    else
     Q d 76 101 [some (.ref 189), some (.int x1), some (.int x2), some (.int x3), some (.int x4), some (.int x5), some (.int x6), some (.int x7), none, none, none] [.int (nI 1)] h
   else
    gd ((x5 * x6) + x7) 2200 <|
    Q d 76 30 [some (.ref 189), some (.int x1), some (.int x2), some (.int x3), some (.int x4), some (.int x5), some (.int x6), some (.int (x7 + nI 1)), none, none, none] [] (sA h 236 (ix ((x5 * x6) + x7)) s0)
  else
   gd ((x5 * x6) + x7) 2200 <|
   Q d 76 30 [some (.ref 189), some (.int x1), some (.int x2), some (.int x3), some (.int x4), some (.int x5), some (.int x6), some (.int (x7 + nI 1)), none, none, none] [] (sA h 236 (ix ((x5 * x6) + x7)) s0) := by
  rw [← hs.1]
  exact (blkM (fun p => Nat.beq p 30 || Nat.beq p 101) 26 59 _ _ _).trans rfl

set_option maxRecDepth 16384 in
theorem t_76_101 {d : Nat} {h : AH} (hs : Sh h) (x1 : Int32) (x2 : Int32) (x3 : Int32) (x4 : Int32) (x5 : Int32) (x6 : Int32) (x7 : Int32) (s0 : Int32) :
    Q d 76 101 [some (.ref 189), some (.int x1), some (.int x2), some (.int x3), some (.int x4), some (.int x5), some (.int x6), some (.int x7), none, none, none] [.int s0] h =
  (gd (((x5 * (x6 - (nI 1))) + x7) - (nI 1)) 2200 <|
  gd ((x5 * (x6 - (nI 1))) + x7) 2200 <|
  gd (((x5 * x6) + x7) - (nI 1)) 2200 <|
  cK (E d 78 [.int (gA h 236 (ix ((x5 * (x6 - (nI 1))) + x7))), .int (gA h 236 (ix (((x5 * x6) + x7) - (nI 1))))] h) (Q d 76 161 [some (.ref 189), some (.int x1), some (.int x2), some (.int x3), some (.int x4), some (.int x5), some (.int x6), some (.int x7), some (.int ((gA h 236 (ix (((x5 * (x6 - (nI 1))) + x7) - (nI 1)))) + s0)), some (.int s0), none]) [.int (nI 1), .int ((gA h 236 (ix (((x5 * (x6 - (nI 1))) + x7) - (nI 1)))) + s0)]) := by
  rw [← hs.1]
  exact (blkM (fun p => Nat.beq p 161) 40 101 _ _ _).trans rfl

set_option maxRecDepth 16384 in
theorem t_76_161 {d : Nat} {h : AH} (hs : Sh h) (x1 : Int32) (x2 : Int32) (x3 : Int32) (x4 : Int32) (x5 : Int32) (x6 : Int32) (x7 : Int32) (u8 : Option Value) (u9 : Option Value) (u10 : Option Value) (s0 : Int32) (s1 : Int32) (s2 : Int32) :
    Q d 76 161 [some (.ref 189), some (.int x1), some (.int x2), some (.int x3), some (.int x4), some (.int x5), some (.int x6), some (.int x7), u8, u9, u10] [.int s2, .int s1, .int s0] h =
  cK (E d 78 [.int s0, .int (s1 + s2)] h) (Q d 76 165 [some (.ref 189), some (.int x1), some (.int x2), some (.int x3), some (.int x4), some (.int x5), some (.int x6), some (.int x7), u8, u9, u10]) [] := by
  rw [← hs.1]
  exact (blkM (fun p => Nat.beq p 165) 3 161 _ _ _).trans rfl

set_option maxRecDepth 16384 in
theorem t_76_165 {d : Nat} {h : AH} (hs : Sh h) (x1 : Int32) (x2 : Int32) (x3 : Int32) (x4 : Int32) (x5 : Int32) (x6 : Int32) (x7 : Int32) (u8 : Option Value) (u9 : Option Value) (u10 : Option Value) (s0 : Int32) :
    Q d 76 165 [some (.ref 189), some (.int x1), some (.int x2), some (.int x3), some (.int x4), some (.int x5), some (.int x6), some (.int x7), u8, u9, u10] [.int s0] h =
  if (nI 1) < x6 then
   if (nI 1) < x7 then
    gd ((x1 + x6) - (nI 1)) 1200 <|
    gd ((x3 + x7) - (nI 2)) 1200 <|
    if gA h 233 (ix ((x1 + x6) - (nI 1))) = gA h 233 (ix ((x3 + x7) - (nI 2))) then
     gd ((x1 + x6) - (nI 2)) 1200 <|
     gd ((x3 + x7) - (nI 1)) 1200 <|
     if gA h 233 (ix ((x1 + x6) - (nI 2))) = gA h 233 (ix ((x3 + x7) - (nI 1))) then
      Q d 76 234 [some (.ref 189), some (.int x1), some (.int x2), some (.int x3), some (.int x4), some (.int x5), some (.int x6), some (.int x7), some (.int s0), none, none] [.int (nI 1)] h
     else
      Q d 76 234 [some (.ref 189), some (.int x1), some (.int x2), some (.int x3), some (.int x4), some (.int x5), some (.int x6), some (.int x7), some (.int s0), none, none] [.int (nI 0)] h
    else
     Q d 76 234 [some (.ref 189), some (.int x1), some (.int x2), some (.int x3), some (.int x4), some (.int x5), some (.int x6), some (.int x7), some (.int s0), none, none] [.int (nI 0)] h
   else
    Q d 76 234 [some (.ref 189), some (.int x1), some (.int x2), some (.int x3), some (.int x4), some (.int x5), some (.int x6), some (.int x7), some (.int s0), none, none] [.int (nI 0)] h
  else
   Q d 76 234 [some (.ref 189), some (.int x1), some (.int x2), some (.int x3), some (.int x4), some (.int x5), some (.int x6), some (.int x7), some (.int s0), none, none] [.int (nI 0)] h := by
  rw [← hs.1]
  exact (blkM (fun p => Nat.beq p 234) 45 165 _ _ _).trans rfl

set_option maxRecDepth 16384 in
theorem t_76_234 {d : Nat} {h : AH} (hs : Sh h) (x1 : Int32) (x2 : Int32) (x3 : Int32) (x4 : Int32) (x5 : Int32) (x6 : Int32) (x7 : Int32) (x8 : Int32) (s0 : Int32) :
    Q d 76 234 [some (.ref 189), some (.int x1), some (.int x2), some (.int x3), some (.int x4), some (.int x5), some (.int x6), some (.int x7), some (.int x8), none, none] [.int s0] h =
  if s0 = nI 0 then
   Q d 76 270 [some (.ref 189), some (.int x1), some (.int x2), some (.int x3), some (.int x4), some (.int x5), some (.int x6), some (.int x7), none, none, none] [.int x8] h
  else
   gd (((x5 * (x6 - (nI 2))) + x7) - (nI 2)) 2200 <|
   cK (E d 78 [.int x8, .int ((gA h 236 (ix (((x5 * (x6 - (nI 2))) + x7) - (nI 2)))) + (nI 1))] h) (Q d 76 265 [some (.ref 189), some (.int x1), some (.int x2), some (.int x3), some (.int x4), some (.int x5), some (.int x6), some (.int x7), some (.int x8), none, some (.int s0)]) [] := by
  rw [← hs.1]
  exact (blkM (fun p => Nat.beq p 265 || Nat.beq p 270) 20 234 _ _ _).trans rfl

set_option maxRecDepth 16384 in
theorem t_76_265 {d : Nat} {h : AH} (hs : Sh h) (x1 : Int32) (x2 : Int32) (x3 : Int32) (x4 : Int32) (x5 : Int32) (x6 : Int32) (x7 : Int32) (u8 : Option Value) (u9 : Option Value) (u10 : Option Value) (s0 : Int32) :
    Q d 76 265 [some (.ref 189), some (.int x1), some (.int x2), some (.int x3), some (.int x4), some (.int x5), some (.int x6), some (.int x7), u8, u9, u10] [.int s0] h =
  Q d 76 270 [some (.ref 189), some (.int x1), some (.int x2), some (.int x3), some (.int x4), some (.int x5), some (.int x6), some (.int x7), none, none, none] [.int s0] h := by
  rw [← hs.1]
  exact (blkM (fun p => Nat.beq p 270) 3 265 _ _ _).trans rfl

set_option maxRecDepth 16384 in
theorem t_76_270 {d : Nat} {h : AH} (hs : Sh h) (x1 : Int32) (x2 : Int32) (x3 : Int32) (x4 : Int32) (x5 : Int32) (x6 : Int32) (x7 : Int32) (s0 : Int32) :
    Q d 76 270 [some (.ref 189), some (.int x1), some (.int x2), some (.int x3), some (.int x4), some (.int x5), some (.int x6), some (.int x7), none, none, none] [.int s0] h =
  (gd ((x5 * x6) + x7) 2200 <|
  Q d 76 30 [some (.ref 189), some (.int x1), some (.int x2), some (.int x3), some (.int x4), some (.int x5), some (.int x6), some (.int (x7 + nI 1)), none, none, none] [] (sA h 236 (ix ((x5 * x6) + x7)) s0)) := by
  rw [← hs.1]
  exact (blkM (fun p => Nat.beq p 30) 14 270 _ _ _).trans rfl

/-! 77 PostRoomModel.away(II)I -/
set_option maxRecDepth 16384 in
theorem t_77 {d : Nat} {h : AH} (hs : Sh h) (x0 : Int32) (x1 : Int32) :
    E (d + 1) 77 [.int x0, .int x1] h =
  if x0 < x1 then
   some (some (.int (x1 - x0)), h)
  else
   some (some (.int (x0 - x1)), h) := by
  rw [← hs.1]
  exact entL (l := [some (.int x0), some (.int x1)]) rfl rfl ((blkM (fun p => false) 9 0 _ _ _).trans rfl)

/-! 78 PostRoomModel.least(II)I -/
set_option maxRecDepth 16384 in
theorem t_78 {d : Nat} {h : AH} (hs : Sh h) (x0 : Int32) (x1 : Int32) :
    E (d + 1) 78 [.int x0, .int x1] h =
  if x0 < x1 then
   some (some (.int x0), h)
  else
   some (some (.int x1), h) := by
  rw [← hs.1]
  exact entL (l := [some (.int x0), some (.int x1)]) rfl rfl ((blkM (fun p => false) 7 0 _ _ _).trans rfl)

/-! 79 PostRoomModel.found(I)I -/
set_option maxRecDepth 16384 in
theorem t_79 {d : Nat} {h : AH} (hs : Sh h) (x1 : Int32) :
    E (d + 1) 79 [.ref 189, .int x1] h =
  if x1 = nI 0 then
   some (some (.int (gI h 3644 189)), sI h 3586 189 (nI 0))
  else
   if x1 = nI 1 then
    some (some (.int (gI h 3645 189)), sI h 3586 189 (nI 0))
   else
    some (some (.int (-1)), sI h 3586 189 (nI 0)) := by
  rw [← hs.1]
  exact entL (l := [some (.ref 189), some (.int x1)]) rfl rfl ((blkM (fun p => false) 13 0 _ _ _).trans rfl)

