/-! ===== THE METHODS, PIECE BY PIECE: 6 (made by wip/gen/gen40.py) ===== -/
/-! 210 PostRoom$Script.readAll(LPostRoom$Tape;)I -/
set_option maxRecDepth 16384 in
theorem t_210 {d : Nat} {h : AH} (hs : Sh h) (x0 : Nat) (x1 : Nat) :
    E (d + 1) 210 [.ref x0, .ref x1] h =
  (ck (gC h x0) 9 <|
  ck (gC h x0) 9 <|
  ck (gC h x0) 9 <|
  ck (gC h x0) 9 <|
  (gR (sR h 2309 x0 (some x1)) 2309 x0).bind fun y1 =>
   ck (gC h y1) 12 <|
   cK (E d 230 [.ref y1] (sI (sI (sR h 2309 x0 (some x1)) 2306 x0 (nI 0)) 2308 x0 (nI 0))) (Q d 210 22 [some (.ref x0), some (.ref x1), none]) []) := by
  rw [← hs.1]
  exact entL (l := [some (.ref x0), some (.ref x1), none]) rfl rfl ((blkM (fun p => Nat.beq p 22) 13 0 _ _ _).trans rfl)

set_option maxRecDepth 16384 in
theorem t_210_22 {d : Nat} {h : AH} (hs : Sh h) (x0 : Nat) (u1 : Option Value) (u2 : Option Value) :
    Q d 210 22 [some (.ref x0), u1, u2] [] h =
  (ck (gC h x0) 9 <|
  cK (E d 264 [.ref x0] h) (Q d 210 26 [some (.ref x0), u1, u2]) []) := by
  rw [← hs.1]
  exact (blkM (fun p => Nat.beq p 26) 3 22 _ _ _).trans rfl

set_option maxRecDepth 16384 in
theorem t_210_26 {d : Nat} {h : AH} (hs : Sh h) (x0 : Nat) (u1 : Option Value) (u2 : Option Value) :
    Q d 210 26 [some (.ref x0), u1, u2] [] h =
  Q d 210 28 [some (.ref x0), none, some (.int (nI 0))] [] h := by
  rw [← hs.1]
  exact (blkM (fun p => Nat.beq p 28) 4 26 _ _ _).trans rfl

set_option maxRecDepth 16384 in
theorem t_210_28 {d : Nat} {h : AH} (hs : Sh h) (x0 : Nat) (x2 : Int32) :
    Q d 210 28 [some (.ref x0), none, some (.int x2)] [] h =
  if x2 < nI 4000 then
   ck (gC h x0) 9 <|
   if gI h 2307 x0 = nI 0 then
    some (some (.int (nI 0)), h)
   else
    ck (gC h x0) 9 <|
    cK (E d 265 [.ref x0, .int (nI 0)] h) (Q d 210 47 [some (.ref x0), none, some (.int x2)]) []
  else
   some (some (.int (nI 0)), h) := by
  rw [← hs.1]
  exact (blkM (fun p => Nat.beq p 47) 10 28 _ _ _).trans rfl

set_option maxRecDepth 16384 in
theorem t_210_47 {d : Nat} {h : AH} (hs : Sh h) (x0 : Nat) (x2 : Int32) (u1 : Option Value) (s0 : Int32) :
    Q d 210 47 [some (.ref x0), u1, some (.int x2)] [.int s0] h =
  if s0 = nI 0 then
   ck (gC h x0) 9 <|
   some (some (.int (gI h 2308 x0)), h)
  else
   Q d 210 28 [some (.ref x0), none, some (.int (x2 + nI 1))] [] h := by
  rw [← hs.1]
  exact (blkM (fun p => Nat.beq p 28) 5 47 _ _ _).trans rfl

/-! 211 PostRoom$Machine.perform(LPostRoom$Script;II)I -/
set_option maxRecDepth 16384 in
theorem t_211 {d : Nat} {h : AH} (hs : Sh h) (x1 : Nat) (x2 : Int32) (x3 : Int32) :
    E (d + 1) 211 [.ref 175, .ref x1, .int x2, .int x3] h =
  cK (E d 197 [.ref 175] h) (Q d 211 4 [some (.ref 175), some (.ref x1), some (.int x2), some (.int x3), none]) [] := by
  rw [← hs.1]
  exact entL (l := [some (.ref 175), some (.ref x1), some (.int x2), some (.int x3), none]) rfl rfl ((blkM (fun p => Nat.beq p 4) 3 0 _ _ _).trans rfl)

set_option maxRecDepth 16384 in
theorem t_211_4 {d : Nat} {h : AH} (hs : Sh h) (x1 : Nat) (x2 : Int32) (x3 : Int32) (u4 : Option Value) :
    Q d 211 4 [some (.ref 175), some (.ref x1), some (.int x2), some (.int x3), u4] [] h =
  Q d 211 22 [some (.ref 175), none, none, none, some (.int (nI 0))] [] (sI (sI (sR h 1544 175 (some x1)) 1546 175 x2) 1550 175 x3) := by
  rw [← hs.1]
  exact (blkM (fun p => Nat.beq p 22) 13 4 _ _ _).trans rfl

set_option maxRecDepth 16384 in
theorem t_211_22 {d : Nat} {h : AH} (hs : Sh h) (x4 : Int32) :
    Q d 211 22 [some (.ref 175), none, none, none, some (.int x4)] [] h =
  if (nI 20000) < x4 then
   if gI h 1547 175 = nI 12 then
    some (some (.int (nI 0)), h)
   else
    some (some (.int (gI h 1547 175)), h)
  else
   if gI h 1547 175 = nI 0 then
    (gR h 1544 175).bind fun y1 =>
     ck (gC h y1) 9 <|
     if gI h 1545 175 < gI h 2306 y1 then
      cK (E d 266 [.ref 175, .int (nI 0)] h) (Q d 211 56 [some (.ref 175), none, none, none, some (.int x4)]) []
     else
      if gI h 1547 175 = nI 12 then
       some (some (.int (nI 0)), h)
      else
       some (some (.int (gI h 1547 175)), h)
   else
    if gI h 1547 175 = nI 12 then
     some (some (.int (nI 0)), h)
    else
     some (some (.int (gI h 1547 175)), h) := by
  rw [← hs.1]
  exact (blkM (fun p => Nat.beq p 56) 20 22 _ _ _).trans rfl

set_option maxRecDepth 16384 in
theorem t_211_56 {d : Nat} {h : AH} (hs : Sh h) (x4 : Int32) (u1 : Option Value) (u2 : Option Value) (u3 : Option Value) :
    Q d 211 56 [some (.ref 175), u1, u2, u3, some (.int x4)] [] h =
  Q d 211 22 [some (.ref 175), none, none, none, some (.int (x4 + nI 1))] [] h := by
  rw [← hs.1]
  exact (blkM (fun p => Nat.beq p 22) 4 56 _ _ _).trans rfl

/-! 212 java/util/ArrayList.get(I)Ljava/lang/Object; -/
set_option maxRecDepth 16384 in
theorem t_212 {d : Nat} {h : AH} (hs : Sh h) (x0 : Nat) (x1 : Int32) :
    E (d + 1) 212 [.ref x0, .int x1] h =
  (ck (gC h x0) 1 <|
  cK (E d 267 [.int x1, .int (gI h 258 x0)] h) (Q d 212 8 [some (.ref x0), some (.int x1)]) []) := by
  rw [← hs.1]
  exact entL (l := [some (.ref x0), some (.int x1)]) rfl rfl ((blkM (fun p => Nat.beq p 8) 5 0 _ _ _).trans rfl)

set_option maxRecDepth 16384 in
theorem t_212_8 {d : Nat} {h : AH} (hs : Sh h) (x0 : Nat) (x1 : Int32) (s0 : Int32) :
    Q d 212 8 [some (.ref x0), some (.int x1)] [.int s0] h =
  (ck (gC h x0) 1 <|
  cK (E d 268 [.ref x0, .int x1] h) (Q d 212 14 [some (.ref x0), some (.int x1)]) []) := by
  rw [← hs.1]
  exact (blkM (fun p => Nat.beq p 14) 5 8 _ _ _).trans rfl

set_option maxRecDepth 16384 in
theorem t_212_14 {d : Nat} {h : AH} (hs : Sh h) (u0 : Option Value) (u1 : Option Value) (s0 : Nat) :
    Q d 212 14 [u0, u1] [.ref s0] h =
  some (some (.ref s0), h) := by
  rw [← hs.1]
  exact (blkM (fun p => false) 2 14 _ _ _).trans rfl

/-! 213 java/util/ArrayList.size()I -/
set_option maxRecDepth 16384 in
theorem t_213 {d : Nat} {h : AH} (hs : Sh h) (x0 : Nat) :
    E (d + 1) 213 [.ref x0] h =
  (ck (gC h x0) 1 <|
  some (some (.int (gI h 258 x0)), h)) := by
  rw [← hs.1]
  exact entL (l := [some (.ref x0)]) rfl rfl ((blkM (fun p => false) 4 0 _ _ _).trans rfl)

/-! 214 PostRoom$Book.hasCoach(I)Z -/
set_option maxRecDepth 16384 in
theorem t_214 {d : Nat} {h : AH} (hs : Sh h) (x0 : Nat) (x1 : Int32) :
    E (d + 1) 214 [.ref x0, .int x1] h =
  if x1 < nI 0 then
   some (some (.int (nI 0)), h)
  else
   ck (gC h x0) 2 <|
   (gR h 515 x0).bind fun y1 =>
    ck (gC h y1) 1 <|
    cK (E d 213 [.ref y1] h) (Q d 214 12 [some (.ref x0), some (.int x1)]) [.int x1] := by
  rw [← hs.1]
  exact entL (l := [some (.ref x0), some (.int x1)]) rfl rfl ((blkM (fun p => Nat.beq p 12) 7 0 _ _ _).trans rfl)

set_option maxRecDepth 16384 in
theorem t_214_12 {d : Nat} {h : AH} (hs : Sh h) (u0 : Option Value) (u1 : Option Value) (s0 : Int32) (s1 : Int32) :
    Q d 214 12 [u0, u1] [.int s1, .int s0] h =
  if s0 < s1 then
   some (some (.int (nI 1)), h)
  else
   some (some (.int (nI 0)), h) := by
  rw [← hs.1]
  exact (blkM (fun p => false) 5 12 _ _ _).trans rfl

/-! 215 PostRoom$Post.itemsThatAre(I)I -/
set_option maxRecDepth 16384 in
theorem t_215 {d : Nat} {h : AH} (hs : Sh h) (x1 : Int32) :
    E (d + 1) 215 [.ref 156, .int x1] h =
  Q d 215 4 [some (.ref 156), some (.int x1), some (.int (nI 0)), some (.int (nI 0))] [] h := by
  rw [← hs.1]
  exact entL (l := [some (.ref 156), some (.int x1), none, none]) rfl rfl ((blkM (fun p => Nat.beq p 4) 6 0 _ _ _).trans rfl)

set_option maxRecDepth 16384 in
theorem t_215_4 {d : Nat} {h : AH} (hs : Sh h) (x1 : Int32) (x2 : Int32) (x3 : Int32) :
    Q d 215 4 [some (.ref 156), some (.int x1), some (.int x2), some (.int x3)] [] h =
  cK (E d 213 [.ref 164] h) (Q d 215 12 [some (.ref 156), some (.int x1), some (.int x2), some (.int x3)]) [.int x3] := by
  rw [← hs.1]
  exact (blkM (fun p => Nat.beq p 12) 5 4 _ _ _).trans rfl

set_option maxRecDepth 16384 in
theorem t_215_12 {d : Nat} {h : AH} (hs : Sh h) (x1 : Int32) (x2 : Int32) (x3 : Int32) (s0 : Int32) (s1 : Int32) :
    Q d 215 12 [some (.ref 156), some (.int x1), some (.int x2), some (.int x3)] [.int s1, .int s0] h =
  if s0 < s1 then
   cK (E d 212 [.ref 164, .int x3] h) (Q d 215 23 [some (.ref 156), some (.int x1), some (.int x2), some (.int x3)]) []
  else
   some (some (.int x2), h) := by
  rw [← hs.1]
  exact (blkM (fun p => Nat.beq p 23) 6 12 _ _ _).trans rfl

set_option maxRecDepth 16384 in
theorem t_215_23 {d : Nat} {h : AH} (hs : Sh h) (x1 : Int32) (x2 : Int32) (x3 : Int32) (s0 : Nat) :
    Q d 215 23 [some (.ref 156), some (.int x1), some (.int x2), some (.int x3)] [.ref s0] h =
  (ck (gC h s0) 5 <|
  ck (gC h s0) 5 <|
  if gI h 1288 s0 = x1 then
   Q d 215 4 [some (.ref 156), some (.int x1), some (.int (x2 + nI 1)), some (.int (x3 + nI 1))] [] h
  else
   Q d 215 4 [some (.ref 156), some (.int x1), some (.int x2), some (.int (x3 + nI 1))] [] h) := by
  rw [← hs.1]
  exact (blkM (fun p => Nat.beq p 4) 9 23 _ _ _).trans rfl

/-! 216 PostRoom$Post.allPrices()I -/
set_option maxRecDepth 16384 in
theorem t_216 {d : Nat} {h : AH} (hs : Sh h)  :
    E (d + 1) 216 [.ref 156] h =
  Q d 216 4 [some (.ref 156), some (.int (nI 0)), some (.int (nI 0))] [] h := by
  rw [← hs.1]
  exact entL (l := [some (.ref 156), none, none]) rfl rfl ((blkM (fun p => Nat.beq p 4) 6 0 _ _ _).trans rfl)

set_option maxRecDepth 16384 in
theorem t_216_4 {d : Nat} {h : AH} (hs : Sh h) (x1 : Int32) (x2 : Int32) :
    Q d 216 4 [some (.ref 156), some (.int x1), some (.int x2)] [] h =
  cK (E d 213 [.ref 164] h) (Q d 216 12 [some (.ref 156), some (.int x1), some (.int x2)]) [.int x2] := by
  rw [← hs.1]
  exact (blkM (fun p => Nat.beq p 12) 5 4 _ _ _).trans rfl

set_option maxRecDepth 16384 in
theorem t_216_12 {d : Nat} {h : AH} (hs : Sh h) (x1 : Int32) (x2 : Int32) (s0 : Int32) (s1 : Int32) :
    Q d 216 12 [some (.ref 156), some (.int x1), some (.int x2)] [.int s1, .int s0] h =
  if s0 < s1 then
   cK (E d 212 [.ref 164, .int x2] h) (Q d 216 24 [some (.ref 156), some (.int x1), some (.int x2)]) [.int x1]
  else
   some (some (.int x1), h) := by
  rw [← hs.1]
  exact (blkM (fun p => Nat.beq p 24) 7 12 _ _ _).trans rfl

set_option maxRecDepth 16384 in
theorem t_216_24 {d : Nat} {h : AH} (hs : Sh h) (x2 : Int32) (u1 : Option Value) (s0 : Int32) (s1 : Nat) :
    Q d 216 24 [some (.ref 156), u1, some (.int x2)] [.ref s1, .int s0] h =
  (ck (gC h s1) 5 <|
  ck (gC h s1) 5 <|
  Q d 216 4 [some (.ref 156), some (.int (s0 + (gI h 1291 s1))), some (.int (x2 + nI 1))] [] h) := by
  rw [← hs.1]
  exact (blkM (fun p => Nat.beq p 4) 8 24 _ _ _).trans rfl

/-! 217 PostRoom$Post.coachesUnderWay()I -/
set_option maxRecDepth 16384 in
theorem t_217 {d : Nat} {h : AH} (hs : Sh h)  :
    E (d + 1) 217 [.ref 156] h =
  Q d 217 4 [some (.ref 156), some (.int (nI 0)), some (.int (nI 0)), none] [] h := by
  rw [← hs.1]
  exact entL (l := [some (.ref 156), none, none, none]) rfl rfl ((blkM (fun p => Nat.beq p 4) 6 0 _ _ _).trans rfl)

set_option maxRecDepth 16384 in
theorem t_217_4 {d : Nat} {h : AH} (hs : Sh h) (x1 : Int32) (x2 : Int32) :
    Q d 217 4 [some (.ref 156), some (.int x1), some (.int x2), none] [] h =
  cK (E d 213 [.ref 165] h) (Q d 217 12 [some (.ref 156), some (.int x1), some (.int x2), none]) [.int x2] := by
  rw [← hs.1]
  exact (blkM (fun p => Nat.beq p 12) 5 4 _ _ _).trans rfl

set_option maxRecDepth 16384 in
theorem t_217_12 {d : Nat} {h : AH} (hs : Sh h) (x1 : Int32) (x2 : Int32) (u3 : Option Value) (s0 : Int32) (s1 : Int32) :
    Q d 217 12 [some (.ref 156), some (.int x1), some (.int x2), u3] [.int s1, .int s0] h =
  if s0 < s1 then
   cK (E d 212 [.ref 165, .int x2] h) (Q d 217 23 [some (.ref 156), some (.int x1), some (.int x2), u3]) []
  else
   some (some (.int x1), h) := by
  rw [← hs.1]
  exact (blkM (fun p => Nat.beq p 23) 6 12 _ _ _).trans rfl

set_option maxRecDepth 16384 in
theorem t_217_23 {d : Nat} {h : AH} (hs : Sh h) (x1 : Int32) (x2 : Int32) (u3 : Option Value) (s0 : Nat) :
    Q d 217 23 [some (.ref 156), some (.int x1), some (.int x2), u3] [.ref s0] h =
  (ck (gC h s0) 5 <|
  if x2 = nI 0 then
   Q d 217 4 [some (.ref 156), some (.int (x1 + nI 1)), some (.int (x2 + nI 1)), none] [] h
  else
   cK (E d 212 [.ref 165, .int (x2 - (nI 1))] h) (Q d 217 41 [some (.ref 156), some (.int x1), some (.int x2), some (.ref s0)]) []) := by
  rw [← hs.1]
  exact (blkM (fun p => Nat.beq p 4 || Nat.beq p 41) 11 23 _ _ _).trans rfl

set_option maxRecDepth 16384 in
theorem t_217_41 {d : Nat} {h : AH} (hs : Sh h) (x1 : Int32) (x2 : Int32) (x3 : Nat) (s0 : Nat) :
    Q d 217 41 [some (.ref 156), some (.int x1), some (.int x2), some (.ref x3)] [.ref s0] h =
  (ck (gC h s0) 5 <|
  ck (gC h s0) 5 <|
  ck (gC h x3) 5 <|
  if gI h 1290 s0 = gI h 1290 x3 then
   cK (E d 212 [.ref 165, .int (x2 - (nI 1))] h) (Q d 217 64 [some (.ref 156), some (.int x1), some (.int x2), some (.ref x3)]) []
  else
   Q d 217 4 [some (.ref 156), some (.int (x1 + nI 1)), some (.int (x2 + nI 1)), none] [] h) := by
  rw [← hs.1]
  exact (blkM (fun p => Nat.beq p 4 || Nat.beq p 64) 12 41 _ _ _).trans rfl

set_option maxRecDepth 16384 in
theorem t_217_64 {d : Nat} {h : AH} (hs : Sh h) (x1 : Int32) (x2 : Int32) (x3 : Nat) (s0 : Nat) :
    Q d 217 64 [some (.ref 156), some (.int x1), some (.int x2), some (.ref x3)] [.ref s0] h =
  (ck (gC h s0) 5 <|
  ck (gC h s0) 5 <|
  ck (gC h x3) 5 <|
  if gI h 1294 s0 = gI h 1294 x3 then
   Q d 217 4 [some (.ref 156), some (.int x1), some (.int (x2 + nI 1)), none] [] h
  else
   Q d 217 4 [some (.ref 156), some (.int (x1 + nI 1)), some (.int (x2 + nI 1)), none] [] h) := by
  rw [← hs.1]
  exact (blkM (fun p => Nat.beq p 4) 10 64 _ _ _).trans rfl

/-! 218 PostRoom$Book.hasService(I)Z -/
set_option maxRecDepth 16384 in
theorem t_218 {d : Nat} {h : AH} (hs : Sh h) (x0 : Nat) (x1 : Int32) :
    E (d + 1) 218 [.ref x0, .int x1] h =
  if x1 < nI 0 then
   some (some (.int (nI 0)), h)
  else
   ck (gC h x0) 2 <|
   (gR h 514 x0).bind fun y1 =>
    ck (gC h y1) 1 <|
    cK (E d 213 [.ref y1] h) (Q d 218 12 [some (.ref x0), some (.int x1)]) [.int x1] := by
  rw [← hs.1]
  exact entL (l := [some (.ref x0), some (.int x1)]) rfl rfl ((blkM (fun p => Nat.beq p 12) 7 0 _ _ _).trans rfl)

set_option maxRecDepth 16384 in
theorem t_218_12 {d : Nat} {h : AH} (hs : Sh h) (u0 : Option Value) (u1 : Option Value) (s0 : Int32) (s1 : Int32) :
    Q d 218 12 [u0, u1] [.int s1, .int s0] h =
  if s0 < s1 then
   some (some (.int (nI 1)), h)
  else
   some (some (.int (nI 0)), h) := by
  rw [← hs.1]
  exact (blkM (fun p => false) 5 12 _ _ _).trans rfl

/-! 219 PostRoom$Book.priceOf(IIII)I -/
set_option maxRecDepth 16384 in
theorem t_219 {d : Nat} {h : AH} (hs : Sh h) (x0 : Nat) (x1 : Int32) (x2 : Int32) (x3 : Int32) (x4 : Int32) :
    E (d + 1) 219 [.ref x0, .int x1, .int x2, .int x3, .int x4] h =
  (ck (gC h x0) 2 <|
  (gR h 514 x0).bind fun y1 =>
   ck (gC h y1) 1 <|
   cK (E d 212 [.ref y1, .int x1] h) (Q d 219 8 [some (.ref x0), some (.int x1), some (.int x2), some (.int x3), some (.int x4), none]) []) := by
  rw [← hs.1]
  exact entL (l := [some (.ref x0), some (.int x1), some (.int x2), some (.int x3), some (.int x4), none]) rfl rfl ((blkM (fun p => Nat.beq p 8) 5 0 _ _ _).trans rfl)

set_option maxRecDepth 16384 in
theorem t_219_8 {d : Nat} {h : AH} (hs : Sh h) (x0 : Nat) (x2 : Int32) (x3 : Int32) (x4 : Int32) (u1 : Option Value) (u5 : Option Value) (s0 : Nat) :
    Q d 219 8 [some (.ref x0), u1, some (.int x2), some (.int x3), some (.int x4), u5] [.ref s0] h =
  (ck (gC h s0) 10 <|
  ck (gC h s0) 10 <|
  cK (E d 221 [.ref s0, .int x2] h) (Q d 219 19 [some (.ref x0), u1, some (.int x2), some (.int x3), some (.int x4), some (.ref s0)]) []) := by
  rw [← hs.1]
  exact (blkM (fun p => Nat.beq p 19) 6 8 _ _ _).trans rfl

set_option maxRecDepth 16384 in
theorem t_219_19 {d : Nat} {h : AH} (hs : Sh h) (x0 : Nat) (x2 : Int32) (x3 : Int32) (x4 : Int32) (x5 : Nat) (u1 : Option Value) (s0 : Int32) :
    Q d 219 19 [some (.ref x0), u1, some (.int x2), some (.int x3), some (.int x4), some (.ref x5)] [.int s0] h =
  if s0 = nI 0 then
   some (some (.int (-1)), h)
  else
   ck (gC h x0) 2 <|
   cK (E d 269 [.ref x0, .int x3, .int x4] h) (Q d 219 32 [some (.ref x0), u1, some (.int x2), some (.int x3), some (.int x4), some (.ref x5)]) [.int x2, .ref x5] := by
  rw [← hs.1]
  exact (blkM (fun p => Nat.beq p 32) 8 19 _ _ _).trans rfl

set_option maxRecDepth 16384 in
theorem t_219_32 {d : Nat} {h : AH} (hs : Sh h) (u0 : Option Value) (u1 : Option Value) (u2 : Option Value) (u3 : Option Value) (u4 : Option Value) (u5 : Option Value) (s0 : Nat) (s1 : Int32) (s2 : Int32) :
    Q d 219 32 [u0, u1, u2, u3, u4, u5] [.int s2, .int s1, .ref s0] h =
  (ck (gC h s0) 10 <|
  cK (E d 270 [.ref s0, .int s1, .int s2] h) (Q d 219 35 [u0, u1, u2, u3, u4, u5]) []) := by
  rw [← hs.1]
  exact (blkM (fun p => Nat.beq p 35) 2 32 _ _ _).trans rfl

set_option maxRecDepth 16384 in
theorem t_219_35 {d : Nat} {h : AH} (hs : Sh h) (u0 : Option Value) (u1 : Option Value) (u2 : Option Value) (u3 : Option Value) (u4 : Option Value) (u5 : Option Value) (s0 : Int32) :
    Q d 219 35 [u0, u1, u2, u3, u4, u5] [.int s0] h =
  some (some (.int s0), h) := by
  rw [← hs.1]
  exact (blkM (fun p => false) 3 35 _ _ _).trans rfl

/-! 220 PostRoom$Post.wayComes(II)I -/
set_option maxRecDepth 16384 in
theorem t_220 {d : Nat} {h : AH} (hs : Sh h) (x1 : Int32) (x2 : Int32) :
    E (d + 1) 220 [.ref 156, .int x1, .int x2] h =
  cK (E d 253 [.ref 156, .int x1] h) (Q d 220 5 [some (.ref 156), some (.int x1), some (.int x2)]) [] := by
  rw [← hs.1]
  exact entL (l := [some (.ref 156), some (.int x1), some (.int x2)]) rfl rfl ((blkM (fun p => Nat.beq p 5) 4 0 _ _ _).trans rfl)

set_option maxRecDepth 16384 in
theorem t_220_5 {d : Nat} {h : AH} (hs : Sh h) (x2 : Int32) (u1 : Option Value) :
    Q d 220 5 [some (.ref 156), u1, some (.int x2)] [] h =
  (gd x2 16 <|
  if gA h 169 (ix x2) = (-1) then
   some (some (.int (-1)), h)
  else
   gd x2 16 <|
   some (some (.int (gA h 168 (ix x2))), h)) := by
  rw [← hs.1]
  exact (blkM (fun p => false) 12 5 _ _ _).trans rfl

/-! 221 PostRoom$Service.takes(I)Z -/
set_option maxRecDepth 16384 in
theorem t_221 {d : Nat} {h : AH} (hs : Sh h) (x0 : Nat) (x1 : Int32) :
    E (d + 1) 221 [.ref x0, .int x1] h =
  if x1 < nI 1 then
   some (some (.int (nI 0)), h)
  else
   ck (gC h x0) 10 <|
   if gI h 2562 x0 < x1 then
    some (some (.int (nI 0)), h)
   else
    some (some (.int (nI 1)), h) := by
  rw [← hs.1]
  exact entL (l := [some (.ref x0), some (.int x1)]) rfl rfl ((blkM (fun p => false) 11 0 _ _ _).trans rfl)

/-! 222 PostRoom$Post.takeIn(IIIII)I -/
set_option maxRecDepth 16384 in
theorem t_222 {d : Nat} {h : AH} (hs : Sh h) (x1 : Int32) (x2 : Int32) (x3 : Int32) (x4 : Int32) (x5 : Int32) :
    E (d + 1) 222 [.ref 156, .int x1, .int x2, .int x3, .int x4, .int x5] h =
  (gR h 2048 156).bind fun y1 =>
   ck (gC h y1) 2 <|
   (gR h 514 y1).bind fun y2 =>
    ck (gC h y2) 1 <|
    cK (E d 212 [.ref y2, .int x1] h) (Q d 222 11 [some (.ref 156), some (.int x1), some (.int x2), some (.int x3), some (.int x4), some (.int x5), none, none, none]) [] := by
  rw [← hs.1]
  exact entL (l := [some (.ref 156), some (.int x1), some (.int x2), some (.int x3), some (.int x4), some (.int x5), none, none, none]) rfl rfl ((blkM (fun p => Nat.beq p 11) 6 0 _ _ _).trans rfl)

set_option maxRecDepth 16384 in
theorem t_222_11 {d : Nat} {h : AH} (hs : Sh h) (x1 : Int32) (x2 : Int32) (x3 : Int32) (x4 : Int32) (x5 : Int32) (u6 : Option Value) (u7 : Option Value) (u8 : Option Value) (s0 : Nat) :
    Q d 222 11 [some (.ref 156), some (.int x1), some (.int x2), some (.int x3), some (.int x4), some (.int x5), u6, u7, u8] [.ref s0] h =
  (ck (gC h s0) 10 <|
  ck (gC h s0) 10 <|
  Q d 222 22 [some (.ref 156), some (.int x1), some (.int x2), some (.int x3), some (.int x4), some (.int x5), some (.int (gI h 2561 s0)), u7, u8] [.ref (gN h)] (nwO h 5 15)) := by
  rw [← hs.1]
  exact (blkM (fun p => Nat.beq p 22) 6 11 _ _ _).trans rfl

set_option maxRecDepth 16384 in
theorem t_222_22 {d : Nat} {h : AH} (hs : Sh h) (x1 : Int32) (x2 : Int32) (x3 : Int32) (x4 : Int32) (x5 : Int32) (x6 : Int32) (u7 : Option Value) (u8 : Option Value) (s0 : Nat) :
    Q d 222 22 [some (.ref 156), some (.int x1), some (.int x2), some (.int x3), some (.int x4), some (.int x5), some (.int x6), u7, u8] [.ref s0] h =
  cK (E d 213 [.ref 164] h) (Q d 222 30 [some (.ref 156), some (.int x1), some (.int x2), some (.int x3), some (.int x4), some (.int x5), some (.int x6), u7, u8]) [.ref s0, .ref s0] := by
  rw [← hs.1]
  exact (blkM (fun p => Nat.beq p 30) 5 22 _ _ _).trans rfl

set_option maxRecDepth 16384 in
theorem t_222_30 {d : Nat} {h : AH} (hs : Sh h) (x1 : Int32) (x2 : Int32) (x3 : Int32) (x4 : Int32) (x5 : Int32) (x6 : Int32) (u7 : Option Value) (u8 : Option Value) (s0 : Nat) (s1 : Nat) (s2 : Int32) :
    Q d 222 30 [some (.ref 156), some (.int x1), some (.int x2), some (.int x3), some (.int x4), some (.int x5), some (.int x6), u7, u8] [.int s2, .ref s1, .ref s0] h =
  cK (E d 271 [.ref s1, .int s2, .int x1, .int x6, .int x2, .int x3] h) (Q d 222 38 [some (.ref 156), some (.int x1), some (.int x2), some (.int x3), some (.int x4), some (.int x5), some (.int x6), u7, u8]) [.ref s0] := by
  rw [← hs.1]
  exact (blkM (fun p => Nat.beq p 38) 6 30 _ _ _).trans rfl

set_option maxRecDepth 16384 in
theorem t_222_38 {d : Nat} {h : AH} (hs : Sh h) (x1 : Int32) (x2 : Int32) (x3 : Int32) (x4 : Int32) (x5 : Int32) (u6 : Option Value) (u7 : Option Value) (u8 : Option Value) (s0 : Nat) :
    Q d 222 38 [some (.ref 156), some (.int x1), some (.int x2), some (.int x3), some (.int x4), some (.int x5), u6, u7, u8] [.ref s0] h =
  (ck (gC h s0) 5 <|
  ck (gC h s0) 5 <|
  cK (E d 254 [.ref 156, .ref s0] (sI (sI h 1286 s0 x4) 1287 s0 x5)) (Q d 222 60 [some (.ref 156), some (.int x1), some (.int x2), some (.int x3), some (.int x4), some (.int x5), klV u6, some (.ref s0), u8]) []) := by
  rw [← hs.1]
  exact (blkM (fun p => Nat.beq p 60) 11 38 _ _ _).trans rfl

set_option maxRecDepth 16384 in
theorem t_222_60 {d : Nat} {h : AH} (hs : Sh h) (x1 : Int32) (x2 : Int32) (x3 : Int32) (x7 : Nat) (u4 : Option Value) (u5 : Option Value) (u6 : Option Value) (u8 : Option Value) (s0 : Int32) :
    Q d 222 60 [some (.ref 156), some (.int x1), some (.int x2), some (.int x3), u4, u5, u6, some (.ref x7), u8] [.int s0] h =
  (gR h 2048 156).bind fun y1 =>
   ck (gC h y1) 2 <|
   cK (E d 219 [.ref y1, .int x1, .int x2, .int x3, .int s0] h) (Q d 222 76 [some (.ref 156), some (.int x1), some (.int x2), some (.int x3), u4, u5, u6, some (.ref x7), some (.int s0)]) [.ref x7] := by
  rw [← hs.1]
  exact (blkM (fun p => Nat.beq p 76) 10 60 _ _ _).trans rfl

set_option maxRecDepth 16384 in
theorem t_222_76 {d : Nat} {h : AH} (hs : Sh h) (x3 : Int32) (x7 : Nat) (x8 : Int32) (u1 : Option Value) (u2 : Option Value) (u4 : Option Value) (u5 : Option Value) (u6 : Option Value) (s0 : Nat) (s1 : Int32) :
    Q d 222 76 [some (.ref 156), u1, u2, some (.int x3), u4, u5, u6, some (.ref x7), some (.int x8)] [.int s1, .ref s0] h =
  (ck (gC h s0) 5 <|
  (gR h 2048 156).bind fun y1 =>
   ck (gC h y1) 2 <|
   (gR h 512 y1).bind fun y2 =>
    ck (gC h y2) 1 <|
    cK (E d 212 [.ref y2, .int x8] (sI h 1291 s0 s1)) (Q d 222 93 [some (.ref 156), u1, u2, some (.int x3), u4, u5, u6, some (.ref x7), some (.int x8)]) [.ref x7]) := by
  rw [← hs.1]
  exact (blkM (fun p => Nat.beq p 93) 8 76 _ _ _).trans rfl

set_option maxRecDepth 16384 in
theorem t_222_93 {d : Nat} {h : AH} (hs : Sh h) (x3 : Int32) (x7 : Nat) (u1 : Option Value) (u2 : Option Value) (u4 : Option Value) (u5 : Option Value) (u6 : Option Value) (u8 : Option Value) (s0 : Nat) (s1 : Nat) :
    Q d 222 93 [some (.ref 156), u1, u2, some (.int x3), u4, u5, u6, some (.ref x7), u8] [.ref s1, .ref s0] h =
  (ck (gC h s1) 7 <|
  ck (gC h s1) 7 <|
  ck (gC h s0) 5 <|
  cK (E d 272 [.ref s0, .int (gI h 1794 s1)] h) (Q d 222 102 [some (.ref 156), u1, u2, some (.int x3), u4, u5, u6, some (.ref x7), u8]) []) := by
  rw [← hs.1]
  exact (blkM (fun p => Nat.beq p 102) 4 93 _ _ _).trans rfl

set_option maxRecDepth 16384 in
theorem t_222_102 {d : Nat} {h : AH} (hs : Sh h) (x3 : Int32) (x7 : Nat) (u1 : Option Value) (u2 : Option Value) (u4 : Option Value) (u5 : Option Value) (u6 : Option Value) (u8 : Option Value) :
    Q d 222 102 [some (.ref 156), u1, u2, some (.int x3), u4, u5, u6, some (.ref x7), u8] [] h =
  (ck (gC h x7) 5 <|
  cK (E d 257 [.ref x7, .int (nI 0), .int x3, .int (-1), .int (gI h 2051 156)] h) (Q d 222 114 [some (.ref 156), u1, u2, some (.int x3), u4, u5, u6, some (.ref x7), u8]) []) := by
  rw [← hs.1]
  exact (blkM (fun p => Nat.beq p 114) 8 102 _ _ _).trans rfl

set_option maxRecDepth 16384 in
theorem t_222_114 {d : Nat} {h : AH} (hs : Sh h) (x3 : Int32) (x7 : Nat) (u1 : Option Value) (u2 : Option Value) (u4 : Option Value) (u5 : Option Value) (u6 : Option Value) (u8 : Option Value) :
    Q d 222 114 [some (.ref 156), u1, u2, some (.int x3), u4, u5, u6, some (.ref x7), u8] [] h =
  cK (E d 273 [.ref 164, .ref x7] h) (Q d 222 123 [some (.ref 156), u1, u2, some (.int x3), u4, u5, u6, some (.ref x7), u8]) [] := by
  rw [← hs.1]
  exact (blkM (fun p => Nat.beq p 123) 5 114 _ _ _).trans rfl

set_option maxRecDepth 16384 in
theorem t_222_123 {d : Nat} {h : AH} (hs : Sh h) (x3 : Int32) (x7 : Nat) (u1 : Option Value) (u2 : Option Value) (u4 : Option Value) (u5 : Option Value) (u6 : Option Value) (u8 : Option Value) (s0 : Int32) :
    Q d 222 123 [some (.ref 156), u1, u2, some (.int x3), u4, u5, u6, some (.ref x7), u8] [.int s0] h =
  (gR h 2048 156).bind fun y1 =>
   ck (gC h y1) 2 <|
   (gR h 512 y1).bind fun y2 =>
    ck (gC h y2) 1 <|
    cK (E d 212 [.ref y2, .int x3] h) (Q d 222 135 [some (.ref 156), u1, u2, some (.int x3), u4, u5, u6, some (.ref x7), u8]) [] := by
  rw [← hs.1]
  exact (blkM (fun p => Nat.beq p 135) 7 123 _ _ _).trans rfl

set_option maxRecDepth 16384 in
theorem t_222_135 {d : Nat} {h : AH} (hs : Sh h) (x3 : Int32) (x7 : Nat) (u1 : Option Value) (u2 : Option Value) (u4 : Option Value) (u5 : Option Value) (u6 : Option Value) (u8 : Option Value) (s0 : Nat) :
    Q d 222 135 [some (.ref 156), u1, u2, some (.int x3), u4, u5, u6, some (.ref x7), u8] [.ref s0] h =
  (ck (gC h s0) 7 <|
  ck (gC h s0) 7 <|
  (gR h 1797 s0).bind fun y1 =>
   ck (gC h y1) 1 <|
   cK (E d 273 [.ref y1, .ref x7] h) (Q d 222 146 [some (.ref 156), u1, u2, some (.int x3), u4, u5, u6, some (.ref x7), u8]) []) := by
  rw [← hs.1]
  exact (blkM (fun p => Nat.beq p 146) 5 135 _ _ _).trans rfl

set_option maxRecDepth 16384 in
theorem t_222_146 {d : Nat} {h : AH} (hs : Sh h) (x3 : Int32) (x7 : Nat) (u1 : Option Value) (u2 : Option Value) (u4 : Option Value) (u5 : Option Value) (u6 : Option Value) (u8 : Option Value) (s0 : Int32) :
    Q d 222 146 [some (.ref 156), u1, u2, some (.int x3), u4, u5, u6, some (.ref x7), u8] [.int s0] h =
  cK (E d 258 [.ref 156, .ref x7, .int (nI 0), .int x3] h) (Q d 222 155 [some (.ref 156), u1, u2, some (.int x3), u4, u5, u6, some (.ref x7), u8]) [] := by
  rw [← hs.1]
  exact (blkM (fun p => Nat.beq p 155) 7 146 _ _ _).trans rfl

set_option maxRecDepth 16384 in
theorem t_222_155 {d : Nat} {h : AH} (hs : Sh h) (x7 : Nat) (u0 : Option Value) (u1 : Option Value) (u2 : Option Value) (u3 : Option Value) (u4 : Option Value) (u5 : Option Value) (u6 : Option Value) (u8 : Option Value) :
    Q d 222 155 [u0, u1, u2, u3, u4, u5, u6, some (.ref x7), u8] [] h =
  (ck (gC h x7) 5 <|
  some (some (.int (gI h 1280 x7)), h)) := by
  rw [← hs.1]
  exact (blkM (fun p => false) 4 155 _ _ _).trans rfl

/-! 223 PostRoom$Post.hasItem(I)Z -/
set_option maxRecDepth 16384 in
theorem t_223 {d : Nat} {h : AH} (hs : Sh h) (x1 : Int32) :
    E (d + 1) 223 [.ref 156, .int x1] h =
  if x1 < nI 0 then
   some (some (.int (nI 0)), h)
  else
   cK (E d 213 [.ref 164] h) (Q d 223 12 [some (.ref 156), some (.int x1)]) [.int x1] := by
  rw [← hs.1]
  exact entL (l := [some (.ref 156), some (.int x1)]) rfl rfl ((blkM (fun p => Nat.beq p 12) 7 0 _ _ _).trans rfl)

set_option maxRecDepth 16384 in
theorem t_223_12 {d : Nat} {h : AH} (hs : Sh h) (u0 : Option Value) (u1 : Option Value) (s0 : Int32) (s1 : Int32) :
    Q d 223 12 [u0, u1] [.int s1, .int s0] h =
  if s0 < s1 then
   some (some (.int (nI 1)), h)
  else
   some (some (.int (nI 0)), h) := by
  rw [← hs.1]
  exact (blkM (fun p => false) 5 12 _ _ _).trans rfl

/-! 224 PostRoom$Machine.toldOfTray(II)I -/
set_option maxRecDepth 16384 in
theorem t_224 {d : Nat} {h : AH} (hs : Sh h) (x1 : Int32) (x2 : Int32) :
    E (d + 1) 224 [.ref 175, .int x1, .int x2] h =
  if x2 = nI 0 then
   gd x1 12 <|
   some (some (.int (gA h 178 (ix x1))), h)
  else
   gd x1 12 <|
   if gA h 178 (ix x1) = nI 0 then
    some (some (.int (-1)), h)
   else
    if x2 = nI 1 then
     if x2 = nI 1 then
      gd x1 12 <|
      some (some (.int (gA h 180 (ix x1))), h)
     else
      Q d 224 46 [some (.ref 175), some (.int x1), none, some (.int (nI 0))] [] h
    else
     if x2 = nI 2 then
      if x2 = nI 1 then
       gd x1 12 <|
       some (some (.int (gA h 180 (ix x1))), h)
      else
       Q d 224 46 [some (.ref 175), some (.int x1), none, some (.int (nI 0))] [] h
     else
      some (some (.int (-1)), h) := by
  rw [← hs.1]
  exact entL (l := [some (.ref 175), some (.int x1), some (.int x2), none]) rfl rfl ((blkM (fun p => Nat.beq p 46) 22 0 _ _ _).trans rfl)

set_option maxRecDepth 16384 in
theorem t_224_46 {d : Nat} {h : AH} (hs : Sh h) (x1 : Int32) (x3 : Int32) :
    Q d 224 46 [some (.ref 175), some (.int x1), none, some (.int x3)] [] h =
  if x3 < x1 then
   gd x3 12 <|
   if gA h 178 (ix x3) = nI 0 then
    Q d 224 46 [some (.ref 175), some (.int x1), none, some (.int (x3 + nI 1))] [] h
   else
    gd x3 12 <|
    gd x1 12 <|
    if gA h 181 (ix x3) = gA h 181 (ix x1) then
     some (some (.int x3), h)
    else
     Q d 224 46 [some (.ref 175), some (.int x1), none, some (.int (x3 + nI 1))] [] h
  else
   some (some (.int x1), h) := by
  rw [← hs.1]
  exact (blkM (fun p => Nat.beq p 46) 21 46 _ _ _).trans rfl

/-! 225 PostRoom$Item.told(I)I -/
set_option maxRecDepth 16384 in
theorem t_225 {d : Nat} {h : AH} (hs : Sh h) (x0 : Nat) (x1 : Int32) :
    E (d + 1) 225 [.ref x0, .int x1] h =
  if x1 = nI 0 then
   ck (gC h x0) 5 <|
   some (some (.int (gI h 1281 x0)), h)
  else
   if x1 = nI 1 then
   ck (gC h x0) 5 <|
   some (some (.int (gI h 1282 x0)), h)
  else
   if x1 = nI 2 then
   ck (gC h x0) 5 <|
   some (some (.int (gI h 1283 x0)), h)
  else
   if x1 = nI 3 then
   ck (gC h x0) 5 <|
   some (some (.int (gI h 1286 x0)), h)
  else
   if x1 = nI 4 then
   ck (gC h x0) 5 <|
   some (some (.int (gI h 1287 x0)), h)
  else
   if x1 = nI 5 then
   ck (gC h x0) 5 <|
   some (some (.int (gI h 1288 x0)), h)
  else
   if x1 = nI 6 then
   ck (gC h x0) 5 <|
   some (some (.int (gI h 1289 x0)), h)
  else
   if x1 = nI 7 then
   ck (gC h x0) 5 <|
   some (some (.int (gI h 1290 x0)), h)
  else
   if x1 = nI 8 then
   ck (gC h x0) 5 <|
   some (some (.int (gI h 1291 x0)), h)
  else
   if x1 = nI 9 then
   ck (gC h x0) 5 <|
   some (some (.int (gI h 1292 x0)), h)
  else
   ck (gC h x0) 5 <|
  some (some (.int (gI h 1293 x0)), h) := by
  rw [← hs.1]
  exact entL (l := [some (.ref x0), some (.int x1)]) rfl rfl ((blkM (fun p => false) 6 0 _ _ _).trans rfl)

/-! 226 java/util/ArrayList.<init>()V -/
set_option maxRecDepth 16384 in
theorem t_226 {d : Nat} {h : AH} (hs : Sh h) (x0 : Nat) :
    E (d + 1) 226 [.ref x0] h =
  cK (E d 274 [.ref x0] h) (Q d 226 4 [some (.ref x0)]) [] := by
  rw [← hs.1]
  exact entL (l := [some (.ref x0)]) rfl rfl ((blkM (fun p => Nat.beq p 4) 3 0 _ _ _).trans rfl)

set_option maxRecDepth 16384 in
theorem t_226_4 {d : Nat} {h : AH} (hs : Sh h) (x0 : Nat) :
    Q d 226 4 [some (.ref x0)] [] h =
  (ck (gC h x0) 1 <|
  some (none, sR h 257 x0 (some 61))) := by
  rw [← hs.1]
  exact (blkM (fun p => false) 5 4 _ _ _).trans rfl

/-! 227 java/lang/String.coder()B -/
set_option maxRecDepth 16384 in
theorem t_227 {d : Nat} {h : AH} (hs : Sh h) (x0 : Nat) :
    E (d + 1) 227 [.ref x0] h =
  if (nI 1) = nI 0 then
   if narrow .byte (.int (nI 1)) = .int (nI 1) then
    some (some (.int (nI 1)), h)
   else
    none
  else
   ck (gC h x0) 15 <|
   if narrow .byte (.int (gI h 3841 x0)) = .int (gI h 3841 x0) then
    some (some (.int (gI h 3841 x0)), h)
   else
    none := by
  rw [← hs.1]
  exact entL (l := [some (.ref x0)]) rfl rfl ((blkM (fun p => false) 7 0 _ _ _).trans rfl)

/-! 228 java/lang/String.isLatin1()Z -/
set_option maxRecDepth 16384 in
theorem t_228 {d : Nat} {h : AH} (hs : Sh h) (x0 : Nat) :
    E (d + 1) 228 [.ref x0] h =
  if (nI 1) = nI 0 then
   some (some (.int (nI 0)), h)
  else
   ck (gC h x0) 15 <|
   if gI h 3841 x0 = nI 0 then
    some (some (.int (nI 1)), h)
   else
    some (some (.int (nI 0)), h) := by
  rw [← hs.1]
  exact entL (l := [some (.ref x0)]) rfl rfl ((blkM (fun p => false) 9 0 _ _ _).trans rfl)

/-! 229 java/lang/StringLatin1.charAt([BI)C -/
set_option maxRecDepth 16384 in
theorem t_229 {d : Nat} {h : AH} (hs : Sh h) (x0 : Nat) (x1 : Int32) :
    E (d + 1) 229 [.ref x0, .int x1] h =
  if 60 ≤ gC h x0 ∧ gC h x0 ≤ 66 then
   cK (E d 275 [.int x1, .int (nI (gK h x0))] h) (Q d 229 6 [some (.ref x0), some (.int x1)]) []
  else
   none := by
  rw [← hs.1]
  exact entL (l := [some (.ref x0), some (.int x1)]) rfl rfl ((blkM (fun p => Nat.beq p 6) 5 0 _ _ _).trans rfl)

set_option maxRecDepth 16384 in
theorem t_229_6 {d : Nat} {h : AH} (hs : Sh h) (x0 : Nat) (x1 : Int32) :
    Q d 229 6 [some (.ref x0), some (.int x1)] [] h =
  (ck (gC h x0) 64 <|
  gd x1 (gK h x0) <|
  if narrow .char (.int ((((gA h x0 (ix x1)) &&& (nI 255)).toUInt32 % 65536).toInt32)) = .int ((((gA h x0 (ix x1)) &&& (nI 255)).toUInt32 % 65536).toInt32) then
   some (some (.int ((((gA h x0 (ix x1)) &&& (nI 255)).toUInt32 % 65536).toInt32)), h)
  else
   none) := by
  rw [← hs.1]
  exact (blkM (fun p => false) 8 6 _ _ _).trans rfl

/-! 230 PostRoom$Tape.rewind()V -/
set_option maxRecDepth 16384 in
theorem t_230 {d : Nat} {h : AH} (hs : Sh h)  :
    E (d + 1) 230 [.ref 101] h =
  cK (E d 238 [.ref 101] (sI h 3075 101 (nI 0))) (Q d 230 9 [some (.ref 101)]) [] := by
  rw [← hs.1]
  exact entL (l := [some (.ref 101)]) rfl rfl ((blkM (fun p => Nat.beq p 9) 6 0 _ _ _).trans rfl)

set_option maxRecDepth 16384 in
theorem t_230_9 {d : Nat} {h : AH} (hs : Sh h) (u0 : Option Value) :
    Q d 230 9 [u0] [] h =
  some (none, h) := by
  rw [← hs.1]
  exact (blkM (fun p => false) 2 9 _ _ _).trans rfl

/-! 231 PostRoom$Tape.wordIn(Ljava/lang/String;)I -/
set_option maxRecDepth 16384 in
theorem t_231 {d : Nat} {h : AH} (hs : Sh h) (x1 : Nat) :
    E (d + 1) 231 [.ref 101, .ref x1] h =
  if gI h 3076 101 = nI 2 then
   Q d 231 17 [some (.ref 101), some (.ref x1), some (.int (nI 0)), some (.long 0), none, some (.int (nI 0)), none] [] h
  else
   some (some (.int (-1)), h) := by
  rw [← hs.1]
  exact entL (l := [some (.ref 101), some (.ref x1), none, none, none, none, none]) rfl rfl ((blkM (fun p => Nat.beq p 17) 12 0 _ _ _).trans rfl)

set_option maxRecDepth 16384 in
theorem t_231_17 {d : Nat} {h : AH} (hs : Sh h) (x1 : Nat) (x2 : Int32) (x3 : Int64) (x5 : Int32) :
    Q d 231 17 [some (.ref 101), some (.ref x1), some (.int x2), some (.long x3), none, some (.int x5), none] [] h =
  (ck (gC h x1) 15 <|
  cK (E d 190 [.ref x1] h) (Q d 231 23 [some (.ref 101), some (.ref x1), some (.int x2), some (.long x3), none, some (.int x5), none]) [.int x5]) := by
  rw [← hs.1]
  exact (blkM (fun p => Nat.beq p 23) 4 17 _ _ _).trans rfl

set_option maxRecDepth 16384 in
theorem t_231_23 {d : Nat} {h : AH} (hs : Sh h) (x1 : Nat) (x2 : Int32) (x3 : Int64) (x5 : Int32) (u6 : Option Value) (s0 : Int32) (s1 : Int32) :
    Q d 231 23 [some (.ref 101), some (.ref x1), some (.int x2), some (.long x3), none, some (.int x5), u6] [.int s1, .int s0] h =
  if s0 < s1 then
   ck (gC h x1) 15 <|
   cK (E d 191 [.ref x1, .int x5] h) (Q d 231 32 [some (.ref 101), some (.ref x1), some (.int x2), some (.long x3), none, some (.int x5), u6]) []
  else
   if lg_cmp x3 (gL h 3078 101) = nI 0 then
    some (some (.int x2), h)
   else
    some (some (.int (-1)), h) := by
  rw [← hs.1]
  exact (blkM (fun p => Nat.beq p 32) 10 23 _ _ _).trans rfl

set_option maxRecDepth 16384 in
theorem t_231_32 {d : Nat} {h : AH} (hs : Sh h) (x1 : Nat) (x2 : Int32) (x3 : Int64) (x5 : Int32) (u6 : Option Value) (s0 : Int32) :
    Q d 231 32 [some (.ref 101), some (.ref x1), some (.int x2), some (.long x3), none, some (.int x5), u6] [.int s0] h =
  if s0 = nI 32 then
   if lg_cmp x3 (gL h 3078 101) = nI 0 then
    some (some (.int x2), h)
   else
    Q d 231 17 [some (.ref 101), some (.ref x1), some (.int (x2 + nI 1)), some (.long 0), none, some (.int (x5 + nI 1)), none] [] h
  else
   Q d 231 17 [some (.ref 101), some (.ref x1), some (.int x2), some (.long ((((x3 * 37) + s0.toInt64) - 97) + 1)), none, some (.int (x5 + nI 1)), none] [] h := by
  rw [← hs.1]
  exact (blkM (fun p => Nat.beq p 17) 20 32 _ _ _).trans rfl

/-! 232 PostRoom$Book.readOffice()Z -/
set_option maxRecDepth 16384 in
theorem t_232 {d : Nat} {h : AH} (hs : Sh h) (x0 : Nat) :
    E (d + 1) 232 [.ref x0] h =
  (ck (gC h x0) 2 <|
  (gR h 512 x0).bind fun y1 =>
   ck (gC h y1) 1 <|
   cK (E d 213 [.ref y1] h) (Q d 232 7 [some (.ref x0), none]) []) := by
  rw [← hs.1]
  exact entL (l := [some (.ref x0), none]) rfl rfl ((blkM (fun p => Nat.beq p 7) 4 0 _ _ _).trans rfl)

set_option maxRecDepth 16384 in
theorem t_232_7 {d : Nat} {h : AH} (hs : Sh h) (x0 : Nat) (u1 : Option Value) (s0 : Int32) :
    Q d 232 7 [some (.ref x0), u1] [.int s0] h =
  if s0 < nI 16 then
   Q d 232 21 [some (.ref x0), u1] [.ref (gN h)] (nwO h 7 6)
  else
   ck (gC h x0) 2 <|
   cK (E d 237 [.ref x0, .int (nI 5)] h) (Q d 232 17 [some (.ref x0), u1]) [] := by
  rw [← hs.1]
  exact (blkM (fun p => Nat.beq p 17 || Nat.beq p 21) 6 7 _ _ _).trans rfl

set_option maxRecDepth 16384 in
theorem t_232_17 {d : Nat} {h : AH} (hs : Sh h) (u0 : Option Value) (u1 : Option Value) (s0 : Int32) :
    Q d 232 17 [u0, u1] [.int s0] h =
  if s0 = 0 ∨ s0 = 1 then
   some (some (.int s0), h)
  else
   none := by
  rw [← hs.1]
  exact (blkM (fun p => false) 2 17 _ _ _).trans rfl

set_option maxRecDepth 16384 in
theorem t_232_21 {d : Nat} {h : AH} (hs : Sh h) (x0 : Nat) (u1 : Option Value) (s0 : Nat) :
    Q d 232 21 [some (.ref x0), u1] [.ref s0] h =
  cK (E d 276 [.ref s0] h) (Q d 232 25 [some (.ref x0), u1]) [.ref s0] := by
  rw [← hs.1]
  exact (blkM (fun p => Nat.beq p 25) 3 21 _ _ _).trans rfl

set_option maxRecDepth 16384 in
theorem t_232_25 {d : Nat} {h : AH} (hs : Sh h) (x0 : Nat) (u1 : Option Value) (s0 : Nat) :
    Q d 232 25 [some (.ref x0), u1] [.ref s0] h =
  (ck (gC h x0) 2 <|
  cK (E d 277 [.ref x0] h) (Q d 232 30 [some (.ref x0), some (.ref s0)]) []) := by
  rw [← hs.1]
  exact (blkM (fun p => Nat.beq p 30) 4 25 _ _ _).trans rfl

set_option maxRecDepth 16384 in
theorem t_232_30 {d : Nat} {h : AH} (hs : Sh h) (x0 : Nat) (x1 : Nat) (s0 : Int32) :
    Q d 232 30 [some (.ref x0), some (.ref x1)] [.int s0] h =
  if s0 = nI 0 then
   some (some (.int (nI 0)), h)
  else
   ck (gC h x0) 2 <|
   (gR h 520 x0).bind fun y1 =>
    ck (gC h y1) 12 <|
    ck (gC h x0) 2 <|
    cK (E d 278 [.ref x0, .long (gL h 3078 y1)] h) (Q d 232 46 [some (.ref x0), some (.ref x1)]) [] := by
  rw [← hs.1]
  exact (blkM (fun p => Nat.beq p 46) 7 30 _ _ _).trans rfl

set_option maxRecDepth 16384 in
theorem t_232_46 {d : Nat} {h : AH} (hs : Sh h) (x0 : Nat) (x1 : Nat) (s0 : Int32) :
    Q d 232 46 [some (.ref x0), some (.ref x1)] [.int s0] h =
  if s0 = (-1) then
   ck (gC h x0) 2 <|
   (gR h 520 x0).bind fun y1 =>
    ck (gC h y1) 12 <|
    ck (gC h x1) 7 <|
    ck (gC h x0) 2 <|
    (gR h 520 x0).bind fun y2 =>
     ck (gC h y2) 12 <|
     ck (gC h x0) 2 <|
     (gR h 520 x0).bind fun y3 =>
      ck (gC h y3) 12 <|
      if (gI h 3075 y2) - (gI h 3074 y3) < 0 then
       none
      else
       if ix ((gI h 3075 y2) - (gI h 3074 y3)) ≤ 1000000 then
        Q d 232 85 [some (.ref x0), some (.ref x1)] [.ref (gN h), .ref x1] (nwA (sL h 1792 x1 (gL h 3078 y1)) 60 (ix ((gI h 3075 y2) - (gI h 3074 y3))))
       else
        none
  else
   ck (gC h x0) 2 <|
   cK (E d 237 [.ref x0, .int (nI 3)] h) (Q d 232 55 [some (.ref x0), some (.ref x1)]) [] := by
  rw [← hs.1]
  exact (blkM (fun p => Nat.beq p 55 || Nat.beq p 85) 18 46 _ _ _).trans rfl

set_option maxRecDepth 16384 in
theorem t_232_55 {d : Nat} {h : AH} (hs : Sh h) (u0 : Option Value) (u1 : Option Value) (s0 : Int32) :
    Q d 232 55 [u0, u1] [.int s0] h =
  if s0 = 0 ∨ s0 = 1 then
   some (some (.int s0), h)
  else
   none := by
  rw [← hs.1]
  exact (blkM (fun p => false) 2 55 _ _ _).trans rfl

set_option maxRecDepth 16384 in
theorem t_232_85 {d : Nat} {h : AH} (hs : Sh h) (x0 : Nat) (x1 : Nat) (s0 : Nat) (s1 : Nat) :
    Q d 232 85 [some (.ref x0), some (.ref x1)] [.ref s1, .ref s0] h =
  (ck (gC h s0) 7 <|
  ck (gC h x0) 2 <|
  (gR h 520 x0).bind fun y1 =>
   ck (gC h x1) 7 <|
   (gR (sR h 1793 s0 (some s1)) 1793 x1).bind fun y2 =>
    ck (gC h y1) 12 <|
    cK (E d 279 [.ref y1, .ref y2, .int (nI 0)] (sR h 1793 s0 (some s1))) (Q d 232 100 [some (.ref x0), some (.ref x1)]) []) := by
  rw [← hs.1]
  exact (blkM (fun p => Nat.beq p 100) 8 85 _ _ _).trans rfl

set_option maxRecDepth 16384 in
theorem t_232_100 {d : Nat} {h : AH} (hs : Sh h) (x0 : Nat) (x1 : Nat) (s0 : Int32) :
    Q d 232 100 [some (.ref x0), some (.ref x1)] [.int s0] h =
  (ck (gC h x0) 2 <|
  cK (E d 280 [.ref x0, .int (nI 1), .int (nI 999)] h) (Q d 232 109 [some (.ref x0), some (.ref x1)]) []) := by
  rw [← hs.1]
  exact (blkM (fun p => Nat.beq p 109) 6 100 _ _ _).trans rfl

set_option maxRecDepth 16384 in
theorem t_232_109 {d : Nat} {h : AH} (hs : Sh h) (x0 : Nat) (x1 : Nat) (s0 : Int32) :
    Q d 232 109 [some (.ref x0), some (.ref x1)] [.int s0] h =
  if s0 = nI 0 then
   some (some (.int (nI 0)), h)
  else
   ck (gC h x0) 2 <|
   (gR h 520 x0).bind fun y1 =>
    ck (gC h y1) 12 <|
    ck (gC h x0) 2 <|
    cK (E d 281 [.ref x0, .int (gI h 3077 y1)] h) (Q d 232 125 [some (.ref x0), some (.ref x1)]) [] := by
  rw [← hs.1]
  exact (blkM (fun p => Nat.beq p 125) 7 109 _ _ _).trans rfl

set_option maxRecDepth 16384 in
theorem t_232_125 {d : Nat} {h : AH} (hs : Sh h) (x0 : Nat) (x1 : Nat) (s0 : Int32) :
    Q d 232 125 [some (.ref x0), some (.ref x1)] [.int s0] h =
  if s0 = nI 0 then
   ck (gC h x0) 2 <|
   (gR h 520 x0).bind fun y1 =>
    ck (gC h y1) 12 <|
    ck (gC h x1) 7 <|
    ck (gC h x0) 2 <|
    cK (E d 280 [.ref x0, .int (nI 0), .int (nI 999)] (sI h 1794 x1 (gI h 3077 y1))) (Q d 232 153 [some (.ref x0), some (.ref x1)]) []
  else
   ck (gC h x0) 2 <|
   cK (E d 237 [.ref x0, .int (nI 3)] h) (Q d 232 133 [some (.ref x0), some (.ref x1)]) [] := by
  rw [← hs.1]
  exact (blkM (fun p => Nat.beq p 133 || Nat.beq p 153) 11 125 _ _ _).trans rfl

set_option maxRecDepth 16384 in
theorem t_232_133 {d : Nat} {h : AH} (hs : Sh h) (u0 : Option Value) (u1 : Option Value) (s0 : Int32) :
    Q d 232 133 [u0, u1] [.int s0] h =
  if s0 = 0 ∨ s0 = 1 then
   some (some (.int s0), h)
  else
   none := by
  rw [← hs.1]
  exact (blkM (fun p => false) 2 133 _ _ _).trans rfl

set_option maxRecDepth 16384 in
theorem t_232_153 {d : Nat} {h : AH} (hs : Sh h) (x0 : Nat) (x1 : Nat) (s0 : Int32) :
    Q d 232 153 [some (.ref x0), some (.ref x1)] [.int s0] h =
  if s0 = nI 0 then
   some (some (.int (nI 0)), h)
  else
   ck (gC h x0) 2 <|
   (gR h 520 x0).bind fun y1 =>
    ck (gC h y1) 12 <|
    ck (gC h x1) 7 <|
    ck (gC h x0) 2 <|
    cK (E d 280 [.ref x0, .int (nI 0), .int (nI 999)] (sI h 1795 x1 (gI h 3077 y1))) (Q d 232 177 [some (.ref x0), some (.ref x1)]) [] := by
  rw [← hs.1]
  exact (blkM (fun p => Nat.beq p 177) 11 153 _ _ _).trans rfl

set_option maxRecDepth 16384 in
theorem t_232_177 {d : Nat} {h : AH} (hs : Sh h) (x0 : Nat) (x1 : Nat) (s0 : Int32) :
    Q d 232 177 [some (.ref x0), some (.ref x1)] [.int s0] h =
  if s0 = nI 0 then
   some (some (.int (nI 0)), h)
  else
   ck (gC h x0) 2 <|
   (gR h 520 x0).bind fun y1 =>
    ck (gC h y1) 12 <|
    ck (gC h x1) 7 <|
    ck (gC h x0) 2 <|
    (gR h 512 x0).bind fun y2 =>
     ck (gC h y2) 1 <|
     cK (E d 273 [.ref y2, .ref x1] (sI h 1796 x1 (gI h 3077 y1))) (Q d 232 201 [some (.ref x0), some (.ref x1)]) [] := by
  rw [← hs.1]
  exact (blkM (fun p => Nat.beq p 201) 11 177 _ _ _).trans rfl

set_option maxRecDepth 16384 in
theorem t_232_201 {d : Nat} {h : AH} (hs : Sh h) (x0 : Nat) (u1 : Option Value) (s0 : Int32) :
    Q d 232 201 [some (.ref x0), u1] [.int s0] h =
  (ck (gC h x0) 2 <|
  cK (E d 282 [.ref x0] h) (Q d 232 206 [some (.ref x0), u1]) []) := by
  rw [← hs.1]
  exact (blkM (fun p => Nat.beq p 206) 4 201 _ _ _).trans rfl

set_option maxRecDepth 16384 in
theorem t_232_206 {d : Nat} {h : AH} (hs : Sh h) (u0 : Option Value) (u1 : Option Value) (s0 : Int32) :
    Q d 232 206 [u0, u1] [.int s0] h =
  if s0 = 0 ∨ s0 = 1 then
   some (some (.int s0), h)
  else
   none := by
  rw [← hs.1]
  exact (blkM (fun p => false) 2 206 _ _ _).trans rfl

/-! 233 PostRoom$Book.readShort()Z -/
set_option maxRecDepth 16384 in
theorem t_233 {d : Nat} {h : AH} (hs : Sh h) (x0 : Nat) :
    E (d + 1) 233 [.ref x0] h =
  (ck (gC h x0) 2 <|
  if gI h 518 x0 < nI 20 then
   ck (gC h x0) 2 <|
   cK (E d 277 [.ref x0] h) (Q d 233 19 [some (.ref x0)]) []
  else
   ck (gC h x0) 2 <|
   cK (E d 237 [.ref x0, .int (nI 5)] h) (Q d 233 14 [some (.ref x0)]) []) := by
  rw [← hs.1]
  exact entL (l := [some (.ref x0)]) rfl rfl ((blkM (fun p => Nat.beq p 14 || Nat.beq p 19) 8 0 _ _ _).trans rfl)

set_option maxRecDepth 16384 in
theorem t_233_14 {d : Nat} {h : AH} (hs : Sh h) (u0 : Option Value) (s0 : Int32) :
    Q d 233 14 [u0] [.int s0] h =
  if s0 = 0 ∨ s0 = 1 then
   some (some (.int s0), h)
  else
   none := by
  rw [← hs.1]
  exact (blkM (fun p => false) 2 14 _ _ _).trans rfl

set_option maxRecDepth 16384 in
theorem t_233_19 {d : Nat} {h : AH} (hs : Sh h) (x0 : Nat) (s0 : Int32) :
    Q d 233 19 [some (.ref x0)] [.int s0] h =
  if s0 = nI 0 then
   some (some (.int (nI 0)), h)
  else
   ck (gC h x0) 2 <|
   (gR h 520 x0).bind fun y1 =>
    ck (gC h y1) 12 <|
    ck (gC h x0) 2 <|
    cK (E d 283 [.ref x0, .long (gL h 3078 y1)] h) (Q d 233 35 [some (.ref x0)]) [] := by
  rw [← hs.1]
  exact (blkM (fun p => Nat.beq p 35) 7 19 _ _ _).trans rfl

set_option maxRecDepth 16384 in
theorem t_233_35 {d : Nat} {h : AH} (hs : Sh h) (x0 : Nat) (s0 : Int32) :
    Q d 233 35 [some (.ref x0)] [.int s0] h =
  if s0 = (-1) then
   ck (gC h x0) 2 <|
   (gR h 516 x0).bind fun y1 =>
    ck (gC h x0) 2 <|
    ck (gC h x0) 2 <|
    (gR h 520 x0).bind fun y2 =>
     ck (gC h y2) 12 <|
     cw (gC h y1) 61 y1 <|
     gd (gI h 518 x0) (gK h y1) <|
     ck (gC h x0) 2 <|
     cK (E d 277 [.ref x0] (sB h y1 (ix (gI h 518 x0)) (gL h 3078 y2))) (Q d 233 65 [some (.ref x0)]) []
  else
   ck (gC h x0) 2 <|
   cK (E d 237 [.ref x0, .int (nI 3)] h) (Q d 233 44 [some (.ref x0)]) [] := by
  rw [← hs.1]
  exact (blkM (fun p => Nat.beq p 44 || Nat.beq p 65) 13 35 _ _ _).trans rfl

set_option maxRecDepth 16384 in
theorem t_233_44 {d : Nat} {h : AH} (hs : Sh h) (u0 : Option Value) (s0 : Int32) :
    Q d 233 44 [u0] [.int s0] h =
  if s0 = 0 ∨ s0 = 1 then
   some (some (.int s0), h)
  else
   none := by
  rw [← hs.1]
  exact (blkM (fun p => false) 2 44 _ _ _).trans rfl

set_option maxRecDepth 16384 in
theorem t_233_65 {d : Nat} {h : AH} (hs : Sh h) (x0 : Nat) (s0 : Int32) :
    Q d 233 65 [some (.ref x0)] [.int s0] h =
  if s0 = nI 0 then
   some (some (.int (nI 0)), h)
  else
   ck (gC h x0) 2 <|
   (gR h 517 x0).bind fun y1 =>
    ck (gC h x0) 2 <|
    ck (gC h x0) 2 <|
    (gR h 520 x0).bind fun y2 =>
     ck (gC h y2) 12 <|
     cw (gC h y1) 61 y1 <|
     gd (gI h 518 x0) (gK h y1) <|
     ck (gC h x0) 2 <|
     ck (gC h x0) 2 <|
     ck (gC h x0) 2 <|
     cK (E d 282 [.ref x0] (sI (sB h y1 (ix (gI h 518 x0)) (gL h 3078 y2)) 518 x0 ((gI h 518 x0) + (nI 1)))) (Q d 233 100 [some (.ref x0)]) [] := by
  rw [← hs.1]
  exact (blkM (fun p => Nat.beq p 100) 18 65 _ _ _).trans rfl

set_option maxRecDepth 16384 in
theorem t_233_100 {d : Nat} {h : AH} (hs : Sh h) (u0 : Option Value) (s0 : Int32) :
    Q d 233 100 [u0] [.int s0] h =
  if s0 = 0 ∨ s0 = 1 then
   some (some (.int s0), h)
  else
   none := by
  rw [← hs.1]
  exact (blkM (fun p => false) 2 100 _ _ _).trans rfl

/-! 234 PostRoom$Book.readStreet()Z -/
set_option maxRecDepth 16384 in
theorem t_234 {d : Nat} {h : AH} (hs : Sh h) (x0 : Nat) :
    E (d + 1) 234 [.ref x0] h =
  (ck (gC h x0) 2 <|
  (gR h 513 x0).bind fun y1 =>
   ck (gC h y1) 1 <|
   cK (E d 213 [.ref y1] h) (Q d 234 7 [some (.ref x0), none]) []) := by
  rw [← hs.1]
  exact entL (l := [some (.ref x0), none]) rfl rfl ((blkM (fun p => Nat.beq p 7) 4 0 _ _ _).trans rfl)

set_option maxRecDepth 16384 in
theorem t_234_7 {d : Nat} {h : AH} (hs : Sh h) (x0 : Nat) (u1 : Option Value) (s0 : Int32) :
    Q d 234 7 [some (.ref x0), u1] [.int s0] h =
  if s0 < nI 60 then
   Q d 234 21 [some (.ref x0), u1] [.ref (gN h)] (nwO h 11 9)
  else
   ck (gC h x0) 2 <|
   cK (E d 237 [.ref x0, .int (nI 5)] h) (Q d 234 17 [some (.ref x0), u1]) [] := by
  rw [← hs.1]
  exact (blkM (fun p => Nat.beq p 17 || Nat.beq p 21) 6 7 _ _ _).trans rfl

set_option maxRecDepth 16384 in
theorem t_234_17 {d : Nat} {h : AH} (hs : Sh h) (u0 : Option Value) (u1 : Option Value) (s0 : Int32) :
    Q d 234 17 [u0, u1] [.int s0] h =
  if s0 = 0 ∨ s0 = 1 then
   some (some (.int s0), h)
  else
   none := by
  rw [← hs.1]
  exact (blkM (fun p => false) 2 17 _ _ _).trans rfl

set_option maxRecDepth 16384 in
theorem t_234_21 {d : Nat} {h : AH} (hs : Sh h) (x0 : Nat) (u1 : Option Value) (s0 : Nat) :
    Q d 234 21 [some (.ref x0), u1] [.ref s0] h =
  cK (E d 284 [.ref s0] h) (Q d 234 25 [some (.ref x0), u1]) [.ref s0] := by
  rw [← hs.1]
  exact (blkM (fun p => Nat.beq p 25) 3 21 _ _ _).trans rfl

set_option maxRecDepth 16384 in
theorem t_234_25 {d : Nat} {h : AH} (hs : Sh h) (x0 : Nat) (u1 : Option Value) (s0 : Nat) :
    Q d 234 25 [some (.ref x0), u1] [.ref s0] h =
  (ck (gC h x0) 2 <|
  cK (E d 285 [.ref x0, .ref s0] h) (Q d 234 31 [some (.ref x0), some (.ref s0)]) []) := by
  rw [← hs.1]
  exact (blkM (fun p => Nat.beq p 31) 5 25 _ _ _).trans rfl

set_option maxRecDepth 16384 in
theorem t_234_31 {d : Nat} {h : AH} (hs : Sh h) (x0 : Nat) (x1 : Nat) (s0 : Int32) :
    Q d 234 31 [some (.ref x0), some (.ref x1)] [.int s0] h =
  if s0 = nI 0 then
   some (some (.int (nI 0)), h)
  else
   ck (gC h x0) 2 <|
   cK (E d 286 [.ref x0] h) (Q d 234 38 [some (.ref x0), some (.ref x1)]) [] := by
  rw [← hs.1]
  exact (blkM (fun p => Nat.beq p 38) 4 31 _ _ _).trans rfl

set_option maxRecDepth 16384 in
theorem t_234_38 {d : Nat} {h : AH} (hs : Sh h) (x0 : Nat) (x1 : Nat) (s0 : Int32) :
    Q d 234 38 [some (.ref x0), some (.ref x1)] [.int s0] h =
  if s0 = nI 0 then
   some (some (.int (nI 0)), h)
  else
   ck (gC h x0) 2 <|
   (gR h 520 x0).bind fun y1 =>
    ck (gC h y1) 12 <|
    ck (gC h x0) 2 <|
    cK (E d 278 [.ref x0, .long (gL h 3078 y1)] h) (Q d 234 55 [some (.ref x0), some (.ref x1)]) [.ref x1] := by
  rw [← hs.1]
  exact (blkM (fun p => Nat.beq p 55) 8 38 _ _ _).trans rfl

set_option maxRecDepth 16384 in
theorem t_234_55 {d : Nat} {h : AH} (hs : Sh h) (x0 : Nat) (x1 : Nat) (s0 : Nat) (s1 : Int32) :
    Q d 234 55 [some (.ref x0), some (.ref x1)] [.int s1, .ref s0] h =
  (ck (gC h s0) 11 <|
  ck (gC h x0) 2 <|
  cK (E d 287 [.ref x0, .ref x1] (sI h 2817 s0 s1)) (Q d 234 63 [some (.ref x0), some (.ref x1)]) []) := by
  rw [← hs.1]
  exact (blkM (fun p => Nat.beq p 63) 5 55 _ _ _).trans rfl

set_option maxRecDepth 16384 in
theorem t_234_63 {d : Nat} {h : AH} (hs : Sh h) (x0 : Nat) (x1 : Nat) (s0 : Int32) :
    Q d 234 63 [some (.ref x0), some (.ref x1)] [.int s0] h =
  if s0 = nI 0 then
   some (some (.int (nI 0)), h)
  else
   ck (gC h x0) 2 <|
   cK (E d 288 [.ref x0, .ref 6] h) (Q d 234 72 [some (.ref x0), some (.ref x1)]) [] := by
  rw [← hs.1]
  exact (blkM (fun p => Nat.beq p 72) 5 63 _ _ _).trans rfl

set_option maxRecDepth 16384 in
theorem t_234_72 {d : Nat} {h : AH} (hs : Sh h) (x0 : Nat) (x1 : Nat) (s0 : Int32) :
    Q d 234 72 [some (.ref x0), some (.ref x1)] [.int s0] h =
  if s0 = nI 0 then
   some (some (.int (nI 0)), h)
  else
   ck (gC h x0) 2 <|
   cK (E d 280 [.ref x0, .int (nI 0), .int (nI 999)] h) (Q d 234 83 [some (.ref x0), some (.ref x1)]) [] := by
  rw [← hs.1]
  exact (blkM (fun p => Nat.beq p 83) 6 72 _ _ _).trans rfl

set_option maxRecDepth 16384 in
theorem t_234_83 {d : Nat} {h : AH} (hs : Sh h) (x0 : Nat) (x1 : Nat) (s0 : Int32) :
    Q d 234 83 [some (.ref x0), some (.ref x1)] [.int s0] h =
  if s0 = nI 0 then
   some (some (.int (nI 0)), h)
  else
   ck (gC h x0) 2 <|
   (gR h 520 x0).bind fun y1 =>
    ck (gC h y1) 12 <|
    ck (gC h x1) 11 <|
    ck (gC h x0) 2 <|
    cK (E d 280 [.ref x0, .int (nI 0), .int (nI 999)] (sI h 2821 x1 (gI h 3077 y1))) (Q d 234 107 [some (.ref x0), some (.ref x1)]) [] := by
  rw [← hs.1]
  exact (blkM (fun p => Nat.beq p 107) 11 83 _ _ _).trans rfl

set_option maxRecDepth 16384 in
theorem t_234_107 {d : Nat} {h : AH} (hs : Sh h) (x0 : Nat) (x1 : Nat) (s0 : Int32) :
    Q d 234 107 [some (.ref x0), some (.ref x1)] [.int s0] h =
  if s0 = nI 0 then
   some (some (.int (nI 0)), h)
  else
   ck (gC h x0) 2 <|
   (gR h 520 x0).bind fun y1 =>
    ck (gC h y1) 12 <|
    ck (gC h x1) 11 <|
    ck (gC h x0) 2 <|
    (gR h 520 x0).bind fun y2 =>
     ck (gC h y2) 12 <|
     cK (E d 238 [.ref y2] (sI h 2822 x1 (gI h 3077 y1))) (Q d 234 130 [some (.ref x0), some (.ref x1)]) [] := by
  rw [← hs.1]
  exact (blkM (fun p => Nat.beq p 130) 10 107 _ _ _).trans rfl

set_option maxRecDepth 16384 in
theorem t_234_130 {d : Nat} {h : AH} (hs : Sh h) (x0 : Nat) (x1 : Nat) :
    Q d 234 130 [some (.ref x0), some (.ref x1)] [] h =
  (ck (gC h x0) 2 <|
  (gR h 520 x0).bind fun y1 =>
   ck (gC h y1) 12 <|
   cK (E d 231 [.ref y1, .ref 7] h) (Q d 234 140 [some (.ref x0), some (.ref x1)]) [.ref x1]) := by
  rw [← hs.1]
  exact (blkM (fun p => Nat.beq p 140) 6 130 _ _ _).trans rfl

set_option maxRecDepth 16384 in
theorem t_234_140 {d : Nat} {h : AH} (hs : Sh h) (x0 : Nat) (x1 : Nat) (s0 : Nat) (s1 : Int32) :
    Q d 234 140 [some (.ref x0), some (.ref x1)] [.int s1, .ref s0] h =
  (ck (gC h s0) 11 <|
  ck (gC h x1) 11 <|
  if gI (sI h 2823 s0 s1) 2823 x1 = (-1) then
   ck (gC h x0) 2 <|
   cK (E d 237 [.ref x0, .int (nI 1)] (sI h 2823 s0 s1)) (Q d 234 156 [some (.ref x0), some (.ref x1)]) []
  else
   ck (gC h x0) 2 <|
   cK (E d 288 [.ref x0, .ref 8] (sI h 2823 s0 s1)) (Q d 234 163 [some (.ref x0), some (.ref x1)]) []) := by
  rw [← hs.1]
  exact (blkM (fun p => Nat.beq p 156 || Nat.beq p 163) 9 140 _ _ _).trans rfl

set_option maxRecDepth 16384 in
theorem t_234_156 {d : Nat} {h : AH} (hs : Sh h) (u0 : Option Value) (u1 : Option Value) (s0 : Int32) :
    Q d 234 156 [u0, u1] [.int s0] h =
  if s0 = 0 ∨ s0 = 1 then
   some (some (.int s0), h)
  else
   none := by
  rw [← hs.1]
  exact (blkM (fun p => false) 2 156 _ _ _).trans rfl

set_option maxRecDepth 16384 in
theorem t_234_163 {d : Nat} {h : AH} (hs : Sh h) (x0 : Nat) (x1 : Nat) (s0 : Int32) :
    Q d 234 163 [some (.ref x0), some (.ref x1)] [.int s0] h =
  if s0 = nI 0 then
   some (some (.int (nI 0)), h)
  else
   ck (gC h x0) 2 <|
   cK (E d 280 [.ref x0, .int (nI 0), .int (nI 9)] h) (Q d 234 173 [some (.ref x0), some (.ref x1)]) [] := by
  rw [← hs.1]
  exact (blkM (fun p => Nat.beq p 173) 6 163 _ _ _).trans rfl

set_option maxRecDepth 16384 in
theorem t_234_173 {d : Nat} {h : AH} (hs : Sh h) (x0 : Nat) (x1 : Nat) (s0 : Int32) :
    Q d 234 173 [some (.ref x0), some (.ref x1)] [.int s0] h =
  if s0 = nI 0 then
   some (some (.int (nI 0)), h)
  else
   ck (gC h x0) 2 <|
   (gR h 520 x0).bind fun y1 =>
    ck (gC h y1) 12 <|
    ck (gC h x1) 11 <|
    ck (gC h x0) 2 <|
    (gR h 513 x0).bind fun y2 =>
     ck (gC h y2) 1 <|
     cK (E d 273 [.ref y2, .ref x1] (sI h 2824 x1 (gI h 3077 y1))) (Q d 234 197 [some (.ref x0), some (.ref x1)]) [] := by
  rw [← hs.1]
  exact (blkM (fun p => Nat.beq p 197) 11 173 _ _ _).trans rfl

set_option maxRecDepth 16384 in
theorem t_234_197 {d : Nat} {h : AH} (hs : Sh h) (x0 : Nat) (u1 : Option Value) (s0 : Int32) :
    Q d 234 197 [some (.ref x0), u1] [.int s0] h =
  (ck (gC h x0) 2 <|
  cK (E d 282 [.ref x0] h) (Q d 234 202 [some (.ref x0), u1]) []) := by
  rw [← hs.1]
  exact (blkM (fun p => Nat.beq p 202) 4 197 _ _ _).trans rfl

set_option maxRecDepth 16384 in
theorem t_234_202 {d : Nat} {h : AH} (hs : Sh h) (u0 : Option Value) (u1 : Option Value) (s0 : Int32) :
    Q d 234 202 [u0, u1] [.int s0] h =
  if s0 = 0 ∨ s0 = 1 then
   some (some (.int s0), h)
  else
   none := by
  rw [← hs.1]
  exact (blkM (fun p => false) 2 202 _ _ _).trans rfl

/-! 235 PostRoom$Book.readService()Z -/
set_option maxRecDepth 16384 in
theorem t_235 {d : Nat} {h : AH} (hs : Sh h) (x0 : Nat) :
    E (d + 1) 235 [.ref x0] h =
  (ck (gC h x0) 2 <|
  (gR h 514 x0).bind fun y1 =>
   ck (gC h y1) 1 <|
   cK (E d 213 [.ref y1] h) (Q d 235 7 [some (.ref x0), none]) []) := by
  rw [← hs.1]
  exact entL (l := [some (.ref x0), none]) rfl rfl ((blkM (fun p => Nat.beq p 7) 4 0 _ _ _).trans rfl)

set_option maxRecDepth 16384 in
theorem t_235_7 {d : Nat} {h : AH} (hs : Sh h) (x0 : Nat) (u1 : Option Value) (s0 : Int32) :
    Q d 235 7 [some (.ref x0), u1] [.int s0] h =
  if s0 < nI 8 then
   Q d 235 21 [some (.ref x0), u1] [.ref (gN h)] (nwO h 10 8)
  else
   ck (gC h x0) 2 <|
   cK (E d 237 [.ref x0, .int (nI 5)] h) (Q d 235 17 [some (.ref x0), u1]) [] := by
  rw [← hs.1]
  exact (blkM (fun p => Nat.beq p 17 || Nat.beq p 21) 6 7 _ _ _).trans rfl

set_option maxRecDepth 16384 in
theorem t_235_17 {d : Nat} {h : AH} (hs : Sh h) (u0 : Option Value) (u1 : Option Value) (s0 : Int32) :
    Q d 235 17 [u0, u1] [.int s0] h =
  if s0 = 0 ∨ s0 = 1 then
   some (some (.int s0), h)
  else
   none := by
  rw [← hs.1]
  exact (blkM (fun p => false) 2 17 _ _ _).trans rfl

set_option maxRecDepth 16384 in
theorem t_235_21 {d : Nat} {h : AH} (hs : Sh h) (x0 : Nat) (u1 : Option Value) (s0 : Nat) :
    Q d 235 21 [some (.ref x0), u1] [.ref s0] h =
  cK (E d 289 [.ref s0] h) (Q d 235 25 [some (.ref x0), u1]) [.ref s0] := by
  rw [← hs.1]
  exact (blkM (fun p => Nat.beq p 25) 3 21 _ _ _).trans rfl

set_option maxRecDepth 16384 in
theorem t_235_25 {d : Nat} {h : AH} (hs : Sh h) (x0 : Nat) (u1 : Option Value) (s0 : Nat) :
    Q d 235 25 [some (.ref x0), u1] [.ref s0] h =
  (ck (gC h x0) 2 <|
  cK (E d 277 [.ref x0] h) (Q d 235 30 [some (.ref x0), some (.ref s0)]) []) := by
  rw [← hs.1]
  exact (blkM (fun p => Nat.beq p 30) 4 25 _ _ _).trans rfl

set_option maxRecDepth 16384 in
theorem t_235_30 {d : Nat} {h : AH} (hs : Sh h) (x0 : Nat) (x1 : Nat) (s0 : Int32) :
    Q d 235 30 [some (.ref x0), some (.ref x1)] [.int s0] h =
  if s0 = nI 0 then
   some (some (.int (nI 0)), h)
  else
   ck (gC h x0) 2 <|
   (gR h 520 x0).bind fun y1 =>
    ck (gC h y1) 12 <|
    ck (gC h x0) 2 <|
    cK (E d 290 [.ref x0, .long (gL h 3078 y1)] h) (Q d 235 46 [some (.ref x0), some (.ref x1)]) [] := by
  rw [← hs.1]
  exact (blkM (fun p => Nat.beq p 46) 7 30 _ _ _).trans rfl

set_option maxRecDepth 16384 in
theorem t_235_46 {d : Nat} {h : AH} (hs : Sh h) (x0 : Nat) (x1 : Nat) (s0 : Int32) :
    Q d 235 46 [some (.ref x0), some (.ref x1)] [.int s0] h =
  if s0 = nI 0 then
   ck (gC h x0) 2 <|
   (gR h 520 x0).bind fun y1 =>
    ck (gC h y1) 12 <|
    ck (gC h x1) 10 <|
    ck (gC h x0) 2 <|
    (gR h 520 x0).bind fun y2 =>
     ck (gC h y2) 12 <|
     cK (E d 238 [.ref y2] (sL h 2560 x1 (gL h 3078 y1))) (Q d 235 73 [some (.ref x0), some (.ref x1)]) []
  else
   ck (gC h x0) 2 <|
   cK (E d 237 [.ref x0, .int (nI 3)] h) (Q d 235 54 [some (.ref x0), some (.ref x1)]) [] := by
  rw [← hs.1]
  exact (blkM (fun p => Nat.beq p 54 || Nat.beq p 73) 10 46 _ _ _).trans rfl

set_option maxRecDepth 16384 in
theorem t_235_54 {d : Nat} {h : AH} (hs : Sh h) (u0 : Option Value) (u1 : Option Value) (s0 : Int32) :
    Q d 235 54 [u0, u1] [.int s0] h =
  if s0 = 0 ∨ s0 = 1 then
   some (some (.int s0), h)
  else
   none := by
  rw [← hs.1]
  exact (blkM (fun p => false) 2 54 _ _ _).trans rfl

set_option maxRecDepth 16384 in
theorem t_235_73 {d : Nat} {h : AH} (hs : Sh h) (x0 : Nat) (x1 : Nat) :
    Q d 235 73 [some (.ref x0), some (.ref x1)] [] h =
  (ck (gC h x0) 2 <|
  (gR h 520 x0).bind fun y1 =>
   ck (gC h y1) 12 <|
   cK (E d 231 [.ref y1, .ref 9] h) (Q d 235 83 [some (.ref x0), some (.ref x1)]) [.ref x1]) := by
  rw [← hs.1]
  exact (blkM (fun p => Nat.beq p 83) 6 73 _ _ _).trans rfl

set_option maxRecDepth 16384 in
theorem t_235_83 {d : Nat} {h : AH} (hs : Sh h) (x0 : Nat) (x1 : Nat) (s0 : Nat) (s1 : Int32) :
    Q d 235 83 [some (.ref x0), some (.ref x1)] [.int s1, .ref s0] h =
  (ck (gC h s0) 10 <|
  ck (gC h x1) 10 <|
  if gI (sI h 2561 s0 s1) 2561 x1 = (-1) then
   ck (gC h x0) 2 <|
   cK (E d 237 [.ref x0, .int (nI 1)] (sI h 2561 s0 s1)) (Q d 235 99 [some (.ref x0), some (.ref x1)]) []
  else
   ck (gC h x0) 2 <|
   cK (E d 288 [.ref x0, .ref 10] (sI h 2561 s0 s1)) (Q d 235 106 [some (.ref x0), some (.ref x1)]) []) := by
  rw [← hs.1]
  exact (blkM (fun p => Nat.beq p 99 || Nat.beq p 106) 9 83 _ _ _).trans rfl

set_option maxRecDepth 16384 in
theorem t_235_99 {d : Nat} {h : AH} (hs : Sh h) (u0 : Option Value) (u1 : Option Value) (s0 : Int32) :
    Q d 235 99 [u0, u1] [.int s0] h =
  if s0 = 0 ∨ s0 = 1 then
   some (some (.int s0), h)
  else
   none := by
  rw [← hs.1]
  exact (blkM (fun p => false) 2 99 _ _ _).trans rfl

set_option maxRecDepth 16384 in
theorem t_235_106 {d : Nat} {h : AH} (hs : Sh h) (x0 : Nat) (x1 : Nat) (s0 : Int32) :
    Q d 235 106 [some (.ref x0), some (.ref x1)] [.int s0] h =
  if s0 = nI 0 then
   some (some (.int (nI 0)), h)
  else
   ck (gC h x0) 2 <|
   cK (E d 280 [.ref x0, .int (nI 1), .int (nI 4000)] h) (Q d 235 117 [some (.ref x0), some (.ref x1)]) [] := by
  rw [← hs.1]
  exact (blkM (fun p => Nat.beq p 117) 6 106 _ _ _).trans rfl

set_option maxRecDepth 16384 in
theorem t_235_117 {d : Nat} {h : AH} (hs : Sh h) (x0 : Nat) (x1 : Nat) (s0 : Int32) :
    Q d 235 117 [some (.ref x0), some (.ref x1)] [.int s0] h =
  if s0 = nI 0 then
   some (some (.int (nI 0)), h)
  else
   ck (gC h x0) 2 <|
   (gR h 520 x0).bind fun y1 =>
    ck (gC h y1) 12 <|
    ck (gC h x1) 10 <|
    ck (gC h x0) 2 <|
    (gR h 514 x0).bind fun y2 =>
     ck (gC h y2) 1 <|
     cK (E d 273 [.ref y2, .ref x1] (sI h 2562 x1 (gI h 3077 y1))) (Q d 235 141 [some (.ref x0), some (.ref x1)]) [] := by
  rw [← hs.1]
  exact (blkM (fun p => Nat.beq p 141) 11 117 _ _ _).trans rfl

set_option maxRecDepth 16384 in
theorem t_235_141 {d : Nat} {h : AH} (hs : Sh h) (x0 : Nat) (x1 : Nat) (s0 : Int32) :
    Q d 235 141 [some (.ref x0), some (.ref x1)] [.int s0] h =
  (ck (gC h x0) 2 <|
  cK (E d 291 [.ref x0, .ref x1] h) (Q d 235 147 [some (.ref x0), some (.ref x1)]) []) := by
  rw [← hs.1]
  exact (blkM (fun p => Nat.beq p 147) 5 141 _ _ _).trans rfl

set_option maxRecDepth 16384 in
theorem t_235_147 {d : Nat} {h : AH} (hs : Sh h) (u0 : Option Value) (u1 : Option Value) (s0 : Int32) :
    Q d 235 147 [u0, u1] [.int s0] h =
  if s0 = 0 ∨ s0 = 1 then
   some (some (.int s0), h)
  else
   none := by
  rw [← hs.1]
  exact (blkM (fun p => false) 2 147 _ _ _).trans rfl

/-! 236 PostRoom$Book.readCoach()Z -/
set_option maxRecDepth 16384 in
theorem t_236 {d : Nat} {h : AH} (hs : Sh h) (x0 : Nat) :
    E (d + 1) 236 [.ref x0] h =
  (ck (gC h x0) 2 <|
  (gR h 515 x0).bind fun y1 =>
   ck (gC h y1) 1 <|
   cK (E d 213 [.ref y1] h) (Q d 236 7 [some (.ref x0), none]) []) := by
  rw [← hs.1]
  exact entL (l := [some (.ref x0), none]) rfl rfl ((blkM (fun p => Nat.beq p 7) 4 0 _ _ _).trans rfl)

set_option maxRecDepth 16384 in
theorem t_236_7 {d : Nat} {h : AH} (hs : Sh h) (x0 : Nat) (u1 : Option Value) (s0 : Int32) :
    Q d 236 7 [some (.ref x0), u1] [.int s0] h =
  if s0 < nI 40 then
   Q d 236 21 [some (.ref x0), u1] [.ref (gN h)] (nwO h 3 8)
  else
   ck (gC h x0) 2 <|
   cK (E d 237 [.ref x0, .int (nI 5)] h) (Q d 236 17 [some (.ref x0), u1]) [] := by
  rw [← hs.1]
  exact (blkM (fun p => Nat.beq p 17 || Nat.beq p 21) 6 7 _ _ _).trans rfl

set_option maxRecDepth 16384 in
theorem t_236_17 {d : Nat} {h : AH} (hs : Sh h) (u0 : Option Value) (u1 : Option Value) (s0 : Int32) :
    Q d 236 17 [u0, u1] [.int s0] h =
  if s0 = 0 ∨ s0 = 1 then
   some (some (.int s0), h)
  else
   none := by
  rw [← hs.1]
  exact (blkM (fun p => false) 2 17 _ _ _).trans rfl

set_option maxRecDepth 16384 in
theorem t_236_21 {d : Nat} {h : AH} (hs : Sh h) (x0 : Nat) (u1 : Option Value) (s0 : Nat) :
    Q d 236 21 [some (.ref x0), u1] [.ref s0] h =
  cK (E d 292 [.ref s0] h) (Q d 236 25 [some (.ref x0), u1]) [.ref s0] := by
  rw [← hs.1]
  exact (blkM (fun p => Nat.beq p 25) 3 21 _ _ _).trans rfl

set_option maxRecDepth 16384 in
theorem t_236_25 {d : Nat} {h : AH} (hs : Sh h) (x0 : Nat) (u1 : Option Value) (s0 : Nat) :
    Q d 236 25 [some (.ref x0), u1] [.ref s0] h =
  (ck (gC h x0) 2 <|
  cK (E d 286 [.ref x0] h) (Q d 236 30 [some (.ref x0), some (.ref s0)]) []) := by
  rw [← hs.1]
  exact (blkM (fun p => Nat.beq p 30) 4 25 _ _ _).trans rfl

set_option maxRecDepth 16384 in
theorem t_236_30 {d : Nat} {h : AH} (hs : Sh h) (x0 : Nat) (x1 : Nat) (s0 : Int32) :
    Q d 236 30 [some (.ref x0), some (.ref x1)] [.int s0] h =
  if s0 = nI 0 then
   some (some (.int (nI 0)), h)
  else
   ck (gC h x0) 2 <|
   (gR h 520 x0).bind fun y1 =>
    ck (gC h y1) 12 <|
    ck (gC h x0) 2 <|
    cK (E d 278 [.ref x0, .long (gL h 3078 y1)] h) (Q d 236 47 [some (.ref x0), some (.ref x1)]) [.ref x1] := by
  rw [← hs.1]
  exact (blkM (fun p => Nat.beq p 47) 8 30 _ _ _).trans rfl

set_option maxRecDepth 16384 in
theorem t_236_47 {d : Nat} {h : AH} (hs : Sh h) (x0 : Nat) (x1 : Nat) (s0 : Nat) (s1 : Int32) :
    Q d 236 47 [some (.ref x0), some (.ref x1)] [.int s1, .ref s0] h =
  (ck (gC h s0) 3 <|
  ck (gC h x0) 2 <|
  cK (E d 286 [.ref x0] (sI h 768 s0 s1)) (Q d 236 54 [some (.ref x0), some (.ref x1)]) []) := by
  rw [← hs.1]
  exact (blkM (fun p => Nat.beq p 54) 4 47 _ _ _).trans rfl

set_option maxRecDepth 16384 in
theorem t_236_54 {d : Nat} {h : AH} (hs : Sh h) (x0 : Nat) (x1 : Nat) (s0 : Int32) :
    Q d 236 54 [some (.ref x0), some (.ref x1)] [.int s0] h =
  if s0 = nI 0 then
   some (some (.int (nI 0)), h)
  else
   ck (gC h x0) 2 <|
   (gR h 520 x0).bind fun y1 =>
    ck (gC h y1) 12 <|
    ck (gC h x0) 2 <|
    cK (E d 278 [.ref x0, .long (gL h 3078 y1)] h) (Q d 236 71 [some (.ref x0), some (.ref x1)]) [.ref x1] := by
  rw [← hs.1]
  exact (blkM (fun p => Nat.beq p 71) 8 54 _ _ _).trans rfl

set_option maxRecDepth 16384 in
theorem t_236_71 {d : Nat} {h : AH} (hs : Sh h) (x0 : Nat) (x1 : Nat) (s0 : Nat) (s1 : Int32) :
    Q d 236 71 [some (.ref x0), some (.ref x1)] [.int s1, .ref s0] h =
  (ck (gC h s0) 3 <|
  ck (gC h x1) 3 <|
  ck (gC h x1) 3 <|
  if gI (sI h 769 s0 s1) 769 x1 = gI h 768 x1 then
   ck (gC h x0) 2 <|
   cK (E d 237 [.ref x0, .int (nI 3)] (sI h 769 s0 s1)) (Q d 236 90 [some (.ref x0), some (.ref x1)]) []
  else
   ck (gC h x0) 2 <|
   cK (E d 293 [.ref x0, .ref x1] (sI h 769 s0 s1)) (Q d 236 96 [some (.ref x0), some (.ref x1)]) []) := by
  rw [← hs.1]
  exact (blkM (fun p => Nat.beq p 90 || Nat.beq p 96) 10 71 _ _ _).trans rfl

set_option maxRecDepth 16384 in
theorem t_236_90 {d : Nat} {h : AH} (hs : Sh h) (u0 : Option Value) (u1 : Option Value) (s0 : Int32) :
    Q d 236 90 [u0, u1] [.int s0] h =
  if s0 = 0 ∨ s0 = 1 then
   some (some (.int s0), h)
  else
   none := by
  rw [← hs.1]
  exact (blkM (fun p => false) 2 90 _ _ _).trans rfl

set_option maxRecDepth 16384 in
theorem t_236_96 {d : Nat} {h : AH} (hs : Sh h) (x0 : Nat) (x1 : Nat) (s0 : Int32) :
    Q d 236 96 [some (.ref x0), some (.ref x1)] [.int s0] h =
  if s0 = nI 0 then
   some (some (.int (nI 0)), h)
  else
   ck (gC h x0) 2 <|
   cK (E d 288 [.ref x0, .ref 16] h) (Q d 236 106 [some (.ref x0), some (.ref x1)]) [] := by
  rw [← hs.1]
  exact (blkM (fun p => Nat.beq p 106) 5 96 _ _ _).trans rfl

set_option maxRecDepth 16384 in
theorem t_236_106 {d : Nat} {h : AH} (hs : Sh h) (x0 : Nat) (x1 : Nat) (s0 : Int32) :
    Q d 236 106 [some (.ref x0), some (.ref x1)] [.int s0] h =
  if s0 = nI 0 then
   some (some (.int (nI 0)), h)
  else
   ck (gC h x0) 2 <|
   cK (E d 280 [.ref x0, .int (nI 1), .int (nI 3000)] h) (Q d 236 117 [some (.ref x0), some (.ref x1)]) [] := by
  rw [← hs.1]
  exact (blkM (fun p => Nat.beq p 117) 6 106 _ _ _).trans rfl

set_option maxRecDepth 16384 in
theorem t_236_117 {d : Nat} {h : AH} (hs : Sh h) (x0 : Nat) (x1 : Nat) (s0 : Int32) :
    Q d 236 117 [some (.ref x0), some (.ref x1)] [.int s0] h =
  if s0 = nI 0 then
   some (some (.int (nI 0)), h)
  else
   ck (gC h x0) 2 <|
   (gR h 520 x0).bind fun y1 =>
    ck (gC h y1) 12 <|
    ck (gC h x1) 3 <|
    ck (gC h x0) 2 <|
    cK (E d 288 [.ref x0, .ref 17] (sI h 773 x1 (gI h 3077 y1))) (Q d 236 140 [some (.ref x0), some (.ref x1)]) [] := by
  rw [← hs.1]
  exact (blkM (fun p => Nat.beq p 140) 10 117 _ _ _).trans rfl

set_option maxRecDepth 16384 in
theorem t_236_140 {d : Nat} {h : AH} (hs : Sh h) (x0 : Nat) (x1 : Nat) (s0 : Int32) :
    Q d 236 140 [some (.ref x0), some (.ref x1)] [.int s0] h =
  if s0 = nI 0 then
   some (some (.int (nI 0)), h)
  else
   ck (gC h x0) 2 <|
   cK (E d 280 [.ref x0, .int (nI 1), .int (nI 20)] h) (Q d 236 150 [some (.ref x0), some (.ref x1)]) [] := by
  rw [← hs.1]
  exact (blkM (fun p => Nat.beq p 150) 6 140 _ _ _).trans rfl

set_option maxRecDepth 16384 in
theorem t_236_150 {d : Nat} {h : AH} (hs : Sh h) (x0 : Nat) (x1 : Nat) (s0 : Int32) :
    Q d 236 150 [some (.ref x0), some (.ref x1)] [.int s0] h =
  if s0 = nI 0 then
   some (some (.int (nI 0)), h)
  else
   ck (gC h x0) 2 <|
   (gR h 520 x0).bind fun y1 =>
    ck (gC h y1) 12 <|
    ck (gC h x1) 3 <|
    ck (gC h x0) 2 <|
    (gR h 515 x0).bind fun y2 =>
     ck (gC h y2) 1 <|
     cK (E d 273 [.ref y2, .ref x1] (sI h 774 x1 (gI h 3077 y1))) (Q d 236 174 [some (.ref x0), some (.ref x1)]) [] := by
  rw [← hs.1]
  exact (blkM (fun p => Nat.beq p 174) 11 150 _ _ _).trans rfl

set_option maxRecDepth 16384 in
theorem t_236_174 {d : Nat} {h : AH} (hs : Sh h) (x0 : Nat) (u1 : Option Value) (s0 : Int32) :
    Q d 236 174 [some (.ref x0), u1] [.int s0] h =
  (ck (gC h x0) 2 <|
  cK (E d 282 [.ref x0] h) (Q d 236 179 [some (.ref x0), u1]) []) := by
  rw [← hs.1]
  exact (blkM (fun p => Nat.beq p 179) 4 174 _ _ _).trans rfl

set_option maxRecDepth 16384 in
theorem t_236_179 {d : Nat} {h : AH} (hs : Sh h) (u0 : Option Value) (u1 : Option Value) (s0 : Int32) :
    Q d 236 179 [u0, u1] [.int s0] h =
  if s0 = 0 ∨ s0 = 1 then
   some (some (.int s0), h)
  else
   none := by
  rw [← hs.1]
  exact (blkM (fun p => false) 2 179 _ _ _).trans rfl

/-! 237 PostRoom$Book.fails(I)Z -/
set_option maxRecDepth 16384 in
theorem t_237 {d : Nat} {h : AH} (hs : Sh h) (x0 : Nat) (x1 : Int32) :
    E (d + 1) 237 [.ref x0, .int x1] h =
  (ck (gC h x0) 2 <|
  (gR h 520 x0).bind fun y1 =>
   ck (gC h y1) 12 <|
   ck (gC h x0) 2 <|
   some (some (.int (nI 0)), sI h 519 x0 (x1 + ((nI 16) * (gI h 3074 y1))))) := by
  rw [← hs.1]
  exact entL (l := [some (.ref x0), some (.int x1)]) rfl rfl ((blkM (fun p => false) 12 0 _ _ _).trans rfl)

/-! 238 PostRoom$Tape.advance()V -/
set_option maxRecDepth 16384 in
theorem t_238 {d : Nat} {h : AH} (hs : Sh h)  :
    E (d + 1) 238 [.ref 101] h =
  Q d 238 5 [some (.ref 101), some (.int (gI h 3075 101)), none, none, none] [] h := by
  rw [← hs.1]
  exact entL (l := [some (.ref 101), none, none, none, none]) rfl rfl ((blkM (fun p => Nat.beq p 5) 5 0 _ _ _).trans rfl)

set_option maxRecDepth 16384 in
theorem t_238_5 {d : Nat} {h : AH} (hs : Sh h) (x1 : Int32) :
    Q d 238 5 [some (.ref 101), some (.int x1), none, none, none] [] h =
  if x1 < gI h 3073 101 then
   gd x1 4000 <|
   if gA h 102 (ix x1) = nI 32 then
    Q d 238 5 [some (.ref 101), some (.int (x1 + nI 1)), none, none, none] [] h
   else
    gd x1 4000 <|
    if gA h 102 (ix x1) = nI 10 then
     Q d 238 5 [some (.ref 101), some (.int (x1 + nI 1)), none, none, none] [] h
    else
     if x1 < gI h 3073 101 then
      gd x1 4000 <|
      cK (E d 294 [.int (gA h 102 (ix x1))] (sL (sI (sI h 3074 101 x1) 3077 101 (nI 0)) 3078 101 0)) (Q d 238 73 [some (.ref 101), some (.int x1), none, none, none]) []
     else
      if (nI 0) = nI 0 then
       Q d 238 95 [some (.ref 101), some (.int x1), some (.int (nI 0)), some (.int (nI 1)), none] [] (sL (sI (sI h 3074 101 x1) 3077 101 (nI 0)) 3078 101 0)
      else
       Q d 238 95 [some (.ref 101), some (.int x1), some (.int (nI 0)), some (.int (nI 27)), none] [] (sL (sI (sI h 3074 101 x1) 3077 101 (nI 0)) 3078 101 0)
  else
   if x1 < gI h 3073 101 then
    gd x1 4000 <|
    cK (E d 294 [.int (gA h 102 (ix x1))] (sL (sI (sI h 3074 101 x1) 3077 101 (nI 0)) 3078 101 0)) (Q d 238 73 [some (.ref 101), some (.int x1), none, none, none]) []
   else
    if (nI 0) = nI 0 then
     Q d 238 95 [some (.ref 101), some (.int x1), some (.int (nI 0)), some (.int (nI 1)), none] [] (sL (sI (sI h 3074 101 x1) 3077 101 (nI 0)) 3078 101 0)
    else
     Q d 238 95 [some (.ref 101), some (.int x1), some (.int (nI 0)), some (.int (nI 27)), none] [] (sL (sI (sI h 3074 101 x1) 3077 101 (nI 0)) 3078 101 0) := by
  rw [← hs.1]
  exact (blkM (fun p => Nat.beq p 5 || Nat.beq p 73 || Nat.beq p 95) 38 5 _ _ _).trans rfl

set_option maxRecDepth 16384 in
theorem t_238_73 {d : Nat} {h : AH} (hs : Sh h) (x1 : Int32) (u2 : Option Value) (u3 : Option Value) (u4 : Option Value) (s0 : Int32) :
    Q d 238 73 [some (.ref 101), some (.int x1), u2, u3, u4] [.int s0] h =
  if s0 < nI 27 then
   if (nI 0) = nI 0 then
    Q d 238 95 [some (.ref 101), some (.int x1), some (.int (nI 0)), some (.int (nI 1)), none] [] h
   else
    Q d 238 95 [some (.ref 101), some (.int x1), some (.int (nI 0)), some (.int (nI 27)), none] [] h
  else
   if (nI 1) = nI 0 then
    Q d 238 95 [some (.ref 101), some (.int x1), some (.int (nI 1)), some (.int (nI 1)), none] [] h
   else
    Q d 238 95 [some (.ref 101), some (.int x1), some (.int (nI 1)), some (.int (nI 27)), none] [] h := by
  rw [← hs.1]
  exact (blkM (fun p => Nat.beq p 95) 12 73 _ _ _).trans rfl

set_option maxRecDepth 16384 in
theorem t_238_95 {d : Nat} {h : AH} (hs : Sh h) (x1 : Int32) (x2 : Int32) (x3 : Int32) :
    Q d 238 95 [some (.ref 101), some (.int x1), some (.int x2), some (.int x3), none] [] h =
  if x1 < gI h 3073 101 then
   gd x1 4000 <|
   cK (E d 294 [.int (gA h 102 (ix x1))] h) (Q d 238 112 [some (.ref 101), some (.int x1), some (.int x2), some (.int x3), none]) []
  else
   if gI h 3074 101 < gI h 3073 101 then
    if x1 = gI h 3074 101 then
     gd (gI h 3074 101) 4000 <|
     cK (E d 295 [.ref 0, .int (gA h 102 (ix (gI h 3074 101)))] (sI h 3075 101 x1)) (Q d 238 224 [some (.ref 101), some (.int x1), some (.int x2), none, none]) [.ref 101]
    else
     if x2 = nI 0 then
      if (nI 12) < x1 - (gI h 3074 101) then
       some (none, sI (sI h 3075 101 x1) 3076 101 (nI 1))
      else
       some (none, sI (sI h 3075 101 x1) 3076 101 (nI 2))
     else
      if (nI 9) < x1 - (gI h 3074 101) then
       some (none, sI (sI h 3075 101 x1) 3076 101 (nI 1))
      else
       some (none, sI (sI h 3075 101 x1) 3076 101 (nI 3))
   else
    some (none, sI (sI h 3075 101 x1) 3076 101 (nI 0)) := by
  rw [← hs.1]
  exact (blkM (fun p => Nat.beq p 112 || Nat.beq p 224) 33 95 _ _ _).trans rfl

set_option maxRecDepth 16384 in
theorem t_238_112 {d : Nat} {h : AH} (hs : Sh h) (x1 : Int32) (x2 : Int32) (x3 : Int32) (u4 : Option Value) (s0 : Int32) :
    Q d 238 112 [some (.ref 101), some (.int x1), some (.int x2), some (.int x3), u4] [.int s0] h =
  if s0 < x3 then
   if gI h 3074 101 < gI h 3073 101 then
    if x1 = gI h 3074 101 then
     gd (gI h 3074 101) 4000 <|
     cK (E d 295 [.ref 0, .int (gA h 102 (ix (gI h 3074 101)))] (sI h 3075 101 x1)) (Q d 238 224 [some (.ref 101), some (.int x1), some (.int x2), none, none]) [.ref 101]
    else
     if x2 = nI 0 then
      if (nI 12) < x1 - (gI h 3074 101) then
       some (none, sI (sI h 3075 101 x1) 3076 101 (nI 1))
      else
       some (none, sI (sI h 3075 101 x1) 3076 101 (nI 2))
     else
      if (nI 9) < x1 - (gI h 3074 101) then
       some (none, sI (sI h 3075 101 x1) 3076 101 (nI 1))
      else
       some (none, sI (sI h 3075 101 x1) 3076 101 (nI 3))
   else
    some (none, sI (sI h 3075 101 x1) 3076 101 (nI 0))
  else
   gd x1 4000 <|
   cK (E d 294 [.int (gA h 102 (ix x1))] h) (Q d 238 125 [some (.ref 101), some (.int x1), some (.int x2), some (.int x3), u4]) [] := by
  rw [← hs.1]
  exact (blkM (fun p => Nat.beq p 125 || Nat.beq p 224) 31 112 _ _ _).trans rfl

set_option maxRecDepth 16384 in
theorem t_238_224 {d : Nat} {h : AH} (hs : Sh h) (u1 : Option Value) (u2 : Option Value) (u3 : Option Value) (u4 : Option Value) (s0 : Nat) (s1 : Int32) :
    Q d 238 224 [some (.ref 101), u1, u2, u3, u4] [.int s1, .ref s0] h =
  if s1 < nI 0 then
   ck (gC h s0) 12 <|
   some (none, sI (sI h 3076 s0 (nI 1)) 3075 101 ((gI h 3074 101) + (nI 1)))
  else
   gd (gI h 3074 101) 4000 <|
   ck (gC h s0) 12 <|
   some (none, sI (sI h 3076 s0 (gA h 102 (ix (gI h 3074 101)))) 3075 101 ((gI h 3074 101) + (nI 1))) := by
  rw [← hs.1]
  exact (blkM (fun p => false) 17 224 _ _ _).trans rfl

set_option maxRecDepth 16384 in
theorem t_238_125 {d : Nat} {h : AH} (hs : Sh h) (x1 : Int32) (x2 : Int32) (x3 : Int32) (u4 : Option Value) (s0 : Int32) :
    Q d 238 125 [some (.ref 101), some (.int x1), some (.int x2), some (.int x3), u4] [.int s0] h =
  if x2 = nI 0 then
   Q d 238 95 [some (.ref 101), some (.int (x1 + nI 1)), some (.int x2), some (.int x3), none] [] (sL (sI h 3077 101 (nI 0)) 3078 101 (((gL h 3078 101) * 37) + s0.toInt64))
  else
   Q d 238 95 [some (.ref 101), some (.int (x1 + nI 1)), some (.int x2), some (.int x3), none] [] (sL (sI h 3077 101 ((((gI h 3077 101) * (nI 10)) + s0) - (nI 27))) 3078 101 (((gL h 3078 101) * 37) + s0.toInt64)) := by
  rw [← hs.1]
  exact (blkM (fun p => Nat.beq p 95) 27 125 _ _ _).trans rfl

/-! 239 java/util/ArrayList.clear()V -/
set_option maxRecDepth 16384 in
theorem t_239 {d : Nat} {h : AH} (hs : Sh h) (x0 : Nat) :
    E (d + 1) 239 [.ref x0] h =
  (ck (gC h x0) 1 <|
  ck (gC h x0) 1 <|
  ck (gC h x0) 1 <|
  (gR h 257 x0).bind fun y1 =>
   ck (gC h x0) 1 <|
   ck (gC h x0) 1 <|
   Q d 239 27 [none, some (.ref y1), some (.int (gI h 258 x0)), some (.int (nI 0))] [] (sI (sI h 256 x0 ((gI h 256 x0) + (nI 1))) 258 x0 (nI 0))) := by
  rw [← hs.1]
  exact entL (l := [some (.ref x0), none, none, none]) rfl rfl ((blkM (fun p => Nat.beq p 27) 19 0 _ _ _).trans rfl)

set_option maxRecDepth 16384 in
theorem t_239_27 {d : Nat} {h : AH} (hs : Sh h) (x1 : Nat) (x2 : Int32) (x3 : Int32) :
    Q d 239 27 [none, some (.ref x1), some (.int x2), some (.int x3)] [] h =
  if x3 < x2 then
   cw (gC h x1) 65 x1 <|
   gd x3 (gK h x1) <|
   Q d 239 27 [none, some (.ref x1), some (.int x2), some (.int (x3 + nI 1))] [] (sO h x1 (ix x3) none)
  else
   some (none, h) := by
  rw [← hs.1]
  exact (blkM (fun p => Nat.beq p 27) 11 27 _ _ _).trans rfl

/-! 240 java/util/Arrays.fill([JJ)V -/
set_option maxRecDepth 16384 in
theorem t_240 {d : Nat} {h : AH} (hs : Sh h) (x0 : Nat) (x1 : Int64) :
    E (d + 1) 240 [.ref x0, .long x1] h =
  if 60 ≤ gC h x0 ∧ gC h x0 ≤ 66 then
   Q d 240 6 [some (.ref x0), some (.long x1), none, some (.int (nI 0)), some (.int (nI (gK h x0)))] [] h
  else
   none := by
  rw [← hs.1]
  exact entL (l := [some (.ref x0), some (.long x1), none, none, none]) rfl rfl ((blkM (fun p => Nat.beq p 6) 7 0 _ _ _).trans rfl)

set_option maxRecDepth 16384 in
theorem t_240_6 {d : Nat} {h : AH} (hs : Sh h) (x0 : Nat) (x1 : Int64) (x3 : Int32) (x4 : Int32) :
    Q d 240 6 [some (.ref x0), some (.long x1), none, some (.int x3), some (.int x4)] [] h =
  if x3 < x4 then
   cw (gC h x0) 61 x0 <|
   gd x3 (gK h x0) <|
   Q d 240 6 [some (.ref x0), some (.long x1), none, some (.int (x3 + nI 1)), some (.int x4)] [] (sB h x0 (ix x3) x1)
  else
   some (none, h) := by
  rw [← hs.1]
  exact (blkM (fun p => Nat.beq p 6) 11 6 _ _ _).trans rfl

/-! 241 java/util/Arrays.fill([II)V -/
set_option maxRecDepth 16384 in
theorem t_241 {d : Nat} {h : AH} (hs : Sh h) (x0 : Nat) (x1 : Int32) :
    E (d + 1) 241 [.ref x0, .int x1] h =
  if 60 ≤ gC h x0 ∧ gC h x0 ≤ 66 then
   Q d 241 5 [some (.ref x0), some (.int x1), some (.int (nI 0)), some (.int (nI (gK h x0)))] [] h
  else
   none := by
  rw [← hs.1]
  exact entL (l := [some (.ref x0), some (.int x1), none, none]) rfl rfl ((blkM (fun p => Nat.beq p 5) 7 0 _ _ _).trans rfl)

set_option maxRecDepth 16384 in
theorem t_241_5 {d : Nat} {h : AH} (hs : Sh h) (x0 : Nat) (x1 : Int32) (x2 : Int32) (x3 : Int32) :
    Q d 241 5 [some (.ref x0), some (.int x1), some (.int x2), some (.int x3)] [] h =
  if x2 < x3 then
   cw (gC h x0) 60 x0 <|
   gd x2 (gK h x0) <|
   Q d 241 5 [some (.ref x0), some (.int x1), some (.int (x2 + nI 1)), some (.int x3)] [] (sA h x0 (ix x2) x1)
  else
   some (none, h) := by
  rw [← hs.1]
  exact (blkM (fun p => Nat.beq p 5) 11 5 _ _ _).trans rfl

/-! 242 PostRoom$Finder.readWords(LPostRoom$Tape;LPostRoom$Book;)V -/
set_option maxRecDepth 16384 in
theorem t_242 {d : Nat} {h : AH} (hs : Sh h) (x1 : Nat) (x2 : Nat) :
    E (d + 1) 242 [.ref 103, .ref x1, .ref x2] h =
  Q d 242 10 [some (.ref 103), some (.ref x1), some (.ref x2), some (.int (nI 0)), some (.int (nI 0))] [] (sI h 1028 103 (nI 0)) := by
  rw [← hs.1]
  exact entL (l := [some (.ref 103), some (.ref x1), some (.ref x2), none, none]) rfl rfl ((blkM (fun p => Nat.beq p 10) 9 0 _ _ _).trans rfl)

set_option maxRecDepth 16384 in
theorem t_242_10 {d : Nat} {h : AH} (hs : Sh h) (x1 : Nat) (x2 : Nat) (x3 : Int32) (x4 : Int32) :
    Q d 242 10 [some (.ref 103), some (.ref x1), some (.ref x2), some (.int x3), some (.int x4)] [] h =
  (ck (gC h x1) 12 <|
  if gI h 3073 x1 < x4 then
   some (none, h)
  else
   ck (gC h x1) 12 <|
   if x4 = gI h 3073 x1 then
    if x3 < x4 then
     if gI h 1028 103 < nI 41 then
      cK (E d 297 [.ref 103, .ref x1, .int x3, .int x4, .ref x2] h) (Q d 242 65 [some (.ref 103), some (.ref x1), some (.ref x2), none, some (.int x4)]) []
     else
      Q d 242 65 [some (.ref 103), some (.ref x1), some (.ref x2), none, some (.int x4)] [] h
    else
     Q d 242 65 [some (.ref 103), some (.ref x1), some (.ref x2), none, some (.int x4)] [] h
   else
    ck (gC h x1) 12 <|
    (gR h 3072 x1).bind fun y1 =>
     ck (gC h y1) 62 <|
     gd x4 (gK h y1) <|
     cK (E d 296 [.int (gA h y1 (ix x4))] h) (Q d 242 38 [some (.ref 103), some (.ref x1), some (.ref x2), some (.int x3), some (.int x4)]) []) := by
  rw [← hs.1]
  exact (blkM (fun p => Nat.beq p 38 || Nat.beq p 65) 22 10 _ _ _).trans rfl

set_option maxRecDepth 16384 in
theorem t_242_38 {d : Nat} {h : AH} (hs : Sh h) (x1 : Nat) (x2 : Nat) (x3 : Int32) (x4 : Int32) (s0 : Int32) :
    Q d 242 38 [some (.ref 103), some (.ref x1), some (.ref x2), some (.int x3), some (.int x4)] [.int s0] h =
  if s0 = nI 0 then
   if x3 < x4 then
    if gI h 1028 103 < nI 41 then
     cK (E d 297 [.ref 103, .ref x1, .int x3, .int x4, .ref x2] h) (Q d 242 65 [some (.ref 103), some (.ref x1), some (.ref x2), none, some (.int x4)]) []
    else
     Q d 242 65 [some (.ref 103), some (.ref x1), some (.ref x2), none, some (.int x4)] [] h
   else
    Q d 242 65 [some (.ref 103), some (.ref x1), some (.ref x2), none, some (.int x4)] [] h
  else
   Q d 242 10 [some (.ref 103), some (.ref x1), some (.ref x2), some (.int x3), some (.int (x4 + nI 1))] [] h := by
  rw [← hs.1]
  exact (blkM (fun p => Nat.beq p 10 || Nat.beq p 65) 15 38 _ _ _).trans rfl

set_option maxRecDepth 16384 in
theorem t_242_65 {d : Nat} {h : AH} (hs : Sh h) (x1 : Nat) (x2 : Nat) (x4 : Int32) :
    Q d 242 65 [some (.ref 103), some (.ref x1), some (.ref x2), none, some (.int x4)] [] h =
  Q d 242 10 [some (.ref 103), some (.ref x1), some (.ref x2), some (.int (x4 + (nI 1))), some (.int (x4 + nI 1))] [] h := by
  rw [← hs.1]
  exact (blkM (fun p => Nat.beq p 10) 8 65 _ _ _).trans rfl

/-! 243 PostRoom$Finder.readDoor()Z -/
set_option maxRecDepth 16384 in
theorem t_243 {d : Nat} {h : AH} (hs : Sh h)  :
    E (d + 1) 243 [.ref 103] h =
  Q d 243 9 [some (.ref 103), some (.int (nI 0)), some (.int (gA h 105 0)), none] [] h := by
  rw [← hs.1]
  exact entL (l := [some (.ref 103), none, none, none]) rfl rfl ((blkM (fun p => Nat.beq p 9) 9 0 _ _ _).trans rfl)

set_option maxRecDepth 16384 in
theorem t_243_9 {d : Nat} {h : AH} (hs : Sh h) (x1 : Int32) (x2 : Int32) :
    Q d 243 9 [some (.ref 103), some (.int x1), some (.int x2), none] [] h =
  if x2 < gA h 106 0 then
   if x2 < (gA h 105 0) + (nI 3) then
    gd x2 613 <|
    if gA h 104 (ix x2) < nI 27 then
     Q d 243 63 [some (.ref 103), some (.int x1), some (.int x2), none] [] h
    else
     gd x2 613 <|
     Q d 243 9 [some (.ref 103), some (.int (((x1 * (nI 10)) + (gA h 104 (ix x2))) - (nI 27))), some (.int (x2 + nI 1)), none] [] h
   else
    Q d 243 63 [some (.ref 103), some (.int x1), some (.int x2), none] [] h
  else
   Q d 243 63 [some (.ref 103), some (.int x1), some (.int x2), none] [] h := by
  rw [← hs.1]
  exact (blkM (fun p => Nat.beq p 9 || Nat.beq p 63) 35 9 _ _ _).trans rfl

set_option maxRecDepth 16384 in
theorem t_243_63 {d : Nat} {h : AH} (hs : Sh h) (x1 : Int32) (x2 : Int32) :
    Q d 243 63 [some (.ref 103), some (.int x1), some (.int x2), none] [] h =
  if x2 = gA h 105 0 then
   Q d 243 89 [none, none, none, none] [] h
  else
   gd (gA h 105 0) 613 <|
   if gA h 104 (ix (gA h 105 0)) = nI 27 then
    Q d 243 89 [none, none, none, none] [] h
   else
    if x2 < gA h 106 0 then
     gd x2 613 <|
     if gA h 104 (ix x2) < nI 27 then
      gd x2 613 <|
      Q d 243 124 [some (.ref 103), some (.int x1), some (.int (x2 + nI 1)), some (.int (gA h 104 (ix x2)))] [] h
     else
      Q d 243 124 [some (.ref 103), some (.int x1), some (.int x2), some (.int (nI 0))] [] h
    else
     Q d 243 124 [some (.ref 103), some (.int x1), some (.int x2), some (.int (nI 0))] [] h := by
  rw [← hs.1]
  exact (blkM (fun p => Nat.beq p 89 || Nat.beq p 124) 37 63 _ _ _).trans rfl

set_option maxRecDepth 16384 in
theorem t_243_89 {d : Nat} {h : AH} (hs : Sh h)  :
    Q d 243 89 [none, none, none, none] [] h =
  some (some (.int (nI 0)), h) := by
  rw [← hs.1]
  exact (blkM (fun p => false) 3 89 _ _ _).trans rfl

set_option maxRecDepth 16384 in
theorem t_243_124 {d : Nat} {h : AH} (hs : Sh h) (x1 : Int32) (x2 : Int32) (x3 : Int32) :
    Q d 243 124 [some (.ref 103), some (.int x1), some (.int x2), some (.int x3)] [] h =
  if x2 = gA h 106 0 then
   some (some (.int (nI 1)), sI h 1030 103 (((nI 27) * x1) + x3))
  else
   some (some (.int (nI 0)), sI h 1030 103 (((nI 27) * x1) + x3)) := by
  rw [← hs.1]
  exact (blkM (fun p => false) 17 124 _ _ _).trans rfl

/-! 244 PostRoom$Finder.findCode()I -/
set_option maxRecDepth 16384 in
theorem t_244 {d : Nat} {h : AH} (hs : Sh h)  :
    E (d + 1) 244 [.ref 103] h =
  Q d 244 2 [some (.ref 103), some (.int (nI 2)), none] [] h := by
  rw [← hs.1]
  exact entL (l := [some (.ref 103), none, none]) rfl rfl ((blkM (fun p => Nat.beq p 2) 4 0 _ _ _).trans rfl)

set_option maxRecDepth 16384 in
theorem t_244_2 {d : Nat} {h : AH} (hs : Sh h) (x1 : Int32) :
    Q d 244 2 [some (.ref 103), some (.int x1), none] [] h =
  if x1 < gI h 1028 103 then
   gd x1 41 <|
   gd x1 41 <|
   if (gA h 106 (ix x1)) - (gA h 105 (ix x1)) = nI 3 then
    gd (gA h 105 (ix x1)) 613 <|
    if gA h 104 (ix (gA h 105 (ix x1))) < nI 27 then
     Q d 244 2 [some (.ref 103), some (.int (x1 + nI 1)), none] [] h
    else
     gd ((gA h 105 (ix x1)) + (nI 1)) 613 <|
     if gA h 104 (ix ((gA h 105 (ix x1)) + (nI 1))) < nI 27 then
      Q d 244 2 [some (.ref 103), some (.int (x1 + nI 1)), none] [] h
     else
      gd ((gA h 105 (ix x1)) + (nI 2)) 613 <|
      if gA h 104 (ix ((gA h 105 (ix x1)) + (nI 2))) < nI 27 then
       Q d 244 2 [some (.ref 103), some (.int (x1 + nI 1)), none] [] h
      else
       some (some (.int x1), h)
   else
    Q d 244 2 [some (.ref 103), some (.int (x1 + nI 1)), none] [] h
  else
   some (some (.int (-1)), h) := by
  rw [← hs.1]
  exact (blkM (fun p => Nat.beq p 2) 43 2 _ _ _).trans rfl

/-! 245 PostRoom$Finder.nearest(LPostRoom$Book;)I -/
set_option maxRecDepth 16384 in
theorem t_245 {d : Nat} {h : AH} (hs : Sh h) (x1 : Nat) :
    E (d + 1) 245 [.ref 103, .ref x1] h =
  Q d 245 10 [some (.ref 103), some (.ref x1), some (.int (-1)), some (.int (nI 4)), some (.int (nI 0)), some (.int (nI 0)), none, none] [] h := by
  rw [← hs.1]
  exact entL (l := [some (.ref 103), some (.ref x1), none, none, none, none, none, none]) rfl rfl ((blkM (fun p => Nat.beq p 10) 10 0 _ _ _).trans rfl)

set_option maxRecDepth 16384 in
theorem t_245_10 {d : Nat} {h : AH} (hs : Sh h) (x1 : Nat) (x2 : Int32) (x3 : Int32) (x4 : Int32) (x5 : Int32) :
    Q d 245 10 [some (.ref 103), some (.ref x1), some (.int x2), some (.int x3), some (.int x4), some (.int x5), none, none] [] h =
  (ck (gC h x1) 2 <|
  (gR h 513 x1).bind fun y1 =>
   ck (gC h y1) 1 <|
   cK (E d 213 [.ref y1] h) (Q d 245 19 [some (.ref 103), some (.ref x1), some (.int x2), some (.int x3), some (.int x4), some (.int x5), none, none]) [.int x5]) := by
  rw [← hs.1]
  exact (blkM (fun p => Nat.beq p 19) 5 10 _ _ _).trans rfl

set_option maxRecDepth 16384 in
theorem t_245_19 {d : Nat} {h : AH} (hs : Sh h) (x1 : Nat) (x2 : Int32) (x3 : Int32) (x4 : Int32) (x5 : Int32) (u6 : Option Value) (u7 : Option Value) (s0 : Int32) (s1 : Int32) :
    Q d 245 19 [some (.ref 103), some (.ref x1), some (.int x2), some (.int x3), some (.int x4), some (.int x5), u6, u7] [.int s1, .int s0] h =
  if s0 < s1 then
   ck (gC h x1) 2 <|
   (gR h 513 x1).bind fun y1 =>
    ck (gC h y1) 1 <|
    cK (E d 212 [.ref y1, .int x5] h) (Q d 245 31 [some (.ref 103), some (.ref x1), some (.int x2), some (.int x3), some (.int x4), some (.int x5), u6, u7]) []
  else
   if x2 = (-1) then
    some (some (.int x2), sI h 1031 103 x3)
   else
    if x4 = nI 0 then
     some (some (.int x2), sI h 1031 103 x3)
    else
     some (some (.int (-2)), sI h 1031 103 x3) := by
  rw [← hs.1]
  exact (blkM (fun p => Nat.beq p 31) 13 19 _ _ _).trans rfl

set_option maxRecDepth 16384 in
theorem t_245_31 {d : Nat} {h : AH} (hs : Sh h) (x1 : Nat) (x2 : Int32) (x3 : Int32) (x4 : Int32) (x5 : Int32) (u6 : Option Value) (u7 : Option Value) (s0 : Nat) :
    Q d 245 31 [some (.ref 103), some (.ref x1), some (.int x2), some (.int x3), some (.int x4), some (.int x5), u6, u7] [.ref s0] h =
  (ck (gC h s0) 11 <|
  dz (nI 27) <|
  ck (gC h s0) 11 <|
  cK (E d 298 [.ref s0, .int ((gI h 1030 103) / (nI 27))] h) (Q d 245 48 [some (.ref 103), some (.ref x1), some (.int x2), some (.int x3), some (.int x4), some (.int x5), some (.ref s0), u7]) []) := by
  rw [← hs.1]
  exact (blkM (fun p => Nat.beq p 48) 9 31 _ _ _).trans rfl

set_option maxRecDepth 16384 in
theorem t_245_48 {d : Nat} {h : AH} (hs : Sh h) (x1 : Nat) (x2 : Int32) (x3 : Int32) (x4 : Int32) (x5 : Int32) (x6 : Nat) (u7 : Option Value) (s0 : Int32) :
    Q d 245 48 [some (.ref 103), some (.ref x1), some (.int x2), some (.int x3), some (.int x4), some (.int x5), some (.ref x6), u7] [.int s0] h =
  if s0 = nI 0 then
   Q d 245 10 [some (.ref 103), some (.ref x1), some (.int x2), some (.int x3), some (.int x4), some (.int (x5 + nI 1)), none, none] [] h
  else
   ck (gC h x1) 2 <|
   (gR h 512 x1).bind fun y1 =>
    ck (gC h x6) 11 <|
    ck (gC h y1) 1 <|
    cK (E d 212 [.ref y1, .int (gI h 2817 x6)] h) (Q d 245 66 [some (.ref 103), some (.ref x1), some (.int x2), some (.int x3), some (.int x4), some (.int x5), some (.ref x6), u7]) [.ref x6, .ref 103] := by
  rw [← hs.1]
  exact (blkM (fun p => Nat.beq p 10 || Nat.beq p 66) 9 48 _ _ _).trans rfl

set_option maxRecDepth 16384 in
theorem t_245_66 {d : Nat} {h : AH} (hs : Sh h) (x1 : Nat) (x2 : Int32) (x3 : Int32) (x4 : Int32) (x5 : Int32) (u6 : Option Value) (u7 : Option Value) (s0 : Nat) (s1 : Nat) (s2 : Nat) :
    Q d 245 66 [some (.ref 103), some (.ref x1), some (.int x2), some (.int x3), some (.int x4), some (.int x5), u6, u7] [.ref s2, .ref s1, .ref s0] h =
  (ck (gC h s2) 7 <|
  ck (gC h s0) 4 <|
  cK (E d 299 [.ref s0, .ref s1, .ref s2] h) (Q d 245 72 [some (.ref 103), some (.ref x1), some (.int x2), some (.int x3), some (.int x4), some (.int x5), u6, u7]) []) := by
  rw [← hs.1]
  exact (blkM (fun p => Nat.beq p 72) 3 66 _ _ _).trans rfl

set_option maxRecDepth 16384 in
theorem t_245_72 {d : Nat} {h : AH} (hs : Sh h) (x1 : Nat) (x2 : Int32) (x3 : Int32) (x4 : Int32) (x5 : Int32) (u6 : Option Value) (u7 : Option Value) (s0 : Int32) :
    Q d 245 72 [some (.ref 103), some (.ref x1), some (.int x2), some (.int x3), some (.int x4), some (.int x5), u6, u7] [.int s0] h =
  if s0 < x3 then
   Q d 245 10 [some (.ref 103), some (.ref x1), some (.int x5), some (.int s0), some (.int (nI 0)), some (.int (x5 + nI 1)), none, none] [] h
  else
   if s0 = x3 then
    Q d 245 10 [some (.ref 103), some (.ref x1), some (.int x2), some (.int x3), some (.int (nI 1)), some (.int (x5 + nI 1)), none, none] [] h
   else
    Q d 245 10 [some (.ref 103), some (.ref x1), some (.int x2), some (.int x3), some (.int x4), some (.int (x5 + nI 1)), none, none] [] h := by
  rw [← hs.1]
  exact (blkM (fun p => Nat.beq p 10) 15 72 _ _ _).trans rfl

