/-! ===== THE METHODS, PIECE BY PIECE: 9 (made by wip/gen/gen40.py) ===== -/
/-! 316 PostRoom$Post.deliverAt(ILjava/util/ArrayList;I)V -/
set_option maxRecDepth 16384 in
theorem t_316 {d : Nat} {h : AH} (hs : Sh h) (x1 : Int32) (x2 : Nat) (x3 : Int32) :
    E (d + 1) 316 [.ref 156, .int x1, .ref x2, .int x3] h =
  (ck (gC h x2) 1 <|
  cK (E d 213 [.ref x2] h) (Q d 316 7 [some (.ref 156), some (.int x1), some (.ref x2), some (.int x3), some (.int (nI 0)), none, none]) []) := by
  rw [← hs.1]
  exact entL (l := [some (.ref 156), some (.int x1), some (.ref x2), some (.int x3), none, none, none]) rfl rfl ((blkM (fun p => Nat.beq p 7) 5 0 _ _ _).trans rfl)

set_option maxRecDepth 16384 in
theorem t_316_7 {d : Nat} {h : AH} (hs : Sh h) (x1 : Int32) (x2 : Nat) (x3 : Int32) (x4 : Int32) (u5 : Option Value) (u6 : Option Value) (s0 : Int32) :
    Q d 316 7 [some (.ref 156), some (.int x1), some (.ref x2), some (.int x3), some (.int x4), u5, u6] [.int s0] h =
  Q d 316 9 [some (.ref 156), some (.int x1), some (.ref x2), some (.int x3), some (.int x4), some (.int s0), none] [] h := by
  rw [← hs.1]
  exact (blkM (fun p => Nat.beq p 9) 3 7 _ _ _).trans rfl

set_option maxRecDepth 16384 in
theorem t_316_9 {d : Nat} {h : AH} (hs : Sh h) (x1 : Int32) (x2 : Nat) (x3 : Int32) (x4 : Int32) (x5 : Int32) :
    Q d 316 9 [some (.ref 156), some (.int x1), some (.ref x2), some (.int x3), some (.int x4), some (.int x5), none] [] h =
  if (nI 0) < x5 then
   ck (gC h x2) 1 <|
   cK (E d 212 [.ref x2, .int x4] h) (Q d 316 20 [some (.ref 156), some (.int x1), some (.ref x2), some (.int x3), some (.int x4), some (.int x5), none]) []
  else
   some (none, h) := by
  rw [← hs.1]
  exact (blkM (fun p => Nat.beq p 20) 6 9 _ _ _).trans rfl

set_option maxRecDepth 16384 in
theorem t_316_20 {d : Nat} {h : AH} (hs : Sh h) (x1 : Int32) (x2 : Nat) (x3 : Int32) (x4 : Int32) (x5 : Int32) (u6 : Option Value) (s0 : Nat) :
    Q d 316 20 [some (.ref 156), some (.int x1), some (.ref x2), some (.int x3), some (.int x4), some (.int x5), u6] [.ref s0] h =
  (ck (gC h s0) 5 <|
  ck (gC h s0) 5 <|
  gd (gI h 1280 s0) 200 <|
  if gA h 171 (ix (gI h 1280 s0)) = x1 then
   ck (gC h x2) 1 <|
   cK (E d 256 [.ref x2, .int x4] h) (Q d 316 45 [some (.ref 156), some (.int x1), some (.ref x2), some (.int x3), some (.int x4), some (.int x5), some (.ref s0)]) []
  else
   Q d 316 9 [some (.ref 156), some (.int x1), some (.ref x2), some (.int x3), some (.int (x4 + nI 1)), some (.int (x5 + (-1))), none] [] h) := by
  rw [← hs.1]
  exact (blkM (fun p => Nat.beq p 9 || Nat.beq p 45) 14 20 _ _ _).trans rfl

set_option maxRecDepth 16384 in
theorem t_316_45 {d : Nat} {h : AH} (hs : Sh h) (x1 : Int32) (x2 : Nat) (x3 : Int32) (x4 : Int32) (x5 : Int32) (x6 : Nat) (s0 : Nat) :
    Q d 316 45 [some (.ref 156), some (.int x1), some (.ref x2), some (.int x3), some (.int x4), some (.int x5), some (.ref x6)] [.ref s0] h =
  (ck (gC h x6) 5 <|
  cK (E d 257 [.ref x6, .int (nI 3), .int x3, .int (-1), .int (gI h 2051 156)] h) (Q d 316 58 [some (.ref 156), some (.int x1), some (.ref x2), some (.int x3), some (.int x4), some (.int x5), some (.ref x6)]) []) := by
  rw [← hs.1]
  exact (blkM (fun p => Nat.beq p 58) 9 45 _ _ _).trans rfl

set_option maxRecDepth 16384 in
theorem t_316_58 {d : Nat} {h : AH} (hs : Sh h) (x1 : Int32) (x2 : Nat) (x3 : Int32) (x4 : Int32) (x5 : Int32) (x6 : Nat) :
    Q d 316 58 [some (.ref 156), some (.int x1), some (.ref x2), some (.int x3), some (.int x4), some (.int x5), some (.ref x6)] [] h =
  cK (E d 258 [.ref 156, .ref x6, .int (nI 4), .int x3] h) (Q d 316 66 [some (.ref 156), some (.int x1), some (.ref x2), some (.int x3), some (.int x4), some (.int x5), some (.ref x6)]) [] := by
  rw [← hs.1]
  exact (blkM (fun p => Nat.beq p 66) 6 58 _ _ _).trans rfl

set_option maxRecDepth 16384 in
theorem t_316_66 {d : Nat} {h : AH} (hs : Sh h) (x1 : Int32) (x2 : Nat) (x3 : Int32) (x4 : Int32) (x5 : Int32) (u6 : Option Value) :
    Q d 316 66 [some (.ref 156), some (.int x1), some (.ref x2), some (.int x3), some (.int x4), some (.int x5), u6] [] h =
  Q d 316 9 [some (.ref 156), some (.int x1), some (.ref x2), some (.int x3), some (.int x4), some (.int (x5 + (-1))), none] [] h := by
  rw [← hs.1]
  exact (blkM (fun p => Nat.beq p 9) 5 66 _ _ _).trans rfl

/-! 317 PostRoom$Script.push()Z -/
set_option maxRecDepth 16384 in
theorem t_317 {d : Nat} {h : AH} (hs : Sh h) (x0 : Nat) :
    E (d + 1) 317 [.ref x0] h =
  (ck (gC h x0) 9 <|
  ck (gC h x0) 9 <|
  (gR h 2304 x0).bind fun y1 =>
   if 60 ≤ gC h y1 ∧ gC h y1 ≤ 66 then
    if gI h 2306 x0 < nI (gK h y1) then
     ck (gC h x0) 9 <|
     (gR h 2304 x0).bind fun y2 =>
      ck (gC h x0) 9 <|
      ck (gC h x0) 9 <|
      cw (gC h y2) 60 y2 <|
      gd (gI h 2306 x0) (gK h y2) <|
      ck (gC h x0) 9 <|
      (gR h 2305 x0).bind fun y3 =>
       ck (gC h x0) 9 <|
       ck (gC h x0) 9 <|
       (gR h 2309 x0).bind fun y4 =>
        ck (gC h y4) 12 <|
        cw (gC h y3) 60 y3 <|
        gd (gI h 2306 x0) (gK h y3) <|
        ck (gC h x0) 9 <|
        ck (gC h x0) 9 <|
        ck (gC h x0) 9 <|
        (gR h 2309 x0).bind fun y5 =>
         ck (gC h y5) 12 <|
         cK (E d 238 [.ref y5] (sI (sA (sA h y2 (ix (gI h 2306 x0)) (gI h 2307 x0)) y3 (ix (gI h 2306 x0)) (gI h 3077 y4)) 2306 x0 ((gI h 2306 x0) + (nI 1)))) (Q d 317 64 [some (.ref x0)]) []
    else
     ck (gC h x0) 9 <|
     cK (E d 327 [.ref x0, .int (nI 1)] h) (Q d 317 17 [some (.ref x0)]) []
   else
    none) := by
  rw [← hs.1]
  exact entL (l := [some (.ref x0)]) rfl rfl ((blkM (fun p => Nat.beq p 17 || Nat.beq p 64) 31 0 _ _ _).trans rfl)

set_option maxRecDepth 16384 in
theorem t_317_17 {d : Nat} {h : AH} (hs : Sh h) (u0 : Option Value) (s0 : Int32) :
    Q d 317 17 [u0] [.int s0] h =
  if s0 = 0 ∨ s0 = 1 then
   some (some (.int s0), h)
  else
   none := by
  rw [← hs.1]
  exact (blkM (fun p => false) 2 17 _ _ _).trans rfl

set_option maxRecDepth 16384 in
theorem t_317_64 {d : Nat} {h : AH} (hs : Sh h) (x0 : Nat) :
    Q d 317 64 [some (.ref x0)] [] h =
  (ck (gC h x0) 9 <|
  cK (E d 264 [.ref x0] h) (Q d 317 68 [some (.ref x0)]) []) := by
  rw [← hs.1]
  exact (blkM (fun p => Nat.beq p 68) 3 64 _ _ _).trans rfl

set_option maxRecDepth 16384 in
theorem t_317_68 {d : Nat} {h : AH} (hs : Sh h) (u0 : Option Value) :
    Q d 317 68 [u0] [] h =
  some (some (.int (nI 1)), h) := by
  rw [← hs.1]
  exact (blkM (fun p => false) 3 68 _ _ _).trans rfl

/-! 318 PostRoom$Script.takes(I)Z -/
set_option maxRecDepth 16384 in
theorem t_318 {d : Nat} {h : AH} (hs : Sh h) (x0 : Nat) (x1 : Int32) :
    E (d + 1) 318 [.ref x0, .int x1] h =
  (ck (gC h x0) 9 <|
  if gI h 2307 x0 = x1 then
   ck (gC h x0) 9 <|
   cK (E d 317 [.ref x0] h) (Q d 318 12 [some (.ref x0), some (.int x1)]) []
  else
   ck (gC h x0) 9 <|
   cK (E d 327 [.ref x0, .int (nI 1)] h) (Q d 318 20 [none, none]) []) := by
  rw [← hs.1]
  exact entL (l := [some (.ref x0), some (.int x1)]) rfl rfl ((blkM (fun p => Nat.beq p 12 || Nat.beq p 20) 8 0 _ _ _).trans rfl)

set_option maxRecDepth 16384 in
theorem t_318_12 {d : Nat} {h : AH} (hs : Sh h) (u0 : Option Value) (u1 : Option Value) (s0 : Int32) :
    Q d 318 12 [u0, u1] [.int s0] h =
  Q d 318 20 [none, none] [.int s0] h := by
  rw [← hs.1]
  exact (blkM (fun p => Nat.beq p 20) 3 12 _ _ _).trans rfl

set_option maxRecDepth 16384 in
theorem t_318_20 {d : Nat} {h : AH} (hs : Sh h) (s0 : Int32) :
    Q d 318 20 [none, none] [.int s0] h =
  if s0 = 0 ∨ s0 = 1 then
   some (some (.int s0), h)
  else
   none := by
  rw [← hs.1]
  exact (blkM (fun p => false) 2 20 _ _ _).trans rfl

/-! 319 PostRoom$Script.readExpression(I)Z -/
set_option maxRecDepth 16384 in
theorem t_319 {d : Nat} {h : AH} (hs : Sh h) (x0 : Nat) (x1 : Int32) :
    E (d + 1) 319 [.ref x0, .int x1] h =
  (ck (gC h x0) 9 <|
  cK (E d 357 [.ref x0, .int x1] h) (Q d 319 5 [some (.ref x0), some (.int x1)]) []) := by
  rw [← hs.1]
  exact entL (l := [some (.ref x0), some (.int x1)]) rfl rfl ((blkM (fun p => Nat.beq p 5) 4 0 _ _ _).trans rfl)

set_option maxRecDepth 16384 in
theorem t_319_5 {d : Nat} {h : AH} (hs : Sh h) (x0 : Nat) (x1 : Int32) (s0 : Int32) :
    Q d 319 5 [some (.ref x0), some (.int x1)] [.int s0] h =
  if s0 = nI 0 then
   some (some (.int (nI 0)), h)
  else
   ck (gC h x0) 9 <|
   if gI h 2307 x0 = nI 60 then
    ck (gC h x0) 9 <|
    cK (E d 317 [.ref x0] h) (Q d 319 32 [some (.ref x0), some (.int x1)]) []
   else
    ck (gC h x0) 9 <|
    if gI h 2307 x0 = nI 61 then
     ck (gC h x0) 9 <|
     cK (E d 317 [.ref x0] h) (Q d 319 32 [some (.ref x0), some (.int x1)]) []
    else
     some (some (.int (nI 1)), h) := by
  rw [← hs.1]
  exact (blkM (fun p => Nat.beq p 32) 13 5 _ _ _).trans rfl

set_option maxRecDepth 16384 in
theorem t_319_32 {d : Nat} {h : AH} (hs : Sh h) (x0 : Nat) (x1 : Int32) (s0 : Int32) :
    Q d 319 32 [some (.ref x0), some (.int x1)] [.int s0] h =
  if s0 = nI 0 then
   some (some (.int (nI 0)), h)
  else
   ck (gC h x0) 9 <|
   cK (E d 357 [.ref x0, .int x1] h) (Q d 319 40 [some (.ref x0), some (.int x1)]) [] := by
  rw [← hs.1]
  exact (blkM (fun p => Nat.beq p 40) 5 32 _ _ _).trans rfl

set_option maxRecDepth 16384 in
theorem t_319_40 {d : Nat} {h : AH} (hs : Sh h) (u0 : Option Value) (u1 : Option Value) (s0 : Int32) :
    Q d 319 40 [u0, u1] [.int s0] h =
  if s0 = nI 0 then
   some (some (.int (nI 0)), h)
  else
   some (some (.int (nI 1)), h) := by
  rw [← hs.1]
  exact (blkM (fun p => false) 5 40 _ _ _).trans rfl

/-! 320 PostRoom$Script.readItem(I)Z -/
set_option maxRecDepth 16384 in
theorem t_320 {d : Nat} {h : AH} (hs : Sh h) (x0 : Nat) (x1 : Int32) :
    E (d + 1) 320 [.ref x0, .int x1] h =
  (ck (gC h x0) 9 <|
  if gI h 2307 x0 = nI 5 then
   if x1 < nI 20 then
    ck (gC h x0) 9 <|
    ck (gC h x0) 9 <|
    cK (E d 317 [.ref x0] h) (Q d 320 55 [some (.ref x0), some (.int x1), some (.int (gI h 2307 x0))]) []
   else
    ck (gC h x0) 9 <|
    cK (E d 327 [.ref x0, .int (nI 5)] h) (Q d 320 45 [some (.ref x0), some (.int x1), none]) []
  else
   ck (gC h x0) 9 <|
   if gI h 2307 x0 < nI 154 then
    ck (gC h x0) 9 <|
    cK (E d 327 [.ref x0, .int (nI 1)] h) (Q d 320 33 [some (.ref x0), none, none]) []
   else
    ck (gC h x0) 9 <|
    if (nI 159) < gI h 2307 x0 then
     ck (gC h x0) 9 <|
     cK (E d 327 [.ref x0, .int (nI 1)] h) (Q d 320 33 [some (.ref x0), none, none]) []
    else
     if x1 < nI 20 then
      ck (gC h x0) 9 <|
      ck (gC h x0) 9 <|
      cK (E d 317 [.ref x0] h) (Q d 320 55 [some (.ref x0), some (.int x1), some (.int (gI h 2307 x0))]) []
     else
      ck (gC h x0) 9 <|
      cK (E d 327 [.ref x0, .int (nI 5)] h) (Q d 320 45 [some (.ref x0), some (.int x1), none]) []) := by
  rw [← hs.1]
  exact entL (l := [some (.ref x0), some (.int x1), none]) rfl rfl ((blkM (fun p => Nat.beq p 33 || Nat.beq p 45 || Nat.beq p 55) 21 0 _ _ _).trans rfl)

set_option maxRecDepth 16384 in
theorem t_320_33 {d : Nat} {h : AH} (hs : Sh h) (u0 : Option Value) (u1 : Option Value) (u2 : Option Value) (s0 : Int32) :
    Q d 320 33 [u0, u1, u2] [.int s0] h =
  if s0 = 0 ∨ s0 = 1 then
   some (some (.int s0), h)
  else
   none := by
  rw [← hs.1]
  exact (blkM (fun p => false) 2 33 _ _ _).trans rfl

set_option maxRecDepth 16384 in
theorem t_320_45 {d : Nat} {h : AH} (hs : Sh h) (u0 : Option Value) (u1 : Option Value) (u2 : Option Value) (s0 : Int32) :
    Q d 320 45 [u0, u1, u2] [.int s0] h =
  if s0 = 0 ∨ s0 = 1 then
   some (some (.int s0), h)
  else
   none := by
  rw [← hs.1]
  exact (blkM (fun p => false) 2 45 _ _ _).trans rfl

set_option maxRecDepth 16384 in
theorem t_320_55 {d : Nat} {h : AH} (hs : Sh h) (x0 : Nat) (x1 : Int32) (x2 : Int32) (s0 : Int32) :
    Q d 320 55 [some (.ref x0), some (.int x1), some (.int x2)] [.int s0] h =
  if x2 = nI 5 then
   some (some (.int (nI 1)), h)
  else
   if x2 = nI 154 then
   some (some (.int (nI 1)), h)
  else
   if x2 = nI 155 then
   ck (gC h x0) 9 <|
   cK (E d 358 [.ref x0, .int (x1 + (nI 1))] h) (Q d 320 109 [some (.ref x0), some (.int x1), some (.int x2)]) []
  else
   if x2 = nI 156 then
   ck (gC h x0) 9 <|
   cK (E d 323 [.ref x0, .int (x1 + (nI 1))] h) (Q d 320 117 [some (.ref x0), some (.int x1), some (.int x2)]) []
  else
   ck (gC h x0) 9 <|
  cK (E d 320 [.ref x0, .int (x1 + (nI 1))] h) (Q d 320 125 [some (.ref x0), some (.int x1), some (.int x2)]) [] := by
  rw [← hs.1]
  exact (blkM (fun p => Nat.beq p 109 || Nat.beq p 117 || Nat.beq p 125) 9 55 _ _ _).trans rfl

set_option maxRecDepth 16384 in
theorem t_320_109 {d : Nat} {h : AH} (hs : Sh h) (u0 : Option Value) (u1 : Option Value) (u2 : Option Value) (s0 : Int32) :
    Q d 320 109 [u0, u1, u2] [.int s0] h =
  if s0 = 0 ∨ s0 = 1 then
   some (some (.int s0), h)
  else
   none := by
  rw [← hs.1]
  exact (blkM (fun p => false) 2 109 _ _ _).trans rfl

set_option maxRecDepth 16384 in
theorem t_320_117 {d : Nat} {h : AH} (hs : Sh h) (u0 : Option Value) (u1 : Option Value) (u2 : Option Value) (s0 : Int32) :
    Q d 320 117 [u0, u1, u2] [.int s0] h =
  if s0 = 0 ∨ s0 = 1 then
   some (some (.int s0), h)
  else
   none := by
  rw [← hs.1]
  exact (blkM (fun p => false) 2 117 _ _ _).trans rfl

set_option maxRecDepth 16384 in
theorem t_320_125 {d : Nat} {h : AH} (hs : Sh h) (u0 : Option Value) (u1 : Option Value) (u2 : Option Value) (s0 : Int32) :
    Q d 320 125 [u0, u1, u2] [.int s0] h =
  if s0 = 0 ∨ s0 = 1 then
   some (some (.int s0), h)
  else
   none := by
  rw [← hs.1]
  exact (blkM (fun p => false) 2 125 _ _ _).trans rfl

/-! 321 PostRoom$Script.readTray(I)Z -/
set_option maxRecDepth 16384 in
theorem t_321 {d : Nat} {h : AH} (hs : Sh h) (x0 : Nat) (x1 : Int32) :
    E (d + 1) 321 [.ref x0, .int x1] h =
  (ck (gC h x0) 9 <|
  cK (E d 318 [.ref x0, .int (nI 64)] h) (Q d 321 6 [some (.ref x0), some (.int x1)]) []) := by
  rw [← hs.1]
  exact entL (l := [some (.ref x0), some (.int x1)]) rfl rfl ((blkM (fun p => Nat.beq p 6) 4 0 _ _ _).trans rfl)

set_option maxRecDepth 16384 in
theorem t_321_6 {d : Nat} {h : AH} (hs : Sh h) (x0 : Nat) (x1 : Int32) (s0 : Int32) :
    Q d 321 6 [some (.ref x0), some (.int x1)] [.int s0] h =
  if s0 = nI 0 then
   some (some (.int (nI 0)), h)
  else
   ck (gC h x0) 9 <|
   cK (E d 358 [.ref x0, .int x1] h) (Q d 321 14 [some (.ref x0), some (.int x1)]) [] := by
  rw [← hs.1]
  exact (blkM (fun p => Nat.beq p 14) 5 6 _ _ _).trans rfl

set_option maxRecDepth 16384 in
theorem t_321_14 {d : Nat} {h : AH} (hs : Sh h) (u0 : Option Value) (u1 : Option Value) (s0 : Int32) :
    Q d 321 14 [u0, u1] [.int s0] h =
  if s0 = nI 0 then
   some (some (.int (nI 0)), h)
  else
   some (some (.int (nI 1)), h) := by
  rw [← hs.1]
  exact (blkM (fun p => false) 5 14 _ _ _).trans rfl

/-! 322 PostRoom$Script.readRow()Z -/
set_option maxRecDepth 16384 in
theorem t_322 {d : Nat} {h : AH} (hs : Sh h) (x0 : Nat) :
    E (d + 1) 322 [.ref x0] h =
  (ck (gC h x0) 9 <|
  if gI h 2307 x0 < nI 160 then
   ck (gC h x0) 9 <|
   cK (E d 327 [.ref x0, .int (nI 1)] h) (Q d 322 32 [none]) []
  else
   ck (gC h x0) 9 <|
   if (nI 171) < gI h 2307 x0 then
    ck (gC h x0) 9 <|
    cK (E d 327 [.ref x0, .int (nI 1)] h) (Q d 322 32 [none]) []
   else
    ck (gC h x0) 9 <|
    cK (E d 317 [.ref x0] h) (Q d 322 24 [some (.ref x0)]) []) := by
  rw [← hs.1]
  exact entL (l := [some (.ref x0)]) rfl rfl ((blkM (fun p => Nat.beq p 24 || Nat.beq p 32) 12 0 _ _ _).trans rfl)

set_option maxRecDepth 16384 in
theorem t_322_24 {d : Nat} {h : AH} (hs : Sh h) (u0 : Option Value) (s0 : Int32) :
    Q d 322 24 [u0] [.int s0] h =
  Q d 322 32 [none] [.int s0] h := by
  rw [← hs.1]
  exact (blkM (fun p => Nat.beq p 32) 3 24 _ _ _).trans rfl

set_option maxRecDepth 16384 in
theorem t_322_32 {d : Nat} {h : AH} (hs : Sh h) (s0 : Int32) :
    Q d 322 32 [none] [.int s0] h =
  if s0 = 0 ∨ s0 = 1 then
   some (some (.int s0), h)
  else
   none := by
  rw [← hs.1]
  exact (blkM (fun p => false) 2 32 _ _ _).trans rfl

/-! 323 PostRoom$Script.readSpot(I)Z -/
set_option maxRecDepth 16384 in
theorem t_323 {d : Nat} {h : AH} (hs : Sh h) (x0 : Nat) (x1 : Int32) :
    E (d + 1) 323 [.ref x0, .int x1] h =
  (ck (gC h x0) 9 <|
  cK (E d 321 [.ref x0, .int x1] h) (Q d 323 5 [some (.ref x0), some (.int x1)]) []) := by
  rw [← hs.1]
  exact entL (l := [some (.ref x0), some (.int x1)]) rfl rfl ((blkM (fun p => Nat.beq p 5) 4 0 _ _ _).trans rfl)

set_option maxRecDepth 16384 in
theorem t_323_5 {d : Nat} {h : AH} (hs : Sh h) (x0 : Nat) (x1 : Int32) (s0 : Int32) :
    Q d 323 5 [some (.ref x0), some (.int x1)] [.int s0] h =
  if s0 = nI 0 then
   some (some (.int (nI 0)), h)
  else
   ck (gC h x0) 9 <|
   cK (E d 318 [.ref x0, .int (nI 91)] h) (Q d 323 14 [some (.ref x0), some (.int x1)]) [] := by
  rw [← hs.1]
  exact (blkM (fun p => Nat.beq p 14) 5 5 _ _ _).trans rfl

set_option maxRecDepth 16384 in
theorem t_323_14 {d : Nat} {h : AH} (hs : Sh h) (x0 : Nat) (x1 : Int32) (s0 : Int32) :
    Q d 323 14 [some (.ref x0), some (.int x1)] [.int s0] h =
  if s0 = nI 0 then
   some (some (.int (nI 0)), h)
  else
   ck (gC h x0) 9 <|
   cK (E d 319 [.ref x0, .int x1] h) (Q d 323 22 [some (.ref x0), some (.int x1)]) [] := by
  rw [← hs.1]
  exact (blkM (fun p => Nat.beq p 22) 5 14 _ _ _).trans rfl

set_option maxRecDepth 16384 in
theorem t_323_22 {d : Nat} {h : AH} (hs : Sh h) (x0 : Nat) (u1 : Option Value) (s0 : Int32) :
    Q d 323 22 [some (.ref x0), u1] [.int s0] h =
  if s0 = nI 0 then
   some (some (.int (nI 0)), h)
  else
   ck (gC h x0) 9 <|
   cK (E d 318 [.ref x0, .int (nI 93)] h) (Q d 323 31 [some (.ref x0), u1]) [] := by
  rw [← hs.1]
  exact (blkM (fun p => Nat.beq p 31) 5 22 _ _ _).trans rfl

set_option maxRecDepth 16384 in
theorem t_323_31 {d : Nat} {h : AH} (hs : Sh h) (u0 : Option Value) (u1 : Option Value) (s0 : Int32) :
    Q d 323 31 [u0, u1] [.int s0] h =
  if s0 = nI 0 then
   some (some (.int (nI 0)), h)
  else
   some (some (.int (nI 1)), h) := by
  rw [← hs.1]
  exact (blkM (fun p => false) 5 31 _ _ _).trans rfl

/-! 324 PostRoom$Script.readSlide(I)Z -/
set_option maxRecDepth 16384 in
theorem t_324 {d : Nat} {h : AH} (hs : Sh h) (x0 : Nat) (x1 : Int32) :
    E (d + 1) 324 [.ref x0, .int x1] h =
  (ck (gC h x0) 9 <|
  cK (E d 321 [.ref x0, .int x1] h) (Q d 324 5 [some (.ref x0), some (.int x1)]) []) := by
  rw [← hs.1]
  exact entL (l := [some (.ref x0), some (.int x1)]) rfl rfl ((blkM (fun p => Nat.beq p 5) 4 0 _ _ _).trans rfl)

set_option maxRecDepth 16384 in
theorem t_324_5 {d : Nat} {h : AH} (hs : Sh h) (x0 : Nat) (x1 : Int32) (s0 : Int32) :
    Q d 324 5 [some (.ref x0), some (.int x1)] [.int s0] h =
  if s0 = nI 0 then
   some (some (.int (nI 0)), h)
  else
   ck (gC h x0) 9 <|
   cK (E d 319 [.ref x0, .int x1] h) (Q d 324 13 [some (.ref x0), some (.int x1)]) [] := by
  rw [← hs.1]
  exact (blkM (fun p => Nat.beq p 13) 5 5 _ _ _).trans rfl

set_option maxRecDepth 16384 in
theorem t_324_13 {d : Nat} {h : AH} (hs : Sh h) (x0 : Nat) (x1 : Int32) (s0 : Int32) :
    Q d 324 13 [some (.ref x0), some (.int x1)] [.int s0] h =
  if s0 = nI 0 then
   some (some (.int (nI 0)), h)
  else
   ck (gC h x0) 9 <|
   cK (E d 318 [.ref x0, .int (nI 44)] h) (Q d 324 22 [some (.ref x0), some (.int x1)]) [] := by
  rw [← hs.1]
  exact (blkM (fun p => Nat.beq p 22) 5 13 _ _ _).trans rfl

set_option maxRecDepth 16384 in
theorem t_324_22 {d : Nat} {h : AH} (hs : Sh h) (x0 : Nat) (x1 : Int32) (s0 : Int32) :
    Q d 324 22 [some (.ref x0), some (.int x1)] [.int s0] h =
  if s0 = nI 0 then
   some (some (.int (nI 0)), h)
  else
   ck (gC h x0) 9 <|
   cK (E d 321 [.ref x0, .int x1] h) (Q d 324 30 [some (.ref x0), some (.int x1)]) [] := by
  rw [← hs.1]
  exact (blkM (fun p => Nat.beq p 30) 5 22 _ _ _).trans rfl

set_option maxRecDepth 16384 in
theorem t_324_30 {d : Nat} {h : AH} (hs : Sh h) (x0 : Nat) (x1 : Int32) (s0 : Int32) :
    Q d 324 30 [some (.ref x0), some (.int x1)] [.int s0] h =
  if s0 = nI 0 then
   some (some (.int (nI 0)), h)
  else
   ck (gC h x0) 9 <|
   cK (E d 319 [.ref x0, .int x1] h) (Q d 324 38 [some (.ref x0), some (.int x1)]) [] := by
  rw [← hs.1]
  exact (blkM (fun p => Nat.beq p 38) 5 30 _ _ _).trans rfl

set_option maxRecDepth 16384 in
theorem t_324_38 {d : Nat} {h : AH} (hs : Sh h) (x0 : Nat) (x1 : Int32) (s0 : Int32) :
    Q d 324 38 [some (.ref x0), some (.int x1)] [.int s0] h =
  if s0 = nI 0 then
   some (some (.int (nI 0)), h)
  else
   ck (gC h x0) 9 <|
   cK (E d 318 [.ref x0, .int (nI 44)] h) (Q d 324 47 [some (.ref x0), some (.int x1)]) [] := by
  rw [← hs.1]
  exact (blkM (fun p => Nat.beq p 47) 5 38 _ _ _).trans rfl

set_option maxRecDepth 16384 in
theorem t_324_47 {d : Nat} {h : AH} (hs : Sh h) (x0 : Nat) (x1 : Int32) (s0 : Int32) :
    Q d 324 47 [some (.ref x0), some (.int x1)] [.int s0] h =
  if s0 = nI 0 then
   some (some (.int (nI 0)), h)
  else
   ck (gC h x0) 9 <|
   cK (E d 319 [.ref x0, .int x1] h) (Q d 324 55 [some (.ref x0), some (.int x1)]) [] := by
  rw [← hs.1]
  exact (blkM (fun p => Nat.beq p 55) 5 47 _ _ _).trans rfl

set_option maxRecDepth 16384 in
theorem t_324_55 {d : Nat} {h : AH} (hs : Sh h) (x0 : Nat) (u1 : Option Value) (s0 : Int32) :
    Q d 324 55 [some (.ref x0), u1] [.int s0] h =
  if s0 = nI 0 then
   some (some (.int (nI 0)), h)
  else
   ck (gC h x0) 9 <|
   cK (E d 318 [.ref x0, .int (nI 59)] h) (Q d 324 64 [some (.ref x0), u1]) [] := by
  rw [← hs.1]
  exact (blkM (fun p => Nat.beq p 64) 5 55 _ _ _).trans rfl

set_option maxRecDepth 16384 in
theorem t_324_64 {d : Nat} {h : AH} (hs : Sh h) (u0 : Option Value) (u1 : Option Value) (s0 : Int32) :
    Q d 324 64 [u0, u1] [.int s0] h =
  if s0 = nI 0 then
   some (some (.int (nI 0)), h)
  else
   some (some (.int (nI 1)), h) := by
  rw [← hs.1]
  exact (blkM (fun p => false) 5 64 _ _ _).trans rfl

/-! 325 PostRoom$Script.readBlock(I)Z -/
set_option maxRecDepth 16384 in
theorem t_325 {d : Nat} {h : AH} (hs : Sh h) (x0 : Nat) (x1 : Int32) :
    E (d + 1) 325 [.ref x0, .int x1] h =
  (ck (gC h x0) 9 <|
  if gI h 2307 x0 = nI 123 then
   if x1 < nI 20 then
    ck (gC h x0) 9 <|
    ck (gC h x0) 9 <|
    cK (E d 317 [.ref x0] h) (Q d 325 36 [some (.ref x0), some (.int x1), some (.int (gI h 2306 x0)), none]) []
   else
    ck (gC h x0) 9 <|
    cK (E d 327 [.ref x0, .int (nI 5)] h) (Q d 325 26 [some (.ref x0), some (.int x1), none, none]) []
  else
   ck (gC h x0) 9 <|
   cK (E d 327 [.ref x0, .int (nI 1)] h) (Q d 325 14 [some (.ref x0), some (.int x1), none, none]) []) := by
  rw [← hs.1]
  exact entL (l := [some (.ref x0), some (.int x1), none, none]) rfl rfl ((blkM (fun p => Nat.beq p 14 || Nat.beq p 26 || Nat.beq p 36) 13 0 _ _ _).trans rfl)

set_option maxRecDepth 16384 in
theorem t_325_14 {d : Nat} {h : AH} (hs : Sh h) (u0 : Option Value) (u1 : Option Value) (u2 : Option Value) (u3 : Option Value) (s0 : Int32) :
    Q d 325 14 [u0, u1, u2, u3] [.int s0] h =
  if s0 = 0 ∨ s0 = 1 then
   some (some (.int s0), h)
  else
   none := by
  rw [← hs.1]
  exact (blkM (fun p => false) 2 14 _ _ _).trans rfl

set_option maxRecDepth 16384 in
theorem t_325_26 {d : Nat} {h : AH} (hs : Sh h) (u0 : Option Value) (u1 : Option Value) (u2 : Option Value) (u3 : Option Value) (s0 : Int32) :
    Q d 325 26 [u0, u1, u2, u3] [.int s0] h =
  if s0 = 0 ∨ s0 = 1 then
   some (some (.int s0), h)
  else
   none := by
  rw [← hs.1]
  exact (blkM (fun p => false) 2 26 _ _ _).trans rfl

set_option maxRecDepth 16384 in
theorem t_325_36 {d : Nat} {h : AH} (hs : Sh h) (x0 : Nat) (x1 : Int32) (x2 : Int32) (u3 : Option Value) (s0 : Int32) :
    Q d 325 36 [some (.ref x0), some (.int x1), some (.int x2), u3] [.int s0] h =
  Q d 325 39 [some (.ref x0), some (.int x1), some (.int x2), some (.int (nI 0))] [] h := by
  rw [← hs.1]
  exact (blkM (fun p => Nat.beq p 39) 5 36 _ _ _).trans rfl

set_option maxRecDepth 16384 in
theorem t_325_39 {d : Nat} {h : AH} (hs : Sh h) (x0 : Nat) (x1 : Int32) (x2 : Int32) (x3 : Int32) :
    Q d 325 39 [some (.ref x0), some (.int x1), some (.int x2), some (.int x3)] [] h =
  if x3 < nI 4000 then
   ck (gC h x0) 9 <|
   if gI h 2307 x0 = nI 125 then
    ck (gC h x0) 9 <|
    (gR h 2305 x0).bind fun y1 =>
     ck (gC h x0) 9 <|
     cw (gC h y1) 60 y1 <|
     gd x2 (gK h y1) <|
     ck (gC h x0) 9 <|
     cK (E d 318 [.ref x0, .int (nI 125)] (sA h y1 (ix x2) (gI h 2306 x0))) (Q d 325 89 [some (.ref x0), none, some (.int x2), none]) []
   else
    ck (gC h x0) 9 <|
    cK (E d 265 [.ref x0, .int (x1 + (nI 1))] h) (Q d 325 62 [some (.ref x0), some (.int x1), some (.int x2), some (.int x3)]) []
  else
   ck (gC h x0) 9 <|
   (gR h 2305 x0).bind fun y2 =>
    ck (gC h x0) 9 <|
    cw (gC h y2) 60 y2 <|
    gd x2 (gK h y2) <|
    ck (gC h x0) 9 <|
    cK (E d 318 [.ref x0, .int (nI 125)] (sA h y2 (ix x2) (gI h 2306 x0))) (Q d 325 89 [some (.ref x0), none, some (.int x2), none]) [] := by
  rw [← hs.1]
  exact (blkM (fun p => Nat.beq p 62 || Nat.beq p 89) 17 39 _ _ _).trans rfl

set_option maxRecDepth 16384 in
theorem t_325_62 {d : Nat} {h : AH} (hs : Sh h) (x0 : Nat) (x1 : Int32) (x2 : Int32) (x3 : Int32) (s0 : Int32) :
    Q d 325 62 [some (.ref x0), some (.int x1), some (.int x2), some (.int x3)] [.int s0] h =
  if s0 = nI 0 then
   some (some (.int (nI 0)), h)
  else
   Q d 325 39 [some (.ref x0), some (.int x1), some (.int x2), some (.int (x3 + nI 1))] [] h := by
  rw [← hs.1]
  exact (blkM (fun p => Nat.beq p 39) 5 62 _ _ _).trans rfl

set_option maxRecDepth 16384 in
theorem t_325_89 {d : Nat} {h : AH} (hs : Sh h) (u0 : Option Value) (u1 : Option Value) (u2 : Option Value) (u3 : Option Value) (s0 : Int32) :
    Q d 325 89 [u0, u1, u2, u3] [.int s0] h =
  if s0 = 0 ∨ s0 = 1 then
   some (some (.int s0), h)
  else
   none := by
  rw [← hs.1]
  exact (blkM (fun p => false) 2 89 _ _ _).trans rfl

/-! 326 PostRoom$Script.readTry(I)Z -/
set_option maxRecDepth 16384 in
theorem t_326 {d : Nat} {h : AH} (hs : Sh h) (x0 : Nat) (x1 : Int32) :
    E (d + 1) 326 [.ref x0, .int x1] h =
  (ck (gC h x0) 9 <|
  cK (E d 325 [.ref x0, .int x1] h) (Q d 326 5 [some (.ref x0), some (.int x1), none]) []) := by
  rw [← hs.1]
  exact entL (l := [some (.ref x0), some (.int x1), none]) rfl rfl ((blkM (fun p => Nat.beq p 5) 4 0 _ _ _).trans rfl)

set_option maxRecDepth 16384 in
theorem t_326_5 {d : Nat} {h : AH} (hs : Sh h) (x0 : Nat) (x1 : Int32) (u2 : Option Value) (s0 : Int32) :
    Q d 326 5 [some (.ref x0), some (.int x1), u2] [.int s0] h =
  if s0 = nI 0 then
   some (some (.int (nI 0)), h)
  else
   Q d 326 12 [some (.ref x0), some (.int x1), some (.int (nI 0))] [] h := by
  rw [← hs.1]
  exact (blkM (fun p => Nat.beq p 12) 5 5 _ _ _).trans rfl

set_option maxRecDepth 16384 in
theorem t_326_12 {d : Nat} {h : AH} (hs : Sh h) (x0 : Nat) (x1 : Int32) (x2 : Int32) :
    Q d 326 12 [some (.ref x0), some (.int x1), some (.int x2)] [] h =
  if x2 < nI 4000 then
   ck (gC h x0) 9 <|
   if gI h 2307 x0 = nI 141 then
    ck (gC h x0) 9 <|
    cK (E d 317 [.ref x0] h) (Q d 326 33 [some (.ref x0), some (.int x1), some (.int x2)]) []
   else
    ck (gC h x0) 9 <|
    if gI h 2307 x0 = nI 142 then
     ck (gC h x0) 9 <|
     cK (E d 317 [.ref x0] h) (Q d 326 73 [some (.ref x0), some (.int x1), none]) []
    else
     some (some (.int (nI 1)), h)
  else
   ck (gC h x0) 9 <|
   if gI h 2307 x0 = nI 142 then
    ck (gC h x0) 9 <|
    cK (E d 317 [.ref x0] h) (Q d 326 73 [some (.ref x0), some (.int x1), none]) []
   else
    some (some (.int (nI 1)), h) := by
  rw [← hs.1]
  exact (blkM (fun p => Nat.beq p 33 || Nat.beq p 73) 15 12 _ _ _).trans rfl

set_option maxRecDepth 16384 in
theorem t_326_33 {d : Nat} {h : AH} (hs : Sh h) (x0 : Nat) (x1 : Int32) (x2 : Int32) (s0 : Int32) :
    Q d 326 33 [some (.ref x0), some (.int x1), some (.int x2)] [.int s0] h =
  if s0 = nI 0 then
   some (some (.int (nI 0)), h)
  else
   ck (gC h x0) 9 <|
   cK (E d 359 [.ref x0] h) (Q d 326 40 [some (.ref x0), some (.int x1), some (.int x2)]) [] := by
  rw [← hs.1]
  exact (blkM (fun p => Nat.beq p 40) 4 33 _ _ _).trans rfl

set_option maxRecDepth 16384 in
theorem t_326_73 {d : Nat} {h : AH} (hs : Sh h) (x0 : Nat) (x1 : Int32) (u2 : Option Value) (s0 : Int32) :
    Q d 326 73 [some (.ref x0), some (.int x1), u2] [.int s0] h =
  if s0 = nI 0 then
   some (some (.int (nI 0)), h)
  else
   ck (gC h x0) 9 <|
   cK (E d 325 [.ref x0, .int x1] h) (Q d 326 81 [some (.ref x0), some (.int x1), u2]) [] := by
  rw [← hs.1]
  exact (blkM (fun p => Nat.beq p 81) 5 73 _ _ _).trans rfl

set_option maxRecDepth 16384 in
theorem t_326_40 {d : Nat} {h : AH} (hs : Sh h) (x0 : Nat) (x1 : Int32) (x2 : Int32) (s0 : Int32) :
    Q d 326 40 [some (.ref x0), some (.int x1), some (.int x2)] [.int s0] h =
  if s0 = nI 0 then
   some (some (.int (nI 0)), h)
  else
   ck (gC h x0) 9 <|
   cK (E d 325 [.ref x0, .int x1] h) (Q d 326 48 [some (.ref x0), some (.int x1), some (.int x2)]) [] := by
  rw [← hs.1]
  exact (blkM (fun p => Nat.beq p 48) 5 40 _ _ _).trans rfl

set_option maxRecDepth 16384 in
theorem t_326_81 {d : Nat} {h : AH} (hs : Sh h) (u0 : Option Value) (u1 : Option Value) (u2 : Option Value) (s0 : Int32) :
    Q d 326 81 [u0, u1, u2] [.int s0] h =
  if s0 = nI 0 then
   some (some (.int (nI 0)), h)
  else
   some (some (.int (nI 1)), h) := by
  rw [← hs.1]
  exact (blkM (fun p => false) 5 81 _ _ _).trans rfl

set_option maxRecDepth 16384 in
theorem t_326_48 {d : Nat} {h : AH} (hs : Sh h) (x0 : Nat) (x1 : Int32) (x2 : Int32) (s0 : Int32) :
    Q d 326 48 [some (.ref x0), some (.int x1), some (.int x2)] [.int s0] h =
  if s0 = nI 0 then
   some (some (.int (nI 0)), h)
  else
   Q d 326 12 [some (.ref x0), some (.int x1), some (.int (x2 + nI 1))] [] h := by
  rw [← hs.1]
  exact (blkM (fun p => Nat.beq p 12) 5 48 _ _ _).trans rfl

/-! 327 PostRoom$Script.fails(I)Z -/
set_option maxRecDepth 16384 in
theorem t_327 {d : Nat} {h : AH} (hs : Sh h) (x0 : Nat) (x1 : Int32) :
    E (d + 1) 327 [.ref x0, .int x1] h =
  (ck (gC h x0) 9 <|
  (gR h 2309 x0).bind fun y1 =>
   ck (gC h y1) 12 <|
   ck (gC h x0) 9 <|
   some (some (.int (nI 0)), sI h 2308 x0 (x1 + ((nI 16) * (gI h 3074 y1))))) := by
  rw [← hs.1]
  exact entL (l := [some (.ref x0), some (.int x1)]) rfl rfl ((blkM (fun p => false) 12 0 _ _ _).trans rfl)

/-! 328 PostRoom$Machine.peek()I -/
set_option maxRecDepth 16384 in
theorem t_328 {d : Nat} {h : AH} (hs : Sh h)  :
    E (d + 1) 328 [.ref 175] h =
  (gR h 1544 175).bind fun y1 =>
   ck (gC h y1) 9 <|
   cK (E d 360 [.ref y1, .int (gI h 1545 175)] h) (Q d 328 11 [some (.ref 175)]) [] := by
  rw [← hs.1]
  exact entL (l := [some (.ref 175)]) rfl rfl ((blkM (fun p => Nat.beq p 11) 6 0 _ _ _).trans rfl)

set_option maxRecDepth 16384 in
theorem t_328_11 {d : Nat} {h : AH} (hs : Sh h) (u0 : Option Value) (s0 : Int32) :
    Q d 328 11 [u0] [.int s0] h =
  some (some (.int s0), h) := by
  rw [← hs.1]
  exact (blkM (fun p => false) 2 11 _ _ _).trans rfl

/-! 329 PostRoom$Machine.begins()Z -/
set_option maxRecDepth 16384 in
theorem t_329 {d : Nat} {h : AH} (hs : Sh h)  :
    E (d + 1) 329 [.ref 175] h =
  if gI h 1549 175 < gI h 1550 175 then
   if gI h 1553 175 < nI 200000 then
    some (some (.int (nI 1)), sI (sI h 1549 175 ((gI h 1549 175) + (nI 1))) 1553 175 ((gI h 1553 175) + (nI 1)))
   else
    some (some (.int (nI 0)), sI h 1547 175 (nI 10))
  else
   some (some (.int (nI 0)), sI h 1547 175 (nI 10)) := by
  rw [← hs.1]
  exact entL (l := [some (.ref 175)]) rfl rfl ((blkM (fun p => false) 24 0 _ _ _).trans rfl)

/-! 330 PostRoom$Script.valueAt(I)I -/
set_option maxRecDepth 16384 in
theorem t_330 {d : Nat} {h : AH} (hs : Sh h) (x0 : Nat) (x1 : Int32) :
    E (d + 1) 330 [.ref x0, .int x1] h =
  if x1 < nI 0 then
   some (some (.int (nI 0)), h)
  else
   ck (gC h x0) 9 <|
   if x1 < gI h 2306 x0 then
    ck (gC h x0) 9 <|
    (gR h 2305 x0).bind fun y1 =>
     ck (gC h y1) 60 <|
     gd x1 (gK h y1) <|
     some (some (.int (gA h y1 (ix x1))), h)
   else
    some (some (.int (nI 0)), h) := by
  rw [← hs.1]
  exact entL (l := [some (.ref x0), some (.int x1)]) rfl rfl ((blkM (fun p => false) 13 0 _ _ _).trans rfl)

/-! 331 PostRoom$Machine.setNumber(II)V -/
set_option maxRecDepth 16384 in
theorem t_331 {d : Nat} {h : AH} (hs : Sh h) (x1 : Int32) (x2 : Int32) :
    E (d + 1) 331 [.ref 175, .int x1, .int x2] h =
  cK (E d 361 [.ref 175, .int x2] (sI h 1545 175 ((gI h 1545 175) + (nI 1)))) (Q d 331 15 [some (.ref 175), some (.int x1), some (.int x2), none, none]) [] := by
  rw [← hs.1]
  exact entL (l := [some (.ref 175), some (.int x1), some (.int x2), none, none]) rfl rfl ((blkM (fun p => Nat.beq p 15) 10 0 _ _ _).trans rfl)

set_option maxRecDepth 16384 in
theorem t_331_15 {d : Nat} {h : AH} (hs : Sh h) (x1 : Int32) (u2 : Option Value) (u3 : Option Value) (u4 : Option Value) (s0 : Int64) :
    Q d 331 15 [some (.ref 175), some (.int x1), u2, u3, u4] [.long s0] h =
  cK (E d 362 [.ref 175] (sI h 1545 175 ((gI h 1545 175) + (nI 1)))) (Q d 331 30 [some (.ref 175), some (.int x1), klV u2, some (.long s0), none]) [] := by
  rw [← hs.1]
  exact (blkM (fun p => Nat.beq p 30) 10 15 _ _ _).trans rfl

set_option maxRecDepth 16384 in
theorem t_331_30 {d : Nat} {h : AH} (hs : Sh h) (x1 : Int32) (x3 : Int64) (u2 : Option Value) (s0 : Int32) :
    Q d 331 30 [some (.ref 175), some (.int x1), u2, some (.long x3), none] [.int s0] h =
  if s0 = nI 0 then
   some (none, h)
  else
   gd x1 10 <|
   some (none, sB h 176 (ix x1) x3) := by
  rw [← hs.1]
  exact (blkM (fun p => false) 8 30 _ _ _).trans rfl

/-! 332 PostRoom$Machine.setHand(II)V -/
set_option maxRecDepth 16384 in
theorem t_332 {d : Nat} {h : AH} (hs : Sh h) (x1 : Int32) (x2 : Int32) :
    E (d + 1) 332 [.ref 175, .int x1, .int x2] h =
  cK (E d 363 [.ref 175, .int x2] (sI h 1545 175 ((gI h 1545 175) + (nI 1)))) (Q d 332 15 [some (.ref 175), some (.int x1), some (.int x2), none]) [] := by
  rw [← hs.1]
  exact entL (l := [some (.ref 175), some (.int x1), some (.int x2), none]) rfl rfl ((blkM (fun p => Nat.beq p 15) 10 0 _ _ _).trans rfl)

set_option maxRecDepth 16384 in
theorem t_332_15 {d : Nat} {h : AH} (hs : Sh h) (x1 : Int32) (u2 : Option Value) (u3 : Option Value) (s0 : Int32) :
    Q d 332 15 [some (.ref 175), some (.int x1), u2, u3] [.int s0] h =
  cK (E d 362 [.ref 175] (sI h 1545 175 ((gI h 1545 175) + (nI 1)))) (Q d 332 30 [some (.ref 175), some (.int x1), klV u2, some (.int s0)]) [] := by
  rw [← hs.1]
  exact (blkM (fun p => Nat.beq p 30) 10 15 _ _ _).trans rfl

set_option maxRecDepth 16384 in
theorem t_332_30 {d : Nat} {h : AH} (hs : Sh h) (x1 : Int32) (x3 : Int32) (u2 : Option Value) (s0 : Int32) :
    Q d 332 30 [some (.ref 175), some (.int x1), u2, some (.int x3)] [.int s0] h =
  if s0 = nI 0 then
   some (none, h)
  else
   gd x1 4 <|
   some (none, sA h 177 (ix x1) x3) := by
  rw [← hs.1]
  exact (blkM (fun p => false) 8 30 _ _ _).trans rfl

/-! 333 PostRoom$Machine.make(I)V -/
set_option maxRecDepth 16384 in
theorem t_333 {d : Nat} {h : AH} (hs : Sh h) (x1 : Int32) :
    E (d + 1) 333 [.ref 175, .int x1] h =
  cK (E d 364 [.ref 175, .int x1] h) (Q d 333 5 [some (.ref 175), some (.int x1), none, none, none, none]) [] := by
  rw [← hs.1]
  exact entL (l := [some (.ref 175), some (.int x1), none, none, none, none]) rfl rfl ((blkM (fun p => Nat.beq p 5) 4 0 _ _ _).trans rfl)

set_option maxRecDepth 16384 in
theorem t_333_5 {d : Nat} {h : AH} (hs : Sh h) (x1 : Int32) (u2 : Option Value) (u3 : Option Value) (u4 : Option Value) (u5 : Option Value) (s0 : Int32) :
    Q d 333 5 [some (.ref 175), some (.int x1), u2, u3, u4, u5] [.int s0] h =
  cK (E d 362 [.ref 175] h) (Q d 333 10 [some (.ref 175), some (.int x1), some (.int s0), u3, u4, u5]) [] := by
  rw [← hs.1]
  exact (blkM (fun p => Nat.beq p 10) 4 5 _ _ _).trans rfl

set_option maxRecDepth 16384 in
theorem t_333_10 {d : Nat} {h : AH} (hs : Sh h) (x1 : Int32) (x2 : Int32) (u3 : Option Value) (u4 : Option Value) (u5 : Option Value) (s0 : Int32) :
    Q d 333 10 [some (.ref 175), some (.int x1), some (.int x2), u3, u4, u5] [.int s0] h =
  if s0 = nI 0 then
   some (none, h)
  else
   cK (E d 328 [.ref 175] h) (Q d 333 18 [some (.ref 175), some (.int x1), some (.int x2), u3, u4, u5]) [] := by
  rw [← hs.1]
  exact (blkM (fun p => Nat.beq p 18) 4 10 _ _ _).trans rfl

set_option maxRecDepth 16384 in
theorem t_333_18 {d : Nat} {h : AH} (hs : Sh h) (x1 : Int32) (x2 : Int32) (u3 : Option Value) (u4 : Option Value) (u5 : Option Value) (s0 : Int32) :
    Q d 333 18 [some (.ref 175), some (.int x1), some (.int x2), u3, u4, u5] [.int s0] h =
  cK (E d 361 [.ref 175, .int x1] (sI h 1545 175 ((gI h 1545 175) + (nI 1)))) (Q d 333 40 [some (.ref 175), some (.int x1), some (.int x2), some (.int ((s0 - (nI 160)) + (nI 1))), u4, u5]) [] := by
  rw [← hs.1]
  exact (blkM (fun p => Nat.beq p 40) 15 18 _ _ _).trans rfl

set_option maxRecDepth 16384 in
theorem t_333_40 {d : Nat} {h : AH} (hs : Sh h) (x2 : Int32) (x3 : Int32) (u1 : Option Value) (u4 : Option Value) (u5 : Option Value) (s0 : Int64) :
    Q d 333 40 [some (.ref 175), u1, some (.int x2), some (.int x3), u4, u5] [.long s0] h =
  cK (E d 362 [.ref 175] (sI h 1545 175 ((gI h 1545 175) + (nI 1)))) (Q d 333 56 [some (.ref 175), u1, some (.int x2), some (.int x3), some (.long s0), none]) [] := by
  rw [← hs.1]
  exact (blkM (fun p => Nat.beq p 56) 10 40 _ _ _).trans rfl

set_option maxRecDepth 16384 in
theorem t_333_56 {d : Nat} {h : AH} (hs : Sh h) (x2 : Int32) (x3 : Int32) (x4 : Int64) (u1 : Option Value) (s0 : Int32) :
    Q d 333 56 [some (.ref 175), u1, some (.int x2), some (.int x3), some (.long x4), none] [.int s0] h =
  if s0 = nI 0 then
   some (none, h)
  else
   if lg_cmp x4 0 < nI 0 then
    cK (E d 365 [.ref 175, .int (nI 4)] h) (Q d 333 72 [some (.ref 175), u1, some (.int x2), some (.int x3), some (.long x4), none]) []
   else
    if (nI 0) < lg_cmp x4 (((nI 2000) - (gI h 1551 175)).toInt64) then
     Q d 333 122 [none, none, none, none, none, none] [] (sI h 1547 175 (nI 11))
    else
     if (nI 0) < lg_cmp x4 (((nI 200000) - (gI h 1554 175)).toInt64) then
      Q d 333 122 [none, none, none, none, none, none] [] (sI h 1547 175 (nI 11))
     else
      cK (E d 366 [.ref 175, .int x2, .int x3, .int x4.toInt32] h) (Q d 333 122 [none, none, none, none, none, none]) [] := by
  rw [← hs.1]
  exact (blkM (fun p => Nat.beq p 72 || Nat.beq p 122) 28 56 _ _ _).trans rfl

set_option maxRecDepth 16384 in
theorem t_333_72 {d : Nat} {h : AH} (hs : Sh h) (u0 : Option Value) (u1 : Option Value) (u2 : Option Value) (u3 : Option Value) (u4 : Option Value) (u5 : Option Value) :
    Q d 333 72 [u0, u1, u2, u3, u4, u5] [] h =
  Q d 333 122 [none, none, none, none, none, none] [] h := by
  rw [← hs.1]
  exact (blkM (fun p => Nat.beq p 122) 3 72 _ _ _).trans rfl

set_option maxRecDepth 16384 in
theorem t_333_122 {d : Nat} {h : AH} (hs : Sh h)  :
    Q d 333 122 [none, none, none, none, none, none] [] h =
  some (none, h) := by
  rw [← hs.1]
  exact (blkM (fun p => false) 2 122 _ _ _).trans rfl

/-! 334 PostRoom$Machine.drop(I)V -/
set_option maxRecDepth 16384 in
theorem t_334 {d : Nat} {h : AH} (hs : Sh h) (x1 : Int32) :
    E (d + 1) 334 [.ref 175, .int x1] h =
  cK (E d 364 [.ref 175, .int x1] h) (Q d 334 5 [some (.ref 175), some (.int x1), none]) [] := by
  rw [← hs.1]
  exact entL (l := [some (.ref 175), some (.int x1), none]) rfl rfl ((blkM (fun p => Nat.beq p 5) 4 0 _ _ _).trans rfl)

set_option maxRecDepth 16384 in
theorem t_334_5 {d : Nat} {h : AH} (hs : Sh h) (u1 : Option Value) (u2 : Option Value) (s0 : Int32) :
    Q d 334 5 [some (.ref 175), u1, u2] [.int s0] h =
  cK (E d 362 [.ref 175] (sI h 1545 175 ((gI h 1545 175) + (nI 1)))) (Q d 334 20 [some (.ref 175), klV u1, some (.int s0)]) [] := by
  rw [← hs.1]
  exact (blkM (fun p => Nat.beq p 20) 10 5 _ _ _).trans rfl

set_option maxRecDepth 16384 in
theorem t_334_20 {d : Nat} {h : AH} (hs : Sh h) (x2 : Int32) (u1 : Option Value) (s0 : Int32) :
    Q d 334 20 [some (.ref 175), u1, some (.int x2)] [.int s0] h =
  if s0 = nI 0 then
   some (none, h)
  else
   gd x2 12 <|
   some (none, sA h 178 (ix x2) (nI 0)) := by
  rw [← hs.1]
  exact (blkM (fun p => false) 8 20 _ _ _).trans rfl

/-! 335 PostRoom$Machine.same(I)V -/
set_option maxRecDepth 16384 in
theorem t_335 {d : Nat} {h : AH} (hs : Sh h) (x1 : Int32) :
    E (d + 1) 335 [.ref 175, .int x1] h =
  cK (E d 364 [.ref 175, .int x1] h) (Q d 335 5 [some (.ref 175), some (.int x1), none, none]) [] := by
  rw [← hs.1]
  exact entL (l := [some (.ref 175), some (.int x1), none, none]) rfl rfl ((blkM (fun p => Nat.beq p 5) 4 0 _ _ _).trans rfl)

set_option maxRecDepth 16384 in
theorem t_335_5 {d : Nat} {h : AH} (hs : Sh h) (x1 : Int32) (u2 : Option Value) (u3 : Option Value) (s0 : Int32) :
    Q d 335 5 [some (.ref 175), some (.int x1), u2, u3] [.int s0] h =
  cK (E d 362 [.ref 175] h) (Q d 335 10 [some (.ref 175), some (.int x1), some (.int s0), u3]) [] := by
  rw [← hs.1]
  exact (blkM (fun p => Nat.beq p 10) 4 5 _ _ _).trans rfl

set_option maxRecDepth 16384 in
theorem t_335_10 {d : Nat} {h : AH} (hs : Sh h) (x1 : Int32) (x2 : Int32) (u3 : Option Value) (s0 : Int32) :
    Q d 335 10 [some (.ref 175), some (.int x1), some (.int x2), u3] [.int s0] h =
  if s0 = nI 0 then
   some (none, h)
  else
   cK (E d 364 [.ref 175, .int x1] h) (Q d 335 19 [some (.ref 175), some (.int x1), some (.int x2), u3]) [] := by
  rw [← hs.1]
  exact (blkM (fun p => Nat.beq p 19) 5 10 _ _ _).trans rfl

set_option maxRecDepth 16384 in
theorem t_335_19 {d : Nat} {h : AH} (hs : Sh h) (x2 : Int32) (u1 : Option Value) (u3 : Option Value) (s0 : Int32) :
    Q d 335 19 [some (.ref 175), u1, some (.int x2), u3] [.int s0] h =
  cK (E d 362 [.ref 175] (sI h 1545 175 ((gI h 1545 175) + (nI 1)))) (Q d 335 34 [some (.ref 175), u1, some (.int x2), some (.int s0)]) [] := by
  rw [← hs.1]
  exact (blkM (fun p => Nat.beq p 34) 10 19 _ _ _).trans rfl

set_option maxRecDepth 16384 in
theorem t_335_34 {d : Nat} {h : AH} (hs : Sh h) (x2 : Int32) (x3 : Int32) (u1 : Option Value) (s0 : Int32) :
    Q d 335 34 [some (.ref 175), u1, some (.int x2), some (.int x3)] [.int s0] h =
  if s0 = nI 0 then
   some (none, h)
  else
   gd x3 12 <|
   gd x2 12 <|
   gd x3 12 <|
   gd x2 12 <|
   gd x3 12 <|
   gd x2 12 <|
   gd x3 12 <|
   gd x2 12 <|
   some (none, sA (sA (sA (sA h 178 (ix x2) (gA h 178 (ix x3))) 179 (ix x2) (gA h 179 (ix x3))) 180 (ix x2) (gA h 180 (ix x3))) 181 (ix x2) (gA h 181 (ix x3))) := by
  rw [← hs.1]
  exact (blkM (fun p => false) 35 34 _ _ _).trans rfl

/-! 336 PostRoom$Machine.put(I)V -/
set_option maxRecDepth 16384 in
theorem t_336 {d : Nat} {h : AH} (hs : Sh h) (x1 : Int32) :
    E (d + 1) 336 [.ref 175, .int x1] h =
  cK (E d 364 [.ref 175, .int x1] h) (Q d 336 5 [some (.ref 175), some (.int x1), none, none, none, none, none, none]) [] := by
  rw [← hs.1]
  exact entL (l := [some (.ref 175), some (.int x1), none, none, none, none, none, none]) rfl rfl ((blkM (fun p => Nat.beq p 5) 4 0 _ _ _).trans rfl)

set_option maxRecDepth 16384 in
theorem t_336_5 {d : Nat} {h : AH} (hs : Sh h) (x1 : Int32) (u2 : Option Value) (u3 : Option Value) (u4 : Option Value) (u5 : Option Value) (u6 : Option Value) (u7 : Option Value) (s0 : Int32) :
    Q d 336 5 [some (.ref 175), some (.int x1), u2, u3, u4, u5, u6, u7] [.int s0] h =
  cK (E d 362 [.ref 175] h) (Q d 336 10 [some (.ref 175), some (.int x1), some (.int s0), u3, u4, u5, u6, u7]) [] := by
  rw [← hs.1]
  exact (blkM (fun p => Nat.beq p 10) 4 5 _ _ _).trans rfl

set_option maxRecDepth 16384 in
theorem t_336_10 {d : Nat} {h : AH} (hs : Sh h) (x1 : Int32) (x2 : Int32) (u3 : Option Value) (u4 : Option Value) (u5 : Option Value) (u6 : Option Value) (u7 : Option Value) (s0 : Int32) :
    Q d 336 10 [some (.ref 175), some (.int x1), some (.int x2), u3, u4, u5, u6, u7] [.int s0] h =
  if s0 = nI 0 then
   some (none, h)
  else
   cK (E d 367 [.ref 175, .int x1] h) (Q d 336 19 [some (.ref 175), some (.int x1), some (.int x2), u3, u4, u5, u6, u7]) [] := by
  rw [← hs.1]
  exact (blkM (fun p => Nat.beq p 19) 5 10 _ _ _).trans rfl

set_option maxRecDepth 16384 in
theorem t_336_19 {d : Nat} {h : AH} (hs : Sh h) (x1 : Int32) (x2 : Int32) (u3 : Option Value) (u4 : Option Value) (u5 : Option Value) (u6 : Option Value) (u7 : Option Value) (s0 : Int64) :
    Q d 336 19 [some (.ref 175), some (.int x1), some (.int x2), u3, u4, u5, u6, u7] [.long s0] h =
  cK (E d 362 [.ref 175] h) (Q d 336 24 [some (.ref 175), some (.int x1), some (.int x2), some (.long s0), none, u5, u6, u7]) [] := by
  rw [← hs.1]
  exact (blkM (fun p => Nat.beq p 24) 4 19 _ _ _).trans rfl

set_option maxRecDepth 16384 in
theorem t_336_24 {d : Nat} {h : AH} (hs : Sh h) (x1 : Int32) (x2 : Int32) (x3 : Int64) (u5 : Option Value) (u6 : Option Value) (u7 : Option Value) (s0 : Int32) :
    Q d 336 24 [some (.ref 175), some (.int x1), some (.int x2), some (.long x3), none, u5, u6, u7] [.int s0] h =
  if s0 = nI 0 then
   some (none, h)
  else
   cK (E d 361 [.ref 175, .int x1] h) (Q d 336 33 [some (.ref 175), some (.int x1), some (.int x2), some (.long x3), none, u5, u6, u7]) [] := by
  rw [← hs.1]
  exact (blkM (fun p => Nat.beq p 33) 5 24 _ _ _).trans rfl

set_option maxRecDepth 16384 in
theorem t_336_33 {d : Nat} {h : AH} (hs : Sh h) (x2 : Int32) (x3 : Int64) (u1 : Option Value) (u5 : Option Value) (u6 : Option Value) (u7 : Option Value) (s0 : Int64) :
    Q d 336 33 [some (.ref 175), u1, some (.int x2), some (.long x3), none, u5, u6, u7] [.long s0] h =
  cK (E d 362 [.ref 175] (sI h 1545 175 ((gI h 1545 175) + (nI 1)))) (Q d 336 49 [some (.ref 175), u1, some (.int x2), some (.long x3), none, some (.long s0), none, u7]) [] := by
  rw [← hs.1]
  exact (blkM (fun p => Nat.beq p 49) 10 33 _ _ _).trans rfl

set_option maxRecDepth 16384 in
theorem t_336_49 {d : Nat} {h : AH} (hs : Sh h) (x2 : Int32) (x3 : Int64) (x5 : Int64) (u1 : Option Value) (u7 : Option Value) (s0 : Int32) :
    Q d 336 49 [some (.ref 175), u1, some (.int x2), some (.long x3), none, some (.long x5), none, u7] [.int s0] h =
  if s0 = nI 0 then
   some (none, h)
  else
   cK (E d 368 [.ref 175, .int x2, .long x3, .int (nI 0)] h) (Q d 336 60 [some (.ref 175), u1, some (.int x2), some (.long x3), none, some (.long x5), none, u7]) [] := by
  rw [← hs.1]
  exact (blkM (fun p => Nat.beq p 60) 7 49 _ _ _).trans rfl

set_option maxRecDepth 16384 in
theorem t_336_60 {d : Nat} {h : AH} (hs : Sh h) (x2 : Int32) (x5 : Int64) (u1 : Option Value) (u3 : Option Value) (u4 : Option Value) (u7 : Option Value) (s0 : Int32) :
    Q d 336 60 [some (.ref 175), u1, some (.int x2), u3, u4, some (.long x5), none, u7] [.int s0] h =
  if s0 = (-1) then
   some (none, h)
  else
   gd x2 12 <|
   cK (E d 369 [.int (gA h 178 (ix x2)), .long x5] h) (Q d 336 85 [some (.ref 175), u1, some (.int x2), u3, u4, some (.long x5), none, some (.int s0)]) [.int s0, .ref 182] := by
  rw [← hs.1]
  exact (blkM (fun p => Nat.beq p 85) 14 60 _ _ _).trans rfl

set_option maxRecDepth 16384 in
theorem t_336_85 {d : Nat} {h : AH} (hs : Sh h) (u0 : Option Value) (u1 : Option Value) (u2 : Option Value) (u3 : Option Value) (u4 : Option Value) (u5 : Option Value) (u6 : Option Value) (u7 : Option Value) (s0 : Nat) (s1 : Int32) (s2 : Int64) :
    Q d 336 85 [u0, u1, u2, u3, u4, u5, u6, u7] [.long s2, .int s1, .ref s0] h =
  (cw (gC h s0) 61 s0 <|
  gd s1 (gK h s0) <|
  some (none, sB h s0 (ix s1) s2)) := by
  rw [← hs.1]
  exact (blkM (fun p => false) 3 85 _ _ _).trans rfl

/-! 337 PostRoom$Machine.lay(I)V -/
set_option maxRecDepth 16384 in
theorem t_337 {d : Nat} {h : AH} (hs : Sh h) (x1 : Int32) :
    E (d + 1) 337 [.ref 175, .int x1] h =
  cK (E d 364 [.ref 175, .int x1] h) (Q d 337 5 [some (.ref 175), some (.int x1), none, none, none, none, none]) [] := by
  rw [← hs.1]
  exact entL (l := [some (.ref 175), some (.int x1), none, none, none, none, none]) rfl rfl ((blkM (fun p => Nat.beq p 5) 4 0 _ _ _).trans rfl)

set_option maxRecDepth 16384 in
theorem t_337_5 {d : Nat} {h : AH} (hs : Sh h) (x1 : Int32) (u2 : Option Value) (u3 : Option Value) (u4 : Option Value) (u5 : Option Value) (u6 : Option Value) (s0 : Int32) :
    Q d 337 5 [some (.ref 175), some (.int x1), u2, u3, u4, u5, u6] [.int s0] h =
  cK (E d 362 [.ref 175] h) (Q d 337 10 [some (.ref 175), some (.int x1), some (.int s0), u3, u4, u5, u6]) [] := by
  rw [← hs.1]
  exact (blkM (fun p => Nat.beq p 10) 4 5 _ _ _).trans rfl

set_option maxRecDepth 16384 in
theorem t_337_10 {d : Nat} {h : AH} (hs : Sh h) (x1 : Int32) (x2 : Int32) (u3 : Option Value) (u4 : Option Value) (u5 : Option Value) (u6 : Option Value) (s0 : Int32) :
    Q d 337 10 [some (.ref 175), some (.int x1), some (.int x2), u3, u4, u5, u6] [.int s0] h =
  if s0 = nI 0 then
   some (none, h)
  else
   cK (E d 367 [.ref 175, .int x1] h) (Q d 337 19 [some (.ref 175), some (.int x1), some (.int x2), u3, u4, u5, u6]) [] := by
  rw [← hs.1]
  exact (blkM (fun p => Nat.beq p 19) 5 10 _ _ _).trans rfl

set_option maxRecDepth 16384 in
theorem t_337_19 {d : Nat} {h : AH} (hs : Sh h) (x1 : Int32) (x2 : Int32) (u3 : Option Value) (u4 : Option Value) (u5 : Option Value) (u6 : Option Value) (s0 : Int64) :
    Q d 337 19 [some (.ref 175), some (.int x1), some (.int x2), u3, u4, u5, u6] [.long s0] h =
  cK (E d 362 [.ref 175] h) (Q d 337 24 [some (.ref 175), some (.int x1), some (.int x2), some (.long s0), none, u5, u6]) [] := by
  rw [← hs.1]
  exact (blkM (fun p => Nat.beq p 24) 4 19 _ _ _).trans rfl

set_option maxRecDepth 16384 in
theorem t_337_24 {d : Nat} {h : AH} (hs : Sh h) (x1 : Int32) (x2 : Int32) (x3 : Int64) (u5 : Option Value) (u6 : Option Value) (s0 : Int32) :
    Q d 337 24 [some (.ref 175), some (.int x1), some (.int x2), some (.long x3), none, u5, u6] [.int s0] h =
  if s0 = nI 0 then
   some (none, h)
  else
   cK (E d 363 [.ref 175, .int x1] h) (Q d 337 33 [some (.ref 175), some (.int x1), some (.int x2), some (.long x3), none, u5, u6]) [] := by
  rw [← hs.1]
  exact (blkM (fun p => Nat.beq p 33) 5 24 _ _ _).trans rfl

set_option maxRecDepth 16384 in
theorem t_337_33 {d : Nat} {h : AH} (hs : Sh h) (x2 : Int32) (x3 : Int64) (u1 : Option Value) (u5 : Option Value) (u6 : Option Value) (s0 : Int32) :
    Q d 337 33 [some (.ref 175), u1, some (.int x2), some (.long x3), none, u5, u6] [.int s0] h =
  cK (E d 362 [.ref 175] (sI h 1545 175 ((gI h 1545 175) + (nI 1)))) (Q d 337 49 [some (.ref 175), u1, some (.int x2), some (.long x3), none, some (.int s0), u6]) [] := by
  rw [← hs.1]
  exact (blkM (fun p => Nat.beq p 49) 10 33 _ _ _).trans rfl

set_option maxRecDepth 16384 in
theorem t_337_49 {d : Nat} {h : AH} (hs : Sh h) (x2 : Int32) (x3 : Int64) (x5 : Int32) (u1 : Option Value) (u6 : Option Value) (s0 : Int32) :
    Q d 337 49 [some (.ref 175), u1, some (.int x2), some (.long x3), none, some (.int x5), u6] [.int s0] h =
  if s0 = nI 0 then
   some (none, h)
  else
   cK (E d 368 [.ref 175, .int x2, .long x3, .int (nI 1)] h) (Q d 337 60 [some (.ref 175), u1, some (.int x2), some (.long x3), none, some (.int x5), u6]) [] := by
  rw [← hs.1]
  exact (blkM (fun p => Nat.beq p 60) 7 49 _ _ _).trans rfl

set_option maxRecDepth 16384 in
theorem t_337_60 {d : Nat} {h : AH} (hs : Sh h) (x2 : Int32) (x5 : Int32) (u1 : Option Value) (u3 : Option Value) (u4 : Option Value) (u6 : Option Value) (s0 : Int32) :
    Q d 337 60 [some (.ref 175), u1, some (.int x2), u3, u4, some (.int x5), u6] [.int s0] h =
  if s0 = (-1) then
   some (none, h)
  else
   gd x2 12 <|
   cK (E d 370 [.ref 175, .int (gA h 178 (ix x2)), .long x5.toInt64] h) (Q d 337 82 [some (.ref 175), u1, some (.int x2), u3, u4, some (.int x5), some (.int s0)]) [] := by
  rw [← hs.1]
  exact (blkM (fun p => Nat.beq p 82) 13 60 _ _ _).trans rfl

set_option maxRecDepth 16384 in
theorem t_337_82 {d : Nat} {h : AH} (hs : Sh h) (x5 : Int32) (x6 : Int32) (u1 : Option Value) (u2 : Option Value) (u3 : Option Value) (u4 : Option Value) (s0 : Int32) :
    Q d 337 82 [some (.ref 175), u1, u2, u3, u4, some (.int x5), some (.int x6)] [.int s0] h =
  if s0 = nI 0 then
   cK (E d 365 [.ref 175, .int (nI 5)] h) (Q d 337 90 [some (.ref 175), u1, u2, u3, u4, some (.int x5), some (.int x6)]) []
  else
   gd x6 2000 <|
   some (none, sB h 182 (ix x6) x5.toInt64) := by
  rw [← hs.1]
  exact (blkM (fun p => Nat.beq p 90) 9 82 _ _ _).trans rfl

set_option maxRecDepth 16384 in
theorem t_337_90 {d : Nat} {h : AH} (hs : Sh h) (u0 : Option Value) (u1 : Option Value) (u2 : Option Value) (u3 : Option Value) (u4 : Option Value) (u5 : Option Value) (u6 : Option Value) :
    Q d 337 90 [u0, u1, u2, u3, u4, u5, u6] [] h =
  some (none, h) := by
  rw [← hs.1]
  exact (blkM (fun p => false) 2 90 _ _ _).trans rfl

/-! 338 PostRoom$Machine.slide(I)V -/
set_option maxRecDepth 16384 in
theorem t_338 {d : Nat} {h : AH} (hs : Sh h) (x1 : Int32) :
    E (d + 1) 338 [.ref 175, .int x1] h =
  cK (E d 364 [.ref 175, .int x1] h) (Q d 338 5 [some (.ref 175), some (.int x1), none, none, none, none, none, none, none, none]) [] := by
  rw [← hs.1]
  exact entL (l := [some (.ref 175), some (.int x1), none, none, none, none, none, none, none, none]) rfl rfl ((blkM (fun p => Nat.beq p 5) 4 0 _ _ _).trans rfl)

set_option maxRecDepth 16384 in
theorem t_338_5 {d : Nat} {h : AH} (hs : Sh h) (x1 : Int32) (u2 : Option Value) (u3 : Option Value) (u4 : Option Value) (u5 : Option Value) (u6 : Option Value) (u7 : Option Value) (u8 : Option Value) (u9 : Option Value) (s0 : Int32) :
    Q d 338 5 [some (.ref 175), some (.int x1), u2, u3, u4, u5, u6, u7, u8, u9] [.int s0] h =
  cK (E d 362 [.ref 175] h) (Q d 338 10 [some (.ref 175), some (.int x1), some (.int s0), u3, u4, u5, u6, u7, u8, u9]) [] := by
  rw [← hs.1]
  exact (blkM (fun p => Nat.beq p 10) 4 5 _ _ _).trans rfl

set_option maxRecDepth 16384 in
theorem t_338_10 {d : Nat} {h : AH} (hs : Sh h) (x1 : Int32) (x2 : Int32) (u3 : Option Value) (u4 : Option Value) (u5 : Option Value) (u6 : Option Value) (u7 : Option Value) (u8 : Option Value) (u9 : Option Value) (s0 : Int32) :
    Q d 338 10 [some (.ref 175), some (.int x1), some (.int x2), u3, u4, u5, u6, u7, u8, u9] [.int s0] h =
  if s0 = nI 0 then
   cK (E d 362 [.ref 175] (sI h 1545 175 ((gI h 1545 175) + (nI 1)))) (Q d 338 37 [some (.ref 175), some (.int x1), some (.int x2), some (.long 0), none, none, none, none, none, none]) []
  else
   cK (E d 361 [.ref 175, .int x1] h) (Q d 338 18 [some (.ref 175), some (.int x1), some (.int x2), u3, u4, u5, u6, u7, u8, u9]) [] := by
  rw [← hs.1]
  exact (blkM (fun p => Nat.beq p 18 || Nat.beq p 37) 12 10 _ _ _).trans rfl

set_option maxRecDepth 16384 in
theorem t_338_18 {d : Nat} {h : AH} (hs : Sh h) (x1 : Int32) (x2 : Int32) (u3 : Option Value) (u4 : Option Value) (u5 : Option Value) (u6 : Option Value) (u7 : Option Value) (u8 : Option Value) (u9 : Option Value) (s0 : Int64) :
    Q d 338 18 [some (.ref 175), some (.int x1), some (.int x2), u3, u4, u5, u6, u7, u8, u9] [.long s0] h =
  cK (E d 362 [.ref 175] (sI h 1545 175 ((gI h 1545 175) + (nI 1)))) (Q d 338 37 [some (.ref 175), some (.int x1), some (.int x2), some (.long s0), none, none, none, none, none, none]) [] := by
  rw [← hs.1]
  exact (blkM (fun p => Nat.beq p 37) 11 18 _ _ _).trans rfl

set_option maxRecDepth 16384 in
theorem t_338_37 {d : Nat} {h : AH} (hs : Sh h) (x1 : Int32) (x2 : Int32) (x3 : Int64) (u5 : Option Value) (u6 : Option Value) (u7 : Option Value) (u8 : Option Value) (u9 : Option Value) (s0 : Int32) :
    Q d 338 37 [some (.ref 175), some (.int x1), some (.int x2), some (.long x3), none, u5, u6, u7, u8, u9] [.int s0] h =
  if s0 = nI 0 then
   cK (E d 362 [.ref 175] h) (Q d 338 55 [some (.ref 175), some (.int x1), some (.int x2), some (.long x3), none, some (.int (nI 0)), none, none, none, none]) []
  else
   cK (E d 364 [.ref 175, .int x1] h) (Q d 338 45 [some (.ref 175), some (.int x1), some (.int x2), some (.long x3), none, u5, u6, u7, u8, u9]) [] := by
  rw [← hs.1]
  exact (blkM (fun p => Nat.beq p 45 || Nat.beq p 55) 6 37 _ _ _).trans rfl

set_option maxRecDepth 16384 in
theorem t_338_45 {d : Nat} {h : AH} (hs : Sh h) (x1 : Int32) (x2 : Int32) (x3 : Int64) (u5 : Option Value) (u6 : Option Value) (u7 : Option Value) (u8 : Option Value) (u9 : Option Value) (s0 : Int32) :
    Q d 338 45 [some (.ref 175), some (.int x1), some (.int x2), some (.long x3), none, u5, u6, u7, u8, u9] [.int s0] h =
  cK (E d 362 [.ref 175] h) (Q d 338 55 [some (.ref 175), some (.int x1), some (.int x2), some (.long x3), none, some (.int s0), none, none, none, none]) [] := by
  rw [← hs.1]
  exact (blkM (fun p => Nat.beq p 55) 5 45 _ _ _).trans rfl

set_option maxRecDepth 16384 in
theorem t_338_55 {d : Nat} {h : AH} (hs : Sh h) (x1 : Int32) (x2 : Int32) (x3 : Int64) (x5 : Int32) (u6 : Option Value) (u7 : Option Value) (u8 : Option Value) (u9 : Option Value) (s0 : Int32) :
    Q d 338 55 [some (.ref 175), some (.int x1), some (.int x2), some (.long x3), none, some (.int x5), u6, u7, u8, u9] [.int s0] h =
  if s0 = nI 0 then
   cK (E d 362 [.ref 175] (sI h 1545 175 ((gI h 1545 175) + (nI 1)))) (Q d 338 83 [some (.ref 175), some (.int x1), some (.int x2), some (.long x3), none, some (.int x5), some (.long 0), none, none, none]) []
  else
   cK (E d 361 [.ref 175, .int x1] h) (Q d 338 63 [some (.ref 175), some (.int x1), some (.int x2), some (.long x3), none, some (.int x5), u6, u7, u8, u9]) [] := by
  rw [← hs.1]
  exact (blkM (fun p => Nat.beq p 63 || Nat.beq p 83) 12 55 _ _ _).trans rfl

set_option maxRecDepth 16384 in
theorem t_338_63 {d : Nat} {h : AH} (hs : Sh h) (x1 : Int32) (x2 : Int32) (x3 : Int64) (x5 : Int32) (u6 : Option Value) (u7 : Option Value) (u8 : Option Value) (u9 : Option Value) (s0 : Int64) :
    Q d 338 63 [some (.ref 175), some (.int x1), some (.int x2), some (.long x3), none, some (.int x5), u6, u7, u8, u9] [.long s0] h =
  cK (E d 362 [.ref 175] (sI h 1545 175 ((gI h 1545 175) + (nI 1)))) (Q d 338 83 [some (.ref 175), some (.int x1), some (.int x2), some (.long x3), none, some (.int x5), some (.long s0), none, none, none]) [] := by
  rw [← hs.1]
  exact (blkM (fun p => Nat.beq p 83) 11 63 _ _ _).trans rfl

set_option maxRecDepth 16384 in
theorem t_338_83 {d : Nat} {h : AH} (hs : Sh h) (x1 : Int32) (x2 : Int32) (x3 : Int64) (x5 : Int32) (x6 : Int64) (u8 : Option Value) (u9 : Option Value) (s0 : Int32) :
    Q d 338 83 [some (.ref 175), some (.int x1), some (.int x2), some (.long x3), none, some (.int x5), some (.long x6), none, u8, u9] [.int s0] h =
  if s0 = nI 0 then
   cK (E d 362 [.ref 175] (sI h 1545 175 ((gI h 1545 175) + (nI 1)))) (Q d 338 111 [some (.ref 175), none, some (.int x2), some (.long x3), none, some (.int x5), some (.long x6), none, some (.long 0), none]) []
  else
   cK (E d 361 [.ref 175, .int x1] h) (Q d 338 91 [some (.ref 175), some (.int x1), some (.int x2), some (.long x3), none, some (.int x5), some (.long x6), none, u8, u9]) [] := by
  rw [← hs.1]
  exact (blkM (fun p => Nat.beq p 91 || Nat.beq p 111) 12 83 _ _ _).trans rfl

set_option maxRecDepth 16384 in
theorem t_338_91 {d : Nat} {h : AH} (hs : Sh h) (x2 : Int32) (x3 : Int64) (x5 : Int32) (x6 : Int64) (u1 : Option Value) (u8 : Option Value) (u9 : Option Value) (s0 : Int64) :
    Q d 338 91 [some (.ref 175), u1, some (.int x2), some (.long x3), none, some (.int x5), some (.long x6), none, u8, u9] [.long s0] h =
  cK (E d 362 [.ref 175] (sI h 1545 175 ((gI h 1545 175) + (nI 1)))) (Q d 338 111 [some (.ref 175), none, some (.int x2), some (.long x3), none, some (.int x5), some (.long x6), none, some (.long s0), none]) [] := by
  rw [← hs.1]
  exact (blkM (fun p => Nat.beq p 111) 11 91 _ _ _).trans rfl

set_option maxRecDepth 16384 in
theorem t_338_111 {d : Nat} {h : AH} (hs : Sh h) (x2 : Int32) (x3 : Int64) (x5 : Int32) (x6 : Int64) (x8 : Int64) (u1 : Option Value) (s0 : Int32) :
    Q d 338 111 [some (.ref 175), u1, some (.int x2), some (.long x3), none, some (.int x5), some (.long x6), none, some (.long x8), none] [.int s0] h =
  if s0 = nI 0 then
   some (none, h)
  else
   gd x2 12 <|
   if gA h 178 (ix x2) = nI 0 then
    cK (E d 365 [.ref 175, .int (nI 1)] h) (Q d 338 139 [some (.ref 175), none, none, none, none, none, none, none, none, none]) []
   else
    gd x5 12 <|
    if gA h 178 (ix x5) = nI 0 then
     cK (E d 365 [.ref 175, .int (nI 1)] h) (Q d 338 139 [some (.ref 175), none, none, none, none, none, none, none, none, none]) []
    else
     gd x2 12 <|
     gd x5 12 <|
     if gA h 178 (ix x2) = gA h 178 (ix x5) then
      cK (E d 371 [.ref 175, .int x2, .long x3, .long x8] h) (Q d 338 197 [some (.ref 175), none, some (.int x2), some (.long x3), none, some (.int x5), some (.long x6), none, some (.long x8), none]) []
     else
      gd x2 12 <|
      if gA h 178 (ix x2) < nI 9 then
       cK (E d 365 [.ref 175, .int (nI 2)] h) (Q d 338 186 [some (.ref 175), none, none, none, none, none, none, none, none, none]) []
      else
       gd x5 12 <|
       if gA h 178 (ix x5) < nI 9 then
        cK (E d 365 [.ref 175, .int (nI 2)] h) (Q d 338 186 [some (.ref 175), none, none, none, none, none, none, none, none, none]) []
       else
        cK (E d 371 [.ref 175, .int x2, .long x3, .long x8] h) (Q d 338 197 [some (.ref 175), none, some (.int x2), some (.long x3), none, some (.int x5), some (.long x6), none, some (.long x8), none]) [] := by
  rw [← hs.1]
  exact (blkM (fun p => Nat.beq p 139 || Nat.beq p 186 || Nat.beq p 197) 38 111 _ _ _).trans rfl

set_option maxRecDepth 16384 in
theorem t_338_139 {d : Nat} {h : AH} (hs : Sh h) (u0 : Option Value) (u1 : Option Value) (u2 : Option Value) (u3 : Option Value) (u4 : Option Value) (u5 : Option Value) (u6 : Option Value) (u7 : Option Value) (u8 : Option Value) (u9 : Option Value) :
    Q d 338 139 [u0, u1, u2, u3, u4, u5, u6, u7, u8, u9] [] h =
  Q d 338 255 [none, none, none, none, none, none, none, none, none, none] [] h := by
  rw [← hs.1]
  exact (blkM (fun p => Nat.beq p 255) 3 139 _ _ _).trans rfl

set_option maxRecDepth 16384 in
theorem t_338_186 {d : Nat} {h : AH} (hs : Sh h) (u0 : Option Value) (u1 : Option Value) (u2 : Option Value) (u3 : Option Value) (u4 : Option Value) (u5 : Option Value) (u6 : Option Value) (u7 : Option Value) (u8 : Option Value) (u9 : Option Value) :
    Q d 338 186 [u0, u1, u2, u3, u4, u5, u6, u7, u8, u9] [] h =
  Q d 338 255 [none, none, none, none, none, none, none, none, none, none] [] h := by
  rw [← hs.1]
  exact (blkM (fun p => Nat.beq p 255) 3 186 _ _ _).trans rfl

set_option maxRecDepth 16384 in
theorem t_338_197 {d : Nat} {h : AH} (hs : Sh h) (x2 : Int32) (x3 : Int64) (x5 : Int32) (x6 : Int64) (x8 : Int64) (u1 : Option Value) (s0 : Int32) :
    Q d 338 197 [some (.ref 175), u1, some (.int x2), some (.long x3), none, some (.int x5), some (.long x6), none, some (.long x8), none] [.int s0] h =
  if s0 = nI 0 then
   cK (E d 365 [.ref 175, .int (nI 3)] h) (Q d 338 218 [some (.ref 175), none, none, none, none, none, none, none, none, none]) []
  else
   cK (E d 371 [.ref 175, .int x5, .long x6, .long x8] h) (Q d 338 210 [some (.ref 175), u1, some (.int x2), some (.long x3), none, some (.int x5), some (.long x6), none, some (.long x8), none]) [] := by
  rw [← hs.1]
  exact (blkM (fun p => Nat.beq p 210 || Nat.beq p 218) 7 197 _ _ _).trans rfl

set_option maxRecDepth 16384 in
theorem t_338_255 {d : Nat} {h : AH} (hs : Sh h)  :
    Q d 338 255 [none, none, none, none, none, none, none, none, none, none] [] h =
  some (none, h) := by
  rw [← hs.1]
  exact (blkM (fun p => false) 2 255 _ _ _).trans rfl

set_option maxRecDepth 16384 in
theorem t_338_210 {d : Nat} {h : AH} (hs : Sh h) (x2 : Int32) (x3 : Int64) (x5 : Int32) (x6 : Int64) (x8 : Int64) (u1 : Option Value) (s0 : Int32) :
    Q d 338 210 [some (.ref 175), u1, some (.int x2), some (.long x3), none, some (.int x5), some (.long x6), none, some (.long x8), none] [.int s0] h =
  if s0 = nI 0 then
   cK (E d 365 [.ref 175, .int (nI 3)] h) (Q d 338 218 [some (.ref 175), none, none, none, none, none, none, none, none, none]) []
  else
   gd x2 12 <|
   gd x5 12 <|
   gd x5 12 <|
   cK (E d 372 [.ref 175, .int ((gA h 179 (ix x2)) + x3.toInt32), .int ((gA h 179 (ix x5)) + x6.toInt32), .int x8.toInt32, .int (gA h 178 (ix x5))] h) (Q d 338 255 [none, none, none, none, none, none, none, none, none, none]) [] := by
  rw [← hs.1]
  exact (blkM (fun p => Nat.beq p 218 || Nat.beq p 255) 24 210 _ _ _).trans rfl

set_option maxRecDepth 16384 in
theorem t_338_218 {d : Nat} {h : AH} (hs : Sh h) (u0 : Option Value) (u1 : Option Value) (u2 : Option Value) (u3 : Option Value) (u4 : Option Value) (u5 : Option Value) (u6 : Option Value) (u7 : Option Value) (u8 : Option Value) (u9 : Option Value) :
    Q d 338 218 [u0, u1, u2, u3, u4, u5, u6, u7, u8, u9] [] h =
  Q d 338 255 [none, none, none, none, none, none, none, none, none, none] [] h := by
  rw [← hs.1]
  exact (blkM (fun p => Nat.beq p 255) 3 218 _ _ _).trans rfl

/-! 339 PostRoom$Machine.bagItem(I)V -/
set_option maxRecDepth 16384 in
theorem t_339 {d : Nat} {h : AH} (hs : Sh h) (x1 : Int32) :
    E (d + 1) 339 [.ref 175, .int x1] h =
  cK (E d 363 [.ref 175, .int x1] h) (Q d 339 5 [some (.ref 175), some (.int x1), none, none, none]) [] := by
  rw [← hs.1]
  exact entL (l := [some (.ref 175), some (.int x1), none, none, none]) rfl rfl ((blkM (fun p => Nat.beq p 5) 4 0 _ _ _).trans rfl)

set_option maxRecDepth 16384 in
theorem t_339_5 {d : Nat} {h : AH} (hs : Sh h) (x1 : Int32) (u2 : Option Value) (u3 : Option Value) (u4 : Option Value) (s0 : Int32) :
    Q d 339 5 [some (.ref 175), some (.int x1), u2, u3, u4] [.int s0] h =
  cK (E d 362 [.ref 175] (sI h 1545 175 ((gI h 1545 175) + (nI 1)))) (Q d 339 20 [some (.ref 175), some (.int x1), some (.int s0), u3, u4]) [] := by
  rw [← hs.1]
  exact (blkM (fun p => Nat.beq p 20) 10 5 _ _ _).trans rfl

set_option maxRecDepth 16384 in
theorem t_339_20 {d : Nat} {h : AH} (hs : Sh h) (x1 : Int32) (x2 : Int32) (u3 : Option Value) (u4 : Option Value) (s0 : Int32) :
    Q d 339 20 [some (.ref 175), some (.int x1), some (.int x2), u3, u4] [.int s0] h =
  if s0 = nI 0 then
   some (none, h)
  else
   cK (E d 361 [.ref 175, .int x1] h) (Q d 339 29 [some (.ref 175), some (.int x1), some (.int x2), u3, u4]) [] := by
  rw [← hs.1]
  exact (blkM (fun p => Nat.beq p 29) 5 20 _ _ _).trans rfl

set_option maxRecDepth 16384 in
theorem t_339_29 {d : Nat} {h : AH} (hs : Sh h) (x2 : Int32) (u1 : Option Value) (u3 : Option Value) (u4 : Option Value) (s0 : Int64) :
    Q d 339 29 [some (.ref 175), u1, some (.int x2), u3, u4] [.long s0] h =
  cK (E d 362 [.ref 175] (sI h 1545 175 ((gI h 1545 175) + (nI 1)))) (Q d 339 44 [some (.ref 175), u1, some (.int x2), some (.long s0), none]) [] := by
  rw [← hs.1]
  exact (blkM (fun p => Nat.beq p 44) 10 29 _ _ _).trans rfl

set_option maxRecDepth 16384 in
theorem t_339_44 {d : Nat} {h : AH} (hs : Sh h) (x2 : Int32) (x3 : Int64) (u1 : Option Value) (s0 : Int32) :
    Q d 339 44 [some (.ref 175), u1, some (.int x2), some (.long x3), none] [.int s0] h =
  if s0 = nI 0 then
   some (none, h)
  else
   if x2 = (-1) then
    cK (E d 365 [.ref 175, .int (nI 1)] h) (Q d 339 58 [some (.ref 175), u1, some (.int x2), some (.long x3), none]) []
   else
    if lg_cmp x3 0 < nI 0 then
     cK (E d 365 [.ref 175, .int (nI 3)] h) (Q d 339 91 [some (.ref 175), none, none, none, none]) []
    else
     (gR h 2048 156).bind fun y1 =>
      ck (gC h y1) 2 <|
      (gR h 515 y1).bind fun y2 =>
       ck (gC h y2) 1 <|
       cK (E d 213 [.ref y2] h) (Q d 339 81 [some (.ref 175), u1, some (.int x2), some (.long x3), none]) [.long x3] := by
  rw [← hs.1]
  exact (blkM (fun p => Nat.beq p 58 || Nat.beq p 81 || Nat.beq p 91) 15 44 _ _ _).trans rfl

set_option maxRecDepth 16384 in
theorem t_339_58 {d : Nat} {h : AH} (hs : Sh h) (u0 : Option Value) (u1 : Option Value) (u2 : Option Value) (u3 : Option Value) (u4 : Option Value) :
    Q d 339 58 [u0, u1, u2, u3, u4] [] h =
  Q d 339 207 [none, none, none, none, none] [] h := by
  rw [← hs.1]
  exact (blkM (fun p => Nat.beq p 207) 3 58 _ _ _).trans rfl

set_option maxRecDepth 16384 in
theorem t_339_81 {d : Nat} {h : AH} (hs : Sh h) (x2 : Int32) (x3 : Int64) (u1 : Option Value) (s0 : Int64) (s1 : Int32) :
    Q d 339 81 [some (.ref 175), u1, some (.int x2), some (.long x3), none] [.int s1, .long s0] h =
  if lg_cmp s0 s1.toInt64 < nI 0 then
   cK (E d 212 [.ref 164, .int x2] h) (Q d 339 105 [some (.ref 175), u1, some (.int x2), some (.long x3), none]) []
  else
   cK (E d 365 [.ref 175, .int (nI 3)] h) (Q d 339 91 [some (.ref 175), none, none, none, none]) [] := by
  rw [← hs.1]
  exact (blkM (fun p => Nat.beq p 91 || Nat.beq p 105) 9 81 _ _ _).trans rfl

set_option maxRecDepth 16384 in
theorem t_339_91 {d : Nat} {h : AH} (hs : Sh h) (u0 : Option Value) (u1 : Option Value) (u2 : Option Value) (u3 : Option Value) (u4 : Option Value) :
    Q d 339 91 [u0, u1, u2, u3, u4] [] h =
  Q d 339 207 [none, none, none, none, none] [] h := by
  rw [← hs.1]
  exact (blkM (fun p => Nat.beq p 207) 3 91 _ _ _).trans rfl

set_option maxRecDepth 16384 in
theorem t_339_207 {d : Nat} {h : AH} (hs : Sh h)  :
    Q d 339 207 [none, none, none, none, none] [] h =
  some (none, h) := by
  rw [← hs.1]
  exact (blkM (fun p => false) 2 207 _ _ _).trans rfl

set_option maxRecDepth 16384 in
theorem t_339_105 {d : Nat} {h : AH} (hs : Sh h) (x2 : Int32) (x3 : Int64) (u1 : Option Value) (s0 : Nat) :
    Q d 339 105 [some (.ref 175), u1, some (.int x2), some (.long x3), none] [.ref s0] h =
  (ck (gC h s0) 5 <|
  ck (gC h s0) 5 <|
  if gI h 1288 s0 = nI 0 then
   cK (E d 212 [.ref 164, .int x2] h) (Q d 339 125 [some (.ref 175), u1, some (.int x2), some (.long x3), none]) []
  else
   cK (E d 365 [.ref 175, .int (nI 7)] h) (Q d 339 144 [some (.ref 175), none, none, none, none]) []) := by
  rw [← hs.1]
  exact (blkM (fun p => Nat.beq p 125 || Nat.beq p 144) 9 105 _ _ _).trans rfl

set_option maxRecDepth 16384 in
theorem t_339_125 {d : Nat} {h : AH} (hs : Sh h) (x2 : Int32) (x3 : Int64) (u1 : Option Value) (s0 : Nat) :
    Q d 339 125 [some (.ref 175), u1, some (.int x2), some (.long x3), none] [.ref s0] h =
  (ck (gC h s0) 5 <|
  ck (gC h s0) 5 <|
  if gI h 1289 s0 = gI h 1546 175 then
   (gR h 2048 156).bind fun y1 =>
    ck (gC h y1) 2 <|
    (gR h 515 y1).bind fun y2 =>
     ck (gC h y2) 1 <|
     cK (E d 212 [.ref y2, .int x3.toInt32] h) (Q d 339 162 [some (.ref 175), u1, some (.int x2), some (.long x3), none]) []
  else
   cK (E d 365 [.ref 175, .int (nI 7)] h) (Q d 339 144 [some (.ref 175), none, none, none, none]) []) := by
  rw [← hs.1]
  exact (blkM (fun p => Nat.beq p 144 || Nat.beq p 162) 13 125 _ _ _).trans rfl

set_option maxRecDepth 16384 in
theorem t_339_144 {d : Nat} {h : AH} (hs : Sh h) (u0 : Option Value) (u1 : Option Value) (u2 : Option Value) (u3 : Option Value) (u4 : Option Value) :
    Q d 339 144 [u0, u1, u2, u3, u4] [] h =
  Q d 339 207 [none, none, none, none, none] [] h := by
  rw [← hs.1]
  exact (blkM (fun p => Nat.beq p 207) 3 144 _ _ _).trans rfl

set_option maxRecDepth 16384 in
theorem t_339_162 {d : Nat} {h : AH} (hs : Sh h) (x2 : Int32) (x3 : Int64) (u1 : Option Value) (s0 : Nat) :
    Q d 339 162 [some (.ref 175), u1, some (.int x2), some (.long x3), none] [.ref s0] h =
  (ck (gC h s0) 3 <|
  ck (gC h s0) 3 <|
  if gI h 768 s0 = gI h 1546 175 then
   cK (E d 212 [.ref 164, .int x2] h) (Q d 339 199 [some (.ref 175), u1, some (.int x2), some (.long x3), none]) [.ref 156]
  else
   cK (E d 365 [.ref 175, .int (nI 8)] h) (Q d 339 181 [some (.ref 175), u1, some (.int x2), some (.long x3), none]) []) := by
  rw [← hs.1]
  exact (blkM (fun p => Nat.beq p 181 || Nat.beq p 199) 13 162 _ _ _).trans rfl

set_option maxRecDepth 16384 in
theorem t_339_181 {d : Nat} {h : AH} (hs : Sh h) (u0 : Option Value) (u1 : Option Value) (u2 : Option Value) (u3 : Option Value) (u4 : Option Value) :
    Q d 339 181 [u0, u1, u2, u3, u4] [] h =
  Q d 339 207 [none, none, none, none, none] [] h := by
  rw [← hs.1]
  exact (blkM (fun p => Nat.beq p 207) 3 181 _ _ _).trans rfl

set_option maxRecDepth 16384 in
theorem t_339_199 {d : Nat} {h : AH} (hs : Sh h) (x3 : Int64) (u0 : Option Value) (u1 : Option Value) (u2 : Option Value) (s0 : Nat) (s1 : Nat) :
    Q d 339 199 [u0, u1, u2, some (.long x3), none] [.ref s1, .ref s0] h =
  (ck (gC h s1) 5 <|
  ck (gC h s0) 8 <|
  cK (E d 255 [.ref s0, .ref s1, .int x3.toInt32] h) (Q d 339 207 [none, none, none, none, none]) []) := by
  rw [← hs.1]
  exact (blkM (fun p => Nat.beq p 207) 5 199 _ _ _).trans rfl

/-! 340 PostRoom$Machine.refuseOwn(I)V -/
set_option maxRecDepth 16384 in
theorem t_340 {d : Nat} {h : AH} (hs : Sh h) (x1 : Int32) :
    E (d + 1) 340 [.ref 175, .int x1] h =
  cK (E d 361 [.ref 175, .int x1] h) (Q d 340 5 [some (.ref 175), some (.int x1), none, none]) [] := by
  rw [← hs.1]
  exact entL (l := [some (.ref 175), some (.int x1), none, none]) rfl rfl ((blkM (fun p => Nat.beq p 5) 4 0 _ _ _).trans rfl)

set_option maxRecDepth 16384 in
theorem t_340_5 {d : Nat} {h : AH} (hs : Sh h) (u1 : Option Value) (u2 : Option Value) (u3 : Option Value) (s0 : Int64) :
    Q d 340 5 [some (.ref 175), u1, u2, u3] [.long s0] h =
  cK (E d 362 [.ref 175] h) (Q d 340 10 [some (.ref 175), klV u1, some (.long s0), none]) [] := by
  rw [← hs.1]
  exact (blkM (fun p => Nat.beq p 10) 4 5 _ _ _).trans rfl

set_option maxRecDepth 16384 in
theorem t_340_10 {d : Nat} {h : AH} (hs : Sh h) (x2 : Int64) (u1 : Option Value) (s0 : Int32) :
    Q d 340 10 [some (.ref 175), u1, some (.long x2), none] [.int s0] h =
  if s0 = nI 0 then
   Q d 340 24 [none, none, none, none] [] h
  else
   cK (E d 365 [.ref 175, .int (nI 9)] (sL h 1548 175 x2)) (Q d 340 24 [none, none, none, none]) [] := by
  rw [← hs.1]
  exact (blkM (fun p => Nat.beq p 24) 8 10 _ _ _).trans rfl

set_option maxRecDepth 16384 in
theorem t_340_24 {d : Nat} {h : AH} (hs : Sh h)  :
    Q d 340 24 [none, none, none, none] [] h =
  some (none, h) := by
  rw [← hs.1]
  exact (blkM (fun p => false) 2 24 _ _ _).trans rfl

/-! 341 PostRoom$Machine.choose(I)V -/
set_option maxRecDepth 16384 in
theorem t_341 {d : Nat} {h : AH} (hs : Sh h) (x1 : Int32) :
    E (d + 1) 341 [.ref 175, .int x1] h =
  cK (E d 361 [.ref 175, .int x1] h) (Q d 341 5 [some (.ref 175), some (.int x1), none]) [] := by
  rw [← hs.1]
  exact entL (l := [some (.ref 175), some (.int x1), none]) rfl rfl ((blkM (fun p => Nat.beq p 5) 4 0 _ _ _).trans rfl)

set_option maxRecDepth 16384 in
theorem t_341_5 {d : Nat} {h : AH} (hs : Sh h) (x1 : Int32) (u2 : Option Value) (s0 : Int64) :
    Q d 341 5 [some (.ref 175), some (.int x1), u2] [.long s0] h =
  if lg_cmp s0 0 = nI 0 then
   cK (E d 362 [.ref 175] h) (Q d 341 20 [some (.ref 175), some (.int x1), some (.int (nI 0))]) []
  else
   cK (E d 362 [.ref 175] h) (Q d 341 20 [some (.ref 175), some (.int x1), some (.int (nI 1))]) [] := by
  rw [← hs.1]
  exact (blkM (fun p => Nat.beq p 20) 9 5 _ _ _).trans rfl

set_option maxRecDepth 16384 in
theorem t_341_20 {d : Nat} {h : AH} (hs : Sh h) (x1 : Int32) (x2 : Int32) (s0 : Int32) :
    Q d 341 20 [some (.ref 175), some (.int x1), some (.int x2)] [.int s0] h =
  if s0 = nI 0 then
   some (none, h)
  else
   if x2 = nI 0 then
    cK (E d 374 [.ref 175] h) (Q d 341 40 [some (.ref 175), some (.int x1), some (.int x2)]) []
   else
    cK (E d 373 [.ref 175, .int x1] h) (Q d 341 33 [some (.ref 175), some (.int x1), some (.int x2)]) [] := by
  rw [← hs.1]
  exact (blkM (fun p => Nat.beq p 33 || Nat.beq p 40) 7 20 _ _ _).trans rfl

set_option maxRecDepth 16384 in
theorem t_341_33 {d : Nat} {h : AH} (hs : Sh h) (x1 : Int32) (x2 : Int32) :
    Q d 341 33 [some (.ref 175), some (.int x1), some (.int x2)] [] h =
  Q d 341 40 [some (.ref 175), some (.int x1), some (.int x2)] [] h := by
  rw [← hs.1]
  exact (blkM (fun p => Nat.beq p 40) 3 33 _ _ _).trans rfl

set_option maxRecDepth 16384 in
theorem t_341_40 {d : Nat} {h : AH} (hs : Sh h) (x1 : Int32) (x2 : Int32) :
    Q d 341 40 [some (.ref 175), some (.int x1), some (.int x2)] [] h =
  cK (E d 362 [.ref 175] h) (Q d 341 44 [some (.ref 175), some (.int x1), some (.int x2)]) [] := by
  rw [← hs.1]
  exact (blkM (fun p => Nat.beq p 44) 3 40 _ _ _).trans rfl

set_option maxRecDepth 16384 in
theorem t_341_44 {d : Nat} {h : AH} (hs : Sh h) (x1 : Int32) (x2 : Int32) (s0 : Int32) :
    Q d 341 44 [some (.ref 175), some (.int x1), some (.int x2)] [.int s0] h =
  if s0 = nI 0 then
   some (none, h)
  else
   cK (E d 328 [.ref 175] h) (Q d 341 51 [some (.ref 175), some (.int x1), some (.int x2)]) [] := by
  rw [← hs.1]
  exact (blkM (fun p => Nat.beq p 51) 4 44 _ _ _).trans rfl

set_option maxRecDepth 16384 in
theorem t_341_51 {d : Nat} {h : AH} (hs : Sh h) (x1 : Int32) (x2 : Int32) (s0 : Int32) :
    Q d 341 51 [some (.ref 175), some (.int x1), some (.int x2)] [.int s0] h =
  if s0 = nI 138 then
   if x2 = nI 0 then
    cK (E d 373 [.ref 175, .int x1] (sI h 1545 175 ((gI h 1545 175) + (nI 1)))) (Q d 341 84 [none, none, none]) []
   else
    cK (E d 374 [.ref 175] (sI h 1545 175 ((gI h 1545 175) + (nI 1)))) (Q d 341 76 [some (.ref 175), some (.int x1), some (.int x2)]) []
  else
   some (none, h) := by
  rw [← hs.1]
  exact (blkM (fun p => Nat.beq p 76 || Nat.beq p 84) 14 51 _ _ _).trans rfl

set_option maxRecDepth 16384 in
theorem t_341_76 {d : Nat} {h : AH} (hs : Sh h) (u0 : Option Value) (u1 : Option Value) (u2 : Option Value) :
    Q d 341 76 [u0, u1, u2] [] h =
  Q d 341 84 [none, none, none] [] h := by
  rw [← hs.1]
  exact (blkM (fun p => Nat.beq p 84) 3 76 _ _ _).trans rfl

set_option maxRecDepth 16384 in
theorem t_341_84 {d : Nat} {h : AH} (hs : Sh h)  :
    Q d 341 84 [none, none, none] [] h =
  some (none, h) := by
  rw [← hs.1]
  exact (blkM (fun p => false) 2 84 _ _ _).trans rfl

/-! 342 PostRoom$Machine.repeat(I)V -/
set_option maxRecDepth 16384 in
theorem t_342 {d : Nat} {h : AH} (hs : Sh h) (x1 : Int32) :
    E (d + 1) 342 [.ref 175, .int x1] h =
  Q d 342 7 [some (.ref 175), some (.int x1), some (.int (gI h 1545 175)), some (.int (nI 0)), none] [] h := by
  rw [← hs.1]
  exact entL (l := [some (.ref 175), some (.int x1), none, none, none]) rfl rfl ((blkM (fun p => Nat.beq p 7) 7 0 _ _ _).trans rfl)

set_option maxRecDepth 16384 in
theorem t_342_7 {d : Nat} {h : AH} (hs : Sh h) (x1 : Int32) (x2 : Int32) (x3 : Int32) :
    Q d 342 7 [some (.ref 175), some (.int x1), some (.int x2), some (.int x3), none] [] h =
  if (nI 20000) < x3 then
   some (none, h)
  else
   cK (E d 329 [.ref 175] (sI h 1545 175 x2)) (Q d 342 23 [some (.ref 175), some (.int x1), some (.int x2), some (.int x3), none]) [] := by
  rw [← hs.1]
  exact (blkM (fun p => Nat.beq p 23) 9 7 _ _ _).trans rfl

set_option maxRecDepth 16384 in
theorem t_342_23 {d : Nat} {h : AH} (hs : Sh h) (x1 : Int32) (x2 : Int32) (x3 : Int32) (u4 : Option Value) (s0 : Int32) :
    Q d 342 23 [some (.ref 175), some (.int x1), some (.int x2), some (.int x3), u4] [.int s0] h =
  if s0 = nI 0 then
   some (none, h)
  else
   cK (E d 361 [.ref 175, .int x1] h) (Q d 342 32 [some (.ref 175), some (.int x1), some (.int x2), some (.int x3), u4]) [] := by
  rw [← hs.1]
  exact (blkM (fun p => Nat.beq p 32) 5 23 _ _ _).trans rfl

set_option maxRecDepth 16384 in
theorem t_342_32 {d : Nat} {h : AH} (hs : Sh h) (x1 : Int32) (x2 : Int32) (x3 : Int32) (u4 : Option Value) (s0 : Int64) :
    Q d 342 32 [some (.ref 175), some (.int x1), some (.int x2), some (.int x3), u4] [.long s0] h =
  if lg_cmp s0 0 = nI 0 then
   cK (E d 362 [.ref 175] h) (Q d 342 48 [some (.ref 175), some (.int x1), some (.int x2), some (.int x3), some (.int (nI 0))]) []
  else
   cK (E d 362 [.ref 175] h) (Q d 342 48 [some (.ref 175), some (.int x1), some (.int x2), some (.int x3), some (.int (nI 1))]) [] := by
  rw [← hs.1]
  exact (blkM (fun p => Nat.beq p 48) 9 32 _ _ _).trans rfl

set_option maxRecDepth 16384 in
theorem t_342_48 {d : Nat} {h : AH} (hs : Sh h) (x1 : Int32) (x2 : Int32) (x3 : Int32) (x4 : Int32) (s0 : Int32) :
    Q d 342 48 [some (.ref 175), some (.int x1), some (.int x2), some (.int x3), some (.int x4)] [.int s0] h =
  if s0 = nI 0 then
   some (none, h)
  else
   if x4 = nI 0 then
    cK (E d 374 [.ref 175] h) (Q d 342 61 [some (.ref 175), some (.int x1), some (.int x2), some (.int x3), some (.int x4)]) []
   else
    cK (E d 373 [.ref 175, .int x1] h) (Q d 342 67 [some (.ref 175), some (.int x1), some (.int x2), some (.int x3), some (.int x4)]) [] := by
  rw [← hs.1]
  exact (blkM (fun p => Nat.beq p 61 || Nat.beq p 67) 7 48 _ _ _).trans rfl

set_option maxRecDepth 16384 in
theorem t_342_61 {d : Nat} {h : AH} (hs : Sh h) (u0 : Option Value) (u1 : Option Value) (u2 : Option Value) (u3 : Option Value) (u4 : Option Value) :
    Q d 342 61 [u0, u1, u2, u3, u4] [] h =
  some (none, h) := by
  rw [← hs.1]
  exact (blkM (fun p => false) 2 61 _ _ _).trans rfl

set_option maxRecDepth 16384 in
theorem t_342_67 {d : Nat} {h : AH} (hs : Sh h) (x1 : Int32) (x2 : Int32) (x3 : Int32) (u4 : Option Value) :
    Q d 342 67 [some (.ref 175), some (.int x1), some (.int x2), some (.int x3), u4] [] h =
  cK (E d 362 [.ref 175] h) (Q d 342 71 [some (.ref 175), some (.int x1), some (.int x2), some (.int x3), u4]) [] := by
  rw [← hs.1]
  exact (blkM (fun p => Nat.beq p 71) 3 67 _ _ _).trans rfl

set_option maxRecDepth 16384 in
theorem t_342_71 {d : Nat} {h : AH} (hs : Sh h) (x1 : Int32) (x2 : Int32) (x3 : Int32) (u4 : Option Value) (s0 : Int32) :
    Q d 342 71 [some (.ref 175), some (.int x1), some (.int x2), some (.int x3), u4] [.int s0] h =
  if s0 = nI 0 then
   some (none, h)
  else
   Q d 342 7 [some (.ref 175), some (.int x1), some (.int x2), some (.int (x3 + nI 1)), none] [] h := by
  rw [← hs.1]
  exact (blkM (fun p => Nat.beq p 7) 5 71 _ _ _).trans rfl

/-! 343 PostRoom$Machine.attempt(I)V -/
set_option maxRecDepth 16384 in
theorem t_343 {d : Nat} {h : AH} (hs : Sh h) (x1 : Int32) :
    E (d + 1) 343 [.ref 175, .int x1] h =
  cK (E d 373 [.ref 175, .int x1] h) (Q d 343 5 [some (.ref 175), some (.int x1), none, none, none, none]) [] := by
  rw [← hs.1]
  exact entL (l := [some (.ref 175), some (.int x1), none, none, none, none]) rfl rfl ((blkM (fun p => Nat.beq p 5) 4 0 _ _ _).trans rfl)

set_option maxRecDepth 16384 in
theorem t_343_5 {d : Nat} {h : AH} (hs : Sh h) (x1 : Int32) (u2 : Option Value) (u3 : Option Value) (u4 : Option Value) (u5 : Option Value) :
    Q d 343 5 [some (.ref 175), some (.int x1), u2, u3, u4, u5] [] h =
  if gI h 1547 175 < nI 1 then
   Q d 343 30 [some (.ref 175), some (.int x1), some (.int (gI h 1547 175)), some (.int (nI 0)), some (.int (nI 0)), none] [] h
  else
   if (nI 9) < gI h 1547 175 then
    Q d 343 30 [some (.ref 175), some (.int x1), some (.int (gI h 1547 175)), some (.int (nI 0)), some (.int (nI 0)), none] [] h
   else
    Q d 343 30 [some (.ref 175), some (.int x1), some (.int (gI h 1547 175)), some (.int (nI 1)), some (.int (nI 0)), none] [] h := by
  rw [← hs.1]
  exact (blkM (fun p => Nat.beq p 30) 16 5 _ _ _).trans rfl

set_option maxRecDepth 16384 in
theorem t_343_30 {d : Nat} {h : AH} (hs : Sh h) (x1 : Int32) (x2 : Int32) (x3 : Int32) (x4 : Int32) :
    Q d 343 30 [some (.ref 175), some (.int x1), some (.int x2), some (.int x3), some (.int x4), none] [] h =
  if x4 < nI 4000 then
   cK (E d 328 [.ref 175] h) (Q d 343 42 [some (.ref 175), some (.int x1), some (.int x2), some (.int x3), some (.int x4), none]) []
  else
   cK (E d 328 [.ref 175] h) (Q d 343 139 [some (.ref 175), some (.int x1), none, none, none, none]) [] := by
  rw [← hs.1]
  exact (blkM (fun p => Nat.beq p 42 || Nat.beq p 139) 6 30 _ _ _).trans rfl

set_option maxRecDepth 16384 in
theorem t_343_42 {d : Nat} {h : AH} (hs : Sh h) (x1 : Int32) (x2 : Int32) (x3 : Int32) (x4 : Int32) (u5 : Option Value) (s0 : Int32) :
    Q d 343 42 [some (.ref 175), some (.int x1), some (.int x2), some (.int x3), some (.int x4), u5] [.int s0] h =
  if s0 = nI 141 then
   (gR h 1544 175).bind fun y1 =>
    ck (gC h y1) 9 <|
    cK (E d 330 [.ref y1, .int ((gI h 1545 175) + (nI 1))] h) (Q d 343 61 [some (.ref 175), some (.int x1), some (.int x2), some (.int x3), some (.int x4), u5]) []
  else
   cK (E d 328 [.ref 175] h) (Q d 343 139 [some (.ref 175), some (.int x1), none, none, none, none]) [] := by
  rw [← hs.1]
  exact (blkM (fun p => Nat.beq p 61 || Nat.beq p 139) 10 42 _ _ _).trans rfl

set_option maxRecDepth 16384 in
theorem t_343_139 {d : Nat} {h : AH} (hs : Sh h) (x1 : Int32) (u2 : Option Value) (u3 : Option Value) (u4 : Option Value) (u5 : Option Value) (s0 : Int32) :
    Q d 343 139 [some (.ref 175), some (.int x1), u2, u3, u4, u5] [.int s0] h =
  if s0 = nI 142 then
   if gI h 1547 175 = nI 10 then
    Q d 343 178 [none, none, none, none, none, none] [] h
   else
    if gI h 1547 175 = nI 11 then
     Q d 343 178 [none, none, none, none, none, none] [] h
    else
     cK (E d 375 [.ref 175, .int x1] (sI h 1545 175 ((gI h 1545 175) + (nI 1)))) (Q d 343 178 [none, none, none, none, none, none]) []
  else
   Q d 343 178 [none, none, none, none, none, none] [] h := by
  rw [← hs.1]
  exact (blkM (fun p => Nat.beq p 178) 20 139 _ _ _).trans rfl

set_option maxRecDepth 16384 in
theorem t_343_61 {d : Nat} {h : AH} (hs : Sh h) (x1 : Int32) (x2 : Int32) (x3 : Int32) (x4 : Int32) (u5 : Option Value) (s0 : Int32) :
    Q d 343 61 [some (.ref 175), some (.int x1), some (.int x2), some (.int x3), some (.int x4), u5] [.int s0] h =
  if x3 = nI 0 then
   cK (E d 374 [.ref 175] (sI h 1545 175 ((gI h 1545 175) + (nI 2)))) (Q d 343 129 [some (.ref 175), some (.int x1), some (.int x2), some (.int x3), some (.int x4), none]) []
  else
   if s0 = x2 then
    if x2 = nI 9 then
     cK (E d 373 [.ref 175, .int x1] (sI (sB (sI h 1545 175 ((gI h 1545 175) + (nI 2))) 176 9 (gL h 1548 175)) 1547 175 (nI 0))) (Q d 343 122 [some (.ref 175), some (.int x1), some (.int x2), some (.int (nI 0)), some (.int x4), none]) []
    else
     cK (E d 373 [.ref 175, .int x1] (sI (sB (sI h 1545 175 ((gI h 1545 175) + (nI 2))) 176 9 x2.toInt64) 1547 175 (nI 0))) (Q d 343 122 [some (.ref 175), some (.int x1), some (.int x2), some (.int (nI 0)), some (.int x4), none]) []
   else
    if s0 = nI 0 then
     if x2 = nI 9 then
      cK (E d 373 [.ref 175, .int x1] (sI (sB (sI h 1545 175 ((gI h 1545 175) + (nI 2))) 176 9 (gL h 1548 175)) 1547 175 (nI 0))) (Q d 343 122 [some (.ref 175), some (.int x1), some (.int x2), some (.int (nI 0)), some (.int x4), none]) []
     else
      cK (E d 373 [.ref 175, .int x1] (sI (sB (sI h 1545 175 ((gI h 1545 175) + (nI 2))) 176 9 x2.toInt64) 1547 175 (nI 0))) (Q d 343 122 [some (.ref 175), some (.int x1), some (.int x2), some (.int (nI 0)), some (.int x4), none]) []
    else
     cK (E d 374 [.ref 175] (sI h 1545 175 ((gI h 1545 175) + (nI 2)))) (Q d 343 129 [some (.ref 175), some (.int x1), some (.int x2), some (.int x3), some (.int x4), none]) [] := by
  rw [← hs.1]
  exact (blkM (fun p => Nat.beq p 122 || Nat.beq p 129) 33 61 _ _ _).trans rfl

set_option maxRecDepth 16384 in
theorem t_343_178 {d : Nat} {h : AH} (hs : Sh h)  :
    Q d 343 178 [none, none, none, none, none, none] [] h =
  some (none, h) := by
  rw [← hs.1]
  exact (blkM (fun p => false) 2 178 _ _ _).trans rfl

set_option maxRecDepth 16384 in
theorem t_343_122 {d : Nat} {h : AH} (hs : Sh h) (x1 : Int32) (x2 : Int32) (x3 : Int32) (x4 : Int32) (u5 : Option Value) :
    Q d 343 122 [some (.ref 175), some (.int x1), some (.int x2), some (.int x3), some (.int x4), u5] [] h =
  Q d 343 129 [some (.ref 175), some (.int x1), some (.int x2), some (.int x3), some (.int x4), none] [] h := by
  rw [← hs.1]
  exact (blkM (fun p => Nat.beq p 129) 3 122 _ _ _).trans rfl

set_option maxRecDepth 16384 in
theorem t_343_129 {d : Nat} {h : AH} (hs : Sh h) (x1 : Int32) (x2 : Int32) (x3 : Int32) (x4 : Int32) :
    Q d 343 129 [some (.ref 175), some (.int x1), some (.int x2), some (.int x3), some (.int x4), none] [] h =
  Q d 343 30 [some (.ref 175), some (.int x1), some (.int x2), some (.int x3), some (.int (x4 + nI 1)), none] [] h := by
  rw [← hs.1]
  exact (blkM (fun p => Nat.beq p 30) 4 129 _ _ _).trans rfl

/-! 344 jdk/internal/util/Preconditions.checkIndex(IILjava/util/function/BiFunction;)I -/
set_option maxRecDepth 16384 in
theorem t_344 {d : Nat} {h : AH} (hs : Sh h) (x0 : Int32) (x1 : Int32) (x2 : Nat) :
    E (d + 1) 344 [.int x0, .int x1, .ref x2] h =
  if x0 < nI 0 then
   none
  else
   if x0 < x1 then
    some (some (.int x0), h)
   else
    none := by
  rw [← hs.1]
  exact entL (l := [some (.int x0), some (.int x1), some (.ref x2)]) rfl rfl ((blkM (fun p => false) 10 0 _ _ _).trans rfl)

set_option maxRecDepth 16384 in
theorem t_344n {d : Nat} {h : AH} (hs : Sh h) (x0 : Int32) (x1 : Int32) :
    E (d + 1) 344 [.int x0, .int x1, .null] h =
  if x0 < nI 0 then
   none
  else
   if x0 < x1 then
    some (some (.int x0), h)
   else
    none := by
  rw [← hs.1]
  exact entL (l := [some (.int x0), some (.int x1), some (.null)]) rfl rfl ((blkM (fun p => false) 10 0 _ _ _).trans rfl)

/-! 345 java/lang/Math.abs(I)I -/
set_option maxRecDepth 16384 in
theorem t_345 {d : Nat} {h : AH} (hs : Sh h) (x0 : Int32) :
    E (d + 1) 345 [.int x0] h =
  if x0 < nI 0 then
   some (some (.int (-x0)), h)
  else
   some (some (.int x0), h) := by
  rw [← hs.1]
  exact entL (l := [some (.int x0)]) rfl rfl ((blkM (fun p => false) 7 0 _ _ _).trans rfl)

/-! 346 PostRoom$Service.byRule(IJII)J -/
set_option maxRecDepth 16384 in
theorem t_346 {d : Nat} {h : AH} (hs : Sh h) (x0 : Nat) (x1 : Int32) (x2 : Int64) (x4 : Int32) (x5 : Int32) :
    E (d + 1) 346 [.ref x0, .int x1, .long x2, .int x4, .int x5] h =
  (ck (gC h x0) 10 <|
  (gR h 2565 x0).bind fun y1 =>
   ck (gC h y1) 60 <|
   gd x1 (gK h y1) <|
   ck (gC h x0) 10 <|
   (gR h 2564 x0).bind fun y2 =>
    ck (gC h y2) 60 <|
    gd x1 (gK h y2) <|
    if gA h y2 (ix x1) = nI 0 then
     some (some (.long (x2 + ((gA h y1 (ix x1)).toInt64))), h)
    else
     if gA h y2 (ix x1) = nI 1 then
     ck (gC h x0) 10 <|
     (gR h 2567 x0).bind fun y4 =>
      ck (gC h y4) 60 <|
      gd x1 (gK h y4) <|
      if gA h y4 (ix x1) < x4 then
       ck (gC h x0) 10 <|
       (gR h 2566 x0).bind fun y5 =>
        ck (gC h y5) 60 <|
        gd x1 (gK h y5) <|
        if (nI 0) < gA h y5 (ix x1) then
         ck (gC h x0) 10 <|
         (gR h 2567 x0).bind fun y6 =>
          ck (gC h y6) 60 <|
          gd x1 (gK h y6) <|
          ck (gC h x0) 10 <|
          (gR h 2566 x0).bind fun y7 =>
           ck (gC h y7) 60 <|
           gd x1 (gK h y7) <|
           ck (gC h x0) 10 <|
           (gR h 2566 x0).bind fun y8 =>
            ck (gC h y8) 60 <|
            gd x1 (gK h y8) <|
            dz (gA h y8 (ix x1)) <|
            some (some (.long (x2 + (((gA h y1 (ix x1)).toInt64) * (((((x4 - (gA h y6 (ix x1))) + (gA h y7 (ix x1))) - (nI 1)) / (gA h y8 (ix x1))).toInt64)))), h)
        else
         some (some (.long x2), h)
      else
       some (some (.long x2), h)
    else
     if gA h y2 (ix x1) = nI 2 then
     ck (gC h x0) 10 <|
     (gR h 2566 x0).bind fun y3 =>
      ck (gC h y3) 60 <|
      gd x1 (gK h y3) <|
      if x5 = gA h y3 (ix x1) then
       some (some (.long (x2 + ((gA h y1 (ix x1)).toInt64))), h)
      else
       some (some (.long x2), h)
    else
     if gA h y2 (ix x1) = nI 3 then
     if (nI 1) < x5 then
      some (some (.long (x2 + (((gA h y1 (ix x1)).toInt64) * ((x5 - (nI 1)).toInt64)))), h)
     else
      some (some (.long x2), h)
    else
     if gA h y2 (ix x1) = nI 4 then
     if (nI 0) < lg_cmp ((gA h y1 (ix x1)).toInt64) 0 then
      dZ ((gA h y1 (ix x1)).toInt64) <|
      some (some (.long ((((x2 + ((gA h y1 (ix x1)).toInt64)) - 1) / ((gA h y1 (ix x1)).toInt64)) * ((gA h y1 (ix x1)).toInt64))), h)
     else
      some (some (.long x2), h)
    else
     if gA h y2 (ix x1) = nI 5 then
     cK (E d 376 [.long x2, .long ((gA h y1 (ix x1)).toInt64)] h) (Q d 346 184 [some (.ref x0), some (.int x1), some (.long x2), none, some (.int x4), some (.int x5), some (.long ((gA h y1 (ix x1)).toInt64)), none]) []
    else
     dZ 100 <|
    some (some (.long (x2 - ((x2 * ((gA h y1 (ix x1)).toInt64)) / 100))), h)) := by
  rw [← hs.1]
  exact entL (l := [some (.ref x0), some (.int x1), some (.long x2), none, some (.int x4), some (.int x5), none, none]) rfl rfl ((blkM (fun p => Nat.beq p 184) 48 0 _ _ _).trans rfl)

set_option maxRecDepth 16384 in
theorem t_346_184 {d : Nat} {h : AH} (hs : Sh h) (u0 : Option Value) (u1 : Option Value) (u2 : Option Value) (u3 : Option Value) (u4 : Option Value) (u5 : Option Value) (u6 : Option Value) (u7 : Option Value) (s0 : Int64) :
    Q d 346 184 [u0, u1, u2, u3, u4, u5, u6, u7] [.long s0] h =
  some (some (.long s0), h) := by
  rw [← hs.1]
  exact (blkM (fun p => false) 2 184 _ _ _).trans rfl

/-! 347 java/util/ArrayList.add(Ljava/lang/Object;[Ljava/lang/Object;I)V -/
set_option maxRecDepth 16384 in
theorem t_347 {d : Nat} {h : AH} (hs : Sh h) (x0 : Nat) (x1 : Nat) (x2 : Nat) (x3 : Int32) :
    E (d + 1) 347 [.ref x0, .ref x1, .ref x2, .int x3] h =
  if 60 ≤ gC h x2 ∧ gC h x2 ≤ 66 then
   if x3 = nI (gK h x2) then
    ck (gC h x0) 1 <|
    cK (E d 377 [.ref x0] h) (Q d 347 10 [some (.ref x0), some (.ref x1), some (.ref x2), some (.int x3)]) []
   else
    cw (gC h x2) 65 x2 <|
    if gC h x1 ≠ 0 ∧ gC h x1 < 15 then
     gd x3 (gK h x2) <|
    ck (gC h x0) 1 <|
    some (none, sI (sO h x2 (ix x3) (some x1)) 258 x0 (x3 + (nI 1)))
    else
     none
  else
   none := by
  rw [← hs.1]
  exact entL (l := [some (.ref x0), some (.ref x1), some (.ref x2), some (.int x3)]) rfl rfl ((blkM (fun p => Nat.beq p 10) 15 0 _ _ _).trans rfl)

set_option maxRecDepth 16384 in
theorem t_347_10 {d : Nat} {h : AH} (hs : Sh h) (x0 : Nat) (x1 : Nat) (x3 : Int32) (u2 : Option Value) (s0 : Nat) :
    Q d 347 10 [some (.ref x0), some (.ref x1), u2, some (.int x3)] [.ref s0] h =
  (cw (gC h s0) 65 s0 <|
  if gC h x1 ≠ 0 ∧ gC h x1 < 15 then
   gd x3 (gK h s0) <|
  ck (gC h x0) 1 <|
  some (none, sI (sO h s0 (ix x3) (some x1)) 258 x0 (x3 + (nI 1)))
  else
   none) := by
  rw [← hs.1]
  exact (blkM (fun p => false) 12 10 _ _ _).trans rfl

/-! 348 java/util/AbstractCollection.<init>()V -/
set_option maxRecDepth 16384 in
theorem t_348 {d : Nat} {h : AH} (hs : Sh h) (x0 : Nat) :
    E (d + 1) 348 [.ref x0] h =
  some (none, h) := by
  rw [← hs.1]
  exact entL (l := [some (.ref x0)]) rfl rfl ((blkM (fun p => false) 4 0 _ _ _).trans rfl)

