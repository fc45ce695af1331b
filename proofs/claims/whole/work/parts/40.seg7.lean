/-! ===== THE METHODS, PIECE BY PIECE: 7 (made by wip/gen/gen40.py) ===== -/
/-! 246 PostRoom$Item.solve([I[II[[I)Z -/
set_option maxRecDepth 16384 in
theorem t_246 {d : Nat} {h : AH} (hs : Sh h) (x0 : Nat) (x1 : Nat) (x2 : Int32) (x3 : Nat) :
    E (d + 1) 246 [.ref x0, .ref x1, .int x2, .ref x3] h =
  Q d 246 3 [some (.ref x0), some (.ref x1), some (.int x2), some (.ref x3), some (.int (nI 0)), none] [] h := by
  rw [← hs.1]
  exact entL (l := [some (.ref x0), some (.ref x1), some (.int x2), some (.ref x3), none, none]) rfl rfl ((blkM (fun p => Nat.beq p 3) 4 0 _ _ _).trans rfl)

set_option maxRecDepth 16384 in
theorem t_246_3 {d : Nat} {h : AH} (hs : Sh h) (x0 : Nat) (x1 : Nat) (x2 : Int32) (x3 : Nat) (x4 : Int32) :
    Q d 246 3 [some (.ref x0), some (.ref x1), some (.int x2), some (.ref x3), some (.int x4), none] [] h =
  if x4 < nI 4 then
   Q d 246 12 [some (.ref x0), some (.ref x1), some (.int x2), some (.ref x3), some (.int x4), some (.int (nI 0))] [] h
  else
   Q d 246 77 [some (.ref x0), some (.ref x1), some (.int x2), some (.ref x3), some (.int (nI 0)), none] [] h := by
  rw [← hs.1]
  exact (blkM (fun p => Nat.beq p 12 || Nat.beq p 77) 7 3 _ _ _).trans rfl

set_option maxRecDepth 16384 in
theorem t_246_12 {d : Nat} {h : AH} (hs : Sh h) (x0 : Nat) (x1 : Nat) (x2 : Int32) (x3 : Nat) (x4 : Int32) (x5 : Int32) :
    Q d 246 12 [some (.ref x0), some (.ref x1), some (.int x2), some (.ref x3), some (.int x4), some (.int x5)] [] h =
  if x5 < x2 then
   ck (gC h x3) 66 <|
   gd x4 (gK h x3) <|
   (gO h x3 (ix x4)).bind fun y1 =>
    ck (gC h x1) 60 <|
    gd x5 (gK h x1) <|
    dz (nI 63) <|
    gd (((x4 + (nI 1)) * ((nI 10) - (gA h x1 (ix x5)))) - ((x4 + (nI 1)) * ((nI 10) - (gA h x1 (ix x5)))) / (nI 63) * (nI 63)) 63 <|
    cw (gC h y1) 60 y1 <|
    gd x5 (gK h y1) <|
    Q d 246 12 [some (.ref x0), some (.ref x1), some (.int x2), some (.ref x3), some (.int x4), some (.int (x5 + nI 1))] [] (sA h y1 (ix x5) (gA h 60 (ix (((x4 + (nI 1)) * ((nI 10) - (gA h x1 (ix x5)))) - ((x4 + (nI 1)) * ((nI 10) - (gA h x1 (ix x5)))) / (nI 63) * (nI 63)))))
  else
   ck (gC h x3) 66 <|
   gd x4 (gK h x3) <|
   (gO h x3 (ix x4)).bind fun y2 =>
    gd (x4 + (nI 1)) 63 <|
    cK (E d 300 [.ref x0, .int (gA h 60 (ix (x4 + (nI 1))))] h) (Q d 246 67 [some (.ref x0), some (.ref x1), some (.int x2), some (.ref x3), some (.int x4), some (.int x5)]) [.int x2, .ref y2] := by
  rw [← hs.1]
  exact (blkM (fun p => Nat.beq p 12 || Nat.beq p 67) 25 12 _ _ _).trans rfl

set_option maxRecDepth 16384 in
theorem t_246_77 {d : Nat} {h : AH} (hs : Sh h) (x0 : Nat) (x1 : Nat) (x2 : Int32) (x3 : Nat) (x4 : Int32) :
    Q d 246 77 [some (.ref x0), some (.ref x1), some (.int x2), some (.ref x3), some (.int x4), none] [] h =
  if x4 < x2 then
   cK (E d 301 [.ref x3, .int x4, .int x2] h) (Q d 246 90 [some (.ref x0), some (.ref x1), some (.int x2), some (.ref x3), some (.int x4), none]) []
  else
   Q d 246 104 [some (.ref x0), some (.ref x1), some (.int x2), some (.ref x3), some (.int x2), none] [] h := by
  rw [← hs.1]
  exact (blkM (fun p => Nat.beq p 90 || Nat.beq p 104) 8 77 _ _ _).trans rfl

set_option maxRecDepth 16384 in
theorem t_246_67 {d : Nat} {h : AH} (hs : Sh h) (x0 : Nat) (x1 : Nat) (x2 : Int32) (x3 : Nat) (x4 : Int32) (u5 : Option Value) (s0 : Nat) (s1 : Int32) (s2 : Int32) :
    Q d 246 67 [some (.ref x0), some (.ref x1), some (.int x2), some (.ref x3), some (.int x4), u5] [.int s2, .int s1, .ref s0] h =
  (cw (gC h s0) 60 s0 <|
  gd s1 (gK h s0) <|
  Q d 246 3 [some (.ref x0), some (.ref x1), some (.int x2), some (.ref x3), some (.int (x4 + nI 1)), none] [] (sA h s0 (ix s1) s2)) := by
  rw [← hs.1]
  exact (blkM (fun p => Nat.beq p 3) 5 67 _ _ _).trans rfl

set_option maxRecDepth 16384 in
theorem t_246_90 {d : Nat} {h : AH} (hs : Sh h) (x0 : Nat) (x1 : Nat) (x2 : Int32) (x3 : Nat) (x4 : Int32) (u5 : Option Value) (s0 : Int32) :
    Q d 246 90 [some (.ref x0), some (.ref x1), some (.int x2), some (.ref x3), some (.int x4), u5] [.int s0] h =
  if s0 = nI 0 then
   some (some (.int (nI 0)), h)
  else
   Q d 246 77 [some (.ref x0), some (.ref x1), some (.int x2), some (.ref x3), some (.int (x4 + nI 1)), none] [] h := by
  rw [← hs.1]
  exact (blkM (fun p => Nat.beq p 77) 5 90 _ _ _).trans rfl

set_option maxRecDepth 16384 in
theorem t_246_104 {d : Nat} {h : AH} (hs : Sh h) (x0 : Nat) (x1 : Nat) (x2 : Int32) (x3 : Nat) (x4 : Int32) :
    Q d 246 104 [some (.ref x0), some (.ref x1), some (.int x2), some (.ref x3), some (.int x4), none] [] h =
  if x4 < nI 4 then
   ck (gC h x3) 66 <|
   gd x4 (gK h x3) <|
   (gO h x3 (ix x4)).bind fun y1 =>
    ck (gC h y1) 60 <|
    gd x2 (gK h y1) <|
    if gA h y1 (ix x2) = nI 0 then
     Q d 246 104 [some (.ref x0), some (.ref x1), some (.int x2), some (.ref x3), some (.int (x4 + nI 1)), none] [] h
    else
     some (some (.int (nI 0)), h)
  else
   Q d 246 130 [some (.ref x0), some (.ref x1), some (.int x2), some (.ref x3), some (.int (nI 0)), none] [] h := by
  rw [← hs.1]
  exact (blkM (fun p => Nat.beq p 104 || Nat.beq p 130) 13 104 _ _ _).trans rfl

set_option maxRecDepth 16384 in
theorem t_246_130 {d : Nat} {h : AH} (hs : Sh h) (x0 : Nat) (x1 : Nat) (x2 : Int32) (x3 : Nat) (x4 : Int32) :
    Q d 246 130 [some (.ref x0), some (.ref x1), some (.int x2), some (.ref x3), some (.int x4), none] [] h =
  if x4 < x2 then
   ck (gC h x1) 60 <|
   gd x4 (gK h x1) <|
   ck (gC h x0) 60 <|
   gd (gA h x1 (ix x4)) (gK h x0) <|
   ck (gC h x3) 66 <|
   gd x4 (gK h x3) <|
   (gO h x3 (ix x4)).bind fun y1 =>
    ck (gC h y1) 60 <|
    gd x2 (gK h y1) <|
    cw (gC h x0) 60 x0 <|
    gd (gA h x1 (ix x4)) (gK h x0) <|
    Q d 246 130 [some (.ref x0), some (.ref x1), some (.int x2), some (.ref x3), some (.int (x4 + nI 1)), none] [] (sA h x0 (ix (gA h x1 (ix x4))) ((gA h x0 (ix (gA h x1 (ix x4)))) ^^^ (gA h y1 (ix x2))))
  else
   some (some (.int (nI 1)), h) := by
  rw [← hs.1]
  exact (blkM (fun p => Nat.beq p 130) 20 130 _ _ _).trans rfl

/-! 247 PostRoom$Item.mendOne([I[Z[II[[I)Z -/
set_option maxRecDepth 16384 in
theorem t_247 {d : Nat} {h : AH} (hs : Sh h) (x0 : Nat) (x1 : Nat) (x2 : Nat) (x3 : Int32) (x4 : Nat) :
    E (d + 1) 247 [.ref x0, .ref x1, .ref x2, .int x3, .ref x4] h =
  Q d 247 3 [some (.ref x0), some (.ref x1), some (.ref x2), some (.int x3), some (.ref x4), some (.int (nI 0))] [] h := by
  rw [← hs.1]
  exact entL (l := [some (.ref x0), some (.ref x1), some (.ref x2), some (.int x3), some (.ref x4), none]) rfl rfl ((blkM (fun p => Nat.beq p 3) 4 0 _ _ _).trans rfl)

set_option maxRecDepth 16384 in
theorem t_247_3 {d : Nat} {h : AH} (hs : Sh h) (x0 : Nat) (x1 : Nat) (x2 : Nat) (x3 : Int32) (x4 : Nat) (x5 : Int32) :
    Q d 247 3 [some (.ref x0), some (.ref x1), some (.ref x2), some (.int x3), some (.ref x4), some (.int x5)] [] h =
  if x5 < nI 11 then
   cw (gC h x2) 60 x2 <|
   gd x3 (gK h x2) <|
   ck (gC h x1) 63 <|
   gd x5 (gK h x1) <|
   if gA (sA h x2 (ix x3) x5) x1 (ix x5) = nI 0 then
    cK (E d 246 [.ref x0, .ref x2, .int (x3 + (nI 1)), .ref x4] (sA h x2 (ix x3) x5)) (Q d 247 32 [some (.ref x0), some (.ref x1), some (.ref x2), some (.int x3), some (.ref x4), some (.int x5)]) []
   else
    Q d 247 3 [some (.ref x0), some (.ref x1), some (.ref x2), some (.int x3), some (.ref x4), some (.int (x5 + nI 1))] [] (sA h x2 (ix x3) x5)
  else
   some (some (.int (nI 0)), h) := by
  rw [← hs.1]
  exact (blkM (fun p => Nat.beq p 3 || Nat.beq p 32) 19 3 _ _ _).trans rfl

set_option maxRecDepth 16384 in
theorem t_247_32 {d : Nat} {h : AH} (hs : Sh h) (x0 : Nat) (x1 : Nat) (x2 : Nat) (x3 : Int32) (x4 : Nat) (x5 : Int32) (s0 : Int32) :
    Q d 247 32 [some (.ref x0), some (.ref x1), some (.ref x2), some (.int x3), some (.ref x4), some (.int x5)] [.int s0] h =
  if s0 = nI 0 then
   Q d 247 3 [some (.ref x0), some (.ref x1), some (.ref x2), some (.int x3), some (.ref x4), some (.int (x5 + nI 1))] [] h
  else
   some (some (.int (nI 1)), h) := by
  rw [← hs.1]
  exact (blkM (fun p => Nat.beq p 3) 5 32 _ _ _).trans rfl

/-! 248 PostRoom$Item.mendTwo([I[Z[I[[I)Z -/
set_option maxRecDepth 16384 in
theorem t_248 {d : Nat} {h : AH} (hs : Sh h) (x0 : Nat) (x1 : Nat) (x2 : Nat) (x3 : Nat) :
    E (d + 1) 248 [.ref x0, .ref x1, .ref x2, .ref x3] h =
  Q d 248 3 [some (.ref x0), none, some (.ref x2), some (.ref x3), some (.int (nI 0)), none] [] h := by
  rw [← hs.1]
  exact entL (l := [some (.ref x0), some (.ref x1), some (.ref x2), some (.ref x3), none, none]) rfl rfl ((blkM (fun p => Nat.beq p 3) 4 0 _ _ _).trans rfl)

set_option maxRecDepth 16384 in
theorem t_248_3 {d : Nat} {h : AH} (hs : Sh h) (x0 : Nat) (x2 : Nat) (x3 : Nat) (x4 : Int32) :
    Q d 248 3 [some (.ref x0), none, some (.ref x2), some (.ref x3), some (.int x4), none] [] h =
  if x4 < nI 11 then
   Q d 248 16 [some (.ref x0), none, some (.ref x2), some (.ref x3), some (.int x4), some (.int (x4 + (nI 1)))] [] h
  else
   some (some (.int (nI 0)), h) := by
  rw [← hs.1]
  exact (blkM (fun p => Nat.beq p 16) 9 3 _ _ _).trans rfl

set_option maxRecDepth 16384 in
theorem t_248_16 {d : Nat} {h : AH} (hs : Sh h) (x0 : Nat) (x2 : Nat) (x3 : Nat) (x4 : Int32) (x5 : Int32) :
    Q d 248 16 [some (.ref x0), none, some (.ref x2), some (.ref x3), some (.int x4), some (.int x5)] [] h =
  if x5 < nI 11 then
   cw (gC h x2) 60 x2 <|
   gd (nI 0) (gK h x2) <|
   cw (gC h x2) 60 x2 <|
   gd (nI 1) (gK h x2) <|
   cK (E d 246 [.ref x0, .ref x2, .int (nI 2), .ref x3] (sA (sA h x2 0 x4) x2 1 x5)) (Q d 248 40 [some (.ref x0), none, some (.ref x2), some (.ref x3), some (.int x4), some (.int x5)]) []
  else
   Q d 248 3 [some (.ref x0), none, some (.ref x2), some (.ref x3), some (.int (x4 + nI 1)), none] [] h := by
  rw [← hs.1]
  exact (blkM (fun p => Nat.beq p 3 || Nat.beq p 40) 17 16 _ _ _).trans rfl

set_option maxRecDepth 16384 in
theorem t_248_40 {d : Nat} {h : AH} (hs : Sh h) (x0 : Nat) (x2 : Nat) (x3 : Nat) (x4 : Int32) (x5 : Int32) (u1 : Option Value) (s0 : Int32) :
    Q d 248 40 [some (.ref x0), u1, some (.ref x2), some (.ref x3), some (.int x4), some (.int x5)] [.int s0] h =
  if s0 = nI 0 then
   Q d 248 16 [some (.ref x0), none, some (.ref x2), some (.ref x3), some (.int x4), some (.int (x5 + nI 1))] [] h
  else
   some (some (.int (nI 1)), h) := by
  rw [← hs.1]
  exact (blkM (fun p => Nat.beq p 16) 5 40 _ _ _).trans rfl

/-! 249 PostRoom$Item.hasSigns([I)Z -/
set_option maxRecDepth 16384 in
theorem t_249 {d : Nat} {h : AH} (hs : Sh h) (x0 : Nat) (x1 : Nat) :
    E (d + 1) 249 [.ref x0, .ref x1] h =
  Q d 249 2 [some (.ref x0), some (.ref x1), some (.int (nI 0))] [] h := by
  rw [← hs.1]
  exact entL (l := [some (.ref x0), some (.ref x1), none]) rfl rfl ((blkM (fun p => Nat.beq p 2) 4 0 _ _ _).trans rfl)

set_option maxRecDepth 16384 in
theorem t_249_2 {d : Nat} {h : AH} (hs : Sh h) (x0 : Nat) (x1 : Nat) (x2 : Int32) :
    Q d 249 2 [some (.ref x0), some (.ref x1), some (.int x2)] [] h =
  if x2 < nI 11 then
   ck (gC h x0) 5 <|
   (gR h 1285 x0).bind fun y1 =>
    ck (gC h y1) 60 <|
    gd x2 (gK h y1) <|
    ck (gC h x1) 60 <|
    gd x2 (gK h x1) <|
    if gA h y1 (ix x2) = gA h x1 (ix x2) then
     Q d 249 2 [some (.ref x0), some (.ref x1), some (.int (x2 + nI 1))] [] h
    else
     some (some (.int (nI 0)), h)
  else
   some (some (.int (nI 1)), h) := by
  rw [← hs.1]
  exact (blkM (fun p => Nat.beq p 2) 15 2 _ _ _).trans rfl

/-! 250 PostRoom$Post.nextMinute(I)I -/
set_option maxRecDepth 16384 in
theorem t_250 {d : Nat} {h : AH} (hs : Sh h) (x1 : Int32) :
    E (d + 1) 250 [.ref 156, .int x1] h =
  Q d 250 4 [some (.ref 156), none, some (.int x1), some (.int (nI 0)), none] [] h := by
  rw [← hs.1]
  exact entL (l := [some (.ref 156), some (.int x1), none, none, none]) rfl rfl ((blkM (fun p => Nat.beq p 4) 6 0 _ _ _).trans rfl)

set_option maxRecDepth 16384 in
theorem t_250_4 {d : Nat} {h : AH} (hs : Sh h) (x2 : Int32) (x3 : Int32) :
    Q d 250 4 [some (.ref 156), none, some (.int x2), some (.int x3), none] [] h =
  cK (E d 213 [.ref 165] h) (Q d 250 12 [some (.ref 156), none, some (.int x2), some (.int x3), none]) [.int x3] := by
  rw [← hs.1]
  exact (blkM (fun p => Nat.beq p 12) 5 4 _ _ _).trans rfl

set_option maxRecDepth 16384 in
theorem t_250_12 {d : Nat} {h : AH} (hs : Sh h) (x2 : Int32) (x3 : Int32) (u1 : Option Value) (u4 : Option Value) (s0 : Int32) (s1 : Int32) :
    Q d 250 12 [some (.ref 156), u1, some (.int x2), some (.int x3), u4] [.int s1, .int s0] h =
  if s0 < s1 then
   cK (E d 212 [.ref 165, .int x3] h) (Q d 250 24 [some (.ref 156), u1, some (.int x2), some (.int x3), u4]) [.int x2]
  else
   Q d 250 42 [some (.ref 156), none, some (.int x2), some (.int (nI 0)), none] [] h := by
  rw [← hs.1]
  exact (blkM (fun p => Nat.beq p 24 || Nat.beq p 42) 7 12 _ _ _).trans rfl

set_option maxRecDepth 16384 in
theorem t_250_24 {d : Nat} {h : AH} (hs : Sh h) (x3 : Int32) (u1 : Option Value) (u2 : Option Value) (u4 : Option Value) (s0 : Int32) (s1 : Nat) :
    Q d 250 24 [some (.ref 156), u1, u2, some (.int x3), u4] [.ref s1, .int s0] h =
  (ck (gC h s1) 5 <|
  ck (gC h s1) 5 <|
  cK (E d 302 [.int s0, .int (gI h 1294 s1)] h) (Q d 250 33 [some (.ref 156), u1, u2, some (.int x3), u4]) []) := by
  rw [← hs.1]
  exact (blkM (fun p => Nat.beq p 33) 4 24 _ _ _).trans rfl

set_option maxRecDepth 16384 in
theorem t_250_42 {d : Nat} {h : AH} (hs : Sh h) (x2 : Int32) (x3 : Int32) :
    Q d 250 42 [some (.ref 156), none, some (.int x2), some (.int x3), none] [] h =
  (gR h 2048 156).bind fun y1 =>
   ck (gC h y1) 2 <|
   (gR h 515 y1).bind fun y2 =>
    ck (gC h y2) 1 <|
    cK (E d 213 [.ref y2] h) (Q d 250 53 [some (.ref 156), none, some (.int x2), some (.int x3), none]) [.int x3] := by
  rw [← hs.1]
  exact (blkM (fun p => Nat.beq p 53) 6 42 _ _ _).trans rfl

set_option maxRecDepth 16384 in
theorem t_250_33 {d : Nat} {h : AH} (hs : Sh h) (x3 : Int32) (u1 : Option Value) (u2 : Option Value) (u4 : Option Value) (s0 : Int32) :
    Q d 250 33 [some (.ref 156), u1, u2, some (.int x3), u4] [.int s0] h =
  Q d 250 4 [some (.ref 156), none, some (.int s0), some (.int (x3 + nI 1)), none] [] h := by
  rw [← hs.1]
  exact (blkM (fun p => Nat.beq p 4) 5 33 _ _ _).trans rfl

set_option maxRecDepth 16384 in
theorem t_250_53 {d : Nat} {h : AH} (hs : Sh h) (x2 : Int32) (x3 : Int32) (u1 : Option Value) (u4 : Option Value) (s0 : Int32) (s1 : Int32) :
    Q d 250 53 [some (.ref 156), u1, some (.int x2), some (.int x3), u4] [.int s1, .int s0] h =
  if s0 < s1 then
   (gR h 2048 156).bind fun y1 =>
    ck (gC h y1) 2 <|
    (gR h 515 y1).bind fun y2 =>
     ck (gC h y2) 1 <|
     cK (E d 212 [.ref y2, .int x3] h) (Q d 250 67 [some (.ref 156), u1, some (.int x2), some (.int x3), u4]) []
  else
   some (some (.int x2), h) := by
  rw [← hs.1]
  exact (blkM (fun p => Nat.beq p 67) 7 53 _ _ _).trans rfl

set_option maxRecDepth 16384 in
theorem t_250_67 {d : Nat} {h : AH} (hs : Sh h) (x2 : Int32) (x3 : Int32) (u1 : Option Value) (u4 : Option Value) (s0 : Nat) :
    Q d 250 67 [some (.ref 156), u1, some (.int x2), some (.int x3), u4] [.ref s0] h =
  (ck (gC h s0) 3 <|
  ck (gC h s0) 3 <|
  (gR h 775 s0).bind fun y1 =>
   ck (gC h y1) 1 <|
   cK (E d 303 [.ref y1] h) (Q d 250 80 [some (.ref 156), u1, some (.int x2), some (.int x3), some (.ref s0)]) []) := by
  rw [← hs.1]
  exact (blkM (fun p => Nat.beq p 80) 6 67 _ _ _).trans rfl

set_option maxRecDepth 16384 in
theorem t_250_80 {d : Nat} {h : AH} (hs : Sh h) (x2 : Int32) (x3 : Int32) (x4 : Nat) (u1 : Option Value) (s0 : Int32) :
    Q d 250 80 [some (.ref 156), u1, some (.int x2), some (.int x3), some (.ref x4)] [.int s0] h =
  if s0 = nI 0 then
   ck (gC h x4) 3 <|
   cK (E d 304 [.ref x4, .int (gI h 2051 156)] h) (Q d 250 93 [some (.ref 156), u1, some (.int x2), some (.int x3), some (.ref x4)]) [.int x2]
  else
   Q d 250 42 [some (.ref 156), none, some (.int x2), some (.int (x3 + nI 1)), none] [] h := by
  rw [← hs.1]
  exact (blkM (fun p => Nat.beq p 42 || Nat.beq p 93) 7 80 _ _ _).trans rfl

set_option maxRecDepth 16384 in
theorem t_250_93 {d : Nat} {h : AH} (hs : Sh h) (x3 : Int32) (u1 : Option Value) (u2 : Option Value) (u4 : Option Value) (s0 : Int32) (s1 : Int32) :
    Q d 250 93 [some (.ref 156), u1, u2, some (.int x3), u4] [.int s1, .int s0] h =
  cK (E d 302 [.int s0, .int s1] h) (Q d 250 96 [some (.ref 156), u1, u2, some (.int x3), u4]) [] := by
  rw [← hs.1]
  exact (blkM (fun p => Nat.beq p 96) 2 93 _ _ _).trans rfl

set_option maxRecDepth 16384 in
theorem t_250_96 {d : Nat} {h : AH} (hs : Sh h) (x3 : Int32) (u1 : Option Value) (u2 : Option Value) (u4 : Option Value) (s0 : Int32) :
    Q d 250 96 [some (.ref 156), u1, u2, some (.int x3), u4] [.int s0] h =
  Q d 250 42 [some (.ref 156), none, some (.int s0), some (.int (x3 + nI 1)), none] [] h := by
  rw [← hs.1]
  exact (blkM (fun p => Nat.beq p 42) 5 96 _ _ _).trans rfl

/-! 251 PostRoom$Post.letCome()V -/
set_option maxRecDepth 16384 in
theorem t_251 {d : Nat} {h : AH} (hs : Sh h)  :
    E (d + 1) 251 [.ref 156] h =
  cK (E d 213 [.ref 165] h) (Q d 251 9 [some (.ref 156), some (.int (nI 0)), none, none]) [] := by
  rw [← hs.1]
  exact entL (l := [some (.ref 156), none, none, none]) rfl rfl ((blkM (fun p => Nat.beq p 9) 6 0 _ _ _).trans rfl)

set_option maxRecDepth 16384 in
theorem t_251_9 {d : Nat} {h : AH} (hs : Sh h) (x1 : Int32) (u2 : Option Value) (u3 : Option Value) (s0 : Int32) :
    Q d 251 9 [some (.ref 156), some (.int x1), u2, u3] [.int s0] h =
  Q d 251 10 [some (.ref 156), some (.int x1), some (.int s0), none] [] h := by
  rw [← hs.1]
  exact (blkM (fun p => Nat.beq p 10) 3 9 _ _ _).trans rfl

set_option maxRecDepth 16384 in
theorem t_251_10 {d : Nat} {h : AH} (hs : Sh h) (x1 : Int32) (x2 : Int32) :
    Q d 251 10 [some (.ref 156), some (.int x1), some (.int x2), none] [] h =
  if (nI 0) < x2 then
   cK (E d 212 [.ref 165, .int x1] h) (Q d 251 22 [some (.ref 156), some (.int x1), some (.int x2), none]) []
  else
   some (none, h) := by
  rw [← hs.1]
  exact (blkM (fun p => Nat.beq p 22) 7 10 _ _ _).trans rfl

set_option maxRecDepth 16384 in
theorem t_251_22 {d : Nat} {h : AH} (hs : Sh h) (x1 : Int32) (x2 : Int32) (u3 : Option Value) (s0 : Nat) :
    Q d 251 22 [some (.ref 156), some (.int x1), some (.int x2), u3] [.ref s0] h =
  (ck (gC h s0) 5 <|
  ck (gC h s0) 5 <|
  if gI h 1294 s0 = gI h 2051 156 then
   cK (E d 256 [.ref 165, .int x1] h) (Q d 251 45 [some (.ref 156), some (.int x1), some (.int x2), some (.ref s0)]) []
  else
   Q d 251 10 [some (.ref 156), some (.int (x1 + nI 1)), some (.int (x2 + (-1))), none] [] h) := by
  rw [← hs.1]
  exact (blkM (fun p => Nat.beq p 10 || Nat.beq p 45) 12 22 _ _ _).trans rfl

set_option maxRecDepth 16384 in
theorem t_251_45 {d : Nat} {h : AH} (hs : Sh h) (x1 : Int32) (x2 : Int32) (x3 : Nat) (s0 : Nat) :
    Q d 251 45 [some (.ref 156), some (.int x1), some (.int x2), some (.ref x3)] [.ref s0] h =
  (ck (gC h x3) 5 <|
  ck (gC h x3) 5 <|
  cK (E d 257 [.ref x3, .int (nI 0), .int (gI h 1289 x3), .int (-1), .int (gI h 2051 156)] h) (Q d 251 60 [some (.ref 156), some (.int x1), some (.int x2), some (.ref x3)]) []) := by
  rw [← hs.1]
  exact (blkM (fun p => Nat.beq p 60) 10 45 _ _ _).trans rfl

set_option maxRecDepth 16384 in
theorem t_251_60 {d : Nat} {h : AH} (hs : Sh h) (x1 : Int32) (x2 : Int32) (x3 : Nat) :
    Q d 251 60 [some (.ref 156), some (.int x1), some (.int x2), some (.ref x3)] [] h =
  (gR h 2048 156).bind fun y1 =>
   ck (gC h y1) 2 <|
   (gR h 512 y1).bind fun y2 =>
    ck (gC h x3) 5 <|
    ck (gC h y2) 1 <|
    cK (E d 212 [.ref y2, .int (gI h 1289 x3)] h) (Q d 251 74 [some (.ref 156), some (.int x1), some (.int x2), some (.ref x3)]) [] := by
  rw [← hs.1]
  exact (blkM (fun p => Nat.beq p 74) 7 60 _ _ _).trans rfl

set_option maxRecDepth 16384 in
theorem t_251_74 {d : Nat} {h : AH} (hs : Sh h) (x1 : Int32) (x2 : Int32) (x3 : Nat) (s0 : Nat) :
    Q d 251 74 [some (.ref 156), some (.int x1), some (.int x2), some (.ref x3)] [.ref s0] h =
  (ck (gC h s0) 7 <|
  ck (gC h s0) 7 <|
  (gR h 1797 s0).bind fun y1 =>
   ck (gC h y1) 1 <|
   cK (E d 273 [.ref y1, .ref x3] h) (Q d 251 84 [some (.ref 156), some (.int x1), some (.int x2), some (.ref x3)]) []) := by
  rw [← hs.1]
  exact (blkM (fun p => Nat.beq p 84) 5 74 _ _ _).trans rfl

set_option maxRecDepth 16384 in
theorem t_251_84 {d : Nat} {h : AH} (hs : Sh h) (x1 : Int32) (x2 : Int32) (x3 : Nat) (s0 : Int32) :
    Q d 251 84 [some (.ref 156), some (.int x1), some (.int x2), some (.ref x3)] [.int s0] h =
  (ck (gC h x3) 5 <|
  cK (E d 258 [.ref 156, .ref x3, .int (nI 3), .int (gI h 1289 x3)] h) (Q d 251 95 [some (.ref 156), some (.int x1), some (.int x2), some (.ref x3)]) []) := by
  rw [← hs.1]
  exact (blkM (fun p => Nat.beq p 95) 8 84 _ _ _).trans rfl

set_option maxRecDepth 16384 in
theorem t_251_95 {d : Nat} {h : AH} (hs : Sh h) (x1 : Int32) (x2 : Int32) (u3 : Option Value) :
    Q d 251 95 [some (.ref 156), some (.int x1), some (.int x2), u3] [] h =
  Q d 251 10 [some (.ref 156), some (.int x1), some (.int (x2 + (-1))), none] [] h := by
  rw [← hs.1]
  exact (blkM (fun p => Nat.beq p 10) 5 95 _ _ _).trans rfl

/-! 252 PostRoom$Post.letGo()V -/
set_option maxRecDepth 16384 in
theorem t_252 {d : Nat} {h : AH} (hs : Sh h)  :
    E (d + 1) 252 [.ref 156] h =
  Q d 252 2 [some (.ref 156), some (.int (nI 0)), none, none, none] [] h := by
  rw [← hs.1]
  exact entL (l := [some (.ref 156), none, none, none, none]) rfl rfl ((blkM (fun p => Nat.beq p 2) 4 0 _ _ _).trans rfl)

set_option maxRecDepth 16384 in
theorem t_252_2 {d : Nat} {h : AH} (hs : Sh h) (x1 : Int32) :
    Q d 252 2 [some (.ref 156), some (.int x1), none, none, none] [] h =
  (gR h 2048 156).bind fun y1 =>
   ck (gC h y1) 2 <|
   (gR h 515 y1).bind fun y2 =>
    ck (gC h y2) 1 <|
    cK (E d 213 [.ref y2] h) (Q d 252 13 [some (.ref 156), some (.int x1), none, none, none]) [.int x1] := by
  rw [← hs.1]
  exact (blkM (fun p => Nat.beq p 13) 6 2 _ _ _).trans rfl

set_option maxRecDepth 16384 in
theorem t_252_13 {d : Nat} {h : AH} (hs : Sh h) (x1 : Int32) (u2 : Option Value) (u3 : Option Value) (u4 : Option Value) (s0 : Int32) (s1 : Int32) :
    Q d 252 13 [some (.ref 156), some (.int x1), u2, u3, u4] [.int s1, .int s0] h =
  if s0 < s1 then
   (gR h 2048 156).bind fun y1 =>
    ck (gC h y1) 2 <|
    (gR h 515 y1).bind fun y2 =>
     ck (gC h y2) 1 <|
     cK (E d 212 [.ref y2, .int x1] h) (Q d 252 27 [some (.ref 156), some (.int x1), u2, u3, u4]) []
  else
   some (none, h) := by
  rw [← hs.1]
  exact (blkM (fun p => Nat.beq p 27) 7 13 _ _ _).trans rfl

set_option maxRecDepth 16384 in
theorem t_252_27 {d : Nat} {h : AH} (hs : Sh h) (x1 : Int32) (u2 : Option Value) (u3 : Option Value) (u4 : Option Value) (s0 : Nat) :
    Q d 252 27 [some (.ref 156), some (.int x1), u2, u3, u4] [.ref s0] h =
  (ck (gC h s0) 3 <|
  Q d 252 33 [some (.ref 156), some (.int x1), some (.ref s0), some (.int (nI 0)), none] [] h) := by
  rw [← hs.1]
  exact (blkM (fun p => Nat.beq p 33) 6 27 _ _ _).trans rfl

set_option maxRecDepth 16384 in
theorem t_252_33 {d : Nat} {h : AH} (hs : Sh h) (x1 : Int32) (x2 : Nat) (x3 : Int32) :
    Q d 252 33 [some (.ref 156), some (.int x1), some (.ref x2), some (.int x3), none] [] h =
  (ck (gC h x2) 3 <|
  cK (E d 305 [.ref x2, .int (gI h 2051 156)] h) (Q d 252 41 [some (.ref 156), some (.int x1), some (.ref x2), some (.int x3), none]) []) := by
  rw [← hs.1]
  exact (blkM (fun p => Nat.beq p 41) 5 33 _ _ _).trans rfl

set_option maxRecDepth 16384 in
theorem t_252_41 {d : Nat} {h : AH} (hs : Sh h) (x1 : Int32) (x2 : Nat) (x3 : Int32) (u4 : Option Value) (s0 : Int32) :
    Q d 252 41 [some (.ref 156), some (.int x1), some (.ref x2), some (.int x3), u4] [.int s0] h =
  if s0 = nI 0 then
   Q d 252 2 [some (.ref 156), some (.int (x1 + nI 1)), none, none, none] [] h
  else
   ck (gC h x2) 3 <|
   if x3 < gI h 774 x2 then
    ck (gC h x2) 3 <|
    (gR h 775 x2).bind fun y1 =>
     ck (gC h y1) 1 <|
     cK (E d 303 [.ref y1] h) (Q d 252 59 [some (.ref 156), some (.int x1), some (.ref x2), some (.int x3), u4]) []
   else
    Q d 252 2 [some (.ref 156), some (.int (x1 + nI 1)), none, none, none] [] h := by
  rw [← hs.1]
  exact (blkM (fun p => Nat.beq p 2 || Nat.beq p 59) 9 41 _ _ _).trans rfl

set_option maxRecDepth 16384 in
theorem t_252_59 {d : Nat} {h : AH} (hs : Sh h) (x1 : Int32) (x2 : Nat) (x3 : Int32) (u4 : Option Value) (s0 : Int32) :
    Q d 252 59 [some (.ref 156), some (.int x1), some (.ref x2), some (.int x3), u4] [.int s0] h =
  if s0 = nI 0 then
   ck (gC h x2) 3 <|
   (gR h 775 x2).bind fun y1 =>
    ck (gC h y1) 1 <|
    cK (E d 212 [.ref y1, .int (nI 0)] h) (Q d 252 70 [some (.ref 156), some (.int x1), some (.ref x2), some (.int x3), u4]) []
  else
   Q d 252 2 [some (.ref 156), some (.int (x1 + nI 1)), none, none, none] [] h := by
  rw [← hs.1]
  exact (blkM (fun p => Nat.beq p 2 || Nat.beq p 70) 6 59 _ _ _).trans rfl

set_option maxRecDepth 16384 in
theorem t_252_70 {d : Nat} {h : AH} (hs : Sh h) (x1 : Int32) (x2 : Nat) (x3 : Int32) (u4 : Option Value) (s0 : Nat) :
    Q d 252 70 [some (.ref 156), some (.int x1), some (.ref x2), some (.int x3), u4] [.ref s0] h =
  (ck (gC h s0) 5 <|
  ck (gC h x2) 3 <|
  (gR h 775 x2).bind fun y1 =>
   ck (gC h y1) 1 <|
   cK (E d 256 [.ref y1, .int (nI 0)] h) (Q d 252 83 [some (.ref 156), some (.int x1), some (.ref x2), some (.int x3), some (.ref s0)]) []) := by
  rw [← hs.1]
  exact (blkM (fun p => Nat.beq p 83) 7 70 _ _ _).trans rfl

set_option maxRecDepth 16384 in
theorem t_252_83 {d : Nat} {h : AH} (hs : Sh h) (x1 : Int32) (x2 : Nat) (x3 : Int32) (x4 : Nat) (s0 : Nat) :
    Q d 252 83 [some (.ref 156), some (.int x1), some (.ref x2), some (.int x3), some (.ref x4)] [.ref s0] h =
  (ck (gC h x2) 3 <|
  ck (gC h x4) 5 <|
  cK (E d 257 [.ref x4, .int (nI 2), .int (gI h 769 x2), .int x1, .int (gI h 2051 156)] h) (Q d 252 99 [some (.ref 156), some (.int x1), some (.ref x2), some (.int x3), some (.ref x4)]) []) := by
  rw [← hs.1]
  exact (blkM (fun p => Nat.beq p 99) 10 83 _ _ _).trans rfl

set_option maxRecDepth 16384 in
theorem t_252_99 {d : Nat} {h : AH} (hs : Sh h) (x1 : Int32) (x2 : Nat) (x3 : Int32) (x4 : Nat) :
    Q d 252 99 [some (.ref 156), some (.int x1), some (.ref x2), some (.int x3), some (.ref x4)] [] h =
  (ck (gC h x2) 3 <|
  ck (gC h x4) 5 <|
  cK (E d 273 [.ref 165, .ref x4] (sI h 1294 x4 ((gI h 2051 156) + (gI h 773 x2)))) (Q d 252 122 [some (.ref 156), some (.int x1), some (.ref x2), some (.int x3), some (.ref x4)]) []) := by
  rw [← hs.1]
  exact (blkM (fun p => Nat.beq p 122) 12 99 _ _ _).trans rfl

set_option maxRecDepth 16384 in
theorem t_252_122 {d : Nat} {h : AH} (hs : Sh h) (x1 : Int32) (x2 : Nat) (x3 : Int32) (x4 : Nat) (s0 : Int32) :
    Q d 252 122 [some (.ref 156), some (.int x1), some (.ref x2), some (.int x3), some (.ref x4)] [.int s0] h =
  (ck (gC h x2) 3 <|
  cK (E d 258 [.ref 156, .ref x4, .int (nI 2), .int (gI h 768 x2)] h) (Q d 252 134 [some (.ref 156), some (.int x1), some (.ref x2), some (.int x3), some (.ref x4)]) []) := by
  rw [← hs.1]
  exact (blkM (fun p => Nat.beq p 134) 8 122 _ _ _).trans rfl

set_option maxRecDepth 16384 in
theorem t_252_134 {d : Nat} {h : AH} (hs : Sh h) (x1 : Int32) (x2 : Nat) (x3 : Int32) (u4 : Option Value) :
    Q d 252 134 [some (.ref 156), some (.int x1), some (.ref x2), some (.int x3), u4] [] h =
  Q d 252 33 [some (.ref 156), some (.int x1), some (.ref x2), some (.int (x3 + nI 1)), none] [] h := by
  rw [← hs.1]
  exact (blkM (fun p => Nat.beq p 33) 4 134 _ _ _).trans rfl

/-! 253 PostRoom$Post.workOutWays(I)V -/
set_option maxRecDepth 16384 in
theorem t_253 {d : Nat} {h : AH} (hs : Sh h) (x1 : Int32) :
    E (d + 1) 253 [.ref 156, .int x1] h =
  if gI h 2059 156 = x1 then
   if gI h 2060 156 = gI h 2051 156 then
    some (none, h)
   else
    cK (E d 241 [.ref 168, .int (nI 2147483647)] (sI (sI h 2059 156 x1) 2060 156 (gI h 2051 156))) (Q d 253 42 [some (.ref 156), some (.int x1), none]) []
  else
   cK (E d 241 [.ref 168, .int (nI 2147483647)] (sI (sI h 2059 156 x1) 2060 156 (gI h 2051 156))) (Q d 253 42 [some (.ref 156), some (.int x1), none]) [] := by
  rw [← hs.1]
  exact entL (l := [some (.ref 156), some (.int x1), none]) rfl rfl ((blkM (fun p => Nat.beq p 42) 21 0 _ _ _).trans rfl)

set_option maxRecDepth 16384 in
theorem t_253_42 {d : Nat} {h : AH} (hs : Sh h) (x1 : Int32) (u2 : Option Value) :
    Q d 253 42 [some (.ref 156), some (.int x1), u2] [] h =
  cK (E d 241 [.ref 169, .int (-1)] h) (Q d 253 50 [some (.ref 156), some (.int x1), u2]) [] := by
  rw [← hs.1]
  exact (blkM (fun p => Nat.beq p 50) 5 42 _ _ _).trans rfl

set_option maxRecDepth 16384 in
theorem t_253_50 {d : Nat} {h : AH} (hs : Sh h) (x1 : Int32) (u2 : Option Value) :
    Q d 253 50 [some (.ref 156), some (.int x1), u2] [] h =
  Q d 253 52 [some (.ref 156), some (.int x1), some (.int (nI 0))] [] h := by
  rw [← hs.1]
  exact (blkM (fun p => Nat.beq p 52) 4 50 _ _ _).trans rfl

set_option maxRecDepth 16384 in
theorem t_253_52 {d : Nat} {h : AH} (hs : Sh h) (x1 : Int32) (x2 : Int32) :
    Q d 253 52 [some (.ref 156), some (.int x1), some (.int x2)] [] h =
  (gR h 2048 156).bind fun y1 =>
   ck (gC h y1) 2 <|
   (gR h 515 y1).bind fun y2 =>
    ck (gC h y2) 1 <|
    cK (E d 213 [.ref y2] h) (Q d 253 63 [some (.ref 156), some (.int x1), some (.int x2)]) [.int x2] := by
  rw [← hs.1]
  exact (blkM (fun p => Nat.beq p 63) 6 52 _ _ _).trans rfl

set_option maxRecDepth 16384 in
theorem t_253_63 {d : Nat} {h : AH} (hs : Sh h) (x1 : Int32) (x2 : Int32) (s0 : Int32) (s1 : Int32) :
    Q d 253 63 [some (.ref 156), some (.int x1), some (.int x2)] [.int s1, .int s0] h =
  if s0 < s1 then
   (gR h 2048 156).bind fun y1 =>
    ck (gC h y1) 2 <|
    (gR h 515 y1).bind fun y2 =>
     ck (gC h y2) 1 <|
     cK (E d 212 [.ref y2, .int x2] h) (Q d 253 77 [some (.ref 156), some (.int x1), some (.int x2)]) []
  else
   gd x1 16 <|
   some (none, sA h 169 (ix x1) (-1)) := by
  rw [← hs.1]
  exact (blkM (fun p => Nat.beq p 77) 8 63 _ _ _).trans rfl

set_option maxRecDepth 16384 in
theorem t_253_77 {d : Nat} {h : AH} (hs : Sh h) (x1 : Int32) (x2 : Int32) (s0 : Nat) :
    Q d 253 77 [some (.ref 156), some (.int x1), some (.int x2)] [.ref s0] h =
  (ck (gC h s0) 3 <|
  ck (gC h s0) 3 <|
  if gI h 768 s0 = x1 then
   (gR h 2048 156).bind fun y1 =>
    ck (gC h y1) 2 <|
    (gR h 515 y1).bind fun y2 =>
     ck (gC h y2) 1 <|
     cK (E d 212 [.ref y2, .int x2] h) (Q d 253 99 [some (.ref 156), some (.int x1), some (.int x2)]) [.ref 156]
  else
   Q d 253 110 [some (.ref 156), some (.int x1), some (.int x2)] [] h) := by
  rw [← hs.1]
  exact (blkM (fun p => Nat.beq p 99 || Nat.beq p 110) 11 77 _ _ _).trans rfl

set_option maxRecDepth 16384 in
theorem t_253_99 {d : Nat} {h : AH} (hs : Sh h) (x1 : Int32) (x2 : Int32) (s0 : Nat) (s1 : Nat) :
    Q d 253 99 [some (.ref 156), some (.int x1), some (.int x2)] [.ref s1, .ref s0] h =
  (ck (gC h s1) 3 <|
  ck (gC h s0) 8 <|
  cK (E d 306 [.ref s0, .ref s1] h) (Q d 253 105 [some (.ref 156), some (.int x1), some (.int x2)]) []) := by
  rw [← hs.1]
  exact (blkM (fun p => Nat.beq p 105) 3 99 _ _ _).trans rfl

set_option maxRecDepth 16384 in
theorem t_253_110 {d : Nat} {h : AH} (hs : Sh h) (x1 : Int32) (x2 : Int32) :
    Q d 253 110 [some (.ref 156), some (.int x1), some (.int x2)] [] h =
  Q d 253 52 [some (.ref 156), some (.int x1), some (.int (x2 + nI 1))] [] h := by
  rw [← hs.1]
  exact (blkM (fun p => Nat.beq p 52) 4 110 _ _ _).trans rfl

set_option maxRecDepth 16384 in
theorem t_253_105 {d : Nat} {h : AH} (hs : Sh h) (x1 : Int32) (x2 : Int32) :
    Q d 253 105 [some (.ref 156), some (.int x1), some (.int x2)] [] h =
  cK (E d 307 [.ref 156, .int x2] h) (Q d 253 110 [some (.ref 156), some (.int x1), some (.int x2)]) [] := by
  rw [← hs.1]
  exact (blkM (fun p => Nat.beq p 110) 4 105 _ _ _).trans rfl

/-! 254 PostRoom$Post.goal(LPostRoom$Item;)I -/
set_option maxRecDepth 16384 in
theorem t_254 {d : Nat} {h : AH} (hs : Sh h) (x1 : Nat) :
    E (d + 1) 254 [.ref 156, .ref x1] h =
  (gR h 2048 156).bind fun y1 =>
   ck (gC h x1) 5 <|
   ck (gC h y1) 2 <|
   cK (E d 207 [.ref y1, .int (gI h 1286 x1)] h) (Q d 254 11 [some (.ref 156), some (.ref x1)]) [] := by
  rw [← hs.1]
  exact entL (l := [some (.ref 156), some (.ref x1)]) rfl rfl ((blkM (fun p => Nat.beq p 11) 6 0 _ _ _).trans rfl)

set_option maxRecDepth 16384 in
theorem t_254_11 {d : Nat} {h : AH} (hs : Sh h) (x1 : Nat) (s0 : Int32) :
    Q d 254 11 [some (.ref 156), some (.ref x1)] [.int s0] h =
  if s0 = nI 0 then
   ck (gC h x1) 5 <|
   some (some (.int (gI h 1283 x1)), h)
  else
   (gR h 2048 156).bind fun y1 =>
    ck (gC h y1) 2 <|
    (gR h 513 y1).bind fun y2 =>
     ck (gC h x1) 5 <|
     ck (gC h y2) 1 <|
     cK (E d 212 [.ref y2, .int (gI h 1286 x1)] h) (Q d 254 28 [some (.ref 156), some (.ref x1)]) [] := by
  rw [← hs.1]
  exact (blkM (fun p => Nat.beq p 28) 8 11 _ _ _).trans rfl

set_option maxRecDepth 16384 in
theorem t_254_28 {d : Nat} {h : AH} (hs : Sh h) (u0 : Option Value) (u1 : Option Value) (s0 : Nat) :
    Q d 254 28 [u0, u1] [.ref s0] h =
  (ck (gC h s0) 11 <|
  ck (gC h s0) 11 <|
  some (some (.int (gI h 2817 s0)), h)) := by
  rw [← hs.1]
  exact (blkM (fun p => false) 5 28 _ _ _).trans rfl

/-! 255 PostRoom$Post.putInBag(LPostRoom$Item;I)V -/
set_option maxRecDepth 16384 in
theorem t_255 {d : Nat} {h : AH} (hs : Sh h) (x1 : Nat) (x2 : Int32) :
    E (d + 1) 255 [.ref 156, .ref x1, .int x2] h =
  cK (E d 308 [.ref 156, .ref x1] h) (Q d 255 5 [some (.ref 156), some (.ref x1), some (.int x2), none]) [] := by
  rw [← hs.1]
  exact entL (l := [some (.ref 156), some (.ref x1), some (.int x2), none]) rfl rfl ((blkM (fun p => Nat.beq p 5) 4 0 _ _ _).trans rfl)

set_option maxRecDepth 16384 in
theorem t_255_5 {d : Nat} {h : AH} (hs : Sh h) (x1 : Nat) (x2 : Int32) (u3 : Option Value) :
    Q d 255 5 [some (.ref 156), some (.ref x1), some (.int x2), u3] [] h =
  (gR h 2048 156).bind fun y1 =>
   ck (gC h y1) 2 <|
   (gR h 515 y1).bind fun y2 =>
    ck (gC h y2) 1 <|
    cK (E d 212 [.ref y2, .int x2] h) (Q d 255 16 [some (.ref 156), some (.ref x1), some (.int x2), u3]) [] := by
  rw [← hs.1]
  exact (blkM (fun p => Nat.beq p 16) 6 5 _ _ _).trans rfl

set_option maxRecDepth 16384 in
theorem t_255_16 {d : Nat} {h : AH} (hs : Sh h) (x1 : Nat) (x2 : Int32) (u3 : Option Value) (s0 : Nat) :
    Q d 255 16 [some (.ref 156), some (.ref x1), some (.int x2), u3] [.ref s0] h =
  (ck (gC h s0) 3 <|
  ck (gC h s0) 3 <|
  ck (gC h x1) 5 <|
  cK (E d 257 [.ref x1, .int (nI 1), .int (gI h 768 s0), .int x2, .int (gI h 2051 156)] h) (Q d 255 34 [some (.ref 156), some (.ref x1), some (.int x2), some (.ref s0)]) []) := by
  rw [← hs.1]
  exact (blkM (fun p => Nat.beq p 34) 11 16 _ _ _).trans rfl

set_option maxRecDepth 16384 in
theorem t_255_34 {d : Nat} {h : AH} (hs : Sh h) (x1 : Nat) (x3 : Nat) (u2 : Option Value) :
    Q d 255 34 [some (.ref 156), some (.ref x1), u2, some (.ref x3)] [] h =
  (ck (gC h x3) 3 <|
  (gR h 775 x3).bind fun y1 =>
   ck (gC h y1) 1 <|
   cK (E d 273 [.ref y1, .ref x1] h) (Q d 255 42 [some (.ref 156), some (.ref x1), u2, some (.ref x3)]) []) := by
  rw [← hs.1]
  exact (blkM (fun p => Nat.beq p 42) 5 34 _ _ _).trans rfl

set_option maxRecDepth 16384 in
theorem t_255_42 {d : Nat} {h : AH} (hs : Sh h) (x1 : Nat) (x3 : Nat) (u2 : Option Value) (s0 : Int32) :
    Q d 255 42 [some (.ref 156), some (.ref x1), u2, some (.ref x3)] [.int s0] h =
  (ck (gC h x3) 3 <|
  cK (E d 258 [.ref 156, .ref x1, .int (nI 1), .int (gI h 768 x3)] h) (Q d 255 53 [some (.ref 156), some (.ref x1), u2, some (.ref x3)]) []) := by
  rw [← hs.1]
  exact (blkM (fun p => Nat.beq p 53) 8 42 _ _ _).trans rfl

set_option maxRecDepth 16384 in
theorem t_255_53 {d : Nat} {h : AH} (hs : Sh h) (u0 : Option Value) (u1 : Option Value) (u2 : Option Value) (u3 : Option Value) :
    Q d 255 53 [u0, u1, u2, u3] [] h =
  some (none, h) := by
  rw [← hs.1]
  exact (blkM (fun p => false) 2 53 _ _ _).trans rfl

/-! 256 java/util/ArrayList.remove(I)Ljava/lang/Object; -/
set_option maxRecDepth 16384 in
theorem t_256 {d : Nat} {h : AH} (hs : Sh h) (x0 : Nat) (x1 : Int32) :
    E (d + 1) 256 [.ref x0, .int x1] h =
  (ck (gC h x0) 1 <|
  cK (E d 267 [.int x1, .int (gI h 258 x0)] h) (Q d 256 8 [some (.ref x0), some (.int x1), none, none]) []) := by
  rw [← hs.1]
  exact entL (l := [some (.ref x0), some (.int x1), none, none]) rfl rfl ((blkM (fun p => Nat.beq p 8) 5 0 _ _ _).trans rfl)

set_option maxRecDepth 16384 in
theorem t_256_8 {d : Nat} {h : AH} (hs : Sh h) (x0 : Nat) (x1 : Int32) (u2 : Option Value) (u3 : Option Value) (s0 : Int32) :
    Q d 256 8 [some (.ref x0), some (.int x1), u2, u3] [.int s0] h =
  (ck (gC h x0) 1 <|
  (gR h 257 x0).bind fun y1 =>
   ck (gC h y1) 65 <|
   gd x1 (gK h y1) <|
   (gO h y1 (ix x1)).bind fun y2 =>
    ck (gC h x0) 1 <|
    cK (E d 309 [.ref x0, .ref y1, .int x1] h) (Q d 256 24 [some (.ref x0), some (.int x1), some (.ref y1), some (.ref y2)]) []) := by
  rw [← hs.1]
  exact (blkM (fun p => Nat.beq p 24) 13 8 _ _ _).trans rfl

set_option maxRecDepth 16384 in
theorem t_256_24 {d : Nat} {h : AH} (hs : Sh h) (x3 : Nat) (u0 : Option Value) (u1 : Option Value) (u2 : Option Value) :
    Q d 256 24 [u0, u1, u2, some (.ref x3)] [] h =
  some (some (.ref x3), h) := by
  rw [← hs.1]
  exact (blkM (fun p => false) 3 24 _ _ _).trans rfl

/-! 257 PostRoom$Item.comesTo(IIII)V -/
set_option maxRecDepth 16384 in
theorem t_257 {d : Nat} {h : AH} (hs : Sh h) (x0 : Nat) (x1 : Int32) (x2 : Int32) (x3 : Int32) (x4 : Int32) :
    E (d + 1) 257 [.ref x0, .int x1, .int x2, .int x3, .int x4] h =
  (ck (gC h x0) 5 <|
  ck (gC h x0) 5 <|
  ck (gC h x0) 5 <|
  ck (gC h x0) 5 <|
  some (none, sI (sI (sI (sI h 1288 x0 x1) 1289 x0 x2) 1290 x0 x3) 1293 x0 x4)) := by
  rw [← hs.1]
  exact entL (l := [some (.ref x0), some (.int x1), some (.int x2), some (.int x3), some (.int x4)]) rfl rfl ((blkM (fun p => false) 14 0 _ _ _).trans rfl)

/-! 258 PostRoom$Post.log(LPostRoom$Item;II)V -/
set_option maxRecDepth 16384 in
theorem t_258 {d : Nat} {h : AH} (hs : Sh h) (x1 : Nat) (x2 : Int32) (x3 : Int32) :
    E (d + 1) 258 [.ref 156, .ref x1, .int x2, .int x3] h =
  (ck (gC h x1) 5 <|
  if gI h 1284 x1 = nI 2 then
   ck (gC h x1) 5 <|
   dz (nI 65521) <|
   some (none, sI h 2052 156 (((((((nI 33) * (gI h 2052 156)) + (gI h 1280 x1)) + ((nI 8) * x2)) + ((nI 64) * x3)) + (gI h 2051 156)) - ((((((nI 33) * (gI h 2052 156)) + (gI h 1280 x1)) + ((nI 8) * x2)) + ((nI 64) * x3)) + (gI h 2051 156)) / (nI 65521) * (nI 65521)))
  else
   some (none, h)) := by
  rw [← hs.1]
  exact entL (l := [some (.ref 156), some (.ref x1), some (.int x2), some (.int x3)]) rfl rfl ((blkM (fun p => false) 28 0 _ _ _).trans rfl)

/-! 259 PostRoom$Post.isOfWalk(LPostRoom$Item;II)Z -/
set_option maxRecDepth 16384 in
theorem t_259 {d : Nat} {h : AH} (hs : Sh h) (x1 : Nat) (x2 : Int32) (x3 : Int32) :
    E (d + 1) 259 [.ref 156, .ref x1, .int x2, .int x3] h =
  (gR h 2048 156).bind fun y1 =>
   ck (gC h x1) 5 <|
   ck (gC h y1) 2 <|
   cK (E d 207 [.ref y1, .int (gI h 1286 x1)] h) (Q d 259 11 [some (.ref 156), some (.ref x1), some (.int x2), some (.int x3), none]) [] := by
  rw [← hs.1]
  exact entL (l := [some (.ref 156), some (.ref x1), some (.int x2), some (.int x3), none]) rfl rfl ((blkM (fun p => Nat.beq p 11) 6 0 _ _ _).trans rfl)

set_option maxRecDepth 16384 in
theorem t_259_11 {d : Nat} {h : AH} (hs : Sh h) (x1 : Nat) (x2 : Int32) (x3 : Int32) (u4 : Option Value) (s0 : Int32) :
    Q d 259 11 [some (.ref 156), some (.ref x1), some (.int x2), some (.int x3), u4] [.int s0] h =
  if s0 = nI 0 then
   some (some (.int (nI 0)), h)
  else
   (gR h 2048 156).bind fun y1 =>
    ck (gC h y1) 2 <|
    (gR h 513 y1).bind fun y2 =>
     ck (gC h x1) 5 <|
     ck (gC h y2) 1 <|
     cK (E d 212 [.ref y2, .int (gI h 1286 x1)] h) (Q d 259 30 [some (.ref 156), some (.ref x1), some (.int x2), some (.int x3), u4]) [] := by
  rw [← hs.1]
  exact (blkM (fun p => Nat.beq p 30) 8 11 _ _ _).trans rfl

set_option maxRecDepth 16384 in
theorem t_259_30 {d : Nat} {h : AH} (hs : Sh h) (x2 : Int32) (x3 : Int32) (u0 : Option Value) (u1 : Option Value) (u4 : Option Value) (s0 : Nat) :
    Q d 259 30 [u0, u1, some (.int x2), some (.int x3), u4] [.ref s0] h =
  (ck (gC h s0) 11 <|
  ck (gC h s0) 11 <|
  if gI h 2817 s0 = x2 then
   ck (gC h s0) 11 <|
   if gI h 2824 s0 = x3 then
    some (some (.int (nI 1)), h)
   else
    some (some (.int (nI 0)), h)
  else
   some (some (.int (nI 0)), h)) := by
  rw [← hs.1]
  exact (blkM (fun p => false) 14 30 _ _ _).trans rfl

/-! 260 PostRoom$Post.stopFor(LPostRoom$Item;)I -/
set_option maxRecDepth 16384 in
theorem t_260 {d : Nat} {h : AH} (hs : Sh h) (x1 : Nat) :
    E (d + 1) 260 [.ref 156, .ref x1] h =
  (ck (gC h x1) 5 <|
  ck (gC h x1) 5 <|
  cK (E d 208 [.int (gI h 1286 x1), .int (gI h 1287 x1)] h) (Q d 260 12 [some (.ref 156), some (.ref x1), none, none, none, none, none]) [.ref 156]) := by
  rw [← hs.1]
  exact entL (l := [some (.ref 156), some (.ref x1), none, none, none, none, none]) rfl rfl ((blkM (fun p => Nat.beq p 12) 7 0 _ _ _).trans rfl)

set_option maxRecDepth 16384 in
theorem t_260_12 {d : Nat} {h : AH} (hs : Sh h) (x1 : Nat) (u2 : Option Value) (u3 : Option Value) (u4 : Option Value) (u5 : Option Value) (u6 : Option Value) (s0 : Nat) (s1 : Int32) :
    Q d 260 12 [some (.ref 156), some (.ref x1), u2, u3, u4, u5, u6] [.int s1, .ref s0] h =
  (ck (gC h s0) 8 <|
  cK (E d 263 [.ref s0, .int s1] h) (Q d 260 15 [some (.ref 156), some (.ref x1), u2, u3, u4, u5, u6]) []) := by
  rw [← hs.1]
  exact (blkM (fun p => Nat.beq p 15) 2 12 _ _ _).trans rfl

set_option maxRecDepth 16384 in
theorem t_260_15 {d : Nat} {h : AH} (hs : Sh h) (x1 : Nat) (u2 : Option Value) (u3 : Option Value) (u4 : Option Value) (u5 : Option Value) (u6 : Option Value) (s0 : Int32) :
    Q d 260 15 [some (.ref 156), some (.ref x1), u2, u3, u4, u5, u6] [.int s0] h =
  if s0 = (-1) then
   (gR h 2048 156).bind fun y1 =>
    ck (gC h y1) 2 <|
    (gR h 513 y1).bind fun y2 =>
     ck (gC h x1) 5 <|
     ck (gC h y2) 1 <|
     cK (E d 212 [.ref y2, .int (gI h 1286 x1)] h) (Q d 260 48 [some (.ref 156), some (.ref x1), some (.int s0), u3, u4, u5, u6]) []
  else
   gd s0 40 <|
   cK (E d 310 [.ref 156, .ref x1, .int (gA h 167 (ix s0))] h) (Q d 260 32 [some (.ref 156), some (.ref x1), some (.int s0), u3, u4, u5, u6]) [] := by
  rw [← hs.1]
  exact (blkM (fun p => Nat.beq p 32 || Nat.beq p 48) 12 15 _ _ _).trans rfl

set_option maxRecDepth 16384 in
theorem t_260_32 {d : Nat} {h : AH} (hs : Sh h) (u0 : Option Value) (u1 : Option Value) (u2 : Option Value) (u3 : Option Value) (u4 : Option Value) (u5 : Option Value) (u6 : Option Value) :
    Q d 260 32 [u0, u1, u2, u3, u4, u5, u6] [] h =
  some (some (.int (-1)), h) := by
  rw [← hs.1]
  exact (blkM (fun p => false) 3 32 _ _ _).trans rfl

set_option maxRecDepth 16384 in
theorem t_260_48 {d : Nat} {h : AH} (hs : Sh h) (x1 : Nat) (u2 : Option Value) (u3 : Option Value) (u4 : Option Value) (u5 : Option Value) (u6 : Option Value) (s0 : Nat) :
    Q d 260 48 [some (.ref 156), some (.ref x1), u2, u3, u4, u5, u6] [.ref s0] h =
  (ck (gC h s0) 11 <|
  ck (gC h x1) 5 <|
  dz (nI 27) <|
  ck (gC h s0) 11 <|
  cK (E d 311 [.ref s0, .int ((gI h 1287 x1) / (nI 27))] h) (Q d 260 63 [some (.ref 156), some (.ref x1), klV u2, some (.ref s0), u4, u5, u6]) []) := by
  rw [← hs.1]
  exact (blkM (fun p => Nat.beq p 63) 9 48 _ _ _).trans rfl

set_option maxRecDepth 16384 in
theorem t_260_63 {d : Nat} {h : AH} (hs : Sh h) (x1 : Nat) (x3 : Nat) (u2 : Option Value) (u4 : Option Value) (u5 : Option Value) (u6 : Option Value) (s0 : Int32) :
    Q d 260 63 [some (.ref 156), some (.ref x1), u2, some (.ref x3), u4, u5, u6] [.int s0] h =
  (ck (gC h x1) 5 <|
  dz (nI 27) <|
  ck (gC h x3) 11 <|
  cK (E d 312 [.ref x3, .int ((gI h 1287 x1) / (nI 27))] h) (Q d 260 76 [some (.ref 156), some (.ref x1), u2, some (.ref x3), some (.int s0), u5, u6]) []) := by
  rw [← hs.1]
  exact (blkM (fun p => Nat.beq p 76) 8 63 _ _ _).trans rfl

set_option maxRecDepth 16384 in
theorem t_260_76 {d : Nat} {h : AH} (hs : Sh h) (x4 : Int32) (u1 : Option Value) (u2 : Option Value) (u3 : Option Value) (u5 : Option Value) (u6 : Option Value) (s0 : Int32) :
    Q d 260 76 [some (.ref 156), u1, u2, u3, some (.int x4), u5, u6] [.int s0] h =
  Q d 260 81 [some (.ref 156), none, none, none, some (.int x4), some (.int s0), some (.int (nI 0))] [] h := by
  rw [← hs.1]
  exact (blkM (fun p => Nat.beq p 81) 5 76 _ _ _).trans rfl

set_option maxRecDepth 16384 in
theorem t_260_81 {d : Nat} {h : AH} (hs : Sh h) (x4 : Int32) (x5 : Int32) (x6 : Int32) :
    Q d 260 81 [some (.ref 156), none, none, none, some (.int x4), some (.int x5), some (.int x6)] [] h =
  if x6 < gI h 2064 156 then
   gd x6 9 <|
   if gA h 172 (ix x6) = x4 then
    gd x6 9 <|
    if gA h 173 (ix x6) = x5 then
     some (some (.int x6), h)
    else
     Q d 260 81 [some (.ref 156), none, none, none, some (.int x4), some (.int x5), some (.int (x6 + nI 1))] [] h
   else
    Q d 260 81 [some (.ref 156), none, none, none, some (.int x4), some (.int x5), some (.int (x6 + nI 1))] [] h
  else
   if gI h 2064 156 < nI 8 then
    gd (gI h 2064 156) 9 <|
    gd (gI h 2064 156) 9 <|
    some (some (.int (((gI h 2064 156) + (nI 1)) - (nI 1))), sI (sA (sA h 172 (ix (gI h 2064 156)) x4) 173 (ix (gI h 2064 156)) x5) 2064 156 ((gI h 2064 156) + (nI 1)))
   else
    some (some (.int (-1)), h) := by
  rw [← hs.1]
  exact (blkM (fun p => Nat.beq p 81) 32 81 _ _ _).trans rfl

/-! 261 PostRoom$Post.workOutWalk()V -/
set_option maxRecDepth 16384 in
theorem t_261 {d : Nat} {h : AH} (hs : Sh h)  :
    E (d + 1) 261 [.ref 156] h =
  Q d 261 2 [some (.ref 156), some (.int (nI 0)), none] [] h := by
  rw [← hs.1]
  exact entL (l := [some (.ref 156), none, none]) rfl rfl ((blkM (fun p => Nat.beq p 2) 4 0 _ _ _).trans rfl)

set_option maxRecDepth 16384 in
theorem t_261_2 {d : Nat} {h : AH} (hs : Sh h) (x1 : Int32) :
    Q d 261 2 [some (.ref 156), some (.int x1), none] [] h =
  if x1 < (nI 1) <<< ((gI h 2064 156) &&& 31) then
   Q d 261 14 [some (.ref 156), some (.int x1), some (.int (nI 0))] [] h
  else
   some (none, h) := by
  rw [← hs.1]
  exact (blkM (fun p => Nat.beq p 14) 10 2 _ _ _).trans rfl

set_option maxRecDepth 16384 in
theorem t_261_14 {d : Nat} {h : AH} (hs : Sh h) (x1 : Int32) (x2 : Int32) :
    Q d 261 14 [some (.ref 156), some (.int x1), some (.int x2)] [] h =
  if x2 < gI h 2064 156 then
   if (x1 >>> (x2 &&& 31)) &&& (nI 1) = nI 0 then
    if x1 = nI 0 then
     cK (E d 313 [.ref 156, .int x2, .int (gI h 2064 156)] h) (Q d 261 53 [some (.ref 156), some (.int x1), some (.int x2)]) [.int ((x1 * (nI 8)) + x2), .ref 174]
    else
     cK (E d 314 [.ref 156, .int x2, .int x1] h) (Q d 261 62 [some (.ref 156), some (.int x1), some (.int x2)]) [.int ((x1 * (nI 8)) + x2), .ref 174]
   else
    Q d 261 14 [some (.ref 156), some (.int x1), some (.int (x2 + nI 1))] [] h
  else
   Q d 261 2 [some (.ref 156), some (.int (x1 + nI 1)), none] [] h := by
  rw [← hs.1]
  exact (blkM (fun p => Nat.beq p 2 || Nat.beq p 14 || Nat.beq p 53 || Nat.beq p 62) 25 14 _ _ _).trans rfl

set_option maxRecDepth 16384 in
theorem t_261_53 {d : Nat} {h : AH} (hs : Sh h) (x1 : Int32) (x2 : Int32) (s0 : Nat) (s1 : Int32) (s2 : Int32) :
    Q d 261 53 [some (.ref 156), some (.int x1), some (.int x2)] [.int s2, .int s1, .ref s0] h =
  Q d 261 62 [some (.ref 156), some (.int x1), some (.int x2)] [.int s2, .int s1, .ref s0] h := by
  rw [← hs.1]
  exact (blkM (fun p => Nat.beq p 62) 3 53 _ _ _).trans rfl

set_option maxRecDepth 16384 in
theorem t_261_62 {d : Nat} {h : AH} (hs : Sh h) (x1 : Int32) (x2 : Int32) (s0 : Nat) (s1 : Int32) (s2 : Int32) :
    Q d 261 62 [some (.ref 156), some (.int x1), some (.int x2)] [.int s2, .int s1, .ref s0] h =
  (cw (gC h s0) 60 s0 <|
  gd s1 (gK h s0) <|
  Q d 261 14 [some (.ref 156), some (.int x1), some (.int (x2 + nI 1))] [] (sA h s0 (ix s1) s2)) := by
  rw [← hs.1]
  exact (blkM (fun p => Nat.beq p 14) 5 62 _ _ _).trans rfl

/-! 262 PostRoom$Post.goWalk(Ljava/util/ArrayList;I)I -/
set_option maxRecDepth 16384 in
theorem t_262 {d : Nat} {h : AH} (hs : Sh h) (x1 : Nat) (x2 : Int32) :
    E (d + 1) 262 [.ref 156, .ref x1, .int x2] h =
  cK (E d 314 [.ref 156, .int (gI h 2064 156), .int (((nI 1) <<< ((gI h 2064 156) &&& 31)) - (nI 1))] h) (Q d 262 18 [some (.ref 156), some (.ref x1), some (.int x2), some (.int (((nI 1) <<< ((gI h 2064 156) &&& 31)) - (nI 1))), none, none, none, none, none]) [] := by
  rw [← hs.1]
  exact entL (l := [some (.ref 156), some (.ref x1), some (.int x2), none, none, none, none, none, none]) rfl rfl ((blkM (fun p => Nat.beq p 18) 13 0 _ _ _).trans rfl)

set_option maxRecDepth 16384 in
theorem t_262_18 {d : Nat} {h : AH} (hs : Sh h) (x1 : Nat) (x2 : Int32) (x3 : Int32) (u4 : Option Value) (u5 : Option Value) (u6 : Option Value) (u7 : Option Value) (u8 : Option Value) (s0 : Int32) :
    Q d 262 18 [some (.ref 156), some (.ref x1), some (.int x2), some (.int x3), u4, u5, u6, u7, u8] [.int s0] h =
  Q d 262 29 [some (.ref 156), some (.ref x1), some (.int x2), some (.int x3), some (.int s0), some (.int (gI h 2064 156)), some (.int (nI 0)), none, none] [] h := by
  rw [← hs.1]
  exact (blkM (fun p => Nat.beq p 29) 8 18 _ _ _).trans rfl

set_option maxRecDepth 16384 in
theorem t_262_29 {d : Nat} {h : AH} (hs : Sh h) (x1 : Nat) (x2 : Int32) (x3 : Int32) (x4 : Int32) (x5 : Int32) (x6 : Int32) :
    Q d 262 29 [some (.ref 156), some (.ref x1), some (.int x2), some (.int x3), some (.int x4), some (.int x5), some (.int x6), none, none] [] h =
  if x6 < gI h 2064 156 then
   cK (E d 314 [.ref 156, .int x5, .int x3] h) (Q d 262 45 [some (.ref 156), some (.ref x1), some (.int x2), some (.int x3), some (.int x4), some (.int x5), some (.int x6), none, none]) []
  else
   some (some (.int x4), h) := by
  rw [← hs.1]
  exact (blkM (fun p => Nat.beq p 45) 9 29 _ _ _).trans rfl

set_option maxRecDepth 16384 in
theorem t_262_45 {d : Nat} {h : AH} (hs : Sh h) (x1 : Nat) (x2 : Int32) (x3 : Int32) (x4 : Int32) (x5 : Int32) (x6 : Int32) (u7 : Option Value) (u8 : Option Value) (s0 : Int32) :
    Q d 262 45 [some (.ref 156), some (.ref x1), some (.int x2), some (.int x3), some (.int x4), some (.int x5), some (.int x6), u7, u8] [.int s0] h =
  Q d 262 50 [some (.ref 156), some (.ref x1), some (.int x2), some (.int x3), some (.int x4), some (.int x5), some (.int x6), some (.int s0), some (.int (nI 0))] [] h := by
  rw [← hs.1]
  exact (blkM (fun p => Nat.beq p 50) 5 45 _ _ _).trans rfl

set_option maxRecDepth 16384 in
theorem t_262_50 {d : Nat} {h : AH} (hs : Sh h) (x1 : Nat) (x2 : Int32) (x3 : Int32) (x4 : Int32) (x5 : Int32) (x6 : Int32) (x7 : Int32) (x8 : Int32) :
    Q d 262 50 [some (.ref 156), some (.ref x1), some (.int x2), some (.int x3), some (.int x4), some (.int x5), some (.int x6), some (.int x7), some (.int x8)] [] h =
  if x8 < gI h 2064 156 then
   if (x3 >>> (x8 &&& 31)) &&& (nI 1) = nI 0 then
    Q d 262 50 [some (.ref 156), some (.ref x1), some (.int x2), some (.int x3), some (.int x4), some (.int x5), some (.int x6), some (.int x7), some (.int (x8 + nI 1))] [] h
   else
    cK (E d 315 [.ref 156, .int x5, .int x8, .int x3] h) (Q d 262 77 [some (.ref 156), some (.ref x1), some (.int x2), some (.int x3), some (.int x4), some (.int x5), some (.int x6), some (.int x7), some (.int x8)]) []
  else
   cK (E d 316 [.ref 156, .int x8, .ref x1, .int x2] h) (Q d 262 96 [some (.ref 156), some (.ref x1), some (.int x2), some (.int x3), some (.int x4), none, some (.int x6), none, some (.int x8)]) [] := by
  rw [← hs.1]
  exact (blkM (fun p => Nat.beq p 50 || Nat.beq p 77 || Nat.beq p 96) 16 50 _ _ _).trans rfl

set_option maxRecDepth 16384 in
theorem t_262_77 {d : Nat} {h : AH} (hs : Sh h) (x1 : Nat) (x2 : Int32) (x3 : Int32) (x4 : Int32) (x5 : Int32) (x6 : Int32) (x7 : Int32) (x8 : Int32) (s0 : Int32) :
    Q d 262 77 [some (.ref 156), some (.ref x1), some (.int x2), some (.int x3), some (.int x4), some (.int x5), some (.int x6), some (.int x7), some (.int x8)] [.int s0] h =
  if s0 = x7 then
   cK (E d 316 [.ref 156, .int x8, .ref x1, .int x2] h) (Q d 262 96 [some (.ref 156), some (.ref x1), some (.int x2), some (.int x3), some (.int x4), none, some (.int x6), none, some (.int x8)]) []
  else
   Q d 262 50 [some (.ref 156), some (.ref x1), some (.int x2), some (.int x3), some (.int x4), some (.int x5), some (.int x6), some (.int x7), some (.int (x8 + nI 1))] [] h := by
  rw [← hs.1]
  exact (blkM (fun p => Nat.beq p 50 || Nat.beq p 96) 8 77 _ _ _).trans rfl

set_option maxRecDepth 16384 in
theorem t_262_96 {d : Nat} {h : AH} (hs : Sh h) (x1 : Nat) (x2 : Int32) (x3 : Int32) (x4 : Int32) (x6 : Int32) (x8 : Int32) (u5 : Option Value) (u7 : Option Value) :
    Q d 262 96 [some (.ref 156), some (.ref x1), some (.int x2), some (.int x3), some (.int x4), u5, some (.int x6), u7, some (.int x8)] [] h =
  Q d 262 29 [some (.ref 156), some (.ref x1), some (.int x2), some (.int (x3 &&& (((nI 1) <<< (x8 &&& 31)) ^^^ (-1)))), some (.int x4), some (.int x8), some (.int (x6 + nI 1)), none, none] [] h := by
  rw [← hs.1]
  exact (blkM (fun p => Nat.beq p 29) 14 96 _ _ _).trans rfl

/-! 263 PostRoom$Post.movedIndex(I)I -/
set_option maxRecDepth 16384 in
theorem t_263 {d : Nat} {h : AH} (hs : Sh h) (x1 : Int32) :
    E (d + 1) 263 [.ref 156, .int x1] h =
  Q d 263 2 [some (.ref 156), some (.int x1), some (.int (nI 0))] [] h := by
  rw [← hs.1]
  exact entL (l := [some (.ref 156), some (.int x1), none]) rfl rfl ((blkM (fun p => Nat.beq p 2) 4 0 _ _ _).trans rfl)

set_option maxRecDepth 16384 in
theorem t_263_2 {d : Nat} {h : AH} (hs : Sh h) (x1 : Int32) (x2 : Int32) :
    Q d 263 2 [some (.ref 156), some (.int x1), some (.int x2)] [] h =
  if x2 < gI h 2055 156 then
   gd x2 40 <|
   if gA h 166 (ix x2) = x1 then
    some (some (.int x2), h)
   else
    Q d 263 2 [some (.ref 156), some (.int x1), some (.int (x2 + nI 1))] [] h
  else
   some (some (.int (-1)), h) := by
  rw [← hs.1]
  exact (blkM (fun p => Nat.beq p 2) 14 2 _ _ _).trans rfl

/-! 264 PostRoom$Script.look()V -/
set_option maxRecDepth 16384 in
theorem t_264 {d : Nat} {h : AH} (hs : Sh h) (x0 : Nat) :
    E (d + 1) 264 [.ref x0] h =
  (ck (gC h x0) 9 <|
  (gR h 2309 x0).bind fun y1 =>
   ck (gC h y1) 12 <|
   ck (gC h x0) 9 <|
   ck (gC h x0) 9 <|
   if gI (sI h 2307 x0 (gI h 3076 y1)) 2307 x0 = nI 2 then
    ck (gC h x0) 9 <|
    (gR h 2309 x0).bind fun y2 =>
     ck (gC h y2) 12 <|
     cK (E d 231 [.ref y2, .ref 18] (sI h 2307 x0 (gI h 3076 y1))) (Q d 264 29 [some (.ref x0), none, none, none, none, none]) []
   else
    some (none, sI h 2307 x0 (gI h 3076 y1))) := by
  rw [← hs.1]
  exact entL (l := [some (.ref x0), none, none, none, none, none]) rfl rfl ((blkM (fun p => Nat.beq p 29) 14 0 _ _ _).trans rfl)

set_option maxRecDepth 16384 in
theorem t_264_29 {d : Nat} {h : AH} (hs : Sh h) (x0 : Nat) (u1 : Option Value) (u2 : Option Value) (u3 : Option Value) (u4 : Option Value) (u5 : Option Value) (s0 : Int32) :
    Q d 264 29 [some (.ref x0), u1, u2, u3, u4, u5] [.int s0] h =
  if s0 = (-1) then
   ck (gC h x0) 9 <|
   (gR h 2309 x0).bind fun y1 =>
    ck (gC h y1) 12 <|
    ck (gC h x0) 9 <|
    (gR h 2309 x0).bind fun y2 =>
     ck (gC h y2) 12 <|
     if (gI h 3075 y1) - (gI h 3074 y2) = nI 2 then
      ck (gC h x0) 9 <|
      (gR h 2309 x0).bind fun y3 =>
       ck (gC h y3) 12 <|
       (gR h 3072 y3).bind fun y4 =>
        ck (gC h x0) 9 <|
        (gR h 2309 x0).bind fun y5 =>
         ck (gC h y5) 12 <|
         ck (gC h y4) 62 <|
         gd (gI h 3074 y5) (gK h y4) <|
         ck (gC h x0) 9 <|
         (gR h 2309 x0).bind fun y6 =>
          ck (gC h y6) 12 <|
          (gR h 3072 y6).bind fun y7 =>
           ck (gC h x0) 9 <|
           (gR h 2309 x0).bind fun y8 =>
            ck (gC h y8) 12 <|
            ck (gC h y7) 62 <|
            gd ((gI h 3074 y8) + (nI 1)) (gK h y7) <|
            if gA h y4 (ix (gI h 3074 y5)) = nI 114 then
             if (gA h y7 (ix ((gI h 3074 y8) + (nI 1)))) - (nI 48) < nI 0 then
              Q d 264 124 [some (.ref x0), none, some (.int (gA h y4 (ix (gI h 3074 y5)))), some (.int ((gA h y7 (ix ((gI h 3074 y8) + (nI 1)))) - (nI 48))), none, none] [.int (nI 0)] h
             else
              if (nI 9) < (gA h y7 (ix ((gI h 3074 y8) + (nI 1)))) - (nI 48) then
               Q d 264 124 [some (.ref x0), none, some (.int (gA h y4 (ix (gI h 3074 y5)))), some (.int ((gA h y7 (ix ((gI h 3074 y8) + (nI 1)))) - (nI 48))), none, none] [.int (nI 0)] h
              else
               Q d 264 124 [some (.ref x0), none, some (.int (gA h y4 (ix (gI h 3074 y5)))), some (.int ((gA h y7 (ix ((gI h 3074 y8) + (nI 1)))) - (nI 48))), none, none] [.int (nI 1)] h
            else
             Q d 264 124 [some (.ref x0), none, some (.int (gA h y4 (ix (gI h 3074 y5)))), some (.int ((gA h y7 (ix ((gI h 3074 y8) + (nI 1)))) - (nI 48))), none, none] [.int (nI 0)] h
     else
      some (none, h)
  else
   ck (gC h x0) 9 <|
   some (none, sI h 2307 x0 ((nI 128) + s0)) := by
  rw [← hs.1]
  exact (blkM (fun p => Nat.beq p 124) 45 29 _ _ _).trans rfl

set_option maxRecDepth 16384 in
theorem t_264_124 {d : Nat} {h : AH} (hs : Sh h) (x0 : Nat) (x2 : Int32) (x3 : Int32) (s0 : Int32) :
    Q d 264 124 [some (.ref x0), none, some (.int x2), some (.int x3), none, none] [.int s0] h =
  if x2 = nI 120 then
   if x3 < nI 0 then
    Q d 264 146 [some (.ref x0), none, none, some (.int x3), some (.int s0), none] [.int (nI 0)] h
   else
    if (nI 3) < x3 then
     Q d 264 146 [some (.ref x0), none, none, some (.int x3), some (.int s0), none] [.int (nI 0)] h
    else
     Q d 264 146 [some (.ref x0), none, none, some (.int x3), some (.int s0), none] [.int (nI 1)] h
  else
   Q d 264 146 [some (.ref x0), none, none, some (.int x3), some (.int s0), none] [.int (nI 0)] h := by
  rw [← hs.1]
  exact (blkM (fun p => Nat.beq p 146) 13 124 _ _ _).trans rfl

set_option maxRecDepth 16384 in
theorem t_264_146 {d : Nat} {h : AH} (hs : Sh h) (x0 : Nat) (x3 : Int32) (x4 : Int32) (s0 : Int32) :
    Q d 264 146 [some (.ref x0), none, none, some (.int x3), some (.int x4), none] [.int s0] h =
  (ck (gC h x0) 9 <|
  (gR h 2309 x0).bind fun y1 =>
   if x4 = nI 0 then
    if s0 = nI 0 then
     Q d 264 167 [some (.ref x0), none, none, none, some (.int x4), some (.int s0)] [.int (nI 0), .ref y1] h
    else
     Q d 264 167 [some (.ref x0), none, none, none, some (.int x4), some (.int s0)] [.int x3, .ref y1] h
   else
    Q d 264 167 [some (.ref x0), none, none, none, some (.int x4), some (.int s0)] [.int x3, .ref y1] h) := by
  rw [← hs.1]
  exact (blkM (fun p => Nat.beq p 167) 11 146 _ _ _).trans rfl

set_option maxRecDepth 16384 in
theorem t_264_167 {d : Nat} {h : AH} (hs : Sh h) (x0 : Nat) (x4 : Int32) (x5 : Int32) (s0 : Nat) (s1 : Int32) :
    Q d 264 167 [some (.ref x0), none, none, none, some (.int x4), some (.int x5)] [.int s1, .ref s0] h =
  (ck (gC h s0) 12 <|
  if x4 = nI 0 then
   if x5 = nI 0 then
    ck (gC h x0) 9 <|
    some (none, sI (sI h 3077 s0 s1) 2307 x0 (nI 2))
   else
    ck (gC h x0) 9 <|
    some (none, sI (sI h 3077 s0 s1) 2307 x0 (nI 5))
  else
   ck (gC h x0) 9 <|
   some (none, sI (sI h 3077 s0 s1) 2307 x0 (nI 4))) := by
  rw [← hs.1]
  exact (blkM (fun p => false) 11 167 _ _ _).trans rfl

/-! 265 PostRoom$Script.readStatement(I)Z -/
set_option maxRecDepth 16384 in
theorem t_265 {d : Nat} {h : AH} (hs : Sh h) (x0 : Nat) (x1 : Int32) :
    E (d + 1) 265 [.ref x0, .int x1] h =
  (ck (gC h x0) 9 <|
  if gI h 2307 x0 = nI 4 then
   ck (gC h x0) 9 <|
   cK (E d 317 [.ref x0] h) (Q d 265 132 [some (.ref x0), some (.int x1), some (.int (gI h 2307 x0))]) []
  else
   if gI h 2307 x0 = nI 5 then
   ck (gC h x0) 9 <|
   cK (E d 317 [.ref x0] h) (Q d 265 171 [some (.ref x0), some (.int x1), some (.int (gI h 2307 x0))]) []
  else
   if gI h 2307 x0 = nI 128 then
   ck (gC h x0) 9 <|
   cK (E d 317 [.ref x0] h) (Q d 265 210 [some (.ref x0), some (.int x1), some (.int (gI h 2307 x0))]) []
  else
   if gI h 2307 x0 = nI 129 then
   ck (gC h x0) 9 <|
   cK (E d 317 [.ref x0] h) (Q d 265 255 [some (.ref x0), some (.int x1), some (.int (gI h 2307 x0))]) []
  else
   if gI h 2307 x0 = nI 130 then
   ck (gC h x0) 9 <|
   cK (E d 317 [.ref x0] h) (Q d 265 285 [some (.ref x0), some (.int x1), some (.int (gI h 2307 x0))]) []
  else
   if gI h 2307 x0 = nI 131 then
   ck (gC h x0) 9 <|
   cK (E d 317 [.ref x0] h) (Q d 265 323 [some (.ref x0), some (.int x1), some (.int (gI h 2307 x0))]) []
  else
   if gI h 2307 x0 = nI 132 then
   ck (gC h x0) 9 <|
   cK (E d 317 [.ref x0] h) (Q d 265 361 [some (.ref x0), some (.int x1), some (.int (gI h 2307 x0))]) []
  else
   if gI h 2307 x0 = nI 133 then
   ck (gC h x0) 9 <|
   cK (E d 317 [.ref x0] h) (Q d 265 399 [some (.ref x0), some (.int x1), some (.int (gI h 2307 x0))]) []
  else
   if gI h 2307 x0 = nI 134 then
   ck (gC h x0) 9 <|
   cK (E d 317 [.ref x0] h) (Q d 265 420 [some (.ref x0), some (.int x1), some (.int (gI h 2307 x0))]) []
  else
   if gI h 2307 x0 = nI 135 then
   ck (gC h x0) 9 <|
   cK (E d 317 [.ref x0] h) (Q d 265 467 [some (.ref x0), some (.int x1), some (.int (gI h 2307 x0))]) []
  else
   if gI h 2307 x0 = nI 136 then
   ck (gC h x0) 9 <|
   cK (E d 317 [.ref x0] h) (Q d 265 497 [some (.ref x0), some (.int x1), some (.int (gI h 2307 x0))]) []
  else
   if gI h 2307 x0 = nI 137 then
   ck (gC h x0) 9 <|
   cK (E d 317 [.ref x0] h) (Q d 265 519 [some (.ref x0), some (.int x1), some (.int (gI h 2307 x0))]) []
  else
   if gI h 2307 x0 = nI 139 then
   ck (gC h x0) 9 <|
   cK (E d 317 [.ref x0] h) (Q d 265 573 [some (.ref x0), some (.int x1), some (.int (gI h 2307 x0))]) []
  else
   if gI h 2307 x0 = nI 140 then
   ck (gC h x0) 9 <|
   cK (E d 317 [.ref x0] h) (Q d 265 602 [some (.ref x0), some (.int x1), some (.int (gI h 2307 x0))]) []
  else
   ck (gC h x0) 9 <|
  cK (E d 327 [.ref x0, .int (nI 1)] h) (Q d 265 624 [some (.ref x0), some (.int x1), some (.int (gI h 2307 x0))]) []) := by
  rw [← hs.1]
  exact entL (l := [some (.ref x0), some (.int x1), none]) rfl rfl ((blkM (fun p => Nat.beq p 132 || Nat.beq p 171 || Nat.beq p 210 || Nat.beq p 255 || Nat.beq p 285 || Nat.beq p 323 || Nat.beq p 361 || Nat.beq p 399 || Nat.beq p 420 || Nat.beq p 467 || Nat.beq p 497 || Nat.beq p 519 || Nat.beq p 573 || Nat.beq p 602 || Nat.beq p 624) 9 0 _ _ _).trans rfl)

set_option maxRecDepth 16384 in
theorem t_265_132 {d : Nat} {h : AH} (hs : Sh h) (x0 : Nat) (x1 : Int32) (u2 : Option Value) (s0 : Int32) :
    Q d 265 132 [some (.ref x0), some (.int x1), u2] [.int s0] h =
  if s0 = nI 0 then
   some (some (.int (nI 0)), h)
  else
   ck (gC h x0) 9 <|
   cK (E d 318 [.ref x0, .int (nI 61)] h) (Q d 265 141 [some (.ref x0), some (.int x1), u2]) [] := by
  rw [← hs.1]
  exact (blkM (fun p => Nat.beq p 141) 5 132 _ _ _).trans rfl

set_option maxRecDepth 16384 in
theorem t_265_171 {d : Nat} {h : AH} (hs : Sh h) (x0 : Nat) (x1 : Int32) (u2 : Option Value) (s0 : Int32) :
    Q d 265 171 [some (.ref x0), some (.int x1), u2] [.int s0] h =
  if s0 = nI 0 then
   some (some (.int (nI 0)), h)
  else
   ck (gC h x0) 9 <|
   cK (E d 318 [.ref x0, .int (nI 61)] h) (Q d 265 180 [some (.ref x0), some (.int x1), u2]) [] := by
  rw [← hs.1]
  exact (blkM (fun p => Nat.beq p 180) 5 171 _ _ _).trans rfl

set_option maxRecDepth 16384 in
theorem t_265_210 {d : Nat} {h : AH} (hs : Sh h) (x0 : Nat) (x1 : Int32) (u2 : Option Value) (s0 : Int32) :
    Q d 265 210 [some (.ref x0), some (.int x1), u2] [.int s0] h =
  if s0 = nI 0 then
   some (some (.int (nI 0)), h)
  else
   ck (gC h x0) 9 <|
   cK (E d 321 [.ref x0, .int x1] h) (Q d 265 218 [some (.ref x0), some (.int x1), u2]) [] := by
  rw [← hs.1]
  exact (blkM (fun p => Nat.beq p 218) 5 210 _ _ _).trans rfl

set_option maxRecDepth 16384 in
theorem t_265_255 {d : Nat} {h : AH} (hs : Sh h) (x0 : Nat) (x1 : Int32) (u2 : Option Value) (s0 : Int32) :
    Q d 265 255 [some (.ref x0), some (.int x1), u2] [.int s0] h =
  if s0 = nI 0 then
   some (some (.int (nI 0)), h)
  else
   ck (gC h x0) 9 <|
   cK (E d 321 [.ref x0, .int x1] h) (Q d 265 263 [some (.ref x0), some (.int x1), u2]) [] := by
  rw [← hs.1]
  exact (blkM (fun p => Nat.beq p 263) 5 255 _ _ _).trans rfl

set_option maxRecDepth 16384 in
theorem t_265_285 {d : Nat} {h : AH} (hs : Sh h) (x0 : Nat) (x1 : Int32) (u2 : Option Value) (s0 : Int32) :
    Q d 265 285 [some (.ref x0), some (.int x1), u2] [.int s0] h =
  if s0 = nI 0 then
   some (some (.int (nI 0)), h)
  else
   ck (gC h x0) 9 <|
   cK (E d 321 [.ref x0, .int x1] h) (Q d 265 293 [some (.ref x0), some (.int x1), u2]) [] := by
  rw [← hs.1]
  exact (blkM (fun p => Nat.beq p 293) 5 285 _ _ _).trans rfl

set_option maxRecDepth 16384 in
theorem t_265_323 {d : Nat} {h : AH} (hs : Sh h) (x0 : Nat) (x1 : Int32) (u2 : Option Value) (s0 : Int32) :
    Q d 265 323 [some (.ref x0), some (.int x1), u2] [.int s0] h =
  if s0 = nI 0 then
   some (some (.int (nI 0)), h)
  else
   ck (gC h x0) 9 <|
   cK (E d 323 [.ref x0, .int x1] h) (Q d 265 331 [some (.ref x0), some (.int x1), u2]) [] := by
  rw [← hs.1]
  exact (blkM (fun p => Nat.beq p 331) 5 323 _ _ _).trans rfl

set_option maxRecDepth 16384 in
theorem t_265_361 {d : Nat} {h : AH} (hs : Sh h) (x0 : Nat) (x1 : Int32) (u2 : Option Value) (s0 : Int32) :
    Q d 265 361 [some (.ref x0), some (.int x1), u2] [.int s0] h =
  if s0 = nI 0 then
   some (some (.int (nI 0)), h)
  else
   ck (gC h x0) 9 <|
   cK (E d 323 [.ref x0, .int x1] h) (Q d 265 369 [some (.ref x0), some (.int x1), u2]) [] := by
  rw [← hs.1]
  exact (blkM (fun p => Nat.beq p 369) 5 361 _ _ _).trans rfl

set_option maxRecDepth 16384 in
theorem t_265_399 {d : Nat} {h : AH} (hs : Sh h) (x0 : Nat) (x1 : Int32) (u2 : Option Value) (s0 : Int32) :
    Q d 265 399 [some (.ref x0), some (.int x1), u2] [.int s0] h =
  if s0 = nI 0 then
   some (some (.int (nI 0)), h)
  else
   ck (gC h x0) 9 <|
   cK (E d 324 [.ref x0, .int x1] h) (Q d 265 407 [some (.ref x0), some (.int x1), u2]) [] := by
  rw [← hs.1]
  exact (blkM (fun p => Nat.beq p 407) 5 399 _ _ _).trans rfl

set_option maxRecDepth 16384 in
theorem t_265_420 {d : Nat} {h : AH} (hs : Sh h) (x0 : Nat) (x1 : Int32) (u2 : Option Value) (s0 : Int32) :
    Q d 265 420 [some (.ref x0), some (.int x1), u2] [.int s0] h =
  if s0 = nI 0 then
   some (some (.int (nI 0)), h)
  else
   ck (gC h x0) 9 <|
   cK (E d 320 [.ref x0, .int x1] h) (Q d 265 428 [some (.ref x0), some (.int x1), u2]) [] := by
  rw [← hs.1]
  exact (blkM (fun p => Nat.beq p 428) 5 420 _ _ _).trans rfl

set_option maxRecDepth 16384 in
theorem t_265_467 {d : Nat} {h : AH} (hs : Sh h) (x0 : Nat) (x1 : Int32) (u2 : Option Value) (s0 : Int32) :
    Q d 265 467 [some (.ref x0), some (.int x1), u2] [.int s0] h =
  if s0 = nI 0 then
   some (some (.int (nI 0)), h)
  else
   ck (gC h x0) 9 <|
   cK (E d 319 [.ref x0, .int x1] h) (Q d 265 475 [some (.ref x0), some (.int x1), u2]) [] := by
  rw [← hs.1]
  exact (blkM (fun p => Nat.beq p 475) 5 467 _ _ _).trans rfl

set_option maxRecDepth 16384 in
theorem t_265_497 {d : Nat} {h : AH} (hs : Sh h) (x0 : Nat) (u1 : Option Value) (u2 : Option Value) (s0 : Int32) :
    Q d 265 497 [some (.ref x0), u1, u2] [.int s0] h =
  if s0 = nI 0 then
   some (some (.int (nI 0)), h)
  else
   ck (gC h x0) 9 <|
   cK (E d 318 [.ref x0, .int (nI 59)] h) (Q d 265 506 [some (.ref x0), u1, u2]) [] := by
  rw [← hs.1]
  exact (blkM (fun p => Nat.beq p 506) 5 497 _ _ _).trans rfl

set_option maxRecDepth 16384 in
theorem t_265_519 {d : Nat} {h : AH} (hs : Sh h) (x0 : Nat) (x1 : Int32) (u2 : Option Value) (s0 : Int32) :
    Q d 265 519 [some (.ref x0), some (.int x1), u2] [.int s0] h =
  if s0 = nI 0 then
   some (some (.int (nI 0)), h)
  else
   ck (gC h x0) 9 <|
   cK (E d 319 [.ref x0, .int x1] h) (Q d 265 527 [some (.ref x0), some (.int x1), u2]) [] := by
  rw [← hs.1]
  exact (blkM (fun p => Nat.beq p 527) 5 519 _ _ _).trans rfl

set_option maxRecDepth 16384 in
theorem t_265_573 {d : Nat} {h : AH} (hs : Sh h) (x0 : Nat) (x1 : Int32) (u2 : Option Value) (s0 : Int32) :
    Q d 265 573 [some (.ref x0), some (.int x1), u2] [.int s0] h =
  if s0 = nI 0 then
   some (some (.int (nI 0)), h)
  else
   ck (gC h x0) 9 <|
   cK (E d 319 [.ref x0, .int x1] h) (Q d 265 581 [some (.ref x0), some (.int x1), u2]) [] := by
  rw [← hs.1]
  exact (blkM (fun p => Nat.beq p 581) 5 573 _ _ _).trans rfl

set_option maxRecDepth 16384 in
theorem t_265_602 {d : Nat} {h : AH} (hs : Sh h) (x0 : Nat) (x1 : Int32) (u2 : Option Value) (s0 : Int32) :
    Q d 265 602 [some (.ref x0), some (.int x1), u2] [.int s0] h =
  if s0 = nI 0 then
   some (some (.int (nI 0)), h)
  else
   ck (gC h x0) 9 <|
   cK (E d 326 [.ref x0, .int x1] h) (Q d 265 610 [some (.ref x0), some (.int x1), u2]) [] := by
  rw [← hs.1]
  exact (blkM (fun p => Nat.beq p 610) 5 602 _ _ _).trans rfl

set_option maxRecDepth 16384 in
theorem t_265_624 {d : Nat} {h : AH} (hs : Sh h) (u0 : Option Value) (u1 : Option Value) (u2 : Option Value) (s0 : Int32) :
    Q d 265 624 [u0, u1, u2] [.int s0] h =
  if s0 = 0 ∨ s0 = 1 then
   some (some (.int s0), h)
  else
   none := by
  rw [← hs.1]
  exact (blkM (fun p => false) 2 624 _ _ _).trans rfl

set_option maxRecDepth 16384 in
theorem t_265_141 {d : Nat} {h : AH} (hs : Sh h) (x0 : Nat) (x1 : Int32) (u2 : Option Value) (s0 : Int32) :
    Q d 265 141 [some (.ref x0), some (.int x1), u2] [.int s0] h =
  if s0 = nI 0 then
   some (some (.int (nI 0)), h)
  else
   ck (gC h x0) 9 <|
   cK (E d 319 [.ref x0, .int x1] h) (Q d 265 149 [some (.ref x0), some (.int x1), u2]) [] := by
  rw [← hs.1]
  exact (blkM (fun p => Nat.beq p 149) 5 141 _ _ _).trans rfl

set_option maxRecDepth 16384 in
theorem t_265_180 {d : Nat} {h : AH} (hs : Sh h) (x0 : Nat) (x1 : Int32) (u2 : Option Value) (s0 : Int32) :
    Q d 265 180 [some (.ref x0), some (.int x1), u2] [.int s0] h =
  if s0 = nI 0 then
   some (some (.int (nI 0)), h)
  else
   ck (gC h x0) 9 <|
   cK (E d 320 [.ref x0, .int x1] h) (Q d 265 188 [some (.ref x0), some (.int x1), u2]) [] := by
  rw [← hs.1]
  exact (blkM (fun p => Nat.beq p 188) 5 180 _ _ _).trans rfl

set_option maxRecDepth 16384 in
theorem t_265_218 {d : Nat} {h : AH} (hs : Sh h) (x0 : Nat) (x1 : Int32) (u2 : Option Value) (s0 : Int32) :
    Q d 265 218 [some (.ref x0), some (.int x1), u2] [.int s0] h =
  if s0 = nI 0 then
   some (some (.int (nI 0)), h)
  else
   ck (gC h x0) 9 <|
   cK (E d 322 [.ref x0] h) (Q d 265 225 [some (.ref x0), some (.int x1), u2]) [] := by
  rw [← hs.1]
  exact (blkM (fun p => Nat.beq p 225) 4 218 _ _ _).trans rfl

set_option maxRecDepth 16384 in
theorem t_265_263 {d : Nat} {h : AH} (hs : Sh h) (x0 : Nat) (u1 : Option Value) (u2 : Option Value) (s0 : Int32) :
    Q d 265 263 [some (.ref x0), u1, u2] [.int s0] h =
  if s0 = nI 0 then
   some (some (.int (nI 0)), h)
  else
   ck (gC h x0) 9 <|
   cK (E d 318 [.ref x0, .int (nI 59)] h) (Q d 265 272 [some (.ref x0), u1, u2]) [] := by
  rw [← hs.1]
  exact (blkM (fun p => Nat.beq p 272) 5 263 _ _ _).trans rfl

set_option maxRecDepth 16384 in
theorem t_265_293 {d : Nat} {h : AH} (hs : Sh h) (x0 : Nat) (x1 : Int32) (u2 : Option Value) (s0 : Int32) :
    Q d 265 293 [some (.ref x0), some (.int x1), u2] [.int s0] h =
  if s0 = nI 0 then
   some (some (.int (nI 0)), h)
  else
   ck (gC h x0) 9 <|
   cK (E d 321 [.ref x0, .int x1] h) (Q d 265 301 [some (.ref x0), some (.int x1), u2]) [] := by
  rw [← hs.1]
  exact (blkM (fun p => Nat.beq p 301) 5 293 _ _ _).trans rfl

set_option maxRecDepth 16384 in
theorem t_265_331 {d : Nat} {h : AH} (hs : Sh h) (x0 : Nat) (x1 : Int32) (u2 : Option Value) (s0 : Int32) :
    Q d 265 331 [some (.ref x0), some (.int x1), u2] [.int s0] h =
  if s0 = nI 0 then
   some (some (.int (nI 0)), h)
  else
   ck (gC h x0) 9 <|
   cK (E d 319 [.ref x0, .int x1] h) (Q d 265 339 [some (.ref x0), some (.int x1), u2]) [] := by
  rw [← hs.1]
  exact (blkM (fun p => Nat.beq p 339) 5 331 _ _ _).trans rfl

set_option maxRecDepth 16384 in
theorem t_265_369 {d : Nat} {h : AH} (hs : Sh h) (x0 : Nat) (x1 : Int32) (u2 : Option Value) (s0 : Int32) :
    Q d 265 369 [some (.ref x0), some (.int x1), u2] [.int s0] h =
  if s0 = nI 0 then
   some (some (.int (nI 0)), h)
  else
   ck (gC h x0) 9 <|
   cK (E d 320 [.ref x0, .int x1] h) (Q d 265 377 [some (.ref x0), some (.int x1), u2]) [] := by
  rw [← hs.1]
  exact (blkM (fun p => Nat.beq p 377) 5 369 _ _ _).trans rfl

set_option maxRecDepth 16384 in
theorem t_265_407 {d : Nat} {h : AH} (hs : Sh h) (u0 : Option Value) (u1 : Option Value) (u2 : Option Value) (s0 : Int32) :
    Q d 265 407 [u0, u1, u2] [.int s0] h =
  if s0 = nI 0 then
   some (some (.int (nI 0)), h)
  else
   some (some (.int (nI 1)), h) := by
  rw [← hs.1]
  exact (blkM (fun p => false) 5 407 _ _ _).trans rfl

set_option maxRecDepth 16384 in
theorem t_265_428 {d : Nat} {h : AH} (hs : Sh h) (x0 : Nat) (x1 : Int32) (u2 : Option Value) (s0 : Int32) :
    Q d 265 428 [some (.ref x0), some (.int x1), u2] [.int s0] h =
  if s0 = nI 0 then
   some (some (.int (nI 0)), h)
  else
   ck (gC h x0) 9 <|
   cK (E d 318 [.ref x0, .int (nI 44)] h) (Q d 265 437 [some (.ref x0), some (.int x1), u2]) [] := by
  rw [← hs.1]
  exact (blkM (fun p => Nat.beq p 437) 5 428 _ _ _).trans rfl

set_option maxRecDepth 16384 in
theorem t_265_475 {d : Nat} {h : AH} (hs : Sh h) (x0 : Nat) (u1 : Option Value) (u2 : Option Value) (s0 : Int32) :
    Q d 265 475 [some (.ref x0), u1, u2] [.int s0] h =
  if s0 = nI 0 then
   some (some (.int (nI 0)), h)
  else
   ck (gC h x0) 9 <|
   cK (E d 318 [.ref x0, .int (nI 59)] h) (Q d 265 484 [some (.ref x0), u1, u2]) [] := by
  rw [← hs.1]
  exact (blkM (fun p => Nat.beq p 484) 5 475 _ _ _).trans rfl

set_option maxRecDepth 16384 in
theorem t_265_506 {d : Nat} {h : AH} (hs : Sh h) (u0 : Option Value) (u1 : Option Value) (u2 : Option Value) (s0 : Int32) :
    Q d 265 506 [u0, u1, u2] [.int s0] h =
  if s0 = nI 0 then
   some (some (.int (nI 0)), h)
  else
   some (some (.int (nI 1)), h) := by
  rw [← hs.1]
  exact (blkM (fun p => false) 5 506 _ _ _).trans rfl

set_option maxRecDepth 16384 in
theorem t_265_527 {d : Nat} {h : AH} (hs : Sh h) (x0 : Nat) (x1 : Int32) (u2 : Option Value) (s0 : Int32) :
    Q d 265 527 [some (.ref x0), some (.int x1), u2] [.int s0] h =
  if s0 = nI 0 then
   some (some (.int (nI 0)), h)
  else
   ck (gC h x0) 9 <|
   cK (E d 325 [.ref x0, .int x1] h) (Q d 265 535 [some (.ref x0), some (.int x1), u2]) [] := by
  rw [← hs.1]
  exact (blkM (fun p => Nat.beq p 535) 5 527 _ _ _).trans rfl

set_option maxRecDepth 16384 in
theorem t_265_581 {d : Nat} {h : AH} (hs : Sh h) (x0 : Nat) (x1 : Int32) (u2 : Option Value) (s0 : Int32) :
    Q d 265 581 [some (.ref x0), some (.int x1), u2] [.int s0] h =
  if s0 = nI 0 then
   some (some (.int (nI 0)), h)
  else
   ck (gC h x0) 9 <|
   cK (E d 325 [.ref x0, .int x1] h) (Q d 265 589 [some (.ref x0), some (.int x1), u2]) [] := by
  rw [← hs.1]
  exact (blkM (fun p => Nat.beq p 589) 5 581 _ _ _).trans rfl

set_option maxRecDepth 16384 in
theorem t_265_610 {d : Nat} {h : AH} (hs : Sh h) (u0 : Option Value) (u1 : Option Value) (u2 : Option Value) (s0 : Int32) :
    Q d 265 610 [u0, u1, u2] [.int s0] h =
  if s0 = nI 0 then
   some (some (.int (nI 0)), h)
  else
   some (some (.int (nI 1)), h) := by
  rw [← hs.1]
  exact (blkM (fun p => false) 5 610 _ _ _).trans rfl

set_option maxRecDepth 16384 in
theorem t_265_149 {d : Nat} {h : AH} (hs : Sh h) (x0 : Nat) (u1 : Option Value) (u2 : Option Value) (s0 : Int32) :
    Q d 265 149 [some (.ref x0), u1, u2] [.int s0] h =
  if s0 = nI 0 then
   some (some (.int (nI 0)), h)
  else
   ck (gC h x0) 9 <|
   cK (E d 318 [.ref x0, .int (nI 59)] h) (Q d 265 158 [some (.ref x0), u1, u2]) [] := by
  rw [← hs.1]
  exact (blkM (fun p => Nat.beq p 158) 5 149 _ _ _).trans rfl

set_option maxRecDepth 16384 in
theorem t_265_188 {d : Nat} {h : AH} (hs : Sh h) (x0 : Nat) (u1 : Option Value) (u2 : Option Value) (s0 : Int32) :
    Q d 265 188 [some (.ref x0), u1, u2] [.int s0] h =
  if s0 = nI 0 then
   some (some (.int (nI 0)), h)
  else
   ck (gC h x0) 9 <|
   cK (E d 318 [.ref x0, .int (nI 59)] h) (Q d 265 197 [some (.ref x0), u1, u2]) [] := by
  rw [← hs.1]
  exact (blkM (fun p => Nat.beq p 197) 5 188 _ _ _).trans rfl

set_option maxRecDepth 16384 in
theorem t_265_225 {d : Nat} {h : AH} (hs : Sh h) (x0 : Nat) (x1 : Int32) (u2 : Option Value) (s0 : Int32) :
    Q d 265 225 [some (.ref x0), some (.int x1), u2] [.int s0] h =
  if s0 = nI 0 then
   some (some (.int (nI 0)), h)
  else
   ck (gC h x0) 9 <|
   cK (E d 319 [.ref x0, .int x1] h) (Q d 265 233 [some (.ref x0), some (.int x1), u2]) [] := by
  rw [← hs.1]
  exact (blkM (fun p => Nat.beq p 233) 5 225 _ _ _).trans rfl

set_option maxRecDepth 16384 in
theorem t_265_272 {d : Nat} {h : AH} (hs : Sh h) (u0 : Option Value) (u1 : Option Value) (u2 : Option Value) (s0 : Int32) :
    Q d 265 272 [u0, u1, u2] [.int s0] h =
  if s0 = nI 0 then
   some (some (.int (nI 0)), h)
  else
   some (some (.int (nI 1)), h) := by
  rw [← hs.1]
  exact (blkM (fun p => false) 5 272 _ _ _).trans rfl

set_option maxRecDepth 16384 in
theorem t_265_301 {d : Nat} {h : AH} (hs : Sh h) (x0 : Nat) (u1 : Option Value) (u2 : Option Value) (s0 : Int32) :
    Q d 265 301 [some (.ref x0), u1, u2] [.int s0] h =
  if s0 = nI 0 then
   some (some (.int (nI 0)), h)
  else
   ck (gC h x0) 9 <|
   cK (E d 318 [.ref x0, .int (nI 59)] h) (Q d 265 310 [some (.ref x0), u1, u2]) [] := by
  rw [← hs.1]
  exact (blkM (fun p => Nat.beq p 310) 5 301 _ _ _).trans rfl

set_option maxRecDepth 16384 in
theorem t_265_339 {d : Nat} {h : AH} (hs : Sh h) (x0 : Nat) (u1 : Option Value) (u2 : Option Value) (s0 : Int32) :
    Q d 265 339 [some (.ref x0), u1, u2] [.int s0] h =
  if s0 = nI 0 then
   some (some (.int (nI 0)), h)
  else
   ck (gC h x0) 9 <|
   cK (E d 318 [.ref x0, .int (nI 59)] h) (Q d 265 348 [some (.ref x0), u1, u2]) [] := by
  rw [← hs.1]
  exact (blkM (fun p => Nat.beq p 348) 5 339 _ _ _).trans rfl

set_option maxRecDepth 16384 in
theorem t_265_377 {d : Nat} {h : AH} (hs : Sh h) (x0 : Nat) (u1 : Option Value) (u2 : Option Value) (s0 : Int32) :
    Q d 265 377 [some (.ref x0), u1, u2] [.int s0] h =
  if s0 = nI 0 then
   some (some (.int (nI 0)), h)
  else
   ck (gC h x0) 9 <|
   cK (E d 318 [.ref x0, .int (nI 59)] h) (Q d 265 386 [some (.ref x0), u1, u2]) [] := by
  rw [← hs.1]
  exact (blkM (fun p => Nat.beq p 386) 5 377 _ _ _).trans rfl

set_option maxRecDepth 16384 in
theorem t_265_437 {d : Nat} {h : AH} (hs : Sh h) (x0 : Nat) (x1 : Int32) (u2 : Option Value) (s0 : Int32) :
    Q d 265 437 [some (.ref x0), some (.int x1), u2] [.int s0] h =
  if s0 = nI 0 then
   some (some (.int (nI 0)), h)
  else
   ck (gC h x0) 9 <|
   cK (E d 319 [.ref x0, .int x1] h) (Q d 265 445 [some (.ref x0), some (.int x1), u2]) [] := by
  rw [← hs.1]
  exact (blkM (fun p => Nat.beq p 445) 5 437 _ _ _).trans rfl

set_option maxRecDepth 16384 in
theorem t_265_484 {d : Nat} {h : AH} (hs : Sh h) (u0 : Option Value) (u1 : Option Value) (u2 : Option Value) (s0 : Int32) :
    Q d 265 484 [u0, u1, u2] [.int s0] h =
  if s0 = nI 0 then
   some (some (.int (nI 0)), h)
  else
   some (some (.int (nI 1)), h) := by
  rw [← hs.1]
  exact (blkM (fun p => false) 5 484 _ _ _).trans rfl

set_option maxRecDepth 16384 in
theorem t_265_535 {d : Nat} {h : AH} (hs : Sh h) (x0 : Nat) (x1 : Int32) (u2 : Option Value) (s0 : Int32) :
    Q d 265 535 [some (.ref x0), some (.int x1), u2] [.int s0] h =
  if s0 = nI 0 then
   some (some (.int (nI 0)), h)
  else
   ck (gC h x0) 9 <|
   if gI h 2307 x0 = nI 138 then
    ck (gC h x0) 9 <|
    cK (E d 317 [.ref x0] h) (Q d 265 552 [some (.ref x0), some (.int x1), u2]) []
   else
    some (some (.int (nI 1)), h) := by
  rw [← hs.1]
  exact (blkM (fun p => Nat.beq p 552) 9 535 _ _ _).trans rfl

set_option maxRecDepth 16384 in
theorem t_265_589 {d : Nat} {h : AH} (hs : Sh h) (u0 : Option Value) (u1 : Option Value) (u2 : Option Value) (s0 : Int32) :
    Q d 265 589 [u0, u1, u2] [.int s0] h =
  if s0 = nI 0 then
   some (some (.int (nI 0)), h)
  else
   some (some (.int (nI 1)), h) := by
  rw [← hs.1]
  exact (blkM (fun p => false) 5 589 _ _ _).trans rfl

set_option maxRecDepth 16384 in
theorem t_265_158 {d : Nat} {h : AH} (hs : Sh h) (u0 : Option Value) (u1 : Option Value) (u2 : Option Value) (s0 : Int32) :
    Q d 265 158 [u0, u1, u2] [.int s0] h =
  if s0 = nI 0 then
   some (some (.int (nI 0)), h)
  else
   some (some (.int (nI 1)), h) := by
  rw [← hs.1]
  exact (blkM (fun p => false) 5 158 _ _ _).trans rfl

set_option maxRecDepth 16384 in
theorem t_265_197 {d : Nat} {h : AH} (hs : Sh h) (u0 : Option Value) (u1 : Option Value) (u2 : Option Value) (s0 : Int32) :
    Q d 265 197 [u0, u1, u2] [.int s0] h =
  if s0 = nI 0 then
   some (some (.int (nI 0)), h)
  else
   some (some (.int (nI 1)), h) := by
  rw [← hs.1]
  exact (blkM (fun p => false) 5 197 _ _ _).trans rfl

set_option maxRecDepth 16384 in
theorem t_265_233 {d : Nat} {h : AH} (hs : Sh h) (x0 : Nat) (u1 : Option Value) (u2 : Option Value) (s0 : Int32) :
    Q d 265 233 [some (.ref x0), u1, u2] [.int s0] h =
  if s0 = nI 0 then
   some (some (.int (nI 0)), h)
  else
   ck (gC h x0) 9 <|
   cK (E d 318 [.ref x0, .int (nI 59)] h) (Q d 265 242 [some (.ref x0), u1, u2]) [] := by
  rw [← hs.1]
  exact (blkM (fun p => Nat.beq p 242) 5 233 _ _ _).trans rfl

set_option maxRecDepth 16384 in
theorem t_265_310 {d : Nat} {h : AH} (hs : Sh h) (u0 : Option Value) (u1 : Option Value) (u2 : Option Value) (s0 : Int32) :
    Q d 265 310 [u0, u1, u2] [.int s0] h =
  if s0 = nI 0 then
   some (some (.int (nI 0)), h)
  else
   some (some (.int (nI 1)), h) := by
  rw [← hs.1]
  exact (blkM (fun p => false) 5 310 _ _ _).trans rfl

set_option maxRecDepth 16384 in
theorem t_265_348 {d : Nat} {h : AH} (hs : Sh h) (u0 : Option Value) (u1 : Option Value) (u2 : Option Value) (s0 : Int32) :
    Q d 265 348 [u0, u1, u2] [.int s0] h =
  if s0 = nI 0 then
   some (some (.int (nI 0)), h)
  else
   some (some (.int (nI 1)), h) := by
  rw [← hs.1]
  exact (blkM (fun p => false) 5 348 _ _ _).trans rfl

set_option maxRecDepth 16384 in
theorem t_265_386 {d : Nat} {h : AH} (hs : Sh h) (u0 : Option Value) (u1 : Option Value) (u2 : Option Value) (s0 : Int32) :
    Q d 265 386 [u0, u1, u2] [.int s0] h =
  if s0 = nI 0 then
   some (some (.int (nI 0)), h)
  else
   some (some (.int (nI 1)), h) := by
  rw [← hs.1]
  exact (blkM (fun p => false) 5 386 _ _ _).trans rfl

set_option maxRecDepth 16384 in
theorem t_265_445 {d : Nat} {h : AH} (hs : Sh h) (x0 : Nat) (u1 : Option Value) (u2 : Option Value) (s0 : Int32) :
    Q d 265 445 [some (.ref x0), u1, u2] [.int s0] h =
  if s0 = nI 0 then
   some (some (.int (nI 0)), h)
  else
   ck (gC h x0) 9 <|
   cK (E d 318 [.ref x0, .int (nI 59)] h) (Q d 265 454 [some (.ref x0), u1, u2]) [] := by
  rw [← hs.1]
  exact (blkM (fun p => Nat.beq p 454) 5 445 _ _ _).trans rfl

set_option maxRecDepth 16384 in
theorem t_265_552 {d : Nat} {h : AH} (hs : Sh h) (x0 : Nat) (x1 : Int32) (u2 : Option Value) (s0 : Int32) :
    Q d 265 552 [some (.ref x0), some (.int x1), u2] [.int s0] h =
  if s0 = nI 0 then
   some (some (.int (nI 0)), h)
  else
   ck (gC h x0) 9 <|
   cK (E d 325 [.ref x0, .int x1] h) (Q d 265 560 [some (.ref x0), some (.int x1), u2]) [] := by
  rw [← hs.1]
  exact (blkM (fun p => Nat.beq p 560) 5 552 _ _ _).trans rfl

set_option maxRecDepth 16384 in
theorem t_265_242 {d : Nat} {h : AH} (hs : Sh h) (u0 : Option Value) (u1 : Option Value) (u2 : Option Value) (s0 : Int32) :
    Q d 265 242 [u0, u1, u2] [.int s0] h =
  if s0 = nI 0 then
   some (some (.int (nI 0)), h)
  else
   some (some (.int (nI 1)), h) := by
  rw [← hs.1]
  exact (blkM (fun p => false) 5 242 _ _ _).trans rfl

set_option maxRecDepth 16384 in
theorem t_265_454 {d : Nat} {h : AH} (hs : Sh h) (u0 : Option Value) (u1 : Option Value) (u2 : Option Value) (s0 : Int32) :
    Q d 265 454 [u0, u1, u2] [.int s0] h =
  if s0 = nI 0 then
   some (some (.int (nI 0)), h)
  else
   some (some (.int (nI 1)), h) := by
  rw [← hs.1]
  exact (blkM (fun p => false) 5 454 _ _ _).trans rfl

set_option maxRecDepth 16384 in
theorem t_265_560 {d : Nat} {h : AH} (hs : Sh h) (u0 : Option Value) (u1 : Option Value) (u2 : Option Value) (s0 : Int32) :
    Q d 265 560 [u0, u1, u2] [.int s0] h =
  if s0 = nI 0 then
   some (some (.int (nI 0)), h)
  else
   some (some (.int (nI 1)), h) := by
  rw [← hs.1]
  exact (blkM (fun p => false) 5 560 _ _ _).trans rfl

/-! 266 PostRoom$Machine.doStatement(I)V -/
set_option maxRecDepth 16384 in
theorem t_266 {d : Nat} {h : AH} (hs : Sh h) (x1 : Int32) :
    E (d + 1) 266 [.ref 175, .int x1] h =
  cK (E d 328 [.ref 175] h) (Q d 266 4 [some (.ref 175), some (.int x1), none, none]) [] := by
  rw [← hs.1]
  exact entL (l := [some (.ref 175), some (.int x1), none, none]) rfl rfl ((blkM (fun p => Nat.beq p 4) 3 0 _ _ _).trans rfl)

set_option maxRecDepth 16384 in
theorem t_266_4 {d : Nat} {h : AH} (hs : Sh h) (x1 : Int32) (u2 : Option Value) (u3 : Option Value) (s0 : Int32) :
    Q d 266 4 [some (.ref 175), some (.int x1), u2, u3] [.int s0] h =
  if s0 = nI 139 then
   (gR h 1544 175).bind fun y1 =>
    ck (gC h y1) 9 <|
    cK (E d 330 [.ref y1, .int (gI h 1545 175)] h) (Q d 266 31 [some (.ref 175), some (.int x1), some (.int s0), none]) []
  else
   cK (E d 329 [.ref 175] h) (Q d 266 16 [some (.ref 175), some (.int x1), some (.int s0), u3]) [] := by
  rw [← hs.1]
  exact (blkM (fun p => Nat.beq p 16 || Nat.beq p 31) 10 4 _ _ _).trans rfl

set_option maxRecDepth 16384 in
theorem t_266_16 {d : Nat} {h : AH} (hs : Sh h) (x1 : Int32) (x2 : Int32) (u3 : Option Value) (s0 : Int32) :
    Q d 266 16 [some (.ref 175), some (.int x1), some (.int x2), u3] [.int s0] h =
  if s0 = nI 0 then
   some (none, h)
  else
   (gR h 1544 175).bind fun y1 =>
    ck (gC h y1) 9 <|
    cK (E d 330 [.ref y1, .int (gI h 1545 175)] h) (Q d 266 31 [some (.ref 175), some (.int x1), some (.int x2), none]) [] := by
  rw [← hs.1]
  exact (blkM (fun p => Nat.beq p 31) 7 16 _ _ _).trans rfl

set_option maxRecDepth 16384 in
theorem t_266_31 {d : Nat} {h : AH} (hs : Sh h) (x1 : Int32) (x2 : Int32) (u3 : Option Value) (s0 : Int32) :
    Q d 266 31 [some (.ref 175), some (.int x1), some (.int x2), u3] [.int s0] h =
  if x2 = nI 4 then
   cK (E d 331 [.ref 175, .int s0, .int x1] (sI h 1545 175 ((gI h 1545 175) + (nI 1)))) (Q d 266 162 [some (.ref 175), some (.int x1), some (.int x2), some (.int s0)]) []
  else
   if x2 = nI 5 then
   cK (E d 332 [.ref 175, .int s0, .int x1] (sI h 1545 175 ((gI h 1545 175) + (nI 1)))) (Q d 266 171 [some (.ref 175), some (.int x1), some (.int x2), some (.int s0)]) []
  else
   if x2 = nI 128 then
   cK (E d 333 [.ref 175, .int x1] (sI h 1545 175 ((gI h 1545 175) + (nI 1)))) (Q d 266 179 [some (.ref 175), some (.int x1), some (.int x2), some (.int s0)]) []
  else
   if x2 = nI 129 then
   cK (E d 334 [.ref 175, .int x1] (sI h 1545 175 ((gI h 1545 175) + (nI 1)))) (Q d 266 187 [some (.ref 175), some (.int x1), some (.int x2), some (.int s0)]) []
  else
   if x2 = nI 130 then
   cK (E d 335 [.ref 175, .int x1] (sI h 1545 175 ((gI h 1545 175) + (nI 1)))) (Q d 266 195 [some (.ref 175), some (.int x1), some (.int x2), some (.int s0)]) []
  else
   if x2 = nI 131 then
   cK (E d 336 [.ref 175, .int x1] (sI h 1545 175 ((gI h 1545 175) + (nI 1)))) (Q d 266 203 [some (.ref 175), some (.int x1), some (.int x2), some (.int s0)]) []
  else
   if x2 = nI 132 then
   cK (E d 337 [.ref 175, .int x1] (sI h 1545 175 ((gI h 1545 175) + (nI 1)))) (Q d 266 211 [some (.ref 175), some (.int x1), some (.int x2), some (.int s0)]) []
  else
   if x2 = nI 133 then
   cK (E d 338 [.ref 175, .int x1] (sI h 1545 175 ((gI h 1545 175) + (nI 1)))) (Q d 266 219 [some (.ref 175), some (.int x1), some (.int x2), some (.int s0)]) []
  else
   if x2 = nI 134 then
   cK (E d 339 [.ref 175, .int x1] (sI h 1545 175 ((gI h 1545 175) + (nI 1)))) (Q d 266 227 [some (.ref 175), some (.int x1), some (.int x2), some (.int s0)]) []
  else
   if x2 = nI 135 then
   cK (E d 340 [.ref 175, .int x1] (sI h 1545 175 ((gI h 1545 175) + (nI 1)))) (Q d 266 235 [some (.ref 175), some (.int x1), some (.int x2), some (.int s0)]) []
  else
   if x2 = nI 136 then
   Q d 266 268 [none, none, none, none] [] (sI (sI h 1545 175 ((gI h 1545 175) + (nI 1))) 1547 175 (nI 12))
  else
   if x2 = nI 137 then
   cK (E d 341 [.ref 175, .int x1] (sI h 1545 175 ((gI h 1545 175) + (nI 1)))) (Q d 266 252 [some (.ref 175), some (.int x1), some (.int x2), some (.int s0)]) []
  else
   if x2 = nI 139 then
   cK (E d 342 [.ref 175, .int x1] (sI h 1545 175 ((gI h 1545 175) + (nI 1)))) (Q d 266 260 [some (.ref 175), some (.int x1), some (.int x2), some (.int s0)]) []
  else
   cK (E d 343 [.ref 175, .int x1] (sI h 1545 175 ((gI h 1545 175) + (nI 1)))) (Q d 266 268 [none, none, none, none]) [] := by
  rw [← hs.1]
  exact (blkM (fun p => Nat.beq p 162 || Nat.beq p 171 || Nat.beq p 179 || Nat.beq p 187 || Nat.beq p 195 || Nat.beq p 203 || Nat.beq p 211 || Nat.beq p 219 || Nat.beq p 227 || Nat.beq p 235 || Nat.beq p 252 || Nat.beq p 260 || Nat.beq p 268) 15 31 _ _ _).trans rfl

set_option maxRecDepth 16384 in
theorem t_266_162 {d : Nat} {h : AH} (hs : Sh h) (u0 : Option Value) (u1 : Option Value) (u2 : Option Value) (u3 : Option Value) :
    Q d 266 162 [u0, u1, u2, u3] [] h =
  Q d 266 268 [none, none, none, none] [] h := by
  rw [← hs.1]
  exact (blkM (fun p => Nat.beq p 268) 3 162 _ _ _).trans rfl

set_option maxRecDepth 16384 in
theorem t_266_171 {d : Nat} {h : AH} (hs : Sh h) (u0 : Option Value) (u1 : Option Value) (u2 : Option Value) (u3 : Option Value) :
    Q d 266 171 [u0, u1, u2, u3] [] h =
  Q d 266 268 [none, none, none, none] [] h := by
  rw [← hs.1]
  exact (blkM (fun p => Nat.beq p 268) 3 171 _ _ _).trans rfl

set_option maxRecDepth 16384 in
theorem t_266_179 {d : Nat} {h : AH} (hs : Sh h) (u0 : Option Value) (u1 : Option Value) (u2 : Option Value) (u3 : Option Value) :
    Q d 266 179 [u0, u1, u2, u3] [] h =
  Q d 266 268 [none, none, none, none] [] h := by
  rw [← hs.1]
  exact (blkM (fun p => Nat.beq p 268) 3 179 _ _ _).trans rfl

set_option maxRecDepth 16384 in
theorem t_266_187 {d : Nat} {h : AH} (hs : Sh h) (u0 : Option Value) (u1 : Option Value) (u2 : Option Value) (u3 : Option Value) :
    Q d 266 187 [u0, u1, u2, u3] [] h =
  Q d 266 268 [none, none, none, none] [] h := by
  rw [← hs.1]
  exact (blkM (fun p => Nat.beq p 268) 3 187 _ _ _).trans rfl

set_option maxRecDepth 16384 in
theorem t_266_195 {d : Nat} {h : AH} (hs : Sh h) (u0 : Option Value) (u1 : Option Value) (u2 : Option Value) (u3 : Option Value) :
    Q d 266 195 [u0, u1, u2, u3] [] h =
  Q d 266 268 [none, none, none, none] [] h := by
  rw [← hs.1]
  exact (blkM (fun p => Nat.beq p 268) 3 195 _ _ _).trans rfl

set_option maxRecDepth 16384 in
theorem t_266_203 {d : Nat} {h : AH} (hs : Sh h) (u0 : Option Value) (u1 : Option Value) (u2 : Option Value) (u3 : Option Value) :
    Q d 266 203 [u0, u1, u2, u3] [] h =
  Q d 266 268 [none, none, none, none] [] h := by
  rw [← hs.1]
  exact (blkM (fun p => Nat.beq p 268) 3 203 _ _ _).trans rfl

set_option maxRecDepth 16384 in
theorem t_266_211 {d : Nat} {h : AH} (hs : Sh h) (u0 : Option Value) (u1 : Option Value) (u2 : Option Value) (u3 : Option Value) :
    Q d 266 211 [u0, u1, u2, u3] [] h =
  Q d 266 268 [none, none, none, none] [] h := by
  rw [← hs.1]
  exact (blkM (fun p => Nat.beq p 268) 3 211 _ _ _).trans rfl

set_option maxRecDepth 16384 in
theorem t_266_219 {d : Nat} {h : AH} (hs : Sh h) (u0 : Option Value) (u1 : Option Value) (u2 : Option Value) (u3 : Option Value) :
    Q d 266 219 [u0, u1, u2, u3] [] h =
  Q d 266 268 [none, none, none, none] [] h := by
  rw [← hs.1]
  exact (blkM (fun p => Nat.beq p 268) 3 219 _ _ _).trans rfl

set_option maxRecDepth 16384 in
theorem t_266_227 {d : Nat} {h : AH} (hs : Sh h) (u0 : Option Value) (u1 : Option Value) (u2 : Option Value) (u3 : Option Value) :
    Q d 266 227 [u0, u1, u2, u3] [] h =
  Q d 266 268 [none, none, none, none] [] h := by
  rw [← hs.1]
  exact (blkM (fun p => Nat.beq p 268) 3 227 _ _ _).trans rfl

set_option maxRecDepth 16384 in
theorem t_266_235 {d : Nat} {h : AH} (hs : Sh h) (u0 : Option Value) (u1 : Option Value) (u2 : Option Value) (u3 : Option Value) :
    Q d 266 235 [u0, u1, u2, u3] [] h =
  Q d 266 268 [none, none, none, none] [] h := by
  rw [← hs.1]
  exact (blkM (fun p => Nat.beq p 268) 3 235 _ _ _).trans rfl

set_option maxRecDepth 16384 in
theorem t_266_252 {d : Nat} {h : AH} (hs : Sh h) (u0 : Option Value) (u1 : Option Value) (u2 : Option Value) (u3 : Option Value) :
    Q d 266 252 [u0, u1, u2, u3] [] h =
  Q d 266 268 [none, none, none, none] [] h := by
  rw [← hs.1]
  exact (blkM (fun p => Nat.beq p 268) 3 252 _ _ _).trans rfl

set_option maxRecDepth 16384 in
theorem t_266_260 {d : Nat} {h : AH} (hs : Sh h) (u0 : Option Value) (u1 : Option Value) (u2 : Option Value) (u3 : Option Value) :
    Q d 266 260 [u0, u1, u2, u3] [] h =
  Q d 266 268 [none, none, none, none] [] h := by
  rw [← hs.1]
  exact (blkM (fun p => Nat.beq p 268) 3 260 _ _ _).trans rfl

set_option maxRecDepth 16384 in
theorem t_266_268 {d : Nat} {h : AH} (hs : Sh h)  :
    Q d 266 268 [none, none, none, none] [] h =
  some (none, h) := by
  rw [← hs.1]
  exact (blkM (fun p => false) 2 268 _ _ _).trans rfl

/-! 267 java/util/Objects.checkIndex(II)I -/
set_option maxRecDepth 16384 in
theorem t_267 {d : Nat} {h : AH} (hs : Sh h) (x0 : Int32) (x1 : Int32) :
    E (d + 1) 267 [.int x0, .int x1] h =
  cK (E d 344 [.int x0, .int x1, .null] h) (Q d 267 6 [some (.int x0), some (.int x1)]) [] := by
  rw [← hs.1]
  exact entL (l := [some (.int x0), some (.int x1)]) rfl rfl ((blkM (fun p => Nat.beq p 6) 5 0 _ _ _).trans rfl)

set_option maxRecDepth 16384 in
theorem t_267_6 {d : Nat} {h : AH} (hs : Sh h) (u0 : Option Value) (u1 : Option Value) (s0 : Int32) :
    Q d 267 6 [u0, u1] [.int s0] h =
  some (some (.int s0), h) := by
  rw [← hs.1]
  exact (blkM (fun p => false) 2 6 _ _ _).trans rfl

/-! 268 java/util/ArrayList.elementData(I)Ljava/lang/Object; -/
set_option maxRecDepth 16384 in
theorem t_268 {d : Nat} {h : AH} (hs : Sh h) (x0 : Nat) (x1 : Int32) :
    E (d + 1) 268 [.ref x0, .int x1] h =
  (ck (gC h x0) 1 <|
  (gR h 257 x0).bind fun y1 =>
   ck (gC h y1) 65 <|
   gd x1 (gK h y1) <|
   (gO h y1 (ix x1)).bind fun y2 =>
    some (some (.ref y2), h)) := by
  rw [← hs.1]
  exact entL (l := [some (.ref x0), some (.int x1)]) rfl rfl ((blkM (fun p => false) 6 0 _ _ _).trans rfl)

