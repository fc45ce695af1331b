/-! ===== THE NINE METHODS THAT THROW, UP TO THEIR THROWS (made by wip/gen2/gent.py) ===== -/
set_option maxRecDepth 16384 in
theorem q_20 {d : Nat} {h : AH} (hs : Sh h) (x1 : Int32) (x2 : Int32) (x3 : Int32) (x4 : Int32) :
    TQ 37 d 20 0 [some (.ref 100), some (.int x1), some (.int x2), some (.int x3), some (.int x4), none] [] h =
  (gR h 2048 156).bind fun y1 =>
   ck (gC h y1) 2 <|
   cK (E d 218 [.ref y1, .int x1] h) (TQ 37 d 20 15 [some (.ref 100), some (.int x1), some (.int x2), some (.int x3), some (.int x4), some (.ref y1)]) [] := by
  rw [← hs.1]
  exact (blkT (fun p => Nat.beq p 15 || Nat.beq p 37) 8 0 rfl rfl _ _ _).trans rfl

set_option maxRecDepth 16384 in
theorem q_20_15 {d : Nat} {h : AH} (hs : Sh h) (x1 : Int32) (x2 : Int32) (x3 : Int32) (x4 : Int32) (x5 : Nat) (u0 : Option Value) (s0 : Int32) :
    TQ 37 d 20 15 [u0, some (.int x1), some (.int x2), some (.int x3), some (.int x4), some (.ref x5)] [.int s0] h =
  if s0 = nI 0 then
   TQ 37 d 20 37 [u0, some (.int x1), some (.int x2), some (.int x3), some (.int x4), some (.ref x5)] [] h
  else
   ck (gC h x5) 2 <|
   cK (E d 203 [.ref x5, .int x3] h) (TQ 37 d 20 24 [u0, some (.int x1), some (.int x2), some (.int x3), some (.int x4), some (.ref x5)]) [] := by
  rw [← hs.1]
  exact (blkT (fun p => Nat.beq p 24 || Nat.beq p 37) 5 15 rfl rfl _ _ _).trans rfl

set_option maxRecDepth 16384 in
theorem q_20_24 {d : Nat} {h : AH} (hs : Sh h) (x1 : Int32) (x2 : Int32) (x3 : Int32) (x4 : Int32) (x5 : Nat) (u0 : Option Value) (s0 : Int32) :
    TQ 37 d 20 24 [u0, some (.int x1), some (.int x2), some (.int x3), some (.int x4), some (.ref x5)] [.int s0] h =
  if s0 = nI 0 then
   TQ 37 d 20 37 [u0, some (.int x1), some (.int x2), some (.int x3), some (.int x4), some (.ref x5)] [] h
  else
   ck (gC h x5) 2 <|
   cK (E d 203 [.ref x5, .int x4] h) (TQ 37 d 20 34 [u0, some (.int x1), some (.int x2), some (.int x3), some (.int x4), some (.ref x5)]) [] := by
  rw [← hs.1]
  exact (blkT (fun p => Nat.beq p 34 || Nat.beq p 37) 5 24 rfl rfl _ _ _).trans rfl

set_option maxRecDepth 16384 in
theorem q_20_34 {d : Nat} {h : AH} (hs : Sh h) (x1 : Int32) (x2 : Int32) (x3 : Int32) (x4 : Int32) (x5 : Nat) (u0 : Option Value) (s0 : Int32) :
    TQ 37 d 20 34 [u0, some (.int x1), some (.int x2), some (.int x3), some (.int x4), some (.ref x5)] [.int s0] h =
  if s0 = nI 0 then
   TQ 37 d 20 37 [u0, some (.int x1), some (.int x2), some (.int x3), some (.int x4), some (.ref x5)] [] h
  else
   ck (gC h x5) 2 <|
   cK (E d 219 [.ref x5, .int x1, .int x2, .int x3, .int x4] h) (TQ 37 d 20 57 [u0, some (.int x1), some (.int x2), some (.int x3), some (.int x4), some (.ref x5)]) [] := by
  rw [← hs.1]
  exact (blkT (fun p => Nat.beq p 37 || Nat.beq p 57) 8 34 rfl rfl _ _ _).trans rfl

set_option maxRecDepth 16384 in
theorem q_21 {d : Nat} {h : AH} (hs : Sh h) (x1 : Int32) (x2 : Int32) :
    TQ 28 d 21 0 [some (.ref 100), some (.int x1), some (.int x2)] [] h =
  (gR h 2048 156).bind fun y1 =>
   ck (gC h y1) 2 <|
   cK (E d 203 [.ref y1, .int x1] h) (TQ 28 d 21 11 [some (.ref 100), some (.int x1), some (.int x2)]) [] := by
  rw [← hs.1]
  exact (blkT (fun p => Nat.beq p 11 || Nat.beq p 28) 6 0 rfl rfl _ _ _).trans rfl

set_option maxRecDepth 16384 in
theorem q_21_11 {d : Nat} {h : AH} (hs : Sh h) (x1 : Int32) (x2 : Int32) (s0 : Int32) :
    TQ 28 d 21 11 [some (.ref 100), some (.int x1), some (.int x2)] [.int s0] h =
  if s0 = nI 0 then
   TQ 28 d 21 28 [some (.ref 100), some (.int x1), some (.int x2)] [] h
  else
   (gR h 2048 156).bind fun y1 =>
    ck (gC h y1) 2 <|
    cK (E d 203 [.ref y1, .int x2] h) (TQ 28 d 21 25 [some (.ref 100), some (.int x1), some (.int x2)]) [] := by
  rw [← hs.1]
  exact (blkT (fun p => Nat.beq p 25 || Nat.beq p 28) 7 11 rfl rfl _ _ _).trans rfl

set_option maxRecDepth 16384 in
theorem q_21_25 {d : Nat} {h : AH} (hs : Sh h) (x1 : Int32) (x2 : Int32) (s0 : Int32) :
    TQ 28 d 21 25 [some (.ref 100), some (.int x1), some (.int x2)] [.int s0] h =
  if s0 = nI 0 then
   TQ 28 d 21 28 [some (.ref 100), some (.int x1), some (.int x2)] [] h
  else
   cK (E d 220 [.ref 156, .int x1, .int x2] h) (TQ 28 d 21 47 [some (.ref 100), some (.int x1), some (.int x2)]) [] := by
  rw [← hs.1]
  exact (blkT (fun p => Nat.beq p 28 || Nat.beq p 47) 7 25 rfl rfl _ _ _).trans rfl

set_option maxRecDepth 16384 in
theorem q_22 {d : Nat} {h : AH} (hs : Sh h) (x1 : Int32) (x2 : Int32) (x3 : Int32) :
    TQ 33 d 22 0 [some (.ref 100), some (.int x1), some (.int x2), some (.int x3), none, none] [] h =
  cK (E d 5 [.ref 100] h) (TQ 33 d 22 4 [some (.ref 100), some (.int x1), some (.int x2), some (.int x3), none, none]) [] := by
  rw [← hs.1]
  exact (blkT (fun p => Nat.beq p 4 || Nat.beq p 33) 3 0 rfl rfl _ _ _).trans rfl

set_option maxRecDepth 16384 in
theorem q_22_4 {d : Nat} {h : AH} (hs : Sh h) (x1 : Int32) (x2 : Int32) (x3 : Int32) (u4 : Option Value) (u5 : Option Value) (s0 : Int32) :
    TQ 33 d 22 4 [some (.ref 100), some (.int x1), some (.int x2), some (.int x3), u4, u5] [.int s0] h =
  (gR h 2048 156).bind fun y1 =>
   ck (gC h y1) 2 <|
   cK (E d 218 [.ref y1, .int x1] h) (TQ 33 d 22 21 [some (.ref 100), some (.int x1), some (.int x2), some (.int x3), some (.int s0), some (.ref y1)]) [] := by
  rw [← hs.1]
  exact (blkT (fun p => Nat.beq p 21 || Nat.beq p 33) 9 4 rfl rfl _ _ _).trans rfl

set_option maxRecDepth 16384 in
theorem q_22_21 {d : Nat} {h : AH} (hs : Sh h) (x1 : Int32) (x2 : Int32) (x3 : Int32) (x4 : Int32) (x5 : Nat) (s0 : Int32) :
    TQ 33 d 22 21 [some (.ref 100), some (.int x1), some (.int x2), some (.int x3), some (.int x4), some (.ref x5)] [.int s0] h =
  if s0 = nI 0 then
   TQ 33 d 22 33 [some (.ref 100), some (.int x1), some (.int x2), some (.int x3), some (.int x4), some (.ref x5)] [] h
  else
   ck (gC h x5) 2 <|
   cK (E d 203 [.ref x5, .int x3] h) (TQ 33 d 22 30 [some (.ref 100), some (.int x1), some (.int x2), some (.int x3), some (.int x4), some (.ref x5)]) [] := by
  rw [← hs.1]
  exact (blkT (fun p => Nat.beq p 30 || Nat.beq p 33) 5 21 rfl rfl _ _ _).trans rfl

set_option maxRecDepth 16384 in
theorem q_22_30 {d : Nat} {h : AH} (hs : Sh h) (x1 : Int32) (x2 : Int32) (x3 : Int32) (x4 : Int32) (x5 : Nat) (s0 : Int32) :
    TQ 33 d 22 30 [some (.ref 100), some (.int x1), some (.int x2), some (.int x3), some (.int x4), some (.ref x5)] [.int s0] h =
  if s0 = nI 0 then
   TQ 33 d 22 33 [some (.ref 100), some (.int x1), some (.int x2), some (.int x3), some (.int x4), some (.ref x5)] [] h
  else
   if x4 < nI 0 then
    some (some (.int x4), h)
   else
    ck (gC h x5) 2 <|
    (gR h 514 x5).bind fun y1 =>
     ck (gC h y1) 1 <|
     cK (E d 212 [.ref y1, .int x1] h) (TQ 33 d 22 60 [some (.ref 100), some (.int x1), some (.int x2), some (.int x3), some (.int x4), some (.ref x5)]) [] := by
  rw [← hs.1]
  exact (blkT (fun p => Nat.beq p 33 || Nat.beq p 60) 8 30 rfl rfl _ _ _).trans rfl

set_option maxRecDepth 16384 in
theorem q_23 {d : Nat} {h : AH} (hs : Sh h) (x1 : Int32) (x2 : Int32) :
    TQ 21 d 23 0 [some (.ref 100), some (.int x1), some (.int x2)] [] h =
  cK (E d 223 [.ref 156, .int x1] h) (TQ 21 d 23 8 [some (.ref 100), some (.int x1), some (.int x2)]) [] := by
  rw [← hs.1]
  exact (blkT (fun p => Nat.beq p 8 || Nat.beq p 21) 5 0 rfl rfl _ _ _).trans rfl

set_option maxRecDepth 16384 in
theorem q_23_8 {d : Nat} {h : AH} (hs : Sh h) (x1 : Int32) (x2 : Int32) (s0 : Int32) :
    TQ 21 d 23 8 [some (.ref 100), some (.int x1), some (.int x2)] [.int s0] h =
  if s0 = nI 0 then
   TQ 21 d 23 21 [some (.ref 100), some (.int x1), some (.int x2)] [] h
  else
   if x2 < nI 0 then
    TQ 21 d 23 21 [some (.ref 100), some (.int x1), some (.int x2)] [] h
   else
    if x2 < nI 33 then
     cK (E d 212 [.ref 164, .int x1] h) (TQ 21 d 23 42 [some (.ref 100), some (.int x1), some (.int x2)]) []
    else
     TQ 21 d 23 21 [some (.ref 100), some (.int x1), some (.int x2)] [] h := by
  rw [← hs.1]
  exact (blkT (fun p => Nat.beq p 21 || Nat.beq p 42) 12 8 rfl rfl _ _ _).trans rfl

set_option maxRecDepth 16384 in
theorem q_24 {d : Nat} {h : AH} (hs : Sh h) (x1 : Int32) :
    TQ 16 d 24 0 [some (.ref 100), some (.int x1)] [] h =
  if x1 < nI 0 then
   TQ 16 d 24 16 [some (.ref 100), some (.int x1)] [] h
  else
   if x1 < nI 10 then
    gd x1 10 <|
    some (some (.long (gB h 176 (ix x1))), h)
   else
    TQ 16 d 24 16 [some (.ref 100), some (.int x1)] [] h := by
  rw [← hs.1]
  exact (blkT (fun p => Nat.beq p 16) 15 0 rfl rfl _ _ _).trans rfl

set_option maxRecDepth 16384 in
theorem q_25 {d : Nat} {h : AH} (hs : Sh h) (x1 : Int32) :
    TQ 16 d 25 0 [some (.ref 100), some (.int x1)] [] h =
  if x1 < nI 0 then
   TQ 16 d 25 16 [some (.ref 100), some (.int x1)] [] h
  else
   if x1 < nI 4 then
    gd x1 4 <|
    some (some (.int (gA h 177 (ix x1))), h)
   else
    TQ 16 d 25 16 [some (.ref 100), some (.int x1)] [] h := by
  rw [← hs.1]
  exact (blkT (fun p => Nat.beq p 16) 15 0 rfl rfl _ _ _).trans rfl

set_option maxRecDepth 16384 in
theorem q_26 {d : Nat} {h : AH} (hs : Sh h) (x1 : Int32) (x2 : Int32) :
    TQ 10 d 26 0 [some (.ref 100), some (.int x1), some (.int x2)] [] h =
  if x1 < nI 0 then
   TQ 10 d 26 10 [some (.ref 100), some (.int x1), some (.int x2)] [] h
  else
   if x1 < nI 12 then
    cK (E d 224 [.ref 175, .int x1, .int x2] h) (TQ 10 d 26 29 [some (.ref 100), some (.int x1), some (.int x2)]) []
   else
    TQ 10 d 26 10 [some (.ref 100), some (.int x1), some (.int x2)] [] h := by
  rw [← hs.1]
  exact (blkT (fun p => Nat.beq p 10 || Nat.beq p 29) 11 0 rfl rfl _ _ _).trans rfl

set_option maxRecDepth 16384 in
theorem q_27 {d : Nat} {h : AH} (hs : Sh h) (x1 : Int32) (x2 : Int32) :
    TQ 39 d 27 0 [some (.ref 100), some (.int x1), some (.int x2)] [] h =
  if x1 < nI 0 then
   TQ 39 d 27 39 [some (.ref 100), some (.int x1), some (.int x2)] [] h
  else
   if x1 < nI 12 then
    gd x1 12 <|
    if gA h 178 (ix x1) = nI 0 then
     TQ 39 d 27 39 [some (.ref 100), some (.int x1), some (.int x2)] [] h
    else
     if x2 < nI 0 then
      TQ 39 d 27 39 [some (.ref 100), some (.int x1), some (.int x2)] [] h
     else
      gd x1 12 <|
      if x2 < gA h 180 (ix x1) then
       gd x1 12 <|
       gd ((gA h 179 (ix x1)) + x2) 2000 <|
       some (some (.long (gB h 182 (ix ((gA h 179 (ix x1)) + x2)))), h)
      else
       TQ 39 d 27 39 [some (.ref 100), some (.int x1), some (.int x2)] [] h
   else
    TQ 39 d 27 39 [some (.ref 100), some (.int x1), some (.int x2)] [] h := by
  rw [← hs.1]
  exact (blkT (fun p => Nat.beq p 39) 33 0 rfl rfl _ _ _).trans rfl

set_option maxRecDepth 16384 in
theorem q_28 {d : Nat} {h : AH} (hs : Sh h) (x1 : Int32) (x2 : Int32) :
    TQ 21 d 28 0 [some (.ref 100), some (.int x1), some (.int x2)] [] h =
  cK (E d 223 [.ref 156, .int x1] h) (TQ 21 d 28 8 [some (.ref 100), some (.int x1), some (.int x2)]) [] := by
  rw [← hs.1]
  exact (blkT (fun p => Nat.beq p 8 || Nat.beq p 21) 5 0 rfl rfl _ _ _).trans rfl

set_option maxRecDepth 16384 in
theorem q_28_8 {d : Nat} {h : AH} (hs : Sh h) (x1 : Int32) (x2 : Int32) (s0 : Int32) :
    TQ 21 d 28 8 [some (.ref 100), some (.int x1), some (.int x2)] [.int s0] h =
  if s0 = nI 0 then
   TQ 21 d 28 21 [some (.ref 100), some (.int x1), some (.int x2)] [] h
  else
   if x2 < nI 0 then
    TQ 21 d 28 21 [some (.ref 100), some (.int x1), some (.int x2)] [] h
   else
    if (nI 10) < x2 then
     TQ 21 d 28 21 [some (.ref 100), some (.int x1), some (.int x2)] [] h
    else
     cK (E d 212 [.ref 164, .int x1] h) (TQ 21 d 28 42 [some (.ref 100), some (.int x1), some (.int x2)]) [] := by
  rw [← hs.1]
  exact (blkT (fun p => Nat.beq p 21 || Nat.beq p 42) 12 8 rfl rfl _ _ _).trans rfl
