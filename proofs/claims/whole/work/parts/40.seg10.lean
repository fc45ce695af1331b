/-! ===== THE METHODS, PIECE BY PIECE: 10 (made by wip/gen/gen40.py) ===== -/
/-! 349 java/util/Arrays.copyOf([II)[I -/
set_option maxRecDepth 16384 in
theorem t_349 {d : Nat} {h : AH} (hs : Sh h) (x0 : Nat) (x1 : Int32) :
    E (d + 1) 349 [.ref x0, .int x1] h =
  if 60 ≤ gC h x0 ∧ gC h x0 ≤ 66 then
   if x1 = nI (gK h x0) then
    none
   else
    if x1 < 0 then
     none
    else
     if ix x1 ≤ 1000000 then
      Q d 349 17 [some (.ref x0), some (.int x1), none] [.ref (gN h)] (nwA h 60 (ix x1))
     else
      none
  else
   none := by
  rw [← hs.1]
  exact entL (l := [some (.ref x0), some (.int x1), none]) rfl rfl ((blkM (fun p => Nat.beq p 17) 8 0 _ _ _).trans rfl)

set_option maxRecDepth 16384 in
theorem t_349_17 {d : Nat} {h : AH} (hs : Sh h) (x0 : Nat) (x1 : Int32) (u2 : Option Value) (s0 : Nat) :
    Q d 349 17 [some (.ref x0), some (.int x1), u2] [.ref s0] h =
  if 60 ≤ gC h x0 ∧ gC h x0 ≤ 66 then
   cK (E d 302 [.int (nI (gK h x0)), .int x1] h) (Q d 349 28 [some (.ref x0), some (.int x1), some (.ref s0)]) [.int (nI 0), .ref s0, .int (nI 0), .ref x0]
  else
   none := by
  rw [← hs.1]
  exact (blkM (fun p => Nat.beq p 28) 10 17 _ _ _).trans rfl

set_option maxRecDepth 16384 in
theorem t_349_28 {d : Nat} {h : AH} (hs : Sh h) (x2 : Nat) (u0 : Option Value) (u1 : Option Value) (s0 : Nat) (s1 : Int32) (s2 : Nat) (s3 : Int32) (s4 : Int32) :
    Q d 349 28 [u0, u1, some (.ref x2)] [.int s4, .int s3, .ref s2, .int s1, .ref s0] h =
  if gC h s0 = 60 ∧ gC h s2 = 60 ∧ 100 ≤ s0 ∧ 100 ≤ s2 ∧ 0 ≤ 20 then
   if s4 < 0 ∨ s3 < 0 ∨ s1 < 0 then
   none
  else
   if ix s1 + ix s4 ≤ gK h s0 ∧ ix s3 + ix s4 ≤ gK h s2 then
    some (some (.ref x2), cpA h s0 (ix s1) s2 (ix s3) (ix s4))
   else
    none
  else
   none := by
  rw [← hs.1]
  exact (blkM (fun p => false) 4 28 _ _ _).trans rfl

/-! 350 PostRoom$Book.readRule(LPostRoom$Service;II)Z -/
set_option maxRecDepth 16384 in
theorem t_350 {d : Nat} {h : AH} (hs : Sh h) (x0 : Nat) (x1 : Nat) (x2 : Int32) (x3 : Int32) :
    E (d + 1) 350 [.ref x0, .ref x1, .int x2, .int x3] h =
  (ck (gC h x1) 10 <|
  (gR h 2564 x1).bind fun y1 =>
   cw (gC h y1) 60 y1 <|
   gd x2 (gK h y1) <|
   if x3 = nI 1 then
    ck (gC h x0) 2 <|
    cK (E d 280 [.ref x0, .int (nI 1), .int (nI 4000)] (sA h y1 (ix x2) x3)) (Q d 350 20 [some (.ref x0), some (.ref x1), some (.int x2), some (.int x3)]) []
   else
    if x3 = nI 2 then
     ck (gC h x0) 2 <|
     cK (E d 280 [.ref x0, .int (nI 0), .int (nI 9)] (sA h y1 (ix x2) x3)) (Q d 350 35 [some (.ref x0), some (.ref x1), some (.int x2), some (.int x3)]) []
    else
     ck (gC h x1) 10 <|
     (gR h 2566 x1).bind fun y2 =>
      ck (gC h x0) 2 <|
      (gR h 520 x0).bind fun y3 =>
       ck (gC h y3) 12 <|
       cw (gC h y2) 60 y2 <|
       gd x2 (gK h y2) <|
       if x3 = nI 6 then
        ck (gC h x0) 2 <|
        cK (E d 280 [.ref x0, .int (nI 1), .int (nI 99)] (sA (sA h y1 (ix x2) x3) y2 (ix x2) (gI h 3077 y3))) (Q d 350 66 [some (.ref x0), some (.ref x1), some (.int x2), some (.int x3)]) []
       else
        ck (gC h x0) 2 <|
        cK (E d 280 [.ref x0, .int (nI 0), .int (nI 9999)] (sA (sA h y1 (ix x2) x3) y2 (ix x2) (gI h 3077 y3))) (Q d 350 80 [some (.ref x0), some (.ref x1), some (.int x2), some (.int x3)]) []) := by
  rw [← hs.1]
  exact entL (l := [some (.ref x0), some (.ref x1), some (.int x2), some (.int x3)]) rfl rfl ((blkM (fun p => Nat.beq p 20 || Nat.beq p 35 || Nat.beq p 66 || Nat.beq p 80) 26 0 _ _ _).trans rfl)

set_option maxRecDepth 16384 in
theorem t_350_20 {d : Nat} {h : AH} (hs : Sh h) (x0 : Nat) (x1 : Nat) (x2 : Int32) (x3 : Int32) (s0 : Int32) :
    Q d 350 20 [some (.ref x0), some (.ref x1), some (.int x2), some (.int x3)] [.int s0] h =
  if s0 = nI 0 then
   some (some (.int (nI 0)), h)
  else
   if x3 = nI 2 then
    ck (gC h x0) 2 <|
    cK (E d 280 [.ref x0, .int (nI 0), .int (nI 9)] h) (Q d 350 35 [some (.ref x0), some (.ref x1), some (.int x2), some (.int x3)]) []
   else
    ck (gC h x1) 10 <|
    (gR h 2566 x1).bind fun y1 =>
     ck (gC h x0) 2 <|
     (gR h 520 x0).bind fun y2 =>
      ck (gC h y2) 12 <|
      cw (gC h y1) 60 y1 <|
      gd x2 (gK h y1) <|
      if x3 = nI 6 then
       ck (gC h x0) 2 <|
       cK (E d 280 [.ref x0, .int (nI 1), .int (nI 99)] (sA h y1 (ix x2) (gI h 3077 y2))) (Q d 350 66 [some (.ref x0), some (.ref x1), some (.int x2), some (.int x3)]) []
      else
       ck (gC h x0) 2 <|
       cK (E d 280 [.ref x0, .int (nI 0), .int (nI 9999)] (sA h y1 (ix x2) (gI h 3077 y2))) (Q d 350 80 [some (.ref x0), some (.ref x1), some (.int x2), some (.int x3)]) [] := by
  rw [← hs.1]
  exact (blkM (fun p => Nat.beq p 35 || Nat.beq p 66 || Nat.beq p 80) 19 20 _ _ _).trans rfl

set_option maxRecDepth 16384 in
theorem t_350_35 {d : Nat} {h : AH} (hs : Sh h) (x0 : Nat) (x1 : Nat) (x2 : Int32) (x3 : Int32) (s0 : Int32) :
    Q d 350 35 [some (.ref x0), some (.ref x1), some (.int x2), some (.int x3)] [.int s0] h =
  if s0 = nI 0 then
   some (some (.int (nI 0)), h)
  else
   ck (gC h x1) 10 <|
   (gR h 2566 x1).bind fun y1 =>
    ck (gC h x0) 2 <|
    (gR h 520 x0).bind fun y2 =>
     ck (gC h y2) 12 <|
     cw (gC h y1) 60 y1 <|
     gd x2 (gK h y1) <|
     if x3 = nI 6 then
      ck (gC h x0) 2 <|
      cK (E d 280 [.ref x0, .int (nI 1), .int (nI 99)] (sA h y1 (ix x2) (gI h 3077 y2))) (Q d 350 66 [some (.ref x0), some (.ref x1), some (.int x2), some (.int x3)]) []
     else
      ck (gC h x0) 2 <|
      cK (E d 280 [.ref x0, .int (nI 0), .int (nI 9999)] (sA h y1 (ix x2) (gI h 3077 y2))) (Q d 350 80 [some (.ref x0), some (.ref x1), some (.int x2), some (.int x3)]) [] := by
  rw [← hs.1]
  exact (blkM (fun p => Nat.beq p 66 || Nat.beq p 80) 16 35 _ _ _).trans rfl

set_option maxRecDepth 16384 in
theorem t_350_66 {d : Nat} {h : AH} (hs : Sh h) (x0 : Nat) (x1 : Nat) (x2 : Int32) (x3 : Int32) (s0 : Int32) :
    Q d 350 66 [some (.ref x0), some (.ref x1), some (.int x2), some (.int x3)] [.int s0] h =
  if s0 = nI 0 then
   some (some (.int (nI 0)), h)
  else
   ck (gC h x1) 10 <|
   (gR h 2565 x1).bind fun y1 =>
    ck (gC h x0) 2 <|
    (gR h 520 x0).bind fun y2 =>
     ck (gC h y2) 12 <|
     cw (gC h y1) 60 y1 <|
     gd x2 (gK h y1) <|
     if x3 = nI 1 then
      ck (gC h x0) 2 <|
      cK (E d 288 [.ref x0, .ref 12] (sA h y1 (ix x2) (gI h 3077 y2))) (Q d 350 110 [some (.ref x0), some (.ref x1), some (.int x2), some (.int x3)]) []
     else
      ck (gC h x1) 10 <|
      some (some (.int (nI 1)), sI (sA h y1 (ix x2) (gI h 3077 y2)) 2563 x1 (x2 + (nI 1))) := by
  rw [← hs.1]
  exact (blkM (fun p => Nat.beq p 110) 20 66 _ _ _).trans rfl

set_option maxRecDepth 16384 in
theorem t_350_80 {d : Nat} {h : AH} (hs : Sh h) (x0 : Nat) (x1 : Nat) (x2 : Int32) (x3 : Int32) (s0 : Int32) :
    Q d 350 80 [some (.ref x0), some (.ref x1), some (.int x2), some (.int x3)] [.int s0] h =
  if s0 = nI 0 then
   some (some (.int (nI 0)), h)
  else
   ck (gC h x1) 10 <|
   (gR h 2565 x1).bind fun y1 =>
    ck (gC h x0) 2 <|
    (gR h 520 x0).bind fun y2 =>
     ck (gC h y2) 12 <|
     cw (gC h y1) 60 y1 <|
     gd x2 (gK h y1) <|
     if x3 = nI 1 then
      ck (gC h x0) 2 <|
      cK (E d 288 [.ref x0, .ref 12] (sA h y1 (ix x2) (gI h 3077 y2))) (Q d 350 110 [some (.ref x0), some (.ref x1), some (.int x2), some (.int x3)]) []
     else
      ck (gC h x1) 10 <|
      some (some (.int (nI 1)), sI (sA h y1 (ix x2) (gI h 3077 y2)) 2563 x1 (x2 + (nI 1))) := by
  rw [← hs.1]
  exact (blkM (fun p => Nat.beq p 110) 19 80 _ _ _).trans rfl

set_option maxRecDepth 16384 in
theorem t_350_110 {d : Nat} {h : AH} (hs : Sh h) (x0 : Nat) (x1 : Nat) (x2 : Int32) (u3 : Option Value) (s0 : Int32) :
    Q d 350 110 [some (.ref x0), some (.ref x1), some (.int x2), u3] [.int s0] h =
  if s0 = nI 0 then
   some (some (.int (nI 0)), h)
  else
   ck (gC h x0) 2 <|
   cK (E d 280 [.ref x0, .int (nI 0), .int (nI 4000)] h) (Q d 350 121 [some (.ref x0), some (.ref x1), some (.int x2), u3]) [] := by
  rw [← hs.1]
  exact (blkM (fun p => Nat.beq p 121) 6 110 _ _ _).trans rfl

set_option maxRecDepth 16384 in
theorem t_350_121 {d : Nat} {h : AH} (hs : Sh h) (x0 : Nat) (x1 : Nat) (x2 : Int32) (u3 : Option Value) (s0 : Int32) :
    Q d 350 121 [some (.ref x0), some (.ref x1), some (.int x2), u3] [.int s0] h =
  if s0 = nI 0 then
   some (some (.int (nI 0)), h)
  else
   ck (gC h x1) 10 <|
   (gR h 2567 x1).bind fun y1 =>
    ck (gC h x0) 2 <|
    (gR h 520 x0).bind fun y2 =>
     ck (gC h y2) 12 <|
     cw (gC h y1) 60 y1 <|
     gd x2 (gK h y1) <|
     ck (gC h x1) 10 <|
     some (some (.int (nI 1)), sI (sA h y1 (ix x2) (gI h 3077 y2)) 2563 x1 (x2 + (nI 1))) := by
  rw [← hs.1]
  exact (blkM (fun p => false) 16 121 _ _ _).trans rfl


/-! 352 PostRoom$Finder.unpack(JI)I -/
set_option maxRecDepth 16384 in
theorem t_352 {d : Nat} {h : AH} (hs : Sh h) (x1 : Int64) (x3 : Int32) :
    E (d + 1) 352 [.ref 103, .long x1, .int x3] h =
  Q d 352 6 [some (.ref 103), some (.long x1), none, some (.int x3), some (.int (nI 0)), some (.long x1), none, none] [] h := by
  rw [← hs.1]
  exact entL (l := [some (.ref 103), some (.long x1), none, some (.int x3), none, none, none, none]) rfl rfl ((blkM (fun p => Nat.beq p 6) 6 0 _ _ _).trans rfl)

set_option maxRecDepth 16384 in
theorem t_352_6 {d : Nat} {h : AH} (hs : Sh h) (x1 : Int64) (x3 : Int32) (x4 : Int32) (x5 : Int64) :
    Q d 352 6 [some (.ref 103), some (.long x1), none, some (.int x3), some (.int x4), some (.long x5), none, none] [] h =
  if (nI 0) < lg_cmp x5 0 then
   if x4 < nI 12 then
    dZ 37 <|
    Q d 352 6 [some (.ref 103), some (.long x1), none, some (.int x3), some (.int (x4 + nI 1)), some (.long (x5 / 37)), none, none] [] h
   else
    Q d 352 43 [some (.ref 103), none, none, some (.int x3), some (.int x4), some (.long x1), none, some (.int (x4 - (nI 1)))] [] h
  else
   Q d 352 43 [some (.ref 103), none, none, some (.int x3), some (.int x4), some (.long x1), none, some (.int (x4 - (nI 1)))] [] h := by
  rw [← hs.1]
  exact (blkM (fun p => Nat.beq p 6 || Nat.beq p 43) 15 6 _ _ _).trans rfl

set_option maxRecDepth 16384 in
theorem t_352_43 {d : Nat} {h : AH} (hs : Sh h) (x3 : Int32) (x4 : Int32) (x5 : Int64) (x7 : Int32) :
    Q d 352 43 [some (.ref 103), none, none, some (.int x3), some (.int x4), some (.long x5), none, some (.int x7)] [] h =
  if x7 < nI 0 then
   some (some (.int x4), h)
  else
   dZ 37 <|
   gd (x3 + x7) 613 <|
   dZ 37 <|
   Q d 352 43 [some (.ref 103), none, none, some (.int x3), some (.int x4), some (.long (x5 / 37)), none, some (.int (x7 + (-1)))] [] (sA h 104 (ix (x3 + x7)) ((x5 - x5 / 37 * 37).toInt32)) := by
  rw [← hs.1]
  exact (blkM (fun p => Nat.beq p 43) 20 43 _ _ _).trans rfl

/-! 353 PostRoom$Finder.farness([III)I -/
set_option maxRecDepth 16384 in
theorem t_353 {d : Nat} {h : AH} (hs : Sh h) (x1 : Nat) (x2 : Int32) (x3 : Int32) :
    E (d + 1) 353 [.ref 103, .ref x1, .int x2, .int x3] h =
  (gd x2 41 <|
  gd (x3 - (nI 1)) 41 <|
  if 60 ≤ gC h x1 ∧ gC h x1 ≤ 66 then
   cK (E d 345 [.int (((gA h 106 (ix (x3 - (nI 1)))) - (gA h 105 (ix x2))) - (nI (gK h x1)))] h) (Q d 353 33 [some (.ref 103), some (.ref x1), some (.int x2), some (.int x3), some (.int (gA h 105 (ix x2))), some (.int ((gA h 106 (ix (x3 - (nI 1)))) - (gA h 105 (ix x2)))), some (.int (nI (gK h x1))), none]) []
  else
   none) := by
  rw [← hs.1]
  exact entL (l := [some (.ref 103), some (.ref x1), some (.int x2), some (.int x3), none, none, none, none]) rfl rfl ((blkM (fun p => Nat.beq p 33) 22 0 _ _ _).trans rfl)

set_option maxRecDepth 16384 in
theorem t_353_33 {d : Nat} {h : AH} (hs : Sh h) (x1 : Nat) (x4 : Int32) (x5 : Int32) (x6 : Int32) (u2 : Option Value) (u3 : Option Value) (u7 : Option Value) (s0 : Int32) :
    Q d 353 33 [some (.ref 103), some (.ref x1), u2, u3, some (.int x4), some (.int x5), some (.int x6), u7] [.int s0] h =
  if (nI 3) < s0 then
   some (some (.int (nI 99)), h)
  else
   if x5 < nI 48 then
    if x6 < nI 48 then
     Q d 353 57 [some (.ref 103), some (.ref x1), none, none, some (.int x4), some (.int x5), some (.int x6), some (.int (nI 0))] [] h
    else
     some (some (.int (nI 99)), h)
   else
    some (some (.int (nI 99)), h) := by
  rw [← hs.1]
  exact (blkM (fun p => Nat.beq p 57) 12 33 _ _ _).trans rfl

set_option maxRecDepth 16384 in
theorem t_353_57 {d : Nat} {h : AH} (hs : Sh h) (x1 : Nat) (x4 : Int32) (x5 : Int32) (x6 : Int32) (x7 : Int32) :
    Q d 353 57 [some (.ref 103), some (.ref x1), none, none, some (.int x4), some (.int x5), some (.int x6), some (.int x7)] [] h =
  if x5 < x7 then
   Q d 353 84 [some (.ref 103), some (.ref x1), none, none, some (.int x4), some (.int x5), some (.int x6), some (.int (nI 1))] [] h
  else
   (gO h 107 (0)).bind fun y1 =>
    cw (gC h y1) 60 y1 <|
    gd x7 (gK h y1) <|
    Q d 353 57 [some (.ref 103), some (.ref x1), none, none, some (.int x4), some (.int x5), some (.int x6), some (.int (x7 + nI 1))] [] (sA h y1 (ix x7) x7) := by
  rw [← hs.1]
  exact (blkM (fun p => Nat.beq p 57 || Nat.beq p 84) 14 57 _ _ _).trans rfl

set_option maxRecDepth 16384 in
theorem t_353_84 {d : Nat} {h : AH} (hs : Sh h) (x1 : Nat) (x4 : Int32) (x5 : Int32) (x6 : Int32) (x7 : Int32) :
    Q d 353 84 [some (.ref 103), some (.ref x1), none, none, some (.int x4), some (.int x5), some (.int x6), some (.int x7)] [] h =
  if x6 < x7 then
   gd x6 48 <|
   (gO h 107 (ix x6)).bind fun y1 =>
    ck (gC h y1) 60 <|
    gd x5 (gK h y1) <|
    some (some (.int (gA h y1 (ix x5))), h)
  else
   cK (E d 379 [.ref 103, .ref x1, .int x7, .int x4, .int x5] h) (Q d 353 102 [some (.ref 103), some (.ref x1), none, none, some (.int x4), some (.int x5), some (.int x6), some (.int x7)]) [] := by
  rw [← hs.1]
  exact (blkM (fun p => Nat.beq p 102) 11 84 _ _ _).trans rfl

set_option maxRecDepth 16384 in
theorem t_353_102 {d : Nat} {h : AH} (hs : Sh h) (x1 : Nat) (x4 : Int32) (x5 : Int32) (x6 : Int32) (x7 : Int32) (u2 : Option Value) (u3 : Option Value) :
    Q d 353 102 [some (.ref 103), some (.ref x1), u2, u3, some (.int x4), some (.int x5), some (.int x6), some (.int x7)] [] h =
  Q d 353 84 [some (.ref 103), some (.ref x1), none, none, some (.int x4), some (.int x5), some (.int x6), some (.int (x7 + nI 1))] [] h := by
  rw [← hs.1]
  exact (blkM (fun p => Nat.beq p 84) 4 102 _ _ _).trans rfl

/-! 354 PostRoom$Finder.wrongDigits(I)I -/
set_option maxRecDepth 16384 in
theorem t_354 {d : Nat} {h : AH} (hs : Sh h) (x1 : Int32) :
    E (d + 1) 354 [.ref 103, .int x1] h =
  (gd (gI h 1029 103) 41 <|
  gd (gA h 105 (ix (gI h 1029 103))) 613 <|
  dz (nI 100) <|
  if (gA h 104 (ix (gA h 105 (ix (gI h 1029 103))))) - (nI 27) = x1 / (nI 100) then
   gd ((gA h 105 (ix (gI h 1029 103))) + (nI 1)) 613 <|
   dz (nI 10) <|
   dz (nI 10) <|
   if (gA h 104 (ix ((gA h 105 (ix (gI h 1029 103))) + (nI 1)))) - (nI 27) = (x1 / (nI 10)) - (x1 / (nI 10)) / (nI 10) * (nI 10) then
    gd ((gA h 105 (ix (gI h 1029 103))) + (nI 2)) 613 <|
    dz (nI 10) <|
    if (gA h 104 (ix ((gA h 105 (ix (gI h 1029 103))) + (nI 2)))) - (nI 27) = x1 - x1 / (nI 10) * (nI 10) then
     some (some (.int (((nI 0) + (nI 0)) + (nI 0))), h)
    else
     some (some (.int (((nI 0) + (nI 0)) + (nI 1))), h)
   else
    gd ((gA h 105 (ix (gI h 1029 103))) + (nI 2)) 613 <|
    dz (nI 10) <|
    if (gA h 104 (ix ((gA h 105 (ix (gI h 1029 103))) + (nI 2)))) - (nI 27) = x1 - x1 / (nI 10) * (nI 10) then
     some (some (.int (((nI 0) + (nI 1)) + (nI 0))), h)
    else
     some (some (.int (((nI 0) + (nI 1)) + (nI 1))), h)
  else
   gd ((gA h 105 (ix (gI h 1029 103))) + (nI 1)) 613 <|
   dz (nI 10) <|
   dz (nI 10) <|
   if (gA h 104 (ix ((gA h 105 (ix (gI h 1029 103))) + (nI 1)))) - (nI 27) = (x1 / (nI 10)) - (x1 / (nI 10)) / (nI 10) * (nI 10) then
    gd ((gA h 105 (ix (gI h 1029 103))) + (nI 2)) 613 <|
    dz (nI 10) <|
    if (gA h 104 (ix ((gA h 105 (ix (gI h 1029 103))) + (nI 2)))) - (nI 27) = x1 - x1 / (nI 10) * (nI 10) then
     some (some (.int (((nI 1) + (nI 0)) + (nI 0))), h)
    else
     some (some (.int (((nI 1) + (nI 0)) + (nI 1))), h)
   else
    gd ((gA h 105 (ix (gI h 1029 103))) + (nI 2)) 613 <|
    dz (nI 10) <|
    if (gA h 104 (ix ((gA h 105 (ix (gI h 1029 103))) + (nI 2)))) - (nI 27) = x1 - x1 / (nI 10) * (nI 10) then
     some (some (.int (((nI 1) + (nI 1)) + (nI 0))), h)
    else
     some (some (.int (((nI 1) + (nI 1)) + (nI 1))), h)) := by
  rw [← hs.1]
  exact entL (l := [some (.ref 103), some (.int x1), none, none]) rfl rfl ((blkM (fun p => false) 58 0 _ _ _).trans rfl)

/-! 355 PostRoom$Item.times(II)I -/
set_option maxRecDepth 16384 in
theorem t_355 {d : Nat} {h : AH} (hs : Sh h) (x0 : Int32) (x1 : Int32) :
    E (d + 1) 355 [.int x0, .int x1] h =
  Q d 355 4 [some (.int x0), some (.int x1), some (.int (nI 0)), some (.int (nI 5))] [] h := by
  rw [← hs.1]
  exact entL (l := [some (.int x0), some (.int x1), none, none]) rfl rfl ((blkM (fun p => Nat.beq p 4) 6 0 _ _ _).trans rfl)

set_option maxRecDepth 16384 in
theorem t_355_4 {d : Nat} {h : AH} (hs : Sh h) (x0 : Int32) (x1 : Int32) (x2 : Int32) (x3 : Int32) :
    Q d 355 4 [some (.int x0), some (.int x1), some (.int x2), some (.int x3)] [] h =
  if x3 < nI 0 then
   some (some (.int x2), h)
  else
   if x2 <<< ((nI 1) &&& 31) < nI 64 then
    if (x1 >>> (x3 &&& 31)) &&& (nI 1) = nI 0 then
     Q d 355 4 [some (.int x0), some (.int x1), some (.int (x2 <<< ((nI 1) &&& 31))), some (.int (x3 + (-1)))] [] h
    else
     Q d 355 4 [some (.int x0), some (.int x1), some (.int ((x2 <<< ((nI 1) &&& 31)) ^^^ x0)), some (.int (x3 + (-1)))] [] h
   else
    if (x1 >>> (x3 &&& 31)) &&& (nI 1) = nI 0 then
     Q d 355 4 [some (.int x0), some (.int x1), some (.int ((x2 <<< ((nI 1) &&& 31)) ^^^ (nI 67))), some (.int (x3 + (-1)))] [] h
    else
     Q d 355 4 [some (.int x0), some (.int x1), some (.int (((x2 <<< ((nI 1) &&& 31)) ^^^ (nI 67)) ^^^ x0)), some (.int (x3 + (-1)))] [] h := by
  rw [← hs.1]
  exact (blkM (fun p => Nat.beq p 4) 27 4 _ _ _).trans rfl

/-! 356 PostRoom$Item.inverse(I)I -/
set_option maxRecDepth 16384 in
theorem t_356 {d : Nat} {h : AH} (hs : Sh h) (x0 : Int32) :
    E (d + 1) 356 [.int x0] h =
  Q d 356 2 [some (.int x0), some (.int (nI 0))] [] h := by
  rw [← hs.1]
  exact entL (l := [some (.int x0), none]) rfl rfl ((blkM (fun p => Nat.beq p 2) 4 0 _ _ _).trans rfl)

set_option maxRecDepth 16384 in
theorem t_356_2 {d : Nat} {h : AH} (hs : Sh h) (x0 : Int32) (x1 : Int32) :
    Q d 356 2 [some (.int x0), some (.int x1)] [] h =
  if x1 < nI 63 then
   gd x1 63 <|
   if gA h 60 (ix x1) = x0 then
    dz (nI 63) <|
    gd (((nI 63) - x1) - ((nI 63) - x1) / (nI 63) * (nI 63)) 63 <|
    some (some (.int (gA h 60 (ix (((nI 63) - x1) - ((nI 63) - x1) / (nI 63) * (nI 63))))), h)
   else
    Q d 356 2 [some (.int x0), some (.int (x1 + nI 1))] [] h
  else
   some (some (.int (nI 0)), h) := by
  rw [← hs.1]
  exact (blkM (fun p => Nat.beq p 2) 17 2 _ _ _).trans rfl

/-! 357 PostRoom$Script.readSum(I)Z -/
set_option maxRecDepth 16384 in
theorem t_357 {d : Nat} {h : AH} (hs : Sh h) (x0 : Nat) (x1 : Int32) :
    E (d + 1) 357 [.ref x0, .int x1] h =
  (ck (gC h x0) 9 <|
  cK (E d 380 [.ref x0, .int x1] h) (Q d 357 5 [some (.ref x0), some (.int x1), none]) []) := by
  rw [← hs.1]
  exact entL (l := [some (.ref x0), some (.int x1), none]) rfl rfl ((blkM (fun p => Nat.beq p 5) 4 0 _ _ _).trans rfl)

set_option maxRecDepth 16384 in
theorem t_357_5 {d : Nat} {h : AH} (hs : Sh h) (x0 : Nat) (x1 : Int32) (u2 : Option Value) (s0 : Int32) :
    Q d 357 5 [some (.ref x0), some (.int x1), u2] [.int s0] h =
  if s0 = nI 0 then
   some (some (.int (nI 0)), h)
  else
   Q d 357 12 [some (.ref x0), some (.int x1), some (.int (nI 0))] [] h := by
  rw [← hs.1]
  exact (blkM (fun p => Nat.beq p 12) 5 5 _ _ _).trans rfl

set_option maxRecDepth 16384 in
theorem t_357_12 {d : Nat} {h : AH} (hs : Sh h) (x0 : Nat) (x1 : Int32) (x2 : Int32) :
    Q d 357 12 [some (.ref x0), some (.int x1), some (.int x2)] [] h =
  if x2 < nI 4000 then
   ck (gC h x0) 9 <|
   if gI h 2307 x0 = nI 43 then
    ck (gC h x0) 9 <|
    cK (E d 317 [.ref x0] h) (Q d 357 41 [some (.ref x0), some (.int x1), some (.int x2)]) []
   else
    ck (gC h x0) 9 <|
    if gI h 2307 x0 = nI 45 then
     ck (gC h x0) 9 <|
     cK (E d 317 [.ref x0] h) (Q d 357 41 [some (.ref x0), some (.int x1), some (.int x2)]) []
    else
     some (some (.int (nI 1)), h)
  else
   some (some (.int (nI 1)), h) := by
  rw [← hs.1]
  exact (blkM (fun p => Nat.beq p 41) 14 12 _ _ _).trans rfl

set_option maxRecDepth 16384 in
theorem t_357_41 {d : Nat} {h : AH} (hs : Sh h) (x0 : Nat) (x1 : Int32) (x2 : Int32) (s0 : Int32) :
    Q d 357 41 [some (.ref x0), some (.int x1), some (.int x2)] [.int s0] h =
  if s0 = nI 0 then
   some (some (.int (nI 0)), h)
  else
   ck (gC h x0) 9 <|
   cK (E d 380 [.ref x0, .int x1] h) (Q d 357 49 [some (.ref x0), some (.int x1), some (.int x2)]) [] := by
  rw [← hs.1]
  exact (blkM (fun p => Nat.beq p 49) 5 41 _ _ _).trans rfl

set_option maxRecDepth 16384 in
theorem t_357_49 {d : Nat} {h : AH} (hs : Sh h) (x0 : Nat) (x1 : Int32) (x2 : Int32) (s0 : Int32) :
    Q d 357 49 [some (.ref x0), some (.int x1), some (.int x2)] [.int s0] h =
  if s0 = nI 0 then
   some (some (.int (nI 0)), h)
  else
   Q d 357 12 [some (.ref x0), some (.int x1), some (.int (x2 + nI 1))] [] h := by
  rw [← hs.1]
  exact (blkM (fun p => Nat.beq p 12) 5 49 _ _ _).trans rfl

/-! 358 PostRoom$Script.readUnit(I)Z -/
set_option maxRecDepth 16384 in
theorem t_358 {d : Nat} {h : AH} (hs : Sh h) (x0 : Nat) (x1 : Int32) :
    E (d + 1) 358 [.ref x0, .int x1] h =
  (ck (gC h x0) 9 <|
  cK (E d 381 [.ref x0] h) (Q d 358 4 [some (.ref x0), some (.int x1), none]) []) := by
  rw [← hs.1]
  exact entL (l := [some (.ref x0), some (.int x1), none]) rfl rfl ((blkM (fun p => Nat.beq p 4) 3 0 _ _ _).trans rfl)

set_option maxRecDepth 16384 in
theorem t_358_4 {d : Nat} {h : AH} (hs : Sh h) (x0 : Nat) (x1 : Int32) (u2 : Option Value) (s0 : Int32) :
    Q d 358 4 [some (.ref x0), some (.int x1), u2] [.int s0] h =
  if s0 = nI 0 then
   ck (gC h x0) 9 <|
   cK (E d 327 [.ref x0, .int (nI 1)] h) (Q d 358 12 [some (.ref x0), some (.int x1), u2]) []
  else
   if x1 < nI 20 then
    ck (gC h x0) 9 <|
    ck (gC h x0) 9 <|
    cK (E d 317 [.ref x0] h) (Q d 358 34 [some (.ref x0), some (.int x1), some (.int (gI h 2307 x0))]) []
   else
    ck (gC h x0) 9 <|
    cK (E d 327 [.ref x0, .int (nI 5)] h) (Q d 358 24 [some (.ref x0), some (.int x1), u2]) [] := by
  rw [← hs.1]
  exact (blkM (fun p => Nat.beq p 12 || Nat.beq p 24 || Nat.beq p 34) 10 4 _ _ _).trans rfl

set_option maxRecDepth 16384 in
theorem t_358_12 {d : Nat} {h : AH} (hs : Sh h) (u0 : Option Value) (u1 : Option Value) (u2 : Option Value) (s0 : Int32) :
    Q d 358 12 [u0, u1, u2] [.int s0] h =
  if s0 = 0 ∨ s0 = 1 then
   some (some (.int s0), h)
  else
   none := by
  rw [← hs.1]
  exact (blkM (fun p => false) 2 12 _ _ _).trans rfl

set_option maxRecDepth 16384 in
theorem t_358_24 {d : Nat} {h : AH} (hs : Sh h) (u0 : Option Value) (u1 : Option Value) (u2 : Option Value) (s0 : Int32) :
    Q d 358 24 [u0, u1, u2] [.int s0] h =
  if s0 = 0 ∨ s0 = 1 then
   some (some (.int s0), h)
  else
   none := by
  rw [← hs.1]
  exact (blkM (fun p => false) 2 24 _ _ _).trans rfl

set_option maxRecDepth 16384 in
theorem t_358_34 {d : Nat} {h : AH} (hs : Sh h) (x0 : Nat) (x1 : Int32) (x2 : Int32) (s0 : Int32) :
    Q d 358 34 [some (.ref x0), some (.int x1), some (.int x2)] [.int s0] h =
  if x2 = nI 40 then
   ck (gC h x0) 9 <|
   cK (E d 319 [.ref x0, .int (x1 + (nI 1))] h) (Q d 358 135 [some (.ref x0), some (.int x1), some (.int x2)]) []
  else
   if x2 = nI 45 then
   ck (gC h x0) 9 <|
   cK (E d 358 [.ref x0, .int (x1 + (nI 1))] h) (Q d 358 160 [some (.ref x0), some (.int x1), some (.int x2)]) []
  else
   if x2 = nI 143 then
   ck (gC h x0) 9 <|
   cK (E d 321 [.ref x0, .int (x1 + (nI 1))] h) (Q d 358 168 [some (.ref x0), some (.int x1), some (.int x2)]) []
  else
   if x2 = nI 144 then
   ck (gC h x0) 9 <|
   cK (E d 321 [.ref x0, .int (x1 + (nI 1))] h) (Q d 358 168 [some (.ref x0), some (.int x1), some (.int x2)]) []
  else
   if x2 = nI 145 then
   ck (gC h x0) 9 <|
   cK (E d 323 [.ref x0, .int (x1 + (nI 1))] h) (Q d 358 176 [some (.ref x0), some (.int x1), some (.int x2)]) []
  else
   if x2 = nI 146 then
   ck (gC h x0) 9 <|
   cK (E d 320 [.ref x0, .int (x1 + (nI 1))] h) (Q d 358 184 [some (.ref x0), some (.int x1), some (.int x2)]) []
  else
   if x2 = nI 147 then
   ck (gC h x0) 9 <|
   cK (E d 320 [.ref x0, .int (x1 + (nI 1))] h) (Q d 358 184 [some (.ref x0), some (.int x1), some (.int x2)]) []
  else
   if x2 = nI 148 then
   ck (gC h x0) 9 <|
   cK (E d 320 [.ref x0, .int (x1 + (nI 1))] h) (Q d 358 184 [some (.ref x0), some (.int x1), some (.int x2)]) []
  else
   if x2 = nI 149 then
   ck (gC h x0) 9 <|
   cK (E d 320 [.ref x0, .int (x1 + (nI 1))] h) (Q d 358 184 [some (.ref x0), some (.int x1), some (.int x2)]) []
  else
   if x2 = nI 150 then
   ck (gC h x0) 9 <|
   cK (E d 320 [.ref x0, .int (x1 + (nI 1))] h) (Q d 358 184 [some (.ref x0), some (.int x1), some (.int x2)]) []
  else
   some (some (.int (nI 1)), h) := by
  rw [← hs.1]
  exact (blkM (fun p => Nat.beq p 135 || Nat.beq p 160 || Nat.beq p 168 || Nat.beq p 176 || Nat.beq p 184) 9 34 _ _ _).trans rfl

set_option maxRecDepth 16384 in
theorem t_358_135 {d : Nat} {h : AH} (hs : Sh h) (x0 : Nat) (u1 : Option Value) (u2 : Option Value) (s0 : Int32) :
    Q d 358 135 [some (.ref x0), u1, u2] [.int s0] h =
  if s0 = nI 0 then
   some (some (.int (nI 0)), h)
  else
   ck (gC h x0) 9 <|
   cK (E d 318 [.ref x0, .int (nI 41)] h) (Q d 358 144 [some (.ref x0), u1, u2]) [] := by
  rw [← hs.1]
  exact (blkM (fun p => Nat.beq p 144) 5 135 _ _ _).trans rfl

set_option maxRecDepth 16384 in
theorem t_358_160 {d : Nat} {h : AH} (hs : Sh h) (u0 : Option Value) (u1 : Option Value) (u2 : Option Value) (s0 : Int32) :
    Q d 358 160 [u0, u1, u2] [.int s0] h =
  if s0 = 0 ∨ s0 = 1 then
   some (some (.int s0), h)
  else
   none := by
  rw [← hs.1]
  exact (blkM (fun p => false) 2 160 _ _ _).trans rfl

set_option maxRecDepth 16384 in
theorem t_358_168 {d : Nat} {h : AH} (hs : Sh h) (u0 : Option Value) (u1 : Option Value) (u2 : Option Value) (s0 : Int32) :
    Q d 358 168 [u0, u1, u2] [.int s0] h =
  if s0 = 0 ∨ s0 = 1 then
   some (some (.int s0), h)
  else
   none := by
  rw [← hs.1]
  exact (blkM (fun p => false) 2 168 _ _ _).trans rfl

set_option maxRecDepth 16384 in
theorem t_358_176 {d : Nat} {h : AH} (hs : Sh h) (u0 : Option Value) (u1 : Option Value) (u2 : Option Value) (s0 : Int32) :
    Q d 358 176 [u0, u1, u2] [.int s0] h =
  if s0 = 0 ∨ s0 = 1 then
   some (some (.int s0), h)
  else
   none := by
  rw [← hs.1]
  exact (blkM (fun p => false) 2 176 _ _ _).trans rfl

set_option maxRecDepth 16384 in
theorem t_358_184 {d : Nat} {h : AH} (hs : Sh h) (u0 : Option Value) (u1 : Option Value) (u2 : Option Value) (s0 : Int32) :
    Q d 358 184 [u0, u1, u2] [.int s0] h =
  if s0 = 0 ∨ s0 = 1 then
   some (some (.int s0), h)
  else
   none := by
  rw [← hs.1]
  exact (blkM (fun p => false) 2 184 _ _ _).trans rfl

set_option maxRecDepth 16384 in
theorem t_358_144 {d : Nat} {h : AH} (hs : Sh h) (u0 : Option Value) (u1 : Option Value) (u2 : Option Value) (s0 : Int32) :
    Q d 358 144 [u0, u1, u2] [.int s0] h =
  if s0 = nI 0 then
   some (some (.int (nI 0)), h)
  else
   some (some (.int (nI 1)), h) := by
  rw [← hs.1]
  exact (blkM (fun p => false) 5 144 _ _ _).trans rfl

/-! 359 PostRoom$Script.readRefusal()Z -/
set_option maxRecDepth 16384 in
theorem t_359 {d : Nat} {h : AH} (hs : Sh h) (x0 : Nat) :
    E (d + 1) 359 [.ref x0] h =
  (ck (gC h x0) 9 <|
  if gI h 2307 x0 = nI 3 then
   ck (gC h x0) 9 <|
   (gR h 2309 x0).bind fun y1 =>
    ck (gC h y1) 12 <|
    if (nI 9) < gI h 3077 y1 then
     ck (gC h x0) 9 <|
     cK (E d 327 [.ref x0, .int (nI 4)] h) (Q d 359 25 [some (.ref x0)]) []
    else
     ck (gC h x0) 9 <|
     cK (E d 318 [.ref x0, .int (nI 3)] h) (Q d 359 31 [some (.ref x0)]) []
  else
   ck (gC h x0) 9 <|
   cK (E d 318 [.ref x0, .int (nI 3)] h) (Q d 359 31 [some (.ref x0)]) []) := by
  rw [← hs.1]
  exact entL (l := [some (.ref x0)]) rfl rfl ((blkM (fun p => Nat.beq p 25 || Nat.beq p 31) 13 0 _ _ _).trans rfl)

set_option maxRecDepth 16384 in
theorem t_359_25 {d : Nat} {h : AH} (hs : Sh h) (u0 : Option Value) (s0 : Int32) :
    Q d 359 25 [u0] [.int s0] h =
  if s0 = 0 ∨ s0 = 1 then
   some (some (.int s0), h)
  else
   none := by
  rw [← hs.1]
  exact (blkM (fun p => false) 2 25 _ _ _).trans rfl

set_option maxRecDepth 16384 in
theorem t_359_31 {d : Nat} {h : AH} (hs : Sh h) (u0 : Option Value) (s0 : Int32) :
    Q d 359 31 [u0] [.int s0] h =
  if s0 = 0 ∨ s0 = 1 then
   some (some (.int s0), h)
  else
   none := by
  rw [← hs.1]
  exact (blkM (fun p => false) 2 31 _ _ _).trans rfl

/-! 360 PostRoom$Script.kindAt(I)I -/
set_option maxRecDepth 16384 in
theorem t_360 {d : Nat} {h : AH} (hs : Sh h) (x0 : Nat) (x1 : Int32) :
    E (d + 1) 360 [.ref x0, .int x1] h =
  if x1 < nI 0 then
   some (some (.int (nI 0)), h)
  else
   ck (gC h x0) 9 <|
   if x1 < gI h 2306 x0 then
    ck (gC h x0) 9 <|
    (gR h 2304 x0).bind fun y1 =>
     ck (gC h y1) 60 <|
     gd x1 (gK h y1) <|
     some (some (.int (gA h y1 (ix x1))), h)
   else
    some (some (.int (nI 0)), h) := by
  rw [← hs.1]
  exact entL (l := [some (.ref x0), some (.int x1)]) rfl rfl ((blkM (fun p => false) 13 0 _ _ _).trans rfl)

/-! 361 PostRoom$Machine.expression(I)J -/
set_option maxRecDepth 16384 in
theorem t_361 {d : Nat} {h : AH} (hs : Sh h) (x1 : Int32) :
    E (d + 1) 361 [.ref 175, .int x1] h =
  cK (E d 382 [.ref 175, .int x1] h) (Q d 361 5 [some (.ref 175), some (.int x1), none, none, none, none, none, none]) [] := by
  rw [← hs.1]
  exact entL (l := [some (.ref 175), some (.int x1), none, none, none, none, none, none]) rfl rfl ((blkM (fun p => Nat.beq p 5) 4 0 _ _ _).trans rfl)

set_option maxRecDepth 16384 in
theorem t_361_5 {d : Nat} {h : AH} (hs : Sh h) (x1 : Int32) (u2 : Option Value) (u3 : Option Value) (u4 : Option Value) (u5 : Option Value) (u6 : Option Value) (u7 : Option Value) (s0 : Int64) :
    Q d 361 5 [some (.ref 175), some (.int x1), u2, u3, u4, u5, u6, u7] [.long s0] h =
  cK (E d 328 [.ref 175] h) (Q d 361 10 [some (.ref 175), some (.int x1), some (.long s0), none, u4, u5, u6, u7]) [] := by
  rw [← hs.1]
  exact (blkM (fun p => Nat.beq p 10) 4 5 _ _ _).trans rfl

set_option maxRecDepth 16384 in
theorem t_361_10 {d : Nat} {h : AH} (hs : Sh h) (x1 : Int32) (x2 : Int64) (u4 : Option Value) (u5 : Option Value) (u6 : Option Value) (u7 : Option Value) (s0 : Int32) :
    Q d 361 10 [some (.ref 175), some (.int x1), some (.long x2), none, u4, u5, u6, u7] [.int s0] h =
  cK (E d 362 [.ref 175] h) (Q d 361 16 [some (.ref 175), some (.int x1), some (.long x2), none, some (.int s0), u5, u6, u7]) [] := by
  rw [← hs.1]
  exact (blkM (fun p => Nat.beq p 16) 4 10 _ _ _).trans rfl

set_option maxRecDepth 16384 in
theorem t_361_16 {d : Nat} {h : AH} (hs : Sh h) (x1 : Int32) (x2 : Int64) (x4 : Int32) (u5 : Option Value) (u6 : Option Value) (u7 : Option Value) (s0 : Int32) :
    Q d 361 16 [some (.ref 175), some (.int x1), some (.long x2), none, some (.int x4), u5, u6, u7] [.int s0] h =
  if s0 = nI 0 then
   some (some (.long x2), h)
  else
   if x4 = nI 60 then
    cK (E d 382 [.ref 175, .int x1] (sI h 1545 175 ((gI h 1545 175) + (nI 1)))) (Q d 361 50 [some (.ref 175), some (.int x1), some (.long x2), none, some (.int x4), none, none, none]) []
   else
    if x4 = nI 61 then
     cK (E d 382 [.ref 175, .int x1] (sI h 1545 175 ((gI h 1545 175) + (nI 1)))) (Q d 361 50 [some (.ref 175), some (.int x1), some (.long x2), none, some (.int x4), none, none, none]) []
    else
     some (some (.long x2), h) := by
  rw [← hs.1]
  exact (blkM (fun p => Nat.beq p 50) 17 16 _ _ _).trans rfl

set_option maxRecDepth 16384 in
theorem t_361_50 {d : Nat} {h : AH} (hs : Sh h) (x2 : Int64) (x4 : Int32) (u0 : Option Value) (u1 : Option Value) (u5 : Option Value) (u6 : Option Value) (u7 : Option Value) (s0 : Int64) :
    Q d 361 50 [u0, u1, some (.long x2), none, some (.int x4), u5, u6, u7] [.long s0] h =
  if x4 = nI 60 then
   if lg_cmp x2 s0 < nI 0 then
    if (nI 1) = nI 0 then
     some (some (.long 0), h)
    else
     some (some (.long 1), h)
   else
    if (nI 0) = nI 0 then
     some (some (.long 0), h)
    else
     some (some (.long 1), h)
  else
   if lg_cmp x2 s0 = nI 0 then
    if (nI 1) = nI 0 then
     some (some (.long 0), h)
    else
     some (some (.long 1), h)
   else
    if (nI 0) = nI 0 then
     some (some (.long 0), h)
    else
     some (some (.long 1), h) := by
  rw [← hs.1]
  exact (blkM (fun p => false) 17 50 _ _ _).trans rfl

/-! 362 PostRoom$Machine.isGoing()Z -/
set_option maxRecDepth 16384 in
theorem t_362 {d : Nat} {h : AH} (hs : Sh h)  :
    E (d + 1) 362 [.ref 175] h =
  if gI h 1547 175 = nI 0 then
   some (some (.int (nI 1)), h)
  else
   some (some (.int (nI 0)), h) := by
  rw [← hs.1]
  exact entL (l := [some (.ref 175)]) rfl rfl ((blkM (fun p => false) 7 0 _ _ _).trans rfl)

/-! 363 PostRoom$Machine.itemTold(I)I -/
set_option maxRecDepth 16384 in
theorem t_363 {d : Nat} {h : AH} (hs : Sh h) (x1 : Int32) :
    E (d + 1) 363 [.ref 175, .int x1] h =
  cK (E d 383 [.ref 175, .int x1] h) (Q d 363 5 [some (.ref 175), some (.int x1), none, none]) [] := by
  rw [← hs.1]
  exact entL (l := [some (.ref 175), some (.int x1), none, none]) rfl rfl ((blkM (fun p => Nat.beq p 5) 4 0 _ _ _).trans rfl)

set_option maxRecDepth 16384 in
theorem t_363_5 {d : Nat} {h : AH} (hs : Sh h) (x1 : Int32) (u2 : Option Value) (u3 : Option Value) (s0 : Int32) :
    Q d 363 5 [some (.ref 175), some (.int x1), u2, u3] [.int s0] h =
  if s0 = nI 0 then
   cK (E d 328 [.ref 175] h) (Q d 363 14 [some (.ref 175), some (.int x1), u2, u3]) []
  else
   some (some (.int (-1)), h) := by
  rw [← hs.1]
  exact (blkM (fun p => Nat.beq p 14) 4 5 _ _ _).trans rfl

set_option maxRecDepth 16384 in
theorem t_363_14 {d : Nat} {h : AH} (hs : Sh h) (x1 : Int32) (u2 : Option Value) (u3 : Option Value) (s0 : Int32) :
    Q d 363 14 [some (.ref 175), some (.int x1), u2, u3] [.int s0] h =
  (gR h 1544 175).bind fun y1 =>
   ck (gC h y1) 9 <|
   cK (E d 330 [.ref y1, .int (gI h 1545 175)] h) (Q d 363 26 [some (.ref 175), some (.int x1), some (.int s0), u3]) [] := by
  rw [← hs.1]
  exact (blkM (fun p => Nat.beq p 26) 7 14 _ _ _).trans rfl

set_option maxRecDepth 16384 in
theorem t_363_26 {d : Nat} {h : AH} (hs : Sh h) (x1 : Int32) (x2 : Int32) (u3 : Option Value) (s0 : Int32) :
    Q d 363 26 [some (.ref 175), some (.int x1), some (.int x2), u3] [.int s0] h =
  if x2 = nI 5 then
   gd s0 4 <|
   some (some (.int (gA h 177 (ix s0))), sI h 1545 175 ((gI h 1545 175) + (nI 1)))
  else
   if x2 = nI 154 then
   some (some (.int (-1)), sI h 1545 175 ((gI h 1545 175) + (nI 1)))
  else
   if x2 = nI 155 then
   cK (E d 384 [.ref 175, .int (x1 + (nI 1))] (sI h 1545 175 ((gI h 1545 175) + (nI 1)))) (Q d 363 97 [some (.ref 175), some (.int x1), some (.int x2), some (.int s0)]) [.ref 175]
  else
   if x2 = nI 156 then
   cK (E d 386 [.ref 175, .int (x1 + (nI 1))] (sI h 1545 175 ((gI h 1545 175) + (nI 1)))) (Q d 363 108 [some (.ref 175), some (.int x1), some (.int x2), some (.int s0)]) []
  else
   cK (E d 363 [.ref 175, .int (x1 + (nI 1))] (sI h 1545 175 ((gI h 1545 175) + (nI 1)))) (Q d 363 122 [some (.ref 175), some (.int x1), some (.int x2), some (.int s0)]) [.int (x2 - (nI 157)), .ref 175] := by
  rw [← hs.1]
  exact (blkM (fun p => Nat.beq p 97 || Nat.beq p 108 || Nat.beq p 122) 19 26 _ _ _).trans rfl

set_option maxRecDepth 16384 in
theorem t_363_97 {d : Nat} {h : AH} (hs : Sh h) (u0 : Option Value) (u1 : Option Value) (u2 : Option Value) (u3 : Option Value) (s0 : Nat) (s1 : Int64) :
    Q d 363 97 [u0, u1, u2, u3] [.long s1, .ref s0] h =
  (ck (gC h s0) 6 <|
  cK (E d 385 [.ref s0, .long s1] h) (Q d 363 100 [u0, u1, u2, u3]) []) := by
  rw [← hs.1]
  exact (blkM (fun p => Nat.beq p 100) 2 97 _ _ _).trans rfl

set_option maxRecDepth 16384 in
theorem t_363_108 {d : Nat} {h : AH} (hs : Sh h) (u0 : Option Value) (u1 : Option Value) (u2 : Option Value) (u3 : Option Value) (s0 : Int32) :
    Q d 363 108 [u0, u1, u2, u3] [.int s0] h =
  some (some (.int s0), h) := by
  rw [← hs.1]
  exact (blkM (fun p => false) 2 108 _ _ _).trans rfl

set_option maxRecDepth 16384 in
theorem t_363_122 {d : Nat} {h : AH} (hs : Sh h) (u0 : Option Value) (u1 : Option Value) (u2 : Option Value) (u3 : Option Value) (s0 : Nat) (s1 : Int32) (s2 : Int32) :
    Q d 363 122 [u0, u1, u2, u3] [.int s2, .int s1, .ref s0] h =
  (ck (gC h s0) 6 <|
  cK (E d 387 [.ref s0, .int s1, .int s2] h) (Q d 363 125 [u0, u1, u2, u3]) []) := by
  rw [← hs.1]
  exact (blkM (fun p => Nat.beq p 125) 2 122 _ _ _).trans rfl

set_option maxRecDepth 16384 in
theorem t_363_100 {d : Nat} {h : AH} (hs : Sh h) (u0 : Option Value) (u1 : Option Value) (u2 : Option Value) (u3 : Option Value) (s0 : Int32) :
    Q d 363 100 [u0, u1, u2, u3] [.int s0] h =
  some (some (.int s0), h) := by
  rw [← hs.1]
  exact (blkM (fun p => false) 2 100 _ _ _).trans rfl

set_option maxRecDepth 16384 in
theorem t_363_125 {d : Nat} {h : AH} (hs : Sh h) (u0 : Option Value) (u1 : Option Value) (u2 : Option Value) (u3 : Option Value) (s0 : Int32) :
    Q d 363 125 [u0, u1, u2, u3] [.int s0] h =
  some (some (.int s0), h) := by
  rw [← hs.1]
  exact (blkM (fun p => false) 2 125 _ _ _).trans rfl

/-! 364 PostRoom$Machine.trayTold(I)I -/
set_option maxRecDepth 16384 in
theorem t_364 {d : Nat} {h : AH} (hs : Sh h) (x1 : Int32) :
    E (d + 1) 364 [.ref 175, .int x1] h =
  cK (E d 384 [.ref 175, .int x1] (sI h 1545 175 ((gI h 1545 175) + (nI 1)))) (Q d 364 15 [some (.ref 175), some (.int x1), none, none]) [] := by
  rw [← hs.1]
  exact entL (l := [some (.ref 175), some (.int x1), none, none]) rfl rfl ((blkM (fun p => Nat.beq p 15) 10 0 _ _ _).trans rfl)

set_option maxRecDepth 16384 in
theorem t_364_15 {d : Nat} {h : AH} (hs : Sh h) (u1 : Option Value) (u2 : Option Value) (u3 : Option Value) (s0 : Int64) :
    Q d 364 15 [some (.ref 175), u1, u2, u3] [.long s0] h =
  cK (E d 362 [.ref 175] h) (Q d 364 20 [some (.ref 175), klV u1, some (.long s0), none]) [] := by
  rw [← hs.1]
  exact (blkM (fun p => Nat.beq p 20) 4 15 _ _ _).trans rfl

set_option maxRecDepth 16384 in
theorem t_364_20 {d : Nat} {h : AH} (hs : Sh h) (x2 : Int64) (u1 : Option Value) (s0 : Int32) :
    Q d 364 20 [some (.ref 175), u1, some (.long x2), none] [.int s0] h =
  if s0 = nI 0 then
   Q d 364 42 [some (.ref 175), none, some (.long x2), none] [] h
  else
   if lg_cmp x2 0 < nI 0 then
    cK (E d 365 [.ref 175, .int (nI 3)] h) (Q d 364 42 [some (.ref 175), none, some (.long x2), none]) []
   else
    if lg_cmp x2 12 < nI 0 then
     Q d 364 42 [some (.ref 175), none, some (.long x2), none] [] h
    else
     cK (E d 365 [.ref 175, .int (nI 3)] h) (Q d 364 42 [some (.ref 175), none, some (.long x2), none]) [] := by
  rw [← hs.1]
  exact (blkM (fun p => Nat.beq p 42) 13 20 _ _ _).trans rfl

set_option maxRecDepth 16384 in
theorem t_364_42 {d : Nat} {h : AH} (hs : Sh h) (x2 : Int64) :
    Q d 364 42 [some (.ref 175), none, some (.long x2), none] [] h =
  cK (E d 362 [.ref 175] h) (Q d 364 46 [some (.ref 175), none, some (.long x2), none]) [] := by
  rw [← hs.1]
  exact (blkM (fun p => Nat.beq p 46) 3 42 _ _ _).trans rfl

set_option maxRecDepth 16384 in
theorem t_364_46 {d : Nat} {h : AH} (hs : Sh h) (x2 : Int64) (u0 : Option Value) (u1 : Option Value) (s0 : Int32) :
    Q d 364 46 [u0, u1, some (.long x2), none] [.int s0] h =
  if s0 = nI 0 then
   some (some (.int (nI 0)), h)
  else
   some (some (.int x2.toInt32), h) := by
  rw [← hs.1]
  exact (blkM (fun p => false) 6 46 _ _ _).trans rfl

/-! 365 PostRoom$Machine.refuse(I)V -/
set_option maxRecDepth 16384 in
theorem t_365 {d : Nat} {h : AH} (hs : Sh h) (x1 : Int32) :
    E (d + 1) 365 [.ref 175, .int x1] h =
  if gI h 1555 175 < nI 4000 then
   some (none, sI (sI h 1555 175 ((gI h 1555 175) + (nI 1))) 1547 175 x1)
  else
   some (none, sI h 1547 175 (nI 11)) := by
  rw [← hs.1]
  exact entL (l := [some (.ref 175), some (.int x1)]) rfl rfl ((blkM (fun p => false) 15 0 _ _ _).trans rfl)

/-! 366 PostRoom$Machine.newRow(III)V -/
set_option maxRecDepth 16384 in
theorem t_366 {d : Nat} {h : AH} (hs : Sh h) (x1 : Int32) (x2 : Int32) (x3 : Int32) :
    E (d + 1) 366 [.ref 175, .int x1, .int x2, .int x3] h =
  (gd x1 12 <|
  gd x1 12 <|
  gd x1 12 <|
  gd x1 12 <|
  Q d 366 37 [some (.ref 175), none, some (.int x2), some (.int x3), some (.int (nI 0))] [] (sA (sA (sA (sA h 178 (ix x1) x2) 179 (ix x1) (gI h 1551 175)) 180 (ix x1) x3) 181 (ix x1) (gI h 1552 175))) := by
  rw [← hs.1]
  exact entL (l := [some (.ref 175), some (.int x1), some (.int x2), some (.int x3), none]) rfl rfl ((blkM (fun p => Nat.beq p 37) 26 0 _ _ _).trans rfl)

set_option maxRecDepth 16384 in
theorem t_366_37 {d : Nat} {h : AH} (hs : Sh h) (x2 : Int32) (x3 : Int32) (x4 : Int32) :
    Q d 366 37 [some (.ref 175), none, some (.int x2), some (.int x3), some (.int x4)] [] h =
  if x4 < x3 then
   if x2 < nI 9 then
    gd ((gI h 1551 175) + x4) 2000 <|
    Q d 366 37 [some (.ref 175), none, some (.int x2), some (.int x3), some (.int (x4 + nI 1))] [] (sB h 182 (ix ((gI h 1551 175) + x4)) 0)
   else
    gd ((gI h 1551 175) + x4) 2000 <|
    Q d 366 37 [some (.ref 175), none, some (.int x2), some (.int x3), some (.int (x4 + nI 1))] [] (sB h 182 (ix ((gI h 1551 175) + x4)) (-1))
  else
   some (none, sI (sI (sI h 1551 175 ((gI h 1551 175) + x3)) 1554 175 ((gI h 1554 175) + x3)) 1552 175 ((gI h 1552 175) + (nI 1))) := by
  rw [← hs.1]
  exact (blkM (fun p => Nat.beq p 37) 23 37 _ _ _).trans rfl

/-! 367 PostRoom$Machine.spotTold(I)J -/
set_option maxRecDepth 16384 in
theorem t_367 {d : Nat} {h : AH} (hs : Sh h) (x1 : Int32) :
    E (d + 1) 367 [.ref 175, .int x1] h =
  cK (E d 361 [.ref 175, .int x1] (sI h 1545 175 ((gI h 1545 175) + (nI 1)))) (Q d 367 15 [some (.ref 175), some (.int x1), none, none]) [] := by
  rw [← hs.1]
  exact entL (l := [some (.ref 175), some (.int x1), none, none]) rfl rfl ((blkM (fun p => Nat.beq p 15) 10 0 _ _ _).trans rfl)

set_option maxRecDepth 16384 in
theorem t_367_15 {d : Nat} {h : AH} (hs : Sh h) (u1 : Option Value) (u2 : Option Value) (u3 : Option Value) (s0 : Int64) :
    Q d 367 15 [some (.ref 175), u1, u2, u3] [.long s0] h =
  some (some (.long s0), sI h 1545 175 ((gI h 1545 175) + (nI 1))) := by
  rw [← hs.1]
  exact (blkM (fun p => false) 10 15 _ _ _).trans rfl

/-! 368 PostRoom$Machine.arenaPlace(IJZ)I -/
set_option maxRecDepth 16384 in
theorem t_368 {d : Nat} {h : AH} (hs : Sh h) (x1 : Int32) (x2 : Int64) (x4 : Int32) :
    E (d + 1) 368 [.ref 175, .int x1, .long x2, .int x4] h =
  (gd x1 12 <|
  if gA h 178 (ix x1) = nI 0 then
   cK (E d 365 [.ref 175, .int (nI 1)] h) (Q d 368 14 [some (.ref 175), some (.int x1), some (.long x2), none, some (.int x4)]) []
  else
   gd x1 12 <|
   if gA h 178 (ix x1) < nI 9 then
    if (nI 0) = x4 then
     if lg_cmp x2 0 < nI 0 then
      cK (E d 365 [.ref 175, .int (nI 3)] h) (Q d 368 69 [some (.ref 175), none, none, none, none]) []
     else
      gd x1 12 <|
      if lg_cmp x2 ((gA h 180 (ix x1)).toInt64) < nI 0 then
       gd x1 12 <|
       some (some (.int ((gA h 179 (ix x1)) + x2.toInt32)), h)
      else
       cK (E d 365 [.ref 175, .int (nI 3)] h) (Q d 368 69 [some (.ref 175), none, none, none, none]) []
    else
     cK (E d 365 [.ref 175, .int (nI 2)] h) (Q d 368 43 [some (.ref 175), some (.int x1), some (.long x2), none, some (.int x4)]) []
   else
    if (nI 1) = x4 then
     if lg_cmp x2 0 < nI 0 then
      cK (E d 365 [.ref 175, .int (nI 3)] h) (Q d 368 69 [some (.ref 175), none, none, none, none]) []
     else
      gd x1 12 <|
      if lg_cmp x2 ((gA h 180 (ix x1)).toInt64) < nI 0 then
       gd x1 12 <|
       some (some (.int ((gA h 179 (ix x1)) + x2.toInt32)), h)
      else
       cK (E d 365 [.ref 175, .int (nI 3)] h) (Q d 368 69 [some (.ref 175), none, none, none, none]) []
    else
     cK (E d 365 [.ref 175, .int (nI 2)] h) (Q d 368 43 [some (.ref 175), some (.int x1), some (.long x2), none, some (.int x4)]) []) := by
  rw [← hs.1]
  exact entL (l := [some (.ref 175), some (.int x1), some (.long x2), none, some (.int x4)]) rfl rfl ((blkM (fun p => Nat.beq p 14 || Nat.beq p 43 || Nat.beq p 69) 36 0 _ _ _).trans rfl)

set_option maxRecDepth 16384 in
theorem t_368_14 {d : Nat} {h : AH} (hs : Sh h) (u0 : Option Value) (u1 : Option Value) (u2 : Option Value) (u3 : Option Value) (u4 : Option Value) :
    Q d 368 14 [u0, u1, u2, u3, u4] [] h =
  some (some (.int (-1)), h) := by
  rw [← hs.1]
  exact (blkM (fun p => false) 4 14 _ _ _).trans rfl

set_option maxRecDepth 16384 in
theorem t_368_43 {d : Nat} {h : AH} (hs : Sh h) (u0 : Option Value) (u1 : Option Value) (u2 : Option Value) (u3 : Option Value) (u4 : Option Value) :
    Q d 368 43 [u0, u1, u2, u3, u4] [] h =
  some (some (.int (-1)), h) := by
  rw [← hs.1]
  exact (blkM (fun p => false) 4 43 _ _ _).trans rfl

set_option maxRecDepth 16384 in
theorem t_368_69 {d : Nat} {h : AH} (hs : Sh h) (u0 : Option Value) (u1 : Option Value) (u2 : Option Value) (u3 : Option Value) (u4 : Option Value) :
    Q d 368 69 [u0, u1, u2, u3, u4] [] h =
  some (some (.int (-1)), h) := by
  rw [← hs.1]
  exact (blkM (fun p => false) 4 69 _ _ _).trans rfl

/-! 369 PostRoom$Machine.kept(IJ)J -/
set_option maxRecDepth 16384 in
theorem t_369 {d : Nat} {h : AH} (hs : Sh h) (x0 : Int32) (x1 : Int64) :
    E (d + 1) 369 [.int x0, .long x1] h =
  if x0 = nI 1 then
   if lg_cmp x1 0 = nI 0 then
    some (some (.long 0), h)
   else
    some (some (.long 1), h)
  else
   if x0 = nI 2 then
   some (some (.long x1.toInt32.toInt8.toInt32.toInt64), h)
  else
   if x0 = nI 3 then
   some (some (.long (x1 &&& 65535)), h)
  else
   if x0 = nI 4 then
   some (some (.long x1.toInt32.toInt16.toInt32.toInt64), h)
  else
   if x0 = nI 5 then
   some (some (.long x1.toInt32.toInt64), h)
  else
   if x0 = nI 6 then
   some (some (.long x1), h)
  else
   if x0 = nI 7 then
   some (some (.long (FP.f2l (FP.l2f x1))), h)
  else
   if x0 = nI 8 then
   some (some (.long (FP.d2l (FP.l2d x1))), h)
  else
   some (some (.long x1), h) := by
  rw [← hs.1]
  exact entL (l := [some (.int x0), some (.long x1), none]) rfl rfl ((blkM (fun p => false) 10 0 _ _ _).trans rfl)

/-! 370 PostRoom$Machine.fitsRow(IJ)Z -/
set_option maxRecDepth 16384 in
theorem t_370 {d : Nat} {h : AH} (hs : Sh h) (x1 : Int32) (x2 : Int64) :
    E (d + 1) 370 [.ref 175, .int x1, .long x2] h =
  if lg_cmp x2 (-1) = nI 0 then
   some (some (.int (nI 1)), h)
  else
   if x1 = nI 9 then
    some (some (.int (nI 1)), h)
   else
    cK (E d 212 [.ref 164, .int x2.toInt32] h) (Q d 370 26 [some (.ref 175), some (.int x1), some (.long x2), none]) [] := by
  rw [← hs.1]
  exact entL (l := [some (.ref 175), some (.int x1), some (.long x2), none]) rfl rfl ((blkM (fun p => Nat.beq p 26) 14 0 _ _ _).trans rfl)

set_option maxRecDepth 16384 in
theorem t_370_26 {d : Nat} {h : AH} (hs : Sh h) (x1 : Int32) (u0 : Option Value) (u2 : Option Value) (u3 : Option Value) (s0 : Nat) :
    Q d 370 26 [u0, some (.int x1), u2, u3] [.ref s0] h =
  (ck (gC h s0) 5 <|
  ck (gC h s0) 5 <|
  cK (E d 388 [.ref s0, .int ((x1 - (nI 9)) - (nI 1))] h) (Q d 370 38 [u0, some (.int x1), u2, u3]) []) := by
  rw [← hs.1]
  exact (blkM (fun p => Nat.beq p 38) 8 26 _ _ _).trans rfl

set_option maxRecDepth 16384 in
theorem t_370_38 {d : Nat} {h : AH} (hs : Sh h) (u0 : Option Value) (u1 : Option Value) (u2 : Option Value) (u3 : Option Value) (s0 : Int32) :
    Q d 370 38 [u0, u1, u2, u3] [.int s0] h =
  if s0 = nI 0 then
   some (some (.int (nI 0)), h)
  else
   some (some (.int (nI 1)), h) := by
  rw [← hs.1]
  exact (blkM (fun p => false) 5 38 _ _ _).trans rfl

/-! 371 PostRoom$Machine.hasPart(IJJ)Z -/
set_option maxRecDepth 16384 in
theorem t_371 {d : Nat} {h : AH} (hs : Sh h) (x1 : Int32) (x2 : Int64) (x4 : Int64) :
    E (d + 1) 371 [.ref 175, .int x1, .long x2, .long x4] h =
  if lg_cmp x2 0 < nI 0 then
   some (some (.int (nI 0)), h)
  else
   if lg_cmp x4 0 < nI 0 then
    some (some (.int (nI 0)), h)
   else
    gd x1 12 <|
    if (nI 0) < lg_cmp x4 ((gA h 180 (ix x1)).toInt64) then
     some (some (.int (nI 0)), h)
    else
     gd x1 12 <|
     if (nI 0) < lg_cmp x2 (((gA h 180 (ix x1)).toInt64) - x4) then
      some (some (.int (nI 0)), h)
     else
      some (some (.int (nI 1)), h) := by
  rw [← hs.1]
  exact entL (l := [some (.ref 175), some (.int x1), some (.long x2), none, some (.long x4), none]) rfl rfl ((blkM (fun p => false) 30 0 _ _ _).trans rfl)

/-! 372 PostRoom$Machine.slideRow(IIII)V -/
set_option maxRecDepth 16384 in
theorem t_372 {d : Nat} {h : AH} (hs : Sh h) (x1 : Int32) (x2 : Int32) (x3 : Int32) (x4 : Int32) :
    E (d + 1) 372 [.ref 175, .int x1, .int x2, .int x3, .int x4] h =
  if (nI 9) < x4 then
   Q d 372 13 [some (.ref 175), some (.int x1), some (.int x2), some (.int x3), some (.int x4), some (.int (nI 0))] [] h
  else
   if gC h 182 = 61 ∧ gC h 182 = 61 ∧ 100 ≤ 182 ∧ 100 ≤ 182 ∧ 0 ≤ 20 then
    if x3 < 0 ∨ x2 < 0 ∨ x1 < 0 then
    none
   else
    if ix x1 + ix x3 ≤ gK h 182 ∧ ix x2 + ix x3 ≤ gK h 182 then
     if x3 < x3 then
      cK (E d 365 [.ref 175, .int (nI 5)] (cpB h 182 (ix x1) 182 (ix x2) (ix x3))) (Q d 372 69 [none, none, none, none, none, none]) []
     else
      Q d 372 69 [none, none, none, none, none, none] [] (cpB h 182 (ix x1) 182 (ix x2) (ix x3))
    else
     none
   else
    none := by
  rw [← hs.1]
  exact entL (l := [some (.ref 175), some (.int x1), some (.int x2), some (.int x3), some (.int x4), none]) rfl rfl ((blkM (fun p => Nat.beq p 13 || Nat.beq p 69) 20 0 _ _ _).trans rfl)

set_option maxRecDepth 16384 in
theorem t_372_13 {d : Nat} {h : AH} (hs : Sh h) (x1 : Int32) (x2 : Int32) (x3 : Int32) (x4 : Int32) (x5 : Int32) :
    Q d 372 13 [some (.ref 175), some (.int x1), some (.int x2), some (.int x3), some (.int x4), some (.int x5)] [] h =
  if x5 < x3 then
   gd (x1 + x5) 2000 <|
   cK (E d 370 [.ref 175, .int x4, .long (gB h 182 (ix (x1 + x5)))] h) (Q d 372 34 [some (.ref 175), some (.int x1), some (.int x2), some (.int x3), some (.int x4), some (.int x5)]) []
  else
   if gC h 182 = 61 ∧ gC h 182 = 61 ∧ 100 ≤ 182 ∧ 100 ≤ 182 ∧ 0 ≤ 20 then
    if x5 < 0 ∨ x2 < 0 ∨ x1 < 0 then
    none
   else
    if ix x1 + ix x5 ≤ gK h 182 ∧ ix x2 + ix x5 ≤ gK h 182 then
     if x5 < x3 then
      cK (E d 365 [.ref 175, .int (nI 5)] (cpB h 182 (ix x1) 182 (ix x2) (ix x5))) (Q d 372 69 [none, none, none, none, none, none]) []
     else
      Q d 372 69 [none, none, none, none, none, none] [] (cpB h 182 (ix x1) 182 (ix x2) (ix x5))
    else
     none
   else
    none := by
  rw [← hs.1]
  exact (blkM (fun p => Nat.beq p 34 || Nat.beq p 69) 18 13 _ _ _).trans rfl

set_option maxRecDepth 16384 in
theorem t_372_69 {d : Nat} {h : AH} (hs : Sh h)  :
    Q d 372 69 [none, none, none, none, none, none] [] h =
  some (none, h) := by
  rw [← hs.1]
  exact (blkM (fun p => false) 2 69 _ _ _).trans rfl

set_option maxRecDepth 16384 in
theorem t_372_34 {d : Nat} {h : AH} (hs : Sh h) (x1 : Int32) (x2 : Int32) (x3 : Int32) (x4 : Int32) (x5 : Int32) (s0 : Int32) :
    Q d 372 34 [some (.ref 175), some (.int x1), some (.int x2), some (.int x3), some (.int x4), some (.int x5)] [.int s0] h =
  if s0 = nI 0 then
   if gC h 182 = 61 ∧ gC h 182 = 61 ∧ 100 ≤ 182 ∧ 100 ≤ 182 ∧ 0 ≤ 20 then
    if x5 < 0 ∨ x2 < 0 ∨ x1 < 0 then
    none
   else
    if ix x1 + ix x5 ≤ gK h 182 ∧ ix x2 + ix x5 ≤ gK h 182 then
     if x5 < x3 then
      cK (E d 365 [.ref 175, .int (nI 5)] (cpB h 182 (ix x1) 182 (ix x2) (ix x5))) (Q d 372 69 [none, none, none, none, none, none]) []
     else
      Q d 372 69 [none, none, none, none, none, none] [] (cpB h 182 (ix x1) 182 (ix x2) (ix x5))
    else
     none
   else
    none
  else
   Q d 372 13 [some (.ref 175), some (.int x1), some (.int x2), some (.int x3), some (.int x4), some (.int (x5 + nI 1))] [] h := by
  rw [← hs.1]
  exact (blkM (fun p => Nat.beq p 13 || Nat.beq p 69) 16 34 _ _ _).trans rfl

/-! 373 PostRoom$Machine.doBlock(I)V -/
set_option maxRecDepth 16384 in
theorem t_373 {d : Nat} {h : AH} (hs : Sh h) (x1 : Int32) :
    E (d + 1) 373 [.ref 175, .int x1] h =
  (gR h 1544 175).bind fun y1 =>
   ck (gC h y1) 9 <|
   cK (E d 330 [.ref y1, .int (gI h 1545 175)] h) (Q d 373 11 [some (.ref 175), some (.int x1), none, none, none]) [] := by
  rw [← hs.1]
  exact entL (l := [some (.ref 175), some (.int x1), none, none, none]) rfl rfl ((blkM (fun p => Nat.beq p 11) 6 0 _ _ _).trans rfl)

set_option maxRecDepth 16384 in
theorem t_373_11 {d : Nat} {h : AH} (hs : Sh h) (x1 : Int32) (u2 : Option Value) (u3 : Option Value) (u4 : Option Value) (s0 : Int32) :
    Q d 373 11 [some (.ref 175), some (.int x1), u2, u3, u4] [.int s0] h =
  cK (E d 383 [.ref 175, .int x1] (sI h 1545 175 ((gI h 1545 175) + (nI 1)))) (Q d 373 27 [some (.ref 175), some (.int x1), some (.int s0), u3, u4]) [] := by
  rw [← hs.1]
  exact (blkM (fun p => Nat.beq p 27) 11 11 _ _ _).trans rfl

set_option maxRecDepth 16384 in
theorem t_373_27 {d : Nat} {h : AH} (hs : Sh h) (x1 : Int32) (x2 : Int32) (u3 : Option Value) (u4 : Option Value) (s0 : Int32) :
    Q d 373 27 [some (.ref 175), some (.int x1), some (.int x2), u3, u4] [.int s0] h =
  if s0 = nI 0 then
   Q d 373 39 [some (.ref 175), some (.int x1), some (.int x2), some (.int (nI 1)), some (.int (nI 0))] [] h
  else
   Q d 373 39 [some (.ref 175), some (.int x1), some (.int x2), some (.int (nI 0)), some (.int (nI 0))] [] h := by
  rw [← hs.1]
  exact (blkM (fun p => Nat.beq p 39) 8 27 _ _ _).trans rfl

set_option maxRecDepth 16384 in
theorem t_373_39 {d : Nat} {h : AH} (hs : Sh h) (x1 : Int32) (x2 : Int32) (x3 : Int32) (x4 : Int32) :
    Q d 373 39 [some (.ref 175), some (.int x1), some (.int x2), some (.int x3), some (.int x4)] [] h =
  if x4 < nI 4000 then
   if x3 = nI 0 then
    some (none, sI h 1545 175 (x2 + (nI 1)))
   else
    cK (E d 362 [.ref 175] h) (Q d 373 55 [some (.ref 175), some (.int x1), some (.int x2), some (.int x3), some (.int x4)]) []
  else
   some (none, sI h 1545 175 (x2 + (nI 1))) := by
  rw [← hs.1]
  exact (blkM (fun p => Nat.beq p 55) 12 39 _ _ _).trans rfl

set_option maxRecDepth 16384 in
theorem t_373_55 {d : Nat} {h : AH} (hs : Sh h) (x1 : Int32) (x2 : Int32) (x3 : Int32) (x4 : Int32) (s0 : Int32) :
    Q d 373 55 [some (.ref 175), some (.int x1), some (.int x2), some (.int x3), some (.int x4)] [.int s0] h =
  if s0 = nI 0 then
   some (none, sI h 1545 175 (x2 + (nI 1)))
  else
   if gI h 1545 175 < x2 then
    cK (E d 266 [.ref 175, .int (x1 + (nI 1))] h) (Q d 373 73 [some (.ref 175), some (.int x1), some (.int x2), some (.int x3), some (.int x4)]) []
   else
    some (none, sI h 1545 175 (x2 + (nI 1))) := by
  rw [← hs.1]
  exact (blkM (fun p => Nat.beq p 73) 12 55 _ _ _).trans rfl

set_option maxRecDepth 16384 in
theorem t_373_73 {d : Nat} {h : AH} (hs : Sh h) (x1 : Int32) (x2 : Int32) (x3 : Int32) (x4 : Int32) :
    Q d 373 73 [some (.ref 175), some (.int x1), some (.int x2), some (.int x3), some (.int x4)] [] h =
  Q d 373 39 [some (.ref 175), some (.int x1), some (.int x2), some (.int x3), some (.int (x4 + nI 1))] [] h := by
  rw [← hs.1]
  exact (blkM (fun p => Nat.beq p 39) 4 73 _ _ _).trans rfl

/-! 374 PostRoom$Machine.passBlock()V -/
set_option maxRecDepth 16384 in
theorem t_374 {d : Nat} {h : AH} (hs : Sh h)  :
    E (d + 1) 374 [.ref 175] h =
  (gR h 1544 175).bind fun y1 =>
   ck (gC h y1) 9 <|
   cK (E d 330 [.ref y1, .int (gI h 1545 175)] h) (Q d 374 12 [some (.ref 175)]) [.ref 175] := by
  rw [← hs.1]
  exact entL (l := [some (.ref 175)]) rfl rfl ((blkM (fun p => Nat.beq p 12) 7 0 _ _ _).trans rfl)

set_option maxRecDepth 16384 in
theorem t_374_12 {d : Nat} {h : AH} (hs : Sh h) (u0 : Option Value) (s0 : Nat) (s1 : Int32) :
    Q d 374 12 [u0] [.int s1, .ref s0] h =
  (ck (gC h s0) 6 <|
  some (none, sI h 1545 s0 (s1 + (nI 1)))) := by
  rw [← hs.1]
  exact (blkM (fun p => false) 5 12 _ _ _).trans rfl

/-! 375 PostRoom$Machine.doAlways(I)V -/
set_option maxRecDepth 16384 in
theorem t_375 {d : Nat} {h : AH} (hs : Sh h) (x1 : Int32) :
    E (d + 1) 375 [.ref 175, .int x1] h =
  cK (E d 373 [.ref 175, .int x1] (sI h 1547 175 (nI 0))) (Q d 375 20 [some (.ref 175), some (.int x1), some (.int (gI h 1547 175)), some (.long (gL h 1548 175)), none]) [] := by
  rw [← hs.1]
  exact entL (l := [some (.ref 175), some (.int x1), none, none, none]) rfl rfl ((blkM (fun p => Nat.beq p 20) 13 0 _ _ _).trans rfl)

set_option maxRecDepth 16384 in
theorem t_375_20 {d : Nat} {h : AH} (hs : Sh h) (x2 : Int32) (x3 : Int64) (u1 : Option Value) :
    Q d 375 20 [some (.ref 175), u1, some (.int x2), some (.long x3), none] [] h =
  cK (E d 362 [.ref 175] h) (Q d 375 24 [some (.ref 175), u1, some (.int x2), some (.long x3), none]) [] := by
  rw [← hs.1]
  exact (blkM (fun p => Nat.beq p 24) 3 20 _ _ _).trans rfl

set_option maxRecDepth 16384 in
theorem t_375_24 {d : Nat} {h : AH} (hs : Sh h) (x2 : Int32) (x3 : Int64) (u1 : Option Value) (s0 : Int32) :
    Q d 375 24 [some (.ref 175), u1, some (.int x2), some (.long x3), none] [.int s0] h =
  if s0 = nI 0 then
   some (none, h)
  else
   some (none, sL (sI h 1547 175 x2) 1548 175 x3) := by
  rw [← hs.1]
  exact (blkM (fun p => false) 9 24 _ _ _).trans rfl

/-! 376 java/lang/Math.max(JJ)J -/
set_option maxRecDepth 16384 in
theorem t_376 {d : Nat} {h : AH} (hs : Sh h) (x0 : Int64) (x2 : Int64) :
    E (d + 1) 376 [.long x0, .long x2] h =
  if lg_cmp x0 x2 < nI 0 then
   some (some (.long x2), h)
  else
   some (some (.long x0), h) := by
  rw [← hs.1]
  exact entL (l := [some (.long x0), none, some (.long x2), none]) rfl rfl ((blkM (fun p => false) 8 0 _ _ _).trans rfl)

/-! 377 java/util/ArrayList.grow()[Ljava/lang/Object; -/
set_option maxRecDepth 16384 in
theorem t_377 {d : Nat} {h : AH} (hs : Sh h) (x0 : Nat) :
    E (d + 1) 377 [.ref x0] h =
  (ck (gC h x0) 1 <|
  ck (gC h x0) 1 <|
  cK (E d 389 [.ref x0, .int ((gI h 258 x0) + (nI 1))] h) (Q d 377 10 [some (.ref x0)]) []) := by
  rw [← hs.1]
  exact entL (l := [some (.ref x0)]) rfl rfl ((blkM (fun p => Nat.beq p 10) 7 0 _ _ _).trans rfl)

set_option maxRecDepth 16384 in
theorem t_377_10 {d : Nat} {h : AH} (hs : Sh h) (u0 : Option Value) (s0 : Nat) :
    Q d 377 10 [u0] [.ref s0] h =
  some (some (.ref s0), h) := by
  rw [← hs.1]
  exact (blkM (fun p => false) 2 10 _ _ _).trans rfl

/-! 378 java/lang/StringLatin1.indexOf([BIII)I -/
set_option maxRecDepth 16384 in
theorem t_378 {d : Nat} {h : AH} (hs : Sh h) (x0 : Nat) (x1 : Int32) (x2 : Int32) (x3 : Int32) :
    E (d + 1) 378 [.ref x0, .int x1, .int x2, .int x3] h =
  cK (E d 390 [.int x1] h) (Q d 378 4 [some (.ref x0), some (.int x1), some (.int x2), some (.int x3)]) [] := by
  rw [← hs.1]
  exact entL (l := [some (.ref x0), some (.int x1), some (.int x2), some (.int x3)]) rfl rfl ((blkM (fun p => Nat.beq p 4) 3 0 _ _ _).trans rfl)

set_option maxRecDepth 16384 in
theorem t_378_4 {d : Nat} {h : AH} (hs : Sh h) (x0 : Nat) (x1 : Int32) (x2 : Int32) (x3 : Int32) (s0 : Int32) :
    Q d 378 4 [some (.ref x0), some (.int x1), some (.int x2), some (.int x3)] [.int s0] h =
  if s0 = nI 0 then
   some (some (.int (-1)), h)
  else
   cK (E d 391 [.int x2, .int (nI 0)] h) (Q d 378 14 [some (.ref x0), some (.int x1), some (.int x2), some (.int x3)]) [] := by
  rw [← hs.1]
  exact (blkM (fun p => Nat.beq p 14) 5 4 _ _ _).trans rfl

set_option maxRecDepth 16384 in
theorem t_378_14 {d : Nat} {h : AH} (hs : Sh h) (x0 : Nat) (x1 : Int32) (x3 : Int32) (u2 : Option Value) (s0 : Int32) :
    Q d 378 14 [some (.ref x0), some (.int x1), u2, some (.int x3)] [.int s0] h =
  if 60 ≤ gC h x0 ∧ gC h x0 ≤ 66 then
   cK (E d 302 [.int x3, .int (nI (gK h x0))] h) (Q d 378 21 [some (.ref x0), some (.int x1), some (.int s0), some (.int x3)]) []
  else
   none := by
  rw [← hs.1]
  exact (blkM (fun p => Nat.beq p 21) 6 14 _ _ _).trans rfl

set_option maxRecDepth 16384 in
theorem t_378_21 {d : Nat} {h : AH} (hs : Sh h) (x0 : Nat) (x1 : Int32) (x2 : Int32) (u3 : Option Value) (s0 : Int32) :
    Q d 378 21 [some (.ref x0), some (.int x1), some (.int x2), u3] [.int s0] h =
  if x2 < s0 then
   cK (E d 392 [.ref x0, .int x1, .int x2, .int s0] h) (Q d 378 36 [some (.ref x0), some (.int x1), some (.int x2), some (.int s0)]) []
  else
   some (some (.int (-1)), h) := by
  rw [← hs.1]
  exact (blkM (fun p => Nat.beq p 36) 10 21 _ _ _).trans rfl

set_option maxRecDepth 16384 in
theorem t_378_36 {d : Nat} {h : AH} (hs : Sh h) (u0 : Option Value) (u1 : Option Value) (u2 : Option Value) (u3 : Option Value) (s0 : Int32) :
    Q d 378 36 [u0, u1, u2, u3] [.int s0] h =
  some (some (.int s0), h) := by
  rw [← hs.1]
  exact (blkM (fun p => false) 2 36 _ _ _).trans rfl

/-! 379 PostRoom$Finder.fillLine([IIII)V -/
set_option maxRecDepth 16384 in
theorem t_379 {d : Nat} {h : AH} (hs : Sh h) (x1 : Nat) (x2 : Int32) (x3 : Int32) (x4 : Int32) :
    E (d + 1) 379 [.ref 103, .ref x1, .int x2, .int x3, .int x4] h =
  cK (E d 391 [.int (nI 1), .int (x2 - (nI 3))] h) (Q d 379 7 [some (.ref 103), some (.ref x1), some (.int x2), some (.int x3), some (.int x4), none, none, none, none, none]) [] := by
  rw [← hs.1]
  exact entL (l := [some (.ref 103), some (.ref x1), some (.int x2), some (.int x3), some (.int x4), none, none, none, none, none]) rfl rfl ((blkM (fun p => Nat.beq p 7) 6 0 _ _ _).trans rfl)

set_option maxRecDepth 16384 in
theorem t_379_7 {d : Nat} {h : AH} (hs : Sh h) (x1 : Nat) (x2 : Int32) (x3 : Int32) (x4 : Int32) (u5 : Option Value) (u6 : Option Value) (u7 : Option Value) (u8 : Option Value) (u9 : Option Value) (s0 : Int32) :
    Q d 379 7 [some (.ref 103), some (.ref x1), some (.int x2), some (.int x3), some (.int x4), u5, u6, u7, u8, u9] [.int s0] h =
  cK (E d 302 [.int x4, .int (x2 + (nI 3))] h) (Q d 379 17 [some (.ref 103), some (.ref x1), some (.int x2), some (.int x3), some (.int x4), some (.int s0), u6, u7, u8, u9]) [] := by
  rw [← hs.1]
  exact (blkM (fun p => Nat.beq p 17) 7 7 _ _ _).trans rfl

set_option maxRecDepth 16384 in
theorem t_379_17 {d : Nat} {h : AH} (hs : Sh h) (x1 : Nat) (x2 : Int32) (x3 : Int32) (x4 : Int32) (x5 : Int32) (u6 : Option Value) (u7 : Option Value) (u8 : Option Value) (u9 : Option Value) (s0 : Int32) :
    Q d 379 17 [some (.ref 103), some (.ref x1), some (.int x2), some (.int x3), some (.int x4), some (.int x5), u6, u7, u8, u9] [.int s0] h =
  (gd x2 48 <|
  (gO h 107 (ix x2)).bind fun y1 =>
   if x5 = nI 1 then
    cw (gC h y1) 60 y1 <|
    gd (x5 - (nI 1)) (gK h y1) <|
    Q d 379 46 [some (.ref 103), some (.ref x1), some (.int x2), some (.int x3), some (.int x4), none, some (.int s0), some (.int x5), none, none] [] (sA h y1 (ix (x5 - (nI 1))) x2)
   else
    cw (gC h y1) 60 y1 <|
    gd (x5 - (nI 1)) (gK h y1) <|
    Q d 379 46 [some (.ref 103), some (.ref x1), some (.int x2), some (.int x3), some (.int x4), none, some (.int s0), some (.int x5), none, none] [] (sA h y1 (ix (x5 - (nI 1))) (nI 99))) := by
  rw [← hs.1]
  exact (blkM (fun p => Nat.beq p 46) 18 17 _ _ _).trans rfl

set_option maxRecDepth 16384 in
theorem t_379_46 {d : Nat} {h : AH} (hs : Sh h) (x1 : Nat) (x2 : Int32) (x3 : Int32) (x4 : Int32) (x6 : Int32) (x7 : Int32) :
    Q d 379 46 [some (.ref 103), some (.ref x1), some (.int x2), some (.int x3), some (.int x4), none, some (.int x6), some (.int x7), none, none] [] h =
  if x6 < x7 then
   if x6 < x4 then
    gd x2 48 <|
    (gO h 107 (ix x2)).bind fun y1 =>
     cw (gC h y1) 60 y1 <|
     gd (x6 + (nI 1)) (gK h y1) <|
     some (none, sA h y1 (ix (x6 + (nI 1))) (nI 99))
   else
    some (none, h)
  else
   ck (gC h x1) 60 <|
   gd (x2 - (nI 1)) (gK h x1) <|
   gd ((x3 + x7) - (nI 1)) 613 <|
   if gA h x1 (ix (x2 - (nI 1))) = gA h 104 (ix ((x3 + x7) - (nI 1))) then
    gd (x2 - (nI 1)) 48 <|
    (gO h 107 (ix (x2 - (nI 1)))).bind fun y2 =>
     ck (gC h y2) 60 <|
     gd (x7 - (nI 1)) (gK h y2) <|
     if (nI 1) = nI 0 then
      gd (x2 - (nI 1)) 48 <|
      (gO h 107 (ix (x2 - (nI 1)))).bind fun y3 =>
       ck (gC h y3) 60 <|
       gd x7 (gK h y3) <|
       gd x2 48 <|
       (gO h 107 (ix x2)).bind fun y4 =>
        ck (gC h y4) 60 <|
        gd (x7 - (nI 1)) (gK h y4) <|
        cK (E d 302 [.int (gA h y3 (ix x7)), .int (gA h y4 (ix (x7 - (nI 1))))] h) (Q d 379 132 [some (.ref 103), some (.ref x1), some (.int x2), some (.int x3), some (.int x4), none, some (.int x6), some (.int x7), none, some (.int ((gA h y2 (ix (x7 - (nI 1)))) + (nI 1)))]) [.int ((gA h y2 (ix (x7 - (nI 1)))) + (nI 1))]
     else
      gd (x2 - (nI 1)) 48 <|
      (gO h 107 (ix (x2 - (nI 1)))).bind fun y5 =>
       ck (gC h y5) 60 <|
       gd x7 (gK h y5) <|
       gd x2 48 <|
       (gO h 107 (ix x2)).bind fun y6 =>
        ck (gC h y6) 60 <|
        gd (x7 - (nI 1)) (gK h y6) <|
        cK (E d 302 [.int (gA h y5 (ix x7)), .int (gA h y6 (ix (x7 - (nI 1))))] h) (Q d 379 132 [some (.ref 103), some (.ref x1), some (.int x2), some (.int x3), some (.int x4), none, some (.int x6), some (.int x7), none, some (.int ((gA h y2 (ix (x7 - (nI 1)))) + (nI 0)))]) [.int ((gA h y2 (ix (x7 - (nI 1)))) + (nI 0))]
   else
    gd (x2 - (nI 1)) 48 <|
    (gO h 107 (ix (x2 - (nI 1)))).bind fun y7 =>
     ck (gC h y7) 60 <|
     gd (x7 - (nI 1)) (gK h y7) <|
     if (nI 0) = nI 0 then
      gd (x2 - (nI 1)) 48 <|
      (gO h 107 (ix (x2 - (nI 1)))).bind fun y8 =>
       ck (gC h y8) 60 <|
       gd x7 (gK h y8) <|
       gd x2 48 <|
       (gO h 107 (ix x2)).bind fun y9 =>
        ck (gC h y9) 60 <|
        gd (x7 - (nI 1)) (gK h y9) <|
        cK (E d 302 [.int (gA h y8 (ix x7)), .int (gA h y9 (ix (x7 - (nI 1))))] h) (Q d 379 132 [some (.ref 103), some (.ref x1), some (.int x2), some (.int x3), some (.int x4), none, some (.int x6), some (.int x7), none, some (.int ((gA h y7 (ix (x7 - (nI 1)))) + (nI 1)))]) [.int ((gA h y7 (ix (x7 - (nI 1)))) + (nI 1))]
     else
      gd (x2 - (nI 1)) 48 <|
      (gO h 107 (ix (x2 - (nI 1)))).bind fun y10 =>
       ck (gC h y10) 60 <|
       gd x7 (gK h y10) <|
       gd x2 48 <|
       (gO h 107 (ix x2)).bind fun y11 =>
        ck (gC h y11) 60 <|
        gd (x7 - (nI 1)) (gK h y11) <|
        cK (E d 302 [.int (gA h y10 (ix x7)), .int (gA h y11 (ix (x7 - (nI 1))))] h) (Q d 379 132 [some (.ref 103), some (.ref x1), some (.int x2), some (.int x3), some (.int x4), none, some (.int x6), some (.int x7), none, some (.int ((gA h y7 (ix (x7 - (nI 1)))) + (nI 0)))]) [.int ((gA h y7 (ix (x7 - (nI 1)))) + (nI 0))] := by
  rw [← hs.1]
  exact (blkM (fun p => Nat.beq p 132) 55 46 _ _ _).trans rfl

set_option maxRecDepth 16384 in
theorem t_379_132 {d : Nat} {h : AH} (hs : Sh h) (x1 : Nat) (x2 : Int32) (x3 : Int32) (x4 : Int32) (x6 : Int32) (x7 : Int32) (u5 : Option Value) (u8 : Option Value) (u9 : Option Value) (s0 : Int32) (s1 : Int32) :
    Q d 379 132 [some (.ref 103), some (.ref x1), some (.int x2), some (.int x3), some (.int x4), u5, some (.int x6), some (.int x7), u8, u9] [.int s1, .int s0] h =
  cK (E d 302 [.int s0, .int (s1 + (nI 1))] h) (Q d 379 137 [some (.ref 103), some (.ref x1), some (.int x2), some (.int x3), some (.int x4), u5, some (.int x6), some (.int x7), u8, u9]) [] := by
  rw [← hs.1]
  exact (blkM (fun p => Nat.beq p 137) 4 132 _ _ _).trans rfl

set_option maxRecDepth 16384 in
theorem t_379_137 {d : Nat} {h : AH} (hs : Sh h) (x1 : Nat) (x2 : Int32) (x3 : Int32) (x4 : Int32) (x6 : Int32) (x7 : Int32) (u5 : Option Value) (u8 : Option Value) (u9 : Option Value) (s0 : Int32) :
    Q d 379 137 [some (.ref 103), some (.ref x1), some (.int x2), some (.int x3), some (.int x4), u5, some (.int x6), some (.int x7), u8, u9] [.int s0] h =
  if (nI 1) < x2 then
   if (nI 1) < x7 then
    ck (gC h x1) 60 <|
    gd (x2 - (nI 1)) (gK h x1) <|
    gd ((x3 + x7) - (nI 2)) 613 <|
    if gA h x1 (ix (x2 - (nI 1))) = gA h 104 (ix ((x3 + x7) - (nI 2))) then
     ck (gC h x1) 60 <|
     gd (x2 - (nI 2)) (gK h x1) <|
     gd ((x3 + x7) - (nI 1)) 613 <|
     if gA h x1 (ix (x2 - (nI 2))) = gA h 104 (ix ((x3 + x7) - (nI 1))) then
      gd (x2 - (nI 2)) 48 <|
      (gO h 107 (ix (x2 - (nI 2)))).bind fun y1 =>
       ck (gC h y1) 60 <|
       gd (x7 - (nI 2)) (gK h y1) <|
       cK (E d 302 [.int s0, .int ((gA h y1 (ix (x7 - (nI 2)))) + (nI 1))] h) (Q d 379 208 [some (.ref 103), some (.ref x1), some (.int x2), some (.int x3), some (.int x4), u5, some (.int x6), some (.int x7), klV u8, some (.int s0)]) []
     else
      gd x2 48 <|
      (gO h 107 (ix x2)).bind fun y2 =>
       cw (gC h y2) 60 y2 <|
       gd x7 (gK h y2) <|
       Q d 379 46 [some (.ref 103), some (.ref x1), some (.int x2), some (.int x3), some (.int x4), none, some (.int x6), some (.int (x7 + nI 1)), none, none] [] (sA h y2 (ix x7) s0)
    else
     gd x2 48 <|
     (gO h 107 (ix x2)).bind fun y3 =>
      cw (gC h y3) 60 y3 <|
      gd x7 (gK h y3) <|
      Q d 379 46 [some (.ref 103), some (.ref x1), some (.int x2), some (.int x3), some (.int x4), none, some (.int x6), some (.int (x7 + nI 1)), none, none] [] (sA h y3 (ix x7) s0)
   else
    gd x2 48 <|
    (gO h 107 (ix x2)).bind fun y4 =>
     cw (gC h y4) 60 y4 <|
     gd x7 (gK h y4) <|
     Q d 379 46 [some (.ref 103), some (.ref x1), some (.int x2), some (.int x3), some (.int x4), none, some (.int x6), some (.int (x7 + nI 1)), none, none] [] (sA h y4 (ix x7) s0)
  else
   gd x2 48 <|
   (gO h 107 (ix x2)).bind fun y5 =>
    cw (gC h y5) 60 y5 <|
    gd x7 (gK h y5) <|
    Q d 379 46 [some (.ref 103), some (.ref x1), some (.int x2), some (.int x3), some (.int x4), none, some (.int x6), some (.int (x7 + nI 1)), none, none] [] (sA h y5 (ix x7) s0) := by
  rw [← hs.1]
  exact (blkM (fun p => Nat.beq p 46 || Nat.beq p 208) 50 137 _ _ _).trans rfl

set_option maxRecDepth 16384 in
theorem t_379_208 {d : Nat} {h : AH} (hs : Sh h) (x1 : Nat) (x2 : Int32) (x3 : Int32) (x4 : Int32) (x6 : Int32) (x7 : Int32) (u5 : Option Value) (u8 : Option Value) (u9 : Option Value) (s0 : Int32) :
    Q d 379 208 [some (.ref 103), some (.ref x1), some (.int x2), some (.int x3), some (.int x4), u5, some (.int x6), some (.int x7), u8, u9] [.int s0] h =
  (gd x2 48 <|
  (gO h 107 (ix x2)).bind fun y1 =>
   cw (gC h y1) 60 y1 <|
   gd x7 (gK h y1) <|
   Q d 379 46 [some (.ref 103), some (.ref x1), some (.int x2), some (.int x3), some (.int x4), none, some (.int x6), some (.int (x7 + nI 1)), none, none] [] (sA h y1 (ix x7) s0)) := by
  rw [← hs.1]
  exact (blkM (fun p => Nat.beq p 46) 12 208 _ _ _).trans rfl

/-! 380 PostRoom$Script.readProduct(I)Z -/
set_option maxRecDepth 16384 in
theorem t_380 {d : Nat} {h : AH} (hs : Sh h) (x0 : Nat) (x1 : Int32) :
    E (d + 1) 380 [.ref x0, .int x1] h =
  (ck (gC h x0) 9 <|
  cK (E d 358 [.ref x0, .int x1] h) (Q d 380 5 [some (.ref x0), some (.int x1), none]) []) := by
  rw [← hs.1]
  exact entL (l := [some (.ref x0), some (.int x1), none]) rfl rfl ((blkM (fun p => Nat.beq p 5) 4 0 _ _ _).trans rfl)

set_option maxRecDepth 16384 in
theorem t_380_5 {d : Nat} {h : AH} (hs : Sh h) (x0 : Nat) (x1 : Int32) (u2 : Option Value) (s0 : Int32) :
    Q d 380 5 [some (.ref x0), some (.int x1), u2] [.int s0] h =
  if s0 = nI 0 then
   some (some (.int (nI 0)), h)
  else
   Q d 380 12 [some (.ref x0), some (.int x1), some (.int (nI 0))] [] h := by
  rw [← hs.1]
  exact (blkM (fun p => Nat.beq p 12) 5 5 _ _ _).trans rfl

set_option maxRecDepth 16384 in
theorem t_380_12 {d : Nat} {h : AH} (hs : Sh h) (x0 : Nat) (x1 : Int32) (x2 : Int32) :
    Q d 380 12 [some (.ref x0), some (.int x1), some (.int x2)] [] h =
  if x2 < nI 4000 then
   ck (gC h x0) 9 <|
   if gI h 2307 x0 = nI 42 then
    ck (gC h x0) 9 <|
    cK (E d 317 [.ref x0] h) (Q d 380 50 [some (.ref x0), some (.int x1), some (.int x2)]) []
   else
    ck (gC h x0) 9 <|
    if gI h 2307 x0 = nI 47 then
     ck (gC h x0) 9 <|
     cK (E d 317 [.ref x0] h) (Q d 380 50 [some (.ref x0), some (.int x1), some (.int x2)]) []
    else
     ck (gC h x0) 9 <|
     if gI h 2307 x0 = nI 37 then
      ck (gC h x0) 9 <|
      cK (E d 317 [.ref x0] h) (Q d 380 50 [some (.ref x0), some (.int x1), some (.int x2)]) []
     else
      some (some (.int (nI 1)), h)
  else
   some (some (.int (nI 1)), h) := by
  rw [← hs.1]
  exact (blkM (fun p => Nat.beq p 50) 18 12 _ _ _).trans rfl

set_option maxRecDepth 16384 in
theorem t_380_50 {d : Nat} {h : AH} (hs : Sh h) (x0 : Nat) (x1 : Int32) (x2 : Int32) (s0 : Int32) :
    Q d 380 50 [some (.ref x0), some (.int x1), some (.int x2)] [.int s0] h =
  if s0 = nI 0 then
   some (some (.int (nI 0)), h)
  else
   ck (gC h x0) 9 <|
   cK (E d 358 [.ref x0, .int x1] h) (Q d 380 58 [some (.ref x0), some (.int x1), some (.int x2)]) [] := by
  rw [← hs.1]
  exact (blkM (fun p => Nat.beq p 58) 5 50 _ _ _).trans rfl

set_option maxRecDepth 16384 in
theorem t_380_58 {d : Nat} {h : AH} (hs : Sh h) (x0 : Nat) (x1 : Int32) (x2 : Int32) (s0 : Int32) :
    Q d 380 58 [some (.ref x0), some (.int x1), some (.int x2)] [.int s0] h =
  if s0 = nI 0 then
   some (some (.int (nI 0)), h)
  else
   Q d 380 12 [some (.ref x0), some (.int x1), some (.int (x2 + nI 1))] [] h := by
  rw [← hs.1]
  exact (blkM (fun p => Nat.beq p 12) 5 58 _ _ _).trans rfl

/-! 381 PostRoom$Script.beginsUnit()Z -/
set_option maxRecDepth 16384 in
theorem t_381 {d : Nat} {h : AH} (hs : Sh h) (x0 : Nat) :
    E (d + 1) 381 [.ref x0] h =
  (ck (gC h x0) 9 <|
  if gI h 2307 x0 = nI 3 then
   some (some (.int (nI 1)), h)
  else
   ck (gC h x0) 9 <|
   if gI h 2307 x0 = nI 4 then
    some (some (.int (nI 1)), h)
   else
    ck (gC h x0) 9 <|
    if gI h 2307 x0 = nI 40 then
     some (some (.int (nI 1)), h)
    else
     ck (gC h x0) 9 <|
     if gI h 2307 x0 = nI 45 then
      some (some (.int (nI 1)), h)
     else
      ck (gC h x0) 9 <|
      if gI h 2307 x0 < nI 143 then
       some (some (.int (nI 0)), h)
      else
       ck (gC h x0) 9 <|
       if (nI 153) < gI h 2307 x0 then
        some (some (.int (nI 0)), h)
       else
        some (some (.int (nI 1)), h)) := by
  rw [← hs.1]
  exact entL (l := [some (.ref x0)]) rfl rfl ((blkM (fun p => false) 28 0 _ _ _).trans rfl)

/-! 382 PostRoom$Machine.sum(I)J -/
set_option maxRecDepth 16384 in
theorem t_382 {d : Nat} {h : AH} (hs : Sh h) (x1 : Int32) :
    E (d + 1) 382 [.ref 175, .int x1] h =
  cK (E d 393 [.ref 175, .int x1] h) (Q d 382 5 [some (.ref 175), some (.int x1), none, none, none, none, none, none]) [] := by
  rw [← hs.1]
  exact entL (l := [some (.ref 175), some (.int x1), none, none, none, none, none, none]) rfl rfl ((blkM (fun p => Nat.beq p 5) 4 0 _ _ _).trans rfl)

set_option maxRecDepth 16384 in
theorem t_382_5 {d : Nat} {h : AH} (hs : Sh h) (x1 : Int32) (u2 : Option Value) (u3 : Option Value) (u4 : Option Value) (u5 : Option Value) (u6 : Option Value) (u7 : Option Value) (s0 : Int64) :
    Q d 382 5 [some (.ref 175), some (.int x1), u2, u3, u4, u5, u6, u7] [.long s0] h =
  Q d 382 9 [some (.ref 175), some (.int x1), some (.long s0), none, some (.int (nI 0)), none, none, none] [] h := by
  rw [← hs.1]
  exact (blkM (fun p => Nat.beq p 9) 5 5 _ _ _).trans rfl

set_option maxRecDepth 16384 in
theorem t_382_9 {d : Nat} {h : AH} (hs : Sh h) (x1 : Int32) (x2 : Int64) (x4 : Int32) :
    Q d 382 9 [some (.ref 175), some (.int x1), some (.long x2), none, some (.int x4), none, none, none] [] h =
  if x4 < nI 4000 then
   cK (E d 362 [.ref 175] h) (Q d 382 21 [some (.ref 175), some (.int x1), some (.long x2), none, some (.int x4), none, none, none]) []
  else
   some (some (.long x2), h) := by
  rw [← hs.1]
  exact (blkM (fun p => Nat.beq p 21) 6 9 _ _ _).trans rfl

set_option maxRecDepth 16384 in
theorem t_382_21 {d : Nat} {h : AH} (hs : Sh h) (x1 : Int32) (x2 : Int64) (x4 : Int32) (u5 : Option Value) (u6 : Option Value) (u7 : Option Value) (s0 : Int32) :
    Q d 382 21 [some (.ref 175), some (.int x1), some (.long x2), none, some (.int x4), u5, u6, u7] [.int s0] h =
  if s0 = nI 0 then
   some (some (.long x2), h)
  else
   cK (E d 328 [.ref 175] h) (Q d 382 28 [some (.ref 175), some (.int x1), some (.long x2), none, some (.int x4), u5, u6, u7]) [] := by
  rw [← hs.1]
  exact (blkM (fun p => Nat.beq p 28) 4 21 _ _ _).trans rfl

set_option maxRecDepth 16384 in
theorem t_382_28 {d : Nat} {h : AH} (hs : Sh h) (x1 : Int32) (x2 : Int64) (x4 : Int32) (u5 : Option Value) (u6 : Option Value) (u7 : Option Value) (s0 : Int32) :
    Q d 382 28 [some (.ref 175), some (.int x1), some (.long x2), none, some (.int x4), u5, u6, u7] [.int s0] h =
  if s0 = nI 43 then
   cK (E d 328 [.ref 175] h) (Q d 382 46 [some (.ref 175), some (.int x1), some (.long x2), none, some (.int x4), none, none, none]) []
  else
   cK (E d 328 [.ref 175] h) (Q d 382 37 [some (.ref 175), some (.int x1), some (.long x2), none, some (.int x4), u5, u6, u7]) [] := by
  rw [← hs.1]
  exact (blkM (fun p => Nat.beq p 37 || Nat.beq p 46) 5 28 _ _ _).trans rfl

set_option maxRecDepth 16384 in
theorem t_382_37 {d : Nat} {h : AH} (hs : Sh h) (x1 : Int32) (x2 : Int64) (x4 : Int32) (u5 : Option Value) (u6 : Option Value) (u7 : Option Value) (s0 : Int32) :
    Q d 382 37 [some (.ref 175), some (.int x1), some (.long x2), none, some (.int x4), u5, u6, u7] [.int s0] h =
  if s0 = nI 45 then
   cK (E d 328 [.ref 175] h) (Q d 382 46 [some (.ref 175), some (.int x1), some (.long x2), none, some (.int x4), none, none, none]) []
  else
   some (some (.long x2), h) := by
  rw [← hs.1]
  exact (blkM (fun p => Nat.beq p 46) 5 37 _ _ _).trans rfl

set_option maxRecDepth 16384 in
theorem t_382_46 {d : Nat} {h : AH} (hs : Sh h) (x1 : Int32) (x2 : Int64) (x4 : Int32) (u5 : Option Value) (u6 : Option Value) (u7 : Option Value) (s0 : Int32) :
    Q d 382 46 [some (.ref 175), some (.int x1), some (.long x2), none, some (.int x4), u5, u6, u7] [.int s0] h =
  if s0 = nI 45 then
   cK (E d 393 [.ref 175, .int x1] (sI h 1545 175 ((gI h 1545 175) + (nI 1)))) (Q d 382 73 [some (.ref 175), some (.int x1), some (.long x2), none, some (.int x4), some (.int (nI 1)), none, none]) []
  else
   cK (E d 393 [.ref 175, .int x1] (sI h 1545 175 ((gI h 1545 175) + (nI 1)))) (Q d 382 73 [some (.ref 175), some (.int x1), some (.long x2), none, some (.int x4), some (.int (nI 0)), none, none]) [] := by
  rw [← hs.1]
  exact (blkM (fun p => Nat.beq p 73) 15 46 _ _ _).trans rfl

set_option maxRecDepth 16384 in
theorem t_382_73 {d : Nat} {h : AH} (hs : Sh h) (x1 : Int32) (x2 : Int64) (x4 : Int32) (x5 : Int32) (u6 : Option Value) (u7 : Option Value) (s0 : Int64) :
    Q d 382 73 [some (.ref 175), some (.int x1), some (.long x2), none, some (.int x4), some (.int x5), u6, u7] [.long s0] h =
  if x5 = nI 0 then
   Q d 382 9 [some (.ref 175), some (.int x1), some (.long (x2 + s0)), none, some (.int (x4 + nI 1)), none, none, none] [] h
  else
   Q d 382 9 [some (.ref 175), some (.int x1), some (.long (x2 - s0)), none, some (.int (x4 + nI 1)), none, none, none] [] h := by
  rw [← hs.1]
  exact (blkM (fun p => Nat.beq p 9) 12 73 _ _ _).trans rfl

/-! 383 PostRoom$Machine.isTooDeep(I)Z -/
set_option maxRecDepth 16384 in
theorem t_383 {d : Nat} {h : AH} (hs : Sh h) (x1 : Int32) :
    E (d + 1) 383 [.ref 175, .int x1] h =
  if x1 < nI 20 then
   if x1 < nI 20 then
    some (some (.int (nI 0)), h)
   else
    some (some (.int (nI 1)), h)
  else
   if x1 < nI 20 then
    some (some (.int (nI 0)), sI h 1547 175 (nI 10))
   else
    some (some (.int (nI 1)), sI h 1547 175 (nI 10)) := by
  rw [← hs.1]
  exact entL (l := [some (.ref 175), some (.int x1)]) rfl rfl ((blkM (fun p => false) 13 0 _ _ _).trans rfl)

/-! 384 PostRoom$Machine.unit(I)J -/
set_option maxRecDepth 16384 in
theorem t_384 {d : Nat} {h : AH} (hs : Sh h) (x1 : Int32) :
    E (d + 1) 384 [.ref 175, .int x1] h =
  cK (E d 383 [.ref 175, .int x1] h) (Q d 384 5 [some (.ref 175), some (.int x1), none, none]) [] := by
  rw [← hs.1]
  exact entL (l := [some (.ref 175), some (.int x1), none, none]) rfl rfl ((blkM (fun p => Nat.beq p 5) 4 0 _ _ _).trans rfl)

set_option maxRecDepth 16384 in
theorem t_384_5 {d : Nat} {h : AH} (hs : Sh h) (x1 : Int32) (u2 : Option Value) (u3 : Option Value) (s0 : Int32) :
    Q d 384 5 [some (.ref 175), some (.int x1), u2, u3] [.int s0] h =
  if s0 = nI 0 then
   cK (E d 328 [.ref 175] h) (Q d 384 14 [some (.ref 175), some (.int x1), u2, u3]) []
  else
   some (some (.long 0), h) := by
  rw [← hs.1]
  exact (blkM (fun p => Nat.beq p 14) 4 5 _ _ _).trans rfl

set_option maxRecDepth 16384 in
theorem t_384_14 {d : Nat} {h : AH} (hs : Sh h) (x1 : Int32) (u2 : Option Value) (u3 : Option Value) (s0 : Int32) :
    Q d 384 14 [some (.ref 175), some (.int x1), u2, u3] [.int s0] h =
  (gR h 1544 175).bind fun y1 =>
   ck (gC h y1) 9 <|
   cK (E d 330 [.ref y1, .int (gI h 1545 175)] h) (Q d 384 26 [some (.ref 175), some (.int x1), some (.int s0), u3]) [] := by
  rw [← hs.1]
  exact (blkM (fun p => Nat.beq p 26) 7 14 _ _ _).trans rfl

set_option maxRecDepth 16384 in
theorem t_384_26 {d : Nat} {h : AH} (hs : Sh h) (x1 : Int32) (x2 : Int32) (u3 : Option Value) (s0 : Int32) :
    Q d 384 26 [some (.ref 175), some (.int x1), some (.int x2), u3] [.int s0] h =
  if x2 = nI 3 then
   some (some (.long s0.toInt64), sI h 1545 175 ((gI h 1545 175) + (nI 1)))
  else
   if x2 = nI 4 then
   gd s0 10 <|
   some (some (.long (gB h 176 (ix s0))), sI h 1545 175 ((gI h 1545 175) + (nI 1)))
  else
   if x2 = nI 40 then
   cK (E d 394 [.ref 175, .int (x1 + (nI 1))] (sI h 1545 175 ((gI h 1545 175) + (nI 1)))) (Q d 384 145 [some (.ref 175), some (.int x1), some (.int x2), some (.int s0)]) []
  else
   if x2 = nI 45 then
   cK (E d 384 [.ref 175, .int (x1 + (nI 1))] (sI h 1545 175 ((gI h 1545 175) + (nI 1)))) (Q d 384 153 [some (.ref 175), some (.int x1), some (.int x2), some (.int s0)]) []
  else
   if x2 = nI 143 then
   cK (E d 395 [.ref 175, .int (x1 + (nI 1))] (sI h 1545 175 ((gI h 1545 175) + (nI 1)))) (Q d 384 162 [some (.ref 175), some (.int x1), some (.int x2), some (.int s0)]) []
  else
   if x2 = nI 144 then
   cK (E d 396 [.ref 175, .int (x1 + (nI 1))] (sI h 1545 175 ((gI h 1545 175) + (nI 1)))) (Q d 384 170 [some (.ref 175), some (.int x1), some (.int x2), some (.int s0)]) []
  else
   if x2 = nI 145 then
   cK (E d 397 [.ref 175, .int (x1 + (nI 1))] (sI h 1545 175 ((gI h 1545 175) + (nI 1)))) (Q d 384 178 [some (.ref 175), some (.int x1), some (.int x2), some (.int s0)]) []
  else
   if x2 = nI 151 then
   (gR h 2048 156).bind fun y1 =>
    ck (gC h y1) 2 <|
    (gR h 512 y1).bind fun y2 =>
     ck (gC h y2) 1 <|
     cK (E d 212 [.ref y2, .int (gI h 1546 175)] (sI h 1545 175 ((gI h 1545 175) + (nI 1)))) (Q d 384 196 [some (.ref 175), some (.int x1), some (.int x2), some (.int s0)]) []
  else
   if x2 = nI 152 then
   some (some (.long ((gI h 1546 175).toInt64)), sI h 1545 175 ((gI h 1545 175) + (nI 1)))
  else
   if x2 = nI 153 then
   some (some (.long ((gI h 2051 156).toInt64)), sI h 1545 175 ((gI h 1545 175) + (nI 1)))
  else
   cK (E d 363 [.ref 175, .int (x1 + (nI 1))] (sI h 1545 175 ((gI h 1545 175) + (nI 1)))) (Q d 384 231 [some (.ref 175), some (.int x1), some (.int x2), some (.int s0)]) [.int x2, .ref 175] := by
  rw [← hs.1]
  exact (blkM (fun p => Nat.beq p 145 || Nat.beq p 153 || Nat.beq p 162 || Nat.beq p 170 || Nat.beq p 178 || Nat.beq p 196 || Nat.beq p 231) 17 26 _ _ _).trans rfl

set_option maxRecDepth 16384 in
theorem t_384_145 {d : Nat} {h : AH} (hs : Sh h) (u0 : Option Value) (u1 : Option Value) (u2 : Option Value) (u3 : Option Value) (s0 : Int64) :
    Q d 384 145 [u0, u1, u2, u3] [.long s0] h =
  some (some (.long s0), h) := by
  rw [← hs.1]
  exact (blkM (fun p => false) 2 145 _ _ _).trans rfl

set_option maxRecDepth 16384 in
theorem t_384_153 {d : Nat} {h : AH} (hs : Sh h) (u0 : Option Value) (u1 : Option Value) (u2 : Option Value) (u3 : Option Value) (s0 : Int64) :
    Q d 384 153 [u0, u1, u2, u3] [.long s0] h =
  some (some (.long (-s0)), h) := by
  rw [← hs.1]
  exact (blkM (fun p => false) 3 153 _ _ _).trans rfl

set_option maxRecDepth 16384 in
theorem t_384_162 {d : Nat} {h : AH} (hs : Sh h) (u0 : Option Value) (u1 : Option Value) (u2 : Option Value) (u3 : Option Value) (s0 : Int64) :
    Q d 384 162 [u0, u1, u2, u3] [.long s0] h =
  some (some (.long s0), h) := by
  rw [← hs.1]
  exact (blkM (fun p => false) 2 162 _ _ _).trans rfl

set_option maxRecDepth 16384 in
theorem t_384_170 {d : Nat} {h : AH} (hs : Sh h) (u0 : Option Value) (u1 : Option Value) (u2 : Option Value) (u3 : Option Value) (s0 : Int64) :
    Q d 384 170 [u0, u1, u2, u3] [.long s0] h =
  some (some (.long s0), h) := by
  rw [← hs.1]
  exact (blkM (fun p => false) 2 170 _ _ _).trans rfl

set_option maxRecDepth 16384 in
theorem t_384_178 {d : Nat} {h : AH} (hs : Sh h) (u0 : Option Value) (u1 : Option Value) (u2 : Option Value) (u3 : Option Value) (s0 : Int64) :
    Q d 384 178 [u0, u1, u2, u3] [.long s0] h =
  some (some (.long s0), h) := by
  rw [← hs.1]
  exact (blkM (fun p => false) 2 178 _ _ _).trans rfl

set_option maxRecDepth 16384 in
theorem t_384_196 {d : Nat} {h : AH} (hs : Sh h) (u0 : Option Value) (u1 : Option Value) (u2 : Option Value) (u3 : Option Value) (s0 : Nat) :
    Q d 384 196 [u0, u1, u2, u3] [.ref s0] h =
  (ck (gC h s0) 7 <|
  ck (gC h s0) 7 <|
  (gR h 1797 s0).bind fun y1 =>
   ck (gC h y1) 1 <|
   cK (E d 213 [.ref y1] h) (Q d 384 205 [u0, u1, u2, u3]) []) := by
  rw [← hs.1]
  exact (blkM (fun p => Nat.beq p 205) 4 196 _ _ _).trans rfl

set_option maxRecDepth 16384 in
theorem t_384_231 {d : Nat} {h : AH} (hs : Sh h) (u0 : Option Value) (u1 : Option Value) (u2 : Option Value) (u3 : Option Value) (s0 : Nat) (s1 : Int32) (s2 : Int32) :
    Q d 384 231 [u0, u1, u2, u3] [.int s2, .int s1, .ref s0] h =
  (ck (gC h s0) 6 <|
  cK (E d 398 [.ref s0, .int s1, .int s2] h) (Q d 384 234 [u0, u1, u2, u3]) []) := by
  rw [← hs.1]
  exact (blkM (fun p => Nat.beq p 234) 2 231 _ _ _).trans rfl

set_option maxRecDepth 16384 in
theorem t_384_205 {d : Nat} {h : AH} (hs : Sh h) (u0 : Option Value) (u1 : Option Value) (u2 : Option Value) (u3 : Option Value) (s0 : Int32) :
    Q d 384 205 [u0, u1, u2, u3] [.int s0] h =
  some (some (.long s0.toInt64), h) := by
  rw [← hs.1]
  exact (blkM (fun p => false) 3 205 _ _ _).trans rfl

set_option maxRecDepth 16384 in
theorem t_384_234 {d : Nat} {h : AH} (hs : Sh h) (u0 : Option Value) (u1 : Option Value) (u2 : Option Value) (u3 : Option Value) (s0 : Int64) :
    Q d 384 234 [u0, u1, u2, u3] [.long s0] h =
  some (some (.long s0), h) := by
  rw [← hs.1]
  exact (blkM (fun p => false) 2 234 _ _ _).trans rfl

/-! 385 PostRoom$Machine.onShelf(J)I -/
set_option maxRecDepth 16384 in
theorem t_385 {d : Nat} {h : AH} (hs : Sh h) (x1 : Int64) :
    E (d + 1) 385 [.ref 175, .long x1] h =
  cK (E d 362 [.ref 175] h) (Q d 385 4 [some (.ref 175), some (.long x1), none, none]) [] := by
  rw [← hs.1]
  exact entL (l := [some (.ref 175), some (.long x1), none, none]) rfl rfl ((blkM (fun p => Nat.beq p 4) 3 0 _ _ _).trans rfl)

set_option maxRecDepth 16384 in
theorem t_385_4 {d : Nat} {h : AH} (hs : Sh h) (x1 : Int64) (u3 : Option Value) (s0 : Int32) :
    Q d 385 4 [some (.ref 175), some (.long x1), none, u3] [.int s0] h =
  if s0 = nI 0 then
   some (some (.int (-1)), h)
  else
   (gR h 2048 156).bind fun y1 =>
    ck (gC h y1) 2 <|
    (gR h 512 y1).bind fun y2 =>
     ck (gC h y2) 1 <|
     cK (E d 212 [.ref y2, .int (gI h 1546 175)] h) (Q d 385 26 [some (.ref 175), some (.long x1), none, u3]) [] := by
  rw [← hs.1]
  exact (blkM (fun p => Nat.beq p 26) 9 4 _ _ _).trans rfl

set_option maxRecDepth 16384 in
theorem t_385_26 {d : Nat} {h : AH} (hs : Sh h) (x1 : Int64) (u3 : Option Value) (s0 : Nat) :
    Q d 385 26 [some (.ref 175), some (.long x1), none, u3] [.ref s0] h =
  (ck (gC h s0) 7 <|
  ck (gC h s0) 7 <|
  (gR h 1797 s0).bind fun y1 =>
   if lg_cmp x1 0 < nI 0 then
    cK (E d 365 [.ref 175, .int (nI 3)] h) (Q d 385 54 [some (.ref 175), none, none, none]) []
   else
    ck (gC h y1) 1 <|
    cK (E d 213 [.ref y1] h) (Q d 385 44 [some (.ref 175), some (.long x1), none, some (.ref y1)]) [.long x1]) := by
  rw [← hs.1]
  exact (blkM (fun p => Nat.beq p 44 || Nat.beq p 54) 11 26 _ _ _).trans rfl

set_option maxRecDepth 16384 in
theorem t_385_44 {d : Nat} {h : AH} (hs : Sh h) (x1 : Int64) (x3 : Nat) (s0 : Int64) (s1 : Int32) :
    Q d 385 44 [some (.ref 175), some (.long x1), none, some (.ref x3)] [.int s1, .long s0] h =
  if lg_cmp s0 s1.toInt64 < nI 0 then
   ck (gC h x3) 1 <|
   cK (E d 212 [.ref x3, .int x1.toInt32] h) (Q d 385 62 [some (.ref 175), some (.long x1), none, some (.ref x3)]) []
  else
   cK (E d 365 [.ref 175, .int (nI 3)] h) (Q d 385 54 [some (.ref 175), none, none, none]) [] := by
  rw [← hs.1]
  exact (blkM (fun p => Nat.beq p 54 || Nat.beq p 62) 8 44 _ _ _).trans rfl

set_option maxRecDepth 16384 in
theorem t_385_54 {d : Nat} {h : AH} (hs : Sh h) (u0 : Option Value) (u1 : Option Value) (u2 : Option Value) (u3 : Option Value) :
    Q d 385 54 [u0, u1, u2, u3] [] h =
  some (some (.int (-1)), h) := by
  rw [← hs.1]
  exact (blkM (fun p => false) 3 54 _ _ _).trans rfl

set_option maxRecDepth 16384 in
theorem t_385_62 {d : Nat} {h : AH} (hs : Sh h) (u0 : Option Value) (u1 : Option Value) (u2 : Option Value) (u3 : Option Value) (s0 : Nat) :
    Q d 385 62 [u0, u1, u2, u3] [.ref s0] h =
  (ck (gC h s0) 5 <|
  ck (gC h s0) 5 <|
  some (some (.int (gI h 1280 s0)), h)) := by
  rw [← hs.1]
  exact (blkM (fun p => false) 4 62 _ _ _).trans rfl

/-! 386 PostRoom$Machine.inRow(I)I -/
set_option maxRecDepth 16384 in
theorem t_386 {d : Nat} {h : AH} (hs : Sh h) (x1 : Int32) :
    E (d + 1) 386 [.ref 175, .int x1] h =
  cK (E d 399 [.ref 175, .int x1, .int (nI 1)] h) (Q d 386 6 [some (.ref 175), some (.int x1), none]) [] := by
  rw [← hs.1]
  exact entL (l := [some (.ref 175), some (.int x1), none]) rfl rfl ((blkM (fun p => Nat.beq p 6) 5 0 _ _ _).trans rfl)

set_option maxRecDepth 16384 in
theorem t_386_6 {d : Nat} {h : AH} (hs : Sh h) (u1 : Option Value) (u2 : Option Value) (s0 : Int32) :
    Q d 386 6 [some (.ref 175), u1, u2] [.int s0] h =
  if s0 = (-1) then
   some (some (.int (-1)), h)
  else
   gd s0 2000 <|
   some (some (.int ((gB h 182 (ix s0)).toInt32)), h) := by
  rw [← hs.1]
  exact (blkM (fun p => false) 11 6 _ _ _).trans rfl

/-! 387 PostRoom$Machine.ofSort(II)I -/
set_option maxRecDepth 16384 in
theorem t_387 {d : Nat} {h : AH} (hs : Sh h) (x1 : Int32) (x2 : Int32) :
    E (d + 1) 387 [.ref 175, .int x1, .int x2] h =
  cK (E d 362 [.ref 175] h) (Q d 387 4 [some (.ref 175), some (.int x1), some (.int x2)]) [] := by
  rw [← hs.1]
  exact entL (l := [some (.ref 175), some (.int x1), some (.int x2)]) rfl rfl ((blkM (fun p => Nat.beq p 4) 3 0 _ _ _).trans rfl)

set_option maxRecDepth 16384 in
theorem t_387_4 {d : Nat} {h : AH} (hs : Sh h) (x1 : Int32) (x2 : Int32) (s0 : Int32) :
    Q d 387 4 [some (.ref 175), some (.int x1), some (.int x2)] [.int s0] h =
  if s0 = nI 0 then
   Q d 387 38 [some (.ref 175), none, some (.int x2)] [] h
  else
   if x2 = (-1) then
    Q d 387 38 [some (.ref 175), none, some (.int x2)] [] h
   else
    cK (E d 212 [.ref 164, .int x2] h) (Q d 387 23 [some (.ref 175), some (.int x1), some (.int x2)]) [] := by
  rw [← hs.1]
  exact (blkM (fun p => Nat.beq p 23 || Nat.beq p 38) 10 4 _ _ _).trans rfl

set_option maxRecDepth 16384 in
theorem t_387_23 {d : Nat} {h : AH} (hs : Sh h) (x1 : Int32) (x2 : Int32) (s0 : Nat) :
    Q d 387 23 [some (.ref 175), some (.int x1), some (.int x2)] [.ref s0] h =
  (ck (gC h s0) 5 <|
  ck (gC h s0) 5 <|
  cK (E d 388 [.ref s0, .int x1] h) (Q d 387 30 [some (.ref 175), some (.int x1), some (.int x2)]) []) := by
  rw [← hs.1]
  exact (blkM (fun p => Nat.beq p 30) 4 23 _ _ _).trans rfl

set_option maxRecDepth 16384 in
theorem t_387_38 {d : Nat} {h : AH} (hs : Sh h) (x2 : Int32) :
    Q d 387 38 [some (.ref 175), none, some (.int x2)] [] h =
  cK (E d 362 [.ref 175] h) (Q d 387 42 [some (.ref 175), none, some (.int x2)]) [] := by
  rw [← hs.1]
  exact (blkM (fun p => Nat.beq p 42) 3 38 _ _ _).trans rfl

set_option maxRecDepth 16384 in
theorem t_387_30 {d : Nat} {h : AH} (hs : Sh h) (x2 : Int32) (u1 : Option Value) (s0 : Int32) :
    Q d 387 30 [some (.ref 175), u1, some (.int x2)] [.int s0] h =
  if s0 = nI 0 then
   cK (E d 365 [.ref 175, .int (nI 2)] h) (Q d 387 38 [some (.ref 175), none, some (.int x2)]) []
  else
   Q d 387 38 [some (.ref 175), none, some (.int x2)] [] h := by
  rw [← hs.1]
  exact (blkM (fun p => Nat.beq p 38) 5 30 _ _ _).trans rfl

set_option maxRecDepth 16384 in
theorem t_387_42 {d : Nat} {h : AH} (hs : Sh h) (x2 : Int32) (u0 : Option Value) (u1 : Option Value) (s0 : Int32) :
    Q d 387 42 [u0, u1, some (.int x2)] [.int s0] h =
  if s0 = nI 0 then
   some (some (.int (-1)), h)
  else
   some (some (.int x2), h) := by
  rw [← hs.1]
  exact (blkM (fun p => false) 5 42 _ _ _).trans rfl

/-! 388 PostRoom$Item.isOf(I)Z -/
set_option maxRecDepth 16384 in
theorem t_388 {d : Nat} {h : AH} (hs : Sh h) (x0 : Nat) (x1 : Int32) :
    E (d + 1) 388 [.ref x0, .int x1] h =
  (ck (gC h x0) 5 <|
  if gI h 1284 x0 = x1 then
   some (some (.int (nI 1)), h)
  else
   if x1 = nI 0 then
    ck (gC h x0) 5 <|
    if gI h 1284 x0 = nI 2 then
     some (some (.int (nI 1)), h)
    else
     some (some (.int (nI 0)), h)
   else
    some (some (.int (nI 0)), h)) := by
  rw [← hs.1]
  exact entL (l := [some (.ref x0), some (.int x1)]) rfl rfl ((blkM (fun p => false) 14 0 _ _ _).trans rfl)

