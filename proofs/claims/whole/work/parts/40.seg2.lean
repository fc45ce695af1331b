/-! ===== THE METHODS, PIECE BY PIECE: 2 (made by wip/gen/gen40.py) ===== -/
/-! 80 PostRoomModel.price(IIII)I -/
set_option maxRecDepth 16384 in
theorem t_80 {d : Nat} {h : AH} (hs : Sh h) (x1 : Int32) (x2 : Int32) (x3 : Int32) (x4 : Int32) :
    E (d + 1) 80 [.ref 189, .int x1, .int x2, .int x3, .int x4] h =
  cK (E d 81 [.ref 189, .int x1] h) (Q d 80 6 [some (.ref 189), some (.int x1), some (.int x2), some (.int x3), some (.int x4)]) [.ref 189] := by
  rw [← hs.1]
  exact entL (l := [some (.ref 189), some (.int x1), some (.int x2), some (.int x3), some (.int x4)]) rfl rfl ((blkM (fun p => Nat.beq p 6) 5 0 _ _ _).trans rfl)

set_option maxRecDepth 16384 in
theorem t_80_6 {d : Nat} {h : AH} (hs : Sh h) (x1 : Int32) (x2 : Int32) (x3 : Int32) (x4 : Int32) (s0 : Nat) (s1 : Int32) :
    Q d 80 6 [some (.ref 189), some (.int x1), some (.int x2), some (.int x3), some (.int x4)] [.int s1, .ref s0] h =
  if s1 = nI 0 then
   ck (gC h s0) 14 <|
   if (nI 0) < gI (sI h 3586 s0 (nI 1)) 3586 189 then
    some (some (.int (nI 0)), sI h 3586 s0 (nI 1))
   else
    cK (E d 83 [.ref 189, .int x1, .int x2] (sI h 3586 s0 (nI 1))) (Q d 80 49 [some (.ref 189), some (.int x1), some (.int x2), some (.int x3), some (.int x4)]) []
  else
   cK (E d 82 [.ref 189, .int x3] h) (Q d 80 14 [some (.ref 189), some (.int x1), some (.int x2), some (.int x3), some (.int x4)]) [.ref s0] := by
  rw [← hs.1]
  exact (blkM (fun p => Nat.beq p 14 || Nat.beq p 49) 11 6 _ _ _).trans rfl

set_option maxRecDepth 16384 in
theorem t_80_14 {d : Nat} {h : AH} (hs : Sh h) (x1 : Int32) (x2 : Int32) (x3 : Int32) (x4 : Int32) (s0 : Nat) (s1 : Int32) :
    Q d 80 14 [some (.ref 189), some (.int x1), some (.int x2), some (.int x3), some (.int x4)] [.int s1, .ref s0] h =
  if s1 = nI 0 then
   ck (gC h s0) 14 <|
   if (nI 0) < gI (sI h 3586 s0 (nI 1)) 3586 189 then
    some (some (.int (nI 0)), sI h 3586 s0 (nI 1))
   else
    cK (E d 83 [.ref 189, .int x1, .int x2] (sI h 3586 s0 (nI 1))) (Q d 80 49 [some (.ref 189), some (.int x1), some (.int x2), some (.int x3), some (.int x4)]) []
  else
   cK (E d 82 [.ref 189, .int x4] h) (Q d 80 23 [some (.ref 189), some (.int x1), some (.int x2), some (.int x3), some (.int x4)]) [.ref s0] := by
  rw [← hs.1]
  exact (blkM (fun p => Nat.beq p 23 || Nat.beq p 49) 11 14 _ _ _).trans rfl

set_option maxRecDepth 16384 in
theorem t_80_49 {d : Nat} {h : AH} (hs : Sh h) (x1 : Int32) (x2 : Int32) (x3 : Int32) (x4 : Int32) (s0 : Int32) :
    Q d 80 49 [some (.ref 189), some (.int x1), some (.int x2), some (.int x3), some (.int x4)] [.int s0] h =
  if s0 = nI 0 then
   some (some (.int (-1)), h)
  else
   cK (E d 84 [.ref 189, .int x3, .int x4] h) (Q d 80 62 [some (.ref 189), some (.int x1), some (.int x2), some (.int x3), some (.int x4)]) [.int x2, .int x1, .ref 189] := by
  rw [← hs.1]
  exact (blkM (fun p => Nat.beq p 62) 9 49 _ _ _).trans rfl

set_option maxRecDepth 16384 in
theorem t_80_23 {d : Nat} {h : AH} (hs : Sh h) (x1 : Int32) (x2 : Int32) (x3 : Int32) (x4 : Int32) (s0 : Nat) (s1 : Int32) :
    Q d 80 23 [some (.ref 189), some (.int x1), some (.int x2), some (.int x3), some (.int x4)] [.int s1, .ref s0] h =
  if s1 = nI 0 then
   ck (gC h s0) 14 <|
   if (nI 0) < gI (sI h 3586 s0 (nI 1)) 3586 189 then
    some (some (.int (nI 0)), sI h 3586 s0 (nI 1))
   else
    cK (E d 83 [.ref 189, .int x1, .int x2] (sI h 3586 s0 (nI 1))) (Q d 80 49 [some (.ref 189), some (.int x1), some (.int x2), some (.int x3), some (.int x4)]) []
  else
   ck (gC h s0) 14 <|
   if (nI 0) < gI (sI h 3586 s0 (nI 0)) 3586 189 then
    some (some (.int (nI 0)), sI h 3586 s0 (nI 0))
   else
    cK (E d 83 [.ref 189, .int x1, .int x2] (sI h 3586 s0 (nI 0))) (Q d 80 49 [some (.ref 189), some (.int x1), some (.int x2), some (.int x3), some (.int x4)]) [] := by
  rw [← hs.1]
  exact (blkM (fun p => Nat.beq p 49) 12 23 _ _ _).trans rfl

set_option maxRecDepth 16384 in
theorem t_80_62 {d : Nat} {h : AH} (hs : Sh h) (u0 : Option Value) (u1 : Option Value) (u2 : Option Value) (u3 : Option Value) (u4 : Option Value) (s0 : Nat) (s1 : Int32) (s2 : Int32) (s3 : Int32) :
    Q d 80 62 [u0, u1, u2, u3, u4] [.int s3, .int s2, .int s1, .ref s0] h =
  (ck (gC h s0) 14 <|
  cK (E d 85 [.ref s0, .int s1, .int s2, .int s3] h) (Q d 80 65 [u0, u1, u2, u3, u4]) []) := by
  rw [← hs.1]
  exact (blkM (fun p => Nat.beq p 65) 2 62 _ _ _).trans rfl

set_option maxRecDepth 16384 in
theorem t_80_65 {d : Nat} {h : AH} (hs : Sh h) (u0 : Option Value) (u1 : Option Value) (u2 : Option Value) (u3 : Option Value) (u4 : Option Value) (s0 : Int32) :
    Q d 80 65 [u0, u1, u2, u3, u4] [.int s0] h =
  some (some (.int s0), h) := by
  rw [← hs.1]
  exact (blkM (fun p => false) 3 65 _ _ _).trans rfl

/-! 81 PostRoomModel.isService(I)Z -/
set_option maxRecDepth 16384 in
theorem t_81 {d : Nat} {h : AH} (hs : Sh h) (x1 : Int32) :
    E (d + 1) 81 [.ref 189, .int x1] h =
  if x1 < nI 0 then
   some (some (.int (nI 0)), h)
  else
   gd (gI h 3597 189) 2 <|
   if x1 < gA h 216 (ix (gI h 3597 189)) then
    some (some (.int (nI 1)), h)
   else
    some (some (.int (nI 0)), h) := by
  rw [← hs.1]
  exact entL (l := [some (.ref 189), some (.int x1)]) rfl rfl ((blkM (fun p => false) 13 0 _ _ _).trans rfl)

/-! 82 PostRoomModel.isOffice(I)Z -/
set_option maxRecDepth 16384 in
theorem t_82 {d : Nat} {h : AH} (hs : Sh h) (x1 : Int32) :
    E (d + 1) 82 [.ref 189, .int x1] h =
  if x1 < nI 0 then
   some (some (.int (nI 0)), h)
  else
   gd (gI h 3597 189) 2 <|
   if x1 < gA h 197 (ix (gI h 3597 189)) then
    some (some (.int (nI 1)), h)
   else
    some (some (.int (nI 0)), h) := by
  rw [← hs.1]
  exact entL (l := [some (.ref 189), some (.int x1)]) rfl rfl ((blkM (fun p => false) 13 0 _ _ _).trans rfl)

/-! 83 PostRoomModel.isTaken(II)Z -/
set_option maxRecDepth 16384 in
theorem t_83 {d : Nat} {h : AH} (hs : Sh h) (x1 : Int32) (x2 : Int32) :
    E (d + 1) 83 [.ref 189, .int x1, .int x2] h =
  if (nI 0) < x2 then
   gd (((nI 8) * (gI h 3597 189)) + x1) 16 <|
   if gA h 219 (ix (((nI 8) * (gI h 3597 189)) + x1)) < x2 then
    some (some (.int (nI 0)), h)
   else
    some (some (.int (nI 1)), h)
  else
   some (some (.int (nI 0)), h) := by
  rw [← hs.1]
  exact entL (l := [some (.ref 189), some (.int x1), some (.int x2)]) rfl rfl ((blkM (fun p => false) 17 0 _ _ _).trans rfl)

/-! 84 PostRoomModel.zone(II)I -/
set_option maxRecDepth 16384 in
theorem t_84 {d : Nat} {h : AH} (hs : Sh h) (x1 : Int32) (x2 : Int32) :
    E (d + 1) 84 [.ref 189, .int x1, .int x2] h =
  (gd (((nI 16) * (gI h 3597 189)) + x1) 32 <|
  gd (((nI 16) * (gI h 3597 189)) + x2) 32 <|
  cK (E d 77 [.int (gA h 200 (ix (((nI 16) * (gI h 3597 189)) + x1))), .int (gA h 200 (ix (((nI 16) * (gI h 3597 189)) + x2)))] h) (Q d 84 37 [some (.ref 189), some (.int x1), some (.int x2), some (.int (((nI 16) * (gI h 3597 189)) + x1)), some (.int (((nI 16) * (gI h 3597 189)) + x2)), none]) []) := by
  rw [← hs.1]
  exact entL (l := [some (.ref 189), some (.int x1), some (.int x2), none, none, none]) rfl rfl ((blkM (fun p => Nat.beq p 37) 24 0 _ _ _).trans rfl)

set_option maxRecDepth 16384 in
theorem t_84_37 {d : Nat} {h : AH} (hs : Sh h) (x1 : Int32) (x2 : Int32) (x3 : Int32) (x4 : Int32) (u5 : Option Value) (s0 : Int32) :
    Q d 84 37 [some (.ref 189), some (.int x1), some (.int x2), some (.int x3), some (.int x4), u5] [.int s0] h =
  (gd x3 32 <|
  gd x4 32 <|
  cK (E d 77 [.int (gA h 201 (ix x3)), .int (gA h 201 (ix x4))] h) (Q d 84 53 [some (.ref 189), some (.int x1), some (.int x2), some (.int x3), some (.int x4), u5]) [.int s0]) := by
  rw [← hs.1]
  exact (blkM (fun p => Nat.beq p 53) 10 37 _ _ _).trans rfl

set_option maxRecDepth 16384 in
theorem t_84_53 {d : Nat} {h : AH} (hs : Sh h) (x1 : Int32) (x2 : Int32) (u0 : Option Value) (u3 : Option Value) (u4 : Option Value) (u5 : Option Value) (s0 : Int32) (s1 : Int32) :
    Q d 84 53 [u0, some (.int x1), some (.int x2), u3, u4, u5] [.int s1, .int s0] h =
  (dz (nI 100) <|
  if x1 = x2 then
   some (some (.int (nI 0)), h)
  else
   if (nI 8) < (s0 + s1) / (nI 100) then
    some (some (.int (nI 9)), h)
   else
    some (some (.int (((s0 + s1) / (nI 100)) + (nI 1))), h)) := by
  rw [← hs.1]
  exact (blkM (fun p => false) 15 53 _ _ _).trans rfl

/-! 85 PostRoomModel.priceOf(III)I -/
set_option maxRecDepth 16384 in
theorem t_85 {d : Nat} {h : AH} (hs : Sh h) (x1 : Int32) (x2 : Int32) (x3 : Int32) :
    E (d + 1) 85 [.ref 189, .int x1, .int x2, .int x3] h =
  Q d 85 17 [some (.ref 189), none, some (.int x2), some (.int x3), some (.int (((nI 8) * (gI h 3597 189)) + x1)), some (.long 0), none, some (.int (nI 0)), none, none, none, none] [] h := by
  rw [← hs.1]
  exact entL (l := [some (.ref 189), some (.int x1), some (.int x2), some (.int x3), none, none, none, none, none, none, none, none]) rfl rfl ((blkM (fun p => Nat.beq p 17) 13 0 _ _ _).trans rfl)

set_option maxRecDepth 16384 in
theorem t_85_17 {d : Nat} {h : AH} (hs : Sh h) (x2 : Int32) (x3 : Int32) (x4 : Int32) (x5 : Int64) (x7 : Int32) :
    Q d 85 17 [some (.ref 189), none, some (.int x2), some (.int x3), some (.int x4), some (.long x5), none, some (.int x7), none, none, none, none] [] h =
  (gd x4 16 <|
  if x7 < gA h 220 (ix x4) then
   gd (((nI 8) * x4) + x7) 128 <|
   gd (((nI 8) * x4) + x7) 128 <|
   if gA h 221 (ix (((nI 8) * x4) + x7)) = nI 20 then
    Q d 85 17 [some (.ref 189), none, some (.int x2), some (.int x3), some (.int x4), some (.long (x5 + ((gA h 222 (ix (((nI 8) * x4) + x7))).toInt64))), none, some (.int (x7 + nI 1)), none, none, none, none] [] h
   else
    if gA h 221 (ix (((nI 8) * x4) + x7)) = nI 21 then
    gd (((nI 8) * x4) + x7) 128 <|
    if (nI 0) < x2 - (gA h 224 (ix (((nI 8) * x4) + x7))) then
     gd (((nI 8) * x4) + x7) 128 <|
     gd (((nI 8) * x4) + x7) 128 <|
     dz (gA h 223 (ix (((nI 8) * x4) + x7))) <|
     Q d 85 17 [some (.ref 189), none, some (.int x2), some (.int x3), some (.int x4), some (.long (x5 + (((gA h 222 (ix (((nI 8) * x4) + x7))).toInt64) * (((((x2 - (gA h 224 (ix (((nI 8) * x4) + x7)))) + (gA h 223 (ix (((nI 8) * x4) + x7)))) - (nI 1)) / (gA h 223 (ix (((nI 8) * x4) + x7)))).toInt64)))), none, some (.int (x7 + nI 1)), none, none, none, none] [] h
    else
     Q d 85 17 [some (.ref 189), none, some (.int x2), some (.int x3), some (.int x4), some (.long (x5 + 0)), none, some (.int (x7 + nI 1)), none, none, none, none] [] h
   else
    if gA h 221 (ix (((nI 8) * x4) + x7)) = nI 22 then
    dZ 100 <|
    Q d 85 17 [some (.ref 189), none, some (.int x2), some (.int x3), some (.int x4), some (.long (x5 - ((x5 * ((gA h 222 (ix (((nI 8) * x4) + x7))).toInt64)) / 100))), none, some (.int (x7 + nI 1)), none, none, none, none] [] h
   else
    if gA h 221 (ix (((nI 8) * x4) + x7)) = nI 23 then
    if lg_cmp x3.toInt64 ((gA h 222 (ix (((nI 8) * x4) + x7))).toInt64) = nI 0 then
     gd (((nI 8) * x4) + x7) 128 <|
     Q d 85 17 [some (.ref 189), none, some (.int x2), some (.int x3), some (.int x4), some (.long (x5 + ((gA h 223 (ix (((nI 8) * x4) + x7))).toInt64))), none, some (.int (x7 + nI 1)), none, none, none, none] [] h
    else
     Q d 85 17 [some (.ref 189), none, some (.int x2), some (.int x3), some (.int x4), some (.long (x5 + 0)), none, some (.int (x7 + nI 1)), none, none, none, none] [] h
   else
    if gA h 221 (ix (((nI 8) * x4) + x7)) = nI 24 then
    if (nI 1) < x3 then
     Q d 85 17 [some (.ref 189), none, some (.int x2), some (.int x3), some (.int x4), some (.long (x5 + (((gA h 222 (ix (((nI 8) * x4) + x7))).toInt64) * ((x3 - (nI 1)).toInt64)))), none, some (.int (x7 + nI 1)), none, none, none, none] [] h
    else
     Q d 85 17 [some (.ref 189), none, some (.int x2), some (.int x3), some (.int x4), some (.long (x5 + 0)), none, some (.int (x7 + nI 1)), none, none, none, none] [] h
   else
    if gA h 221 (ix (((nI 8) * x4) + x7)) = nI 25 then
    if lg_cmp ((gA h 222 (ix (((nI 8) * x4) + x7))).toInt64) 0 = nI 0 then
     Q d 85 17 [some (.ref 189), none, some (.int x2), some (.int x3), some (.int x4), some (.long x5), none, some (.int (x7 + nI 1)), none, none, none, none] [] h
    else
     dZ ((gA h 222 (ix (((nI 8) * x4) + x7))).toInt64) <|
     Q d 85 17 [some (.ref 189), none, some (.int x2), some (.int x3), some (.int x4), some (.long ((((x5 + ((gA h 222 (ix (((nI 8) * x4) + x7))).toInt64)) - 1) / ((gA h 222 (ix (((nI 8) * x4) + x7))).toInt64)) * ((gA h 222 (ix (((nI 8) * x4) + x7))).toInt64))), none, some (.int (x7 + nI 1)), none, none, none, none] [] h
   else
    if gA h 221 (ix (((nI 8) * x4) + x7)) = nI 26 then
    if lg_cmp x5 ((gA h 222 (ix (((nI 8) * x4) + x7))).toInt64) < nI 0 then
     Q d 85 17 [some (.ref 189), none, some (.int x2), some (.int x3), some (.int x4), some (.long ((gA h 222 (ix (((nI 8) * x4) + x7))).toInt64)), none, some (.int (x7 + nI 1)), none, none, none, none] [] h
    else
     Q d 85 17 [some (.ref 189), none, some (.int x2), some (.int x3), some (.int x4), some (.long x5), none, some (.int (x7 + nI 1)), none, none, none, none] [] h
   else
    dZ 100 <|
   Q d 85 17 [some (.ref 189), none, some (.int x2), some (.int x3), some (.int x4), some (.long (x5 - ((x5 * ((gA h 222 (ix (((nI 8) * x4) + x7))).toInt64)) / 100))), none, some (.int (x7 + nI 1)), none, none, none, none] [] h
  else
   if (nI 0) < lg_cmp x5 1000000 then
    some (some (.int (nI 1000000)), h)
   else
    some (some (.int x5.toInt32), h)) := by
  rw [← hs.1]
  exact (blkM (fun p => Nat.beq p 17) 57 17 _ _ _).trans rfl

/-! 86 PostRoomModel.bar(II)I -/
set_option maxRecDepth 16384 in
theorem t_86 {d : Nat} {h : AH} (hs : Sh h) (x1 : Int32) (x2 : Int32) :
    E (d + 1) 86 [.ref 189, .int x1, .int x2] h =
  if x1 < nI 0 then
   if (nI 0) < nI 1 then
    some (some (.int (nI 0)), sI h 3586 189 (nI 1))
   else
    cK (E d 87 [.ref 189, .int x1] (sI h 3586 189 (nI 1))) (Q d 86 45 [some (.ref 189), some (.int x1), some (.int x2), none]) []
  else
   if x1 < gI h 3654 189 then
    if x2 < nI 0 then
     if (nI 0) < nI 1 then
      some (some (.int (nI 0)), sI h 3586 189 (nI 1))
     else
      cK (E d 87 [.ref 189, .int x1] (sI h 3586 189 (nI 1))) (Q d 86 45 [some (.ref 189), some (.int x1), some (.int x2), none]) []
    else
     if x2 < nI 33 then
      if (nI 0) < nI 0 then
       some (some (.int (nI 0)), sI h 3586 189 (nI 0))
      else
       cK (E d 87 [.ref 189, .int x1] (sI h 3586 189 (nI 0))) (Q d 86 45 [some (.ref 189), some (.int x1), some (.int x2), none]) []
     else
      if (nI 0) < nI 1 then
       some (some (.int (nI 0)), sI h 3586 189 (nI 1))
      else
       cK (E d 87 [.ref 189, .int x1] (sI h 3586 189 (nI 1))) (Q d 86 45 [some (.ref 189), some (.int x1), some (.int x2), none]) []
   else
    if (nI 0) < nI 1 then
     some (some (.int (nI 0)), sI h 3586 189 (nI 1))
    else
     cK (E d 87 [.ref 189, .int x1] (sI h 3586 189 (nI 1))) (Q d 86 45 [some (.ref 189), some (.int x1), some (.int x2), none]) [] := by
  rw [← hs.1]
  exact entL (l := [some (.ref 189), some (.int x1), some (.int x2), none]) rfl rfl ((blkM (fun p => Nat.beq p 45) 22 0 _ _ _).trans rfl)

set_option maxRecDepth 16384 in
theorem t_86_45 {d : Nat} {h : AH} (hs : Sh h) (x2 : Int32) (u1 : Option Value) (u3 : Option Value) :
    Q d 86 45 [some (.ref 189), u1, some (.int x2), u3] [] h =
  Q d 86 52 [some (.ref 189), none, some (.int x2), some (.int (nI 0))] [] (sI h 3649 189 (nI 4)) := by
  rw [← hs.1]
  exact (blkM (fun p => Nat.beq p 52) 7 45 _ _ _).trans rfl

set_option maxRecDepth 16384 in
theorem t_86_52 {d : Nat} {h : AH} (hs : Sh h) (x2 : Int32) (x3 : Int32) :
    Q d 86 52 [some (.ref 189), none, some (.int x2), some (.int x3)] [] h =
  if x3 < nI 4 then
   gd x3 11 <|
   Q d 86 52 [some (.ref 189), none, some (.int x2), some (.int (x3 + nI 1))] [] (sA h 238 (ix x3) ((nI 7) + x3))
  else
   cK (E d 88 [.ref 189] h) (Q d 86 77 [some (.ref 189), none, some (.int x2), some (.int x3)]) [] := by
  rw [← hs.1]
  exact (blkM (fun p => Nat.beq p 52 || Nat.beq p 77) 14 52 _ _ _).trans rfl

set_option maxRecDepth 16384 in
theorem t_86_77 {d : Nat} {h : AH} (hs : Sh h) (x2 : Int32) (u1 : Option Value) (u3 : Option Value) (s0 : Int32) :
    Q d 86 77 [some (.ref 189), u1, some (.int x2), u3] [.int s0] h =
  (dz (nI 3) <|
  gd (x2 / (nI 3)) 11 <|
  dz (nI 3) <|
  some (some (.int (((gA h 237 (ix (x2 / (nI 3)))) >>> (((nI 4) - ((nI 2) * (x2 - x2 / (nI 3) * (nI 3)))) &&& 31)) &&& (nI 3))), h)) := by
  rw [← hs.1]
  exact (blkM (fun p => false) 19 77 _ _ _).trans rfl

/-! 87 PostRoomModel.tell(I)V -/
set_option maxRecDepth 16384 in
theorem t_87 {d : Nat} {h : AH} (hs : Sh h) (x1 : Int32) :
    E (d + 1) 87 [.ref 189, .int x1] h =
  (gd x1 200 <|
  gd x1 200 <|
  dz (nI 64) <|
  dz (nI 64) <|
  dz (nI 64) <|
  dz (nI 64) <|
  gd x1 200 <|
  dz (nI 64) <|
  gd x1 200 <|
  dz (nI 64) <|
  some (none, sA (sA (sA (sA (sA (sA (sA h 237 0 (gA h 242 (ix x1))) 237 1 ((gA h 245 (ix x1)) / (nI 64))) 237 2 ((gA h 245 (ix x1)) - (gA h 245 (ix x1)) / (nI 64) * (nI 64))) 237 3 (x1 / (nI 64))) 237 4 (x1 - x1 / (nI 64) * (nI 64))) 237 5 ((gA h 243 (ix x1)) / (nI 64))) 237 6 ((gA h 243 (ix x1)) - (gA h 243 (ix x1)) / (nI 64) * (nI 64)))) := by
  rw [← hs.1]
  exact entL (l := [some (.ref 189), some (.int x1), none]) rfl rfl ((blkM (fun p => false) 63 0 _ _ _).trans rfl)

/-! 88 PostRoomModel.solve()Z -/
set_option maxRecDepth 16384 in
theorem t_88 {d : Nat} {h : AH} (hs : Sh h)  :
    E (d + 1) 88 [.ref 189] h =
  Q d 88 2 [some (.ref 189), some (.int (nI 0)), none, none, none, none] [] h := by
  rw [← hs.1]
  exact entL (l := [some (.ref 189), none, none, none, none, none]) rfl rfl ((blkM (fun p => Nat.beq p 2) 4 0 _ _ _).trans rfl)

set_option maxRecDepth 16384 in
theorem t_88_2 {d : Nat} {h : AH} (hs : Sh h) (x1 : Int32) :
    Q d 88 2 [some (.ref 189), some (.int x1), none, none, none, none] [] h =
  if x1 < nI 4 then
   Q d 88 11 [some (.ref 189), some (.int x1), some (.int (nI 0)), some (.int (nI 0)), none, none] [] h
  else
   Q d 88 171 [some (.ref 189), some (.int (nI 0)), none, none, none, none] [] h := by
  rw [← hs.1]
  exact (blkM (fun p => Nat.beq p 11 || Nat.beq p 171) 9 2 _ _ _).trans rfl

set_option maxRecDepth 16384 in
theorem t_88_11 {d : Nat} {h : AH} (hs : Sh h) (x1 : Int32) (x2 : Int32) (x3 : Int32) :
    Q d 88 11 [some (.ref 189), some (.int x1), some (.int x2), some (.int x3), none, none] [] h =
  if x3 < nI 11 then
   Q d 88 23 [some (.ref 189), some (.int x1), some (.int x2), some (.int x3), some (.int (nI 1)), some (.int (nI 0))] [] h
  else
   Q d 88 107 [some (.ref 189), some (.int x1), some (.int x2), some (.int (nI 0)), none, none] [] h := by
  rw [← hs.1]
  exact (blkM (fun p => Nat.beq p 23 || Nat.beq p 107) 9 11 _ _ _).trans rfl

set_option maxRecDepth 16384 in
theorem t_88_171 {d : Nat} {h : AH} (hs : Sh h) (x1 : Int32) :
    Q d 88 171 [some (.ref 189), some (.int x1), none, none, none, none] [] h =
  if x1 < gI h 3649 189 then
   cK (E d 90 [.ref 189, .int x1] h) (Q d 88 184 [some (.ref 189), some (.int x1), none, none, none, none]) []
  else
   Q d 88 200 [some (.ref 189), some (.int (gI h 3649 189)), none, none, none, none] [] h := by
  rw [← hs.1]
  exact (blkM (fun p => Nat.beq p 184 || Nat.beq p 200) 9 171 _ _ _).trans rfl

set_option maxRecDepth 16384 in
theorem t_88_23 {d : Nat} {h : AH} (hs : Sh h) (x1 : Int32) (x2 : Int32) (x3 : Int32) (x4 : Int32) (x5 : Int32) :
    Q d 88 23 [some (.ref 189), some (.int x1), some (.int x2), some (.int x3), some (.int x4), some (.int x5)] [] h =
  if x5 < gI h 3649 189 then
   if x4 = nI 0 then
    Q d 88 23 [some (.ref 189), some (.int x1), some (.int x2), some (.int x3), some (.int (nI 0)), some (.int (x5 + nI 1))] [] h
   else
    gd x5 11 <|
    if gA h 238 (ix x5) = x3 then
     Q d 88 23 [some (.ref 189), some (.int x1), some (.int x2), some (.int x3), some (.int (nI 0)), some (.int (x5 + nI 1))] [] h
    else
     Q d 88 23 [some (.ref 189), some (.int x1), some (.int x2), some (.int x3), some (.int (nI 1)), some (.int (x5 + nI 1))] [] h
  else
   if x4 = nI 0 then
    Q d 88 11 [some (.ref 189), some (.int x1), some (.int x2), some (.int (x3 + nI 1)), none, none] [] h
   else
    gd x3 11 <|
    dz (nI 63) <|
    gd (((x1 + (nI 1)) * ((nI 10) - x3)) - ((x1 + (nI 1)) * ((nI 10) - x3)) / (nI 63) * (nI 63)) 126 <|
    cK (E d 89 [.ref 189, .int (gA h 237 (ix x3)), .int (gA h 191 (ix (((x1 + (nI 1)) * ((nI 10) - x3)) - ((x1 + (nI 1)) * ((nI 10) - x3)) / (nI 63) * (nI 63))))] h) (Q d 88 93 [some (.ref 189), some (.int x1), some (.int x2), some (.int x3), some (.int x4), some (.int x5)]) [.int x2] := by
  rw [← hs.1]
  exact (blkM (fun p => Nat.beq p 11 || Nat.beq p 23 || Nat.beq p 93) 26 23 _ _ _).trans rfl

set_option maxRecDepth 16384 in
theorem t_88_107 {d : Nat} {h : AH} (hs : Sh h) (x1 : Int32) (x2 : Int32) (x3 : Int32) :
    Q d 88 107 [some (.ref 189), some (.int x1), some (.int x2), some (.int x3), none, none] [] h =
  if x3 < gI h 3649 189 then
   gd x3 11 <|
   dz (nI 63) <|
   gd (((x1 + (nI 1)) * ((nI 10) - (gA h 238 (ix x3)))) - ((x1 + (nI 1)) * ((nI 10) - (gA h 238 (ix x3)))) / (nI 63) * (nI 63)) 126 <|
   gd (((nI 5) * x1) + x3) 20 <|
   Q d 88 107 [some (.ref 189), some (.int x1), some (.int x2), some (.int (x3 + nI 1)), none, none] [] (sA h 239 (ix (((nI 5) * x1) + x3)) (gA h 191 (ix (((x1 + (nI 1)) * ((nI 10) - (gA h 238 (ix x3)))) - ((x1 + (nI 1)) * ((nI 10) - (gA h 238 (ix x3)))) / (nI 63) * (nI 63)))))
  else
   gd (((nI 5) * x1) + (nI 4)) 20 <|
   Q d 88 2 [some (.ref 189), some (.int (x1 + nI 1)), none, none, none, none] [] (sA h 239 (ix (((nI 5) * x1) + (nI 4))) x2) := by
  rw [← hs.1]
  exact (blkM (fun p => Nat.beq p 2 || Nat.beq p 107) 31 107 _ _ _).trans rfl

set_option maxRecDepth 16384 in
theorem t_88_184 {d : Nat} {h : AH} (hs : Sh h) (x1 : Int32) (u2 : Option Value) (u3 : Option Value) (u4 : Option Value) (u5 : Option Value) (s0 : Int32) :
    Q d 88 184 [some (.ref 189), some (.int x1), u2, u3, u4, u5] [.int s0] h =
  if s0 = nI 0 then
   some (some (.int (nI 0)), h)
  else
   Q d 88 171 [some (.ref 189), some (.int (x1 + nI 1)), none, none, none, none] [] h := by
  rw [← hs.1]
  exact (blkM (fun p => Nat.beq p 171) 5 184 _ _ _).trans rfl

set_option maxRecDepth 16384 in
theorem t_88_200 {d : Nat} {h : AH} (hs : Sh h) (x1 : Int32) :
    Q d 88 200 [some (.ref 189), some (.int x1), none, none, none, none] [] h =
  if x1 < nI 4 then
   gd (((nI 5) * x1) + (nI 4)) 20 <|
   if gA h 239 (ix (((nI 5) * x1) + (nI 4))) = nI 0 then
    Q d 88 200 [some (.ref 189), some (.int (x1 + nI 1)), none, none, none, none] [] h
   else
    some (some (.int (nI 0)), h)
  else
   Q d 88 228 [some (.ref 189), some (.int (nI 0)), none, none, none, none] [] h := by
  rw [← hs.1]
  exact (blkM (fun p => Nat.beq p 200 || Nat.beq p 228) 16 200 _ _ _).trans rfl

set_option maxRecDepth 16384 in
theorem t_88_93 {d : Nat} {h : AH} (hs : Sh h) (x1 : Int32) (x3 : Int32) (u2 : Option Value) (u4 : Option Value) (u5 : Option Value) (s0 : Int32) (s1 : Int32) :
    Q d 88 93 [some (.ref 189), some (.int x1), u2, some (.int x3), u4, u5] [.int s1, .int s0] h =
  Q d 88 11 [some (.ref 189), some (.int x1), some (.int (s0 ^^^ s1)), some (.int (x3 + nI 1)), none, none] [] h := by
  rw [← hs.1]
  exact (blkM (fun p => Nat.beq p 11) 7 93 _ _ _).trans rfl

set_option maxRecDepth 16384 in
theorem t_88_228 {d : Nat} {h : AH} (hs : Sh h) (x1 : Int32) :
    Q d 88 228 [some (.ref 189), some (.int x1), none, none, none, none] [] h =
  if x1 < gI h 3649 189 then
   gd x1 11 <|
   gd (((nI 5) * x1) + (nI 4)) 20 <|
   gd (gA h 238 (ix x1)) 11 <|
   Q d 88 228 [some (.ref 189), some (.int (x1 + nI 1)), none, none, none, none] [] (sA h 237 (ix (gA h 238 (ix x1))) (gA h 239 (ix (((nI 5) * x1) + (nI 4)))))
  else
   some (some (.int (nI 1)), h) := by
  rw [← hs.1]
  exact (blkM (fun p => Nat.beq p 228) 23 228 _ _ _).trans rfl

/-! 89 PostRoomModel.product(II)I -/
set_option maxRecDepth 16384 in
theorem t_89 {d : Nat} {h : AH} (hs : Sh h) (x1 : Int32) (x2 : Int32) :
    E (d + 1) 89 [.ref 189, .int x1, .int x2] h =
  if x1 = nI 0 then
   some (some (.int (nI 0)), h)
  else
   if x2 = nI 0 then
    some (some (.int (nI 0)), h)
   else
    gd x1 64 <|
    gd x2 64 <|
    gd ((gA h 192 (ix x1)) + (gA h 192 (ix x2))) 126 <|
    some (some (.int (gA h 191 (ix ((gA h 192 (ix x1)) + (gA h 192 (ix x2)))))), h) := by
  rw [← hs.1]
  exact entL (l := [some (.ref 189), some (.int x1), some (.int x2)]) rfl rfl ((blkM (fun p => false) 18 0 _ _ _).trans rfl)

/-! 90 PostRoomModel.cleared(I)Z -/
set_option maxRecDepth 16384 in
theorem t_90 {d : Nat} {h : AH} (hs : Sh h) (x1 : Int32) :
    E (d + 1) 90 [.ref 189, .int x1] h =
  Q d 90 2 [some (.ref 189), some (.int x1), some (.int x1), none, none, none, none] [] h := by
  rw [← hs.1]
  exact entL (l := [some (.ref 189), some (.int x1), none, none, none, none, none]) rfl rfl ((blkM (fun p => Nat.beq p 2) 4 0 _ _ _).trans rfl)

set_option maxRecDepth 16384 in
theorem t_90_2 {d : Nat} {h : AH} (hs : Sh h) (x1 : Int32) (x2 : Int32) :
    Q d 90 2 [some (.ref 189), some (.int x1), some (.int x2), none, none, none, none] [] h =
  if x2 < nI 4 then
   gd (((nI 5) * x2) + x1) 20 <|
   if gA h 239 (ix (((nI 5) * x2) + x1)) = nI 0 then
    Q d 90 2 [some (.ref 189), some (.int x1), some (.int (x2 + nI 1)), none, none, none, none] [] h
   else
    if x2 = nI 4 then
     some (some (.int (nI 0)), h)
    else
     Q d 90 35 [some (.ref 189), some (.int x1), some (.int x2), some (.int (nI 0)), none, none, none] [] h
  else
   if x2 = nI 4 then
    some (some (.int (nI 0)), h)
   else
    Q d 90 35 [some (.ref 189), some (.int x1), some (.int x2), some (.int (nI 0)), none, none, none] [] h := by
  rw [← hs.1]
  exact (blkM (fun p => Nat.beq p 2 || Nat.beq p 35) 19 2 _ _ _).trans rfl

set_option maxRecDepth 16384 in
theorem t_90_35 {d : Nat} {h : AH} (hs : Sh h) (x1 : Int32) (x2 : Int32) (x3 : Int32) :
    Q d 90 35 [some (.ref 189), some (.int x1), some (.int x2), some (.int x3), none, none, none] [] h =
  if x3 < nI 5 then
   gd (((nI 5) * x2) + x3) 20 <|
   gd (((nI 5) * x1) + x3) 20 <|
   gd (((nI 5) * x2) + x3) 20 <|
   gd (((nI 5) * x1) + x3) 20 <|
   Q d 90 35 [some (.ref 189), some (.int x1), some (.int x2), some (.int (x3 + nI 1)), none, none, none] [] (sA (sA h 239 (ix (((nI 5) * x2) + x3)) (gA h 239 (ix (((nI 5) * x1) + x3)))) 239 (ix (((nI 5) * x1) + x3)) (gA h 239 (ix (((nI 5) * x2) + x3))))
  else
   gd (((nI 5) * x1) + x1) 20 <|
   Q d 90 104 [some (.ref 189), some (.int x1), none, some (.int (gA h 239 (ix (((nI 5) * x1) + x1)))), some (.int (nI 0)), none, none] [] h := by
  rw [← hs.1]
  exact (blkM (fun p => Nat.beq p 35 || Nat.beq p 104) 41 35 _ _ _).trans rfl

set_option maxRecDepth 16384 in
theorem t_90_104 {d : Nat} {h : AH} (hs : Sh h) (x1 : Int32) (x3 : Int32) (x4 : Int32) :
    Q d 90 104 [some (.ref 189), some (.int x1), none, some (.int x3), some (.int x4), none, none] [] h =
  if x4 < nI 5 then
   gd (((nI 5) * x1) + x4) 20 <|
   cK (E d 91 [.ref 189, .int (gA h 239 (ix (((nI 5) * x1) + x4))), .int x3] h) (Q d 90 136 [some (.ref 189), some (.int x1), none, some (.int x3), some (.int x4), none, none]) [.int (((nI 5) * x1) + x4), .ref 239]
  else
   Q d 90 146 [some (.ref 189), some (.int x1), none, none, some (.int (nI 0)), none, none] [] h := by
  rw [← hs.1]
  exact (blkM (fun p => Nat.beq p 136 || Nat.beq p 146) 22 104 _ _ _).trans rfl

set_option maxRecDepth 16384 in
theorem t_90_136 {d : Nat} {h : AH} (hs : Sh h) (x1 : Int32) (x3 : Int32) (x4 : Int32) (u2 : Option Value) (u5 : Option Value) (u6 : Option Value) (s0 : Nat) (s1 : Int32) (s2 : Int32) :
    Q d 90 136 [some (.ref 189), some (.int x1), u2, some (.int x3), some (.int x4), u5, u6] [.int s2, .int s1, .ref s0] h =
  (cw (gC h s0) 60 s0 <|
  gd s1 (gK h s0) <|
  Q d 90 104 [some (.ref 189), some (.int x1), none, some (.int x3), some (.int (x4 + nI 1)), none, none] [] (sA h s0 (ix s1) s2)) := by
  rw [← hs.1]
  exact (blkM (fun p => Nat.beq p 104) 5 136 _ _ _).trans rfl

set_option maxRecDepth 16384 in
theorem t_90_146 {d : Nat} {h : AH} (hs : Sh h) (x1 : Int32) (x4 : Int32) :
    Q d 90 146 [some (.ref 189), some (.int x1), none, none, some (.int x4), none, none] [] h =
  if x4 < nI 4 then
   if x4 = x1 then
    Q d 90 178 [some (.ref 189), some (.int x1), none, none, some (.int x4), some (.int (nI 0)), some (.int (nI 0))] [] h
   else
    gd (((nI 5) * x4) + x1) 20 <|
    Q d 90 178 [some (.ref 189), some (.int x1), none, none, some (.int x4), some (.int (gA h 239 (ix (((nI 5) * x4) + x1)))), some (.int (nI 0))] [] h
  else
   some (some (.int (nI 1)), h) := by
  rw [← hs.1]
  exact (blkM (fun p => Nat.beq p 178) 19 146 _ _ _).trans rfl

set_option maxRecDepth 16384 in
theorem t_90_178 {d : Nat} {h : AH} (hs : Sh h) (x1 : Int32) (x4 : Int32) (x5 : Int32) (x6 : Int32) :
    Q d 90 178 [some (.ref 189), some (.int x1), none, none, some (.int x4), some (.int x5), some (.int x6)] [] h =
  if x6 < nI 5 then
   gd (((nI 5) * x4) + x6) 20 <|
   gd (((nI 5) * x1) + x6) 20 <|
   cK (E d 89 [.ref 189, .int x5, .int (gA h 239 (ix (((nI 5) * x1) + x6)))] h) (Q d 90 224 [some (.ref 189), some (.int x1), none, none, some (.int x4), some (.int x5), some (.int x6)]) [.int (gA h 239 (ix (((nI 5) * x4) + x6))), .int (((nI 5) * x4) + x6), .ref 239]
  else
   Q d 90 146 [some (.ref 189), some (.int x1), none, none, some (.int (x4 + nI 1)), none, none] [] h := by
  rw [← hs.1]
  exact (blkM (fun p => Nat.beq p 146 || Nat.beq p 224) 30 178 _ _ _).trans rfl

set_option maxRecDepth 16384 in
theorem t_90_224 {d : Nat} {h : AH} (hs : Sh h) (x1 : Int32) (x4 : Int32) (x5 : Int32) (x6 : Int32) (u2 : Option Value) (u3 : Option Value) (s0 : Nat) (s1 : Int32) (s2 : Int32) (s3 : Int32) :
    Q d 90 224 [some (.ref 189), some (.int x1), u2, u3, some (.int x4), some (.int x5), some (.int x6)] [.int s3, .int s2, .int s1, .ref s0] h =
  (cw (gC h s0) 60 s0 <|
  gd s1 (gK h s0) <|
  Q d 90 178 [some (.ref 189), some (.int x1), none, none, some (.int x4), some (.int x5), some (.int (x6 + nI 1))] [] (sA h s0 (ix s1) (s2 ^^^ s3))) := by
  rw [← hs.1]
  exact (blkM (fun p => Nat.beq p 178) 6 224 _ _ _).trans rfl

/-! 91 PostRoomModel.quotient(II)I -/
set_option maxRecDepth 16384 in
theorem t_91 {d : Nat} {h : AH} (hs : Sh h) (x1 : Int32) (x2 : Int32) :
    E (d + 1) 91 [.ref 189, .int x1, .int x2] h =
  if x1 = nI 0 then
   some (some (.int (nI 0)), h)
  else
   gd x1 64 <|
   gd x2 64 <|
   gd (((gA h 192 (ix x1)) + (nI 63)) - (gA h 192 (ix x2))) 126 <|
   some (some (.int (gA h 191 (ix (((gA h 192 (ix x1)) + (nI 63)) - (gA h 192 (ix x2)))))), h) := by
  rw [← hs.1]
  exact entL (l := [some (.ref 189), some (.int x1), some (.int x2)]) rfl rfl ((blkM (fun p => false) 18 0 _ _ _).trans rfl)

/-! 92 PostRoomModel.read()I -/
set_option maxRecDepth 16384 in
theorem t_92 {d : Nat} {h : AH} (hs : Sh h)  :
    E (d + 1) 92 [.ref 189] h =
  cK (E d 36 [.ref 189] (sI h 3586 189 (nI 0))) (Q d 92 9 [some (.ref 189), none, none, none]) [] := by
  rw [← hs.1]
  exact entL (l := [some (.ref 189), none, none, none]) rfl rfl ((blkM (fun p => Nat.beq p 9) 6 0 _ _ _).trans rfl)

set_option maxRecDepth 16384 in
theorem t_92_9 {d : Nat} {h : AH} (hs : Sh h) (u1 : Option Value) (u2 : Option Value) (u3 : Option Value) :
    Q d 92 9 [some (.ref 189), u1, u2, u3] [] h =
  cK (E d 93 [.ref 189] h) (Q d 92 13 [some (.ref 189), u1, u2, u3]) [] := by
  rw [← hs.1]
  exact (blkM (fun p => Nat.beq p 13) 3 9 _ _ _).trans rfl

set_option maxRecDepth 16384 in
theorem t_92_13 {d : Nat} {h : AH} (hs : Sh h) (u1 : Option Value) (u2 : Option Value) (u3 : Option Value) (s0 : Int32) :
    Q d 92 13 [some (.ref 189), u1, u2, u3] [.int s0] h =
  if s0 = nI 0 then
   some (some (.int (-3)), h)
  else
   cK (E d 94 [.ref 189] h) (Q d 92 23 [some (.ref 189), u1, u2, u3]) [] := by
  rw [← hs.1]
  exact (blkM (fun p => Nat.beq p 23) 4 13 _ _ _).trans rfl

set_option maxRecDepth 16384 in
theorem t_92_23 {d : Nat} {h : AH} (hs : Sh h) (u1 : Option Value) (u2 : Option Value) (u3 : Option Value) (s0 : Int32) :
    Q d 92 23 [some (.ref 189), u1, u2, u3] [.int s0] h =
  if s0 = nI 0 then
   some (some (.int (-1)), h)
  else
   Q d 92 38 [some (.ref 189), some (.int (nI 0)), none, none] [] (sI h 3653 189 (gI h 3649 189)) := by
  rw [← hs.1]
  exact (blkM (fun p => Nat.beq p 38) 9 23 _ _ _).trans rfl

set_option maxRecDepth 16384 in
theorem t_92_38 {d : Nat} {h : AH} (hs : Sh h) (x1 : Int32) :
    Q d 92 38 [some (.ref 189), some (.int x1), none, none] [] h =
  if x1 < nI 11 then
   gd x1 11 <|
   gd x1 11 <|
   Q d 92 38 [some (.ref 189), some (.int (x1 + nI 1)), none, none] [] (sA h 240 (ix x1) (gA h 237 (ix x1)))
  else
   if ((nI 64) * (gA h 240 3)) + (gA h 240 4) < gI h 3654 189 then
    cK (E d 87 [.ref 189, .int (((nI 64) * (gA h 240 3)) + (gA h 240 4))] h) (Q d 92 95 [some (.ref 189), some (.int (((nI 64) * (gA h 240 3)) + (gA h 240 4))), none, none]) []
   else
    some (some (.int (-2)), h) := by
  rw [← hs.1]
  exact (blkM (fun p => Nat.beq p 38 || Nat.beq p 95) 23 38 _ _ _).trans rfl

set_option maxRecDepth 16384 in
theorem t_92_95 {d : Nat} {h : AH} (hs : Sh h) (x1 : Int32) (u2 : Option Value) (u3 : Option Value) :
    Q d 92 95 [some (.ref 189), some (.int x1), u2, u3] [] h =
  Q d 92 99 [some (.ref 189), some (.int x1), some (.int (nI 1)), some (.int (nI 0))] [] h := by
  rw [← hs.1]
  exact (blkM (fun p => Nat.beq p 99) 6 95 _ _ _).trans rfl

set_option maxRecDepth 16384 in
theorem t_92_99 {d : Nat} {h : AH} (hs : Sh h) (x1 : Int32) (x2 : Int32) (x3 : Int32) :
    Q d 92 99 [some (.ref 189), some (.int x1), some (.int x2), some (.int x3)] [] h =
  if x3 < nI 7 then
   if x2 = nI 0 then
    Q d 92 99 [some (.ref 189), some (.int x1), some (.int (nI 0)), some (.int (x3 + nI 1))] [] h
   else
    gd x3 11 <|
    gd x3 11 <|
    if gA h 237 (ix x3) = gA h 240 (ix x3) then
     Q d 92 99 [some (.ref 189), some (.int x1), some (.int (nI 1)), some (.int (x3 + nI 1))] [] h
    else
     Q d 92 99 [some (.ref 189), some (.int x1), some (.int (nI 0)), some (.int (x3 + nI 1))] [] h
  else
   if x2 = nI 0 then
    some (some (.int (-2)), h)
   else
    some (some (.int x1), h) := by
  rw [← hs.1]
  exact (blkM (fun p => Nat.beq p 99) 21 99 _ _ _).trans rfl

/-! 93 PostRoomModel.takeBars()Z -/
set_option maxRecDepth 16384 in
theorem t_93 {d : Nat} {h : AH} (hs : Sh h)  :
    E (d + 1) 93 [.ref 189] h =
  if gI h 3591 189 = nI 33 then
   Q d 93 17 [some (.ref 189), some (.int (nI 1)), some (.int (nI 0)), none] [] h
  else
   Q d 93 17 [some (.ref 189), some (.int (nI 0)), some (.int (nI 0)), none] [] h := by
  rw [← hs.1]
  exact entL (l := [some (.ref 189), none, none, none]) rfl rfl ((blkM (fun p => Nat.beq p 17) 11 0 _ _ _).trans rfl)

set_option maxRecDepth 16384 in
theorem t_93_17 {d : Nat} {h : AH} (hs : Sh h) (x1 : Int32) (x2 : Int32) :
    Q d 93 17 [some (.ref 189), some (.int x1), some (.int x2), none] [] h =
  if x2 < nI 33 then
   if x1 = nI 0 then
    Q d 93 74 [some (.ref 189), some (.int x1), some (.int (nI 0)), none] [] h
   else
    gd x2 4000 <|
    if gA h 193 (ix x2) < nI 48 then
     gd x2 4000 <|
     if gA h 193 (ix x2) = nI 63 then
      Q d 93 17 [some (.ref 189), some (.int (nI 1)), some (.int (x2 + nI 1)), none] [] h
     else
      Q d 93 17 [some (.ref 189), some (.int (nI 0)), some (.int (x2 + nI 1)), none] [] h
    else
     gd x2 4000 <|
     if (nI 51) < gA h 193 (ix x2) then
      gd x2 4000 <|
      if gA h 193 (ix x2) = nI 63 then
       Q d 93 17 [some (.ref 189), some (.int (nI 1)), some (.int (x2 + nI 1)), none] [] h
      else
       Q d 93 17 [some (.ref 189), some (.int (nI 0)), some (.int (x2 + nI 1)), none] [] h
     else
      Q d 93 17 [some (.ref 189), some (.int (nI 1)), some (.int (x2 + nI 1)), none] [] h
  else
   Q d 93 74 [some (.ref 189), some (.int x1), some (.int (nI 0)), none] [] h := by
  rw [← hs.1]
  exact (blkM (fun p => Nat.beq p 17 || Nat.beq p 74) 30 17 _ _ _).trans rfl

set_option maxRecDepth 16384 in
theorem t_93_74 {d : Nat} {h : AH} (hs : Sh h) (x1 : Int32) (x2 : Int32) :
    Q d 93 74 [some (.ref 189), some (.int x1), some (.int x2), none] [] h =
  if x2 < nI 11 then
   if x1 = nI 0 then
    if x1 = 0 ∨ x1 = 1 then
     some (some (.int x1), h)
    else
     none
   else
    gd x2 11 <|
    gd x2 11 <|
    Q d 93 102 [some (.ref 189), some (.int x1), some (.int x2), some (.int ((nI 3) * x2))] [] (sA (sA h 240 (ix x2) (nI 0)) 241 (ix x2) (nrA 63 (nI 1)))
  else
   if x1 = 0 ∨ x1 = 1 then
    some (some (.int x1), h)
   else
    none := by
  rw [← hs.1]
  exact (blkM (fun p => Nat.beq p 102) 21 74 _ _ _).trans rfl

set_option maxRecDepth 16384 in
theorem t_93_102 {d : Nat} {h : AH} (hs : Sh h) (x1 : Int32) (x2 : Int32) (x3 : Int32) :
    Q d 93 102 [some (.ref 189), some (.int x1), some (.int x2), some (.int x3)] [] h =
  if x3 < ((nI 3) * x2) + (nI 3) then
   gd x2 11 <|
   if gA h 241 (ix x2) = nI 0 then
    gd x2 11 <|
    gd x2 11 <|
    gd x3 4000 <|
    if gA h 193 (ix x3) = nI 63 then
     gd x2 11 <|
     Q d 93 102 [some (.ref 189), some (.int x1), some (.int x2), some (.int (x3 + nI 1))] [] (sA (sA h 241 (ix x2) (nrA 63 (nI 0))) 240 (ix x2) (((nI 4) * (gA h 240 (ix x2))) + (nI 0)))
    else
     gd x3 4000 <|
     gd x2 11 <|
     Q d 93 102 [some (.ref 189), some (.int x1), some (.int x2), some (.int (x3 + nI 1))] [] (sA (sA h 241 (ix x2) (nrA 63 (nI 0))) 240 (ix x2) (((nI 4) * (gA h 240 (ix x2))) + ((gA h 193 (ix x3)) - (nI 48))))
   else
    gd x3 4000 <|
    if gA h 193 (ix x3) = nI 63 then
     gd x2 11 <|
     gd x2 11 <|
     gd x3 4000 <|
     if gA h 193 (ix x3) = nI 63 then
      gd x2 11 <|
      Q d 93 102 [some (.ref 189), some (.int x1), some (.int x2), some (.int (x3 + nI 1))] [] (sA (sA h 241 (ix x2) (nrA 63 (nI 0))) 240 (ix x2) (((nI 4) * (gA h 240 (ix x2))) + (nI 0)))
     else
      gd x3 4000 <|
      gd x2 11 <|
      Q d 93 102 [some (.ref 189), some (.int x1), some (.int x2), some (.int (x3 + nI 1))] [] (sA (sA h 241 (ix x2) (nrA 63 (nI 0))) 240 (ix x2) (((nI 4) * (gA h 240 (ix x2))) + ((gA h 193 (ix x3)) - (nI 48))))
    else
     gd x2 11 <|
     gd x2 11 <|
     gd x3 4000 <|
     if gA h 193 (ix x3) = nI 63 then
      gd x2 11 <|
      Q d 93 102 [some (.ref 189), some (.int x1), some (.int x2), some (.int (x3 + nI 1))] [] (sA (sA h 241 (ix x2) (nrA 63 (nI 1))) 240 (ix x2) (((nI 4) * (gA h 240 (ix x2))) + (nI 0)))
     else
      gd x3 4000 <|
      gd x2 11 <|
      Q d 93 102 [some (.ref 189), some (.int x1), some (.int x2), some (.int (x3 + nI 1))] [] (sA (sA h 241 (ix x2) (nrA 63 (nI 1))) 240 (ix x2) (((nI 4) * (gA h 240 (ix x2))) + ((gA h 193 (ix x3)) - (nI 48))))
  else
   Q d 93 74 [some (.ref 189), some (.int x1), some (.int (x2 + nI 1)), none] [] h := by
  rw [← hs.1]
  exact (blkM (fun p => Nat.beq p 74 || Nat.beq p 102) 51 102 _ _ _).trans rfl

/-! 94 PostRoomModel.isRead()Z -/
set_option maxRecDepth 16384 in
theorem t_94 {d : Nat} {h : AH} (hs : Sh h)  :
    E (d + 1) 94 [.ref 189] h =
  Q d 94 4 [some (.ref 189), some (.int (nI 0)), some (.int (nI 0)), none, none] [] h := by
  rw [← hs.1]
  exact entL (l := [some (.ref 189), none, none, none, none]) rfl rfl ((blkM (fun p => Nat.beq p 4) 6 0 _ _ _).trans rfl)

set_option maxRecDepth 16384 in
theorem t_94_4 {d : Nat} {h : AH} (hs : Sh h) (x1 : Int32) (x2 : Int32) :
    Q d 94 4 [some (.ref 189), some (.int x1), some (.int x2), none, none] [] h =
  if x2 < nI 11 then
   gd x2 11 <|
   if gA h 241 (ix x2) = nI 0 then
    Q d 94 4 [some (.ref 189), some (.int (x1 + (nI 1))), some (.int (x2 + nI 1)), none, none] [] h
   else
    Q d 94 4 [some (.ref 189), some (.int (x1 + (nI 0))), some (.int (x2 + nI 1)), none, none] [] h
  else
   if (nI 4) < x1 then
    some (some (.int (nI 0)), h)
   else
    cK (E d 95 [.ref 189, .int (nI 11), .int (nI 11)] h) (Q d 94 48 [some (.ref 189), some (.int x1), some (.int x2), none, none]) [] := by
  rw [← hs.1]
  exact (blkM (fun p => Nat.beq p 4 || Nat.beq p 48) 17 4 _ _ _).trans rfl

set_option maxRecDepth 16384 in
theorem t_94_48 {d : Nat} {h : AH} (hs : Sh h) (x1 : Int32) (u2 : Option Value) (u3 : Option Value) (u4 : Option Value) (s0 : Int32) :
    Q d 94 48 [some (.ref 189), some (.int x1), u2, u3, u4] [.int s0] h =
  Q d 94 51 [some (.ref 189), some (.int x1), some (.int s0), some (.int (nI 0)), none] [] h := by
  rw [← hs.1]
  exact (blkM (fun p => Nat.beq p 51) 5 48 _ _ _).trans rfl

set_option maxRecDepth 16384 in
theorem t_94_51 {d : Nat} {h : AH} (hs : Sh h) (x1 : Int32) (x2 : Int32) (x3 : Int32) :
    Q d 94 51 [some (.ref 189), some (.int x1), some (.int x2), some (.int x3), none] [] h =
  if x3 < nI 11 then
   if x2 = nI 0 then
    if x1 < nI 3 then
     gd x3 11 <|
     if gA h 241 (ix x3) = nI 0 then
      Q d 94 51 [some (.ref 189), some (.int x1), some (.int (nI 0)), some (.int (x3 + nI 1)), none] [] h
     else
      cK (E d 95 [.ref 189, .int x3, .int (nI 11)] h) (Q d 94 82 [some (.ref 189), some (.int x1), some (.int x2), some (.int x3), none]) []
    else
     Q d 94 99 [some (.ref 189), some (.int x1), some (.int x2), some (.int (nI 0)), none] [] h
   else
    Q d 94 99 [some (.ref 189), some (.int x1), some (.int x2), some (.int (nI 0)), none] [] h
  else
   Q d 94 99 [some (.ref 189), some (.int x1), some (.int x2), some (.int (nI 0)), none] [] h := by
  rw [← hs.1]
  exact (blkM (fun p => Nat.beq p 51 || Nat.beq p 82 || Nat.beq p 99) 19 51 _ _ _).trans rfl

set_option maxRecDepth 16384 in
theorem t_94_82 {d : Nat} {h : AH} (hs : Sh h) (x1 : Int32) (x3 : Int32) (u2 : Option Value) (u4 : Option Value) (s0 : Int32) :
    Q d 94 82 [some (.ref 189), some (.int x1), u2, some (.int x3), u4] [.int s0] h =
  if s0 = nI 0 then
   Q d 94 51 [some (.ref 189), some (.int x1), some (.int (nI 0)), some (.int (x3 + nI 1)), none] [] h
  else
   Q d 94 51 [some (.ref 189), some (.int x1), some (.int (nI 1)), some (.int (x3 + nI 1)), none] [] h := by
  rw [← hs.1]
  exact (blkM (fun p => Nat.beq p 51) 8 82 _ _ _).trans rfl

set_option maxRecDepth 16384 in
theorem t_94_99 {d : Nat} {h : AH} (hs : Sh h) (x1 : Int32) (x2 : Int32) (x3 : Int32) :
    Q d 94 99 [some (.ref 189), some (.int x1), some (.int x2), some (.int x3), none] [] h =
  if x3 < nI 11 then
   if x2 = nI 0 then
    if x1 = nI 0 then
     Q d 94 116 [some (.ref 189), some (.int x1), some (.int x2), some (.int x3), some (.int (nI 0))] [] h
    else
     if x2 = 0 ∨ x2 = 1 then
      some (some (.int x2), h)
     else
      none
   else
    if x2 = 0 ∨ x2 = 1 then
     some (some (.int x2), h)
    else
     none
  else
   if x2 = 0 ∨ x2 = 1 then
    some (some (.int x2), h)
   else
    none := by
  rw [← hs.1]
  exact (blkM (fun p => Nat.beq p 116) 11 99 _ _ _).trans rfl

set_option maxRecDepth 16384 in
theorem t_94_116 {d : Nat} {h : AH} (hs : Sh h) (x1 : Int32) (x2 : Int32) (x3 : Int32) (x4 : Int32) :
    Q d 94 116 [some (.ref 189), some (.int x1), some (.int x2), some (.int x3), some (.int x4)] [] h =
  if x4 < x3 then
   if x2 = nI 0 then
    cK (E d 95 [.ref 189, .int x3, .int x4] h) (Q d 94 133 [some (.ref 189), some (.int x1), some (.int x2), some (.int x3), some (.int x4)]) []
   else
    Q d 94 99 [some (.ref 189), some (.int x1), some (.int x2), some (.int (x3 + nI 1)), none] [] h
  else
   Q d 94 99 [some (.ref 189), some (.int x1), some (.int x2), some (.int (x3 + nI 1)), none] [] h := by
  rw [← hs.1]
  exact (blkM (fun p => Nat.beq p 99 || Nat.beq p 133) 10 116 _ _ _).trans rfl

set_option maxRecDepth 16384 in
theorem t_94_133 {d : Nat} {h : AH} (hs : Sh h) (x1 : Int32) (x3 : Int32) (x4 : Int32) (u2 : Option Value) (s0 : Int32) :
    Q d 94 133 [some (.ref 189), some (.int x1), u2, some (.int x3), some (.int x4)] [.int s0] h =
  Q d 94 116 [some (.ref 189), some (.int x1), some (.int s0), some (.int x3), some (.int (x4 + nI 1))] [] h := by
  rw [← hs.1]
  exact (blkM (fun p => Nat.beq p 116) 5 133 _ _ _).trans rfl

/-! 95 PostRoomModel.tries(II)Z -/
set_option maxRecDepth 16384 in
theorem t_95 {d : Nat} {h : AH} (hs : Sh h) (x1 : Int32) (x2 : Int32) :
    E (d + 1) 95 [.ref 189, .int x1, .int x2] h =
  Q d 95 7 [some (.ref 189), some (.int x1), some (.int x2), some (.int (nI 0))] [] (sI h 3649 189 (nI 0)) := by
  rw [← hs.1]
  exact entL (l := [some (.ref 189), some (.int x1), some (.int x2), none]) rfl rfl ((blkM (fun p => Nat.beq p 7) 7 0 _ _ _).trans rfl)

set_option maxRecDepth 16384 in
theorem t_95_7 {d : Nat} {h : AH} (hs : Sh h) (x1 : Int32) (x2 : Int32) (x3 : Int32) :
    Q d 95 7 [some (.ref 189), some (.int x1), some (.int x2), some (.int x3)] [] h =
  if x3 < nI 11 then
   gd x3 11 <|
   gd x3 11 <|
   gd x3 11 <|
   if gA h 241 (ix x3) = nI 0 then
    gd (gI h 3649 189) 11 <|
    Q d 95 7 [some (.ref 189), some (.int x1), some (.int x2), some (.int (x3 + nI 1))] [] (sI (sA (sA h 237 (ix x3) (gA h 240 (ix x3))) 238 (ix (gI h 3649 189)) x3) 3649 189 ((gI h 3649 189) + (nI 1)))
   else
    if x3 = x1 then
     gd (gI h 3649 189) 11 <|
     Q d 95 7 [some (.ref 189), some (.int x1), some (.int x2), some (.int (x3 + nI 1))] [] (sI (sA (sA h 237 (ix x3) (gA h 240 (ix x3))) 238 (ix (gI h 3649 189)) x3) 3649 189 ((gI h 3649 189) + (nI 1)))
    else
     if x3 = x2 then
      gd (gI h 3649 189) 11 <|
      Q d 95 7 [some (.ref 189), some (.int x1), some (.int x2), some (.int (x3 + nI 1))] [] (sI (sA (sA h 237 (ix x3) (gA h 240 (ix x3))) 238 (ix (gI h 3649 189)) x3) 3649 189 ((gI h 3649 189) + (nI 1)))
     else
      Q d 95 7 [some (.ref 189), some (.int x1), some (.int x2), some (.int (x3 + nI 1))] [] (sA h 237 (ix x3) (gA h 240 (ix x3)))
  else
   cK (E d 88 [.ref 189] h) (Q d 95 74 [some (.ref 189), some (.int x1), some (.int x2), some (.int x3)]) [] := by
  rw [← hs.1]
  exact (blkM (fun p => Nat.beq p 7 || Nat.beq p 74) 38 7 _ _ _).trans rfl

set_option maxRecDepth 16384 in
theorem t_95_74 {d : Nat} {h : AH} (hs : Sh h) (u0 : Option Value) (u1 : Option Value) (u2 : Option Value) (u3 : Option Value) (s0 : Int32) :
    Q d 95 74 [u0, u1, u2, u3] [.int s0] h =
  if s0 = 0 ∨ s0 = 1 then
   some (some (.int s0), h)
  else
   none := by
  rw [← hs.1]
  exact (blkM (fun p => false) 2 74 _ _ _).trans rfl

/-! 96 PostRoomModel.mended()I -/
set_option maxRecDepth 16384 in
theorem t_96 {d : Nat} {h : AH} (hs : Sh h)  :
    E (d + 1) 96 [.ref 189] h =
  some (some (.int (gI h 3653 189)), sI h 3586 189 (nI 0)) := by
  rw [← hs.1]
  exact entL (l := [some (.ref 189)]) rfl rfl ((blkM (fun p => false) 7 0 _ _ _).trans rfl)

/-! 97 PostRoomModel.accept(III)I -/
set_option maxRecDepth 16384 in
theorem t_97 {d : Nat} {h : AH} (hs : Sh h) (x1 : Int32) (x2 : Int32) (x3 : Int32) :
    E (d + 1) 97 [.ref 189, .int x1, .int x2, .int x3] h =
  cK (E d 36 [.ref 189] h) (Q d 97 4 [some (.ref 189), some (.int x1), some (.int x2), some (.int x3), none, none]) [] := by
  rw [← hs.1]
  exact entL (l := [some (.ref 189), some (.int x1), some (.int x2), some (.int x3), none, none]) rfl rfl ((blkM (fun p => Nat.beq p 4) 3 0 _ _ _).trans rfl)

set_option maxRecDepth 16384 in
theorem t_97_4 {d : Nat} {h : AH} (hs : Sh h) (x1 : Int32) (x2 : Int32) (x3 : Int32) (u4 : Option Value) (u5 : Option Value) :
    Q d 97 4 [some (.ref 189), some (.int x1), some (.int x2), some (.int x3), u4, u5] [] h =
  cK (E d 81 [.ref 189, .int x1] h) (Q d 97 10 [some (.ref 189), some (.int x1), some (.int x2), some (.int x3), u4, u5]) [.ref 189] := by
  rw [← hs.1]
  exact (blkM (fun p => Nat.beq p 10) 5 4 _ _ _).trans rfl

set_option maxRecDepth 16384 in
theorem t_97_10 {d : Nat} {h : AH} (hs : Sh h) (x1 : Int32) (x2 : Int32) (x3 : Int32) (u4 : Option Value) (u5 : Option Value) (s0 : Nat) (s1 : Int32) :
    Q d 97 10 [some (.ref 189), some (.int x1), some (.int x2), some (.int x3), u4, u5] [.int s1, .ref s0] h =
  if s1 = nI 0 then
   ck (gC h s0) 14 <|
   if (nI 0) < gI (sI h 3586 s0 (nI 1)) 3586 189 then
    some (some (.int (nI 0)), sI h 3586 s0 (nI 1))
   else
    cK (E d 63 [.ref 189] (sI h 3586 s0 (nI 1))) (Q d 97 42 [some (.ref 189), some (.int x1), some (.int x2), some (.int x3), none, none]) []
  else
   cK (E d 82 [.ref 189, .int x3] h) (Q d 97 18 [some (.ref 189), some (.int x1), some (.int x2), some (.int x3), u4, u5]) [.ref s0] := by
  rw [← hs.1]
  exact (blkM (fun p => Nat.beq p 18 || Nat.beq p 42) 9 10 _ _ _).trans rfl

set_option maxRecDepth 16384 in
theorem t_97_18 {d : Nat} {h : AH} (hs : Sh h) (x1 : Int32) (x2 : Int32) (x3 : Int32) (u4 : Option Value) (u5 : Option Value) (s0 : Nat) (s1 : Int32) :
    Q d 97 18 [some (.ref 189), some (.int x1), some (.int x2), some (.int x3), u4, u5] [.int s1, .ref s0] h =
  if s1 = nI 0 then
   ck (gC h s0) 14 <|
   if (nI 0) < gI (sI h 3586 s0 (nI 1)) 3586 189 then
    some (some (.int (nI 0)), sI h 3586 s0 (nI 1))
   else
    cK (E d 63 [.ref 189] (sI h 3586 s0 (nI 1))) (Q d 97 42 [some (.ref 189), some (.int x1), some (.int x2), some (.int x3), none, none]) []
  else
   ck (gC h s0) 14 <|
   if (nI 0) < gI (sI h 3586 s0 (nI 0)) 3586 189 then
    some (some (.int (nI 0)), sI h 3586 s0 (nI 0))
   else
    cK (E d 63 [.ref 189] (sI h 3586 s0 (nI 0))) (Q d 97 42 [some (.ref 189), some (.int x1), some (.int x2), some (.int x3), none, none]) [] := by
  rw [← hs.1]
  exact (blkM (fun p => Nat.beq p 42) 10 18 _ _ _).trans rfl

set_option maxRecDepth 16384 in
theorem t_97_42 {d : Nat} {h : AH} (hs : Sh h) (x1 : Int32) (x2 : Int32) (x3 : Int32) (u4 : Option Value) (u5 : Option Value) (s0 : Int32) :
    Q d 97 42 [some (.ref 189), some (.int x1), some (.int x2), some (.int x3), u4, u5] [.int s0] h =
  if s0 < nI 0 then
   some (some (.int s0), h)
  else
   cK (E d 83 [.ref 189, .int x1, .int x2] h) (Q d 97 58 [some (.ref 189), some (.int x1), some (.int x2), some (.int x3), some (.int s0), u5]) [] := by
  rw [← hs.1]
  exact (blkM (fun p => Nat.beq p 58) 8 42 _ _ _).trans rfl

set_option maxRecDepth 16384 in
theorem t_97_58 {d : Nat} {h : AH} (hs : Sh h) (x1 : Int32) (x2 : Int32) (x3 : Int32) (x4 : Int32) (u5 : Option Value) (s0 : Int32) :
    Q d 97 58 [some (.ref 189), some (.int x1), some (.int x2), some (.int x3), some (.int x4), u5] [.int s0] h =
  if s0 = nI 0 then
   some (some (.int (-3)), h)
  else
   if gI h 3654 189 = nI 200 then
    some (some (.int (-4)), h)
   else
    gd (gI h 3654 189) 200 <|
    gd (gI h 3654 189) 200 <|
    gd (gI h 3654 189) 200 <|
    gd (gI h 3654 189) 200 <|
    gd (gI h 3654 189) 200 <|
    gd (((nI 60) * (gI h 3597 189)) + x4) 120 <|
    gd (((nI 16) * (gI h 3597 189)) + (gA h 208 (ix (((nI 60) * (gI h 3597 189)) + x4)))) 32 <|
    gd (gI h 3654 189) 200 <|
    gd (gI h 3654 189) 200 <|
    gd (((nI 60) * (gI h 3597 189)) + x4) 120 <|
    cK (E d 84 [.ref 189, .int x3, .int (gA h 208 (ix (((nI 60) * (gI h 3597 189)) + x4)))] (sA (sA (sA (sA (sA (sA (sA (sI h 3654 189 ((gI h 3654 189) + (nI 1))) 242 (ix (gI h 3654 189)) x1) 243 (ix (gI h 3654 189)) x2) 244 (ix (gI h 3654 189)) x3) 246 (ix (gI h 3654 189)) x4) 247 (ix (gI h 3654 189)) (gI h 3641 189)) 245 (ix (gI h 3654 189)) (gA h 199 (ix (((nI 16) * (gI h 3597 189)) + (gA h 208 (ix (((nI 60) * (gI h 3597 189)) + x4))))))) 252 (ix (gI h 3654 189)) (nI 0))) (Q d 97 209 [some (.ref 189), some (.int x1), some (.int x2), some (.int x3), some (.int x4), some (.int (gI h 3654 189))]) [.int x2, .int x1, .ref 189, .int (gI h 3654 189), .ref 251] := by
  rw [← hs.1]
  exact (blkM (fun p => Nat.beq p 209) 85 58 _ _ _).trans rfl

set_option maxRecDepth 16384 in
theorem t_97_209 {d : Nat} {h : AH} (hs : Sh h) (x3 : Int32) (x5 : Int32) (u1 : Option Value) (u2 : Option Value) (u4 : Option Value) (s0 : Nat) (s1 : Int32) (s2 : Nat) (s3 : Int32) (s4 : Int32) (s5 : Int32) :
    Q d 97 209 [some (.ref 189), u1, u2, some (.int x3), u4, some (.int x5)] [.int s5, .int s4, .int s3, .ref s2, .int s1, .ref s0] h =
  (ck (gC h s2) 14 <|
  cK (E d 85 [.ref s2, .int s3, .int s4, .int s5] h) (Q d 97 212 [some (.ref 189), u1, u2, some (.int x3), u4, some (.int x5)]) [.int s1, .ref s0]) := by
  rw [← hs.1]
  exact (blkM (fun p => Nat.beq p 212) 2 209 _ _ _).trans rfl

set_option maxRecDepth 16384 in
theorem t_97_212 {d : Nat} {h : AH} (hs : Sh h) (x3 : Int32) (x5 : Int32) (u1 : Option Value) (u2 : Option Value) (u4 : Option Value) (s0 : Nat) (s1 : Int32) (s2 : Int32) :
    Q d 97 212 [some (.ref 189), u1, u2, some (.int x3), u4, some (.int x5)] [.int s2, .int s1, .ref s0] h =
  (cw (gC h s0) 60 s0 <|
  gd s1 (gK h s0) <|
  gd x5 200 <|
  cK (E d 98 [.ref 189, .int x5, .int x3] (sI (sA h s0 (ix s1) s2) 3667 189 ((gI h 3667 189) + (gA (sA h s0 (ix s1) s2) 251 (ix x5))))) (Q d 97 236 [some (.ref 189), u1, u2, some (.int x3), u4, some (.int x5)]) []) := by
  rw [← hs.1]
  exact (blkM (fun p => Nat.beq p 236) 15 212 _ _ _).trans rfl

set_option maxRecDepth 16384 in
theorem t_97_236 {d : Nat} {h : AH} (hs : Sh h) (x3 : Int32) (x5 : Int32) (u1 : Option Value) (u2 : Option Value) (u4 : Option Value) :
    Q d 97 236 [some (.ref 189), u1, u2, some (.int x3), u4, some (.int x5)] [] h =
  cK (E d 100 [.ref 189, .int x5, .int (nI 0), .int x3] h) (Q d 97 244 [some (.ref 189), u1, u2, some (.int x3), u4, some (.int x5)]) [] := by
  rw [← hs.1]
  exact (blkM (fun p => Nat.beq p 244) 6 236 _ _ _).trans rfl

set_option maxRecDepth 16384 in
theorem t_97_244 {d : Nat} {h : AH} (hs : Sh h) (x5 : Int32) (u0 : Option Value) (u1 : Option Value) (u2 : Option Value) (u3 : Option Value) (u4 : Option Value) :
    Q d 97 244 [u0, u1, u2, u3, u4, some (.int x5)] [] h =
  some (some (.int x5), h) := by
  rw [← hs.1]
  exact (blkM (fun p => false) 3 244 _ _ _).trans rfl

/-! 98 PostRoomModel.shelve(II)V -/
set_option maxRecDepth 16384 in
theorem t_98 {d : Nat} {h : AH} (hs : Sh h) (x1 : Int32) (x2 : Int32) :
    E (d + 1) 98 [.ref 189, .int x1, .int x2] h =
  (gd x2 16 <|
  gd (((nI 200) * x2) + (gA h 255 (ix x2))) 3200 <|
  gd x2 16 <|
  gd x2 16 <|
  cK (E d 99 [.ref 189, .int x1, .int (nI 0), .int x2, .int (-1)] (sA (sA h 254 (ix (((nI 200) * x2) + (gA h 255 (ix x2)))) x1) 255 (ix x2) ((gA h 255 (ix x2)) + (nI 1)))) (Q d 98 36 [some (.ref 189), some (.int x1), some (.int x2)]) []) := by
  rw [← hs.1]
  exact entL (l := [some (.ref 189), some (.int x1), some (.int x2)]) rfl rfl ((blkM (fun p => Nat.beq p 36) 27 0 _ _ _).trans rfl)

set_option maxRecDepth 16384 in
theorem t_98_36 {d : Nat} {h : AH} (hs : Sh h) (u0 : Option Value) (u1 : Option Value) (u2 : Option Value) :
    Q d 98 36 [u0, u1, u2] [] h =
  some (none, h) := by
  rw [← hs.1]
  exact (blkM (fun p => false) 2 36 _ _ _).trans rfl

/-! 99 PostRoomModel.comes(IIII)V -/
set_option maxRecDepth 16384 in
theorem t_99 {d : Nat} {h : AH} (hs : Sh h) (x1 : Int32) (x2 : Int32) (x3 : Int32) (x4 : Int32) :
    E (d + 1) 99 [.ref 189, .int x1, .int x2, .int x3, .int x4] h =
  (gd x1 200 <|
  gd x1 200 <|
  gd x1 200 <|
  gd x1 200 <|
  some (none, sA (sA (sA (sA h 248 (ix x1) x2) 249 (ix x1) x3) 250 (ix x1) x4) 253 (ix x1) (gI h 3677 189))) := by
  rw [← hs.1]
  exact entL (l := [some (.ref 189), some (.int x1), some (.int x2), some (.int x3), some (.int x4)]) rfl rfl ((blkM (fun p => false) 23 0 _ _ _).trans rfl)

/-! 100 PostRoomModel.note(III)V -/
set_option maxRecDepth 16384 in
theorem t_100 {d : Nat} {h : AH} (hs : Sh h) (x1 : Int32) (x2 : Int32) (x3 : Int32) :
    E (d + 1) 100 [.ref 189, .int x1, .int x2, .int x3] h =
  cK (E d 101 [.ref 189, .int x1] h) (Q d 100 5 [some (.ref 189), some (.int x1), some (.int x2), some (.int x3)]) [] := by
  rw [← hs.1]
  exact entL (l := [some (.ref 189), some (.int x1), some (.int x2), some (.int x3)]) rfl rfl ((blkM (fun p => Nat.beq p 5) 4 0 _ _ _).trans rfl)

set_option maxRecDepth 16384 in
theorem t_100_5 {d : Nat} {h : AH} (hs : Sh h) (x1 : Int32) (x2 : Int32) (x3 : Int32) (s0 : Int32) :
    Q d 100 5 [some (.ref 189), some (.int x1), some (.int x2), some (.int x3)] [.int s0] h =
  if s0 = nI 2 then
   dZ 65521 <|
   some (none, sI h 3678 189 (((((((33 * ((gI h 3678 189).toInt64)) + x1.toInt64) + (8 * x2.toInt64)) + (64 * x3.toInt64)) + ((gI h 3677 189).toInt64)) - (((((33 * ((gI h 3678 189).toInt64)) + x1.toInt64) + (8 * x2.toInt64)) + (64 * x3.toInt64)) + ((gI h 3677 189).toInt64)) / 65521 * 65521).toInt32))
  else
   some (none, h) := by
  rw [← hs.1]
  exact (blkM (fun p => false) 31 5 _ _ _).trans rfl

/-! 101 PostRoomModel.sortOf(I)I -/
set_option maxRecDepth 16384 in
theorem t_101 {d : Nat} {h : AH} (hs : Sh h) (x1 : Int32) :
    E (d + 1) 101 [.ref 189, .int x1] h =
  (gd x1 200 <|
  gd (((nI 8) * (gI h 3597 189)) + (gA h 242 (ix x1))) 16 <|
  some (some (.int (gA h 218 (ix (((nI 8) * (gI h 3597 189)) + (gA h 242 (ix x1)))))), h)) := by
  rw [← hs.1]
  exact entL (l := [some (.ref 189), some (.int x1)]) rfl rfl ((blkM (fun p => false) 14 0 _ _ _).trans rfl)

/-! 102 PostRoomModel.tick(I)I -/
set_option maxRecDepth 16384 in
theorem t_102 {d : Nat} {h : AH} (hs : Sh h) (x1 : Int32) :
    E (d + 1) 102 [.ref 189, .int x1] h =
  if x1 < nI 0 then
   some (some (.int (-1)), sI h 3586 189 (nI 0))
  else
   if (nI 3000) < x1 then
    some (some (.int (-1)), sI h 3586 189 (nI 0))
   else
    Q d 102 20 [some (.ref 189), some (.int x1), some (.int (nI 0)), none] [] (sI h 3586 189 (nI 0)) := by
  rw [← hs.1]
  exact entL (l := [some (.ref 189), some (.int x1), none, none]) rfl rfl ((blkM (fun p => Nat.beq p 20) 12 0 _ _ _).trans rfl)

set_option maxRecDepth 16384 in
theorem t_102_20 {d : Nat} {h : AH} (hs : Sh h) (x1 : Int32) (x2 : Int32) :
    Q d 102 20 [some (.ref 189), some (.int x1), some (.int x2), none] [] h =
  if x2 < x1 then
   cK (E d 103 [.ref 189] (sI h 3677 189 ((gI h 3677 189) + (nI 1)))) (Q d 102 39 [some (.ref 189), some (.int x1), some (.int x2), none]) []
  else
   some (some (.int (gI h 3677 189)), h) := by
  rw [← hs.1]
  exact (blkM (fun p => Nat.beq p 39) 12 20 _ _ _).trans rfl

set_option maxRecDepth 16384 in
theorem t_102_39 {d : Nat} {h : AH} (hs : Sh h) (x1 : Int32) (x2 : Int32) (u3 : Option Value) :
    Q d 102 39 [some (.ref 189), some (.int x1), some (.int x2), u3] [] h =
  Q d 102 41 [some (.ref 189), some (.int x1), some (.int x2), some (.int (nI 0))] [] h := by
  rw [← hs.1]
  exact (blkM (fun p => Nat.beq p 41) 4 39 _ _ _).trans rfl

set_option maxRecDepth 16384 in
theorem t_102_41 {d : Nat} {h : AH} (hs : Sh h) (x1 : Int32) (x2 : Int32) (x3 : Int32) :
    Q d 102 41 [some (.ref 189), some (.int x1), some (.int x2), some (.int x3)] [] h =
  (gd (gI h 3597 189) 2 <|
  if x3 < gA h 225 (ix (gI h 3597 189)) then
   gd x3 40 <|
   if (nI 0) < gA h 257 (ix x3) then
    cK (E d 104 [.ref 189, .int x3, .int ((gI h 3677 189) - (nI 1))] h) (Q d 102 74 [some (.ref 189), some (.int x1), some (.int x2), some (.int x3)]) []
   else
    Q d 102 86 [some (.ref 189), some (.int x1), some (.int x2), some (.int x3)] [] h
  else
   Q d 102 20 [some (.ref 189), some (.int x1), some (.int (x2 + nI 1)), none] [] h) := by
  rw [← hs.1]
  exact (blkM (fun p => Nat.beq p 20 || Nat.beq p 74 || Nat.beq p 86) 20 41 _ _ _).trans rfl

set_option maxRecDepth 16384 in
theorem t_102_74 {d : Nat} {h : AH} (hs : Sh h) (x1 : Int32) (x2 : Int32) (x3 : Int32) (s0 : Int32) :
    Q d 102 74 [some (.ref 189), some (.int x1), some (.int x2), some (.int x3)] [.int s0] h =
  if s0 = gI h 3677 189 then
   cK (E d 105 [.ref 189, .int x3] h) (Q d 102 86 [some (.ref 189), some (.int x1), some (.int x2), some (.int x3)]) []
  else
   Q d 102 86 [some (.ref 189), some (.int x1), some (.int x2), some (.int x3)] [] h := by
  rw [← hs.1]
  exact (blkM (fun p => Nat.beq p 86) 7 74 _ _ _).trans rfl

set_option maxRecDepth 16384 in
theorem t_102_86 {d : Nat} {h : AH} (hs : Sh h) (x1 : Int32) (x2 : Int32) (x3 : Int32) :
    Q d 102 86 [some (.ref 189), some (.int x1), some (.int x2), some (.int x3)] [] h =
  Q d 102 41 [some (.ref 189), some (.int x1), some (.int x2), some (.int (x3 + nI 1))] [] h := by
  rw [← hs.1]
  exact (blkM (fun p => Nat.beq p 41) 4 86 _ _ _).trans rfl

/-! 103 PostRoomModel.arrive()V -/
set_option maxRecDepth 16384 in
theorem t_103 {d : Nat} {h : AH} (hs : Sh h)  :
    E (d + 1) 103 [.ref 189] h =
  Q d 103 4 [some (.ref 189), some (.int (nI 0)), some (.int (nI 0)), none, none] [] h := by
  rw [← hs.1]
  exact entL (l := [some (.ref 189), none, none, none, none]) rfl rfl ((blkM (fun p => Nat.beq p 4) 6 0 _ _ _).trans rfl)

set_option maxRecDepth 16384 in
theorem t_103_4 {d : Nat} {h : AH} (hs : Sh h) (x1 : Int32) (x2 : Int32) :
    Q d 103 4 [some (.ref 189), some (.int x1), some (.int x2), none, none] [] h =
  if x2 < gI h 3676 189 then
   gd x2 200 <|
   if gA h 261 (ix x2) = gI h 3677 189 then
    gd x2 200 <|
    gd (((nI 40) * (gI h 3597 189)) + (gA h 260 (ix x2))) 80 <|
    Q d 103 48 [some (.ref 189), some (.int x1), some (.int x2), some (.int (gA h 227 (ix (((nI 40) * (gI h 3597 189)) + (gA h 260 (ix x2)))))), some (.int (nI 0))] [] h
   else
    Q d 103 105 [some (.ref 189), some (.int x1), some (.int x2), some (.int (nI 0)), none] [] h
  else
   some (none, sI h 3676 189 x1) := by
  rw [← hs.1]
  exact (blkM (fun p => Nat.beq p 48 || Nat.beq p 105) 28 4 _ _ _).trans rfl

set_option maxRecDepth 16384 in
theorem t_103_48 {d : Nat} {h : AH} (hs : Sh h) (x1 : Int32) (x2 : Int32) (x3 : Int32) (x4 : Int32) :
    Q d 103 48 [some (.ref 189), some (.int x1), some (.int x2), some (.int x3), some (.int x4)] [] h =
  (gd x2 200 <|
  if x4 < gA h 259 (ix x2) then
   gd (((nI 20) * x2) + x4) 4000 <|
   cK (E d 98 [.ref 189, .int (gA h 258 (ix (((nI 20) * x2) + x4))), .int x3] h) (Q d 103 76 [some (.ref 189), some (.int x1), some (.int x2), some (.int x3), some (.int x4)]) []
  else
   Q d 103 4 [some (.ref 189), some (.int x1), some (.int (x2 + nI 1)), none, none] [] h) := by
  rw [← hs.1]
  exact (blkM (fun p => Nat.beq p 4 || Nat.beq p 76) 18 48 _ _ _).trans rfl

set_option maxRecDepth 16384 in
theorem t_103_105 {d : Nat} {h : AH} (hs : Sh h) (x1 : Int32) (x2 : Int32) (x3 : Int32) :
    Q d 103 105 [some (.ref 189), some (.int x1), some (.int x2), some (.int x3), none] [] h =
  (gd x2 200 <|
  if x3 < gA h 259 (ix x2) then
   gd (((nI 20) * x2) + x3) 4000 <|
   gd (((nI 20) * x1) + x3) 4000 <|
   Q d 103 105 [some (.ref 189), some (.int x1), some (.int x2), some (.int (x3 + nI 1)), none] [] (sA h 258 (ix (((nI 20) * x1) + x3)) (gA h 258 (ix (((nI 20) * x2) + x3))))
  else
   gd x2 200 <|
   gd x1 200 <|
   gd x2 200 <|
   gd x1 200 <|
   gd x2 200 <|
   gd x1 200 <|
   Q d 103 4 [some (.ref 189), some (.int (x1 + nI 1)), some (.int (x2 + nI 1)), none, none] [] (sA (sA (sA h 259 (ix x1) (gA h 259 (ix x2))) 260 (ix x1) (gA h 260 (ix x2))) 261 (ix x1) (gA h 261 (ix x2)))) := by
  rw [← hs.1]
  exact (blkM (fun p => Nat.beq p 4 || Nat.beq p 105) 35 105 _ _ _).trans rfl

set_option maxRecDepth 16384 in
theorem t_103_76 {d : Nat} {h : AH} (hs : Sh h) (x1 : Int32) (x2 : Int32) (x3 : Int32) (x4 : Int32) :
    Q d 103 76 [some (.ref 189), some (.int x1), some (.int x2), some (.int x3), some (.int x4)] [] h =
  (gd (((nI 20) * x2) + x4) 4000 <|
  cK (E d 100 [.ref 189, .int (gA h 258 (ix (((nI 20) * x2) + x4))), .int (nI 3), .int x3] h) (Q d 103 94 [some (.ref 189), some (.int x1), some (.int x2), some (.int x3), some (.int x4)]) []) := by
  rw [← hs.1]
  exact (blkM (fun p => Nat.beq p 94) 13 76 _ _ _).trans rfl

set_option maxRecDepth 16384 in
theorem t_103_94 {d : Nat} {h : AH} (hs : Sh h) (x1 : Int32) (x2 : Int32) (x3 : Int32) (x4 : Int32) :
    Q d 103 94 [some (.ref 189), some (.int x1), some (.int x2), some (.int x3), some (.int x4)] [] h =
  Q d 103 48 [some (.ref 189), some (.int x1), some (.int x2), some (.int x3), some (.int (x4 + nI 1))] [] h := by
  rw [← hs.1]
  exact (blkM (fun p => Nat.beq p 48) 4 94 _ _ _).trans rfl

/-! 104 PostRoomModel.goes(II)I -/
set_option maxRecDepth 16384 in
theorem t_104 {d : Nat} {h : AH} (hs : Sh h) (x1 : Int32) (x2 : Int32) :
    E (d + 1) 104 [.ref 189, .int x1, .int x2] h =
  (dz (nI 1440) <|
  dz (nI 1440) <|
  gd (((nI 40) * (gI h 3597 189)) + x1) 80 <|
  if gA h 228 (ix (((nI 40) * (gI h 3597 189)) + x1)) < (x2 + (nI 1)) - (x2 + (nI 1)) / (nI 1440) * (nI 1440) then
   gd (((nI 40) * (gI h 3597 189)) + x1) 80 <|
   gd (((nI 40) * (gI h 3597 189)) + x1) 80 <|
   gd (((nI 40) * (gI h 3597 189)) + x1) 80 <|
   dz (gA h 229 (ix (((nI 40) * (gI h 3597 189)) + x1))) <|
   gd (((nI 40) * (gI h 3597 189)) + x1) 80 <|
   gd (((nI 40) * (gI h 3597 189)) + x1) 80 <|
   gd (((nI 40) * (gI h 3597 189)) + x1) 80 <|
   if gA h 230 (ix (((nI 40) * (gI h 3597 189)) + x1)) < (gA h 228 (ix (((nI 40) * (gI h 3597 189)) + x1))) + (((((((x2 + (nI 1)) - (x2 + (nI 1)) / (nI 1440) * (nI 1440)) - (gA h 228 (ix (((nI 40) * (gI h 3597 189)) + x1)))) + (gA h 229 (ix (((nI 40) * (gI h 3597 189)) + x1)))) - (nI 1)) / (gA h 229 (ix (((nI 40) * (gI h 3597 189)) + x1)))) * (gA h 229 (ix (((nI 40) * (gI h 3597 189)) + x1)))) then
    gd (((nI 40) * (gI h 3597 189)) + x1) 80 <|
    some (some (.int (((nI 1440) * (((x2 + (nI 1)) / (nI 1440)) + (nI 1))) + (gA h 228 (ix (((nI 40) * (gI h 3597 189)) + x1))))), h)
   else
    some (some (.int (((nI 1440) * ((x2 + (nI 1)) / (nI 1440))) + ((gA h 228 (ix (((nI 40) * (gI h 3597 189)) + x1))) + (((((((x2 + (nI 1)) - (x2 + (nI 1)) / (nI 1440) * (nI 1440)) - (gA h 228 (ix (((nI 40) * (gI h 3597 189)) + x1)))) + (gA h 229 (ix (((nI 40) * (gI h 3597 189)) + x1)))) - (nI 1)) / (gA h 229 (ix (((nI 40) * (gI h 3597 189)) + x1)))) * (gA h 229 (ix (((nI 40) * (gI h 3597 189)) + x1))))))), h)
  else
   gd (((nI 40) * (gI h 3597 189)) + x1) 80 <|
   some (some (.int (((nI 1440) * ((x2 + (nI 1)) / (nI 1440))) + (gA h 228 (ix (((nI 40) * (gI h 3597 189)) + x1))))), h)) := by
  rw [← hs.1]
  exact entL (l := [some (.ref 189), some (.int x1), some (.int x2), none, none, none, none, none]) rfl rfl ((blkM (fun p => false) 74 0 _ _ _).trans rfl)

/-! 105 PostRoomModel.depart(I)V -/
set_option maxRecDepth 16384 in
theorem t_105 {d : Nat} {h : AH} (hs : Sh h) (x1 : Int32) :
    E (d + 1) 105 [.ref 189, .int x1] h =
  (gd x1 40 <|
  gd (((nI 40) * (gI h 3597 189)) + x1) 80 <|
  cK (E d 78 [.int (gA h 257 (ix x1)), .int (gA h 232 (ix (((nI 40) * (gI h 3597 189)) + x1)))] h) (Q d 105 25 [some (.ref 189), some (.int x1), some (.int (((nI 40) * (gI h 3597 189)) + x1)), none, none, none]) []) := by
  rw [← hs.1]
  exact entL (l := [some (.ref 189), some (.int x1), none, none, none, none]) rfl rfl ((blkM (fun p => Nat.beq p 25) 17 0 _ _ _).trans rfl)

set_option maxRecDepth 16384 in
theorem t_105_25 {d : Nat} {h : AH} (hs : Sh h) (x1 : Int32) (x2 : Int32) (u3 : Option Value) (u4 : Option Value) (u5 : Option Value) (s0 : Int32) :
    Q d 105 25 [some (.ref 189), some (.int x1), some (.int x2), u3, u4, u5] [.int s0] h =
  Q d 105 29 [some (.ref 189), some (.int x1), some (.int x2), some (.int s0), some (.int (nI 0)), none] [] h := by
  rw [← hs.1]
  exact (blkM (fun p => Nat.beq p 29) 5 25 _ _ _).trans rfl

set_option maxRecDepth 16384 in
theorem t_105_29 {d : Nat} {h : AH} (hs : Sh h) (x1 : Int32) (x2 : Int32) (x3 : Int32) (x4 : Int32) :
    Q d 105 29 [some (.ref 189), some (.int x1), some (.int x2), some (.int x3), some (.int x4), none] [] h =
  if x4 < x3 then
   gd (((nI 200) * x1) + x4) 8000 <|
   gd (((nI 20) * (gI h 3676 189)) + x4) 4000 <|
   gd x2 80 <|
   cK (E d 99 [.ref 189, .int (gA h 256 (ix (((nI 200) * x1) + x4))), .int (nI 2), .int (gA h 227 (ix x2)), .int x1] (sA h 258 (ix (((nI 20) * (gI h 3676 189)) + x4)) (gA h 256 (ix (((nI 200) * x1) + x4))))) (Q d 105 81 [some (.ref 189), some (.int x1), some (.int x2), some (.int x3), some (.int x4), some (.int (gA h 256 (ix (((nI 200) * x1) + x4))))]) []
  else
   gd x1 40 <|
   gd x1 40 <|
   Q d 105 113 [some (.ref 189), some (.int x1), some (.int x2), some (.int x3), some (.int (nI 0)), none] [] (sA h 257 (ix x1) ((gA h 257 (ix x1)) - x3)) := by
  rw [← hs.1]
  exact (blkM (fun p => Nat.beq p 81 || Nat.beq p 113) 32 29 _ _ _).trans rfl

set_option maxRecDepth 16384 in
theorem t_105_81 {d : Nat} {h : AH} (hs : Sh h) (x1 : Int32) (x2 : Int32) (x3 : Int32) (x4 : Int32) (x5 : Int32) :
    Q d 105 81 [some (.ref 189), some (.int x1), some (.int x2), some (.int x3), some (.int x4), some (.int x5)] [] h =
  (gd x2 80 <|
  cK (E d 100 [.ref 189, .int x5, .int (nI 2), .int (gA h 226 (ix x2))] h) (Q d 105 94 [some (.ref 189), some (.int x1), some (.int x2), some (.int x3), some (.int x4), some (.int x5)]) []) := by
  rw [← hs.1]
  exact (blkM (fun p => Nat.beq p 94) 9 81 _ _ _).trans rfl

set_option maxRecDepth 16384 in
theorem t_105_113 {d : Nat} {h : AH} (hs : Sh h) (x1 : Int32) (x2 : Int32) (x3 : Int32) (x4 : Int32) :
    Q d 105 113 [some (.ref 189), some (.int x1), some (.int x2), some (.int x3), some (.int x4), none] [] h =
  (gd x1 40 <|
  if x4 < gA h 257 (ix x1) then
   gd ((((nI 200) * x1) + x3) + x4) 8000 <|
   gd (((nI 200) * x1) + x4) 8000 <|
   Q d 105 113 [some (.ref 189), some (.int x1), some (.int x2), some (.int x3), some (.int (x4 + nI 1)), none] [] (sA h 256 (ix (((nI 200) * x1) + x4)) (gA h 256 (ix ((((nI 200) * x1) + x3) + x4))))
  else
   gd (gI h 3676 189) 200 <|
   gd (gI h 3676 189) 200 <|
   gd x2 80 <|
   gd (gI h 3676 189) 200 <|
   some (none, sI (sA (sA (sA h 259 (ix (gI h 3676 189)) x3) 260 (ix (gI h 3676 189)) x1) 261 (ix (gI h 3676 189)) ((gI h 3677 189) + (gA h 231 (ix x2)))) 3676 189 ((gI h 3676 189) + (nI 1)))) := by
  rw [← hs.1]
  exact (blkM (fun p => Nat.beq p 113) 38 113 _ _ _).trans rfl

set_option maxRecDepth 16384 in
theorem t_105_94 {d : Nat} {h : AH} (hs : Sh h) (x1 : Int32) (x2 : Int32) (x3 : Int32) (x4 : Int32) (u5 : Option Value) :
    Q d 105 94 [some (.ref 189), some (.int x1), some (.int x2), some (.int x3), some (.int x4), u5] [] h =
  Q d 105 29 [some (.ref 189), some (.int x1), some (.int x2), some (.int x3), some (.int (x4 + nI 1)), none] [] h := by
  rw [← hs.1]
  exact (blkM (fun p => Nat.beq p 29) 4 94 _ _ _).trans rfl

/-! 106 PostRoomModel.way(II)I -/
set_option maxRecDepth 16384 in
theorem t_106 {d : Nat} {h : AH} (hs : Sh h) (x1 : Int32) (x2 : Int32) :
    E (d + 1) 106 [.ref 189, .int x1, .int x2] h =
  cK (E d 82 [.ref 189, .int x1] h) (Q d 106 6 [some (.ref 189), some (.int x1), some (.int x2)]) [.ref 189] := by
  rw [← hs.1]
  exact entL (l := [some (.ref 189), some (.int x1), some (.int x2)]) rfl rfl ((blkM (fun p => Nat.beq p 6) 5 0 _ _ _).trans rfl)

set_option maxRecDepth 16384 in
theorem t_106_6 {d : Nat} {h : AH} (hs : Sh h) (x1 : Int32) (x2 : Int32) (s0 : Nat) (s1 : Int32) :
    Q d 106 6 [some (.ref 189), some (.int x1), some (.int x2)] [.int s1, .ref s0] h =
  if s1 = nI 0 then
   ck (gC h s0) 14 <|
   if (nI 0) < gI (sI h 3586 s0 (nI 1)) 3586 189 then
    some (some (.int (nI 0)), sI h 3586 s0 (nI 1))
   else
    if x1 = x2 then
     some (some (.int (-1)), sI h 3586 s0 (nI 1))
    else
     cK (E d 107 [.ref 189, .int x1] (sI h 3586 s0 (nI 1))) (Q d 106 46 [some (.ref 189), some (.int x1), some (.int x2)]) []
  else
   cK (E d 82 [.ref 189, .int x2] h) (Q d 106 14 [some (.ref 189), some (.int x1), some (.int x2)]) [.ref s0] := by
  rw [← hs.1]
  exact (blkM (fun p => Nat.beq p 14 || Nat.beq p 46) 13 6 _ _ _).trans rfl

set_option maxRecDepth 16384 in
theorem t_106_14 {d : Nat} {h : AH} (hs : Sh h) (x1 : Int32) (x2 : Int32) (s0 : Nat) (s1 : Int32) :
    Q d 106 14 [some (.ref 189), some (.int x1), some (.int x2)] [.int s1, .ref s0] h =
  if s1 = nI 0 then
   ck (gC h s0) 14 <|
   if (nI 0) < gI (sI h 3586 s0 (nI 1)) 3586 189 then
    some (some (.int (nI 0)), sI h 3586 s0 (nI 1))
   else
    if x1 = x2 then
     some (some (.int (-1)), sI h 3586 s0 (nI 1))
    else
     cK (E d 107 [.ref 189, .int x1] (sI h 3586 s0 (nI 1))) (Q d 106 46 [some (.ref 189), some (.int x1), some (.int x2)]) []
  else
   ck (gC h s0) 14 <|
   if (nI 0) < gI (sI h 3586 s0 (nI 0)) 3586 189 then
    some (some (.int (nI 0)), sI h 3586 s0 (nI 0))
   else
    if x1 = x2 then
     some (some (.int (-1)), sI h 3586 s0 (nI 0))
    else
     cK (E d 107 [.ref 189, .int x1] (sI h 3586 s0 (nI 0))) (Q d 106 46 [some (.ref 189), some (.int x1), some (.int x2)]) [] := by
  rw [← hs.1]
  exact (blkM (fun p => Nat.beq p 46) 14 14 _ _ _).trans rfl

set_option maxRecDepth 16384 in
theorem t_106_46 {d : Nat} {h : AH} (hs : Sh h) (x2 : Int32) (u1 : Option Value) :
    Q d 106 46 [some (.ref 189), u1, some (.int x2)] [] h =
  (gd x2 16 <|
  if gA h 262 (ix x2) < nI 0 then
   some (some (.int (-1)), h)
  else
   gd x2 16 <|
   some (some (.int (gA h 263 (ix x2))), h)) := by
  rw [← hs.1]
  exact (blkM (fun p => false) 11 46 _ _ _).trans rfl

/-! 107 PostRoomModel.findWays(I)V -/
set_option maxRecDepth 16384 in
theorem t_107 {d : Nat} {h : AH} (hs : Sh h) (x1 : Int32) :
    E (d + 1) 107 [.ref 189, .int x1] h =
  if gI h 3679 189 = x1 then
   if gI h 3680 189 = gI h 3677 189 then
    some (none, h)
   else
    Q d 107 35 [some (.ref 189), some (.int x1), some (.int (nI 0)), none] [] (sI (sI h 3679 189 x1) 3680 189 (gI h 3677 189))
  else
   Q d 107 35 [some (.ref 189), some (.int x1), some (.int (nI 0)), none] [] (sI (sI h 3679 189 x1) 3680 189 (gI h 3677 189)) := by
  rw [← hs.1]
  exact entL (l := [some (.ref 189), some (.int x1), none, none]) rfl rfl ((blkM (fun p => Nat.beq p 35) 20 0 _ _ _).trans rfl)

set_option maxRecDepth 16384 in
theorem t_107_35 {d : Nat} {h : AH} (hs : Sh h) (x1 : Int32) (x2 : Int32) :
    Q d 107 35 [some (.ref 189), some (.int x1), some (.int x2), none] [] h =
  if x2 < nI 16 then
   gd x2 16 <|
   gd x2 16 <|
   Q d 107 35 [some (.ref 189), some (.int x1), some (.int (x2 + nI 1)), none] [] (sA (sA h 262 (ix x2) (-1)) 263 (ix x2) ((gI h 3677 189) + (nI 20161)))
  else
   Q d 107 70 [some (.ref 189), some (.int x1), some (.int (nI 0)), none] [] h := by
  rw [← hs.1]
  exact (blkM (fun p => Nat.beq p 35 || Nat.beq p 70) 20 35 _ _ _).trans rfl

set_option maxRecDepth 16384 in
theorem t_107_70 {d : Nat} {h : AH} (hs : Sh h) (x1 : Int32) (x2 : Int32) :
    Q d 107 70 [some (.ref 189), some (.int x1), some (.int x2), none] [] h =
  (gd (gI h 3597 189) 2 <|
  if x2 < gA h 225 (ix (gI h 3597 189)) then
   gd (((nI 40) * (gI h 3597 189)) + x2) 80 <|
   if gA h 226 (ix (((nI 40) * (gI h 3597 189)) + x2)) = x1 then
    cK (E d 108 [.ref 189, .int x2] h) (Q d 107 109 [some (.ref 189), some (.int x1), some (.int x2), none]) []
   else
    Q d 107 70 [some (.ref 189), some (.int x1), some (.int (x2 + nI 1)), none] [] h
  else
   some (none, h)) := by
  rw [← hs.1]
  exact (blkM (fun p => Nat.beq p 70 || Nat.beq p 109) 23 70 _ _ _).trans rfl

set_option maxRecDepth 16384 in
theorem t_107_109 {d : Nat} {h : AH} (hs : Sh h) (x1 : Int32) (x2 : Int32) (u3 : Option Value) :
    Q d 107 109 [some (.ref 189), some (.int x1), some (.int x2), u3] [] h =
  Q d 107 111 [some (.ref 189), some (.int x1), some (.int x2), some (.int (nI 0))] [] h := by
  rw [← hs.1]
  exact (blkM (fun p => Nat.beq p 111) 4 109 _ _ _).trans rfl

set_option maxRecDepth 16384 in
theorem t_107_111 {d : Nat} {h : AH} (hs : Sh h) (x1 : Int32) (x2 : Int32) (x3 : Int32) :
    Q d 107 111 [some (.ref 189), some (.int x1), some (.int x2), some (.int x3)] [] h =
  (gd (gI h 3597 189) 2 <|
  if x3 < gA h 197 (ix (gI h 3597 189)) then
   if x3 = x1 then
    Q d 107 111 [some (.ref 189), some (.int x1), some (.int x2), some (.int (x3 + nI 1))] [] h
   else
    gd x3 16 <|
    gd x3 16 <|
    if gA h 264 (ix x3) < gA h 263 (ix x3) then
     gd x3 16 <|
     gd x3 16 <|
     gd x3 16 <|
     Q d 107 111 [some (.ref 189), some (.int x1), some (.int x2), some (.int (x3 + nI 1))] [] (sA (sA h 263 (ix x3) (gA h 264 (ix x3))) 262 (ix x3) x2)
    else
     Q d 107 111 [some (.ref 189), some (.int x1), some (.int x2), some (.int (x3 + nI 1))] [] h
  else
   Q d 107 70 [some (.ref 189), some (.int x1), some (.int (x2 + nI 1)), none] [] h) := by
  rw [← hs.1]
  exact (blkM (fun p => Nat.beq p 70 || Nat.beq p 111) 36 111 _ _ _).trans rfl

/-! 108 PostRoomModel.goOn(I)V -/
set_option maxRecDepth 16384 in
theorem t_108 {d : Nat} {h : AH} (hs : Sh h) (x1 : Int32) :
    E (d + 1) 108 [.ref 189, .int x1] h =
  Q d 108 2 [some (.ref 189), some (.int x1), some (.int (nI 0)), none, none, none] [] h := by
  rw [← hs.1]
  exact entL (l := [some (.ref 189), some (.int x1), none, none, none, none]) rfl rfl ((blkM (fun p => Nat.beq p 2) 4 0 _ _ _).trans rfl)

set_option maxRecDepth 16384 in
theorem t_108_2 {d : Nat} {h : AH} (hs : Sh h) (x1 : Int32) (x2 : Int32) :
    Q d 108 2 [some (.ref 189), some (.int x1), some (.int x2), none, none, none] [] h =
  if x2 < nI 16 then
   gd x2 16 <|
   Q d 108 2 [some (.ref 189), some (.int x1), some (.int (x2 + nI 1)), none, none, none] [] (sA h 264 (ix x2) (nI 2000000000))
  else
   gd (((nI 40) * (gI h 3597 189)) + x1) 80 <|
   cK (E d 104 [.ref 189, .int x1, .int (gI h 3677 189)] h) (Q d 108 50 [some (.ref 189), some (.int x1), some (.int x2), none, none, none]) [.int (gA h 227 (ix (((nI 40) * (gI h 3597 189)) + x1))), .ref 264] := by
  rw [← hs.1]
  exact (blkM (fun p => Nat.beq p 2 || Nat.beq p 50) 20 2 _ _ _).trans rfl

set_option maxRecDepth 16384 in
theorem t_108_50 {d : Nat} {h : AH} (hs : Sh h) (x1 : Int32) (u2 : Option Value) (u3 : Option Value) (u4 : Option Value) (u5 : Option Value) (s0 : Nat) (s1 : Int32) (s2 : Int32) :
    Q d 108 50 [some (.ref 189), some (.int x1), u2, u3, u4, u5] [.int s2, .int s1, .ref s0] h =
  (gd (((nI 40) * (gI h 3597 189)) + x1) 80 <|
  cw (gC h s0) 60 s0 <|
  gd s1 (gK h s0) <|
  Q d 108 68 [some (.ref 189), none, some (.int (nI 1)), none, none, none] [] (sA h s0 (ix s1) (s2 + (gA h 231 (ix (((nI 40) * (gI h 3597 189)) + x1)))))) := by
  rw [← hs.1]
  exact (blkM (fun p => Nat.beq p 68) 15 50 _ _ _).trans rfl

set_option maxRecDepth 16384 in
theorem t_108_68 {d : Nat} {h : AH} (hs : Sh h) (x2 : Int32) :
    Q d 108 68 [some (.ref 189), none, some (.int x2), none, none, none] [] h =
  if x2 = nI 0 then
   some (none, h)
  else
   Q d 108 76 [some (.ref 189), none, some (.int (nI 0)), some (.int (nI 0)), none, none] [] h := by
  rw [← hs.1]
  exact (blkM (fun p => Nat.beq p 76) 8 68 _ _ _).trans rfl

set_option maxRecDepth 16384 in
theorem t_108_76 {d : Nat} {h : AH} (hs : Sh h) (x2 : Int32) (x3 : Int32) :
    Q d 108 76 [some (.ref 189), none, some (.int x2), some (.int x3), none, none] [] h =
  (gd (gI h 3597 189) 2 <|
  if x3 < gA h 225 (ix (gI h 3597 189)) then
   gd (((nI 40) * (gI h 3597 189)) + x3) 80 <|
   gd (gA h 226 (ix (((nI 40) * (gI h 3597 189)) + x3))) 16 <|
   if gA h 264 (ix (gA h 226 (ix (((nI 40) * (gI h 3597 189)) + x3)))) = nI 2000000000 then
    Q d 108 76 [some (.ref 189), none, some (.int x2), some (.int (x3 + nI 1)), none, none] [] h
   else
    gd (((nI 40) * (gI h 3597 189)) + x3) 80 <|
    gd (gA h 226 (ix (((nI 40) * (gI h 3597 189)) + x3))) 16 <|
    cK (E d 104 [.ref 189, .int x3, .int (gA h 264 (ix (gA h 226 (ix (((nI 40) * (gI h 3597 189)) + x3)))))] h) (Q d 108 138 [some (.ref 189), none, some (.int x2), some (.int x3), some (.int (((nI 40) * (gI h 3597 189)) + x3)), none]) []
  else
   Q d 108 68 [some (.ref 189), none, some (.int x2), none, none, none] [] h) := by
  rw [← hs.1]
  exact (blkM (fun p => Nat.beq p 68 || Nat.beq p 76 || Nat.beq p 138) 34 76 _ _ _).trans rfl

set_option maxRecDepth 16384 in
theorem t_108_138 {d : Nat} {h : AH} (hs : Sh h) (x2 : Int32) (x3 : Int32) (x4 : Int32) (u1 : Option Value) (u5 : Option Value) (s0 : Int32) :
    Q d 108 138 [some (.ref 189), u1, some (.int x2), some (.int x3), some (.int x4), u5] [.int s0] h =
  (gd x4 80 <|
  gd x4 80 <|
  gd (gA h 227 (ix x4)) 16 <|
  if s0 + (gA h 231 (ix x4)) < gA h 264 (ix (gA h 227 (ix x4))) then
   gd x4 80 <|
   gd (gA h 227 (ix x4)) 16 <|
   Q d 108 76 [some (.ref 189), none, some (.int (nI 1)), some (.int (x3 + nI 1)), none, none] [] (sA h 264 (ix (gA h 227 (ix x4))) (s0 + (gA h 231 (ix x4))))
  else
   Q d 108 76 [some (.ref 189), none, some (.int x2), some (.int (x3 + nI 1)), none, none] [] h) := by
  rw [← hs.1]
  exact (blkM (fun p => Nat.beq p 76) 29 138 _ _ _).trans rfl

/-! 109 PostRoomModel.sort(I)I -/
set_option maxRecDepth 16384 in
theorem t_109 {d : Nat} {h : AH} (hs : Sh h) (x1 : Int32) :
    E (d + 1) 109 [.ref 189, .int x1] h =
  cK (E d 82 [.ref 189, .int x1] (sI h 3586 189 (nI 0))) (Q d 109 10 [some (.ref 189), some (.int x1), none, none, none, none]) [] := by
  rw [← hs.1]
  exact entL (l := [some (.ref 189), some (.int x1), none, none, none, none]) rfl rfl ((blkM (fun p => Nat.beq p 10) 7 0 _ _ _).trans rfl)

set_option maxRecDepth 16384 in
theorem t_109_10 {d : Nat} {h : AH} (hs : Sh h) (x1 : Int32) (u2 : Option Value) (u3 : Option Value) (u4 : Option Value) (u5 : Option Value) (s0 : Int32) :
    Q d 109 10 [some (.ref 189), some (.int x1), u2, u3, u4, u5] [.int s0] h =
  if s0 = nI 0 then
   some (some (.int (-1)), h)
  else
   cK (E d 107 [.ref 189, .int x1] h) (Q d 109 20 [some (.ref 189), some (.int x1), u2, u3, u4, u5]) [] := by
  rw [← hs.1]
  exact (blkM (fun p => Nat.beq p 20) 5 10 _ _ _).trans rfl

set_option maxRecDepth 16384 in
theorem t_109_20 {d : Nat} {h : AH} (hs : Sh h) (x1 : Int32) (u2 : Option Value) (u3 : Option Value) (u4 : Option Value) (u5 : Option Value) :
    Q d 109 20 [some (.ref 189), some (.int x1), u2, u3, u4, u5] [] h =
  Q d 109 24 [some (.ref 189), some (.int x1), some (.int (nI 0)), some (.int (nI 0)), none, none] [] h := by
  rw [← hs.1]
  exact (blkM (fun p => Nat.beq p 24) 6 20 _ _ _).trans rfl

set_option maxRecDepth 16384 in
theorem t_109_24 {d : Nat} {h : AH} (hs : Sh h) (x1 : Int32) (x2 : Int32) (x3 : Int32) :
    Q d 109 24 [some (.ref 189), some (.int x1), some (.int x2), some (.int x3), none, none] [] h =
  (gd x1 16 <|
  if x3 < gA h 255 (ix x1) then
   gd (((nI 200) * x1) + x3) 3200 <|
   cK (E d 110 [.ref 189, .int (gA h 254 (ix (((nI 200) * x1) + x3)))] h) (Q d 109 54 [some (.ref 189), some (.int x1), some (.int x2), some (.int x3), some (.int (gA h 254 (ix (((nI 200) * x1) + x3)))), none]) []
  else
   some (some (.int x2), h)) := by
  rw [← hs.1]
  exact (blkM (fun p => Nat.beq p 54) 19 24 _ _ _).trans rfl

set_option maxRecDepth 16384 in
theorem t_109_54 {d : Nat} {h : AH} (hs : Sh h) (x1 : Int32) (x2 : Int32) (x3 : Int32) (x4 : Int32) (u5 : Option Value) (s0 : Int32) :
    Q d 109 54 [some (.ref 189), some (.int x1), some (.int x2), some (.int x3), some (.int x4), u5] [.int s0] h =
  if s0 = x1 then
   Q d 109 24 [some (.ref 189), some (.int x1), some (.int x2), some (.int (x3 + nI 1)), none, none] [] h
  else
   gd s0 16 <|
   if gA h 262 (ix s0) < nI 0 then
    Q d 109 24 [some (.ref 189), some (.int x1), some (.int x2), some (.int (x3 + nI 1)), none, none] [] h
   else
    gd s0 16 <|
    cK (E d 111 [.ref 189, .int x4, .int (gA h 262 (ix s0))] h) (Q d 109 85 [some (.ref 189), some (.int x1), some (.int x2), some (.int x3), some (.int x4), some (.int s0)]) [] := by
  rw [← hs.1]
  exact (blkM (fun p => Nat.beq p 24 || Nat.beq p 85) 17 54 _ _ _).trans rfl

set_option maxRecDepth 16384 in
theorem t_109_85 {d : Nat} {h : AH} (hs : Sh h) (x1 : Int32) (x2 : Int32) (x3 : Int32) (u4 : Option Value) (u5 : Option Value) :
    Q d 109 85 [some (.ref 189), some (.int x1), some (.int x2), some (.int x3), u4, u5] [] h =
  Q d 109 24 [some (.ref 189), some (.int x1), some (.int (x2 + nI 1)), some (.int x3), none, none] [] h := by
  rw [← hs.1]
  exact (blkM (fun p => Nat.beq p 24) 5 85 _ _ _).trans rfl

/-! 110 PostRoomModel.goesTo(I)I -/
set_option maxRecDepth 16384 in
theorem t_110 {d : Nat} {h : AH} (hs : Sh h) (x1 : Int32) :
    E (d + 1) 110 [.ref 189, .int x1] h =
  (gd x1 200 <|
  if gA h 246 (ix x1) < nI 0 then
   gd x1 200 <|
   some (some (.int (gA h 244 (ix x1))), h)
  else
   gd x1 200 <|
   gd (((nI 60) * (gI h 3597 189)) + (gA h 246 (ix x1))) 120 <|
   some (some (.int (gA h 208 (ix (((nI 60) * (gI h 3597 189)) + (gA h 246 (ix x1)))))), h)) := by
  rw [← hs.1]
  exact entL (l := [some (.ref 189), some (.int x1)]) rfl rfl ((blkM (fun p => false) 19 0 _ _ _).trans rfl)

/-! 111 PostRoomModel.intoBag(II)V -/
set_option maxRecDepth 16384 in
theorem t_111 {d : Nat} {h : AH} (hs : Sh h) (x1 : Int32) (x2 : Int32) :
    E (d + 1) 111 [.ref 189, .int x1, .int x2] h =
  (gd (((nI 40) * (gI h 3597 189)) + x2) 80 <|
  cK (E d 112 [.ref 189, .int (gA h 226 (ix (((nI 40) * (gI h 3597 189)) + x2))), .int x1] h) (Q d 111 21 [some (.ref 189), some (.int x1), some (.int x2), some (.int (gA h 226 (ix (((nI 40) * (gI h 3597 189)) + x2))))]) []) := by
  rw [← hs.1]
  exact entL (l := [some (.ref 189), some (.int x1), some (.int x2), none]) rfl rfl ((blkM (fun p => Nat.beq p 21) 15 0 _ _ _).trans rfl)

set_option maxRecDepth 16384 in
theorem t_111_21 {d : Nat} {h : AH} (hs : Sh h) (x1 : Int32) (x2 : Int32) (x3 : Int32) :
    Q d 111 21 [some (.ref 189), some (.int x1), some (.int x2), some (.int x3)] [] h =
  (gd x2 40 <|
  gd (((nI 200) * x2) + (gA h 257 (ix x2))) 8000 <|
  gd x2 40 <|
  gd x2 40 <|
  cK (E d 99 [.ref 189, .int x1, .int (nI 1), .int x3, .int x2] (sA (sA h 256 (ix (((nI 200) * x2) + (gA h 257 (ix x2)))) x1) 257 (ix x2) ((gA h 257 (ix x2)) + (nI 1)))) (Q d 111 57 [some (.ref 189), some (.int x1), some (.int x2), some (.int x3)]) []) := by
  rw [← hs.1]
  exact (blkM (fun p => Nat.beq p 57) 27 21 _ _ _).trans rfl

set_option maxRecDepth 16384 in
theorem t_111_57 {d : Nat} {h : AH} (hs : Sh h) (x1 : Int32) (x3 : Int32) (u2 : Option Value) :
    Q d 111 57 [some (.ref 189), some (.int x1), u2, some (.int x3)] [] h =
  cK (E d 100 [.ref 189, .int x1, .int (nI 1), .int x3] h) (Q d 111 64 [some (.ref 189), some (.int x1), u2, some (.int x3)]) [] := by
  rw [← hs.1]
  exact (blkM (fun p => Nat.beq p 64) 6 57 _ _ _).trans rfl

set_option maxRecDepth 16384 in
theorem t_111_64 {d : Nat} {h : AH} (hs : Sh h) (u0 : Option Value) (u1 : Option Value) (u2 : Option Value) (u3 : Option Value) :
    Q d 111 64 [u0, u1, u2, u3] [] h =
  some (none, h) := by
  rw [← hs.1]
  exact (blkM (fun p => false) 2 64 _ _ _).trans rfl

/-! 112 PostRoomModel.unshelve(II)V -/
set_option maxRecDepth 16384 in
theorem t_112 {d : Nat} {h : AH} (hs : Sh h) (x1 : Int32) (x2 : Int32) :
    E (d + 1) 112 [.ref 189, .int x1, .int x2] h =
  cK (E d 113 [.ref 189, .int x1, .int x2] h) (Q d 112 6 [some (.ref 189), some (.int x1), some (.int x2), none, none]) [] := by
  rw [← hs.1]
  exact entL (l := [some (.ref 189), some (.int x1), some (.int x2), none, none]) rfl rfl ((blkM (fun p => Nat.beq p 6) 5 0 _ _ _).trans rfl)

set_option maxRecDepth 16384 in
theorem t_112_6 {d : Nat} {h : AH} (hs : Sh h) (x1 : Int32) (u2 : Option Value) (u3 : Option Value) (u4 : Option Value) (s0 : Int32) :
    Q d 112 6 [some (.ref 189), some (.int x1), u2, u3, u4] [.int s0] h =
  (gd x1 16 <|
  gd x1 16 <|
  Q d 112 20 [some (.ref 189), some (.int x1), none, none, some (.int s0)] [] (sA h 255 (ix x1) ((gA h 255 (ix x1)) - (nI 1)))) := by
  rw [← hs.1]
  exact (blkM (fun p => Nat.beq p 20) 13 6 _ _ _).trans rfl

set_option maxRecDepth 16384 in
theorem t_112_20 {d : Nat} {h : AH} (hs : Sh h) (x1 : Int32) (x4 : Int32) :
    Q d 112 20 [some (.ref 189), some (.int x1), none, none, some (.int x4)] [] h =
  (gd x1 16 <|
  if x4 < gA h 255 (ix x1) then
   gd ((((nI 200) * x1) + x4) + (nI 1)) 3200 <|
   gd (((nI 200) * x1) + x4) 3200 <|
   Q d 112 20 [some (.ref 189), some (.int x1), none, none, some (.int (x4 + nI 1))] [] (sA h 254 (ix (((nI 200) * x1) + x4)) (gA h 254 (ix ((((nI 200) * x1) + x4) + (nI 1)))))
  else
   some (none, h)) := by
  rw [← hs.1]
  exact (blkM (fun p => Nat.beq p 20) 28 20 _ _ _).trans rfl

/-! 113 PostRoomModel.placeOn(II)I -/
set_option maxRecDepth 16384 in
theorem t_113 {d : Nat} {h : AH} (hs : Sh h) (x1 : Int32) (x2 : Int32) :
    E (d + 1) 113 [.ref 189, .int x1, .int x2] h =
  Q d 113 5 [some (.ref 189), some (.int x1), some (.int x2), some (.int (-1)), some (.int (nI 0))] [] h := by
  rw [← hs.1]
  exact entL (l := [some (.ref 189), some (.int x1), some (.int x2), none, none]) rfl rfl ((blkM (fun p => Nat.beq p 5) 6 0 _ _ _).trans rfl)

set_option maxRecDepth 16384 in
theorem t_113_5 {d : Nat} {h : AH} (hs : Sh h) (x1 : Int32) (x2 : Int32) (x3 : Int32) (x4 : Int32) :
    Q d 113 5 [some (.ref 189), some (.int x1), some (.int x2), some (.int x3), some (.int x4)] [] h =
  (gd x1 16 <|
  if x4 < gA h 255 (ix x1) then
   gd (((nI 200) * x1) + x4) 3200 <|
   if gA h 254 (ix (((nI 200) * x1) + x4)) = x2 then
    Q d 113 5 [some (.ref 189), some (.int x1), some (.int x2), some (.int x4), some (.int (x4 + nI 1))] [] h
   else
    Q d 113 5 [some (.ref 189), some (.int x1), some (.int x2), some (.int x3), some (.int (x4 + nI 1))] [] h
  else
   some (some (.int x3), h)) := by
  rw [← hs.1]
  exact (blkM (fun p => Nat.beq p 5) 23 5 _ _ _).trans rfl

/-! 114 PostRoomModel.moved(II)Z -/
set_option maxRecDepth 16384 in
theorem t_114 {d : Nat} {h : AH} (hs : Sh h) (x1 : Int32) (x2 : Int32) :
    E (d + 1) 114 [.ref 189, .int x1, .int x2] h =
  cK (E d 36 [.ref 189] (sI h 3586 189 (nI 0))) (Q d 114 9 [some (.ref 189), some (.int x1), some (.int x2), none]) [] := by
  rw [← hs.1]
  exact entL (l := [some (.ref 189), some (.int x1), some (.int x2), none]) rfl rfl ((blkM (fun p => Nat.beq p 9) 6 0 _ _ _).trans rfl)

set_option maxRecDepth 16384 in
theorem t_114_9 {d : Nat} {h : AH} (hs : Sh h) (x1 : Int32) (x2 : Int32) (u3 : Option Value) :
    Q d 114 9 [some (.ref 189), some (.int x1), some (.int x2), u3] [] h =
  cK (E d 63 [.ref 189] h) (Q d 114 13 [some (.ref 189), some (.int x1), some (.int x2), u3]) [] := by
  rw [← hs.1]
  exact (blkM (fun p => Nat.beq p 13) 3 9 _ _ _).trans rfl

set_option maxRecDepth 16384 in
theorem t_114_13 {d : Nat} {h : AH} (hs : Sh h) (x1 : Int32) (x2 : Int32) (u3 : Option Value) (s0 : Int32) :
    Q d 114 13 [some (.ref 189), some (.int x1), some (.int x2), u3] [.int s0] h =
  if s0 < nI 0 then
   some (some (.int (nI 0)), h)
  else
   if s0 = x1 then
    if gI h 3641 189 = x2 then
     some (some (.int (nI 0)), h)
    else
     cK (E d 115 [.ref 189, .int x1, .int x2, .int s0, .int (gI h 3641 189)] h) (Q d 114 44 [some (.ref 189), some (.int x1), some (.int x2), some (.int s0)]) []
   else
    cK (E d 115 [.ref 189, .int x1, .int x2, .int s0, .int (gI h 3641 189)] h) (Q d 114 44 [some (.ref 189), some (.int x1), some (.int x2), some (.int s0)]) [] := by
  rw [← hs.1]
  exact (blkM (fun p => Nat.beq p 44) 18 13 _ _ _).trans rfl

set_option maxRecDepth 16384 in
theorem t_114_44 {d : Nat} {h : AH} (hs : Sh h) (u0 : Option Value) (u1 : Option Value) (u2 : Option Value) (u3 : Option Value) (s0 : Int32) :
    Q d 114 44 [u0, u1, u2, u3] [.int s0] h =
  if s0 = 0 ∨ s0 = 1 then
   some (some (.int s0), h)
  else
   none := by
  rw [← hs.1]
  exact (blkM (fun p => false) 2 44 _ _ _).trans rfl

/-! 115 PostRoomModel.move(IIII)Z -/
set_option maxRecDepth 16384 in
theorem t_115 {d : Nat} {h : AH} (hs : Sh h) (x1 : Int32) (x2 : Int32) (x3 : Int32) (x4 : Int32) :
    E (d + 1) 115 [.ref 189, .int x1, .int x2, .int x3, .int x4] h =
  if x1 < nI 0 then
   some (some (.int (nI 0)), h)
  else
   gd (gI h 3597 189) 2 <|
   if x1 < gA h 205 (ix (gI h 3597 189)) then
    if x2 < nI 27 then
     some (some (.int (nI 0)), h)
    else
     if (nI 26999) < x2 then
      some (some (.int (nI 0)), h)
     else
      cK (E d 116 [.ref 189, .int x1, .int x2] h) (Q d 115 38 [some (.ref 189), some (.int x1), some (.int x2), some (.int x3), some (.int x4), none]) []
   else
    some (some (.int (nI 0)), h) := by
  rw [← hs.1]
  exact entL (l := [some (.ref 189), some (.int x1), some (.int x2), some (.int x3), some (.int x4), none]) rfl rfl ((blkM (fun p => Nat.beq p 38) 20 0 _ _ _).trans rfl)

set_option maxRecDepth 16384 in
theorem t_115_38 {d : Nat} {h : AH} (hs : Sh h) (x1 : Int32) (x2 : Int32) (x3 : Int32) (x4 : Int32) (u5 : Option Value) (s0 : Int32) :
    Q d 115 38 [some (.ref 189), some (.int x1), some (.int x2), some (.int x3), some (.int x4), u5] [.int s0] h =
  if s0 < nI 0 then
   if gI h 3688 189 = nI 40 then
    some (some (.int (nI 0)), h)
   else
    if s0 < nI 0 then
     gd (gI h 3688 189) 40 <|
     gd (gI h 3688 189) 40 <|
     gd (gI h 3688 189) 40 <|
     gd (gI h 3688 189) 40 <|
     some (some (.int (nI 1)), sA (sA (sA (sA (sI h 3688 189 ((gI h 3688 189) + (nI 1))) 265 (ix (gI h 3688 189)) x1) 266 (ix (gI h 3688 189)) x2) 267 (ix (gI h 3688 189)) x3) 268 (ix (gI h 3688 189)) x4)
    else
     gd s0 40 <|
     gd s0 40 <|
     gd s0 40 <|
     gd s0 40 <|
     some (some (.int (nI 1)), sA (sA (sA (sA h 265 (ix s0) x1) 266 (ix s0) x2) 267 (ix s0) x3) 268 (ix s0) x4)
  else
   if s0 < nI 0 then
    gd (gI h 3688 189) 40 <|
    gd (gI h 3688 189) 40 <|
    gd (gI h 3688 189) 40 <|
    gd (gI h 3688 189) 40 <|
    some (some (.int (nI 1)), sA (sA (sA (sA (sI h 3688 189 ((gI h 3688 189) + (nI 1))) 265 (ix (gI h 3688 189)) x1) 266 (ix (gI h 3688 189)) x2) 267 (ix (gI h 3688 189)) x3) 268 (ix (gI h 3688 189)) x4)
   else
    gd s0 40 <|
    gd s0 40 <|
    gd s0 40 <|
    gd s0 40 <|
    some (some (.int (nI 1)), sA (sA (sA (sA h 265 (ix s0) x1) 266 (ix s0) x2) 267 (ix s0) x3) 268 (ix s0) x4) := by
  rw [← hs.1]
  exact (blkM (fun p => false) 41 38 _ _ _).trans rfl

/-! 116 PostRoomModel.movedAt(II)I -/
set_option maxRecDepth 16384 in
theorem t_116 {d : Nat} {h : AH} (hs : Sh h) (x1 : Int32) (x2 : Int32) :
    E (d + 1) 116 [.ref 189, .int x1, .int x2] h =
  Q d 116 5 [some (.ref 189), some (.int x1), some (.int x2), some (.int (-1)), some (.int (nI 0))] [] h := by
  rw [← hs.1]
  exact entL (l := [some (.ref 189), some (.int x1), some (.int x2), none, none]) rfl rfl ((blkM (fun p => Nat.beq p 5) 6 0 _ _ _).trans rfl)

set_option maxRecDepth 16384 in
theorem t_116_5 {d : Nat} {h : AH} (hs : Sh h) (x1 : Int32) (x2 : Int32) (x3 : Int32) (x4 : Int32) :
    Q d 116 5 [some (.ref 189), some (.int x1), some (.int x2), some (.int x3), some (.int x4)] [] h =
  if x4 < gI h 3688 189 then
   gd x4 40 <|
   if gA h 265 (ix x4) = x1 then
    gd x4 40 <|
    if gA h 266 (ix x4) = x2 then
     Q d 116 5 [some (.ref 189), some (.int x1), some (.int x2), some (.int x4), some (.int (x4 + nI 1))] [] h
    else
     Q d 116 5 [some (.ref 189), some (.int x1), some (.int x2), some (.int x3), some (.int (x4 + nI 1))] [] h
   else
    Q d 116 5 [some (.ref 189), some (.int x1), some (.int x2), some (.int x3), some (.int (x4 + nI 1))] [] h
  else
   some (some (.int x3), h) := by
  rw [← hs.1]
  exact (blkM (fun p => Nat.beq p 5) 23 5 _ _ _).trans rfl

/-! 117 PostRoomModel.gone(II)Z -/
set_option maxRecDepth 16384 in
theorem t_117 {d : Nat} {h : AH} (hs : Sh h) (x1 : Int32) (x2 : Int32) :
    E (d + 1) 117 [.ref 189, .int x1, .int x2] h =
  cK (E d 115 [.ref 189, .int x1, .int x2, .int (-1), .int (nI 0)] (sI h 3586 189 (nI 0))) (Q d 117 13 [some (.ref 189), some (.int x1), some (.int x2)]) [] := by
  rw [← hs.1]
  exact entL (l := [some (.ref 189), some (.int x1), some (.int x2)]) rfl rfl ((blkM (fun p => Nat.beq p 13) 10 0 _ _ _).trans rfl)

set_option maxRecDepth 16384 in
theorem t_117_13 {d : Nat} {h : AH} (hs : Sh h) (u0 : Option Value) (u1 : Option Value) (u2 : Option Value) (s0 : Int32) :
    Q d 117 13 [u0, u1, u2] [.int s0] h =
  if s0 = 0 ∨ s0 = 1 then
   some (some (.int s0), h)
  else
   none := by
  rw [← hs.1]
  exact (blkM (fun p => false) 2 13 _ _ _).trans rfl

