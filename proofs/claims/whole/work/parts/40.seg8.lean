/-! ===== THE METHODS, PIECE BY PIECE: 8 (made by wip/gen/gen40.py) ===== -/
/-! 269 PostRoom$Book.zoneOf(II)I -/
set_option maxRecDepth 16384 in
theorem t_269 {d : Nat} {h : AH} (hs : Sh h) (x0 : Nat) (x1 : Int32) (x2 : Int32) :
    E (d + 1) 269 [.ref x0, .int x1, .int x2] h =
  if x1 = x2 then
   some (some (.int (nI 0)), h)
  else
   ck (gC h x0) 2 <|
   (gR h 512 x0).bind fun y1 =>
    ck (gC h y1) 1 <|
    cK (E d 212 [.ref y1, .int x1] h) (Q d 269 15 [some (.ref x0), some (.int x1), some (.int x2), none, none]) [] := by
  rw [← hs.1]
  exact entL (l := [some (.ref x0), some (.int x1), some (.int x2), none, none]) rfl rfl ((blkM (fun p => Nat.beq p 15) 8 0 _ _ _).trans rfl)

set_option maxRecDepth 16384 in
theorem t_269_15 {d : Nat} {h : AH} (hs : Sh h) (x0 : Nat) (x2 : Int32) (u1 : Option Value) (u3 : Option Value) (u4 : Option Value) (s0 : Nat) :
    Q d 269 15 [some (.ref x0), u1, some (.int x2), u3, u4] [.ref s0] h =
  (ck (gC h s0) 7 <|
  ck (gC h x0) 2 <|
  (gR h 512 x0).bind fun y1 =>
   ck (gC h y1) 1 <|
   cK (E d 212 [.ref y1, .int x2] h) (Q d 269 27 [some (.ref x0), u1, some (.int x2), some (.ref s0), u4]) []) := by
  rw [← hs.1]
  exact (blkM (fun p => Nat.beq p 27) 7 15 _ _ _).trans rfl

set_option maxRecDepth 16384 in
theorem t_269_27 {d : Nat} {h : AH} (hs : Sh h) (x3 : Nat) (u0 : Option Value) (u1 : Option Value) (u2 : Option Value) (u4 : Option Value) (s0 : Nat) :
    Q d 269 27 [u0, u1, u2, some (.ref x3), u4] [.ref s0] h =
  (ck (gC h s0) 7 <|
  ck (gC h x3) 7 <|
  ck (gC h s0) 7 <|
  cK (E d 345 [.int ((gI h 1795 x3) - (gI h 1795 s0))] h) (Q d 269 48 [u0, u1, u2, some (.ref x3), some (.ref s0)]) [.int (nI 1), .int (nI 9)]) := by
  rw [← hs.1]
  exact (blkM (fun p => Nat.beq p 48) 11 27 _ _ _).trans rfl

set_option maxRecDepth 16384 in
theorem t_269_48 {d : Nat} {h : AH} (hs : Sh h) (x3 : Nat) (x4 : Nat) (u0 : Option Value) (u1 : Option Value) (u2 : Option Value) (s0 : Int32) (s1 : Int32) (s2 : Int32) :
    Q d 269 48 [u0, u1, u2, some (.ref x3), some (.ref x4)] [.int s2, .int s1, .int s0] h =
  (ck (gC h x3) 7 <|
  ck (gC h x4) 7 <|
  cK (E d 345 [.int ((gI h 1796 x3) - (gI h 1796 x4))] h) (Q d 269 61 [u0, u1, u2, some (.ref x3), some (.ref x4)]) [.int s2, .int s1, .int s0]) := by
  rw [← hs.1]
  exact (blkM (fun p => Nat.beq p 61) 7 48 _ _ _).trans rfl

set_option maxRecDepth 16384 in
theorem t_269_61 {d : Nat} {h : AH} (hs : Sh h) (u0 : Option Value) (u1 : Option Value) (u2 : Option Value) (u3 : Option Value) (u4 : Option Value) (s0 : Int32) (s1 : Int32) (s2 : Int32) (s3 : Int32) :
    Q d 269 61 [u0, u1, u2, u3, u4] [.int s3, .int s2, .int s1, .int s0] h =
  (dz (nI 100) <|
  cK (E d 302 [.int s0, .int (s1 + ((s2 + s3) / (nI 100)))] h) (Q d 269 69 [u0, u1, u2, u3, u4]) []) := by
  rw [← hs.1]
  exact (blkM (fun p => Nat.beq p 69) 6 61 _ _ _).trans rfl

set_option maxRecDepth 16384 in
theorem t_269_69 {d : Nat} {h : AH} (hs : Sh h) (u0 : Option Value) (u1 : Option Value) (u2 : Option Value) (u3 : Option Value) (u4 : Option Value) (s0 : Int32) :
    Q d 269 69 [u0, u1, u2, u3, u4] [.int s0] h =
  some (some (.int s0), h) := by
  rw [← hs.1]
  exact (blkM (fun p => false) 2 69 _ _ _).trans rfl

/-! 270 PostRoom$Service.priceFor(II)I -/
set_option maxRecDepth 16384 in
theorem t_270 {d : Nat} {h : AH} (hs : Sh h) (x0 : Nat) (x1 : Int32) (x2 : Int32) :
    E (d + 1) 270 [.ref x0, .int x1, .int x2] h =
  Q d 270 5 [some (.ref x0), some (.int x1), some (.int x2), some (.long 0), none, some (.int (nI 0))] [] h := by
  rw [← hs.1]
  exact entL (l := [some (.ref x0), some (.int x1), some (.int x2), none, none, none]) rfl rfl ((blkM (fun p => Nat.beq p 5) 6 0 _ _ _).trans rfl)

set_option maxRecDepth 16384 in
theorem t_270_5 {d : Nat} {h : AH} (hs : Sh h) (x0 : Nat) (x1 : Int32) (x2 : Int32) (x3 : Int64) (x5 : Int32) :
    Q d 270 5 [some (.ref x0), some (.int x1), some (.int x2), some (.long x3), none, some (.int x5)] [] h =
  (ck (gC h x0) 10 <|
  if x5 < gI h 2563 x0 then
   ck (gC h x0) 10 <|
   cK (E d 346 [.ref x0, .int x5, .long x3, .int x1, .int x2] h) (Q d 270 23 [some (.ref x0), some (.int x1), some (.int x2), some (.long x3), none, some (.int x5)]) []
  else
   if (nI 0) < lg_cmp x3 1000000 then
    some (some (.int (nI 1000000)), h)
   else
    some (some (.int x3.toInt32), h)) := by
  rw [← hs.1]
  exact (blkM (fun p => Nat.beq p 23) 12 5 _ _ _).trans rfl

set_option maxRecDepth 16384 in
theorem t_270_23 {d : Nat} {h : AH} (hs : Sh h) (x0 : Nat) (x1 : Int32) (x2 : Int32) (x5 : Int32) (u3 : Option Value) (u4 : Option Value) (s0 : Int64) :
    Q d 270 23 [some (.ref x0), some (.int x1), some (.int x2), u3, u4, some (.int x5)] [.long s0] h =
  Q d 270 5 [some (.ref x0), some (.int x1), some (.int x2), some (.long s0), none, some (.int (x5 + nI 1))] [] h := by
  rw [← hs.1]
  exact (blkM (fun p => Nat.beq p 5) 5 23 _ _ _).trans rfl

/-! 271 PostRoom$Item.<init>(IIIII)V -/
set_option maxRecDepth 16384 in
theorem t_271 {d : Nat} {h : AH} (hs : Sh h) (x0 : Nat) (x1 : Int32) (x2 : Int32) (x3 : Int32) (x4 : Int32) (x5 : Int32) :
    E (d + 1) 271 [.ref x0, .int x1, .int x2, .int x3, .int x4, .int x5] h =
  (ck (gC h x0) 5 <|
  ck (gC h x0) 5 <|
  ck (gC h x0) 5 <|
  ck (gC h x0) 5 <|
  ck (gC h x0) 5 <|
  Q d 271 36 [some (.ref x0), some (.int x1), some (.int x2), some (.int x3), some (.int x4), some (.int x5)] [.ref (gN h), .ref x0] (nwA (sI (sI (sI (sI (sI h 1280 x0 x1) 1281 x0 x2) 1284 x0 x3) 1282 x0 x4) 1283 x0 x5) 60 11)) := by
  rw [← hs.1]
  exact entL (l := [some (.ref x0), some (.int x1), some (.int x2), some (.int x3), some (.int x4), some (.int x5)]) rfl rfl ((blkM (fun p => Nat.beq p 36) 22 0 _ _ _).trans rfl)

set_option maxRecDepth 16384 in
theorem t_271_36 {d : Nat} {h : AH} (hs : Sh h) (x0 : Nat) (u1 : Option Value) (u2 : Option Value) (u3 : Option Value) (u4 : Option Value) (u5 : Option Value) (s0 : Nat) (s1 : Nat) :
    Q d 271 36 [some (.ref x0), u1, u2, u3, u4, u5] [.ref s1, .ref s0] h =
  (ck (gC h s0) 5 <|
  ck (gC h x0) 5 <|
  some (none, sI (sR h 1285 s0 (some s1)) 1290 x0 (-1))) := by
  rw [← hs.1]
  exact (blkM (fun p => false) 6 36 _ _ _).trans rfl

/-! 272 PostRoom$Item.setSigns(I)V -/
set_option maxRecDepth 16384 in
theorem t_272 {d : Nat} {h : AH} (hs : Sh h) (x0 : Nat) (x1 : Int32) :
    E (d + 1) 272 [.ref x0, .int x1] h =
  (ck (gC h x0) 5 <|
  (gR h 1285 x0).bind fun y1 =>
   ck (gC h x0) 5 <|
   cw (gC h y1) 60 y1 <|
   gd (nI 0) (gK h y1) <|
   ck (gC h x0) 5 <|
   (gR h 1285 x0).bind fun y2 =>
    dz (nI 64) <|
    cw (gC h y2) 60 y2 <|
    gd (nI 1) (gK h y2) <|
    ck (gC h x0) 5 <|
    (gR h 1285 x0).bind fun y3 =>
     dz (nI 64) <|
     cw (gC h y3) 60 y3 <|
     gd (nI 2) (gK h y3) <|
     ck (gC h x0) 5 <|
     (gR h 1285 x0).bind fun y4 =>
      ck (gC h x0) 5 <|
      dz (nI 64) <|
      cw (gC h y4) 60 y4 <|
      gd (nI 3) (gK h y4) <|
      ck (gC h x0) 5 <|
      (gR h 1285 x0).bind fun y5 =>
       ck (gC h x0) 5 <|
       dz (nI 64) <|
       cw (gC h y5) 60 y5 <|
       gd (nI 4) (gK h y5) <|
       ck (gC h x0) 5 <|
       (gR h 1285 x0).bind fun y6 =>
        ck (gC h x0) 5 <|
        dz (nI 64) <|
        cw (gC h y6) 60 y6 <|
        gd (nI 5) (gK h y6) <|
        ck (gC h x0) 5 <|
        (gR h 1285 x0).bind fun y7 =>
         ck (gC h x0) 5 <|
         dz (nI 64) <|
         cw (gC h y7) 60 y7 <|
         gd (nI 6) (gK h y7) <|
         Q d 272 86 [some (.ref x0), some (.int x1), none] [.ref (gN h)] (nwA (sA (sA (sA (sA (sA (sA (sA h y1 0 (gI h 1281 x0)) y2 1 (x1 / (nI 64))) y3 2 (x1 - x1 / (nI 64) * (nI 64))) y4 3 ((gI h 1280 x0) / (nI 64))) y5 4 ((gI h 1280 x0) - (gI h 1280 x0) / (nI 64) * (nI 64))) y6 5 ((gI h 1282 x0) / (nI 64))) y7 6 ((gI h 1282 x0) - (gI h 1282 x0) / (nI 64) * (nI 64))) 60 4)) := by
  rw [← hs.1]
  exact entL (l := [some (.ref x0), some (.int x1), none]) rfl rfl ((blkM (fun p => Nat.beq p 86) 56 0 _ _ _).trans rfl)

set_option maxRecDepth 16384 in
theorem t_272_86 {d : Nat} {h : AH} (hs : Sh h) (x0 : Nat) (u1 : Option Value) (u2 : Option Value) (s0 : Nat) :
    Q d 272 86 [some (.ref x0), u1, u2] [.ref s0] h =
  (cw (gC h s0) 60 s0 <|
  gd (nI 0) (gK h s0) <|
  cw (gC h s0) 60 s0 <|
  gd (nI 1) (gK h s0) <|
  cw (gC h s0) 60 s0 <|
  gd (nI 2) (gK h s0) <|
  cw (gC h s0) 60 s0 <|
  gd (nI 3) (gK h s0) <|
  ck (gC h x0) 5 <|
  (gR h 1285 x0).bind fun y1 =>
   Q d 272 119 [some (.ref x0), klV u1, some (.ref s0)] [.ref (gN h), .int (nI 4), .ref s0, .ref y1] (nwM (sA (sA (sA (sA h s0 0 (nI 7)) s0 1 (nI 8)) s0 2 (nI 9)) s0 3 (nI 10)) 4 5)) := by
  rw [← hs.1]
  exact (blkM (fun p => Nat.beq p 119) 26 86 _ _ _).trans rfl

set_option maxRecDepth 16384 in
theorem t_272_119 {d : Nat} {h : AH} (hs : Sh h) (u0 : Option Value) (u1 : Option Value) (u2 : Option Value) (s0 : Nat) (s1 : Nat) (s2 : Int32) (s3 : Nat) :
    Q d 272 119 [u0, u1, u2] [.ref s3, .int s2, .ref s1, .ref s0] h =
  cK (E d 246 [.ref s0, .ref s1, .int s2, .ref s3] h) (Q d 272 122 [u0, u1, u2]) [] := by
  rw [← hs.1]
  exact (blkM (fun p => Nat.beq p 122) 2 119 _ _ _).trans rfl

set_option maxRecDepth 16384 in
theorem t_272_122 {d : Nat} {h : AH} (hs : Sh h) (u0 : Option Value) (u1 : Option Value) (u2 : Option Value) (s0 : Int32) :
    Q d 272 122 [u0, u1, u2] [.int s0] h =
  some (none, h) := by
  rw [← hs.1]
  exact (blkM (fun p => false) 3 122 _ _ _).trans rfl

/-! 273 java/util/ArrayList.add(Ljava/lang/Object;)Z -/
set_option maxRecDepth 16384 in
theorem t_273 {d : Nat} {h : AH} (hs : Sh h) (x0 : Nat) (x1 : Nat) :
    E (d + 1) 273 [.ref x0, .ref x1] h =
  (ck (gC h x0) 1 <|
  ck (gC h x0) 1 <|
  ck (gC h x0) 1 <|
  (gR h 257 x0).bind fun y1 =>
   ck (gC h x0) 1 <|
   ck (gC h x0) 1 <|
   cK (E d 347 [.ref x0, .ref x1, .ref y1, .int (gI h 258 x0)] (sI h 256 x0 ((gI h 256 x0) + (nI 1)))) (Q d 273 23 [some (.ref x0), some (.ref x1)]) []) := by
  rw [← hs.1]
  exact entL (l := [some (.ref x0), some (.ref x1)]) rfl rfl ((blkM (fun p => Nat.beq p 23) 14 0 _ _ _).trans rfl)

set_option maxRecDepth 16384 in
theorem t_273_23 {d : Nat} {h : AH} (hs : Sh h) (u0 : Option Value) (u1 : Option Value) :
    Q d 273 23 [u0, u1] [] h =
  some (some (.int (nI 1)), h) := by
  rw [← hs.1]
  exact (blkM (fun p => false) 3 23 _ _ _).trans rfl

/-! 274 java/util/AbstractList.<init>()V -/
set_option maxRecDepth 16384 in
theorem t_274 {d : Nat} {h : AH} (hs : Sh h) (x0 : Nat) :
    E (d + 1) 274 [.ref x0] h =
  cK (E d 348 [.ref x0] h) (Q d 274 4 [some (.ref x0)]) [] := by
  rw [← hs.1]
  exact entL (l := [some (.ref x0)]) rfl rfl ((blkM (fun p => Nat.beq p 4) 3 0 _ _ _).trans rfl)

set_option maxRecDepth 16384 in
theorem t_274_4 {d : Nat} {h : AH} (hs : Sh h) (x0 : Nat) :
    Q d 274 4 [some (.ref x0)] [] h =
  (ck (gC h x0) 1 <|
  some (none, sI h 256 x0 (nI 0))) := by
  rw [← hs.1]
  exact (blkM (fun p => false) 5 4 _ _ _).trans rfl

/-! 275 java/lang/String.checkIndex(II)V -/
set_option maxRecDepth 16384 in
theorem t_275 {d : Nat} {h : AH} (hs : Sh h) (x0 : Int32) (x1 : Int32) :
    E (d + 1) 275 [.int x0, .int x1] h =
  cK (E d 344 [.int x0, .int x1, gsv h 64] h) (Q d 275 8 [some (.int x0), some (.int x1)]) [] := by
  rw [← hs.1]
  exact entL (l := [some (.int x0), some (.int x1)]) rfl rfl ((blkM (fun p => Nat.beq p 8) 5 0 _ _ _).trans rfl)

set_option maxRecDepth 16384 in
theorem t_275_8 {d : Nat} {h : AH} (hs : Sh h) (u0 : Option Value) (u1 : Option Value) (s0 : Int32) :
    Q d 275 8 [u0, u1] [.int s0] h =
  some (none, h) := by
  rw [← hs.1]
  exact (blkM (fun p => false) 3 8 _ _ _).trans rfl

/-! 276 PostRoom$Office.<init>()V -/
set_option maxRecDepth 16384 in
theorem t_276 {d : Nat} {h : AH} (hs : Sh h) (x0 : Nat) :
    E (d + 1) 276 [.ref x0] h =
  Q d 276 8 [some (.ref x0)] [.ref (gN h), .ref x0] (nwO h 1 3) := by
  rw [← hs.1]
  exact entL (l := [some (.ref x0)]) rfl rfl ((blkM (fun p => Nat.beq p 8) 6 0 _ _ _).trans rfl)

set_option maxRecDepth 16384 in
theorem t_276_8 {d : Nat} {h : AH} (hs : Sh h) (u0 : Option Value) (s0 : Nat) (s1 : Nat) :
    Q d 276 8 [u0] [.ref s1, .ref s0] h =
  cK (E d 226 [.ref s1] h) (Q d 276 12 [u0]) [.ref s1, .ref s0] := by
  rw [← hs.1]
  exact (blkM (fun p => Nat.beq p 12) 3 8 _ _ _).trans rfl

set_option maxRecDepth 16384 in
theorem t_276_12 {d : Nat} {h : AH} (hs : Sh h) (u0 : Option Value) (s0 : Nat) (s1 : Nat) :
    Q d 276 12 [u0] [.ref s1, .ref s0] h =
  (ck (gC h s0) 7 <|
  some (none, sR h 1797 s0 (some s1))) := by
  rw [← hs.1]
  exact (blkM (fun p => false) 3 12 _ _ _).trans rfl

/-! 277 PostRoom$Book.takesName()Z -/
set_option maxRecDepth 16384 in
theorem t_277 {d : Nat} {h : AH} (hs : Sh h) (x0 : Nat) :
    E (d + 1) 277 [.ref x0] h =
  (ck (gC h x0) 2 <|
  (gR h 520 x0).bind fun y1 =>
   ck (gC h y1) 12 <|
   cK (E d 238 [.ref y1] h) (Q d 277 7 [some (.ref x0)]) []) := by
  rw [← hs.1]
  exact entL (l := [some (.ref x0)]) rfl rfl ((blkM (fun p => Nat.beq p 7) 4 0 _ _ _).trans rfl)

set_option maxRecDepth 16384 in
theorem t_277_7 {d : Nat} {h : AH} (hs : Sh h) (x0 : Nat) :
    Q d 277 7 [some (.ref x0)] [] h =
  (ck (gC h x0) 2 <|
  (gR h 520 x0).bind fun y1 =>
   ck (gC h y1) 12 <|
   if gI h 3076 y1 = nI 2 then
    some (some (.int (nI 1)), h)
   else
    ck (gC h x0) 2 <|
    cK (E d 237 [.ref x0, .int (nI 1)] h) (Q d 277 23 [some (.ref x0)]) []) := by
  rw [← hs.1]
  exact (blkM (fun p => Nat.beq p 23) 9 7 _ _ _).trans rfl

set_option maxRecDepth 16384 in
theorem t_277_23 {d : Nat} {h : AH} (hs : Sh h) (u0 : Option Value) (s0 : Int32) :
    Q d 277 23 [u0] [.int s0] h =
  if s0 = nI 0 then
   some (some (.int (nI 0)), h)
  else
   some (some (.int (nI 1)), h) := by
  rw [← hs.1]
  exact (blkM (fun p => false) 5 23 _ _ _).trans rfl

/-! 278 PostRoom$Book.officeNamed(J)I -/
set_option maxRecDepth 16384 in
theorem t_278 {d : Nat} {h : AH} (hs : Sh h) (x0 : Nat) (x1 : Int64) :
    E (d + 1) 278 [.ref x0, .long x1] h =
  Q d 278 2 [some (.ref x0), some (.long x1), none, some (.int (nI 0))] [] h := by
  rw [← hs.1]
  exact entL (l := [some (.ref x0), some (.long x1), none, none]) rfl rfl ((blkM (fun p => Nat.beq p 2) 4 0 _ _ _).trans rfl)

set_option maxRecDepth 16384 in
theorem t_278_2 {d : Nat} {h : AH} (hs : Sh h) (x0 : Nat) (x1 : Int64) (x3 : Int32) :
    Q d 278 2 [some (.ref x0), some (.long x1), none, some (.int x3)] [] h =
  (ck (gC h x0) 2 <|
  (gR h 512 x0).bind fun y1 =>
   ck (gC h y1) 1 <|
   cK (E d 213 [.ref y1] h) (Q d 278 10 [some (.ref x0), some (.long x1), none, some (.int x3)]) [.int x3]) := by
  rw [← hs.1]
  exact (blkM (fun p => Nat.beq p 10) 5 2 _ _ _).trans rfl

set_option maxRecDepth 16384 in
theorem t_278_10 {d : Nat} {h : AH} (hs : Sh h) (x0 : Nat) (x1 : Int64) (x3 : Int32) (s0 : Int32) (s1 : Int32) :
    Q d 278 10 [some (.ref x0), some (.long x1), none, some (.int x3)] [.int s1, .int s0] h =
  if s0 < s1 then
   ck (gC h x0) 2 <|
   (gR h 512 x0).bind fun y1 =>
    ck (gC h y1) 1 <|
    cK (E d 212 [.ref y1, .int x3] h) (Q d 278 21 [some (.ref x0), some (.long x1), none, some (.int x3)]) []
  else
   some (some (.int (-1)), h) := by
  rw [← hs.1]
  exact (blkM (fun p => Nat.beq p 21) 6 10 _ _ _).trans rfl

set_option maxRecDepth 16384 in
theorem t_278_21 {d : Nat} {h : AH} (hs : Sh h) (x0 : Nat) (x1 : Int64) (x3 : Int32) (s0 : Nat) :
    Q d 278 21 [some (.ref x0), some (.long x1), none, some (.int x3)] [.ref s0] h =
  (ck (gC h s0) 7 <|
  ck (gC h s0) 7 <|
  if lg_cmp (gL h 1792 s0) x1 = nI 0 then
   some (some (.int x3), h)
  else
   Q d 278 2 [some (.ref x0), some (.long x1), none, some (.int (x3 + nI 1))] [] h) := by
  rw [← hs.1]
  exact (blkM (fun p => Nat.beq p 2) 9 21 _ _ _).trans rfl

/-! 279 PostRoom$Tape.copyCodes([II)I -/
set_option maxRecDepth 16384 in
theorem t_279 {d : Nat} {h : AH} (hs : Sh h) (x1 : Nat) (x2 : Int32) :
    E (d + 1) 279 [.ref 101, .ref x1, .int x2] h =
  Q d 279 8 [some (.ref 101), some (.ref x1), none, some (.int x2), some (.int (gI h 3074 101))] [] h := by
  rw [← hs.1]
  exact entL (l := [some (.ref 101), some (.ref x1), some (.int x2), none, none]) rfl rfl ((blkM (fun p => Nat.beq p 8) 7 0 _ _ _).trans rfl)

set_option maxRecDepth 16384 in
theorem t_279_8 {d : Nat} {h : AH} (hs : Sh h) (x1 : Nat) (x3 : Int32) (x4 : Int32) :
    Q d 279 8 [some (.ref 101), some (.ref x1), none, some (.int x3), some (.int x4)] [] h =
  if x4 < gI h 3075 101 then
   if 60 ≤ gC h x1 ∧ gC h x1 ≤ 66 then
    if x3 < nI (gK h x1) then
     gd x4 4000 <|
     cK (E d 294 [.int (gA h 102 (ix x4))] h) (Q d 279 35 [some (.ref 101), some (.ref x1), none, some (.int x3), some (.int x4)]) [.int x3, .ref x1]
    else
     some (some (.int x3), h)
   else
    none
  else
   some (some (.int x3), h) := by
  rw [← hs.1]
  exact (blkM (fun p => Nat.beq p 35) 16 8 _ _ _).trans rfl

set_option maxRecDepth 16384 in
theorem t_279_35 {d : Nat} {h : AH} (hs : Sh h) (x1 : Nat) (x3 : Int32) (x4 : Int32) (u2 : Option Value) (s0 : Nat) (s1 : Int32) (s2 : Int32) :
    Q d 279 35 [some (.ref 101), some (.ref x1), u2, some (.int x3), some (.int x4)] [.int s2, .int s1, .ref s0] h =
  (cw (gC h s0) 60 s0 <|
  gd s1 (gK h s0) <|
  Q d 279 8 [some (.ref 101), some (.ref x1), none, some (.int (x3 + nI 1)), some (.int (x4 + nI 1))] [] (sA h s0 (ix s1) s2)) := by
  rw [← hs.1]
  exact (blkM (fun p => Nat.beq p 8) 6 35 _ _ _).trans rfl

/-! 280 PostRoom$Book.takesNumber(II)Z -/
set_option maxRecDepth 16384 in
theorem t_280 {d : Nat} {h : AH} (hs : Sh h) (x0 : Nat) (x1 : Int32) (x2 : Int32) :
    E (d + 1) 280 [.ref x0, .int x1, .int x2] h =
  (ck (gC h x0) 2 <|
  (gR h 520 x0).bind fun y1 =>
   ck (gC h y1) 12 <|
   cK (E d 238 [.ref y1] h) (Q d 280 7 [some (.ref x0), some (.int x1), some (.int x2)]) []) := by
  rw [← hs.1]
  exact entL (l := [some (.ref x0), some (.int x1), some (.int x2)]) rfl rfl ((blkM (fun p => Nat.beq p 7) 4 0 _ _ _).trans rfl)

set_option maxRecDepth 16384 in
theorem t_280_7 {d : Nat} {h : AH} (hs : Sh h) (x0 : Nat) (x1 : Int32) (x2 : Int32) :
    Q d 280 7 [some (.ref x0), some (.int x1), some (.int x2)] [] h =
  (ck (gC h x0) 2 <|
  (gR h 520 x0).bind fun y1 =>
   ck (gC h y1) 12 <|
   if gI h 3076 y1 = nI 3 then
    ck (gC h x0) 2 <|
    (gR h 520 x0).bind fun y2 =>
     ck (gC h y2) 12 <|
     if gI h 3077 y2 < x1 then
      ck (gC h x0) 2 <|
      cK (E d 237 [.ref x0, .int (nI 4)] h) (Q d 280 51 [some (.ref x0), none, none]) []
     else
      ck (gC h x0) 2 <|
      (gR h 520 x0).bind fun y3 =>
       ck (gC h y3) 12 <|
       if x2 < gI h 3077 y3 then
        ck (gC h x0) 2 <|
        cK (E d 237 [.ref x0, .int (nI 4)] h) (Q d 280 51 [some (.ref x0), none, none]) []
       else
        some (some (.int (nI 1)), h)
   else
    ck (gC h x0) 2 <|
    cK (E d 237 [.ref x0, .int (nI 1)] h) (Q d 280 23 [some (.ref x0), some (.int x1), some (.int x2)]) []) := by
  rw [← hs.1]
  exact (blkM (fun p => Nat.beq p 23 || Nat.beq p 51) 19 7 _ _ _).trans rfl

set_option maxRecDepth 16384 in
theorem t_280_23 {d : Nat} {h : AH} (hs : Sh h) (u0 : Option Value) (u1 : Option Value) (u2 : Option Value) (s0 : Int32) :
    Q d 280 23 [u0, u1, u2] [.int s0] h =
  if s0 = 0 ∨ s0 = 1 then
   some (some (.int s0), h)
  else
   none := by
  rw [← hs.1]
  exact (blkM (fun p => false) 2 23 _ _ _).trans rfl

set_option maxRecDepth 16384 in
theorem t_280_51 {d : Nat} {h : AH} (hs : Sh h) (u0 : Option Value) (u1 : Option Value) (u2 : Option Value) (s0 : Int32) :
    Q d 280 51 [u0, u1, u2] [.int s0] h =
  if s0 = nI 0 then
   some (some (.int (nI 0)), h)
  else
   some (some (.int (nI 1)), h) := by
  rw [← hs.1]
  exact (blkM (fun p => false) 5 51 _ _ _).trans rfl

/-! 281 PostRoom$Book.hasCode(I)Z -/
set_option maxRecDepth 16384 in
theorem t_281 {d : Nat} {h : AH} (hs : Sh h) (x0 : Nat) (x1 : Int32) :
    E (d + 1) 281 [.ref x0, .int x1] h =
  Q d 281 2 [some (.ref x0), some (.int x1), some (.int (nI 0))] [] h := by
  rw [← hs.1]
  exact entL (l := [some (.ref x0), some (.int x1), none]) rfl rfl ((blkM (fun p => Nat.beq p 2) 4 0 _ _ _).trans rfl)

set_option maxRecDepth 16384 in
theorem t_281_2 {d : Nat} {h : AH} (hs : Sh h) (x0 : Nat) (x1 : Int32) (x2 : Int32) :
    Q d 281 2 [some (.ref x0), some (.int x1), some (.int x2)] [] h =
  (ck (gC h x0) 2 <|
  (gR h 512 x0).bind fun y1 =>
   ck (gC h y1) 1 <|
   cK (E d 213 [.ref y1] h) (Q d 281 10 [some (.ref x0), some (.int x1), some (.int x2)]) [.int x2]) := by
  rw [← hs.1]
  exact (blkM (fun p => Nat.beq p 10) 5 2 _ _ _).trans rfl

set_option maxRecDepth 16384 in
theorem t_281_10 {d : Nat} {h : AH} (hs : Sh h) (x0 : Nat) (x1 : Int32) (x2 : Int32) (s0 : Int32) (s1 : Int32) :
    Q d 281 10 [some (.ref x0), some (.int x1), some (.int x2)] [.int s1, .int s0] h =
  if s0 < s1 then
   ck (gC h x0) 2 <|
   (gR h 512 x0).bind fun y1 =>
    ck (gC h y1) 1 <|
    cK (E d 212 [.ref y1, .int x2] h) (Q d 281 21 [some (.ref x0), some (.int x1), some (.int x2)]) []
  else
   some (some (.int (nI 0)), h) := by
  rw [← hs.1]
  exact (blkM (fun p => Nat.beq p 21) 6 10 _ _ _).trans rfl

set_option maxRecDepth 16384 in
theorem t_281_21 {d : Nat} {h : AH} (hs : Sh h) (x0 : Nat) (x1 : Int32) (x2 : Int32) (s0 : Nat) :
    Q d 281 21 [some (.ref x0), some (.int x1), some (.int x2)] [.ref s0] h =
  (ck (gC h s0) 7 <|
  ck (gC h s0) 7 <|
  if gI h 1794 s0 = x1 then
   some (some (.int (nI 1)), h)
  else
   Q d 281 2 [some (.ref x0), some (.int x1), some (.int (x2 + nI 1))] [] h) := by
  rw [← hs.1]
  exact (blkM (fun p => Nat.beq p 2) 8 21 _ _ _).trans rfl

/-! 282 PostRoom$Book.takesEnd()Z -/
set_option maxRecDepth 16384 in
theorem t_282 {d : Nat} {h : AH} (hs : Sh h) (x0 : Nat) :
    E (d + 1) 282 [.ref x0] h =
  (ck (gC h x0) 2 <|
  (gR h 520 x0).bind fun y1 =>
   ck (gC h y1) 12 <|
   cK (E d 238 [.ref y1] h) (Q d 282 7 [some (.ref x0)]) []) := by
  rw [← hs.1]
  exact entL (l := [some (.ref x0)]) rfl rfl ((blkM (fun p => Nat.beq p 7) 4 0 _ _ _).trans rfl)

set_option maxRecDepth 16384 in
theorem t_282_7 {d : Nat} {h : AH} (hs : Sh h) (x0 : Nat) :
    Q d 282 7 [some (.ref x0)] [] h =
  (ck (gC h x0) 2 <|
  (gR h 520 x0).bind fun y1 =>
   ck (gC h y1) 12 <|
   if gI h 3076 y1 = nI 59 then
    some (some (.int (nI 1)), h)
   else
    ck (gC h x0) 2 <|
    cK (E d 237 [.ref x0, .int (nI 1)] h) (Q d 282 24 [some (.ref x0)]) []) := by
  rw [← hs.1]
  exact (blkM (fun p => Nat.beq p 24) 9 7 _ _ _).trans rfl

set_option maxRecDepth 16384 in
theorem t_282_24 {d : Nat} {h : AH} (hs : Sh h) (u0 : Option Value) (s0 : Int32) :
    Q d 282 24 [u0] [.int s0] h =
  if s0 = nI 0 then
   some (some (.int (nI 0)), h)
  else
   some (some (.int (nI 1)), h) := by
  rw [← hs.1]
  exact (blkM (fun p => false) 5 24 _ _ _).trans rfl

/-! 283 PostRoom$Book.shortNamed(J)I -/
set_option maxRecDepth 16384 in
theorem t_283 {d : Nat} {h : AH} (hs : Sh h) (x0 : Nat) (x1 : Int64) :
    E (d + 1) 283 [.ref x0, .long x1] h =
  Q d 283 2 [some (.ref x0), some (.long x1), none, some (.int (nI 0))] [] h := by
  rw [← hs.1]
  exact entL (l := [some (.ref x0), some (.long x1), none, none]) rfl rfl ((blkM (fun p => Nat.beq p 2) 4 0 _ _ _).trans rfl)

set_option maxRecDepth 16384 in
theorem t_283_2 {d : Nat} {h : AH} (hs : Sh h) (x0 : Nat) (x1 : Int64) (x3 : Int32) :
    Q d 283 2 [some (.ref x0), some (.long x1), none, some (.int x3)] [] h =
  (ck (gC h x0) 2 <|
  if x3 < gI h 518 x0 then
   ck (gC h x0) 2 <|
   (gR h 516 x0).bind fun y1 =>
    ck (gC h y1) 61 <|
    gd x3 (gK h y1) <|
    if lg_cmp (gB h y1 (ix x3)) x1 = nI 0 then
     some (some (.int x3), h)
    else
     Q d 283 2 [some (.ref x0), some (.long x1), none, some (.int (x3 + nI 1))] [] h
  else
   some (some (.int (-1)), h)) := by
  rw [← hs.1]
  exact (blkM (fun p => Nat.beq p 2) 15 2 _ _ _).trans rfl

/-! 284 PostRoom$Street.<init>()V -/
set_option maxRecDepth 16384 in
theorem t_284 {d : Nat} {h : AH} (hs : Sh h) (x0 : Nat) :
    E (d + 1) 284 [.ref x0] h =
  some (none, h) := by
  rw [← hs.1]
  exact entL (l := [some (.ref x0)]) rfl rfl ((blkM (fun p => false) 4 0 _ _ _).trans rfl)

/-! 285 PostRoom$Book.readNames(LPostRoom$Street;)Z -/
set_option maxRecDepth 16384 in
theorem t_285 {d : Nat} {h : AH} (hs : Sh h) (x0 : Nat) (x1 : Nat) :
    E (d + 1) 285 [.ref x0, .ref x1] h =
  Q d 285 4 [some (.ref x0), some (.ref x1), none, none, none, none] [.ref (gN h)] (nwA h 60 39) := by
  rw [← hs.1]
  exact entL (l := [some (.ref x0), some (.ref x1), none, none, none, none]) rfl rfl ((blkM (fun p => Nat.beq p 4) 4 0 _ _ _).trans rfl)

set_option maxRecDepth 16384 in
theorem t_285_4 {d : Nat} {h : AH} (hs : Sh h) (x0 : Nat) (x1 : Nat) (u2 : Option Value) (u3 : Option Value) (u4 : Option Value) (u5 : Option Value) (s0 : Nat) :
    Q d 285 4 [some (.ref x0), some (.ref x1), u2, u3, u4, u5] [.ref s0] h =
  Q d 285 10 [some (.ref x0), some (.ref x1), some (.ref s0), some (.int (nI 0)), some (.int (nI 0)), none] [] h := by
  rw [← hs.1]
  exact (blkM (fun p => Nat.beq p 10) 7 4 _ _ _).trans rfl

set_option maxRecDepth 16384 in
theorem t_285_10 {d : Nat} {h : AH} (hs : Sh h) (x0 : Nat) (x1 : Nat) (x2 : Nat) (x3 : Int32) (x4 : Int32) :
    Q d 285 10 [some (.ref x0), some (.ref x1), some (.ref x2), some (.int x3), some (.int x4), none] [] h =
  if x4 < nI 3 then
   ck (gC h x0) 2 <|
   cK (E d 277 [.ref x0] h) (Q d 285 20 [some (.ref x0), some (.ref x1), some (.ref x2), some (.int x3), some (.int x4), none]) []
  else
   cK (E d 349 [.ref x2, .int x3] h) (Q d 285 109 [some (.ref x0), some (.ref x1), some (.ref x2), some (.int x3), some (.int x4), none]) [.ref x1] := by
  rw [← hs.1]
  exact (blkM (fun p => Nat.beq p 20 || Nat.beq p 109) 8 10 _ _ _).trans rfl

set_option maxRecDepth 16384 in
theorem t_285_20 {d : Nat} {h : AH} (hs : Sh h) (x0 : Nat) (x1 : Nat) (x2 : Nat) (x3 : Int32) (x4 : Int32) (u5 : Option Value) (s0 : Int32) :
    Q d 285 20 [some (.ref x0), some (.ref x1), some (.ref x2), some (.int x3), some (.int x4), u5] [.int s0] h =
  if s0 = nI 0 then
   some (some (.int (nI 0)), h)
  else
   ck (gC h x0) 2 <|
   (gR h 520 x0).bind fun y1 =>
    ck (gC h y1) 12 <|
    cK (E d 231 [.ref y1, .ref 2] h) (Q d 285 34 [some (.ref x0), some (.ref x1), some (.ref x2), some (.int x3), some (.int x4), u5]) [] := by
  rw [← hs.1]
  exact (blkM (fun p => Nat.beq p 34) 6 20 _ _ _).trans rfl

set_option maxRecDepth 16384 in
theorem t_285_109 {d : Nat} {h : AH} (hs : Sh h) (x0 : Nat) (u1 : Option Value) (u2 : Option Value) (u3 : Option Value) (u4 : Option Value) (u5 : Option Value) (s0 : Nat) (s1 : Nat) :
    Q d 285 109 [some (.ref x0), u1, u2, u3, u4, u5] [.ref s1, .ref s0] h =
  (ck (gC h s0) 11 <|
  ck (gC h x0) 2 <|
  cK (E d 288 [.ref x0, .ref 2] (sR h 2816 s0 (some s1))) (Q d 285 118 [some (.ref x0), u1, u2, u3, u4, u5]) []) := by
  rw [← hs.1]
  exact (blkM (fun p => Nat.beq p 118) 5 109 _ _ _).trans rfl

set_option maxRecDepth 16384 in
theorem t_285_34 {d : Nat} {h : AH} (hs : Sh h) (x0 : Nat) (x1 : Nat) (x2 : Nat) (x3 : Int32) (x4 : Int32) (u5 : Option Value) (s0 : Int32) :
    Q d 285 34 [some (.ref x0), some (.ref x1), some (.ref x2), some (.int x3), some (.int x4), u5] [.int s0] h =
  if s0 = nI 0 then
   if (nI 1) = nI 0 then
    if (nI 1) = nI 0 then
     ck (gC h x0) 2 <|
     (gR h 520 x0).bind fun y1 =>
      if x4 = nI 0 then
       ck (gC h y1) 12 <|
       cK (E d 279 [.ref y1, .ref x2, .int (nI 0)] h) (Q d 285 96 [some (.ref x0), some (.ref x1), some (.ref x2), none, some (.int x4), none]) []
      else
       ck (gC h y1) 12 <|
       cK (E d 279 [.ref y1, .ref x2, .int (x3 + (nI 1))] h) (Q d 285 96 [some (.ref x0), some (.ref x1), some (.ref x2), none, some (.int x4), none]) []
    else
     cK (E d 349 [.ref x2, .int x3] h) (Q d 285 71 [some (.ref x0), some (.ref x1), some (.ref x2), some (.int x3), some (.int x4), some (.int (nI 1))]) [.ref x1]
   else
    if x4 = nI 0 then
     ck (gC h x0) 2 <|
     cK (E d 237 [.ref x0, .int (nI 1)] h) (Q d 285 59 [some (.ref x0), some (.ref x1), some (.ref x2), some (.int x3), some (.int x4), some (.int (nI 1))]) []
    else
     if (nI 1) = nI 0 then
      ck (gC h x0) 2 <|
      (gR h 520 x0).bind fun y2 =>
       if x4 = nI 0 then
        ck (gC h y2) 12 <|
        cK (E d 279 [.ref y2, .ref x2, .int (nI 0)] h) (Q d 285 96 [some (.ref x0), some (.ref x1), some (.ref x2), none, some (.int x4), none]) []
       else
        ck (gC h y2) 12 <|
        cK (E d 279 [.ref y2, .ref x2, .int (x3 + (nI 1))] h) (Q d 285 96 [some (.ref x0), some (.ref x1), some (.ref x2), none, some (.int x4), none]) []
     else
      cK (E d 349 [.ref x2, .int x3] h) (Q d 285 71 [some (.ref x0), some (.ref x1), some (.ref x2), some (.int x3), some (.int x4), some (.int (nI 1))]) [.ref x1]
  else
   if (nI 0) = nI 0 then
    if (nI 0) = nI 0 then
     ck (gC h x0) 2 <|
     (gR h 520 x0).bind fun y3 =>
      if x4 = nI 0 then
       ck (gC h y3) 12 <|
       cK (E d 279 [.ref y3, .ref x2, .int (nI 0)] h) (Q d 285 96 [some (.ref x0), some (.ref x1), some (.ref x2), none, some (.int x4), none]) []
      else
       ck (gC h y3) 12 <|
       cK (E d 279 [.ref y3, .ref x2, .int (x3 + (nI 1))] h) (Q d 285 96 [some (.ref x0), some (.ref x1), some (.ref x2), none, some (.int x4), none]) []
    else
     cK (E d 349 [.ref x2, .int x3] h) (Q d 285 71 [some (.ref x0), some (.ref x1), some (.ref x2), some (.int x3), some (.int x4), some (.int (nI 0))]) [.ref x1]
   else
    if x4 = nI 0 then
     ck (gC h x0) 2 <|
     cK (E d 237 [.ref x0, .int (nI 1)] h) (Q d 285 59 [some (.ref x0), some (.ref x1), some (.ref x2), some (.int x3), some (.int x4), some (.int (nI 0))]) []
    else
     if (nI 0) = nI 0 then
      ck (gC h x0) 2 <|
      (gR h 520 x0).bind fun y4 =>
       if x4 = nI 0 then
        ck (gC h y4) 12 <|
        cK (E d 279 [.ref y4, .ref x2, .int (nI 0)] h) (Q d 285 96 [some (.ref x0), some (.ref x1), some (.ref x2), none, some (.int x4), none]) []
       else
        ck (gC h y4) 12 <|
        cK (E d 279 [.ref y4, .ref x2, .int (x3 + (nI 1))] h) (Q d 285 96 [some (.ref x0), some (.ref x1), some (.ref x2), none, some (.int x4), none]) []
     else
      cK (E d 349 [.ref x2, .int x3] h) (Q d 285 71 [some (.ref x0), some (.ref x1), some (.ref x2), some (.int x3), some (.int x4), some (.int (nI 0))]) [.ref x1] := by
  rw [← hs.1]
  exact (blkM (fun p => Nat.beq p 59 || Nat.beq p 71 || Nat.beq p 96) 20 34 _ _ _).trans rfl

set_option maxRecDepth 16384 in
theorem t_285_118 {d : Nat} {h : AH} (hs : Sh h) (u0 : Option Value) (u1 : Option Value) (u2 : Option Value) (u3 : Option Value) (u4 : Option Value) (u5 : Option Value) (s0 : Int32) :
    Q d 285 118 [u0, u1, u2, u3, u4, u5] [.int s0] h =
  if s0 = 0 ∨ s0 = 1 then
   some (some (.int s0), h)
  else
   none := by
  rw [← hs.1]
  exact (blkM (fun p => false) 2 118 _ _ _).trans rfl

set_option maxRecDepth 16384 in
theorem t_285_59 {d : Nat} {h : AH} (hs : Sh h) (u0 : Option Value) (u1 : Option Value) (u2 : Option Value) (u3 : Option Value) (u4 : Option Value) (u5 : Option Value) (s0 : Int32) :
    Q d 285 59 [u0, u1, u2, u3, u4, u5] [.int s0] h =
  if s0 = 0 ∨ s0 = 1 then
   some (some (.int s0), h)
  else
   none := by
  rw [← hs.1]
  exact (blkM (fun p => false) 2 59 _ _ _).trans rfl

set_option maxRecDepth 16384 in
theorem t_285_71 {d : Nat} {h : AH} (hs : Sh h) (u0 : Option Value) (u1 : Option Value) (u2 : Option Value) (u3 : Option Value) (u4 : Option Value) (u5 : Option Value) (s0 : Nat) (s1 : Nat) :
    Q d 285 71 [u0, u1, u2, u3, u4, u5] [.ref s1, .ref s0] h =
  (ck (gC h s0) 11 <|
  some (some (.int (nI 1)), sR h 2816 s0 (some s1))) := by
  rw [← hs.1]
  exact (blkM (fun p => false) 4 71 _ _ _).trans rfl

set_option maxRecDepth 16384 in
theorem t_285_96 {d : Nat} {h : AH} (hs : Sh h) (x0 : Nat) (x1 : Nat) (x2 : Nat) (x4 : Int32) (u3 : Option Value) (u5 : Option Value) (s0 : Int32) :
    Q d 285 96 [some (.ref x0), some (.ref x1), some (.ref x2), u3, some (.int x4), u5] [.int s0] h =
  Q d 285 10 [some (.ref x0), some (.ref x1), some (.ref x2), some (.int s0), some (.int (x4 + nI 1)), none] [] h := by
  rw [← hs.1]
  exact (blkM (fun p => Nat.beq p 10) 5 96 _ _ _).trans rfl

/-! 286 PostRoom$Book.takesOffice()Z -/
set_option maxRecDepth 16384 in
theorem t_286 {d : Nat} {h : AH} (hs : Sh h) (x0 : Nat) :
    E (d + 1) 286 [.ref x0] h =
  (ck (gC h x0) 2 <|
  cK (E d 277 [.ref x0] h) (Q d 286 4 [some (.ref x0)]) []) := by
  rw [← hs.1]
  exact entL (l := [some (.ref x0)]) rfl rfl ((blkM (fun p => Nat.beq p 4) 3 0 _ _ _).trans rfl)

set_option maxRecDepth 16384 in
theorem t_286_4 {d : Nat} {h : AH} (hs : Sh h) (x0 : Nat) (s0 : Int32) :
    Q d 286 4 [some (.ref x0)] [.int s0] h =
  if s0 = nI 0 then
   some (some (.int (nI 0)), h)
  else
   ck (gC h x0) 2 <|
   (gR h 520 x0).bind fun y1 =>
    ck (gC h y1) 12 <|
    ck (gC h x0) 2 <|
    cK (E d 278 [.ref x0, .long (gL h 3078 y1)] h) (Q d 286 18 [some (.ref x0)]) [] := by
  rw [← hs.1]
  exact (blkM (fun p => Nat.beq p 18) 7 4 _ _ _).trans rfl

set_option maxRecDepth 16384 in
theorem t_286_18 {d : Nat} {h : AH} (hs : Sh h) (x0 : Nat) (s0 : Int32) :
    Q d 286 18 [some (.ref x0)] [.int s0] h =
  if s0 = (-1) then
   ck (gC h x0) 2 <|
   cK (E d 237 [.ref x0, .int (nI 2)] h) (Q d 286 27 [some (.ref x0)]) []
  else
   some (some (.int (nI 1)), h) := by
  rw [← hs.1]
  exact (blkM (fun p => Nat.beq p 27) 6 18 _ _ _).trans rfl

set_option maxRecDepth 16384 in
theorem t_286_27 {d : Nat} {h : AH} (hs : Sh h) (u0 : Option Value) (s0 : Int32) :
    Q d 286 27 [u0] [.int s0] h =
  if s0 = nI 0 then
   some (some (.int (nI 0)), h)
  else
   some (some (.int (nI 1)), h) := by
  rw [← hs.1]
  exact (blkM (fun p => false) 5 27 _ _ _).trans rfl

/-! 287 PostRoom$Book.readNumbers(LPostRoom$Street;)Z -/
set_option maxRecDepth 16384 in
theorem t_287 {d : Nat} {h : AH} (hs : Sh h) (x0 : Nat) (x1 : Nat) :
    E (d + 1) 287 [.ref x0, .ref x1] h =
  (ck (gC h x0) 2 <|
  (gR h 520 x0).bind fun y1 =>
   ck (gC h y1) 12 <|
   cK (E d 238 [.ref y1] h) (Q d 287 7 [some (.ref x0), some (.ref x1)]) []) := by
  rw [← hs.1]
  exact entL (l := [some (.ref x0), some (.ref x1)]) rfl rfl ((blkM (fun p => Nat.beq p 7) 4 0 _ _ _).trans rfl)

set_option maxRecDepth 16384 in
theorem t_287_7 {d : Nat} {h : AH} (hs : Sh h) (x0 : Nat) (x1 : Nat) :
    Q d 287 7 [some (.ref x0), some (.ref x1)] [] h =
  (ck (gC h x0) 2 <|
  (gR h 520 x0).bind fun y1 =>
   ck (gC h y1) 12 <|
   cK (E d 231 [.ref y1, .ref 3] h) (Q d 287 17 [some (.ref x0), some (.ref x1)]) [.ref x1]) := by
  rw [← hs.1]
  exact (blkM (fun p => Nat.beq p 17) 6 7 _ _ _).trans rfl

set_option maxRecDepth 16384 in
theorem t_287_17 {d : Nat} {h : AH} (hs : Sh h) (x0 : Nat) (x1 : Nat) (s0 : Nat) (s1 : Int32) :
    Q d 287 17 [some (.ref x0), some (.ref x1)] [.int s1, .ref s0] h =
  (ck (gC h s0) 11 <|
  ck (gC h x1) 11 <|
  if gI (sI h 2818 s0 s1) 2818 x1 = (-1) then
   ck (gC h x0) 2 <|
   cK (E d 237 [.ref x0, .int (nI 1)] (sI h 2818 s0 s1)) (Q d 287 33 [some (.ref x0), some (.ref x1)]) []
  else
   ck (gC h x1) 11 <|
   if gI (sI h 2818 s0 s1) 2818 x1 = nI 0 then
    ck (gC h x0) 2 <|
    cK (E d 280 [.ref x0, .int (nI 1), .int (nI 999)] (sI h 2818 s0 s1)) (Q d 287 58 [some (.ref x0), some (.ref x1)]) []
   else
    ck (gC h x0) 2 <|
    cK (E d 288 [.ref x0, .ref 4] (sI h 2818 s0 s1)) (Q d 287 47 [some (.ref x0), some (.ref x1)]) []) := by
  rw [← hs.1]
  exact (blkM (fun p => Nat.beq p 33 || Nat.beq p 47 || Nat.beq p 58) 13 17 _ _ _).trans rfl

set_option maxRecDepth 16384 in
theorem t_287_33 {d : Nat} {h : AH} (hs : Sh h) (u0 : Option Value) (u1 : Option Value) (s0 : Int32) :
    Q d 287 33 [u0, u1] [.int s0] h =
  if s0 = 0 ∨ s0 = 1 then
   some (some (.int s0), h)
  else
   none := by
  rw [← hs.1]
  exact (blkM (fun p => false) 2 33 _ _ _).trans rfl

set_option maxRecDepth 16384 in
theorem t_287_47 {d : Nat} {h : AH} (hs : Sh h) (x0 : Nat) (x1 : Nat) (s0 : Int32) :
    Q d 287 47 [some (.ref x0), some (.ref x1)] [.int s0] h =
  if s0 = nI 0 then
   some (some (.int (nI 0)), h)
  else
   ck (gC h x0) 2 <|
   cK (E d 280 [.ref x0, .int (nI 1), .int (nI 999)] h) (Q d 287 58 [some (.ref x0), some (.ref x1)]) [] := by
  rw [← hs.1]
  exact (blkM (fun p => Nat.beq p 58) 6 47 _ _ _).trans rfl

set_option maxRecDepth 16384 in
theorem t_287_58 {d : Nat} {h : AH} (hs : Sh h) (x0 : Nat) (x1 : Nat) (s0 : Int32) :
    Q d 287 58 [some (.ref x0), some (.ref x1)] [.int s0] h =
  if s0 = nI 0 then
   some (some (.int (nI 0)), h)
  else
   ck (gC h x0) 2 <|
   (gR h 520 x0).bind fun y1 =>
    ck (gC h y1) 12 <|
    ck (gC h x1) 11 <|
    ck (gC h x0) 2 <|
    cK (E d 288 [.ref x0, .ref 5] (sI h 2819 x1 (gI h 3077 y1))) (Q d 287 80 [some (.ref x0), some (.ref x1)]) [] := by
  rw [← hs.1]
  exact (blkM (fun p => Nat.beq p 80) 10 58 _ _ _).trans rfl

set_option maxRecDepth 16384 in
theorem t_287_80 {d : Nat} {h : AH} (hs : Sh h) (x0 : Nat) (x1 : Nat) (s0 : Int32) :
    Q d 287 80 [some (.ref x0), some (.ref x1)] [.int s0] h =
  if s0 = nI 0 then
   some (some (.int (nI 0)), h)
  else
   ck (gC h x1) 11 <|
   ck (gC h x0) 2 <|
   cK (E d 280 [.ref x0, .int (gI h 2819 x1), .int (nI 999)] h) (Q d 287 94 [some (.ref x0), some (.ref x1)]) [] := by
  rw [← hs.1]
  exact (blkM (fun p => Nat.beq p 94) 7 80 _ _ _).trans rfl

set_option maxRecDepth 16384 in
theorem t_287_94 {d : Nat} {h : AH} (hs : Sh h) (x0 : Nat) (x1 : Nat) (s0 : Int32) :
    Q d 287 94 [some (.ref x0), some (.ref x1)] [.int s0] h =
  if s0 = nI 0 then
   some (some (.int (nI 0)), h)
  else
   ck (gC h x0) 2 <|
   (gR h 520 x0).bind fun y1 =>
    ck (gC h y1) 12 <|
    ck (gC h x1) 11 <|
    some (some (.int (nI 1)), sI h 2820 x1 (gI h 3077 y1)) := by
  rw [← hs.1]
  exact (blkM (fun p => false) 9 94 _ _ _).trans rfl

/-! 288 PostRoom$Book.takesWord(Ljava/lang/String;)Z -/
set_option maxRecDepth 16384 in
theorem t_288 {d : Nat} {h : AH} (hs : Sh h) (x0 : Nat) (x1 : Nat) :
    E (d + 1) 288 [.ref x0, .ref x1] h =
  (ck (gC h x0) 2 <|
  (gR h 520 x0).bind fun y1 =>
   ck (gC h y1) 12 <|
   cK (E d 238 [.ref y1] h) (Q d 288 7 [some (.ref x0), some (.ref x1)]) []) := by
  rw [← hs.1]
  exact entL (l := [some (.ref x0), some (.ref x1)]) rfl rfl ((blkM (fun p => Nat.beq p 7) 4 0 _ _ _).trans rfl)

set_option maxRecDepth 16384 in
theorem t_288_7 {d : Nat} {h : AH} (hs : Sh h) (x0 : Nat) (x1 : Nat) :
    Q d 288 7 [some (.ref x0), some (.ref x1)] [] h =
  (ck (gC h x0) 2 <|
  (gR h 520 x0).bind fun y1 =>
   ck (gC h y1) 12 <|
   cK (E d 231 [.ref y1, .ref x1] h) (Q d 288 15 [some (.ref x0), some (.ref x1)]) []) := by
  rw [← hs.1]
  exact (blkM (fun p => Nat.beq p 15) 5 7 _ _ _).trans rfl

set_option maxRecDepth 16384 in
theorem t_288_15 {d : Nat} {h : AH} (hs : Sh h) (x0 : Nat) (u1 : Option Value) (s0 : Int32) :
    Q d 288 15 [some (.ref x0), u1] [.int s0] h =
  if s0 = nI 0 then
   some (some (.int (nI 1)), h)
  else
   ck (gC h x0) 2 <|
   cK (E d 237 [.ref x0, .int (nI 1)] h) (Q d 288 23 [some (.ref x0), u1]) [] := by
  rw [← hs.1]
  exact (blkM (fun p => Nat.beq p 23) 5 15 _ _ _).trans rfl

set_option maxRecDepth 16384 in
theorem t_288_23 {d : Nat} {h : AH} (hs : Sh h) (u0 : Option Value) (u1 : Option Value) (s0 : Int32) :
    Q d 288 23 [u0, u1] [.int s0] h =
  if s0 = nI 0 then
   some (some (.int (nI 0)), h)
  else
   some (some (.int (nI 1)), h) := by
  rw [← hs.1]
  exact (blkM (fun p => false) 5 23 _ _ _).trans rfl

/-! 289 PostRoom$Service.<init>()V -/
set_option maxRecDepth 16384 in
theorem t_289 {d : Nat} {h : AH} (hs : Sh h) (x0 : Nat) :
    E (d + 1) 289 [.ref x0] h =
  Q d 289 9 [some (.ref x0)] [.ref (gN h), .ref x0] (nwA h 60 8) := by
  rw [← hs.1]
  exact entL (l := [some (.ref x0)]) rfl rfl ((blkM (fun p => Nat.beq p 9) 7 0 _ _ _).trans rfl)

set_option maxRecDepth 16384 in
theorem t_289_9 {d : Nat} {h : AH} (hs : Sh h) (x0 : Nat) (s0 : Nat) (s1 : Nat) :
    Q d 289 9 [some (.ref x0)] [.ref s1, .ref s0] h =
  (ck (gC h s0) 10 <|
  Q d 289 17 [some (.ref x0)] [.ref (gN h), .ref x0] (nwA (sR h 2564 s0 (some s1)) 60 8)) := by
  rw [← hs.1]
  exact (blkM (fun p => Nat.beq p 17) 6 9 _ _ _).trans rfl

set_option maxRecDepth 16384 in
theorem t_289_17 {d : Nat} {h : AH} (hs : Sh h) (x0 : Nat) (s0 : Nat) (s1 : Nat) :
    Q d 289 17 [some (.ref x0)] [.ref s1, .ref s0] h =
  (ck (gC h s0) 10 <|
  Q d 289 25 [some (.ref x0)] [.ref (gN h), .ref x0] (nwA (sR h 2565 s0 (some s1)) 60 8)) := by
  rw [← hs.1]
  exact (blkM (fun p => Nat.beq p 25) 6 17 _ _ _).trans rfl

set_option maxRecDepth 16384 in
theorem t_289_25 {d : Nat} {h : AH} (hs : Sh h) (x0 : Nat) (s0 : Nat) (s1 : Nat) :
    Q d 289 25 [some (.ref x0)] [.ref s1, .ref s0] h =
  (ck (gC h s0) 10 <|
  Q d 289 33 [some (.ref x0)] [.ref (gN h), .ref x0] (nwA (sR h 2566 s0 (some s1)) 60 8)) := by
  rw [← hs.1]
  exact (blkM (fun p => Nat.beq p 33) 6 25 _ _ _).trans rfl

set_option maxRecDepth 16384 in
theorem t_289_33 {d : Nat} {h : AH} (hs : Sh h) (u0 : Option Value) (s0 : Nat) (s1 : Nat) :
    Q d 289 33 [u0] [.ref s1, .ref s0] h =
  (ck (gC h s0) 10 <|
  some (none, sR h 2567 s0 (some s1))) := by
  rw [← hs.1]
  exact (blkM (fun p => false) 3 33 _ _ _).trans rfl

/-! 290 PostRoom$Book.hasServiceNamed(J)Z -/
set_option maxRecDepth 16384 in
theorem t_290 {d : Nat} {h : AH} (hs : Sh h) (x0 : Nat) (x1 : Int64) :
    E (d + 1) 290 [.ref x0, .long x1] h =
  Q d 290 2 [some (.ref x0), some (.long x1), none, some (.int (nI 0))] [] h := by
  rw [← hs.1]
  exact entL (l := [some (.ref x0), some (.long x1), none, none]) rfl rfl ((blkM (fun p => Nat.beq p 2) 4 0 _ _ _).trans rfl)

set_option maxRecDepth 16384 in
theorem t_290_2 {d : Nat} {h : AH} (hs : Sh h) (x0 : Nat) (x1 : Int64) (x3 : Int32) :
    Q d 290 2 [some (.ref x0), some (.long x1), none, some (.int x3)] [] h =
  (ck (gC h x0) 2 <|
  (gR h 514 x0).bind fun y1 =>
   ck (gC h y1) 1 <|
   cK (E d 213 [.ref y1] h) (Q d 290 10 [some (.ref x0), some (.long x1), none, some (.int x3)]) [.int x3]) := by
  rw [← hs.1]
  exact (blkM (fun p => Nat.beq p 10) 5 2 _ _ _).trans rfl

set_option maxRecDepth 16384 in
theorem t_290_10 {d : Nat} {h : AH} (hs : Sh h) (x0 : Nat) (x1 : Int64) (x3 : Int32) (s0 : Int32) (s1 : Int32) :
    Q d 290 10 [some (.ref x0), some (.long x1), none, some (.int x3)] [.int s1, .int s0] h =
  if s0 < s1 then
   ck (gC h x0) 2 <|
   (gR h 514 x0).bind fun y1 =>
    ck (gC h y1) 1 <|
    cK (E d 212 [.ref y1, .int x3] h) (Q d 290 21 [some (.ref x0), some (.long x1), none, some (.int x3)]) []
  else
   some (some (.int (nI 0)), h) := by
  rw [← hs.1]
  exact (blkM (fun p => Nat.beq p 21) 6 10 _ _ _).trans rfl

set_option maxRecDepth 16384 in
theorem t_290_21 {d : Nat} {h : AH} (hs : Sh h) (x0 : Nat) (x1 : Int64) (x3 : Int32) (s0 : Nat) :
    Q d 290 21 [some (.ref x0), some (.long x1), none, some (.int x3)] [.ref s0] h =
  (ck (gC h s0) 10 <|
  ck (gC h s0) 10 <|
  if lg_cmp (gL h 2560 s0) x1 = nI 0 then
   some (some (.int (nI 1)), h)
  else
   Q d 290 2 [some (.ref x0), some (.long x1), none, some (.int (x3 + nI 1))] [] h) := by
  rw [← hs.1]
  exact (blkM (fun p => Nat.beq p 2) 9 21 _ _ _).trans rfl

/-! 291 PostRoom$Book.readRules(LPostRoom$Service;)Z -/
set_option maxRecDepth 16384 in
theorem t_291 {d : Nat} {h : AH} (hs : Sh h) (x0 : Nat) (x1 : Nat) :
    E (d + 1) 291 [.ref x0, .ref x1] h =
  Q d 291 2 [some (.ref x0), some (.ref x1), some (.int (nI 0)), none] [] h := by
  rw [← hs.1]
  exact entL (l := [some (.ref x0), some (.ref x1), none, none]) rfl rfl ((blkM (fun p => Nat.beq p 2) 4 0 _ _ _).trans rfl)

set_option maxRecDepth 16384 in
theorem t_291_2 {d : Nat} {h : AH} (hs : Sh h) (x0 : Nat) (x1 : Nat) (x2 : Int32) :
    Q d 291 2 [some (.ref x0), some (.ref x1), some (.int x2), none] [] h =
  if (nI 8) < x2 then
   ck (gC h x0) 2 <|
   cK (E d 237 [.ref x0, .int (nI 1)] h) (Q d 291 85 [some (.ref x0), some (.ref x1), some (.int x2), none]) []
  else
   ck (gC h x0) 2 <|
   (gR h 520 x0).bind fun y1 =>
    ck (gC h y1) 12 <|
    cK (E d 238 [.ref y1] h) (Q d 291 15 [some (.ref x0), some (.ref x1), some (.int x2), none]) [] := by
  rw [← hs.1]
  exact (blkM (fun p => Nat.beq p 15 || Nat.beq p 85) 7 2 _ _ _).trans rfl

set_option maxRecDepth 16384 in
theorem t_291_15 {d : Nat} {h : AH} (hs : Sh h) (x0 : Nat) (x1 : Nat) (x2 : Int32) (u3 : Option Value) :
    Q d 291 15 [some (.ref x0), some (.ref x1), some (.int x2), u3] [] h =
  (ck (gC h x0) 2 <|
  (gR h 520 x0).bind fun y1 =>
   ck (gC h y1) 12 <|
   if gI h 3076 y1 = nI 59 then
    some (some (.int (nI 1)), h)
   else
    ck (gC h x0) 2 <|
    (gR h 520 x0).bind fun y2 =>
     ck (gC h y2) 12 <|
     cK (E d 231 [.ref y2, .ref 11] h) (Q d 291 38 [some (.ref x0), some (.ref x1), some (.int x2), u3]) []) := by
  rw [← hs.1]
  exact (blkM (fun p => Nat.beq p 38) 10 15 _ _ _).trans rfl

set_option maxRecDepth 16384 in
theorem t_291_85 {d : Nat} {h : AH} (hs : Sh h) (u0 : Option Value) (u1 : Option Value) (u2 : Option Value) (u3 : Option Value) (s0 : Int32) :
    Q d 291 85 [u0, u1, u2, u3] [.int s0] h =
  if s0 = 0 ∨ s0 = 1 then
   some (some (.int s0), h)
  else
   none := by
  rw [← hs.1]
  exact (blkM (fun p => false) 2 85 _ _ _).trans rfl

set_option maxRecDepth 16384 in
theorem t_291_38 {d : Nat} {h : AH} (hs : Sh h) (x0 : Nat) (x1 : Nat) (x2 : Int32) (u3 : Option Value) (s0 : Int32) :
    Q d 291 38 [some (.ref x0), some (.ref x1), some (.int x2), u3] [.int s0] h =
  if s0 = (-1) then
   ck (gC h x0) 2 <|
   cK (E d 237 [.ref x0, .int (nI 1)] h) (Q d 291 49 [some (.ref x0), some (.ref x1), some (.int x2), some (.int s0)]) []
  else
   if x2 < nI 8 then
    ck (gC h x0) 2 <|
    cK (E d 350 [.ref x0, .ref x1, .int x2, .int s0] h) (Q d 291 69 [some (.ref x0), some (.ref x1), some (.int x2), some (.int s0)]) []
   else
    ck (gC h x0) 2 <|
    cK (E d 237 [.ref x0, .int (nI 5)] h) (Q d 291 61 [some (.ref x0), some (.ref x1), some (.int x2), some (.int s0)]) [] := by
  rw [← hs.1]
  exact (blkM (fun p => Nat.beq p 49 || Nat.beq p 61 || Nat.beq p 69) 13 38 _ _ _).trans rfl

set_option maxRecDepth 16384 in
theorem t_291_49 {d : Nat} {h : AH} (hs : Sh h) (u0 : Option Value) (u1 : Option Value) (u2 : Option Value) (u3 : Option Value) (s0 : Int32) :
    Q d 291 49 [u0, u1, u2, u3] [.int s0] h =
  if s0 = 0 ∨ s0 = 1 then
   some (some (.int s0), h)
  else
   none := by
  rw [← hs.1]
  exact (blkM (fun p => false) 2 49 _ _ _).trans rfl

set_option maxRecDepth 16384 in
theorem t_291_61 {d : Nat} {h : AH} (hs : Sh h) (u0 : Option Value) (u1 : Option Value) (u2 : Option Value) (u3 : Option Value) (s0 : Int32) :
    Q d 291 61 [u0, u1, u2, u3] [.int s0] h =
  if s0 = 0 ∨ s0 = 1 then
   some (some (.int s0), h)
  else
   none := by
  rw [← hs.1]
  exact (blkM (fun p => false) 2 61 _ _ _).trans rfl

set_option maxRecDepth 16384 in
theorem t_291_69 {d : Nat} {h : AH} (hs : Sh h) (x0 : Nat) (x1 : Nat) (x2 : Int32) (u3 : Option Value) (s0 : Int32) :
    Q d 291 69 [some (.ref x0), some (.ref x1), some (.int x2), u3] [.int s0] h =
  if s0 = nI 0 then
   some (some (.int (nI 0)), h)
  else
   Q d 291 2 [some (.ref x0), some (.ref x1), some (.int (x2 + nI 1)), none] [] h := by
  rw [← hs.1]
  exact (blkM (fun p => Nat.beq p 2) 5 69 _ _ _).trans rfl

/-! 292 PostRoom$Coach.<init>()V -/
set_option maxRecDepth 16384 in
theorem t_292 {d : Nat} {h : AH} (hs : Sh h) (x0 : Nat) :
    E (d + 1) 292 [.ref x0] h =
  (ck (gC h x0) 3 <|
  Q d 292 13 [some (.ref x0)] [.ref (gN h), .ref x0] (nwO (sI h 771 x0 (nI 1)) 1 3)) := by
  rw [← hs.1]
  exact entL (l := [some (.ref x0)]) rfl rfl ((blkM (fun p => Nat.beq p 13) 9 0 _ _ _).trans rfl)

set_option maxRecDepth 16384 in
theorem t_292_13 {d : Nat} {h : AH} (hs : Sh h) (u0 : Option Value) (s0 : Nat) (s1 : Nat) :
    Q d 292 13 [u0] [.ref s1, .ref s0] h =
  cK (E d 226 [.ref s1] h) (Q d 292 17 [u0]) [.ref s1, .ref s0] := by
  rw [← hs.1]
  exact (blkM (fun p => Nat.beq p 17) 3 13 _ _ _).trans rfl

set_option maxRecDepth 16384 in
theorem t_292_17 {d : Nat} {h : AH} (hs : Sh h) (u0 : Option Value) (s0 : Nat) (s1 : Nat) :
    Q d 292 17 [u0] [.ref s1, .ref s0] h =
  (ck (gC h s0) 3 <|
  some (none, sR h 775 s0 (some s1))) := by
  rw [← hs.1]
  exact (blkM (fun p => false) 3 17 _ _ _).trans rfl

/-! 293 PostRoom$Book.readTimes(LPostRoom$Coach;)Z -/
set_option maxRecDepth 16384 in
theorem t_293 {d : Nat} {h : AH} (hs : Sh h) (x0 : Nat) (x1 : Nat) :
    E (d + 1) 293 [.ref x0, .ref x1] h =
  (ck (gC h x0) 2 <|
  cK (E d 288 [.ref x0, .ref 13] h) (Q d 293 7 [some (.ref x0), some (.ref x1)]) []) := by
  rw [← hs.1]
  exact entL (l := [some (.ref x0), some (.ref x1)]) rfl rfl ((blkM (fun p => Nat.beq p 7) 4 0 _ _ _).trans rfl)

set_option maxRecDepth 16384 in
theorem t_293_7 {d : Nat} {h : AH} (hs : Sh h) (x0 : Nat) (x1 : Nat) (s0 : Int32) :
    Q d 293 7 [some (.ref x0), some (.ref x1)] [.int s0] h =
  if s0 = nI 0 then
   some (some (.int (nI 0)), h)
  else
   ck (gC h x0) 2 <|
   cK (E d 280 [.ref x0, .int (nI 0), .int (nI 1439)] h) (Q d 293 18 [some (.ref x0), some (.ref x1)]) [] := by
  rw [← hs.1]
  exact (blkM (fun p => Nat.beq p 18) 6 7 _ _ _).trans rfl

set_option maxRecDepth 16384 in
theorem t_293_18 {d : Nat} {h : AH} (hs : Sh h) (x0 : Nat) (x1 : Nat) (s0 : Int32) :
    Q d 293 18 [some (.ref x0), some (.ref x1)] [.int s0] h =
  if s0 = nI 0 then
   some (some (.int (nI 0)), h)
  else
   ck (gC h x0) 2 <|
   (gR h 520 x0).bind fun y1 =>
    ck (gC h y1) 12 <|
    ck (gC h x1) 3 <|
    ck (gC h x0) 2 <|
    cK (E d 288 [.ref x0, .ref 14] (sI h 770 x1 (gI h 3077 y1))) (Q d 293 41 [some (.ref x0), some (.ref x1)]) [] := by
  rw [← hs.1]
  exact (blkM (fun p => Nat.beq p 41) 10 18 _ _ _).trans rfl

set_option maxRecDepth 16384 in
theorem t_293_41 {d : Nat} {h : AH} (hs : Sh h) (x0 : Nat) (x1 : Nat) (s0 : Int32) :
    Q d 293 41 [some (.ref x0), some (.ref x1)] [.int s0] h =
  if s0 = nI 0 then
   some (some (.int (nI 0)), h)
  else
   ck (gC h x0) 2 <|
   cK (E d 280 [.ref x0, .int (nI 1), .int (nI 1440)] h) (Q d 293 52 [some (.ref x0), some (.ref x1)]) [] := by
  rw [← hs.1]
  exact (blkM (fun p => Nat.beq p 52) 6 41 _ _ _).trans rfl

set_option maxRecDepth 16384 in
theorem t_293_52 {d : Nat} {h : AH} (hs : Sh h) (x0 : Nat) (x1 : Nat) (s0 : Int32) :
    Q d 293 52 [some (.ref x0), some (.ref x1)] [.int s0] h =
  if s0 = nI 0 then
   some (some (.int (nI 0)), h)
  else
   ck (gC h x0) 2 <|
   (gR h 520 x0).bind fun y1 =>
    ck (gC h y1) 12 <|
    ck (gC h x1) 3 <|
    ck (gC h x0) 2 <|
    cK (E d 288 [.ref x0, .ref 15] (sI h 771 x1 (gI h 3077 y1))) (Q d 293 75 [some (.ref x0), some (.ref x1)]) [] := by
  rw [← hs.1]
  exact (blkM (fun p => Nat.beq p 75) 10 52 _ _ _).trans rfl

set_option maxRecDepth 16384 in
theorem t_293_75 {d : Nat} {h : AH} (hs : Sh h) (x0 : Nat) (x1 : Nat) (s0 : Int32) :
    Q d 293 75 [some (.ref x0), some (.ref x1)] [.int s0] h =
  if s0 = nI 0 then
   some (some (.int (nI 0)), h)
  else
   ck (gC h x1) 3 <|
   ck (gC h x0) 2 <|
   cK (E d 280 [.ref x0, .int (gI h 770 x1), .int (nI 1439)] h) (Q d 293 89 [some (.ref x0), some (.ref x1)]) [] := by
  rw [← hs.1]
  exact (blkM (fun p => Nat.beq p 89) 7 75 _ _ _).trans rfl

set_option maxRecDepth 16384 in
theorem t_293_89 {d : Nat} {h : AH} (hs : Sh h) (x0 : Nat) (x1 : Nat) (s0 : Int32) :
    Q d 293 89 [some (.ref x0), some (.ref x1)] [.int s0] h =
  if s0 = nI 0 then
   some (some (.int (nI 0)), h)
  else
   ck (gC h x0) 2 <|
   (gR h 520 x0).bind fun y1 =>
    ck (gC h y1) 12 <|
    ck (gC h x1) 3 <|
    some (some (.int (nI 1)), sI h 772 x1 (gI h 3077 y1)) := by
  rw [← hs.1]
  exact (blkM (fun p => false) 9 89 _ _ _).trans rfl

/-! 294 PostRoom$Tape.codeOf(C)I -/
set_option maxRecDepth 16384 in
theorem t_294 {d : Nat} {h : AH} (hs : Sh h) (x0 : Int32) :
    E (d + 1) 294 [.int x0] h =
  if x0 < nI 97 then
   if x0 < nI 48 then
    some (some (.int (nI 0)), h)
   else
    if (nI 57) < x0 then
     some (some (.int (nI 0)), h)
    else
     some (some (.int ((x0 - (nI 48)) + (nI 27))), h)
  else
   if (nI 122) < x0 then
    if x0 < nI 48 then
     some (some (.int (nI 0)), h)
    else
     if (nI 57) < x0 then
      some (some (.int (nI 0)), h)
     else
      some (some (.int ((x0 - (nI 48)) + (nI 27))), h)
   else
    some (some (.int ((x0 - (nI 97)) + (nI 1))), h) := by
  rw [← hs.1]
  exact entL (l := [some (.int x0)]) rfl rfl ((blkM (fun p => false) 20 0 _ _ _).trans rfl)

/-! 295 java/lang/String.indexOf(I)I -/
set_option maxRecDepth 16384 in
theorem t_295 {d : Nat} {h : AH} (hs : Sh h) (x0 : Nat) (x1 : Int32) :
    E (d + 1) 295 [.ref x0, .int x1] h =
  (ck (gC h x0) 15 <|
  cK (E d 351 [.ref x0, .int x1, .int (nI 0)] h) (Q d 295 6 [some (.ref x0), some (.int x1)]) []) := by
  rw [← hs.1]
  exact entL (l := [some (.ref x0), some (.int x1)]) rfl rfl ((blkM (fun p => Nat.beq p 6) 5 0 _ _ _).trans rfl)

set_option maxRecDepth 16384 in
theorem t_295_6 {d : Nat} {h : AH} (hs : Sh h) (u0 : Option Value) (u1 : Option Value) (s0 : Int32) :
    Q d 295 6 [u0, u1] [.int s0] h =
  some (some (.int s0), h) := by
  rw [← hs.1]
  exact (blkM (fun p => false) 2 6 _ _ _).trans rfl

/-! 296 PostRoom$Finder.plainCode(C)I -/
set_option maxRecDepth 16384 in
theorem t_296 {d : Nat} {h : AH} (hs : Sh h) (x0 : Int32) :
    E (d + 1) 296 [.int x0] h =
  if x0 < nI 65 then
   cK (E d 294 [.int x0] h) (Q d 296 25 [none]) []
  else
   if (nI 90) < x0 then
    cK (E d 294 [.int x0] h) (Q d 296 25 [none]) []
   else
    Q d 296 25 [none] [.int ((x0 - (nI 65)) + (nI 1))] h := by
  rw [← hs.1]
  exact entL (l := [some (.int x0)]) rfl rfl ((blkM (fun p => Nat.beq p 25) 14 0 _ _ _).trans rfl)

set_option maxRecDepth 16384 in
theorem t_296_25 {d : Nat} {h : AH} (hs : Sh h) (s0 : Int32) :
    Q d 296 25 [none] [.int s0] h =
  some (some (.int s0), h) := by
  rw [← hs.1]
  exact (blkM (fun p => false) 2 25 _ _ _).trans rfl

/-! 297 PostRoom$Finder.addWord(LPostRoom$Tape;IILPostRoom$Book;)V -/
set_option maxRecDepth 16384 in
theorem t_297 {d : Nat} {h : AH} (hs : Sh h) (x1 : Nat) (x2 : Int32) (x3 : Int32) (x4 : Nat) :
    E (d + 1) 297 [.ref 103, .ref x1, .int x2, .int x3, .ref x4] h =
  if gI h 1028 103 = nI 0 then
   Q d 297 24 [some (.ref 103), some (.ref x1), some (.int x2), some (.int x3), some (.ref x4), none, none, none, none, none] [.int (nI 0)] h
  else
   gd ((gI h 1028 103) - (nI 1)) 41 <|
   Q d 297 24 [some (.ref 103), some (.ref x1), some (.int x2), some (.int x3), some (.ref x4), none, none, none, none, none] [.int ((gA h 106 (ix ((gI h 1028 103) - (nI 1)))) + (nI 1))] h := by
  rw [← hs.1]
  exact entL (l := [some (.ref 103), some (.ref x1), some (.int x2), some (.int x3), some (.ref x4), none, none, none, none, none]) rfl rfl ((blkM (fun p => Nat.beq p 24) 14 0 _ _ _).trans rfl)

set_option maxRecDepth 16384 in
theorem t_297_24 {d : Nat} {h : AH} (hs : Sh h) (x1 : Nat) (x2 : Int32) (x3 : Int32) (x4 : Nat) (s0 : Int32) :
    Q d 297 24 [some (.ref 103), some (.ref x1), some (.int x2), some (.int x3), some (.ref x4), none, none, none, none, none] [.int s0] h =
  if (nI 0) < s0 then
   gd (s0 - (nI 1)) 613 <|
   Q d 297 51 [some (.ref 103), some (.ref x1), some (.int x2), some (.int x3), some (.ref x4), some (.int s0), some (.int s0), some (.long 0), none, some (.int x2)] [] (sA h 104 (ix (s0 - (nI 1))) (nI 0))
  else
   Q d 297 51 [some (.ref 103), some (.ref x1), some (.int x2), some (.int x3), some (.ref x4), some (.int s0), some (.int s0), some (.long 0), none, some (.int x2)] [] h := by
  rw [← hs.1]
  exact (blkM (fun p => Nat.beq p 51) 18 24 _ _ _).trans rfl

set_option maxRecDepth 16384 in
theorem t_297_51 {d : Nat} {h : AH} (hs : Sh h) (x1 : Nat) (x2 : Int32) (x3 : Int32) (x4 : Nat) (x5 : Int32) (x6 : Int32) (x7 : Int64) (x9 : Int32) :
    Q d 297 51 [some (.ref 103), some (.ref x1), some (.int x2), some (.int x3), some (.ref x4), some (.int x5), some (.int x6), some (.long x7), none, some (.int x9)] [] h =
  if x9 < x3 then
   ck (gC h x1) 12 <|
   (gR h 3072 x1).bind fun y1 =>
    ck (gC h y1) 62 <|
    gd x9 (gK h y1) <|
    cK (E d 296 [.int (gA h y1 (ix x9))] h) (Q d 297 73 [some (.ref 103), some (.ref x1), some (.int x2), some (.int x3), some (.ref x4), some (.int x5), some (.int x6), some (.long x7), none, some (.int x9)]) [.int x6, .ref 104]
  else
   if (nI 12) < x3 - x2 then
    gd (gI h 1028 103) 41 <|
    if ((-1) : Int32) = (-1) then
     gd (gI h 1028 103) 41 <|
     some (none, sI (sA (sA h 105 (ix (gI h 1028 103)) x5) 106 (ix (gI h 1028 103)) x6) 1028 103 ((gI h 1028 103) + (nI 1)))
    else
     ck (gC h x4) 2 <|
     (gR h 517 x4).bind fun y2 =>
      ck (gC h y2) 61 <|
      gd ((-1) : Int32) (gK h y2) <|
      cK (E d 352 [.ref 103, .long (gB h y2 (ix ((-1) : Int32))), .int x5] (sA h 105 (ix (gI h 1028 103)) x5)) (Q d 297 167 [some (.ref 103), none, none, none, some (.ref x4), some (.int x5), some (.int x6), none, none, some (.int (-1))]) [.int x5, .int (gI h 1028 103), .ref 106]
   else
    ck (gC h x4) 2 <|
    cK (E d 283 [.ref x4, .long x7] h) (Q d 297 115 [some (.ref 103), some (.ref x1), some (.int x2), some (.int x3), some (.ref x4), some (.int x5), some (.int x6), some (.long x7), none, some (.int x9)]) [] := by
  rw [← hs.1]
  exact (blkM (fun p => Nat.beq p 73 || Nat.beq p 115 || Nat.beq p 167) 34 51 _ _ _).trans rfl

set_option maxRecDepth 16384 in
theorem t_297_73 {d : Nat} {h : AH} (hs : Sh h) (x1 : Nat) (x2 : Int32) (x3 : Int32) (x4 : Nat) (x5 : Int32) (x6 : Int32) (x7 : Int64) (x9 : Int32) (s0 : Nat) (s1 : Int32) (s2 : Int32) :
    Q d 297 73 [some (.ref 103), some (.ref x1), some (.int x2), some (.int x3), some (.ref x4), some (.int x5), some (.int x6), some (.long x7), none, some (.int x9)] [.int s2, .int s1, .ref s0] h =
  (cw (gC h s0) 60 s0 <|
  gd s1 (gK h s0) <|
  gd x6 613 <|
  Q d 297 51 [some (.ref 103), some (.ref x1), some (.int x2), some (.int x3), some (.ref x4), some (.int x5), some (.int (x6 + nI 1)), some (.long ((x7 * 37) + ((gA (sA h s0 (ix s1) s2) 104 (ix x6)).toInt64))), none, some (.int (x9 + nI 1))] [] (sA h s0 (ix s1) s2)) := by
  rw [← hs.1]
  exact (blkM (fun p => Nat.beq p 51) 16 73 _ _ _).trans rfl

set_option maxRecDepth 16384 in
theorem t_297_115 {d : Nat} {h : AH} (hs : Sh h) (x4 : Nat) (x5 : Int32) (x6 : Int32) (u1 : Option Value) (u2 : Option Value) (u3 : Option Value) (u7 : Option Value) (u8 : Option Value) (u9 : Option Value) (s0 : Int32) :
    Q d 297 115 [some (.ref 103), u1, u2, u3, some (.ref x4), some (.int x5), some (.int x6), u7, u8, u9] [.int s0] h =
  (gd (gI h 1028 103) 41 <|
  if s0 = (-1) then
   gd (gI h 1028 103) 41 <|
   some (none, sI (sA (sA h 105 (ix (gI h 1028 103)) x5) 106 (ix (gI h 1028 103)) x6) 1028 103 ((gI h 1028 103) + (nI 1)))
  else
   ck (gC h x4) 2 <|
   (gR h 517 x4).bind fun y1 =>
    ck (gC h y1) 61 <|
    gd s0 (gK h y1) <|
    cK (E d 352 [.ref 103, .long (gB h y1 (ix s0)), .int x5] (sA h 105 (ix (gI h 1028 103)) x5)) (Q d 297 167 [some (.ref 103), none, none, none, some (.ref x4), some (.int x5), some (.int x6), none, none, some (.int s0)]) [.int x5, .int (gI h 1028 103), .ref 106]) := by
  rw [← hs.1]
  exact (blkM (fun p => Nat.beq p 167) 26 115 _ _ _).trans rfl

set_option maxRecDepth 16384 in
theorem t_297_167 {d : Nat} {h : AH} (hs : Sh h) (u1 : Option Value) (u2 : Option Value) (u3 : Option Value) (u4 : Option Value) (u5 : Option Value) (u6 : Option Value) (u7 : Option Value) (u8 : Option Value) (u9 : Option Value) (s0 : Nat) (s1 : Int32) (s2 : Int32) (s3 : Int32) :
    Q d 297 167 [some (.ref 103), u1, u2, u3, u4, u5, u6, u7, u8, u9] [.int s3, .int s2, .int s1, .ref s0] h =
  (cw (gC h s0) 60 s0 <|
  gd s1 (gK h s0) <|
  some (none, sI (sA h s0 (ix s1) (s2 + s3)) 1028 103 ((gI h 1028 103) + (nI 1)))) := by
  rw [← hs.1]
  exact (blkM (fun p => false) 10 167 _ _ _).trans rfl

/-! 298 PostRoom$Street.fits(I)Z -/
set_option maxRecDepth 16384 in
theorem t_298 {d : Nat} {h : AH} (hs : Sh h) (x0 : Nat) (x1 : Int32) :
    E (d + 1) 298 [.ref x0, .int x1] h =
  (ck (gC h x0) 11 <|
  if x1 < gI h 2819 x0 then
   some (some (.int (nI 0)), h)
  else
   ck (gC h x0) 11 <|
   if gI h 2820 x0 < x1 then
    some (some (.int (nI 0)), h)
   else
    ck (gC h x0) 11 <|
    if gI h 2818 x0 = nI 0 then
     some (some (.int (nI 1)), h)
    else
     dz (nI 2) <|
     ck (gC h x0) 11 <|
     dz (nI 2) <|
     if x1 - x1 / (nI 2) * (nI 2) = (gI h 2818 x0) - (gI h 2818 x0) / (nI 2) * (nI 2) then
      some (some (.int (nI 1)), h)
     else
      some (some (.int (nI 0)), h)) := by
  rw [← hs.1]
  exact entL (l := [some (.ref x0), some (.int x1)]) rfl rfl ((blkM (fun p => false) 23 0 _ _ _).trans rfl)

/-! 299 PostRoom$Finder.farOf(LPostRoom$Street;LPostRoom$Office;)I -/
set_option maxRecDepth 16384 in
theorem t_299 {d : Nat} {h : AH} (hs : Sh h) (x1 : Nat) (x2 : Nat) :
    E (d + 1) 299 [.ref 103, .ref x1, .ref x2] h =
  if gI h 1029 103 = (-1) then
   Q d 299 75 [some (.ref 103), some (.ref x1), some (.ref x2), some (.int (nI 99)), some (.int (nI 2)), none] [] h
  else
   if (gI h 1029 103) + (nI 1) < gI h 1028 103 then
    ck (gC h x2) 7 <|
    (gR h 1793 x2).bind fun y1 =>
     cK (E d 353 [.ref 103, .ref y1, .int ((gI h 1029 103) + (nI 1)), .int (gI h 1028 103)] h) (Q d 299 39 [some (.ref 103), some (.ref x1), some (.ref x2), none, none, none]) []
   else
    ck (gC h x1) 11 <|
    (gR h 2816 x1).bind fun y2 =>
     cK (E d 353 [.ref 103, .ref y2, .int (nI 1), .int (gI h 1029 103)] h) (Q d 299 57 [some (.ref 103), some (.ref x1), some (.ref x2), some (.int (nI 0)), none, none]) [] := by
  rw [← hs.1]
  exact entL (l := [some (.ref 103), some (.ref x1), some (.ref x2), none, none, none]) rfl rfl ((blkM (fun p => Nat.beq p 39 || Nat.beq p 57 || Nat.beq p 75) 22 0 _ _ _).trans rfl)

set_option maxRecDepth 16384 in
theorem t_299_39 {d : Nat} {h : AH} (hs : Sh h) (x1 : Nat) (x2 : Nat) (u3 : Option Value) (u4 : Option Value) (u5 : Option Value) (s0 : Int32) :
    Q d 299 39 [some (.ref 103), some (.ref x1), some (.ref x2), u3, u4, u5] [.int s0] h =
  (ck (gC h x1) 11 <|
  (gR h 2816 x1).bind fun y1 =>
   cK (E d 353 [.ref 103, .ref y1, .int (nI 1), .int (gI h 1029 103)] h) (Q d 299 57 [some (.ref 103), some (.ref x1), some (.ref x2), some (.int s0), none, none]) []) := by
  rw [← hs.1]
  exact (blkM (fun p => Nat.beq p 57) 10 39 _ _ _).trans rfl

set_option maxRecDepth 16384 in
theorem t_299_57 {d : Nat} {h : AH} (hs : Sh h) (x2 : Nat) (x3 : Int32) (u1 : Option Value) (u4 : Option Value) (u5 : Option Value) (s0 : Int32) :
    Q d 299 57 [some (.ref 103), u1, some (.ref x2), some (.int x3), u4, u5] [.int s0] h =
  (ck (gC h x2) 7 <|
  cK (E d 354 [.ref 103, .int (gI h 1794 x2)] h) (Q d 299 67 [some (.ref 103), u1, some (.ref x2), some (.int x3), u4, u5]) [.int (s0 + x3)]) := by
  rw [← hs.1]
  exact (blkM (fun p => Nat.beq p 67) 7 57 _ _ _).trans rfl

set_option maxRecDepth 16384 in
theorem t_299_75 {d : Nat} {h : AH} (hs : Sh h) (x1 : Nat) (x2 : Nat) (x3 : Int32) (x4 : Int32) :
    Q d 299 75 [some (.ref 103), some (.ref x1), some (.ref x2), some (.int x3), some (.int x4), none] [] h =
  if x4 < gI h 1028 103 then
   ck (gC h x1) 11 <|
   (gR h 2816 x1).bind fun y1 =>
    cK (E d 353 [.ref 103, .ref y1, .int (nI 1), .int x4] h) (Q d 299 95 [some (.ref 103), some (.ref x1), some (.ref x2), some (.int x3), some (.int x4), none]) []
  else
   some (some (.int x3), h) := by
  rw [← hs.1]
  exact (blkM (fun p => Nat.beq p 95) 11 75 _ _ _).trans rfl

set_option maxRecDepth 16384 in
theorem t_299_67 {d : Nat} {h : AH} (hs : Sh h) (u0 : Option Value) (u1 : Option Value) (u2 : Option Value) (u3 : Option Value) (u4 : Option Value) (u5 : Option Value) (s0 : Int32) (s1 : Int32) :
    Q d 299 67 [u0, u1, u2, u3, u4, u5] [.int s1, .int s0] h =
  some (some (.int (s0 + s1)), h) := by
  rw [← hs.1]
  exact (blkM (fun p => false) 3 67 _ _ _).trans rfl

set_option maxRecDepth 16384 in
theorem t_299_95 {d : Nat} {h : AH} (hs : Sh h) (x1 : Nat) (x2 : Nat) (x3 : Int32) (x4 : Int32) (u5 : Option Value) (s0 : Int32) :
    Q d 299 95 [some (.ref 103), some (.ref x1), some (.ref x2), some (.int x3), some (.int x4), u5] [.int s0] h =
  if s0 < x3 then
   ck (gC h x2) 7 <|
   (gR h 1793 x2).bind fun y1 =>
    cK (E d 353 [.ref 103, .ref y1, .int x4, .int (gI h 1028 103)] h) (Q d 299 120 [some (.ref 103), some (.ref x1), some (.ref x2), some (.int x3), some (.int x4), some (.int s0)]) [.int s0, .int x3]
  else
   Q d 299 75 [some (.ref 103), some (.ref x1), some (.ref x2), some (.int x3), some (.int (x4 + nI 1)), none] [] h := by
  rw [← hs.1]
  exact (blkM (fun p => Nat.beq p 75 || Nat.beq p 120) 14 95 _ _ _).trans rfl

set_option maxRecDepth 16384 in
theorem t_299_120 {d : Nat} {h : AH} (hs : Sh h) (x1 : Nat) (x2 : Nat) (x4 : Int32) (u3 : Option Value) (u5 : Option Value) (s0 : Int32) (s1 : Int32) (s2 : Int32) :
    Q d 299 120 [some (.ref 103), some (.ref x1), some (.ref x2), u3, some (.int x4), u5] [.int s2, .int s1, .int s0] h =
  cK (E d 302 [.int s0, .int (s1 + s2)] h) (Q d 299 124 [some (.ref 103), some (.ref x1), some (.ref x2), u3, some (.int x4), u5]) [] := by
  rw [← hs.1]
  exact (blkM (fun p => Nat.beq p 124) 3 120 _ _ _).trans rfl

set_option maxRecDepth 16384 in
theorem t_299_124 {d : Nat} {h : AH} (hs : Sh h) (x1 : Nat) (x2 : Nat) (x4 : Int32) (u3 : Option Value) (u5 : Option Value) (s0 : Int32) :
    Q d 299 124 [some (.ref 103), some (.ref x1), some (.ref x2), u3, some (.int x4), u5] [.int s0] h =
  Q d 299 75 [some (.ref 103), some (.ref x1), some (.ref x2), some (.int s0), some (.int (x4 + nI 1)), none] [] h := by
  rw [← hs.1]
  exact (blkM (fun p => Nat.beq p 75) 5 124 _ _ _).trans rfl

/-! 300 PostRoom$Item.valueAt([II)I -/
set_option maxRecDepth 16384 in
theorem t_300 {d : Nat} {h : AH} (hs : Sh h) (x0 : Nat) (x1 : Int32) :
    E (d + 1) 300 [.ref x0, .int x1] h =
  Q d 300 4 [some (.ref x0), some (.int x1), some (.int (nI 0)), some (.int (nI 0))] [] h := by
  rw [← hs.1]
  exact entL (l := [some (.ref x0), some (.int x1), none, none]) rfl rfl ((blkM (fun p => Nat.beq p 4) 6 0 _ _ _).trans rfl)

set_option maxRecDepth 16384 in
theorem t_300_4 {d : Nat} {h : AH} (hs : Sh h) (x0 : Nat) (x1 : Int32) (x2 : Int32) (x3 : Int32) :
    Q d 300 4 [some (.ref x0), some (.int x1), some (.int x2), some (.int x3)] [] h =
  if x3 < nI 11 then
   cK (E d 355 [.int x2, .int x1] h) (Q d 300 15 [some (.ref x0), some (.int x1), some (.int x2), some (.int x3)]) []
  else
   some (some (.int x2), h) := by
  rw [← hs.1]
  exact (blkM (fun p => Nat.beq p 15) 7 4 _ _ _).trans rfl

set_option maxRecDepth 16384 in
theorem t_300_15 {d : Nat} {h : AH} (hs : Sh h) (x0 : Nat) (x1 : Int32) (x3 : Int32) (u2 : Option Value) (s0 : Int32) :
    Q d 300 15 [some (.ref x0), some (.int x1), u2, some (.int x3)] [.int s0] h =
  (ck (gC h x0) 60 <|
  gd x3 (gK h x0) <|
  Q d 300 4 [some (.ref x0), some (.int x1), some (.int (s0 ^^^ (gA h x0 (ix x3)))), some (.int (x3 + nI 1))] [] h) := by
  rw [← hs.1]
  exact (blkM (fun p => Nat.beq p 4) 9 15 _ _ _).trans rfl

/-! 301 PostRoom$Item.clearColumn([[III)Z -/
set_option maxRecDepth 16384 in
theorem t_301 {d : Nat} {h : AH} (hs : Sh h) (x0 : Nat) (x1 : Int32) (x2 : Int32) :
    E (d + 1) 301 [.ref x0, .int x1, .int x2] h =
  (ck (gC h x0) 66 <|
  gd x1 (gK h x0) <|
  (gO h x0 (ix x1)).bind fun y1 =>
   ck (gC h y1) 60 <|
   gd x1 (gK h y1) <|
   if gA h y1 (ix x1) = nI 0 then
    some (some (.int (nI 0)), h)
   else
    ck (gC h y1) 60 <|
    gd x1 (gK h y1) <|
    cK (E d 356 [.int (gA h y1 (ix x1))] h) (Q d 301 18 [some (.ref x0), some (.int x1), some (.int x2), some (.ref y1), none, none, none, none]) []) := by
  rw [← hs.1]
  exact entL (l := [some (.ref x0), some (.int x1), some (.int x2), none, none, none, none, none]) rfl rfl ((blkM (fun p => Nat.beq p 18) 13 0 _ _ _).trans rfl)

set_option maxRecDepth 16384 in
theorem t_301_18 {d : Nat} {h : AH} (hs : Sh h) (x0 : Nat) (x1 : Int32) (x2 : Int32) (x3 : Nat) (u4 : Option Value) (u5 : Option Value) (u6 : Option Value) (u7 : Option Value) (s0 : Int32) :
    Q d 301 18 [some (.ref x0), some (.int x1), some (.int x2), some (.ref x3), u4, u5, u6, u7] [.int s0] h =
  Q d 301 23 [some (.ref x0), some (.int x1), some (.int x2), some (.ref x3), some (.int s0), some (.int x1), none, none] [] h := by
  rw [← hs.1]
  exact (blkM (fun p => Nat.beq p 23) 5 18 _ _ _).trans rfl

set_option maxRecDepth 16384 in
theorem t_301_23 {d : Nat} {h : AH} (hs : Sh h) (x0 : Nat) (x1 : Int32) (x2 : Int32) (x3 : Nat) (x4 : Int32) (x5 : Int32) :
    Q d 301 23 [some (.ref x0), some (.int x1), some (.int x2), some (.ref x3), some (.int x4), some (.int x5), none, none] [] h =
  if x2 < x5 then
   Q d 301 51 [some (.ref x0), some (.int x1), some (.int x2), some (.ref x3), none, some (.int (nI 0)), none, none] [] h
  else
   ck (gC h x3) 60 <|
   gd x5 (gK h x3) <|
   cK (E d 355 [.int (gA h x3 (ix x5)), .int x4] h) (Q d 301 41 [some (.ref x0), some (.int x1), some (.int x2), some (.ref x3), some (.int x4), some (.int x5), none, none]) [.int x5, .ref x3] := by
  rw [← hs.1]
  exact (blkM (fun p => Nat.beq p 41 || Nat.beq p 51) 11 23 _ _ _).trans rfl

set_option maxRecDepth 16384 in
theorem t_301_41 {d : Nat} {h : AH} (hs : Sh h) (x0 : Nat) (x1 : Int32) (x2 : Int32) (x3 : Nat) (x4 : Int32) (x5 : Int32) (u6 : Option Value) (u7 : Option Value) (s0 : Nat) (s1 : Int32) (s2 : Int32) :
    Q d 301 41 [some (.ref x0), some (.int x1), some (.int x2), some (.ref x3), some (.int x4), some (.int x5), u6, u7] [.int s2, .int s1, .ref s0] h =
  (cw (gC h s0) 60 s0 <|
  gd s1 (gK h s0) <|
  Q d 301 23 [some (.ref x0), some (.int x1), some (.int x2), some (.ref x3), some (.int x4), some (.int (x5 + nI 1)), none, none] [] (sA h s0 (ix s1) s2)) := by
  rw [← hs.1]
  exact (blkM (fun p => Nat.beq p 23) 5 41 _ _ _).trans rfl

set_option maxRecDepth 16384 in
theorem t_301_51 {d : Nat} {h : AH} (hs : Sh h) (x0 : Nat) (x1 : Int32) (x2 : Int32) (x3 : Nat) (x5 : Int32) :
    Q d 301 51 [some (.ref x0), some (.int x1), some (.int x2), some (.ref x3), none, some (.int x5), none, none] [] h =
  if x5 < nI 4 then
   ck (gC h x0) 66 <|
   gd x5 (gK h x0) <|
   (gO h x0 (ix x5)).bind fun y1 =>
    ck (gC h y1) 60 <|
    gd x1 (gK h y1) <|
    Q d 301 68 [some (.ref x0), some (.int x1), some (.int x2), some (.ref x3), none, some (.int x5), some (.int (gA h y1 (ix x1))), some (.int x1)] [] h
  else
   some (some (.int (nI 1)), h) := by
  rw [← hs.1]
  exact (blkM (fun p => Nat.beq p 68) 13 51 _ _ _).trans rfl

set_option maxRecDepth 16384 in
theorem t_301_68 {d : Nat} {h : AH} (hs : Sh h) (x0 : Nat) (x1 : Int32) (x2 : Int32) (x3 : Nat) (x5 : Int32) (x6 : Int32) (x7 : Int32) :
    Q d 301 68 [some (.ref x0), some (.int x1), some (.int x2), some (.ref x3), none, some (.int x5), some (.int x6), some (.int x7)] [] h =
  if x5 = x1 then
   Q d 301 51 [some (.ref x0), some (.int x1), some (.int x2), some (.ref x3), none, some (.int (x5 + nI 1)), none, none] [] h
  else
   if x2 < x7 then
    Q d 301 51 [some (.ref x0), some (.int x1), some (.int x2), some (.ref x3), none, some (.int (x5 + nI 1)), none, none] [] h
   else
    ck (gC h x0) 66 <|
    gd x5 (gK h x0) <|
    (gO h x0 (ix x5)).bind fun y1 =>
     ck (gC h y1) 60 <|
     gd x7 (gK h y1) <|
     ck (gC h x3) 60 <|
     gd x7 (gK h x3) <|
     cK (E d 355 [.int (gA h x3 (ix x7)), .int x6] h) (Q d 301 97 [some (.ref x0), some (.int x1), some (.int x2), some (.ref x3), none, some (.int x5), some (.int x6), some (.int x7)]) [.int (gA h y1 (ix x7)), .int x7, .ref y1] := by
  rw [← hs.1]
  exact (blkM (fun p => Nat.beq p 51 || Nat.beq p 97) 18 68 _ _ _).trans rfl

set_option maxRecDepth 16384 in
theorem t_301_97 {d : Nat} {h : AH} (hs : Sh h) (x0 : Nat) (x1 : Int32) (x2 : Int32) (x3 : Nat) (x5 : Int32) (x6 : Int32) (x7 : Int32) (u4 : Option Value) (s0 : Nat) (s1 : Int32) (s2 : Int32) (s3 : Int32) :
    Q d 301 97 [some (.ref x0), some (.int x1), some (.int x2), some (.ref x3), u4, some (.int x5), some (.int x6), some (.int x7)] [.int s3, .int s2, .int s1, .ref s0] h =
  (cw (gC h s0) 60 s0 <|
  gd s1 (gK h s0) <|
  Q d 301 68 [some (.ref x0), some (.int x1), some (.int x2), some (.ref x3), none, some (.int x5), some (.int x6), some (.int (x7 + nI 1))] [] (sA h s0 (ix s1) (s2 ^^^ s3))) := by
  rw [← hs.1]
  exact (blkM (fun p => Nat.beq p 68) 6 97 _ _ _).trans rfl

/-! 302 java/lang/Math.min(II)I -/
set_option maxRecDepth 16384 in
theorem t_302 {d : Nat} {h : AH} (hs : Sh h) (x0 : Int32) (x1 : Int32) :
    E (d + 1) 302 [.int x0, .int x1] h =
  if x1 < x0 then
   some (some (.int x1), h)
  else
   some (some (.int x0), h) := by
  rw [← hs.1]
  exact entL (l := [some (.int x0), some (.int x1)]) rfl rfl ((blkM (fun p => false) 7 0 _ _ _).trans rfl)

/-! 303 java/util/ArrayList.isEmpty()Z -/
set_option maxRecDepth 16384 in
theorem t_303 {d : Nat} {h : AH} (hs : Sh h) (x0 : Nat) :
    E (d + 1) 303 [.ref x0] h =
  (ck (gC h x0) 1 <|
  if gI h 258 x0 = nI 0 then
   some (some (.int (nI 1)), h)
  else
   some (some (.int (nI 0)), h)) := by
  rw [← hs.1]
  exact entL (l := [some (.ref x0)]) rfl rfl ((blkM (fun p => false) 7 0 _ _ _).trans rfl)

/-! 304 PostRoom$Coach.timeBehind(I)I -/
set_option maxRecDepth 16384 in
theorem t_304 {d : Nat} {h : AH} (hs : Sh h) (x0 : Nat) (x1 : Int32) :
    E (d + 1) 304 [.ref x0, .int x1] h =
  (dz (nI 1440) <|
  dz (nI 1440) <|
  ck (gC h x0) 3 <|
  if x1 - x1 / (nI 1440) * (nI 1440) < gI h 770 x0 then
   ck (gC h x0) 3 <|
   some (some (.int ((x1 - (x1 - x1 / (nI 1440) * (nI 1440))) + (gI h 770 x0))), h)
  else
   ck (gC h x0) 3 <|
   if (nI 0) < gI h 771 x0 then
    ck (gC h x0) 3 <|
    ck (gC h x0) 3 <|
    ck (gC h x0) 3 <|
    dz (gI h 771 x0) <|
    ck (gC h x0) 3 <|
    if gI h 772 x0 < ((x1 - x1 / (nI 1440) * (nI 1440)) + (gI h 771 x0)) - (((x1 - x1 / (nI 1440) * (nI 1440)) - (gI h 770 x0)) - ((x1 - x1 / (nI 1440) * (nI 1440)) - (gI h 770 x0)) / (gI h 771 x0) * (gI h 771 x0)) then
     ck (gC h x0) 3 <|
     some (some (.int (((x1 - (x1 - x1 / (nI 1440) * (nI 1440))) + (nI 1440)) + (gI h 770 x0))), h)
    else
     some (some (.int ((x1 - (x1 - x1 / (nI 1440) * (nI 1440))) + (((x1 - x1 / (nI 1440) * (nI 1440)) + (gI h 771 x0)) - (((x1 - x1 / (nI 1440) * (nI 1440)) - (gI h 770 x0)) - ((x1 - x1 / (nI 1440) * (nI 1440)) - (gI h 770 x0)) / (gI h 771 x0) * (gI h 771 x0))))), h)
   else
    ck (gC h x0) 3 <|
    if gI h 772 x0 < nI 1440 then
     ck (gC h x0) 3 <|
     some (some (.int (((x1 - (x1 - x1 / (nI 1440) * (nI 1440))) + (nI 1440)) + (gI h 770 x0))), h)
    else
     some (some (.int ((x1 - (x1 - x1 / (nI 1440) * (nI 1440))) + (nI 1440))), h)) := by
  rw [← hs.1]
  exact entL (l := [some (.ref x0), some (.int x1), none, none, none]) rfl rfl ((blkM (fun p => false) 43 0 _ _ _).trans rfl)

/-! 305 PostRoom$Coach.goesAt(I)Z -/
set_option maxRecDepth 16384 in
theorem t_305 {d : Nat} {h : AH} (hs : Sh h) (x0 : Nat) (x1 : Int32) :
    E (d + 1) 305 [.ref x0, .int x1] h =
  (dz (nI 1440) <|
  ck (gC h x0) 3 <|
  if x1 - x1 / (nI 1440) * (nI 1440) < gI h 770 x0 then
   some (some (.int (nI 0)), h)
  else
   ck (gC h x0) 3 <|
   if gI h 772 x0 < x1 - x1 / (nI 1440) * (nI 1440) then
    some (some (.int (nI 0)), h)
   else
    ck (gC h x0) 3 <|
    if (nI 0) < gI h 771 x0 then
     ck (gC h x0) 3 <|
     ck (gC h x0) 3 <|
     dz (gI h 771 x0) <|
     if ((x1 - x1 / (nI 1440) * (nI 1440)) - (gI h 770 x0)) - ((x1 - x1 / (nI 1440) * (nI 1440)) - (gI h 770 x0)) / (gI h 771 x0) * (gI h 771 x0) = nI 0 then
      some (some (.int (nI 1)), h)
     else
      some (some (.int (nI 0)), h)
    else
     some (some (.int (nI 0)), h)) := by
  rw [← hs.1]
  exact entL (l := [some (.ref x0), some (.int x1), none]) rfl rfl ((blkM (fun p => false) 27 0 _ _ _).trans rfl)

/-! 306 PostRoom$Post.rideFirst(LPostRoom$Coach;)V -/
set_option maxRecDepth 16384 in
theorem t_306 {d : Nat} {h : AH} (hs : Sh h) (x1 : Nat) :
    E (d + 1) 306 [.ref 156, .ref x1] h =
  cK (E d 241 [.ref 170, .int (nI 2147483647)] h) (Q d 306 9 [some (.ref 156), some (.ref x1), none, none, none, none, none]) [] := by
  rw [← hs.1]
  exact entL (l := [some (.ref 156), some (.ref x1), none, none, none, none, none]) rfl rfl ((blkM (fun p => Nat.beq p 9) 5 0 _ _ _).trans rfl)

set_option maxRecDepth 16384 in
theorem t_306_9 {d : Nat} {h : AH} (hs : Sh h) (x1 : Nat) (u2 : Option Value) (u3 : Option Value) (u4 : Option Value) (u5 : Option Value) (u6 : Option Value) :
    Q d 306 9 [some (.ref 156), some (.ref x1), u2, u3, u4, u5, u6] [] h =
  (ck (gC h x1) 3 <|
  ck (gC h x1) 3 <|
  cK (E d 304 [.ref x1, .int (gI h 2051 156)] h) (Q d 306 25 [some (.ref 156), some (.ref x1), u2, u3, u4, u5, u6]) [.int (gI h 769 x1), .ref 170]) := by
  rw [← hs.1]
  exact (blkM (fun p => Nat.beq p 25) 9 9 _ _ _).trans rfl

set_option maxRecDepth 16384 in
theorem t_306_25 {d : Nat} {h : AH} (hs : Sh h) (x1 : Nat) (u2 : Option Value) (u3 : Option Value) (u4 : Option Value) (u5 : Option Value) (u6 : Option Value) (s0 : Nat) (s1 : Int32) (s2 : Int32) :
    Q d 306 25 [some (.ref 156), some (.ref x1), u2, u3, u4, u5, u6] [.int s2, .int s1, .ref s0] h =
  (ck (gC h x1) 3 <|
  cw (gC h s0) 60 s0 <|
  gd s1 (gK h s0) <|
  Q d 306 35 [some (.ref 156), none, some (.int (nI 1)), some (.int (nI 0)), none, none, none] [] (sA h s0 (ix s1) (s2 + (gI h 773 x1)))) := by
  rw [← hs.1]
  exact (blkM (fun p => Nat.beq p 35) 10 25 _ _ _).trans rfl

set_option maxRecDepth 16384 in
theorem t_306_35 {d : Nat} {h : AH} (hs : Sh h) (x2 : Int32) (x3 : Int32) :
    Q d 306 35 [some (.ref 156), none, some (.int x2), some (.int x3), none, none, none] [] h =
  if x3 < nI 16 then
   if x2 = nI 0 then
    some (none, h)
   else
    Q d 306 50 [some (.ref 156), none, some (.int (nI 0)), some (.int x3), some (.int (nI 0)), none, none] [] h
  else
   some (none, h) := by
  rw [← hs.1]
  exact (blkM (fun p => Nat.beq p 50) 11 35 _ _ _).trans rfl

set_option maxRecDepth 16384 in
theorem t_306_50 {d : Nat} {h : AH} (hs : Sh h) (x2 : Int32) (x3 : Int32) (x4 : Int32) :
    Q d 306 50 [some (.ref 156), none, some (.int x2), some (.int x3), some (.int x4), none, none] [] h =
  (gR h 2048 156).bind fun y1 =>
   ck (gC h y1) 2 <|
   (gR h 515 y1).bind fun y2 =>
    ck (gC h y2) 1 <|
    cK (E d 213 [.ref y2] h) (Q d 306 62 [some (.ref 156), none, some (.int x2), some (.int x3), some (.int x4), none, none]) [.int x4] := by
  rw [← hs.1]
  exact (blkM (fun p => Nat.beq p 62) 6 50 _ _ _).trans rfl

set_option maxRecDepth 16384 in
theorem t_306_62 {d : Nat} {h : AH} (hs : Sh h) (x2 : Int32) (x3 : Int32) (x4 : Int32) (u1 : Option Value) (u5 : Option Value) (u6 : Option Value) (s0 : Int32) (s1 : Int32) :
    Q d 306 62 [some (.ref 156), u1, some (.int x2), some (.int x3), some (.int x4), u5, u6] [.int s1, .int s0] h =
  if s0 < s1 then
   (gR h 2048 156).bind fun y1 =>
    ck (gC h y1) 2 <|
    (gR h 515 y1).bind fun y2 =>
     ck (gC h y2) 1 <|
     cK (E d 212 [.ref y2, .int x4] h) (Q d 306 77 [some (.ref 156), u1, some (.int x2), some (.int x3), some (.int x4), u5, u6]) []
  else
   Q d 306 35 [some (.ref 156), none, some (.int x2), some (.int (x3 + nI 1)), none, none, none] [] h := by
  rw [← hs.1]
  exact (blkM (fun p => Nat.beq p 35 || Nat.beq p 77) 7 62 _ _ _).trans rfl

set_option maxRecDepth 16384 in
theorem t_306_77 {d : Nat} {h : AH} (hs : Sh h) (x2 : Int32) (x3 : Int32) (x4 : Int32) (u1 : Option Value) (u5 : Option Value) (u6 : Option Value) (s0 : Nat) :
    Q d 306 77 [some (.ref 156), u1, some (.int x2), some (.int x3), some (.int x4), u5, u6] [.ref s0] h =
  (ck (gC h s0) 3 <|
  ck (gC h s0) 3 <|
  gd (gI h 768 s0) 16 <|
  if (gI h 2051 156) + (nI 20160) < gA h 170 (ix (gI h 768 s0)) then
   Q d 306 50 [some (.ref 156), none, some (.int x2), some (.int x3), some (.int (x4 + nI 1)), none, none] [] h
  else
   ck (gC h s0) 3 <|
   gd (gI h 768 s0) 16 <|
   ck (gC h s0) 3 <|
   cK (E d 304 [.ref s0, .int (gA h 170 (ix (gI h 768 s0)))] h) (Q d 306 118 [some (.ref 156), u1, some (.int x2), some (.int x3), some (.int x4), some (.ref s0), u6]) []) := by
  rw [← hs.1]
  exact (blkM (fun p => Nat.beq p 50 || Nat.beq p 118) 20 77 _ _ _).trans rfl

set_option maxRecDepth 16384 in
theorem t_306_118 {d : Nat} {h : AH} (hs : Sh h) (x2 : Int32) (x3 : Int32) (x4 : Int32) (x5 : Nat) (u1 : Option Value) (u6 : Option Value) (s0 : Int32) :
    Q d 306 118 [some (.ref 156), u1, some (.int x2), some (.int x3), some (.int x4), some (.ref x5), u6] [.int s0] h =
  (ck (gC h x5) 3 <|
  ck (gC h x5) 3 <|
  gd (gI h 769 x5) 16 <|
  if s0 + (gI h 773 x5) < gA h 170 (ix (gI h 769 x5)) then
   ck (gC h x5) 3 <|
   gd (gI h 769 x5) 16 <|
   Q d 306 50 [some (.ref 156), none, some (.int (nI 1)), some (.int x3), some (.int (x4 + nI 1)), none, none] [] (sA h 170 (ix (gI h 769 x5)) (s0 + (gI h 773 x5)))
  else
   Q d 306 50 [some (.ref 156), none, some (.int x2), some (.int x3), some (.int (x4 + nI 1)), none, none] [] h) := by
  rw [← hs.1]
  exact (blkM (fun p => Nat.beq p 50) 23 118 _ _ _).trans rfl

/-! 307 PostRoom$Post.keepEarlier(I)V -/
set_option maxRecDepth 16384 in
theorem t_307 {d : Nat} {h : AH} (hs : Sh h) (x1 : Int32) :
    E (d + 1) 307 [.ref 156, .int x1] h =
  Q d 307 2 [some (.ref 156), some (.int x1), some (.int (nI 0))] [] h := by
  rw [← hs.1]
  exact entL (l := [some (.ref 156), some (.int x1), none]) rfl rfl ((blkM (fun p => Nat.beq p 2) 4 0 _ _ _).trans rfl)

set_option maxRecDepth 16384 in
theorem t_307_2 {d : Nat} {h : AH} (hs : Sh h) (x1 : Int32) (x2 : Int32) :
    Q d 307 2 [some (.ref 156), some (.int x1), some (.int x2)] [] h =
  if x2 < nI 16 then
   gd x2 16 <|
   gd x2 16 <|
   if gA h 170 (ix x2) < gA h 168 (ix x2) then
    gd x2 16 <|
    if (gI h 2051 156) + (nI 20160) < gA h 170 (ix x2) then
     Q d 307 2 [some (.ref 156), some (.int x1), some (.int (x2 + nI 1))] [] h
    else
     gd x2 16 <|
     gd x2 16 <|
     gd x2 16 <|
     Q d 307 2 [some (.ref 156), some (.int x1), some (.int (x2 + nI 1))] [] (sA (sA h 168 (ix x2) (gA h 170 (ix x2))) 169 (ix x2) x1)
   else
    Q d 307 2 [some (.ref 156), some (.int x1), some (.int (x2 + nI 1))] [] h
  else
   some (none, h) := by
  rw [← hs.1]
  exact (blkM (fun p => Nat.beq p 2) 38 2 _ _ _).trans rfl

/-! 308 PostRoom$Post.takeFromShelf(LPostRoom$Item;)V -/
set_option maxRecDepth 16384 in
theorem t_308 {d : Nat} {h : AH} (hs : Sh h) (x1 : Nat) :
    E (d + 1) 308 [.ref 156, .ref x1] h =
  (gR h 2048 156).bind fun y1 =>
   ck (gC h y1) 2 <|
   (gR h 512 y1).bind fun y2 =>
    ck (gC h x1) 5 <|
    ck (gC h y2) 1 <|
    cK (E d 212 [.ref y2, .int (gI h 1289 x1)] h) (Q d 308 14 [some (.ref 156), some (.ref x1), none, none]) [] := by
  rw [← hs.1]
  exact entL (l := [some (.ref 156), some (.ref x1), none, none]) rfl rfl ((blkM (fun p => Nat.beq p 14) 7 0 _ _ _).trans rfl)

set_option maxRecDepth 16384 in
theorem t_308_14 {d : Nat} {h : AH} (hs : Sh h) (x1 : Nat) (u0 : Option Value) (u2 : Option Value) (u3 : Option Value) (s0 : Nat) :
    Q d 308 14 [u0, some (.ref x1), u2, u3] [.ref s0] h =
  (ck (gC h s0) 7 <|
  ck (gC h s0) 7 <|
  (gR h 1797 s0).bind fun y1 =>
   Q d 308 23 [none, some (.ref x1), some (.ref y1), some (.int (nI 0))] [] h) := by
  rw [← hs.1]
  exact (blkM (fun p => Nat.beq p 23) 7 14 _ _ _).trans rfl

set_option maxRecDepth 16384 in
theorem t_308_23 {d : Nat} {h : AH} (hs : Sh h) (x1 : Nat) (x2 : Nat) (x3 : Int32) :
    Q d 308 23 [none, some (.ref x1), some (.ref x2), some (.int x3)] [] h =
  (ck (gC h x2) 1 <|
  cK (E d 213 [.ref x2] h) (Q d 308 28 [none, some (.ref x1), some (.ref x2), some (.int x3)]) [.int x3]) := by
  rw [← hs.1]
  exact (blkM (fun p => Nat.beq p 28) 4 23 _ _ _).trans rfl

set_option maxRecDepth 16384 in
theorem t_308_28 {d : Nat} {h : AH} (hs : Sh h) (x1 : Nat) (x2 : Nat) (x3 : Int32) (u0 : Option Value) (s0 : Int32) (s1 : Int32) :
    Q d 308 28 [u0, some (.ref x1), some (.ref x2), some (.int x3)] [.int s1, .int s0] h =
  if s0 < s1 then
   ck (gC h x2) 1 <|
   cK (E d 212 [.ref x2, .int x3] h) (Q d 308 36 [u0, some (.ref x1), some (.ref x2), some (.int x3)]) []
  else
   some (none, h) := by
  rw [← hs.1]
  exact (blkM (fun p => Nat.beq p 36) 5 28 _ _ _).trans rfl

set_option maxRecDepth 16384 in
theorem t_308_36 {d : Nat} {h : AH} (hs : Sh h) (x1 : Nat) (x2 : Nat) (x3 : Int32) (u0 : Option Value) (s0 : Nat) :
    Q d 308 36 [u0, some (.ref x1), some (.ref x2), some (.int x3)] [.ref s0] h =
  if s0 = x1 then
   ck (gC h x2) 1 <|
   cK (E d 256 [.ref x2, .int x3] h) (Q d 308 45 [u0, some (.ref x1), some (.ref x2), some (.int x3)]) []
  else
   if gC h s0 ≠ 0 ∧ gC h x1 ≠ 0 ∧ (100 ≤ s0 ∨ 100 ≤ x1) then
    Q d 308 23 [none, some (.ref x1), some (.ref x2), some (.int (x3 + nI 1))] [] h
   else
    none := by
  rw [← hs.1]
  exact (blkM (fun p => Nat.beq p 23 || Nat.beq p 45) 6 36 _ _ _).trans rfl

set_option maxRecDepth 16384 in
theorem t_308_45 {d : Nat} {h : AH} (hs : Sh h) (u0 : Option Value) (u1 : Option Value) (u2 : Option Value) (u3 : Option Value) (s0 : Nat) :
    Q d 308 45 [u0, u1, u2, u3] [.ref s0] h =
  some (none, h) := by
  rw [← hs.1]
  exact (blkM (fun p => false) 3 45 _ _ _).trans rfl

/-! 309 java/util/ArrayList.fastRemove([Ljava/lang/Object;I)V -/
set_option maxRecDepth 16384 in
theorem t_309 {d : Nat} {h : AH} (hs : Sh h) (x0 : Nat) (x1 : Nat) (x2 : Int32) :
    E (d + 1) 309 [.ref x0, .ref x1, .int x2] h =
  (ck (gC h x0) 1 <|
  ck (gC h x0) 1 <|
  ck (gC h x0) 1 <|
  if x2 < (gI h 258 x0) - (nI 1) then
   if gC h x1 = 65 ∧ gC h x1 = 65 ∧ 100 ≤ x1 ∧ 100 ≤ x1 ∧ 0 ≤ 20 then
    if (((gI h 258 x0) - (nI 1)) - x2) < 0 ∨ x2 < 0 ∨ (x2 + (nI 1)) < 0 then
    none
   else
    if ix (x2 + (nI 1)) + ix (((gI h 258 x0) - (nI 1)) - x2) ≤ gK h x1 ∧ ix x2 + ix (((gI h 258 x0) - (nI 1)) - x2) ≤ gK h x1 then
     ck (gC h x0) 1 <|
     cw (gC h x1) 65 x1 <|
     gd ((gI h 258 x0) - (nI 1)) (gK h x1) <|
     some (none, sO (sI (cpO (sI h 256 x0 ((gI h 256 x0) + (nI 1))) x1 (ix (x2 + (nI 1))) x1 (ix x2) (ix (((gI h 258 x0) - (nI 1)) - x2))) 258 x0 ((gI h 258 x0) - (nI 1))) x1 (ix ((gI h 258 x0) - (nI 1))) none)
    else
     none
   else
    none
  else
   ck (gC h x0) 1 <|
   cw (gC h x1) 65 x1 <|
   gd ((gI h 258 x0) - (nI 1)) (gK h x1) <|
   some (none, sO (sI (sI h 256 x0 ((gI h 256 x0) + (nI 1))) 258 x0 ((gI h 258 x0) - (nI 1))) x1 (ix ((gI h 258 x0) - (nI 1))) none)) := by
  rw [← hs.1]
  exact entL (l := [some (.ref x0), some (.ref x1), some (.int x2), none]) rfl rfl ((blkM (fun p => false) 33 0 _ _ _).trans rfl)

/-! 310 PostRoom$Post.sendOn(LPostRoom$Item;I)V -/
set_option maxRecDepth 16384 in
theorem t_310 {d : Nat} {h : AH} (hs : Sh h) (x1 : Nat) (x2 : Int32) :
    E (d + 1) 310 [.ref 156, .ref x1, .int x2] h =
  if x2 = (-1) then
   ck (gC h x1) 5 <|
   ck (gC h x1) 5 <|
   cK (E d 258 [.ref 156, .ref x1, .int (nI 7), .int (gI h 1289 x1)] (sI h 1286 x1 (-1))) (Q d 310 29 [some (.ref 156), some (.ref x1), none]) []
  else
   ck (gC h x1) 5 <|
   if gI h 1292 x1 < nI 2 then
    dz (nI 27000) <|
    ck (gC h x1) 5 <|
    dz (nI 27000) <|
    ck (gC h x1) 5 <|
    ck (gC h x1) 5 <|
    ck (gC h x1) 5 <|
    ck (gC h x1) 5 <|
    cK (E d 258 [.ref 156, .ref x1, .int (nI 6), .int (gI h 1289 x1)] (sI (sI (sI h 1286 x1 (x2 / (nI 27000))) 1287 x1 (x2 - x2 / (nI 27000) * (nI 27000))) 1292 x1 ((gI h 1292 x1) + (nI 1)))) (Q d 310 69 [some (.ref 156), some (.ref x1), some (.int x2)]) []
   else
    ck (gC h x1) 5 <|
    ck (gC h x1) 5 <|
    cK (E d 258 [.ref 156, .ref x1, .int (nI 7), .int (gI h 1289 x1)] (sI h 1286 x1 (-1))) (Q d 310 29 [some (.ref 156), some (.ref x1), none]) [] := by
  rw [← hs.1]
  exact entL (l := [some (.ref 156), some (.ref x1), some (.int x2)]) rfl rfl ((blkM (fun p => Nat.beq p 29 || Nat.beq p 69) 30 0 _ _ _).trans rfl)

set_option maxRecDepth 16384 in
theorem t_310_29 {d : Nat} {h : AH} (hs : Sh h) (u0 : Option Value) (u1 : Option Value) (u2 : Option Value) :
    Q d 310 29 [u0, u1, u2] [] h =
  some (none, h) := by
  rw [← hs.1]
  exact (blkM (fun p => false) 2 29 _ _ _).trans rfl

set_option maxRecDepth 16384 in
theorem t_310_69 {d : Nat} {h : AH} (hs : Sh h) (u0 : Option Value) (u1 : Option Value) (u2 : Option Value) :
    Q d 310 69 [u0, u1, u2] [] h =
  some (none, h) := by
  rw [← hs.1]
  exact (blkM (fun p => false) 2 69 _ _ _).trans rfl

/-! 311 PostRoom$Street.doorX(I)I -/
set_option maxRecDepth 16384 in
theorem t_311 {d : Nat} {h : AH} (hs : Sh h) (x0 : Nat) (x1 : Int32) :
    E (d + 1) 311 [.ref x0, .int x1] h =
  (ck (gC h x0) 11 <|
  ck (gC h x0) 11 <|
  if gI h 2823 x0 = nI 0 then
   ck (gC h x0) 11 <|
   some (some (.int ((gI h 2821 x0) + (x1 - (gI h 2819 x0)))), h)
  else
   ck (gC h x0) 11 <|
   if gI h 2823 x0 = nI 2 then
    ck (gC h x0) 11 <|
    some (some (.int ((gI h 2821 x0) - (x1 - (gI h 2819 x0)))), h)
   else
    ck (gC h x0) 11 <|
    some (some (.int (gI h 2821 x0)), h)) := by
  rw [← hs.1]
  exact entL (l := [some (.ref x0), some (.int x1), none]) rfl rfl ((blkM (fun p => false) 19 0 _ _ _).trans rfl)

/-! 312 PostRoom$Street.doorY(I)I -/
set_option maxRecDepth 16384 in
theorem t_312 {d : Nat} {h : AH} (hs : Sh h) (x0 : Nat) (x1 : Int32) :
    E (d + 1) 312 [.ref x0, .int x1] h =
  (ck (gC h x0) 11 <|
  ck (gC h x0) 11 <|
  if gI h 2823 x0 = nI 1 then
   ck (gC h x0) 11 <|
   some (some (.int ((gI h 2822 x0) + (x1 - (gI h 2819 x0)))), h)
  else
   ck (gC h x0) 11 <|
   if gI h 2823 x0 = nI 3 then
    ck (gC h x0) 11 <|
    some (some (.int ((gI h 2822 x0) - (x1 - (gI h 2819 x0)))), h)
   else
    ck (gC h x0) 11 <|
    some (some (.int (gI h 2822 x0)), h)) := by
  rw [← hs.1]
  exact entL (l := [some (.ref x0), some (.int x1), none]) rfl rfl ((blkM (fun p => false) 20 0 _ _ _).trans rfl)

/-! 313 PostRoom$Post.between(II)I -/
set_option maxRecDepth 16384 in
theorem t_313 {d : Nat} {h : AH} (hs : Sh h) (x1 : Int32) (x2 : Int32) :
    E (d + 1) 313 [.ref 156, .int x1, .int x2] h =
  (gd x1 9 <|
  gd x2 9 <|
  cK (E d 345 [.int ((gA h 172 (ix x1)) - (gA h 172 (ix x2)))] h) (Q d 313 16 [some (.ref 156), some (.int x1), some (.int x2)]) []) := by
  rw [← hs.1]
  exact entL (l := [some (.ref 156), some (.int x1), some (.int x2)]) rfl rfl ((blkM (fun p => Nat.beq p 16) 11 0 _ _ _).trans rfl)

set_option maxRecDepth 16384 in
theorem t_313_16 {d : Nat} {h : AH} (hs : Sh h) (x1 : Int32) (x2 : Int32) (s0 : Int32) :
    Q d 313 16 [some (.ref 156), some (.int x1), some (.int x2)] [.int s0] h =
  (gd x1 9 <|
  gd x2 9 <|
  cK (E d 345 [.int ((gA h 173 (ix x1)) - (gA h 173 (ix x2)))] h) (Q d 313 32 [some (.ref 156), some (.int x1), some (.int x2)]) [.int s0]) := by
  rw [← hs.1]
  exact (blkM (fun p => Nat.beq p 32) 11 16 _ _ _).trans rfl

set_option maxRecDepth 16384 in
theorem t_313_32 {d : Nat} {h : AH} (hs : Sh h) (u0 : Option Value) (u1 : Option Value) (u2 : Option Value) (s0 : Int32) (s1 : Int32) :
    Q d 313 32 [u0, u1, u2] [.int s1, .int s0] h =
  some (some (.int (s0 + s1)), h) := by
  rw [← hs.1]
  exact (blkM (fun p => false) 3 32 _ _ _).trans rfl

/-! 314 PostRoom$Post.leastFrom(II)I -/
set_option maxRecDepth 16384 in
theorem t_314 {d : Nat} {h : AH} (hs : Sh h) (x1 : Int32) (x2 : Int32) :
    E (d + 1) 314 [.ref 156, .int x1, .int x2] h =
  Q d 314 6 [some (.ref 156), some (.int x1), some (.int x2), some (.int (nI 2147483647)), some (.int (nI 0))] [] h := by
  rw [← hs.1]
  exact entL (l := [some (.ref 156), some (.int x1), some (.int x2), none, none]) rfl rfl ((blkM (fun p => Nat.beq p 6) 6 0 _ _ _).trans rfl)

set_option maxRecDepth 16384 in
theorem t_314_6 {d : Nat} {h : AH} (hs : Sh h) (x1 : Int32) (x2 : Int32) (x3 : Int32) (x4 : Int32) :
    Q d 314 6 [some (.ref 156), some (.int x1), some (.int x2), some (.int x3), some (.int x4)] [] h =
  if x4 < gI h 2064 156 then
   if (x2 >>> (x4 &&& 31)) &&& (nI 1) = nI 0 then
    Q d 314 6 [some (.ref 156), some (.int x1), some (.int x2), some (.int x3), some (.int (x4 + nI 1))] [] h
   else
    cK (E d 315 [.ref 156, .int x1, .int x4, .int x2] h) (Q d 314 33 [some (.ref 156), some (.int x1), some (.int x2), some (.int x3), some (.int x4)]) [.int x3]
  else
   some (some (.int x3), h) := by
  rw [← hs.1]
  exact (blkM (fun p => Nat.beq p 6 || Nat.beq p 33) 17 6 _ _ _).trans rfl

set_option maxRecDepth 16384 in
theorem t_314_33 {d : Nat} {h : AH} (hs : Sh h) (x1 : Int32) (x2 : Int32) (x4 : Int32) (u3 : Option Value) (s0 : Int32) (s1 : Int32) :
    Q d 314 33 [some (.ref 156), some (.int x1), some (.int x2), u3, some (.int x4)] [.int s1, .int s0] h =
  cK (E d 302 [.int s0, .int s1] h) (Q d 314 36 [some (.ref 156), some (.int x1), some (.int x2), u3, some (.int x4)]) [] := by
  rw [← hs.1]
  exact (blkM (fun p => Nat.beq p 36) 2 33 _ _ _).trans rfl

set_option maxRecDepth 16384 in
theorem t_314_36 {d : Nat} {h : AH} (hs : Sh h) (x1 : Int32) (x2 : Int32) (x4 : Int32) (u3 : Option Value) (s0 : Int32) :
    Q d 314 36 [some (.ref 156), some (.int x1), some (.int x2), u3, some (.int x4)] [.int s0] h =
  Q d 314 6 [some (.ref 156), some (.int x1), some (.int x2), some (.int s0), some (.int (x4 + nI 1))] [] h := by
  rw [← hs.1]
  exact (blkM (fun p => Nat.beq p 6) 5 36 _ _ _).trans rfl

/-! 315 PostRoom$Post.restBy(III)I -/
set_option maxRecDepth 16384 in
theorem t_315 {d : Nat} {h : AH} (hs : Sh h) (x1 : Int32) (x2 : Int32) (x3 : Int32) :
    E (d + 1) 315 [.ref 156, .int x1, .int x2, .int x3] h =
  cK (E d 313 [.ref 156, .int x1, .int x2] h) (Q d 315 6 [some (.ref 156), some (.int x1), some (.int x2), some (.int x3)]) [] := by
  rw [← hs.1]
  exact entL (l := [some (.ref 156), some (.int x1), some (.int x2), some (.int x3)]) rfl rfl ((blkM (fun p => Nat.beq p 6) 5 0 _ _ _).trans rfl)

set_option maxRecDepth 16384 in
theorem t_315_6 {d : Nat} {h : AH} (hs : Sh h) (x2 : Int32) (x3 : Int32) (u1 : Option Value) (s0 : Int32) :
    Q d 315 6 [some (.ref 156), u1, some (.int x2), some (.int x3)] [.int s0] h =
  (gd (((x3 &&& (((nI 1) <<< (x2 &&& 31)) ^^^ (-1))) * (nI 8)) + x2) 2048 <|
  some (some (.int (s0 + (gA h 174 (ix (((x3 &&& (((nI 1) <<< (x2 &&& 31)) ^^^ (-1))) * (nI 8)) + x2))))), h)) := by
  rw [← hs.1]
  exact (blkM (fun p => false) 17 6 _ _ _).trans rfl

