/-! ===== THE METHODS, PIECE BY PIECE: 5 (made by wip/gen/gen40.py) ===== -/
/-! 173 PostRoomModel.asksItem(II)V -/
set_option maxRecDepth 16384 in
theorem t_173 {d : Nat} {h : AH} (hs : Sh h) (x1 : Int32) (x2 : Int32) :
    E (d + 1) 173 [.ref 189, .int x1, .int x2] h =
  cK (E d 155 [.ref 189] h) (Q d 173 4 [some (.ref 189), some (.int x1), some (.int x2), none]) [] := by
  rw [← hs.1]
  exact entL (l := [some (.ref 189), some (.int x1), some (.int x2), none]) rfl rfl ((blkM (fun p => Nat.beq p 4) 3 0 _ _ _).trans rfl)

set_option maxRecDepth 16384 in
theorem t_173_4 {d : Nat} {h : AH} (hs : Sh h) (x1 : Int32) (x2 : Int32) (u3 : Option Value) (s0 : Int64) :
    Q d 173 4 [some (.ref 189), some (.int x1), some (.int x2), u3] [.long s0] h =
  if x1 = nI 22 then
   if s0.toInt32 < nI 0 then
    cK (E d 172 [.ref 189, .long 0] h) (Q d 173 25 [none, none, none, none]) []
   else
    cK (E d 172 [.ref 189, .long 1] h) (Q d 173 25 [none, none, none, none]) []
  else
   if x1 = nI 28 then
    if s0.toInt32 < nI 0 then
     cK (E d 172 [.ref 189, .long s0.toInt32.toInt64] h) (Q d 173 61 [some (.ref 189), none, none, some (.int s0.toInt32)]) []
    else
     cK (E d 168 [.ref 189, .int s0.toInt32, .int x2] h) (Q d 173 44 [some (.ref 189), some (.int x1), some (.int x2), some (.int s0.toInt32)]) []
   else
    if s0.toInt32 < nI 0 then
     cK (E d 161 [.ref 189, .int (nI 1)] h) (Q d 173 73 [some (.ref 189), some (.int x1), some (.int x2), some (.int s0.toInt32)]) []
    else
     if x1 = nI 21 then
      cK (E d 154 [.ref 189] h) (Q d 173 86 [some (.ref 189), some (.int x1), some (.int x2), some (.int s0.toInt32)]) []
     else
      if x1 = nI 18 then
       cK (E d 110 [.ref 189, .int s0.toInt32] h) (Q d 173 156 [some (.ref 189), some (.int x1), some (.int x2), some (.int s0.toInt32)]) [.int ((nI 16) * (gI h 3597 189)), .ref 199, .ref 189]
      else
       if x1 = nI 19 then
        gd s0.toInt32 200 <|
        cK (E d 172 [.ref 189, .long ((gA h 243 (ix s0.toInt32)).toInt64)] h) (Q d 173 188 [none, none, none, none]) []
       else
        gd s0.toInt32 200 <|
        cK (E d 172 [.ref 189, .long ((gA h 242 (ix s0.toInt32)).toInt64)] h) (Q d 173 188 [none, none, none, none]) [] := by
  rw [← hs.1]
  exact (blkM (fun p => Nat.beq p 25 || Nat.beq p 44 || Nat.beq p 61 || Nat.beq p 73 || Nat.beq p 86 || Nat.beq p 156 || Nat.beq p 188) 28 4 _ _ _).trans rfl

set_option maxRecDepth 16384 in
theorem t_173_25 {d : Nat} {h : AH} (hs : Sh h) (u0 : Option Value) (u1 : Option Value) (u2 : Option Value) (u3 : Option Value) :
    Q d 173 25 [u0, u1, u2, u3] [] h =
  Q d 173 188 [none, none, none, none] [] h := by
  rw [← hs.1]
  exact (blkM (fun p => Nat.beq p 188) 3 25 _ _ _).trans rfl

set_option maxRecDepth 16384 in
theorem t_173_44 {d : Nat} {h : AH} (hs : Sh h) (x3 : Int32) (u1 : Option Value) (u2 : Option Value) (s0 : Int32) :
    Q d 173 44 [some (.ref 189), u1, u2, some (.int x3)] [.int s0] h =
  if s0 = nI 0 then
   cK (E d 161 [.ref 189, .int (nI 2)] h) (Q d 173 52 [some (.ref 189), u1, u2, some (.int x3)]) []
  else
   cK (E d 172 [.ref 189, .long x3.toInt64] h) (Q d 173 61 [some (.ref 189), none, none, some (.int x3)]) [] := by
  rw [← hs.1]
  exact (blkM (fun p => Nat.beq p 52 || Nat.beq p 61) 6 44 _ _ _).trans rfl

set_option maxRecDepth 16384 in
theorem t_173_61 {d : Nat} {h : AH} (hs : Sh h) (u0 : Option Value) (u1 : Option Value) (u2 : Option Value) (u3 : Option Value) :
    Q d 173 61 [u0, u1, u2, u3] [] h =
  Q d 173 188 [none, none, none, none] [] h := by
  rw [← hs.1]
  exact (blkM (fun p => Nat.beq p 188) 3 61 _ _ _).trans rfl

set_option maxRecDepth 16384 in
theorem t_173_73 {d : Nat} {h : AH} (hs : Sh h) (u0 : Option Value) (u1 : Option Value) (u2 : Option Value) (u3 : Option Value) :
    Q d 173 73 [u0, u1, u2, u3] [] h =
  Q d 173 188 [none, none, none, none] [] h := by
  rw [← hs.1]
  exact (blkM (fun p => Nat.beq p 188) 3 73 _ _ _).trans rfl

set_option maxRecDepth 16384 in
theorem t_173_86 {d : Nat} {h : AH} (hs : Sh h) (x3 : Int32) (u1 : Option Value) (u2 : Option Value) (s0 : Int32) :
    Q d 173 86 [some (.ref 189), u1, u2, some (.int x3)] [.int s0] h =
  if s0 = nI 0 then
   Q d 173 188 [none, none, none, none] [] h
  else
   cK (E d 107 [.ref 189, .int (gI h 3726 189)] h) (Q d 173 97 [some (.ref 189), u1, u2, some (.int x3)]) [] := by
  rw [← hs.1]
  exact (blkM (fun p => Nat.beq p 97 || Nat.beq p 188) 6 86 _ _ _).trans rfl

set_option maxRecDepth 16384 in
theorem t_173_156 {d : Nat} {h : AH} (hs : Sh h) (u0 : Option Value) (u1 : Option Value) (u2 : Option Value) (u3 : Option Value) (s0 : Nat) (s1 : Nat) (s2 : Int32) (s3 : Int32) :
    Q d 173 156 [u0, u1, u2, u3] [.int s3, .int s2, .ref s1, .ref s0] h =
  (ck (gC h s1) 60 <|
  gd (s2 + s3) (gK h s1) <|
  ck (gC h s0) 14 <|
  cK (E d 172 [.ref s0, .long ((gA h s1 (ix (s2 + s3))).toInt64)] h) (Q d 173 188 [none, none, none, none]) []) := by
  rw [← hs.1]
  exact (blkM (fun p => Nat.beq p 188) 6 156 _ _ _).trans rfl

set_option maxRecDepth 16384 in
theorem t_173_188 {d : Nat} {h : AH} (hs : Sh h)  :
    Q d 173 188 [none, none, none, none] [] h =
  some (none, h) := by
  rw [← hs.1]
  exact (blkM (fun p => false) 2 188 _ _ _).trans rfl

set_option maxRecDepth 16384 in
theorem t_173_52 {d : Nat} {h : AH} (hs : Sh h) (u0 : Option Value) (u1 : Option Value) (u2 : Option Value) (u3 : Option Value) :
    Q d 173 52 [u0, u1, u2, u3] [] h =
  Q d 173 188 [none, none, none, none] [] h := by
  rw [← hs.1]
  exact (blkM (fun p => Nat.beq p 188) 3 52 _ _ _).trans rfl

set_option maxRecDepth 16384 in
theorem t_173_97 {d : Nat} {h : AH} (hs : Sh h) (x3 : Int32) (u1 : Option Value) (u2 : Option Value) :
    Q d 173 97 [some (.ref 189), u1, u2, some (.int x3)] [] h =
  cK (E d 110 [.ref 189, .int x3] h) (Q d 173 103 [some (.ref 189), u1, u2, some (.int x3)]) [.ref 189] := by
  rw [← hs.1]
  exact (blkM (fun p => Nat.beq p 103) 5 97 _ _ _).trans rfl

set_option maxRecDepth 16384 in
theorem t_173_103 {d : Nat} {h : AH} (hs : Sh h) (x3 : Int32) (u1 : Option Value) (u2 : Option Value) (s0 : Nat) (s1 : Int32) :
    Q d 173 103 [some (.ref 189), u1, u2, some (.int x3)] [.int s1, .ref s0] h =
  if s1 = gI h 3726 189 then
   ck (gC h s0) 14 <|
   cK (E d 172 [.ref s0, .long (-1)] h) (Q d 173 130 [none, none, none, none]) []
  else
   cK (E d 110 [.ref 189, .int x3] h) (Q d 173 125 [some (.ref 189), u1, u2, some (.int x3)]) [.ref 262, .ref s0] := by
  rw [← hs.1]
  exact (blkM (fun p => Nat.beq p 125 || Nat.beq p 130) 9 103 _ _ _).trans rfl

set_option maxRecDepth 16384 in
theorem t_173_125 {d : Nat} {h : AH} (hs : Sh h) (u0 : Option Value) (u1 : Option Value) (u2 : Option Value) (u3 : Option Value) (s0 : Nat) (s1 : Nat) (s2 : Int32) :
    Q d 173 125 [u0, u1, u2, u3] [.int s2, .ref s1, .ref s0] h =
  (ck (gC h s1) 60 <|
  gd s2 (gK h s1) <|
  ck (gC h s0) 14 <|
  cK (E d 172 [.ref s0, .long ((gA h s1 (ix s2)).toInt64)] h) (Q d 173 130 [none, none, none, none]) []) := by
  rw [← hs.1]
  exact (blkM (fun p => Nat.beq p 130) 4 125 _ _ _).trans rfl

set_option maxRecDepth 16384 in
theorem t_173_130 {d : Nat} {h : AH} (hs : Sh h) (u0 : Option Value) (u1 : Option Value) (u2 : Option Value) (u3 : Option Value) :
    Q d 173 130 [u0, u1, u2, u3] [] h =
  Q d 173 188 [none, none, none, none] [] h := by
  rw [← hs.1]
  exact (blkM (fun p => Nat.beq p 188) 3 130 _ _ _).trans rfl

/-! 174 PostRoomModel.reckons(I)V -/
set_option maxRecDepth 16384 in
theorem t_174 {d : Nat} {h : AH} (hs : Sh h) (x1 : Int32) :
    E (d + 1) 174 [.ref 189, .int x1] h =
  cK (E d 155 [.ref 189] h) (Q d 174 4 [some (.ref 189), some (.int x1), none, none, none, none]) [] := by
  rw [← hs.1]
  exact entL (l := [some (.ref 189), some (.int x1), none, none, none, none]) rfl rfl ((blkM (fun p => Nat.beq p 4) 3 0 _ _ _).trans rfl)

set_option maxRecDepth 16384 in
theorem t_174_4 {d : Nat} {h : AH} (hs : Sh h) (x1 : Int32) (u2 : Option Value) (u3 : Option Value) (u4 : Option Value) (u5 : Option Value) (s0 : Int64) :
    Q d 174 4 [some (.ref 189), some (.int x1), u2, u3, u4, u5] [.long s0] h =
  cK (E d 155 [.ref 189] h) (Q d 174 9 [some (.ref 189), some (.int x1), some (.long s0), none, u4, u5]) [] := by
  rw [← hs.1]
  exact (blkM (fun p => Nat.beq p 9) 4 4 _ _ _).trans rfl

set_option maxRecDepth 16384 in
theorem t_174_9 {d : Nat} {h : AH} (hs : Sh h) (x1 : Int32) (x2 : Int64) (u4 : Option Value) (u5 : Option Value) (s0 : Int64) :
    Q d 174 9 [some (.ref 189), some (.int x1), some (.long x2), none, u4, u5] [.long s0] h =
  if x1 = nI 10 then
   if lg_cmp x2 0 = nI 0 then
    cK (E d 161 [.ref 189, .int (nI 6)] h) (Q d 174 35 [some (.ref 189), some (.int x1), some (.long x2), none, some (.long s0), none]) []
   else
    if x1 = nI 7 then
     cK (E d 172 [.ref 189, .long (s0 + x2)] h) (Q d 174 84 [some (.ref 189), some (.int x1), some (.long x2), none, some (.long s0), none]) []
    else
     if x1 = nI 8 then
     cK (E d 172 [.ref 189, .long (s0 - x2)] h) (Q d 174 95 [some (.ref 189), some (.int x1), some (.long x2), none, some (.long s0), none]) []
    else
     if x1 = nI 9 then
     cK (E d 172 [.ref 189, .long (s0 * x2)] h) (Q d 174 106 [some (.ref 189), some (.int x1), some (.long x2), none, some (.long s0), none]) []
    else
     if x1 = nI 10 then
     dZ x2 <|
     cK (E d 172 [.ref 189, .long (s0 / x2)] h) (Q d 174 117 [some (.ref 189), some (.int x1), some (.long x2), none, some (.long s0), none]) []
    else
     if x1 = nI 11 then
     dZ x2 <|
     cK (E d 172 [.ref 189, .long (s0 - s0 / x2 * x2)] h) (Q d 174 128 [some (.ref 189), some (.int x1), some (.long x2), none, some (.long s0), none]) []
    else
     if x1 = nI 12 then
     if lg_cmp s0 x2 < nI 0 then
      cK (E d 172 [.ref 189, .long 1] h) (Q d 174 147 [none, none, none, none, none, none]) []
     else
      cK (E d 172 [.ref 189, .long 0] h) (Q d 174 147 [none, none, none, none, none, none]) []
    else
     if lg_cmp s0 x2 = nI 0 then
     cK (E d 172 [.ref 189, .long 1] h) (Q d 174 166 [none, none, none, none, none, none]) []
    else
     cK (E d 172 [.ref 189, .long 0] h) (Q d 174 166 [none, none, none, none, none, none]) []
  else
   if x1 = nI 11 then
    if lg_cmp x2 0 = nI 0 then
     cK (E d 161 [.ref 189, .int (nI 6)] h) (Q d 174 35 [some (.ref 189), some (.int x1), some (.long x2), none, some (.long s0), none]) []
    else
     if x1 = nI 7 then
      cK (E d 172 [.ref 189, .long (s0 + x2)] h) (Q d 174 84 [some (.ref 189), some (.int x1), some (.long x2), none, some (.long s0), none]) []
     else
      if x1 = nI 8 then
      cK (E d 172 [.ref 189, .long (s0 - x2)] h) (Q d 174 95 [some (.ref 189), some (.int x1), some (.long x2), none, some (.long s0), none]) []
     else
      if x1 = nI 9 then
      cK (E d 172 [.ref 189, .long (s0 * x2)] h) (Q d 174 106 [some (.ref 189), some (.int x1), some (.long x2), none, some (.long s0), none]) []
     else
      if x1 = nI 10 then
      dZ x2 <|
      cK (E d 172 [.ref 189, .long (s0 / x2)] h) (Q d 174 117 [some (.ref 189), some (.int x1), some (.long x2), none, some (.long s0), none]) []
     else
      if x1 = nI 11 then
      dZ x2 <|
      cK (E d 172 [.ref 189, .long (s0 - s0 / x2 * x2)] h) (Q d 174 128 [some (.ref 189), some (.int x1), some (.long x2), none, some (.long s0), none]) []
     else
      if x1 = nI 12 then
      if lg_cmp s0 x2 < nI 0 then
       cK (E d 172 [.ref 189, .long 1] h) (Q d 174 147 [none, none, none, none, none, none]) []
      else
       cK (E d 172 [.ref 189, .long 0] h) (Q d 174 147 [none, none, none, none, none, none]) []
     else
      if lg_cmp s0 x2 = nI 0 then
      cK (E d 172 [.ref 189, .long 1] h) (Q d 174 166 [none, none, none, none, none, none]) []
     else
      cK (E d 172 [.ref 189, .long 0] h) (Q d 174 166 [none, none, none, none, none, none]) []
   else
    if x1 = nI 7 then
     cK (E d 172 [.ref 189, .long (s0 + x2)] h) (Q d 174 84 [some (.ref 189), some (.int x1), some (.long x2), none, some (.long s0), none]) []
    else
     if x1 = nI 8 then
     cK (E d 172 [.ref 189, .long (s0 - x2)] h) (Q d 174 95 [some (.ref 189), some (.int x1), some (.long x2), none, some (.long s0), none]) []
    else
     if x1 = nI 9 then
     cK (E d 172 [.ref 189, .long (s0 * x2)] h) (Q d 174 106 [some (.ref 189), some (.int x1), some (.long x2), none, some (.long s0), none]) []
    else
     if x1 = nI 10 then
     dZ x2 <|
     cK (E d 172 [.ref 189, .long (s0 / x2)] h) (Q d 174 117 [some (.ref 189), some (.int x1), some (.long x2), none, some (.long s0), none]) []
    else
     if x1 = nI 11 then
     dZ x2 <|
     cK (E d 172 [.ref 189, .long (s0 - s0 / x2 * x2)] h) (Q d 174 128 [some (.ref 189), some (.int x1), some (.long x2), none, some (.long s0), none]) []
    else
     if x1 = nI 12 then
     if lg_cmp s0 x2 < nI 0 then
      cK (E d 172 [.ref 189, .long 1] h) (Q d 174 147 [none, none, none, none, none, none]) []
     else
      cK (E d 172 [.ref 189, .long 0] h) (Q d 174 147 [none, none, none, none, none, none]) []
    else
     if lg_cmp s0 x2 = nI 0 then
     cK (E d 172 [.ref 189, .long 1] h) (Q d 174 166 [none, none, none, none, none, none]) []
    else
     cK (E d 172 [.ref 189, .long 0] h) (Q d 174 166 [none, none, none, none, none, none]) [] := by
  rw [← hs.1]
  exact (blkM (fun p => Nat.beq p 35 || Nat.beq p 84 || Nat.beq p 95 || Nat.beq p 106 || Nat.beq p 117 || Nat.beq p 128 || Nat.beq p 147 || Nat.beq p 166) 22 9 _ _ _).trans rfl

set_option maxRecDepth 16384 in
theorem t_174_35 {d : Nat} {h : AH} (hs : Sh h) (u0 : Option Value) (u1 : Option Value) (u2 : Option Value) (u3 : Option Value) (u4 : Option Value) (u5 : Option Value) :
    Q d 174 35 [u0, u1, u2, u3, u4, u5] [] h =
  some (none, h) := by
  rw [← hs.1]
  exact (blkM (fun p => false) 2 35 _ _ _).trans rfl

set_option maxRecDepth 16384 in
theorem t_174_84 {d : Nat} {h : AH} (hs : Sh h) (u0 : Option Value) (u1 : Option Value) (u2 : Option Value) (u3 : Option Value) (u4 : Option Value) (u5 : Option Value) :
    Q d 174 84 [u0, u1, u2, u3, u4, u5] [] h =
  Q d 174 166 [none, none, none, none, none, none] [] h := by
  rw [← hs.1]
  exact (blkM (fun p => Nat.beq p 166) 3 84 _ _ _).trans rfl

set_option maxRecDepth 16384 in
theorem t_174_95 {d : Nat} {h : AH} (hs : Sh h) (u0 : Option Value) (u1 : Option Value) (u2 : Option Value) (u3 : Option Value) (u4 : Option Value) (u5 : Option Value) :
    Q d 174 95 [u0, u1, u2, u3, u4, u5] [] h =
  Q d 174 166 [none, none, none, none, none, none] [] h := by
  rw [← hs.1]
  exact (blkM (fun p => Nat.beq p 166) 3 95 _ _ _).trans rfl

set_option maxRecDepth 16384 in
theorem t_174_106 {d : Nat} {h : AH} (hs : Sh h) (u0 : Option Value) (u1 : Option Value) (u2 : Option Value) (u3 : Option Value) (u4 : Option Value) (u5 : Option Value) :
    Q d 174 106 [u0, u1, u2, u3, u4, u5] [] h =
  Q d 174 166 [none, none, none, none, none, none] [] h := by
  rw [← hs.1]
  exact (blkM (fun p => Nat.beq p 166) 3 106 _ _ _).trans rfl

set_option maxRecDepth 16384 in
theorem t_174_117 {d : Nat} {h : AH} (hs : Sh h) (u0 : Option Value) (u1 : Option Value) (u2 : Option Value) (u3 : Option Value) (u4 : Option Value) (u5 : Option Value) :
    Q d 174 117 [u0, u1, u2, u3, u4, u5] [] h =
  Q d 174 166 [none, none, none, none, none, none] [] h := by
  rw [← hs.1]
  exact (blkM (fun p => Nat.beq p 166) 3 117 _ _ _).trans rfl

set_option maxRecDepth 16384 in
theorem t_174_128 {d : Nat} {h : AH} (hs : Sh h) (u0 : Option Value) (u1 : Option Value) (u2 : Option Value) (u3 : Option Value) (u4 : Option Value) (u5 : Option Value) :
    Q d 174 128 [u0, u1, u2, u3, u4, u5] [] h =
  Q d 174 166 [none, none, none, none, none, none] [] h := by
  rw [← hs.1]
  exact (blkM (fun p => Nat.beq p 166) 3 128 _ _ _).trans rfl

set_option maxRecDepth 16384 in
theorem t_174_147 {d : Nat} {h : AH} (hs : Sh h) (u0 : Option Value) (u1 : Option Value) (u2 : Option Value) (u3 : Option Value) (u4 : Option Value) (u5 : Option Value) :
    Q d 174 147 [u0, u1, u2, u3, u4, u5] [] h =
  Q d 174 166 [none, none, none, none, none, none] [] h := by
  rw [← hs.1]
  exact (blkM (fun p => Nat.beq p 166) 3 147 _ _ _).trans rfl

set_option maxRecDepth 16384 in
theorem t_174_166 {d : Nat} {h : AH} (hs : Sh h)  :
    Q d 174 166 [none, none, none, none, none, none] [] h =
  some (none, h) := by
  rw [← hs.1]
  exact (blkM (fun p => false) 2 166 _ _ _).trans rfl

/-! 175 PostRoomModel.moves(II)V -/
set_option maxRecDepth 16384 in
theorem t_175 {d : Nat} {h : AH} (hs : Sh h) (x1 : Int32) (x2 : Int32) :
    E (d + 1) 175 [.ref 189, .int x1, .int x2] h =
  if x1 = nI 1 then
   cK (E d 172 [.ref 189, .long x2.toInt64] h) (Q d 175 42 [some (.ref 189), some (.int x1), some (.int x2)]) []
  else
   if x1 = nI 2 then
   gd x2 10 <|
   cK (E d 172 [.ref 189, .long (gB h 282 (ix x2))] h) (Q d 175 55 [some (.ref 189), some (.int x1), some (.int x2)]) []
  else
   if x1 = nI 3 then
   cK (E d 155 [.ref 189] h) (Q d 175 67 [some (.ref 189), some (.int x1), some (.int x2)]) [.int x2, .ref 282]
  else
   if x1 = nI 4 then
   gd x2 4 <|
   cK (E d 172 [.ref 189, .long ((gA h 283 (ix x2)).toInt64)] h) (Q d 175 82 [some (.ref 189), some (.int x1), some (.int x2)]) []
  else
   if x1 = nI 5 then
   cK (E d 155 [.ref 189] h) (Q d 175 94 [some (.ref 189), some (.int x1), some (.int x2)]) [.int x2, .ref 283]
  else
   cK (E d 155 [.ref 189] h) (Q d 175 104 [some (.ref 189), some (.int x1), some (.int x2)]) [.ref 189] := by
  rw [← hs.1]
  exact entL (l := [some (.ref 189), some (.int x1), some (.int x2)]) rfl rfl ((blkM (fun p => Nat.beq p 42 || Nat.beq p 55 || Nat.beq p 67 || Nat.beq p 82 || Nat.beq p 94 || Nat.beq p 104) 10 0 _ _ _).trans rfl)

set_option maxRecDepth 16384 in
theorem t_175_42 {d : Nat} {h : AH} (hs : Sh h) (u0 : Option Value) (u1 : Option Value) (u2 : Option Value) :
    Q d 175 42 [u0, u1, u2] [] h =
  Q d 175 108 [none, none, none] [] h := by
  rw [← hs.1]
  exact (blkM (fun p => Nat.beq p 108) 3 42 _ _ _).trans rfl

set_option maxRecDepth 16384 in
theorem t_175_55 {d : Nat} {h : AH} (hs : Sh h) (u0 : Option Value) (u1 : Option Value) (u2 : Option Value) :
    Q d 175 55 [u0, u1, u2] [] h =
  Q d 175 108 [none, none, none] [] h := by
  rw [← hs.1]
  exact (blkM (fun p => Nat.beq p 108) 3 55 _ _ _).trans rfl

set_option maxRecDepth 16384 in
theorem t_175_67 {d : Nat} {h : AH} (hs : Sh h) (u0 : Option Value) (u1 : Option Value) (u2 : Option Value) (s0 : Nat) (s1 : Int32) (s2 : Int64) :
    Q d 175 67 [u0, u1, u2] [.long s2, .int s1, .ref s0] h =
  (cw (gC h s0) 61 s0 <|
  gd s1 (gK h s0) <|
  Q d 175 108 [none, none, none] [] (sB h s0 (ix s1) s2)) := by
  rw [← hs.1]
  exact (blkM (fun p => Nat.beq p 108) 4 67 _ _ _).trans rfl

set_option maxRecDepth 16384 in
theorem t_175_82 {d : Nat} {h : AH} (hs : Sh h) (u0 : Option Value) (u1 : Option Value) (u2 : Option Value) :
    Q d 175 82 [u0, u1, u2] [] h =
  Q d 175 108 [none, none, none] [] h := by
  rw [← hs.1]
  exact (blkM (fun p => Nat.beq p 108) 3 82 _ _ _).trans rfl

set_option maxRecDepth 16384 in
theorem t_175_94 {d : Nat} {h : AH} (hs : Sh h) (u0 : Option Value) (u1 : Option Value) (u2 : Option Value) (s0 : Nat) (s1 : Int32) (s2 : Int64) :
    Q d 175 94 [u0, u1, u2] [.long s2, .int s1, .ref s0] h =
  (cw (gC h s0) 60 s0 <|
  gd s1 (gK h s0) <|
  Q d 175 108 [none, none, none] [] (sA h s0 (ix s1) s2.toInt32)) := by
  rw [← hs.1]
  exact (blkM (fun p => Nat.beq p 108) 5 94 _ _ _).trans rfl

set_option maxRecDepth 16384 in
theorem t_175_104 {d : Nat} {h : AH} (hs : Sh h) (u0 : Option Value) (u1 : Option Value) (u2 : Option Value) (s0 : Nat) (s1 : Int64) :
    Q d 175 104 [u0, u1, u2] [.long s1, .ref s0] h =
  (ck (gC h s0) 14 <|
  cK (E d 172 [.ref s0, .long (-s1)] h) (Q d 175 108 [none, none, none]) []) := by
  rw [← hs.1]
  exact (blkM (fun p => Nat.beq p 108) 3 104 _ _ _).trans rfl

set_option maxRecDepth 16384 in
theorem t_175_108 {d : Nat} {h : AH} (hs : Sh h)  :
    Q d 175 108 [none, none, none] [] h =
  some (none, h) := by
  rw [← hs.1]
  exact (blkM (fun p => false) 2 108 _ _ _).trans rfl

/-! 176 PostRoomModel.refused()V -/
set_option maxRecDepth 16384 in
theorem t_176 {d : Nat} {h : AH} (hs : Sh h)  :
    E (d + 1) 176 [.ref 189] h =
  if gI h 3721 189 = nI 4000 then
   some (none, sI h 3732 189 (nI 11))
  else
   cK (E d 157 [.ref 189, .int (gI h 3733 189), .long (gL h 3734 189)] (sI (sI h 3721 189 ((gI h 3721 189) + (nI 1))) 3723 189 (nI 0))) (Q d 176 44 [some (.ref 189)]) [] := by
  rw [← hs.1]
  exact entL (l := [some (.ref 189)]) rfl rfl ((blkM (fun p => Nat.beq p 44) 20 0 _ _ _).trans rfl)

set_option maxRecDepth 16384 in
theorem t_176_44 {d : Nat} {h : AH} (hs : Sh h) (u0 : Option Value) :
    Q d 176 44 [u0] [] h =
  some (none, h) := by
  rw [← hs.1]
  exact (blkM (fun p => false) 2 44 _ _ _).trans rfl

/-! 177 PostRoomModel.number(I)J -/
set_option maxRecDepth 16384 in
theorem t_177 {d : Nat} {h : AH} (hs : Sh h) (x1 : Int32) :
    E (d + 1) 177 [.ref 189, .int x1] h =
  if x1 < nI 0 then
   if (nI 0) < nI 1 then
    some (some (.long 0), sI h 3586 189 (nI 1))
   else
    gd x1 10 <|
    some (some (.long (gB h 282 (ix x1))), sI h 3586 189 (nI 1))
  else
   if x1 < nI 10 then
    if (nI 0) < nI 0 then
     some (some (.long 0), sI h 3586 189 (nI 0))
    else
     gd x1 10 <|
     some (some (.long (gB h 282 (ix x1))), sI h 3586 189 (nI 0))
   else
    if (nI 0) < nI 1 then
     some (some (.long 0), sI h 3586 189 (nI 1))
    else
     gd x1 10 <|
     some (some (.long (gB h 282 (ix x1))), sI h 3586 189 (nI 1)) := by
  rw [← hs.1]
  exact entL (l := [some (.ref 189), some (.int x1)]) rfl rfl ((blkM (fun p => false) 18 0 _ _ _).trans rfl)

/-! 178 PostRoomModel.held(I)I -/
set_option maxRecDepth 16384 in
theorem t_178 {d : Nat} {h : AH} (hs : Sh h) (x1 : Int32) :
    E (d + 1) 178 [.ref 189, .int x1] h =
  if x1 < nI 0 then
   if (nI 0) < nI 1 then
    some (some (.int (nI 0)), sI h 3586 189 (nI 1))
   else
    gd x1 4 <|
    some (some (.int (gA h 283 (ix x1))), sI h 3586 189 (nI 1))
  else
   if x1 < nI 4 then
    if (nI 0) < nI 0 then
     some (some (.int (nI 0)), sI h 3586 189 (nI 0))
    else
     gd x1 4 <|
     some (some (.int (gA h 283 (ix x1))), sI h 3586 189 (nI 0))
   else
    if (nI 0) < nI 1 then
     some (some (.int (nI 0)), sI h 3586 189 (nI 1))
    else
     gd x1 4 <|
     some (some (.int (gA h 283 (ix x1))), sI h 3586 189 (nI 1)) := by
  rw [← hs.1]
  exact entL (l := [some (.ref 189), some (.int x1)]) rfl rfl ((blkM (fun p => false) 18 0 _ _ _).trans rfl)

/-! 179 PostRoomModel.tray(II)I -/
set_option maxRecDepth 16384 in
theorem t_179 {d : Nat} {h : AH} (hs : Sh h) (x1 : Int32) (x2 : Int32) :
    E (d + 1) 179 [.ref 189, .int x1, .int x2] h =
  if x1 < nI 0 then
   if (nI 0) < nI 1 then
    some (some (.int (nI 0)), sI h 3586 189 (nI 1))
   else
    gd x1 12 <|
    if x2 = nI 0 then
     if gA h 284 (ix x1) < nI 0 then
      some (some (.int (nI 0)), sI h 3586 189 (nI 1))
     else
      gd (gA h 284 (ix x1)) 13 <|
      some (some (.int (gA h 285 (ix (gA h 284 (ix x1))))), sI h 3586 189 (nI 1))
    else
     if gA h 284 (ix x1) < nI 0 then
      some (some (.int (-1)), sI h 3586 189 (nI 1))
     else
      if x2 < nI 0 then
       some (some (.int (-1)), sI h 3586 189 (nI 1))
      else
       if (nI 2) < x2 then
        some (some (.int (-1)), sI h 3586 189 (nI 1))
       else
        if x2 = nI 1 then
         gd (gA h 284 (ix x1)) 13 <|
         some (some (.int (gA h 287 (ix (gA h 284 (ix x1))))), sI h 3586 189 (nI 1))
        else
         Q d 179 84 [some (.ref 189), none, none, some (.int (gA h 284 (ix x1))), some (.int (nI 0))] [] (sI h 3586 189 (nI 1))
  else
   if x1 < nI 12 then
    if (nI 0) < nI 0 then
     some (some (.int (nI 0)), sI h 3586 189 (nI 0))
    else
     gd x1 12 <|
     if x2 = nI 0 then
      if gA h 284 (ix x1) < nI 0 then
       some (some (.int (nI 0)), sI h 3586 189 (nI 0))
      else
       gd (gA h 284 (ix x1)) 13 <|
       some (some (.int (gA h 285 (ix (gA h 284 (ix x1))))), sI h 3586 189 (nI 0))
     else
      if gA h 284 (ix x1) < nI 0 then
       some (some (.int (-1)), sI h 3586 189 (nI 0))
      else
       if x2 < nI 0 then
        some (some (.int (-1)), sI h 3586 189 (nI 0))
       else
        if (nI 2) < x2 then
         some (some (.int (-1)), sI h 3586 189 (nI 0))
        else
         if x2 = nI 1 then
          gd (gA h 284 (ix x1)) 13 <|
          some (some (.int (gA h 287 (ix (gA h 284 (ix x1))))), sI h 3586 189 (nI 0))
         else
          Q d 179 84 [some (.ref 189), none, none, some (.int (gA h 284 (ix x1))), some (.int (nI 0))] [] (sI h 3586 189 (nI 0))
   else
    if (nI 0) < nI 1 then
     some (some (.int (nI 0)), sI h 3586 189 (nI 1))
    else
     gd x1 12 <|
     if x2 = nI 0 then
      if gA h 284 (ix x1) < nI 0 then
       some (some (.int (nI 0)), sI h 3586 189 (nI 1))
      else
       gd (gA h 284 (ix x1)) 13 <|
       some (some (.int (gA h 285 (ix (gA h 284 (ix x1))))), sI h 3586 189 (nI 1))
     else
      if gA h 284 (ix x1) < nI 0 then
       some (some (.int (-1)), sI h 3586 189 (nI 1))
      else
       if x2 < nI 0 then
        some (some (.int (-1)), sI h 3586 189 (nI 1))
       else
        if (nI 2) < x2 then
         some (some (.int (-1)), sI h 3586 189 (nI 1))
        else
         if x2 = nI 1 then
          gd (gA h 284 (ix x1)) 13 <|
          some (some (.int (gA h 287 (ix (gA h 284 (ix x1))))), sI h 3586 189 (nI 1))
         else
          Q d 179 84 [some (.ref 189), none, none, some (.int (gA h 284 (ix x1))), some (.int (nI 0))] [] (sI h 3586 189 (nI 1)) := by
  rw [← hs.1]
  exact entL (l := [some (.ref 189), some (.int x1), some (.int x2), none, none]) rfl rfl ((blkM (fun p => Nat.beq p 84) 35 0 _ _ _).trans rfl)

set_option maxRecDepth 16384 in
theorem t_179_84 {d : Nat} {h : AH} (hs : Sh h) (x3 : Int32) (x4 : Int32) :
    Q d 179 84 [some (.ref 189), none, none, some (.int x3), some (.int x4)] [] h =
  (gd x4 12 <|
  if gA h 284 (ix x4) = x3 then
   some (some (.int x4), h)
  else
   Q d 179 84 [some (.ref 189), none, none, some (.int x3), some (.int (x4 + nI 1))] [] h) := by
  rw [← hs.1]
  exact (blkM (fun p => Nat.beq p 84) 10 84 _ _ _).trans rfl

/-! 180 PostRoomModel.place(II)J -/
set_option maxRecDepth 16384 in
theorem t_180 {d : Nat} {h : AH} (hs : Sh h) (x1 : Int32) (x2 : Int32) :
    E (d + 1) 180 [.ref 189, .int x1, .int x2] h =
  if x1 < nI 0 then
   if (nI 0) < nI 1 then
    some (some (.long 0), sI h 3586 189 (nI 1))
   else
    gd x1 12 <|
    gd (gA h 284 (ix x1)) 13 <|
    gd ((gA h 286 (ix (gA h 284 (ix x1)))) + x2) 2000 <|
    some (some (.long (gB h 288 (ix ((gA h 286 (ix (gA h 284 (ix x1)))) + x2)))), sI h 3586 189 (nI 1))
  else
   if x1 < nI 12 then
    gd x1 12 <|
    if gA h 284 (ix x1) < nI 0 then
     if (nI 0) < nI 1 then
      some (some (.long 0), sI h 3586 189 (nI 1))
     else
      gd x1 12 <|
      gd (gA h 284 (ix x1)) 13 <|
      gd ((gA h 286 (ix (gA h 284 (ix x1)))) + x2) 2000 <|
      some (some (.long (gB h 288 (ix ((gA h 286 (ix (gA h 284 (ix x1)))) + x2)))), sI h 3586 189 (nI 1))
    else
     if x2 < nI 0 then
      if (nI 0) < nI 1 then
       some (some (.long 0), sI h 3586 189 (nI 1))
      else
       gd x1 12 <|
       gd (gA h 284 (ix x1)) 13 <|
       gd ((gA h 286 (ix (gA h 284 (ix x1)))) + x2) 2000 <|
       some (some (.long (gB h 288 (ix ((gA h 286 (ix (gA h 284 (ix x1)))) + x2)))), sI h 3586 189 (nI 1))
     else
      gd x1 12 <|
      gd (gA h 284 (ix x1)) 13 <|
      if x2 < gA h 287 (ix (gA h 284 (ix x1))) then
       if (nI 0) < nI 0 then
        some (some (.long 0), sI h 3586 189 (nI 0))
       else
        gd x1 12 <|
        gd (gA h 284 (ix x1)) 13 <|
        gd ((gA h 286 (ix (gA h 284 (ix x1)))) + x2) 2000 <|
        some (some (.long (gB h 288 (ix ((gA h 286 (ix (gA h 284 (ix x1)))) + x2)))), sI h 3586 189 (nI 0))
      else
       if (nI 0) < nI 1 then
        some (some (.long 0), sI h 3586 189 (nI 1))
       else
        gd x1 12 <|
        gd (gA h 284 (ix x1)) 13 <|
        gd ((gA h 286 (ix (gA h 284 (ix x1)))) + x2) 2000 <|
        some (some (.long (gB h 288 (ix ((gA h 286 (ix (gA h 284 (ix x1)))) + x2)))), sI h 3586 189 (nI 1))
   else
    if (nI 0) < nI 1 then
     some (some (.long 0), sI h 3586 189 (nI 1))
    else
     gd x1 12 <|
     gd (gA h 284 (ix x1)) 13 <|
     gd ((gA h 286 (ix (gA h 284 (ix x1)))) + x2) 2000 <|
     some (some (.long (gB h 288 (ix ((gA h 286 (ix (gA h 284 (ix x1)))) + x2)))), sI h 3586 189 (nI 1)) := by
  rw [← hs.1]
  exact entL (l := [some (.ref 189), some (.int x1), some (.int x2)]) rfl rfl ((blkM (fun p => false) 42 0 _ _ _).trans rfl)

/-! 181 PostRoomModel.item(II)I -/
set_option maxRecDepth 16384 in
theorem t_181 {d : Nat} {h : AH} (hs : Sh h) (x1 : Int32) (x2 : Int32) :
    E (d + 1) 181 [.ref 189, .int x1, .int x2] h =
  if x1 < nI 0 then
   if (nI 0) < nI 1 then
    some (some (.int (nI 0)), sI h 3586 189 (nI 1))
   else
    if x2 = nI 0 then
     gd x1 200 <|
     some (some (.int (gA h 242 (ix x1))), sI h 3586 189 (nI 1))
    else
     if x2 = nI 1 then
     gd x1 200 <|
     some (some (.int (gA h 243 (ix x1))), sI h 3586 189 (nI 1))
    else
     if x2 = nI 2 then
     gd x1 200 <|
     some (some (.int (gA h 244 (ix x1))), sI h 3586 189 (nI 1))
    else
     if x2 = nI 3 then
     gd x1 200 <|
     some (some (.int (gA h 246 (ix x1))), sI h 3586 189 (nI 1))
    else
     if x2 = nI 4 then
     gd x1 200 <|
     some (some (.int (gA h 247 (ix x1))), sI h 3586 189 (nI 1))
    else
     if x2 = nI 5 then
     gd x1 200 <|
     some (some (.int (gA h 248 (ix x1))), sI h 3586 189 (nI 1))
    else
     if x2 = nI 6 then
     gd x1 200 <|
     some (some (.int (gA h 249 (ix x1))), sI h 3586 189 (nI 1))
    else
     if x2 = nI 7 then
     gd x1 200 <|
     some (some (.int (gA h 250 (ix x1))), sI h 3586 189 (nI 1))
    else
     if x2 = nI 8 then
     gd x1 200 <|
     some (some (.int (gA h 251 (ix x1))), sI h 3586 189 (nI 1))
    else
     if x2 = nI 9 then
     gd x1 200 <|
     some (some (.int (gA h 252 (ix x1))), sI h 3586 189 (nI 1))
    else
     gd x1 200 <|
    some (some (.int (gA h 253 (ix x1))), sI h 3586 189 (nI 1))
  else
   if x1 < gI h 3654 189 then
    if x2 < nI 0 then
     if (nI 0) < nI 1 then
      some (some (.int (nI 0)), sI h 3586 189 (nI 1))
     else
      if x2 = nI 0 then
       gd x1 200 <|
       some (some (.int (gA h 242 (ix x1))), sI h 3586 189 (nI 1))
      else
       if x2 = nI 1 then
       gd x1 200 <|
       some (some (.int (gA h 243 (ix x1))), sI h 3586 189 (nI 1))
      else
       if x2 = nI 2 then
       gd x1 200 <|
       some (some (.int (gA h 244 (ix x1))), sI h 3586 189 (nI 1))
      else
       if x2 = nI 3 then
       gd x1 200 <|
       some (some (.int (gA h 246 (ix x1))), sI h 3586 189 (nI 1))
      else
       if x2 = nI 4 then
       gd x1 200 <|
       some (some (.int (gA h 247 (ix x1))), sI h 3586 189 (nI 1))
      else
       if x2 = nI 5 then
       gd x1 200 <|
       some (some (.int (gA h 248 (ix x1))), sI h 3586 189 (nI 1))
      else
       if x2 = nI 6 then
       gd x1 200 <|
       some (some (.int (gA h 249 (ix x1))), sI h 3586 189 (nI 1))
      else
       if x2 = nI 7 then
       gd x1 200 <|
       some (some (.int (gA h 250 (ix x1))), sI h 3586 189 (nI 1))
      else
       if x2 = nI 8 then
       gd x1 200 <|
       some (some (.int (gA h 251 (ix x1))), sI h 3586 189 (nI 1))
      else
       if x2 = nI 9 then
       gd x1 200 <|
       some (some (.int (gA h 252 (ix x1))), sI h 3586 189 (nI 1))
      else
       gd x1 200 <|
      some (some (.int (gA h 253 (ix x1))), sI h 3586 189 (nI 1))
    else
     if (nI 10) < x2 then
      if (nI 0) < nI 1 then
       some (some (.int (nI 0)), sI h 3586 189 (nI 1))
      else
       if x2 = nI 0 then
        gd x1 200 <|
        some (some (.int (gA h 242 (ix x1))), sI h 3586 189 (nI 1))
       else
        if x2 = nI 1 then
        gd x1 200 <|
        some (some (.int (gA h 243 (ix x1))), sI h 3586 189 (nI 1))
       else
        if x2 = nI 2 then
        gd x1 200 <|
        some (some (.int (gA h 244 (ix x1))), sI h 3586 189 (nI 1))
       else
        if x2 = nI 3 then
        gd x1 200 <|
        some (some (.int (gA h 246 (ix x1))), sI h 3586 189 (nI 1))
       else
        if x2 = nI 4 then
        gd x1 200 <|
        some (some (.int (gA h 247 (ix x1))), sI h 3586 189 (nI 1))
       else
        if x2 = nI 5 then
        gd x1 200 <|
        some (some (.int (gA h 248 (ix x1))), sI h 3586 189 (nI 1))
       else
        if x2 = nI 6 then
        gd x1 200 <|
        some (some (.int (gA h 249 (ix x1))), sI h 3586 189 (nI 1))
       else
        if x2 = nI 7 then
        gd x1 200 <|
        some (some (.int (gA h 250 (ix x1))), sI h 3586 189 (nI 1))
       else
        if x2 = nI 8 then
        gd x1 200 <|
        some (some (.int (gA h 251 (ix x1))), sI h 3586 189 (nI 1))
       else
        if x2 = nI 9 then
        gd x1 200 <|
        some (some (.int (gA h 252 (ix x1))), sI h 3586 189 (nI 1))
       else
        gd x1 200 <|
       some (some (.int (gA h 253 (ix x1))), sI h 3586 189 (nI 1))
     else
      if (nI 0) < nI 0 then
       some (some (.int (nI 0)), sI h 3586 189 (nI 0))
      else
       if x2 = nI 0 then
        gd x1 200 <|
        some (some (.int (gA h 242 (ix x1))), sI h 3586 189 (nI 0))
       else
        if x2 = nI 1 then
        gd x1 200 <|
        some (some (.int (gA h 243 (ix x1))), sI h 3586 189 (nI 0))
       else
        if x2 = nI 2 then
        gd x1 200 <|
        some (some (.int (gA h 244 (ix x1))), sI h 3586 189 (nI 0))
       else
        if x2 = nI 3 then
        gd x1 200 <|
        some (some (.int (gA h 246 (ix x1))), sI h 3586 189 (nI 0))
       else
        if x2 = nI 4 then
        gd x1 200 <|
        some (some (.int (gA h 247 (ix x1))), sI h 3586 189 (nI 0))
       else
        if x2 = nI 5 then
        gd x1 200 <|
        some (some (.int (gA h 248 (ix x1))), sI h 3586 189 (nI 0))
       else
        if x2 = nI 6 then
        gd x1 200 <|
        some (some (.int (gA h 249 (ix x1))), sI h 3586 189 (nI 0))
       else
        if x2 = nI 7 then
        gd x1 200 <|
        some (some (.int (gA h 250 (ix x1))), sI h 3586 189 (nI 0))
       else
        if x2 = nI 8 then
        gd x1 200 <|
        some (some (.int (gA h 251 (ix x1))), sI h 3586 189 (nI 0))
       else
        if x2 = nI 9 then
        gd x1 200 <|
        some (some (.int (gA h 252 (ix x1))), sI h 3586 189 (nI 0))
       else
        gd x1 200 <|
       some (some (.int (gA h 253 (ix x1))), sI h 3586 189 (nI 0))
   else
    if (nI 0) < nI 1 then
     some (some (.int (nI 0)), sI h 3586 189 (nI 1))
    else
     if x2 = nI 0 then
      gd x1 200 <|
      some (some (.int (gA h 242 (ix x1))), sI h 3586 189 (nI 1))
     else
      if x2 = nI 1 then
      gd x1 200 <|
      some (some (.int (gA h 243 (ix x1))), sI h 3586 189 (nI 1))
     else
      if x2 = nI 2 then
      gd x1 200 <|
      some (some (.int (gA h 244 (ix x1))), sI h 3586 189 (nI 1))
     else
      if x2 = nI 3 then
      gd x1 200 <|
      some (some (.int (gA h 246 (ix x1))), sI h 3586 189 (nI 1))
     else
      if x2 = nI 4 then
      gd x1 200 <|
      some (some (.int (gA h 247 (ix x1))), sI h 3586 189 (nI 1))
     else
      if x2 = nI 5 then
      gd x1 200 <|
      some (some (.int (gA h 248 (ix x1))), sI h 3586 189 (nI 1))
     else
      if x2 = nI 6 then
      gd x1 200 <|
      some (some (.int (gA h 249 (ix x1))), sI h 3586 189 (nI 1))
     else
      if x2 = nI 7 then
      gd x1 200 <|
      some (some (.int (gA h 250 (ix x1))), sI h 3586 189 (nI 1))
     else
      if x2 = nI 8 then
      gd x1 200 <|
      some (some (.int (gA h 251 (ix x1))), sI h 3586 189 (nI 1))
     else
      if x2 = nI 9 then
      gd x1 200 <|
      some (some (.int (gA h 252 (ix x1))), sI h 3586 189 (nI 1))
     else
      gd x1 200 <|
     some (some (.int (gA h 253 (ix x1))), sI h 3586 189 (nI 1)) := by
  rw [← hs.1]
  exact entL (l := [some (.ref 189), some (.int x1), some (.int x2)]) rfl rfl ((blkM (fun p => false) 26 0 _ _ _).trans rfl)

/-! 182 PostRoomModel.shelf(II)I -/
set_option maxRecDepth 16384 in
theorem t_182 {d : Nat} {h : AH} (hs : Sh h) (x1 : Int32) (x2 : Int32) :
    E (d + 1) 182 [.ref 189, .int x1, .int x2] h =
  cK (E d 82 [.ref 189, .int x1] (sI h 3586 189 (nI 0))) (Q d 182 10 [some (.ref 189), some (.int x1), some (.int x2)]) [] := by
  rw [← hs.1]
  exact entL (l := [some (.ref 189), some (.int x1), some (.int x2)]) rfl rfl ((blkM (fun p => Nat.beq p 10) 7 0 _ _ _).trans rfl)

set_option maxRecDepth 16384 in
theorem t_182_10 {d : Nat} {h : AH} (hs : Sh h) (x1 : Int32) (x2 : Int32) (s0 : Int32) :
    Q d 182 10 [some (.ref 189), some (.int x1), some (.int x2)] [.int s0] h =
  if s0 = nI 0 then
   some (some (.int (-1)), h)
  else
   if x2 < nI 0 then
    some (some (.int (-1)), h)
   else
    gd x1 16 <|
    if x2 < gA h 255 (ix x1) then
     gd (((nI 200) * x1) + x2) 3200 <|
     some (some (.int (gA h 254 (ix (((nI 200) * x1) + x2)))), h)
    else
     some (some (.int (-1)), h) := by
  rw [← hs.1]
  exact (blkM (fun p => false) 20 10 _ _ _).trans rfl

/-! 183 PostRoomModel.bag(II)I -/
set_option maxRecDepth 16384 in
theorem t_183 {d : Nat} {h : AH} (hs : Sh h) (x1 : Int32) (x2 : Int32) :
    E (d + 1) 183 [.ref 189, .int x1, .int x2] h =
  if x1 < nI 0 then
   some (some (.int (-1)), sI h 3586 189 (nI 0))
  else
   gd (gI h 3597 189) 2 <|
   if x1 < gA h 225 (ix (gI h 3597 189)) then
    if x2 < nI 0 then
     some (some (.int (-1)), sI h 3586 189 (nI 0))
    else
     gd x1 40 <|
     if x2 < gA h 257 (ix x1) then
      gd (((nI 200) * x1) + x2) 8000 <|
      some (some (.int (gA h 256 (ix (((nI 200) * x1) + x2)))), sI h 3586 189 (nI 0))
     else
      some (some (.int (-1)), sI h 3586 189 (nI 0))
   else
    some (some (.int (-1)), sI h 3586 189 (nI 0)) := by
  rw [← hs.1]
  exact entL (l := [some (.ref 189), some (.int x1), some (.int x2)]) rfl rfl ((blkM (fun p => false) 31 0 _ _ _).trans rfl)

/-! 184 PostRoomModel.count(I)I -/
set_option maxRecDepth 16384 in
theorem t_184 {d : Nat} {h : AH} (hs : Sh h) (x1 : Int32) :
    E (d + 1) 184 [.ref 189, .int x1] h =
  if x1 < nI 6 then
   if x1 = nI 0 then
    gd (gI h 3597 189) 2 <|
    some (some (.int (gA h 197 (ix (gI h 3597 189)))), sI h 3586 189 (nI 0))
   else
    if x1 = nI 1 then
    gd (gI h 3597 189) 2 <|
    some (some (.int (gA h 205 (ix (gI h 3597 189)))), sI h 3586 189 (nI 0))
   else
    if x1 = nI 2 then
    gd (gI h 3597 189) 2 <|
    some (some (.int (gA h 216 (ix (gI h 3597 189)))), sI h 3586 189 (nI 0))
   else
    if x1 = nI 3 then
    gd (gI h 3597 189) 2 <|
    some (some (.int (gA h 225 (ix (gI h 3597 189)))), sI h 3586 189 (nI 0))
   else
    if x1 = nI 4 then
    some (some (.int (gI h 3677 189)), sI h 3586 189 (nI 0))
   else
    if x1 = nI 5 then
    some (some (.int (gI h 3654 189)), sI h 3586 189 (nI 0))
   else
    if x1 = nI 6 then
    some (some (.int (-1)), sI h 3586 189 (nI 0))
   else
    if x1 = nI 7 then
    some (some (.int (-1)), sI h 3586 189 (nI 0))
   else
    if x1 = nI 8 then
    some (some (.int (-1)), sI h 3586 189 (nI 0))
   else
    if x1 = nI 9 then
    some (some (.int (-1)), sI h 3586 189 (nI 0))
   else
    if x1 = nI 10 then
    some (some (.int (-1)), sI h 3586 189 (nI 0))
   else
    if x1 = nI 11 then
    some (some (.int (gI h 3688 189)), sI h 3586 189 (nI 0))
   else
    if x1 = nI 12 then
    some (some (.int (gI h 3678 189)), sI h 3586 189 (nI 0))
   else
    if x1 = nI 13 then
    some (some (.int (gI h 3719 189)), sI h 3586 189 (nI 0))
   else
    if x1 = nI 14 then
    some (some (.int (gI h 3720 189)), sI h 3586 189 (nI 0))
   else
    if x1 = nI 15 then
    some (some (.int (gI h 3667 189)), sI h 3586 189 (nI 0))
   else
    if x1 = nI 16 then
    some (some (.int (gI h 3590 189)), sI h 3586 189 (nI 0))
   else
    if x1 = nI 17 then
    some (some (.int (gI h 3676 189)), sI h 3586 189 (nI 0))
   else
    some (some (.int (-1)), sI h 3586 189 (nI 0))
  else
   if (nI 10) < x1 then
    if x1 = nI 0 then
     gd (gI h 3597 189) 2 <|
     some (some (.int (gA h 197 (ix (gI h 3597 189)))), sI h 3586 189 (nI 0))
    else
     if x1 = nI 1 then
     gd (gI h 3597 189) 2 <|
     some (some (.int (gA h 205 (ix (gI h 3597 189)))), sI h 3586 189 (nI 0))
    else
     if x1 = nI 2 then
     gd (gI h 3597 189) 2 <|
     some (some (.int (gA h 216 (ix (gI h 3597 189)))), sI h 3586 189 (nI 0))
    else
     if x1 = nI 3 then
     gd (gI h 3597 189) 2 <|
     some (some (.int (gA h 225 (ix (gI h 3597 189)))), sI h 3586 189 (nI 0))
    else
     if x1 = nI 4 then
     some (some (.int (gI h 3677 189)), sI h 3586 189 (nI 0))
    else
     if x1 = nI 5 then
     some (some (.int (gI h 3654 189)), sI h 3586 189 (nI 0))
    else
     if x1 = nI 6 then
     some (some (.int (-1)), sI h 3586 189 (nI 0))
    else
     if x1 = nI 7 then
     some (some (.int (-1)), sI h 3586 189 (nI 0))
    else
     if x1 = nI 8 then
     some (some (.int (-1)), sI h 3586 189 (nI 0))
    else
     if x1 = nI 9 then
     some (some (.int (-1)), sI h 3586 189 (nI 0))
    else
     if x1 = nI 10 then
     some (some (.int (-1)), sI h 3586 189 (nI 0))
    else
     if x1 = nI 11 then
     some (some (.int (gI h 3688 189)), sI h 3586 189 (nI 0))
    else
     if x1 = nI 12 then
     some (some (.int (gI h 3678 189)), sI h 3586 189 (nI 0))
    else
     if x1 = nI 13 then
     some (some (.int (gI h 3719 189)), sI h 3586 189 (nI 0))
    else
     if x1 = nI 14 then
     some (some (.int (gI h 3720 189)), sI h 3586 189 (nI 0))
    else
     if x1 = nI 15 then
     some (some (.int (gI h 3667 189)), sI h 3586 189 (nI 0))
    else
     if x1 = nI 16 then
     some (some (.int (gI h 3590 189)), sI h 3586 189 (nI 0))
    else
     if x1 = nI 17 then
     some (some (.int (gI h 3676 189)), sI h 3586 189 (nI 0))
    else
     some (some (.int (-1)), sI h 3586 189 (nI 0))
   else
    Q d 184 21 [some (.ref 189), some (.int x1), some (.int (nI 0)), some (.int (nI 0))] [] (sI h 3586 189 (nI 0)) := by
  rw [← hs.1]
  exact entL (l := [some (.ref 189), some (.int x1), none, none]) rfl rfl ((blkM (fun p => Nat.beq p 21) 18 0 _ _ _).trans rfl)

set_option maxRecDepth 16384 in
theorem t_184_21 {d : Nat} {h : AH} (hs : Sh h) (x1 : Int32) (x2 : Int32) (x3 : Int32) :
    Q d 184 21 [some (.ref 189), some (.int x1), some (.int x2), some (.int x3)] [] h =
  if x3 < gI h 3654 189 then
   gd x3 200 <|
   if gA h 248 (ix x3) = x1 - (nI 6) then
    Q d 184 21 [some (.ref 189), some (.int x1), some (.int (x2 + (nI 1))), some (.int (x3 + nI 1))] [] h
   else
    Q d 184 21 [some (.ref 189), some (.int x1), some (.int (x2 + (nI 0))), some (.int (x3 + nI 1))] [] h
  else
   some (some (.int x2), h) := by
  rw [← hs.1]
  exact (blkM (fun p => Nat.beq p 21) 21 21 _ _ _).trans rfl

/-! 189 PostRoom$Script.<init>()V -/
set_option maxRecDepth 16384 in
theorem t_189 {d : Nat} {h : AH} (hs : Sh h) (x0 : Nat) :
    E (d + 1) 189 [.ref x0] h =
  Q d 189 10 [some (.ref x0)] [.ref (gN h), .ref x0] (nwA h 60 4001) := by
  rw [← hs.1]
  exact entL (l := [some (.ref x0)]) rfl rfl ((blkM (fun p => Nat.beq p 10) 7 0 _ _ _).trans rfl)

set_option maxRecDepth 16384 in
theorem t_189_10 {d : Nat} {h : AH} (hs : Sh h) (x0 : Nat) (s0 : Nat) (s1 : Nat) :
    Q d 189 10 [some (.ref x0)] [.ref s1, .ref s0] h =
  (ck (gC h s0) 9 <|
  Q d 189 19 [some (.ref x0)] [.ref (gN h), .ref x0] (nwA (sR h 2304 s0 (some s1)) 60 4001)) := by
  rw [← hs.1]
  exact (blkM (fun p => Nat.beq p 19) 6 10 _ _ _).trans rfl

set_option maxRecDepth 16384 in
theorem t_189_19 {d : Nat} {h : AH} (hs : Sh h) (u0 : Option Value) (s0 : Nat) (s1 : Nat) :
    Q d 189 19 [u0] [.ref s1, .ref s0] h =
  (ck (gC h s0) 9 <|
  some (none, sR h 2305 s0 (some s1))) := by
  rw [← hs.1]
  exact (blkM (fun p => false) 3 19 _ _ _).trans rfl

/-! 190 java/lang/String.length()I -/
set_option maxRecDepth 16384 in
theorem t_190 {d : Nat} {h : AH} (hs : Sh h) (x0 : Nat) :
    E (d + 1) 190 [.ref x0] h =
  (ck (gC h x0) 15 <|
  (gR h 3840 x0).bind fun y1 =>
   if 60 ≤ gC h y1 ∧ gC h y1 ≤ 66 then
    ck (gC h x0) 15 <|
    cK (E d 227 [.ref x0] h) (Q d 190 9 [some (.ref x0)]) [.int (nI (gK h y1))]
   else
    none) := by
  rw [← hs.1]
  exact entL (l := [some (.ref x0)]) rfl rfl ((blkM (fun p => Nat.beq p 9) 6 0 _ _ _).trans rfl)

set_option maxRecDepth 16384 in
theorem t_190_9 {d : Nat} {h : AH} (hs : Sh h) (u0 : Option Value) (s0 : Int32) (s1 : Int32) :
    Q d 190 9 [u0] [.int s1, .int s0] h =
  some (some (.int (s0 >>> (s1 &&& 31))), h) := by
  rw [← hs.1]
  exact (blkM (fun p => false) 3 9 _ _ _).trans rfl

/-! 191 java/lang/String.charAt(I)C -/
set_option maxRecDepth 16384 in
theorem t_191 {d : Nat} {h : AH} (hs : Sh h) (x0 : Nat) (x1 : Int32) :
    E (d + 1) 191 [.ref x0, .int x1] h =
  (ck (gC h x0) 15 <|
  cK (E d 228 [.ref x0] h) (Q d 191 4 [some (.ref x0), some (.int x1)]) []) := by
  rw [← hs.1]
  exact entL (l := [some (.ref x0), some (.int x1)]) rfl rfl ((blkM (fun p => Nat.beq p 4) 3 0 _ _ _).trans rfl)

set_option maxRecDepth 16384 in
theorem t_191_4 {d : Nat} {h : AH} (hs : Sh h) (x0 : Nat) (x1 : Int32) (s0 : Int32) :
    Q d 191 4 [some (.ref x0), some (.int x1)] [.int s0] h =
  if s0 = nI 0 then
   ck (gC h x0) 15 <|
   (gR h 3840 x0).bind fun y1 =>
    none
  else
   ck (gC h x0) 15 <|
   (gR h 3840 x0).bind fun y2 =>
    cK (E d 229 [.ref y2, .int x1] h) (Q d 191 15 [some (.ref x0), some (.int x1)]) [] := by
  rw [← hs.1]
  exact (blkM (fun p => Nat.beq p 15) 6 4 _ _ _).trans rfl

set_option maxRecDepth 16384 in
theorem t_191_15 {d : Nat} {h : AH} (hs : Sh h) (u0 : Option Value) (u1 : Option Value) (s0 : Int32) :
    Q d 191 15 [u0, u1] [.int s0] h =
  if narrow .char (.int s0) = .int s0 then
   some (some (.int s0), h)
  else
   none := by
  rw [← hs.1]
  exact (blkM (fun p => false) 2 15 _ _ _).trans rfl

/-! 192 PostRoom$Tape.append(J)V -/
set_option maxRecDepth 16384 in
theorem t_192 {d : Nat} {h : AH} (hs : Sh h) (x1 : Int64) :
    E (d + 1) 192 [.ref 101, .long x1] h =
  Q d 192 3 [some (.ref 101), some (.long x1), none, some (.int (nI 56)), none] [] h := by
  rw [← hs.1]
  exact entL (l := [some (.ref 101), some (.long x1), none, none, none]) rfl rfl ((blkM (fun p => Nat.beq p 3) 4 0 _ _ _).trans rfl)

set_option maxRecDepth 16384 in
theorem t_192_3 {d : Nat} {h : AH} (hs : Sh h) (x1 : Int64) (x3 : Int32) :
    Q d 192 3 [some (.ref 101), some (.long x1), none, some (.int x3), none] [] h =
  if x3 < nI 0 then
   some (none, h)
  else
   if gI h 3073 101 < nI 4000 then
    if (((x1.toUInt64 >>> (x3.toInt64.toUInt64 &&& Int64.toUInt64 63)).toInt64).toInt32) &&& (nI 255) = nI 10 then
     gd (gI h 3073 101) 4000 <|
     Q d 192 3 [some (.ref 101), some (.long x1), none, some (.int (x3 + (-8))), none] [] (sI (sA h 102 (ix (gI h 3073 101)) (nrA 62 ((((((x1.toUInt64 >>> (x3.toInt64.toUInt64 &&& Int64.toUInt64 63)).toInt64).toInt32) &&& (nI 255)).toUInt32 % 65536).toInt32))) 3073 101 ((gI h 3073 101) + (nI 1)))
    else
     if (((x1.toUInt64 >>> (x3.toInt64.toUInt64 &&& Int64.toUInt64 63)).toInt64).toInt32) &&& (nI 255) < nI 32 then
      Q d 192 3 [some (.ref 101), some (.long x1), none, some (.int (x3 + (-8))), none] [] h
     else
      if (nI 126) < (((x1.toUInt64 >>> (x3.toInt64.toUInt64 &&& Int64.toUInt64 63)).toInt64).toInt32) &&& (nI 255) then
       Q d 192 3 [some (.ref 101), some (.long x1), none, some (.int (x3 + (-8))), none] [] h
      else
       gd (gI h 3073 101) 4000 <|
       Q d 192 3 [some (.ref 101), some (.long x1), none, some (.int (x3 + (-8))), none] [] (sI (sA h 102 (ix (gI h 3073 101)) (nrA 62 ((((((x1.toUInt64 >>> (x3.toInt64.toUInt64 &&& Int64.toUInt64 63)).toInt64).toInt32) &&& (nI 255)).toUInt32 % 65536).toInt32))) 3073 101 ((gI h 3073 101) + (nI 1)))
   else
    Q d 192 3 [some (.ref 101), some (.long x1), none, some (.int (x3 + (-8))), none] [] h := by
  rw [← hs.1]
  exact (blkM (fun p => Nat.beq p 3) 39 3 _ _ _).trans rfl

/-! 193 PostRoom$Book.<init>(LPostRoom$Tape;)V -/
set_option maxRecDepth 16384 in
theorem t_193 {d : Nat} {h : AH} (hs : Sh h) (x0 : Nat) (x1 : Nat) :
    E (d + 1) 193 [.ref x0, .ref x1] h =
  (ck (gC h x0) 2 <|
  Q d 193 13 [some (.ref x0), some (.ref x1)] [.ref (gN h), .ref x0] (nwO (sR h 520 x0 (some x1)) 1 3)) := by
  rw [← hs.1]
  exact entL (l := [some (.ref x0), some (.ref x1)]) rfl rfl ((blkM (fun p => Nat.beq p 13) 9 0 _ _ _).trans rfl)

set_option maxRecDepth 16384 in
theorem t_193_13 {d : Nat} {h : AH} (hs : Sh h) (x0 : Nat) (u1 : Option Value) (s0 : Nat) (s1 : Nat) :
    Q d 193 13 [some (.ref x0), u1] [.ref s1, .ref s0] h =
  cK (E d 226 [.ref s1] h) (Q d 193 17 [some (.ref x0), u1]) [.ref s1, .ref s0] := by
  rw [← hs.1]
  exact (blkM (fun p => Nat.beq p 17) 3 13 _ _ _).trans rfl

set_option maxRecDepth 16384 in
theorem t_193_17 {d : Nat} {h : AH} (hs : Sh h) (x0 : Nat) (u1 : Option Value) (s0 : Nat) (s1 : Nat) :
    Q d 193 17 [some (.ref x0), u1] [.ref s1, .ref s0] h =
  (ck (gC h s0) 2 <|
  Q d 193 24 [some (.ref x0), u1] [.ref (gN h), .ref x0] (nwO (sR h 512 s0 (some s1)) 1 3)) := by
  rw [← hs.1]
  exact (blkM (fun p => Nat.beq p 24) 5 17 _ _ _).trans rfl

set_option maxRecDepth 16384 in
theorem t_193_24 {d : Nat} {h : AH} (hs : Sh h) (x0 : Nat) (u1 : Option Value) (s0 : Nat) (s1 : Nat) :
    Q d 193 24 [some (.ref x0), u1] [.ref s1, .ref s0] h =
  cK (E d 226 [.ref s1] h) (Q d 193 28 [some (.ref x0), u1]) [.ref s1, .ref s0] := by
  rw [← hs.1]
  exact (blkM (fun p => Nat.beq p 28) 3 24 _ _ _).trans rfl

set_option maxRecDepth 16384 in
theorem t_193_28 {d : Nat} {h : AH} (hs : Sh h) (x0 : Nat) (u1 : Option Value) (s0 : Nat) (s1 : Nat) :
    Q d 193 28 [some (.ref x0), u1] [.ref s1, .ref s0] h =
  (ck (gC h s0) 2 <|
  Q d 193 35 [some (.ref x0), u1] [.ref (gN h), .ref x0] (nwO (sR h 513 s0 (some s1)) 1 3)) := by
  rw [← hs.1]
  exact (blkM (fun p => Nat.beq p 35) 5 28 _ _ _).trans rfl

set_option maxRecDepth 16384 in
theorem t_193_35 {d : Nat} {h : AH} (hs : Sh h) (x0 : Nat) (u1 : Option Value) (s0 : Nat) (s1 : Nat) :
    Q d 193 35 [some (.ref x0), u1] [.ref s1, .ref s0] h =
  cK (E d 226 [.ref s1] h) (Q d 193 39 [some (.ref x0), u1]) [.ref s1, .ref s0] := by
  rw [← hs.1]
  exact (blkM (fun p => Nat.beq p 39) 3 35 _ _ _).trans rfl

set_option maxRecDepth 16384 in
theorem t_193_39 {d : Nat} {h : AH} (hs : Sh h) (x0 : Nat) (u1 : Option Value) (s0 : Nat) (s1 : Nat) :
    Q d 193 39 [some (.ref x0), u1] [.ref s1, .ref s0] h =
  (ck (gC h s0) 2 <|
  Q d 193 46 [some (.ref x0), u1] [.ref (gN h), .ref x0] (nwO (sR h 514 s0 (some s1)) 1 3)) := by
  rw [← hs.1]
  exact (blkM (fun p => Nat.beq p 46) 5 39 _ _ _).trans rfl

set_option maxRecDepth 16384 in
theorem t_193_46 {d : Nat} {h : AH} (hs : Sh h) (x0 : Nat) (u1 : Option Value) (s0 : Nat) (s1 : Nat) :
    Q d 193 46 [some (.ref x0), u1] [.ref s1, .ref s0] h =
  cK (E d 226 [.ref s1] h) (Q d 193 50 [some (.ref x0), u1]) [.ref s1, .ref s0] := by
  rw [← hs.1]
  exact (blkM (fun p => Nat.beq p 50) 3 46 _ _ _).trans rfl

set_option maxRecDepth 16384 in
theorem t_193_50 {d : Nat} {h : AH} (hs : Sh h) (x0 : Nat) (u1 : Option Value) (s0 : Nat) (s1 : Nat) :
    Q d 193 50 [some (.ref x0), u1] [.ref s1, .ref s0] h =
  (ck (gC h s0) 2 <|
  Q d 193 58 [some (.ref x0), u1] [.ref (gN h), .ref x0] (nwA (sR h 515 s0 (some s1)) 61 20)) := by
  rw [← hs.1]
  exact (blkM (fun p => Nat.beq p 58) 6 50 _ _ _).trans rfl

set_option maxRecDepth 16384 in
theorem t_193_58 {d : Nat} {h : AH} (hs : Sh h) (x0 : Nat) (u1 : Option Value) (s0 : Nat) (s1 : Nat) :
    Q d 193 58 [some (.ref x0), u1] [.ref s1, .ref s0] h =
  (ck (gC h s0) 2 <|
  Q d 193 66 [some (.ref x0), u1] [.ref (gN h), .ref x0] (nwA (sR h 516 s0 (some s1)) 61 20)) := by
  rw [← hs.1]
  exact (blkM (fun p => Nat.beq p 66) 6 58 _ _ _).trans rfl

set_option maxRecDepth 16384 in
theorem t_193_66 {d : Nat} {h : AH} (hs : Sh h) (u0 : Option Value) (u1 : Option Value) (s0 : Nat) (s1 : Nat) :
    Q d 193 66 [u0, u1] [.ref s1, .ref s0] h =
  (ck (gC h s0) 2 <|
  some (none, sR h 517 s0 (some s1))) := by
  rw [← hs.1]
  exact (blkM (fun p => false) 3 66 _ _ _).trans rfl

/-! 194 PostRoom$Book.readAll()I -/
set_option maxRecDepth 16384 in
theorem t_194 {d : Nat} {h : AH} (hs : Sh h) (x0 : Nat) :
    E (d + 1) 194 [.ref x0] h =
  (ck (gC h x0) 2 <|
  ck (gC h x0) 2 <|
  (gR h 520 x0).bind fun y1 =>
   ck (gC h y1) 12 <|
   cK (E d 230 [.ref y1] (sI h 519 x0 (nI 0))) (Q d 194 12 [some (.ref x0), none]) []) := by
  rw [← hs.1]
  exact entL (l := [some (.ref x0), none]) rfl rfl ((blkM (fun p => Nat.beq p 12) 7 0 _ _ _).trans rfl)

set_option maxRecDepth 16384 in
theorem t_194_12 {d : Nat} {h : AH} (hs : Sh h) (x0 : Nat) (u1 : Option Value) :
    Q d 194 12 [some (.ref x0), u1] [] h =
  Q d 194 14 [some (.ref x0), some (.int (nI 0))] [] h := by
  rw [← hs.1]
  exact (blkM (fun p => Nat.beq p 14) 4 12 _ _ _).trans rfl

set_option maxRecDepth 16384 in
theorem t_194_14 {d : Nat} {h : AH} (hs : Sh h) (x0 : Nat) (x1 : Int32) :
    Q d 194 14 [some (.ref x0), some (.int x1)] [] h =
  if x1 < nI 4000 then
   ck (gC h x0) 2 <|
   if gI h 519 x0 = nI 0 then
    ck (gC h x0) 2 <|
    (gR h 520 x0).bind fun y1 =>
     ck (gC h y1) 12 <|
     if gI h 3076 y1 = nI 0 then
      ck (gC h x0) 2 <|
      some (some (.int (gI h 519 x0)), h)
     else
      ck (gC h x0) 2 <|
      (gR h 520 x0).bind fun y2 =>
       ck (gC h y2) 12 <|
       cK (E d 231 [.ref y2, .ref 1] h) (Q d 194 47 [some (.ref x0), some (.int x1)]) []
   else
    ck (gC h x0) 2 <|
    some (some (.int (gI h 519 x0)), h)
  else
   ck (gC h x0) 2 <|
   some (some (.int (gI h 519 x0)), h) := by
  rw [← hs.1]
  exact (blkM (fun p => Nat.beq p 47) 15 14 _ _ _).trans rfl

set_option maxRecDepth 16384 in
theorem t_194_47 {d : Nat} {h : AH} (hs : Sh h) (x0 : Nat) (x1 : Int32) (s0 : Int32) :
    Q d 194 47 [some (.ref x0), some (.int x1)] [.int s0] h =
  if s0 = nI 0 then
   ck (gC h x0) 2 <|
   cK (E d 232 [.ref x0] h) (Q d 194 84 [some (.ref x0), some (.int x1)]) []
  else
   if s0 = nI 1 then
   ck (gC h x0) 2 <|
   cK (E d 233 [.ref x0] h) (Q d 194 92 [some (.ref x0), some (.int x1)]) []
  else
   if s0 = nI 2 then
   ck (gC h x0) 2 <|
   cK (E d 234 [.ref x0] h) (Q d 194 100 [some (.ref x0), some (.int x1)]) []
  else
   if s0 = nI 3 then
   ck (gC h x0) 2 <|
   cK (E d 235 [.ref x0] h) (Q d 194 108 [some (.ref x0), some (.int x1)]) []
  else
   if s0 = nI 4 then
   ck (gC h x0) 2 <|
   cK (E d 236 [.ref x0] h) (Q d 194 116 [some (.ref x0), some (.int x1)]) []
  else
   ck (gC h x0) 2 <|
  cK (E d 237 [.ref x0, .int (nI 1)] h) (Q d 194 125 [some (.ref x0), some (.int x1)]) [] := by
  rw [← hs.1]
  exact (blkM (fun p => Nat.beq p 84 || Nat.beq p 92 || Nat.beq p 100 || Nat.beq p 108 || Nat.beq p 116 || Nat.beq p 125) 5 47 _ _ _).trans rfl

set_option maxRecDepth 16384 in
theorem t_194_84 {d : Nat} {h : AH} (hs : Sh h) (x0 : Nat) (x1 : Int32) (s0 : Int32) :
    Q d 194 84 [some (.ref x0), some (.int x1)] [.int s0] h =
  (ck (gC h x0) 2 <|
  (gR h 520 x0).bind fun y1 =>
   ck (gC h y1) 12 <|
   cK (E d 238 [.ref y1] h) (Q d 194 133 [some (.ref x0), some (.int x1)]) []) := by
  rw [← hs.1]
  exact (blkM (fun p => Nat.beq p 133) 6 84 _ _ _).trans rfl

set_option maxRecDepth 16384 in
theorem t_194_92 {d : Nat} {h : AH} (hs : Sh h) (x0 : Nat) (x1 : Int32) (s0 : Int32) :
    Q d 194 92 [some (.ref x0), some (.int x1)] [.int s0] h =
  (ck (gC h x0) 2 <|
  (gR h 520 x0).bind fun y1 =>
   ck (gC h y1) 12 <|
   cK (E d 238 [.ref y1] h) (Q d 194 133 [some (.ref x0), some (.int x1)]) []) := by
  rw [← hs.1]
  exact (blkM (fun p => Nat.beq p 133) 6 92 _ _ _).trans rfl

set_option maxRecDepth 16384 in
theorem t_194_100 {d : Nat} {h : AH} (hs : Sh h) (x0 : Nat) (x1 : Int32) (s0 : Int32) :
    Q d 194 100 [some (.ref x0), some (.int x1)] [.int s0] h =
  (ck (gC h x0) 2 <|
  (gR h 520 x0).bind fun y1 =>
   ck (gC h y1) 12 <|
   cK (E d 238 [.ref y1] h) (Q d 194 133 [some (.ref x0), some (.int x1)]) []) := by
  rw [← hs.1]
  exact (blkM (fun p => Nat.beq p 133) 6 100 _ _ _).trans rfl

set_option maxRecDepth 16384 in
theorem t_194_108 {d : Nat} {h : AH} (hs : Sh h) (x0 : Nat) (x1 : Int32) (s0 : Int32) :
    Q d 194 108 [some (.ref x0), some (.int x1)] [.int s0] h =
  (ck (gC h x0) 2 <|
  (gR h 520 x0).bind fun y1 =>
   ck (gC h y1) 12 <|
   cK (E d 238 [.ref y1] h) (Q d 194 133 [some (.ref x0), some (.int x1)]) []) := by
  rw [← hs.1]
  exact (blkM (fun p => Nat.beq p 133) 6 108 _ _ _).trans rfl

set_option maxRecDepth 16384 in
theorem t_194_116 {d : Nat} {h : AH} (hs : Sh h) (x0 : Nat) (x1 : Int32) (s0 : Int32) :
    Q d 194 116 [some (.ref x0), some (.int x1)] [.int s0] h =
  (ck (gC h x0) 2 <|
  (gR h 520 x0).bind fun y1 =>
   ck (gC h y1) 12 <|
   cK (E d 238 [.ref y1] h) (Q d 194 133 [some (.ref x0), some (.int x1)]) []) := by
  rw [← hs.1]
  exact (blkM (fun p => Nat.beq p 133) 6 116 _ _ _).trans rfl

set_option maxRecDepth 16384 in
theorem t_194_125 {d : Nat} {h : AH} (hs : Sh h) (x0 : Nat) (x1 : Int32) (s0 : Int32) :
    Q d 194 125 [some (.ref x0), some (.int x1)] [.int s0] h =
  (ck (gC h x0) 2 <|
  (gR h 520 x0).bind fun y1 =>
   ck (gC h y1) 12 <|
   cK (E d 238 [.ref y1] h) (Q d 194 133 [some (.ref x0), some (.int x1)]) []) := by
  rw [← hs.1]
  exact (blkM (fun p => Nat.beq p 133) 5 125 _ _ _).trans rfl

set_option maxRecDepth 16384 in
theorem t_194_133 {d : Nat} {h : AH} (hs : Sh h) (x0 : Nat) (x1 : Int32) :
    Q d 194 133 [some (.ref x0), some (.int x1)] [] h =
  Q d 194 14 [some (.ref x0), some (.int (x1 + nI 1))] [] h := by
  rw [← hs.1]
  exact (blkM (fun p => Nat.beq p 14) 4 133 _ _ _).trans rfl

/-! 195 PostRoom$Tape.clear()V -/
set_option maxRecDepth 16384 in
theorem t_195 {d : Nat} {h : AH} (hs : Sh h)  :
    E (d + 1) 195 [.ref 101] h =
  some (none, sI h 3073 101 (nI 0)) := by
  rw [← hs.1]
  exact entL (l := [some (.ref 101)]) rfl rfl ((blkM (fun p => false) 5 0 _ _ _).trans rfl)

/-! 196 PostRoom$Post.begin(LPostRoom$Book;)V -/
set_option maxRecDepth 16384 in
theorem t_196 {d : Nat} {h : AH} (hs : Sh h) (x1 : Nat) :
    E (d + 1) 196 [.ref 156, .ref x1] h =
  cK (E d 239 [.ref 164] (sR h 2048 156 (some x1))) (Q d 196 12 [some (.ref 156), some (.ref x1)]) [] := by
  rw [← hs.1]
  exact entL (l := [some (.ref 156), some (.ref x1)]) rfl rfl ((blkM (fun p => Nat.beq p 12) 7 0 _ _ _).trans rfl)

set_option maxRecDepth 16384 in
theorem t_196_12 {d : Nat} {h : AH} (hs : Sh h) (u1 : Option Value) :
    Q d 196 12 [some (.ref 156), u1] [] h =
  cK (E d 239 [.ref 165] h) (Q d 196 19 [some (.ref 156), u1]) [] := by
  rw [← hs.1]
  exact (blkM (fun p => Nat.beq p 19) 4 12 _ _ _).trans rfl

set_option maxRecDepth 16384 in
theorem t_196_19 {d : Nat} {h : AH} (hs : Sh h) (u1 : Option Value) :
    Q d 196 19 [some (.ref 156), u1] [] h =
  some (none, sI (sI (sI (sI h 2051 156 (nI 0)) 2052 156 (nI 7)) 2055 156 (nI 0)) 2059 156 (-1)) := by
  rw [← hs.1]
  exact (blkM (fun p => false) 14 19 _ _ _).trans rfl

/-! 197 PostRoom$Machine.begin()V -/
set_option maxRecDepth 16384 in
theorem t_197 {d : Nat} {h : AH} (hs : Sh h)  :
    E (d + 1) 197 [.ref 175] h =
  cK (E d 240 [.ref 176, .long 0] h) (Q d 197 8 [some (.ref 175)]) [] := by
  rw [← hs.1]
  exact entL (l := [some (.ref 175)]) rfl rfl ((blkM (fun p => Nat.beq p 8) 5 0 _ _ _).trans rfl)

set_option maxRecDepth 16384 in
theorem t_197_8 {d : Nat} {h : AH} (hs : Sh h)  :
    Q d 197 8 [some (.ref 175)] [] h =
  cK (E d 241 [.ref 177, .int (-1)] h) (Q d 197 16 [some (.ref 175)]) [] := by
  rw [← hs.1]
  exact (blkM (fun p => Nat.beq p 16) 5 8 _ _ _).trans rfl

set_option maxRecDepth 16384 in
theorem t_197_16 {d : Nat} {h : AH} (hs : Sh h)  :
    Q d 197 16 [some (.ref 175)] [] h =
  cK (E d 241 [.ref 178, .int (nI 0)] h) (Q d 197 24 [some (.ref 175)]) [] := by
  rw [← hs.1]
  exact (blkM (fun p => Nat.beq p 24) 5 16 _ _ _).trans rfl

set_option maxRecDepth 16384 in
theorem t_197_24 {d : Nat} {h : AH} (hs : Sh h)  :
    Q d 197 24 [some (.ref 175)] [] h =
  some (none, sI (sI (sI (sL (sI (sI h 1545 175 (nI 0)) 1547 175 (nI 0)) 1548 175 0) 1549 175 (nI 0)) 1551 175 (nI 0)) 1552 175 (nI 0)) := by
  rw [← hs.1]
  exact (blkM (fun p => false) 20 24 _ _ _).trans rfl

/-! 198 PostRoom$Finder.seek(LPostRoom$Tape;LPostRoom$Book;)I -/
set_option maxRecDepth 16384 in
theorem t_198 {d : Nat} {h : AH} (hs : Sh h) (x1 : Nat) (x2 : Nat) :
    E (d + 1) 198 [.ref 103, .ref x1, .ref x2] h =
  (ck (gC h x1) 12 <|
  if (nI 80) < gI h 3073 x1 then
   some (some (.int (-1)), h)
  else
   cK (E d 242 [.ref 103, .ref x1, .ref x2] h) (Q d 198 17 [some (.ref 103), some (.ref x1), some (.ref x2)]) []) := by
  rw [← hs.1]
  exact entL (l := [some (.ref 103), some (.ref x1), some (.ref x2)]) rfl rfl ((blkM (fun p => Nat.beq p 17) 9 0 _ _ _).trans rfl)

set_option maxRecDepth 16384 in
theorem t_198_17 {d : Nat} {h : AH} (hs : Sh h) (x2 : Nat) (u1 : Option Value) :
    Q d 198 17 [some (.ref 103), u1, some (.ref x2)] [] h =
  if gI h 1028 103 < nI 3 then
   some (some (.int (-1)), h)
  else
   cK (E d 243 [.ref 103] h) (Q d 198 29 [some (.ref 103), u1, some (.ref x2)]) [] := by
  rw [← hs.1]
  exact (blkM (fun p => Nat.beq p 29) 7 17 _ _ _).trans rfl

set_option maxRecDepth 16384 in
theorem t_198_29 {d : Nat} {h : AH} (hs : Sh h) (x2 : Nat) (u1 : Option Value) (s0 : Int32) :
    Q d 198 29 [some (.ref 103), u1, some (.ref x2)] [.int s0] h =
  if s0 = nI 0 then
   some (some (.int (-1)), h)
  else
   cK (E d 244 [.ref 103] h) (Q d 198 39 [some (.ref 103), u1, some (.ref x2)]) [.ref 103] := by
  rw [← hs.1]
  exact (blkM (fun p => Nat.beq p 39) 5 29 _ _ _).trans rfl

set_option maxRecDepth 16384 in
theorem t_198_39 {d : Nat} {h : AH} (hs : Sh h) (x2 : Nat) (u1 : Option Value) (s0 : Nat) (s1 : Int32) :
    Q d 198 39 [some (.ref 103), u1, some (.ref x2)] [.int s1, .ref s0] h =
  (ck (gC h s0) 4 <|
  cK (E d 245 [.ref 103, .ref x2] (sI h 1029 s0 s1)) (Q d 198 47 [some (.ref 103), u1, some (.ref x2)]) []) := by
  rw [← hs.1]
  exact (blkM (fun p => Nat.beq p 47) 5 39 _ _ _).trans rfl

set_option maxRecDepth 16384 in
theorem t_198_47 {d : Nat} {h : AH} (hs : Sh h) (u0 : Option Value) (u1 : Option Value) (u2 : Option Value) (s0 : Int32) :
    Q d 198 47 [u0, u1, u2] [.int s0] h =
  some (some (.int s0), h) := by
  rw [← hs.1]
  exact (blkM (fun p => false) 2 47 _ _ _).trans rfl

/-! 199 PostRoom$Tape.readBars([I[Z)Z -/
set_option maxRecDepth 16384 in
theorem t_199 {d : Nat} {h : AH} (hs : Sh h) (x1 : Nat) (x2 : Nat) :
    E (d + 1) 199 [.ref 101, .ref x1, .ref x2] h =
  if gI h 3073 101 = nI 33 then
   Q d 199 13 [some (.ref 101), some (.ref x1), some (.ref x2), some (.int (nI 0)), none] [] h
  else
   some (some (.int (nI 0)), h) := by
  rw [← hs.1]
  exact entL (l := [some (.ref 101), some (.ref x1), some (.ref x2), none, none]) rfl rfl ((blkM (fun p => Nat.beq p 13) 8 0 _ _ _).trans rfl)

set_option maxRecDepth 16384 in
theorem t_199_13 {d : Nat} {h : AH} (hs : Sh h) (x1 : Nat) (x2 : Nat) (x3 : Int32) :
    Q d 199 13 [some (.ref 101), some (.ref x1), some (.ref x2), some (.int x3), none] [] h =
  if x3 < nI 33 then
   gd x3 4000 <|
   if gA h 102 (ix x3) = nI 63 then
    dz (nI 3) <|
    cw (gC h x2) 63 x2 <|
    gd (x3 / (nI 3)) (gK h x2) <|
    Q d 199 13 [some (.ref 101), some (.ref x1), some (.ref x2), some (.int (x3 + nI 1)), none] [] (sA h x2 (ix (x3 / (nI 3))) (nrA 63 (nI 1)))
   else
    if gA h 102 (ix x3) < nI 48 then
     some (some (.int (nI 0)), h)
    else
     if (nI 51) < gA h 102 (ix x3) then
      some (some (.int (nI 0)), h)
     else
      dz (nI 3) <|
      dz (nI 3) <|
      ck (gC h x1) 60 <|
      gd (x3 / (nI 3)) (gK h x1) <|
      cw (gC h x1) 60 x1 <|
      gd (x3 / (nI 3)) (gK h x1) <|
      Q d 199 13 [some (.ref 101), some (.ref x1), some (.ref x2), some (.int (x3 + nI 1)), none] [] (sA h x1 (ix (x3 / (nI 3))) ((((gA h x1 (ix (x3 / (nI 3)))) * (nI 4)) + (gA h 102 (ix x3))) - (nI 48)))
  else
   some (some (.int (nI 1)), h) := by
  rw [← hs.1]
  exact (blkM (fun p => Nat.beq p 13) 37 13 _ _ _).trans rfl

/-! 200 PostRoom$Item.mend([I[Z)I -/
set_option maxRecDepth 16384 in
theorem t_200 {d : Nat} {h : AH} (hs : Sh h) (x0 : Nat) (x1 : Nat) :
    E (d + 1) 200 [.ref x0, .ref x1] h =
  Q d 200 3 [some (.ref x0), some (.ref x1), none, none, none, none] [.ref (gN h)] (nwA h 60 5) := by
  rw [← hs.1]
  exact entL (l := [some (.ref x0), some (.ref x1), none, none, none, none]) rfl rfl ((blkM (fun p => Nat.beq p 3) 4 0 _ _ _).trans rfl)

set_option maxRecDepth 16384 in
theorem t_200_3 {d : Nat} {h : AH} (hs : Sh h) (x0 : Nat) (x1 : Nat) (u2 : Option Value) (u3 : Option Value) (u4 : Option Value) (u5 : Option Value) (s0 : Nat) :
    Q d 200 3 [some (.ref x0), some (.ref x1), u2, u3, u4, u5] [.ref s0] h =
  Q d 200 10 [some (.ref x0), some (.ref x1), some (.ref s0), u3, u4, u5] [.ref (gN h)] (nwM h 4 5) := by
  rw [← hs.1]
  exact (blkM (fun p => Nat.beq p 10) 6 3 _ _ _).trans rfl

set_option maxRecDepth 16384 in
theorem t_200_10 {d : Nat} {h : AH} (hs : Sh h) (x0 : Nat) (x1 : Nat) (x2 : Nat) (u3 : Option Value) (u4 : Option Value) (u5 : Option Value) (s0 : Nat) :
    Q d 200 10 [some (.ref x0), some (.ref x1), some (.ref x2), u3, u4, u5] [.ref s0] h =
  Q d 200 17 [some (.ref x0), some (.ref x1), some (.ref x2), some (.ref s0), some (.int (nI 0)), some (.int (nI 0))] [] h := by
  rw [← hs.1]
  exact (blkM (fun p => Nat.beq p 17) 7 10 _ _ _).trans rfl

set_option maxRecDepth 16384 in
theorem t_200_17 {d : Nat} {h : AH} (hs : Sh h) (x0 : Nat) (x1 : Nat) (x2 : Nat) (x3 : Nat) (x4 : Int32) (x5 : Int32) :
    Q d 200 17 [some (.ref x0), some (.ref x1), some (.ref x2), some (.ref x3), some (.int x4), some (.int x5)] [] h =
  if x5 < nI 11 then
   ck (gC h x1) 63 <|
   gd x5 (gK h x1) <|
   if gA h x1 (ix x5) = nI 0 then
    Q d 200 17 [some (.ref x0), some (.ref x1), some (.ref x2), some (.ref x3), some (.int x4), some (.int (x5 + nI 1))] [] h
   else
    if x4 < nI 4 then
     cw (gC h x0) 60 x0 <|
     gd x5 (gK h x0) <|
     cw (gC h x2) 60 x2 <|
     gd x4 (gK h x2) <|
     Q d 200 17 [some (.ref x0), some (.ref x1), some (.ref x2), some (.ref x3), some (.int (x4 + nI 1)), some (.int (x5 + nI 1))] [] (sA (sA h x0 (ix x5) (nI 0)) x2 (ix x4) x5)
    else
     some (some (.int (-1)), h)
  else
   cK (E d 246 [.ref x0, .ref x2, .int x4, .ref x3] h) (Q d 200 67 [some (.ref x0), some (.ref x1), some (.ref x2), some (.ref x3), some (.int x4), some (.int x5)]) [] := by
  rw [← hs.1]
  exact (blkM (fun p => Nat.beq p 17 || Nat.beq p 67) 23 17 _ _ _).trans rfl

set_option maxRecDepth 16384 in
theorem t_200_67 {d : Nat} {h : AH} (hs : Sh h) (x0 : Nat) (x1 : Nat) (x2 : Nat) (x3 : Nat) (x4 : Int32) (u5 : Option Value) (s0 : Int32) :
    Q d 200 67 [some (.ref x0), some (.ref x1), some (.ref x2), some (.ref x3), some (.int x4), u5] [.int s0] h =
  if s0 = nI 0 then
   if (nI 2) < x4 then
    if x4 = nI 0 then
     cK (E d 248 [.ref x0, .ref x1, .ref x2, .ref x3] h) (Q d 200 108 [some (.ref x0), some (.ref x1), some (.ref x2), some (.ref x3), some (.int x4), none]) []
    else
     some (some (.int (-1)), h)
   else
    cK (E d 247 [.ref x0, .ref x1, .ref x2, .int x4, .ref x3] h) (Q d 200 88 [some (.ref x0), some (.ref x1), some (.ref x2), some (.ref x3), some (.int x4), u5]) []
  else
   some (some (.int x4), h) := by
  rw [← hs.1]
  exact (blkM (fun p => Nat.beq p 88 || Nat.beq p 108) 12 67 _ _ _).trans rfl

set_option maxRecDepth 16384 in
theorem t_200_88 {d : Nat} {h : AH} (hs : Sh h) (x0 : Nat) (x1 : Nat) (x2 : Nat) (x3 : Nat) (x4 : Int32) (u5 : Option Value) (s0 : Int32) :
    Q d 200 88 [some (.ref x0), some (.ref x1), some (.ref x2), some (.ref x3), some (.int x4), u5] [.int s0] h =
  if s0 = nI 0 then
   if x4 = nI 0 then
    cK (E d 248 [.ref x0, .ref x1, .ref x2, .ref x3] h) (Q d 200 108 [some (.ref x0), some (.ref x1), some (.ref x2), some (.ref x3), some (.int x4), none]) []
   else
    some (some (.int (-1)), h)
  else
   some (some (.int (x4 + (nI 1))), h) := by
  rw [← hs.1]
  exact (blkM (fun p => Nat.beq p 108) 9 88 _ _ _).trans rfl

set_option maxRecDepth 16384 in
theorem t_200_108 {d : Nat} {h : AH} (hs : Sh h) (u0 : Option Value) (u1 : Option Value) (u2 : Option Value) (u3 : Option Value) (u4 : Option Value) (u5 : Option Value) (s0 : Int32) :
    Q d 200 108 [u0, u1, u2, u3, u4, u5] [.int s0] h =
  if s0 = nI 0 then
   some (some (.int (-1)), h)
  else
   some (some (.int (nI 2)), h) := by
  rw [← hs.1]
  exact (blkM (fun p => false) 5 108 _ _ _).trans rfl

/-! 201 PostRoom$Post.itemWith([I)I -/
set_option maxRecDepth 16384 in
theorem t_201 {d : Nat} {h : AH} (hs : Sh h) (x1 : Nat) :
    E (d + 1) 201 [.ref 156, .ref x1] h =
  Q d 201 2 [some (.ref 156), some (.ref x1), some (.int (nI 0))] [] h := by
  rw [← hs.1]
  exact entL (l := [some (.ref 156), some (.ref x1), none]) rfl rfl ((blkM (fun p => Nat.beq p 2) 4 0 _ _ _).trans rfl)

set_option maxRecDepth 16384 in
theorem t_201_2 {d : Nat} {h : AH} (hs : Sh h) (x1 : Nat) (x2 : Int32) :
    Q d 201 2 [some (.ref 156), some (.ref x1), some (.int x2)] [] h =
  cK (E d 213 [.ref 164] h) (Q d 201 10 [some (.ref 156), some (.ref x1), some (.int x2)]) [.int x2] := by
  rw [← hs.1]
  exact (blkM (fun p => Nat.beq p 10) 5 2 _ _ _).trans rfl

set_option maxRecDepth 16384 in
theorem t_201_10 {d : Nat} {h : AH} (hs : Sh h) (x1 : Nat) (x2 : Int32) (s0 : Int32) (s1 : Int32) :
    Q d 201 10 [some (.ref 156), some (.ref x1), some (.int x2)] [.int s1, .int s0] h =
  if s0 < s1 then
   cK (E d 212 [.ref 164, .int x2] h) (Q d 201 21 [some (.ref 156), some (.ref x1), some (.int x2)]) []
  else
   some (some (.int (-1)), h) := by
  rw [← hs.1]
  exact (blkM (fun p => Nat.beq p 21) 6 10 _ _ _).trans rfl

set_option maxRecDepth 16384 in
theorem t_201_21 {d : Nat} {h : AH} (hs : Sh h) (x1 : Nat) (x2 : Int32) (s0 : Nat) :
    Q d 201 21 [some (.ref 156), some (.ref x1), some (.int x2)] [.ref s0] h =
  (ck (gC h s0) 5 <|
  ck (gC h s0) 5 <|
  cK (E d 249 [.ref s0, .ref x1] h) (Q d 201 28 [some (.ref 156), some (.ref x1), some (.int x2)]) []) := by
  rw [← hs.1]
  exact (blkM (fun p => Nat.beq p 28) 4 21 _ _ _).trans rfl

set_option maxRecDepth 16384 in
theorem t_201_28 {d : Nat} {h : AH} (hs : Sh h) (x1 : Nat) (x2 : Int32) (s0 : Int32) :
    Q d 201 28 [some (.ref 156), some (.ref x1), some (.int x2)] [.int s0] h =
  if s0 = nI 0 then
   Q d 201 2 [some (.ref 156), some (.ref x1), some (.int (x2 + nI 1))] [] h
  else
   some (some (.int x2), h) := by
  rw [← hs.1]
  exact (blkM (fun p => Nat.beq p 2) 5 28 _ _ _).trans rfl

/-! 202 PostRoom$Post.pass(I)I -/
set_option maxRecDepth 16384 in
theorem t_202 {d : Nat} {h : AH} (hs : Sh h) (x1 : Int32) :
    E (d + 1) 202 [.ref 156, .int x1] h =
  Q d 202 9 [some (.ref 156), some (.int x1), some (.int ((gI h 2051 156) + x1)), some (.int (nI 0))] [] h := by
  rw [← hs.1]
  exact entL (l := [some (.ref 156), some (.int x1), none, none]) rfl rfl ((blkM (fun p => Nat.beq p 9) 9 0 _ _ _).trans rfl)

set_option maxRecDepth 16384 in
theorem t_202_9 {d : Nat} {h : AH} (hs : Sh h) (x1 : Int32) (x2 : Int32) (x3 : Int32) :
    Q d 202 9 [some (.ref 156), some (.int x1), some (.int x2), some (.int x3)] [] h =
  if x3 < x1 then
   if gI h 2051 156 < x2 then
    cK (E d 250 [.ref 156, .int x2] h) (Q d 202 28 [some (.ref 156), some (.int x1), some (.int x2), some (.int x3)]) [.ref 156]
   else
    some (some (.int (gI h 2051 156)), h)
  else
   some (some (.int (gI h 2051 156)), h) := by
  rw [← hs.1]
  exact (blkM (fun p => Nat.beq p 28) 12 9 _ _ _).trans rfl

set_option maxRecDepth 16384 in
theorem t_202_28 {d : Nat} {h : AH} (hs : Sh h) (x1 : Int32) (x2 : Int32) (x3 : Int32) (s0 : Nat) (s1 : Int32) :
    Q d 202 28 [some (.ref 156), some (.int x1), some (.int x2), some (.int x3)] [.int s1, .ref s0] h =
  (ck (gC h s0) 8 <|
  cK (E d 251 [.ref 156] (sI h 2051 s0 s1)) (Q d 202 35 [some (.ref 156), some (.int x1), some (.int x2), some (.int x3)]) []) := by
  rw [← hs.1]
  exact (blkM (fun p => Nat.beq p 35) 4 28 _ _ _).trans rfl

set_option maxRecDepth 16384 in
theorem t_202_35 {d : Nat} {h : AH} (hs : Sh h) (x1 : Int32) (x2 : Int32) (x3 : Int32) :
    Q d 202 35 [some (.ref 156), some (.int x1), some (.int x2), some (.int x3)] [] h =
  cK (E d 252 [.ref 156] h) (Q d 202 39 [some (.ref 156), some (.int x1), some (.int x2), some (.int x3)]) [] := by
  rw [← hs.1]
  exact (blkM (fun p => Nat.beq p 39) 3 35 _ _ _).trans rfl

set_option maxRecDepth 16384 in
theorem t_202_39 {d : Nat} {h : AH} (hs : Sh h) (x1 : Int32) (x2 : Int32) (x3 : Int32) :
    Q d 202 39 [some (.ref 156), some (.int x1), some (.int x2), some (.int x3)] [] h =
  Q d 202 9 [some (.ref 156), some (.int x1), some (.int x2), some (.int (x3 + nI 1))] [] h := by
  rw [← hs.1]
  exact (blkM (fun p => Nat.beq p 9) 4 39 _ _ _).trans rfl

/-! 203 PostRoom$Book.hasOffice(I)Z -/
set_option maxRecDepth 16384 in
theorem t_203 {d : Nat} {h : AH} (hs : Sh h) (x0 : Nat) (x1 : Int32) :
    E (d + 1) 203 [.ref x0, .int x1] h =
  if x1 < nI 0 then
   some (some (.int (nI 0)), h)
  else
   ck (gC h x0) 2 <|
   (gR h 512 x0).bind fun y1 =>
    ck (gC h y1) 1 <|
    cK (E d 213 [.ref y1] h) (Q d 203 12 [some (.ref x0), some (.int x1)]) [.int x1] := by
  rw [← hs.1]
  exact entL (l := [some (.ref x0), some (.int x1)]) rfl rfl ((blkM (fun p => Nat.beq p 12) 7 0 _ _ _).trans rfl)

set_option maxRecDepth 16384 in
theorem t_203_12 {d : Nat} {h : AH} (hs : Sh h) (u0 : Option Value) (u1 : Option Value) (s0 : Int32) (s1 : Int32) :
    Q d 203 12 [u0, u1] [.int s1, .int s0] h =
  if s0 < s1 then
   some (some (.int (nI 1)), h)
  else
   some (some (.int (nI 0)), h) := by
  rw [← hs.1]
  exact (blkM (fun p => false) 5 12 _ _ _).trans rfl

/-! 204 PostRoom$Post.sortShelf(I)I -/
set_option maxRecDepth 16384 in
theorem t_204 {d : Nat} {h : AH} (hs : Sh h) (x1 : Int32) :
    E (d + 1) 204 [.ref 156, .int x1] h =
  (gR h 2048 156).bind fun y1 =>
   ck (gC h y1) 2 <|
   (gR h 512 y1).bind fun y2 =>
    ck (gC h y2) 1 <|
    cK (E d 212 [.ref y2, .int x1] h) (Q d 204 11 [some (.ref 156), some (.int x1), none, none, none, none, none, none]) [] := by
  rw [← hs.1]
  exact entL (l := [some (.ref 156), some (.int x1), none, none, none, none, none, none]) rfl rfl ((blkM (fun p => Nat.beq p 11) 6 0 _ _ _).trans rfl)

set_option maxRecDepth 16384 in
theorem t_204_11 {d : Nat} {h : AH} (hs : Sh h) (x1 : Int32) (u2 : Option Value) (u3 : Option Value) (u4 : Option Value) (u5 : Option Value) (u6 : Option Value) (u7 : Option Value) (s0 : Nat) :
    Q d 204 11 [some (.ref 156), some (.int x1), u2, u3, u4, u5, u6, u7] [.ref s0] h =
  (ck (gC h s0) 7 <|
  ck (gC h s0) 7 <|
  (gR h 1797 s0).bind fun y1 =>
   cK (E d 253 [.ref 156, .int x1] h) (Q d 204 23 [some (.ref 156), some (.int x1), some (.ref y1), u3, u4, u5, u6, u7]) []) := by
  rw [← hs.1]
  exact (blkM (fun p => Nat.beq p 23) 7 11 _ _ _).trans rfl

set_option maxRecDepth 16384 in
theorem t_204_23 {d : Nat} {h : AH} (hs : Sh h) (x2 : Nat) (u1 : Option Value) (u3 : Option Value) (u4 : Option Value) (u5 : Option Value) (u6 : Option Value) (u7 : Option Value) :
    Q d 204 23 [some (.ref 156), u1, some (.ref x2), u3, u4, u5, u6, u7] [] h =
  (ck (gC h x2) 1 <|
  cK (E d 213 [.ref x2] h) (Q d 204 32 [some (.ref 156), u1, some (.ref x2), some (.int (nI 0)), some (.int (nI 0)), u5, u6, u7]) []) := by
  rw [← hs.1]
  exact (blkM (fun p => Nat.beq p 32) 7 23 _ _ _).trans rfl

set_option maxRecDepth 16384 in
theorem t_204_32 {d : Nat} {h : AH} (hs : Sh h) (x2 : Nat) (x3 : Int32) (x4 : Int32) (u1 : Option Value) (u5 : Option Value) (u6 : Option Value) (u7 : Option Value) (s0 : Int32) :
    Q d 204 32 [some (.ref 156), u1, some (.ref x2), some (.int x3), some (.int x4), u5, u6, u7] [.int s0] h =
  Q d 204 34 [some (.ref 156), none, some (.ref x2), some (.int x3), some (.int x4), some (.int s0), none, none] [] h := by
  rw [← hs.1]
  exact (blkM (fun p => Nat.beq p 34) 3 32 _ _ _).trans rfl

set_option maxRecDepth 16384 in
theorem t_204_34 {d : Nat} {h : AH} (hs : Sh h) (x2 : Nat) (x3 : Int32) (x4 : Int32) (x5 : Int32) :
    Q d 204 34 [some (.ref 156), none, some (.ref x2), some (.int x3), some (.int x4), some (.int x5), none, none] [] h =
  if (nI 0) < x5 then
   ck (gC h x2) 1 <|
   cK (E d 212 [.ref x2, .int x4] h) (Q d 204 45 [some (.ref 156), none, some (.ref x2), some (.int x3), some (.int x4), some (.int x5), none, none]) []
  else
   some (some (.int x3), h) := by
  rw [← hs.1]
  exact (blkM (fun p => Nat.beq p 45) 6 34 _ _ _).trans rfl

set_option maxRecDepth 16384 in
theorem t_204_45 {d : Nat} {h : AH} (hs : Sh h) (x2 : Nat) (x3 : Int32) (x4 : Int32) (x5 : Int32) (u1 : Option Value) (u6 : Option Value) (u7 : Option Value) (s0 : Nat) :
    Q d 204 45 [some (.ref 156), u1, some (.ref x2), some (.int x3), some (.int x4), some (.int x5), u6, u7] [.ref s0] h =
  (ck (gC h s0) 5 <|
  cK (E d 254 [.ref 156, .ref s0] h) (Q d 204 60 [some (.ref 156), u1, some (.ref x2), some (.int x3), some (.int x4), some (.int x5), some (.ref s0), u7]) [.ref 169]) := by
  rw [← hs.1]
  exact (blkM (fun p => Nat.beq p 60) 8 45 _ _ _).trans rfl

set_option maxRecDepth 16384 in
theorem t_204_60 {d : Nat} {h : AH} (hs : Sh h) (x2 : Nat) (x3 : Int32) (x4 : Int32) (x5 : Int32) (x6 : Nat) (u1 : Option Value) (u7 : Option Value) (s0 : Nat) (s1 : Int32) :
    Q d 204 60 [some (.ref 156), u1, some (.ref x2), some (.int x3), some (.int x4), some (.int x5), some (.ref x6), u7] [.int s1, .ref s0] h =
  (ck (gC h s0) 60 <|
  gd s1 (gK h s0) <|
  if gA h s0 (ix s1) = (-1) then
   Q d 204 34 [some (.ref 156), none, some (.ref x2), some (.int x3), some (.int (x4 + nI 1)), some (.int (x5 + (-1))), none, none] [] h
  else
   cK (E d 255 [.ref 156, .ref x6, .int (gA h s0 (ix s1))] h) (Q d 204 83 [some (.ref 156), u1, some (.ref x2), some (.int x3), some (.int x4), some (.int x5), some (.ref x6), some (.int (gA h s0 (ix s1)))]) []) := by
  rw [← hs.1]
  exact (blkM (fun p => Nat.beq p 34 || Nat.beq p 83) 11 60 _ _ _).trans rfl

set_option maxRecDepth 16384 in
theorem t_204_83 {d : Nat} {h : AH} (hs : Sh h) (x2 : Nat) (x3 : Int32) (x4 : Int32) (x5 : Int32) (u1 : Option Value) (u6 : Option Value) (u7 : Option Value) :
    Q d 204 83 [some (.ref 156), u1, some (.ref x2), some (.int x3), some (.int x4), some (.int x5), u6, u7] [] h =
  Q d 204 34 [some (.ref 156), none, some (.ref x2), some (.int (x3 + nI 1)), some (.int x4), some (.int (x5 + (-1))), none, none] [] h := by
  rw [← hs.1]
  exact (blkM (fun p => Nat.beq p 34) 5 83 _ _ _).trans rfl

/-! 205 PostRoom$Post.giveBack(I)I -/
set_option maxRecDepth 16384 in
theorem t_205 {d : Nat} {h : AH} (hs : Sh h) (x1 : Int32) :
    E (d + 1) 205 [.ref 156, .int x1] h =
  (gR h 2048 156).bind fun y1 =>
   ck (gC h y1) 2 <|
   (gR h 512 y1).bind fun y2 =>
    ck (gC h y2) 1 <|
    cK (E d 212 [.ref y2, .int x1] h) (Q d 205 11 [some (.ref 156), some (.int x1), none, none, none, none, none]) [] := by
  rw [← hs.1]
  exact entL (l := [some (.ref 156), some (.int x1), none, none, none, none, none]) rfl rfl ((blkM (fun p => Nat.beq p 11) 6 0 _ _ _).trans rfl)

set_option maxRecDepth 16384 in
theorem t_205_11 {d : Nat} {h : AH} (hs : Sh h) (x1 : Int32) (u2 : Option Value) (u3 : Option Value) (u4 : Option Value) (u5 : Option Value) (u6 : Option Value) (s0 : Nat) :
    Q d 205 11 [some (.ref 156), some (.int x1), u2, u3, u4, u5, u6] [.ref s0] h =
  (ck (gC h s0) 7 <|
  ck (gC h s0) 7 <|
  (gR h 1797 s0).bind fun y1 =>
   ck (gC h y1) 1 <|
   cK (E d 213 [.ref y1] h) (Q d 205 27 [some (.ref 156), some (.int x1), some (.ref y1), some (.int (nI 0)), some (.int (nI 0)), u5, u6]) []) := by
  rw [← hs.1]
  exact (blkM (fun p => Nat.beq p 27) 10 11 _ _ _).trans rfl

set_option maxRecDepth 16384 in
theorem t_205_27 {d : Nat} {h : AH} (hs : Sh h) (x1 : Int32) (x2 : Nat) (x3 : Int32) (x4 : Int32) (u5 : Option Value) (u6 : Option Value) (s0 : Int32) :
    Q d 205 27 [some (.ref 156), some (.int x1), some (.ref x2), some (.int x3), some (.int x4), u5, u6] [.int s0] h =
  Q d 205 29 [some (.ref 156), some (.int x1), some (.ref x2), some (.int x3), some (.int x4), some (.int s0), none] [] h := by
  rw [← hs.1]
  exact (blkM (fun p => Nat.beq p 29) 3 27 _ _ _).trans rfl

set_option maxRecDepth 16384 in
theorem t_205_29 {d : Nat} {h : AH} (hs : Sh h) (x1 : Int32) (x2 : Nat) (x3 : Int32) (x4 : Int32) (x5 : Int32) :
    Q d 205 29 [some (.ref 156), some (.int x1), some (.ref x2), some (.int x3), some (.int x4), some (.int x5), none] [] h =
  if (nI 0) < x5 then
   ck (gC h x2) 1 <|
   cK (E d 212 [.ref x2, .int x4] h) (Q d 205 40 [some (.ref 156), some (.int x1), some (.ref x2), some (.int x3), some (.int x4), some (.int x5), none]) []
  else
   some (some (.int x3), h) := by
  rw [← hs.1]
  exact (blkM (fun p => Nat.beq p 40) 6 29 _ _ _).trans rfl

set_option maxRecDepth 16384 in
theorem t_205_40 {d : Nat} {h : AH} (hs : Sh h) (x1 : Int32) (x2 : Nat) (x3 : Int32) (x4 : Int32) (x5 : Int32) (u6 : Option Value) (s0 : Nat) :
    Q d 205 40 [some (.ref 156), some (.int x1), some (.ref x2), some (.int x3), some (.int x4), some (.int x5), u6] [.ref s0] h =
  (ck (gC h s0) 5 <|
  ck (gC h s0) 5 <|
  if gI h 1286 s0 = (-1) then
   ck (gC h s0) 5 <|
   if gI h 1283 s0 = x1 then
    ck (gC h x2) 1 <|
    cK (E d 256 [.ref x2, .int x4] h) (Q d 205 69 [some (.ref 156), some (.int x1), some (.ref x2), some (.int x3), some (.int x4), some (.int x5), some (.ref s0)]) []
   else
    Q d 205 29 [some (.ref 156), some (.int x1), some (.ref x2), some (.int x3), some (.int (x4 + nI 1)), some (.int (x5 + (-1))), none] [] h
  else
   Q d 205 29 [some (.ref 156), some (.int x1), some (.ref x2), some (.int x3), some (.int (x4 + nI 1)), some (.int (x5 + (-1))), none] [] h) := by
  rw [← hs.1]
  exact (blkM (fun p => Nat.beq p 29 || Nat.beq p 69) 15 40 _ _ _).trans rfl

set_option maxRecDepth 16384 in
theorem t_205_69 {d : Nat} {h : AH} (hs : Sh h) (x1 : Int32) (x2 : Nat) (x3 : Int32) (x4 : Int32) (x5 : Int32) (x6 : Nat) (s0 : Nat) :
    Q d 205 69 [some (.ref 156), some (.int x1), some (.ref x2), some (.int x3), some (.int x4), some (.int x5), some (.ref x6)] [.ref s0] h =
  (ck (gC h x6) 5 <|
  cK (E d 257 [.ref x6, .int (nI 4), .int x1, .int (-1), .int (gI h 2051 156)] h) (Q d 205 82 [some (.ref 156), some (.int x1), some (.ref x2), some (.int x3), some (.int x4), some (.int x5), some (.ref x6)]) []) := by
  rw [← hs.1]
  exact (blkM (fun p => Nat.beq p 82) 9 69 _ _ _).trans rfl

set_option maxRecDepth 16384 in
theorem t_205_82 {d : Nat} {h : AH} (hs : Sh h) (x1 : Int32) (x2 : Nat) (x3 : Int32) (x4 : Int32) (x5 : Int32) (x6 : Nat) :
    Q d 205 82 [some (.ref 156), some (.int x1), some (.ref x2), some (.int x3), some (.int x4), some (.int x5), some (.ref x6)] [] h =
  cK (E d 258 [.ref 156, .ref x6, .int (nI 5), .int x1] h) (Q d 205 90 [some (.ref 156), some (.int x1), some (.ref x2), some (.int x3), some (.int x4), some (.int x5), some (.ref x6)]) [] := by
  rw [← hs.1]
  exact (blkM (fun p => Nat.beq p 90) 6 82 _ _ _).trans rfl

set_option maxRecDepth 16384 in
theorem t_205_90 {d : Nat} {h : AH} (hs : Sh h) (x1 : Int32) (x2 : Nat) (x3 : Int32) (x4 : Int32) (x5 : Int32) (u6 : Option Value) :
    Q d 205 90 [some (.ref 156), some (.int x1), some (.ref x2), some (.int x3), some (.int x4), some (.int x5), u6] [] h =
  Q d 205 29 [some (.ref 156), some (.int x1), some (.ref x2), some (.int (x3 + nI 1)), some (.int x4), some (.int (x5 + (-1))), none] [] h := by
  rw [← hs.1]
  exact (blkM (fun p => Nat.beq p 29) 6 90 _ _ _).trans rfl

/-! 206 PostRoom$Post.walkOut(II)I -/
set_option maxRecDepth 16384 in
theorem t_206 {d : Nat} {h : AH} (hs : Sh h) (x1 : Int32) (x2 : Int32) :
    E (d + 1) 206 [.ref 156, .int x1, .int x2] h =
  (gR h 2048 156).bind fun y1 =>
   ck (gC h y1) 2 <|
   (gR h 512 y1).bind fun y2 =>
    ck (gC h y2) 1 <|
    cK (E d 212 [.ref y2, .int x1] (sI h 2064 156 (nI 0))) (Q d 206 16 [some (.ref 156), some (.int x1), some (.int x2), none, none, none]) [] := by
  rw [← hs.1]
  exact entL (l := [some (.ref 156), some (.int x1), some (.int x2), none, none, none]) rfl rfl ((blkM (fun p => Nat.beq p 16) 9 0 _ _ _).trans rfl)

set_option maxRecDepth 16384 in
theorem t_206_16 {d : Nat} {h : AH} (hs : Sh h) (x1 : Int32) (x2 : Int32) (u3 : Option Value) (u4 : Option Value) (u5 : Option Value) (s0 : Nat) :
    Q d 206 16 [some (.ref 156), some (.int x1), some (.int x2), u3, u4, u5] [.ref s0] h =
  (ck (gC h s0) 7 <|
  ck (gC h s0) 7 <|
  (gR h 1797 s0).bind fun y1 =>
   Q d 206 26 [some (.ref 156), some (.int x1), some (.int x2), some (.ref y1), some (.int (nI 0)), none] [] h) := by
  rw [← hs.1]
  exact (blkM (fun p => Nat.beq p 26) 7 16 _ _ _).trans rfl

set_option maxRecDepth 16384 in
theorem t_206_26 {d : Nat} {h : AH} (hs : Sh h) (x1 : Int32) (x2 : Int32) (x3 : Nat) (x4 : Int32) :
    Q d 206 26 [some (.ref 156), some (.int x1), some (.int x2), some (.ref x3), some (.int x4), none] [] h =
  (ck (gC h x3) 1 <|
  cK (E d 213 [.ref x3] h) (Q d 206 32 [some (.ref 156), some (.int x1), some (.int x2), some (.ref x3), some (.int x4), none]) [.int x4]) := by
  rw [← hs.1]
  exact (blkM (fun p => Nat.beq p 32) 4 26 _ _ _).trans rfl

set_option maxRecDepth 16384 in
theorem t_206_32 {d : Nat} {h : AH} (hs : Sh h) (x1 : Int32) (x2 : Int32) (x3 : Nat) (x4 : Int32) (u5 : Option Value) (s0 : Int32) (s1 : Int32) :
    Q d 206 32 [some (.ref 156), some (.int x1), some (.int x2), some (.ref x3), some (.int x4), u5] [.int s1, .int s0] h =
  if s0 < s1 then
   ck (gC h x3) 1 <|
   cK (E d 212 [.ref x3, .int x4] h) (Q d 206 41 [some (.ref 156), some (.int x1), some (.int x2), some (.ref x3), some (.int x4), u5]) []
  else
   if gI h 2064 156 = nI 0 then
    some (some (.int (-1)), h)
   else
    (gR h 2048 156).bind fun y1 =>
     ck (gC h y1) 2 <|
     (gR h 512 y1).bind fun y2 =>
      ck (gC h y2) 1 <|
      cK (E d 212 [.ref y2, .int x1] h) (Q d 206 111 [some (.ref 156), some (.int x1), some (.int x2), some (.ref x3), some (.int x4), u5]) [.int (gI h 2064 156), .ref 172] := by
  rw [← hs.1]
  exact (blkM (fun p => Nat.beq p 41 || Nat.beq p 111) 14 32 _ _ _).trans rfl

set_option maxRecDepth 16384 in
theorem t_206_41 {d : Nat} {h : AH} (hs : Sh h) (x1 : Int32) (x2 : Int32) (x3 : Nat) (x4 : Int32) (u5 : Option Value) (s0 : Nat) :
    Q d 206 41 [some (.ref 156), some (.int x1), some (.int x2), some (.ref x3), some (.int x4), u5] [.ref s0] h =
  (ck (gC h s0) 5 <|
  ck (gC h s0) 5 <|
  cK (E d 259 [.ref 156, .ref s0, .int x1, .int x2] h) (Q d 206 63 [some (.ref 156), some (.int x1), some (.int x2), some (.ref x3), some (.int x4), some (.ref s0)]) [.int (gI h 1280 s0), .ref 171]) := by
  rw [← hs.1]
  exact (blkM (fun p => Nat.beq p 63) 12 41 _ _ _).trans rfl

set_option maxRecDepth 16384 in
theorem t_206_111 {d : Nat} {h : AH} (hs : Sh h) (x1 : Int32) (x3 : Nat) (u2 : Option Value) (u4 : Option Value) (u5 : Option Value) (s0 : Nat) (s1 : Int32) (s2 : Nat) :
    Q d 206 111 [some (.ref 156), some (.int x1), u2, some (.ref x3), u4, u5] [.ref s2, .int s1, .ref s0] h =
  (ck (gC h s2) 7 <|
  ck (gC h s2) 7 <|
  cw (gC h s0) 60 s0 <|
  gd s1 (gK h s0) <|
  (gR h 2048 156).bind fun y1 =>
   ck (gC h y1) 2 <|
   (gR h 512 y1).bind fun y2 =>
    ck (gC h y2) 1 <|
    cK (E d 212 [.ref y2, .int x1] (sA h s0 (ix s1) (gI h 1795 s2))) (Q d 206 137 [some (.ref 156), some (.int x1), u2, some (.ref x3), u4, u5]) [.int (gI h 2064 156), .ref 173]) := by
  rw [← hs.1]
  exact (blkM (fun p => Nat.beq p 137) 13 111 _ _ _).trans rfl

set_option maxRecDepth 16384 in
theorem t_206_63 {d : Nat} {h : AH} (hs : Sh h) (x1 : Int32) (x2 : Int32) (x3 : Nat) (x4 : Int32) (x5 : Nat) (s0 : Nat) (s1 : Int32) (s2 : Int32) :
    Q d 206 63 [some (.ref 156), some (.int x1), some (.int x2), some (.ref x3), some (.int x4), some (.ref x5)] [.int s2, .int s1, .ref s0] h =
  if s2 = nI 0 then
   cw (gC h s0) 60 s0 <|
   gd s1 (gK h s0) <|
   Q d 206 26 [some (.ref 156), some (.int x1), some (.int x2), some (.ref x3), some (.int (x4 + nI 1)), none] [] (sA h s0 (ix s1) (-1))
  else
   cK (E d 260 [.ref 156, .ref x5] h) (Q d 206 72 [some (.ref 156), some (.int x1), some (.int x2), some (.ref x3), some (.int x4), some (.ref x5)]) [.int s1, .ref s0] := by
  rw [← hs.1]
  exact (blkM (fun p => Nat.beq p 26 || Nat.beq p 72) 7 63 _ _ _).trans rfl

set_option maxRecDepth 16384 in
theorem t_206_137 {d : Nat} {h : AH} (hs : Sh h) (x1 : Int32) (x3 : Nat) (u2 : Option Value) (u4 : Option Value) (u5 : Option Value) (s0 : Nat) (s1 : Int32) (s2 : Nat) :
    Q d 206 137 [some (.ref 156), some (.int x1), u2, some (.ref x3), u4, u5] [.ref s2, .int s1, .ref s0] h =
  (ck (gC h s2) 7 <|
  ck (gC h s2) 7 <|
  cw (gC h s0) 60 s0 <|
  gd s1 (gK h s0) <|
  cK (E d 261 [.ref 156] (sA h s0 (ix s1) (gI h 1796 s2))) (Q d 206 148 [some (.ref 156), some (.int x1), u2, some (.ref x3), u4, u5]) []) := by
  rw [← hs.1]
  exact (blkM (fun p => Nat.beq p 148) 6 137 _ _ _).trans rfl

set_option maxRecDepth 16384 in
theorem t_206_72 {d : Nat} {h : AH} (hs : Sh h) (x1 : Int32) (x2 : Int32) (x3 : Nat) (x4 : Int32) (u5 : Option Value) (s0 : Nat) (s1 : Int32) (s2 : Int32) :
    Q d 206 72 [some (.ref 156), some (.int x1), some (.int x2), some (.ref x3), some (.int x4), u5] [.int s2, .int s1, .ref s0] h =
  (cw (gC h s0) 60 s0 <|
  gd s1 (gK h s0) <|
  Q d 206 26 [some (.ref 156), some (.int x1), some (.int x2), some (.ref x3), some (.int (x4 + nI 1)), none] [] (sA h s0 (ix s1) s2)) := by
  rw [← hs.1]
  exact (blkM (fun p => Nat.beq p 26) 6 72 _ _ _).trans rfl

set_option maxRecDepth 16384 in
theorem t_206_148 {d : Nat} {h : AH} (hs : Sh h) (x1 : Int32) (x3 : Nat) (u2 : Option Value) (u4 : Option Value) (u5 : Option Value) :
    Q d 206 148 [some (.ref 156), some (.int x1), u2, some (.ref x3), u4, u5] [] h =
  cK (E d 262 [.ref 156, .ref x3, .int x1] h) (Q d 206 154 [some (.ref 156), some (.int x1), u2, some (.ref x3), u4, u5]) [] := by
  rw [← hs.1]
  exact (blkM (fun p => Nat.beq p 154) 5 148 _ _ _).trans rfl

set_option maxRecDepth 16384 in
theorem t_206_154 {d : Nat} {h : AH} (hs : Sh h) (u0 : Option Value) (u1 : Option Value) (u2 : Option Value) (u3 : Option Value) (u4 : Option Value) (u5 : Option Value) (s0 : Int32) :
    Q d 206 154 [u0, u1, u2, u3, u4, u5] [.int s0] h =
  some (some (.int s0), h) := by
  rw [← hs.1]
  exact (blkM (fun p => false) 2 154 _ _ _).trans rfl

/-! 207 PostRoom$Book.hasPiece(I)Z -/
set_option maxRecDepth 16384 in
theorem t_207 {d : Nat} {h : AH} (hs : Sh h) (x0 : Nat) (x1 : Int32) :
    E (d + 1) 207 [.ref x0, .int x1] h =
  if x1 < nI 0 then
   some (some (.int (nI 0)), h)
  else
   ck (gC h x0) 2 <|
   (gR h 513 x0).bind fun y1 =>
    ck (gC h y1) 1 <|
    cK (E d 213 [.ref y1] h) (Q d 207 12 [some (.ref x0), some (.int x1)]) [.int x1] := by
  rw [← hs.1]
  exact entL (l := [some (.ref x0), some (.int x1)]) rfl rfl ((blkM (fun p => Nat.beq p 12) 7 0 _ _ _).trans rfl)

set_option maxRecDepth 16384 in
theorem t_207_12 {d : Nat} {h : AH} (hs : Sh h) (u0 : Option Value) (u1 : Option Value) (s0 : Int32) (s1 : Int32) :
    Q d 207 12 [u0, u1] [.int s1, .int s0] h =
  if s0 < s1 then
   some (some (.int (nI 1)), h)
  else
   some (some (.int (nI 0)), h) := by
  rw [← hs.1]
  exact (blkM (fun p => false) 5 12 _ _ _).trans rfl

/-! 208 PostRoom$Post.doorKey(II)I -/
set_option maxRecDepth 16384 in
theorem t_208 {d : Nat} {h : AH} (hs : Sh h) (x0 : Int32) (x1 : Int32) :
    E (d + 1) 208 [.int x0, .int x1] h =
  some (some (.int ((x0 * (nI 27000)) + x1)), h) := by
  rw [← hs.1]
  exact entL (l := [some (.int x0), some (.int x1)]) rfl rfl ((blkM (fun p => false) 7 0 _ _ _).trans rfl)

/-! 209 PostRoom$Post.tellMoved(III)Z -/
set_option maxRecDepth 16384 in
theorem t_209 {d : Nat} {h : AH} (hs : Sh h) (x1 : Int32) (x2 : Int32) (x3 : Int32) :
    E (d + 1) 209 [.ref 156, .int x1, .int x2, .int x3] h =
  if x2 < nI 27 then
   some (some (.int (nI 0)), h)
  else
   if x2 < nI 27000 then
    cK (E d 208 [.int x1, .int x2] h) (Q d 209 20 [some (.ref 156), some (.int x1), some (.int x2), some (.int x3), none, none]) []
   else
    some (some (.int (nI 0)), h) := by
  rw [← hs.1]
  exact entL (l := [some (.ref 156), some (.int x1), some (.int x2), some (.int x3), none, none]) rfl rfl ((blkM (fun p => Nat.beq p 20) 10 0 _ _ _).trans rfl)

set_option maxRecDepth 16384 in
theorem t_209_20 {d : Nat} {h : AH} (hs : Sh h) (x3 : Int32) (u1 : Option Value) (u2 : Option Value) (u4 : Option Value) (u5 : Option Value) (s0 : Int32) :
    Q d 209 20 [some (.ref 156), u1, u2, some (.int x3), u4, u5] [.int s0] h =
  cK (E d 263 [.ref 156, .int s0] h) (Q d 209 28 [some (.ref 156), u1, u2, some (.int x3), some (.int s0), u5]) [] := by
  rw [← hs.1]
  exact (blkM (fun p => Nat.beq p 28) 5 20 _ _ _).trans rfl

set_option maxRecDepth 16384 in
theorem t_209_28 {d : Nat} {h : AH} (hs : Sh h) (x3 : Int32) (x4 : Int32) (u1 : Option Value) (u2 : Option Value) (u5 : Option Value) (s0 : Int32) :
    Q d 209 28 [some (.ref 156), u1, u2, some (.int x3), some (.int x4), u5] [.int s0] h =
  if s0 = (-1) then
   if gI h 2055 156 < nI 40 then
    gd (gI h 2055 156) 40 <|
    gd (gI h 2055 156) 40 <|
    some (some (.int (nI 1)), sA (sA (sI h 2055 156 ((gI h 2055 156) + (nI 1))) 166 (ix (gI h 2055 156)) x4) 167 (ix (gI h 2055 156)) x3)
   else
    some (some (.int (nI 0)), h)
  else
   gd s0 40 <|
   gd s0 40 <|
   some (some (.int (nI 1)), sA (sA h 166 (ix s0) x4) 167 (ix s0) x3) := by
  rw [← hs.1]
  exact (blkM (fun p => false) 30 28 _ _ _).trans rfl

