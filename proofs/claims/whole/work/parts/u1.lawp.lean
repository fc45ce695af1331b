/-! ===== THE LAW'S CODE BY PIECES (made by wip/gen2/genlp.py) ===== -/
noncomputable def LQ (d : Nat) : Cn := RnL (wcf (d + 339)) (d + 340)
set_option maxRecDepth 16384 in
theorem lp_0 {d : Nat} {h : AH} (u1 : Option Value) (u2 : Option Value) (u3 : Option Value) (u4 : Option Value) (u5 : Option Value) (u6 : Option Value) (u7 : Option Value) :
    LQ d 0 [some (.ref 63), u1, u2, u3, u4, u5, u6, u7] [] h =
  LQ d 3 [some (.ref 63), u1, u2, u3, u4, u5, u6, u7] [.ref (gN h)] (nwO h 13 10) := by
  exact (blkL (fun p q => wcf_n q) (fun p => Nat.beq p 3) 3 0 rfl _ _ _).trans rfl

set_option maxRecDepth 16384 in
theorem lp_3 {d : Nat} {h : AH} (u1 : Option Value) (u2 : Option Value) (u3 : Option Value) (u4 : Option Value) (u5 : Option Value) (u6 : Option Value) (u7 : Option Value) (s0 : Nat) :
    LQ d 3 [some (.ref 63), u1, u2, u3, u4, u5, u6, u7] [.ref s0] h =
  cK (E (d + 340) 0 [.ref s0] h) (LQ d 7 [some (.ref 63), u1, u2, u3, u4, u5, u6, u7]) [.ref s0] := by
  exact (blkL (fun p q => wcf_n q) (fun p => Nat.beq p 7) 3 3 rfl _ _ _).trans rfl

set_option maxRecDepth 16384 in
theorem lp_7 {d : Nat} {h : AH} (u1 : Option Value) (u2 : Option Value) (u3 : Option Value) (u4 : Option Value) (u5 : Option Value) (u6 : Option Value) (u7 : Option Value) (s0 : Nat) :
    LQ d 7 [some (.ref 63), u1, u2, u3, u4, u5, u6, u7] [.ref s0] h =
  LQ d 11 [some (.ref 63), some (.ref s0), u2, u3, u4, u5, u6, u7] [.ref (gN h)] (nwO h 14 152) := by
  exact (blkL (fun p q => wcf_n q) (fun p => Nat.beq p 11) 4 7 rfl _ _ _).trans rfl

set_option maxRecDepth 16384 in
theorem lp_11 {d : Nat} {h : AH} (x1 : Nat) (u2 : Option Value) (u3 : Option Value) (u4 : Option Value) (u5 : Option Value) (u6 : Option Value) (u7 : Option Value) (s0 : Nat) :
    LQ d 11 [some (.ref 63), some (.ref x1), u2, u3, u4, u5, u6, u7] [.ref s0] h =
  cK (E (d + 340) 1 [.ref s0] h) (LQ d 15 [some (.ref 63), some (.ref x1), u2, u3, u4, u5, u6, u7]) [.ref s0] := by
  exact (blkL (fun p q => wcf_n q) (fun p => Nat.beq p 15) 3 11 rfl _ _ _).trans rfl

set_option maxRecDepth 16384 in
theorem lp_15 {d : Nat} {h : AH} (x1 : Nat) (u2 : Option Value) (u3 : Option Value) (u4 : Option Value) (u5 : Option Value) (u6 : Option Value) (u7 : Option Value) (s0 : Nat) :
    LQ d 15 [some (.ref 63), some (.ref x1), u2, u3, u4, u5, u6, u7] [.ref s0] h =
  LQ d 19 [some (.ref 63), some (.ref x1), some (.ref s0), u3, u4, u5, u6, u7] [.ref (gN h)] (nwA h 61 1) := by
  exact (blkL (fun p q => wcf_n q) (fun p => Nat.beq p 19) 5 15 rfl _ _ _).trans rfl

set_option maxRecDepth 16384 in
theorem lp_19 {d : Nat} {h : AH} (x1 : Nat) (x2 : Nat) (u3 : Option Value) (u4 : Option Value) (u5 : Option Value) (u6 : Option Value) (u7 : Option Value) (s0 : Nat) :
    LQ d 19 [some (.ref 63), some (.ref x1), some (.ref x2), u3, u4, u5, u6, u7] [.ref s0] h =
  LQ d 23 [some (.ref 63), some (.ref x1), some (.ref x2), some (.ref s0), some (.int (nI 0)), none, none, none] [] h := by
  exact (blkL (fun p q => wcf_n q) (fun p => Nat.beq p 23) 5 19 rfl _ _ _).trans rfl

set_option maxRecDepth 16384 in
theorem lp_23 {d : Nat} {h : AH} (x4 : Int32) :
    LQ d 23 [some (.ref 63), some (.ref 100), some (.ref 189), some (.ref 295), some (.int x4), none, none, none] [] h =
  if 60 ≤ gC h 63 ∧ gC h 63 ≤ 66 then
   if (nI (gK h 63)) - (nI 7) < x4 then
    some (some (.int (nI 1)), h)
   else
    ck (gC h 63) 60 <|
    gd x4 (gK h 63) <|
    if (gA h 63 (ix x4)) &&& (nI 31) = nI 0 then
     LQ d 156 [some (.ref 63), some (.ref 100), some (.ref 189), some (.ref 295), some (.int x4), none, none, none] [] h
    else
     if (gA h 63 (ix x4)) &&& (nI 31) = nI 1 then
     LQ d 303 [some (.ref 63), some (.ref 100), some (.ref 189), some (.ref 295), some (.int x4), none, none, none] [] h
    else
     if (gA h 63 (ix x4)) &&& (nI 31) = nI 2 then
     LQ d 316 [some (.ref 63), some (.ref 100), some (.ref 189), some (.ref 295), some (.int x4), none, none, none] [] h
    else
     if (gA h 63 (ix x4)) &&& (nI 31) = nI 3 then
     LQ d 329 [some (.ref 63), some (.ref 100), some (.ref 189), some (.ref 295), some (.int x4), none, none, none] [] h
    else
     if (gA h 63 (ix x4)) &&& (nI 31) = nI 4 then
     LQ d 354 [some (.ref 63), some (.ref 100), some (.ref 189), some (.ref 295), some (.int x4), none, none, none] [] h
    else
     if (gA h 63 (ix x4)) &&& (nI 31) = nI 5 then
     LQ d 446 [some (.ref 63), some (.ref 100), some (.ref 189), some (.ref 295), some (.int x4), none, none, none] [] h
    else
     if (gA h 63 (ix x4)) &&& (nI 31) = nI 6 then
     LQ d 514 [some (.ref 63), some (.ref 100), some (.ref 189), some (.ref 295), some (.int x4), none, none, none] [] h
    else
     if (gA h 63 (ix x4)) &&& (nI 31) = nI 7 then
     LQ d 594 [some (.ref 63), some (.ref 100), some (.ref 189), some (.ref 295), some (.int x4), none, none, none] [] h
    else
     if (gA h 63 (ix x4)) &&& (nI 31) = nI 8 then
     LQ d 662 [some (.ref 63), some (.ref 100), some (.ref 189), some (.ref 295), some (.int x4), none, none, none] [] h
    else
     if (gA h 63 (ix x4)) &&& (nI 31) = nI 9 then
     LQ d 675 [some (.ref 63), some (.ref 100), some (.ref 189), some (.ref 295), some (.int x4), none, none, none] [] h
    else
     if (gA h 63 (ix x4)) &&& (nI 31) = nI 10 then
     LQ d 688 [some (.ref 63), some (.ref 100), some (.ref 189), some (.ref 295), some (.int x4), none, none, none] [] h
    else
     if (gA h 63 (ix x4)) &&& (nI 31) = nI 11 then
     LQ d 713 [some (.ref 63), some (.ref 100), some (.ref 189), some (.ref 295), some (.int x4), none, none, none] [] h
    else
     if (gA h 63 (ix x4)) &&& (nI 31) = nI 12 then
     LQ d 738 [some (.ref 63), some (.ref 100), some (.ref 189), some (.ref 295), some (.int x4), none, none, none] [] h
    else
     if (gA h 63 (ix x4)) &&& (nI 31) = nI 13 then
     LQ d 775 [some (.ref 63), some (.ref 100), some (.ref 189), some (.ref 295), some (.int x4), none, none, none] [] h
    else
     if (gA h 63 (ix x4)) &&& (nI 31) = nI 14 then
     LQ d 812 [some (.ref 63), some (.ref 100), some (.ref 189), some (.ref 295), some (.int x4), none, none, none] [] h
    else
     if (gA h 63 (ix x4)) &&& (nI 31) = nI 15 then
     LQ d 849 [some (.ref 63), some (.ref 100), some (.ref 189), some (.ref 295), some (.int x4), none, none, none] [] h
    else
     if (gA h 63 (ix x4)) &&& (nI 31) = nI 16 then
     LQ d 862 [some (.ref 63), some (.ref 100), some (.ref 189), some (.ref 295), some (.int x4), none, none, none] [] h
    else
     if (gA h 63 (ix x4)) &&& (nI 31) = nI 17 then
     LQ d 899 [some (.ref 63), some (.ref 100), some (.ref 189), some (.ref 295), some (.int x4), none, none, none] [] h
    else
     if (gA h 63 (ix x4)) &&& (nI 31) = nI 18 then
     LQ d 954 [some (.ref 63), some (.ref 100), some (.ref 189), some (.ref 295), some (.int x4), none, none, none] [] h
    else
     if (gA h 63 (ix x4)) &&& (nI 31) = nI 19 then
     LQ d 1010 [some (.ref 63), some (.ref 100), some (.ref 189), some (.ref 295), some (.int x4), none, none, none] [] h
    else
     if (gA h 63 (ix x4)) &&& (nI 31) = nI 20 then
     LQ d 1078 [some (.ref 63), some (.ref 100), some (.ref 189), some (.ref 295), some (.int x4), none, none, none] [] h
    else
     if (gA h 63 (ix x4)) &&& (nI 31) = nI 21 then
     LQ d 1145 [some (.ref 63), some (.ref 100), some (.ref 189), some (.ref 295), some (.int x4), none, none, none] [] h
    else
     if (gA h 63 (ix x4)) &&& (nI 31) = nI 22 then
     LQ d 1213 [some (.ref 63), some (.ref 100), some (.ref 189), some (.ref 295), some (.int x4), none, none, none] [] h
    else
     if (gA h 63 (ix x4)) &&& (nI 31) = nI 23 then
     LQ d 1250 [some (.ref 63), some (.ref 100), some (.ref 189), some (.ref 295), some (.int x4), none, none, none] [] h
    else
     if (gA h 63 (ix x4)) &&& (nI 31) = nI 24 then
     LQ d 1287 [some (.ref 63), some (.ref 100), some (.ref 189), some (.ref 295), some (.int x4), none, none, none] [] h
    else
     LQ d 1312 [some (.ref 63), some (.ref 100), some (.ref 189), some (.ref 295), some (.int x4), none, none, none] [] h
  else
   none := by
  exact (blkL (fun p q => wcf_n q) (fun p => Nat.beq p 156 || Nat.beq p 303 || Nat.beq p 316 || Nat.beq p 329 || Nat.beq p 354 || Nat.beq p 446 || Nat.beq p 514 || Nat.beq p 594 || Nat.beq p 662 || Nat.beq p 675 || Nat.beq p 688 || Nat.beq p 713 || Nat.beq p 738 || Nat.beq p 775 || Nat.beq p 812 || Nat.beq p 849 || Nat.beq p 862 || Nat.beq p 899 || Nat.beq p 954 || Nat.beq p 1010 || Nat.beq p 1078 || Nat.beq p 1145 || Nat.beq p 1213 || Nat.beq p 1250 || Nat.beq p 1287 || Nat.beq p 1312) 14 23 rfl _ _ _).trans rfl

set_option maxRecDepth 16384 in
theorem lp_156 {d : Nat} {h : AH} (x4 : Int32) (u5 : Option Value) (u6 : Option Value) (u7 : Option Value) :
    LQ d 156 [some (.ref 63), some (.ref 100), some (.ref 189), some (.ref 295), some (.int x4), u5, u6, u7] [] h =
  (ck (gC h 63) 60 <|
  gd (x4 + (nI 1)) (gK h 63) <|
  LQ d 163 [some (.ref 63), some (.ref 100), some (.ref 189), some (.ref 295), some (.int x4), u5, u6, u7] [.int (gA h 63 (ix (x4 + (nI 1)))), .ref 100] h) := by
  exact (blkL (fun p q => wcf_n q) (fun p => Nat.beq p 163) 8 156 rfl _ _ _).trans rfl

set_option maxRecDepth 16384 in
theorem lp_163 {d : Nat} {h : AH} (x4 : Int32) (u5 : Option Value) (u6 : Option Value) (u7 : Option Value) (s1 : Int32) :
    LQ d 163 [some (.ref 63), some (.ref 100), some (.ref 189), some (.ref 295), some (.int x4), u5, u6, u7] [.int s1, .ref 100] h =
  (ck (gC h 63) 60 <|
  gd (x4 + (nI 2)) (gK h 63) <|
  LQ d 173 [some (.ref 63), some (.ref 100), some (.ref 189), some (.ref 295), some (.int x4), u5, u6, u7] [.int (gA h 63 (ix (x4 + (nI 2)))), .long (s1.toInt64 <<< ((nI 32).toInt64 &&& 63)), .ref 100] h) := by
  exact (blkL (fun p q => wcf_n q) (fun p => Nat.beq p 173) 10 163 rfl _ _ _).trans rfl

set_option maxRecDepth 16384 in
theorem lp_173 {d : Nat} {h : AH} (x4 : Int32) (u5 : Option Value) (u6 : Option Value) (u7 : Option Value) (s1 : Int64) (s2 : Int32) :
    LQ d 173 [some (.ref 63), some (.ref 100), some (.ref 189), some (.ref 295), some (.int x4), u5, u6, u7] [.int s2, .long s1, .ref 100] h =
  (ck (gC h 63) 60 <|
  gd (x4 + (nI 3)) (gK h 63) <|
  LQ d 185 [some (.ref 63), some (.ref 100), some (.ref 189), some (.ref 295), some (.int x4), u5, u6, u7] [.int (gA h 63 (ix (x4 + (nI 3)))), .long (s1 ||| (s2.toInt64 &&& 4294967295)), .ref 100] h) := by
  exact (blkL (fun p q => wcf_n q) (fun p => Nat.beq p 185) 11 173 rfl _ _ _).trans rfl

set_option maxRecDepth 16384 in
theorem lp_185 {d : Nat} {h : AH} (x4 : Int32) (u5 : Option Value) (u6 : Option Value) (u7 : Option Value) (s1 : Int64) (s2 : Int32) :
    LQ d 185 [some (.ref 63), some (.ref 100), some (.ref 189), some (.ref 295), some (.int x4), u5, u6, u7] [.int s2, .long s1, .ref 100] h =
  (ck (gC h 63) 60 <|
  gd (x4 + (nI 4)) (gK h 63) <|
  LQ d 195 [some (.ref 63), some (.ref 100), some (.ref 189), some (.ref 295), some (.int x4), u5, u6, u7] [.int (gA h 63 (ix (x4 + (nI 4)))), .long (s2.toInt64 <<< ((nI 32).toInt64 &&& 63)), .long s1, .ref 100] h) := by
  exact (blkL (fun p q => wcf_n q) (fun p => Nat.beq p 195) 10 185 rfl _ _ _).trans rfl

set_option maxRecDepth 16384 in
theorem lp_195 {d : Nat} {h : AH} (x4 : Int32) (u5 : Option Value) (u6 : Option Value) (u7 : Option Value) (s1 : Int64) (s2 : Int64) (s3 : Int32) :
    LQ d 195 [some (.ref 63), some (.ref 100), some (.ref 189), some (.ref 295), some (.int x4), u5, u6, u7] [.int s3, .long s2, .long s1, .ref 100] h =
  (ck (gC h 63) 60 <|
  gd (x4 + (nI 5)) (gK h 63) <|
  LQ d 207 [some (.ref 63), some (.ref 100), some (.ref 189), some (.ref 295), some (.int x4), u5, u6, u7] [.int (gA h 63 (ix (x4 + (nI 5)))), .long (s2 ||| (s3.toInt64 &&& 4294967295)), .long s1, .ref 100] h) := by
  exact (blkL (fun p q => wcf_n q) (fun p => Nat.beq p 207) 11 195 rfl _ _ _).trans rfl

set_option maxRecDepth 16384 in
theorem lp_207 {d : Nat} {h : AH} (x4 : Int32) (u5 : Option Value) (u6 : Option Value) (u7 : Option Value) (s1 : Int64) (s2 : Int64) (s3 : Int32) :
    LQ d 207 [some (.ref 63), some (.ref 100), some (.ref 189), some (.ref 295), some (.int x4), u5, u6, u7] [.int s3, .long s2, .long s1, .ref 100] h =
  (ck (gC h 63) 60 <|
  gd (x4 + (nI 6)) (gK h 63) <|
  LQ d 218 [some (.ref 63), some (.ref 100), some (.ref 189), some (.ref 295), some (.int x4), u5, u6, u7] [.int (gA h 63 (ix (x4 + (nI 6)))), .long (s3.toInt64 <<< ((nI 32).toInt64 &&& 63)), .long s2, .long s1, .ref 100] h) := by
  exact (blkL (fun p q => wcf_n q) (fun p => Nat.beq p 218) 10 207 rfl _ _ _).trans rfl

set_option maxRecDepth 16384 in
theorem lp_218 {d : Nat} {h : AH} (x4 : Int32) (u5 : Option Value) (u6 : Option Value) (u7 : Option Value) (s1 : Int64) (s2 : Int64) (s3 : Int64) (s4 : Int32) :
    LQ d 218 [some (.ref 63), some (.ref 100), some (.ref 189), some (.ref 295), some (.int x4), u5, u6, u7] [.int s4, .long s3, .long s2, .long s1, .ref 100] h =
  (ck (gC h 100) 13 <|
  cK (E (d + 340) 2 [.ref 100, .long s1, .long s2, .long (s3 ||| (s4.toInt64 &&& 4294967295))] h) (LQ d 227 [some (.ref 63), some (.ref 100), some (.ref 189), some (.ref 295), some (.int x4), u5, u6, u7]) []) := by
  exact (blkL (fun p q => wcf_n q) (fun p => Nat.beq p 227) 6 218 rfl _ _ _).trans rfl

set_option maxRecDepth 16384 in
theorem lp_227 {d : Nat} {h : AH} (x4 : Int32) (u5 : Option Value) (u6 : Option Value) (u7 : Option Value) (s0 : Int32) :
    LQ d 227 [some (.ref 63), some (.ref 100), some (.ref 189), some (.ref 295), some (.int x4), u5, u6, u7] [.int s0] h =
  (ck (gC h 63) 60 <|
  gd (x4 + (nI 1)) (gK h 63) <|
  LQ d 234 [some (.ref 63), some (.ref 100), some (.ref 189), some (.ref 295), some (.int x4), u5, u6, u7] [.int (gA h 63 (ix (x4 + (nI 1)))), .ref 189, .int s0] h) := by
  exact (blkL (fun p q => wcf_n q) (fun p => Nat.beq p 234) 8 227 rfl _ _ _).trans rfl

set_option maxRecDepth 16384 in
theorem lp_234 {d : Nat} {h : AH} (x4 : Int32) (u5 : Option Value) (u6 : Option Value) (u7 : Option Value) (s0 : Int32) (s2 : Int32) :
    LQ d 234 [some (.ref 63), some (.ref 100), some (.ref 189), some (.ref 295), some (.int x4), u5, u6, u7] [.int s2, .ref 189, .int s0] h =
  (ck (gC h 63) 60 <|
  gd (x4 + (nI 2)) (gK h 63) <|
  LQ d 244 [some (.ref 63), some (.ref 100), some (.ref 189), some (.ref 295), some (.int x4), u5, u6, u7] [.int (gA h 63 (ix (x4 + (nI 2)))), .long (s2.toInt64 <<< ((nI 32).toInt64 &&& 63)), .ref 189, .int s0] h) := by
  exact (blkL (fun p q => wcf_n q) (fun p => Nat.beq p 244) 10 234 rfl _ _ _).trans rfl

set_option maxRecDepth 16384 in
theorem lp_244 {d : Nat} {h : AH} (x4 : Int32) (u5 : Option Value) (u6 : Option Value) (u7 : Option Value) (s0 : Int32) (s2 : Int64) (s3 : Int32) :
    LQ d 244 [some (.ref 63), some (.ref 100), some (.ref 189), some (.ref 295), some (.int x4), u5, u6, u7] [.int s3, .long s2, .ref 189, .int s0] h =
  (ck (gC h 63) 60 <|
  gd (x4 + (nI 3)) (gK h 63) <|
  LQ d 256 [some (.ref 63), some (.ref 100), some (.ref 189), some (.ref 295), some (.int x4), u5, u6, u7] [.int (gA h 63 (ix (x4 + (nI 3)))), .long (s2 ||| (s3.toInt64 &&& 4294967295)), .ref 189, .int s0] h) := by
  exact (blkL (fun p q => wcf_n q) (fun p => Nat.beq p 256) 11 244 rfl _ _ _).trans rfl

set_option maxRecDepth 16384 in
theorem lp_256 {d : Nat} {h : AH} (x4 : Int32) (u5 : Option Value) (u6 : Option Value) (u7 : Option Value) (s0 : Int32) (s2 : Int64) (s3 : Int32) :
    LQ d 256 [some (.ref 63), some (.ref 100), some (.ref 189), some (.ref 295), some (.int x4), u5, u6, u7] [.int s3, .long s2, .ref 189, .int s0] h =
  (ck (gC h 63) 60 <|
  gd (x4 + (nI 4)) (gK h 63) <|
  LQ d 266 [some (.ref 63), some (.ref 100), some (.ref 189), some (.ref 295), some (.int x4), u5, u6, u7] [.int (gA h 63 (ix (x4 + (nI 4)))), .long (s3.toInt64 <<< ((nI 32).toInt64 &&& 63)), .long s2, .ref 189, .int s0] h) := by
  exact (blkL (fun p q => wcf_n q) (fun p => Nat.beq p 266) 10 256 rfl _ _ _).trans rfl

set_option maxRecDepth 16384 in
theorem lp_266 {d : Nat} {h : AH} (x4 : Int32) (u5 : Option Value) (u6 : Option Value) (u7 : Option Value) (s0 : Int32) (s2 : Int64) (s3 : Int64) (s4 : Int32) :
    LQ d 266 [some (.ref 63), some (.ref 100), some (.ref 189), some (.ref 295), some (.int x4), u5, u6, u7] [.int s4, .long s3, .long s2, .ref 189, .int s0] h =
  (ck (gC h 63) 60 <|
  gd (x4 + (nI 5)) (gK h 63) <|
  LQ d 278 [some (.ref 63), some (.ref 100), some (.ref 189), some (.ref 295), some (.int x4), u5, u6, u7] [.int (gA h 63 (ix (x4 + (nI 5)))), .long (s3 ||| (s4.toInt64 &&& 4294967295)), .long s2, .ref 189, .int s0] h) := by
  exact (blkL (fun p q => wcf_n q) (fun p => Nat.beq p 278) 11 266 rfl _ _ _).trans rfl

set_option maxRecDepth 16384 in
theorem lp_278 {d : Nat} {h : AH} (x4 : Int32) (u5 : Option Value) (u6 : Option Value) (u7 : Option Value) (s0 : Int32) (s2 : Int64) (s3 : Int64) (s4 : Int32) :
    LQ d 278 [some (.ref 63), some (.ref 100), some (.ref 189), some (.ref 295), some (.int x4), u5, u6, u7] [.int s4, .long s3, .long s2, .ref 189, .int s0] h =
  (ck (gC h 63) 60 <|
  gd (x4 + (nI 6)) (gK h 63) <|
  LQ d 289 [some (.ref 63), some (.ref 100), some (.ref 189), some (.ref 295), some (.int x4), u5, u6, u7] [.int (gA h 63 (ix (x4 + (nI 6)))), .long (s4.toInt64 <<< ((nI 32).toInt64 &&& 63)), .long s3, .long s2, .ref 189, .int s0] h) := by
  exact (blkL (fun p q => wcf_n q) (fun p => Nat.beq p 289) 10 278 rfl _ _ _).trans rfl

set_option maxRecDepth 16384 in
theorem lp_289 {d : Nat} {h : AH} (x4 : Int32) (u5 : Option Value) (u6 : Option Value) (u7 : Option Value) (s0 : Int32) (s2 : Int64) (s3 : Int64) (s4 : Int64) (s5 : Int32) :
    LQ d 289 [some (.ref 63), some (.ref 100), some (.ref 189), some (.ref 295), some (.int x4), u5, u6, u7] [.int s5, .long s4, .long s3, .long s2, .ref 189, .int s0] h =
  (ck (gC h 189) 14 <|
  cK (E (d + 340) 33 [.ref 189, .long s2, .long s3, .long (s4 ||| (s5.toInt64 &&& 4294967295))] h) (LQ d 298 [some (.ref 63), some (.ref 100), some (.ref 189), some (.ref 295), some (.int x4), u5, u6, u7]) [.int s0]) := by
  exact (blkL (fun p q => wcf_n q) (fun p => Nat.beq p 298) 6 289 rfl _ _ _).trans rfl

set_option maxRecDepth 16384 in
theorem lp_298 {d : Nat} {h : AH} (x4 : Int32) (u5 : Option Value) (u6 : Option Value) (u7 : Option Value) (s0 : Int32) (s1 : Int32) :
    LQ d 298 [some (.ref 63), some (.ref 100), some (.ref 189), some (.ref 295), some (.int x4), u5, u6, u7] [.int s1, .int s0] h =
  if s0 = s1 then
   LQ d 1312 [some (.ref 63), some (.ref 100), some (.ref 189), some (.ref 295), some (.int x4), none, none, none] [] h
  else
   some (some (.int (nI 0)), h) := by
  exact (blkL (fun p q => wcf_n q) (fun p => Nat.beq p 1312) 4 298 rfl _ _ _).trans rfl

set_option maxRecDepth 16384 in
theorem lp_303 {d : Nat} {h : AH} (x4 : Int32) (u5 : Option Value) (u6 : Option Value) (u7 : Option Value) :
    LQ d 303 [some (.ref 63), some (.ref 100), some (.ref 189), some (.ref 295), some (.int x4), u5, u6, u7] [] h =
  (ck (gC h 100) 13 <|
  cK (E (d + 340) 3 [.ref 100] h) (LQ d 307 [some (.ref 63), some (.ref 100), some (.ref 189), some (.ref 295), some (.int x4), u5, u6, u7]) []) := by
  exact (blkL (fun p q => wcf_n q) (fun p => Nat.beq p 307) 3 303 rfl _ _ _).trans rfl

set_option maxRecDepth 16384 in
theorem lp_307 {d : Nat} {h : AH} (x4 : Int32) (u5 : Option Value) (u6 : Option Value) (u7 : Option Value) (s0 : Int32) :
    LQ d 307 [some (.ref 63), some (.ref 100), some (.ref 189), some (.ref 295), some (.int x4), u5, u6, u7] [.int s0] h =
  (ck (gC h 189) 14 <|
  cK (E (d + 340) 35 [.ref 189] h) (LQ d 311 [some (.ref 63), some (.ref 100), some (.ref 189), some (.ref 295), some (.int x4), u5, u6, u7]) [.int s0]) := by
  exact (blkL (fun p q => wcf_n q) (fun p => Nat.beq p 311) 3 307 rfl _ _ _).trans rfl

set_option maxRecDepth 16384 in
theorem lp_311 {d : Nat} {h : AH} (x4 : Int32) (u5 : Option Value) (u6 : Option Value) (u7 : Option Value) (s0 : Int32) (s1 : Int32) :
    LQ d 311 [some (.ref 63), some (.ref 100), some (.ref 189), some (.ref 295), some (.int x4), u5, u6, u7] [.int s1, .int s0] h =
  if s0 = s1 then
   LQ d 1312 [some (.ref 63), some (.ref 100), some (.ref 189), some (.ref 295), some (.int x4), none, none, none] [] h
  else
   some (some (.int (nI 0)), h) := by
  exact (blkL (fun p q => wcf_n q) (fun p => Nat.beq p 1312) 4 311 rfl _ _ _).trans rfl

set_option maxRecDepth 16384 in
theorem lp_316 {d : Nat} {h : AH} (x4 : Int32) (u5 : Option Value) (u6 : Option Value) (u7 : Option Value) :
    LQ d 316 [some (.ref 63), some (.ref 100), some (.ref 189), some (.ref 295), some (.int x4), u5, u6, u7] [] h =
  (ck (gC h 100) 13 <|
  cK (E (d + 340) 4 [.ref 100] h) (LQ d 320 [some (.ref 63), some (.ref 100), some (.ref 189), some (.ref 295), some (.int x4), u5, u6, u7]) []) := by
  exact (blkL (fun p q => wcf_n q) (fun p => Nat.beq p 320) 3 316 rfl _ _ _).trans rfl

set_option maxRecDepth 16384 in
theorem lp_320 {d : Nat} {h : AH} (x4 : Int32) (u5 : Option Value) (u6 : Option Value) (u7 : Option Value) (s0 : Int32) :
    LQ d 320 [some (.ref 63), some (.ref 100), some (.ref 189), some (.ref 295), some (.int x4), u5, u6, u7] [.int s0] h =
  (ck (gC h 189) 14 <|
  cK (E (d + 340) 62 [.ref 189] h) (LQ d 324 [some (.ref 63), some (.ref 100), some (.ref 189), some (.ref 295), some (.int x4), u5, u6, u7]) [.int s0]) := by
  exact (blkL (fun p q => wcf_n q) (fun p => Nat.beq p 324) 3 320 rfl _ _ _).trans rfl

set_option maxRecDepth 16384 in
theorem lp_324 {d : Nat} {h : AH} (x4 : Int32) (u5 : Option Value) (u6 : Option Value) (u7 : Option Value) (s0 : Int32) (s1 : Int32) :
    LQ d 324 [some (.ref 63), some (.ref 100), some (.ref 189), some (.ref 295), some (.int x4), u5, u6, u7] [.int s1, .int s0] h =
  if s0 = s1 then
   LQ d 1312 [some (.ref 63), some (.ref 100), some (.ref 189), some (.ref 295), some (.int x4), none, none, none] [] h
  else
   some (some (.int (nI 0)), h) := by
  exact (blkL (fun p q => wcf_n q) (fun p => Nat.beq p 1312) 4 324 rfl _ _ _).trans rfl

set_option maxRecDepth 16384 in
theorem lp_329 {d : Nat} {h : AH} (x4 : Int32) (u5 : Option Value) (u6 : Option Value) (u7 : Option Value) :
    LQ d 329 [some (.ref 63), some (.ref 100), some (.ref 189), some (.ref 295), some (.int x4), u5, u6, u7] [] h =
  (ck (gC h 63) 60 <|
  gd (x4 + (nI 1)) (gK h 63) <|
  LQ d 336 [some (.ref 63), some (.ref 100), some (.ref 189), some (.ref 295), some (.int x4), u5, u6, u7] [.int (gA h 63 (ix (x4 + (nI 1)))), .ref 100] h) := by
  exact (blkL (fun p q => wcf_n q) (fun p => Nat.beq p 336) 8 329 rfl _ _ _).trans rfl

set_option maxRecDepth 16384 in
theorem lp_336 {d : Nat} {h : AH} (x4 : Int32) (u5 : Option Value) (u6 : Option Value) (u7 : Option Value) (s1 : Int32) :
    LQ d 336 [some (.ref 63), some (.ref 100), some (.ref 189), some (.ref 295), some (.int x4), u5, u6, u7] [.int s1, .ref 100] h =
  (ck (gC h 100) 13 <|
  cK (E (d + 340) 6 [.ref 100, .int s1] h) (LQ d 339 [some (.ref 63), some (.ref 100), some (.ref 189), some (.ref 295), some (.int x4), u5, u6, u7]) []) := by
  exact (blkL (fun p q => wcf_n q) (fun p => Nat.beq p 339) 2 336 rfl _ _ _).trans rfl

set_option maxRecDepth 16384 in
theorem lp_339 {d : Nat} {h : AH} (x4 : Int32) (u5 : Option Value) (u6 : Option Value) (u7 : Option Value) (s0 : Int32) :
    LQ d 339 [some (.ref 63), some (.ref 100), some (.ref 189), some (.ref 295), some (.int x4), u5, u6, u7] [.int s0] h =
  (ck (gC h 63) 60 <|
  gd (x4 + (nI 1)) (gK h 63) <|
  LQ d 346 [some (.ref 63), some (.ref 100), some (.ref 189), some (.ref 295), some (.int x4), u5, u6, u7] [.int (gA h 63 (ix (x4 + (nI 1)))), .ref 189, .int s0] h) := by
  exact (blkL (fun p q => wcf_n q) (fun p => Nat.beq p 346) 8 339 rfl _ _ _).trans rfl

set_option maxRecDepth 16384 in
theorem lp_346 {d : Nat} {h : AH} (x4 : Int32) (u5 : Option Value) (u6 : Option Value) (u7 : Option Value) (s0 : Int32) (s2 : Int32) :
    LQ d 346 [some (.ref 63), some (.ref 100), some (.ref 189), some (.ref 295), some (.int x4), u5, u6, u7] [.int s2, .ref 189, .int s0] h =
  (ck (gC h 189) 14 <|
  cK (E (d + 340) 79 [.ref 189, .int s2] h) (LQ d 349 [some (.ref 63), some (.ref 100), some (.ref 189), some (.ref 295), some (.int x4), u5, u6, u7]) [.int s0]) := by
  exact (blkL (fun p q => wcf_n q) (fun p => Nat.beq p 349) 2 346 rfl _ _ _).trans rfl

set_option maxRecDepth 16384 in
theorem lp_349 {d : Nat} {h : AH} (x4 : Int32) (u5 : Option Value) (u6 : Option Value) (u7 : Option Value) (s0 : Int32) (s1 : Int32) :
    LQ d 349 [some (.ref 63), some (.ref 100), some (.ref 189), some (.ref 295), some (.int x4), u5, u6, u7] [.int s1, .int s0] h =
  if s0 = s1 then
   LQ d 1312 [some (.ref 63), some (.ref 100), some (.ref 189), some (.ref 295), some (.int x4), none, none, none] [] h
  else
   some (some (.int (nI 0)), h) := by
  exact (blkL (fun p q => wcf_n q) (fun p => Nat.beq p 1312) 4 349 rfl _ _ _).trans rfl

set_option maxRecDepth 16384 in
theorem lp_354 {d : Nat} {h : AH} (x4 : Int32) (u5 : Option Value) (u6 : Option Value) (u7 : Option Value) :
    LQ d 354 [some (.ref 63), some (.ref 100), some (.ref 189), some (.ref 295), some (.int x4), u5, u6, u7] [] h =
  (ck (gC h 63) 60 <|
  gd (x4 + (nI 1)) (gK h 63) <|
  LQ d 361 [some (.ref 63), some (.ref 100), some (.ref 189), some (.ref 295), some (.int x4), u5, u6, u7] [.int (gA h 63 (ix (x4 + (nI 1)))), .ref 100] h) := by
  exact (blkL (fun p q => wcf_n q) (fun p => Nat.beq p 361) 8 354 rfl _ _ _).trans rfl

set_option maxRecDepth 16384 in
theorem lp_361 {d : Nat} {h : AH} (x4 : Int32) (u5 : Option Value) (u6 : Option Value) (u7 : Option Value) (s1 : Int32) :
    LQ d 361 [some (.ref 63), some (.ref 100), some (.ref 189), some (.ref 295), some (.int x4), u5, u6, u7] [.int s1, .ref 100] h =
  (ck (gC h 63) 60 <|
  gd (x4 + (nI 2)) (gK h 63) <|
  LQ d 367 [some (.ref 63), some (.ref 100), some (.ref 189), some (.ref 295), some (.int x4), u5, u6, u7] [.int (gA h 63 (ix (x4 + (nI 2)))), .int s1, .ref 100] h) := by
  exact (blkL (fun p q => wcf_n q) (fun p => Nat.beq p 367) 7 361 rfl _ _ _).trans rfl

set_option maxRecDepth 16384 in
theorem lp_367 {d : Nat} {h : AH} (x4 : Int32) (u5 : Option Value) (u6 : Option Value) (u7 : Option Value) (s1 : Int32) (s2 : Int32) :
    LQ d 367 [some (.ref 63), some (.ref 100), some (.ref 189), some (.ref 295), some (.int x4), u5, u6, u7] [.int s2, .int s1, .ref 100] h =
  (ck (gC h 63) 60 <|
  gd (x4 + (nI 3)) (gK h 63) <|
  LQ d 373 [some (.ref 63), some (.ref 100), some (.ref 189), some (.ref 295), some (.int x4), u5, u6, u7] [.int (gA h 63 (ix (x4 + (nI 3)))), .int s2, .int s1, .ref 100] h) := by
  exact (blkL (fun p q => wcf_n q) (fun p => Nat.beq p 373) 7 367 rfl _ _ _).trans rfl

set_option maxRecDepth 16384 in
theorem lp_373 {d : Nat} {h : AH} (x4 : Int32) (u5 : Option Value) (u6 : Option Value) (u7 : Option Value) (s1 : Int32) (s2 : Int32) (s3 : Int32) :
    LQ d 373 [some (.ref 63), some (.ref 100), some (.ref 189), some (.ref 295), some (.int x4), u5, u6, u7] [.int s3, .int s2, .int s1, .ref 100] h =
  (ck (gC h 63) 60 <|
  gd (x4 + (nI 4)) (gK h 63) <|
  LQ d 379 [some (.ref 63), some (.ref 100), some (.ref 189), some (.ref 295), some (.int x4), u5, u6, u7] [.int (gA h 63 (ix (x4 + (nI 4)))), .int s3, .int s2, .int s1, .ref 100] h) := by
  exact (blkL (fun p q => wcf_n q) (fun p => Nat.beq p 379) 7 373 rfl _ _ _).trans rfl

set_option maxRecDepth 16384 in
theorem lp_379 {d : Nat} {h : AH} (x4 : Int32) (u5 : Option Value) (u6 : Option Value) (u7 : Option Value) (s1 : Int32) (s2 : Int32) (s3 : Int32) (s4 : Int32) :
    LQ d 379 [some (.ref 63), some (.ref 100), some (.ref 189), some (.ref 295), some (.int x4), u5, u6, u7] [.int s4, .int s3, .int s2, .int s1, .ref 100] h =
  LQ d 380 [some (.ref 63), some (.ref 100), some (.ref 189), some (.ref 295), some (.int x4), u5, u6, u7] [.ref 295, .int s4, .int s3, .int s2, .int s1, .ref 100] h := by
  exact (blkL (fun p q => wcf_n q) (fun p => Nat.beq p 380) 2 379 rfl _ _ _).trans rfl

set_option maxRecDepth 16384 in
theorem lp_383 {d : Nat} {h : AH} (x4 : Int32) (u5 : Option Value) (u6 : Option Value) (u7 : Option Value) (s0 : Int32) :
    LQ d 383 [some (.ref 63), some (.ref 100), some (.ref 189), some (.ref 295), some (.int x4), u5, u6, u7] [.int s0] h =
  (ck (gC h 63) 60 <|
  gd (x4 + (nI 1)) (gK h 63) <|
  LQ d 392 [some (.ref 63), some (.ref 100), some (.ref 189), some (.ref 295), some (.int x4), some (.int s0), u6, u7] [.int (gA h 63 (ix (x4 + (nI 1)))), .ref 189] h) := by
  exact (blkL (fun p q => wcf_n q) (fun p => Nat.beq p 392) 9 383 rfl _ _ _).trans rfl

set_option maxRecDepth 16384 in
theorem lp_392 {d : Nat} {h : AH} (x4 : Int32) (x5 : Int32) (u6 : Option Value) (u7 : Option Value) (s1 : Int32) :
    LQ d 392 [some (.ref 63), some (.ref 100), some (.ref 189), some (.ref 295), some (.int x4), some (.int x5), u6, u7] [.int s1, .ref 189] h =
  (ck (gC h 63) 60 <|
  gd (x4 + (nI 2)) (gK h 63) <|
  LQ d 398 [some (.ref 63), some (.ref 100), some (.ref 189), some (.ref 295), some (.int x4), some (.int x5), u6, u7] [.int (gA h 63 (ix (x4 + (nI 2)))), .int s1, .ref 189] h) := by
  exact (blkL (fun p q => wcf_n q) (fun p => Nat.beq p 398) 7 392 rfl _ _ _).trans rfl

set_option maxRecDepth 16384 in
theorem lp_398 {d : Nat} {h : AH} (x4 : Int32) (x5 : Int32) (u6 : Option Value) (u7 : Option Value) (s1 : Int32) (s2 : Int32) :
    LQ d 398 [some (.ref 63), some (.ref 100), some (.ref 189), some (.ref 295), some (.int x4), some (.int x5), u6, u7] [.int s2, .int s1, .ref 189] h =
  (ck (gC h 63) 60 <|
  gd (x4 + (nI 3)) (gK h 63) <|
  LQ d 404 [some (.ref 63), some (.ref 100), some (.ref 189), some (.ref 295), some (.int x4), some (.int x5), u6, u7] [.int (gA h 63 (ix (x4 + (nI 3)))), .int s2, .int s1, .ref 189] h) := by
  exact (blkL (fun p q => wcf_n q) (fun p => Nat.beq p 404) 7 398 rfl _ _ _).trans rfl

set_option maxRecDepth 16384 in
theorem lp_404 {d : Nat} {h : AH} (x4 : Int32) (x5 : Int32) (u6 : Option Value) (u7 : Option Value) (s1 : Int32) (s2 : Int32) (s3 : Int32) :
    LQ d 404 [some (.ref 63), some (.ref 100), some (.ref 189), some (.ref 295), some (.int x4), some (.int x5), u6, u7] [.int s3, .int s2, .int s1, .ref 189] h =
  (ck (gC h 63) 60 <|
  gd (x4 + (nI 4)) (gK h 63) <|
  LQ d 410 [some (.ref 63), some (.ref 100), some (.ref 189), some (.ref 295), some (.int x4), some (.int x5), u6, u7] [.int (gA h 63 (ix (x4 + (nI 4)))), .int s3, .int s2, .int s1, .ref 189] h) := by
  exact (blkL (fun p q => wcf_n q) (fun p => Nat.beq p 410) 7 404 rfl _ _ _).trans rfl

set_option maxRecDepth 16384 in
theorem lp_410 {d : Nat} {h : AH} (x4 : Int32) (x5 : Int32) (u6 : Option Value) (u7 : Option Value) (s1 : Int32) (s2 : Int32) (s3 : Int32) (s4 : Int32) :
    LQ d 410 [some (.ref 63), some (.ref 100), some (.ref 189), some (.ref 295), some (.int x4), some (.int x5), u6, u7] [.int s4, .int s3, .int s2, .int s1, .ref 189] h =
  (ck (gC h 189) 14 <|
  cK (E (d + 340) 80 [.ref 189, .int s1, .int s2, .int s3, .int s4] h) (LQ d 413 [some (.ref 63), some (.ref 100), some (.ref 189), some (.ref 295), some (.int x4), some (.int x5), u6, u7]) []) := by
  exact (blkL (fun p q => wcf_n q) (fun p => Nat.beq p 413) 2 410 rfl _ _ _).trans rfl

set_option maxRecDepth 16384 in
theorem lp_413 {d : Nat} {h : AH} (x4 : Int32) (x5 : Int32) (u6 : Option Value) (u7 : Option Value) (s0 : Int32) :
    LQ d 413 [some (.ref 63), some (.ref 100), some (.ref 189), some (.ref 295), some (.int x4), some (.int x5), u6, u7] [.int s0] h =
  (ck (gC h 189) 14 <|
  cK (E (d + 340) 29 [.ref 189] h) (LQ d 419 [some (.ref 63), some (.ref 100), some (.ref 189), some (.ref 295), some (.int x4), some (.int x5), some (.int s0), u7]) []) := by
  exact (blkL (fun p q => wcf_n q) (fun p => Nat.beq p 419) 4 413 rfl _ _ _).trans rfl

set_option maxRecDepth 16384 in
theorem lp_419 {d : Nat} {h : AH} (x4 : Int32) (x5 : Int32) (x6 : Int32) (u7 : Option Value) (s0 : Int32) :
    LQ d 419 [some (.ref 63), some (.ref 100), some (.ref 189), some (.ref 295), some (.int x4), some (.int x5), some (.int x6), u7] [.int s0] h =
  if s0 = x5 then
   if x5 = nI 0 then
    ck (gC h 295) 61 <|
    gd (nI 0) (gK h 295) <|
    if lg_cmp (gB h 295 0) x6.toInt64 = nI 0 then
     LQ d 1312 [some (.ref 63), some (.ref 100), some (.ref 189), some (.ref 295), some (.int x4), none, none, none] [] h
    else
     some (some (.int (nI 0)), h)
   else
    LQ d 1312 [some (.ref 63), some (.ref 100), some (.ref 189), some (.ref 295), some (.int x4), none, none, none] [] h
  else
   some (some (.int (nI 0)), h) := by
  exact (blkL (fun p q => wcf_n q) (fun p => Nat.beq p 1312) 14 419 rfl _ _ _).trans rfl

set_option maxRecDepth 16384 in
theorem lp_446 {d : Nat} {h : AH} (x4 : Int32) (u5 : Option Value) (u6 : Option Value) (u7 : Option Value) :
    LQ d 446 [some (.ref 63), some (.ref 100), some (.ref 189), some (.ref 295), some (.int x4), u5, u6, u7] [] h =
  (ck (gC h 63) 60 <|
  gd (x4 + (nI 1)) (gK h 63) <|
  LQ d 453 [some (.ref 63), some (.ref 100), some (.ref 189), some (.ref 295), some (.int x4), u5, u6, u7] [.int (gA h 63 (ix (x4 + (nI 1)))), .ref 100] h) := by
  exact (blkL (fun p q => wcf_n q) (fun p => Nat.beq p 453) 8 446 rfl _ _ _).trans rfl

set_option maxRecDepth 16384 in
theorem lp_453 {d : Nat} {h : AH} (x4 : Int32) (u5 : Option Value) (u6 : Option Value) (u7 : Option Value) (s1 : Int32) :
    LQ d 453 [some (.ref 63), some (.ref 100), some (.ref 189), some (.ref 295), some (.int x4), u5, u6, u7] [.int s1, .ref 100] h =
  (ck (gC h 63) 60 <|
  gd (x4 + (nI 2)) (gK h 63) <|
  LQ d 459 [some (.ref 63), some (.ref 100), some (.ref 189), some (.ref 295), some (.int x4), u5, u6, u7] [.int (gA h 63 (ix (x4 + (nI 2)))), .int s1, .ref 100] h) := by
  exact (blkL (fun p q => wcf_n q) (fun p => Nat.beq p 459) 7 453 rfl _ _ _).trans rfl

set_option maxRecDepth 16384 in
theorem lp_459 {d : Nat} {h : AH} (x4 : Int32) (u5 : Option Value) (u6 : Option Value) (u7 : Option Value) (s1 : Int32) (s2 : Int32) :
    LQ d 459 [some (.ref 63), some (.ref 100), some (.ref 189), some (.ref 295), some (.int x4), u5, u6, u7] [.int s2, .int s1, .ref 100] h =
  LQ d 460 [some (.ref 63), some (.ref 100), some (.ref 189), some (.ref 295), some (.int x4), u5, u6, u7] [.ref 295, .int s2, .int s1, .ref 100] h := by
  exact (blkL (fun p q => wcf_n q) (fun p => Nat.beq p 460) 2 459 rfl _ _ _).trans rfl

set_option maxRecDepth 16384 in
theorem lp_463 {d : Nat} {h : AH} (x4 : Int32) (u5 : Option Value) (u6 : Option Value) (u7 : Option Value) (s0 : Int32) :
    LQ d 463 [some (.ref 63), some (.ref 100), some (.ref 189), some (.ref 295), some (.int x4), u5, u6, u7] [.int s0] h =
  (ck (gC h 63) 60 <|
  gd (x4 + (nI 1)) (gK h 63) <|
  LQ d 472 [some (.ref 63), some (.ref 100), some (.ref 189), some (.ref 295), some (.int x4), some (.int s0), u6, u7] [.int (gA h 63 (ix (x4 + (nI 1)))), .ref 189] h) := by
  exact (blkL (fun p q => wcf_n q) (fun p => Nat.beq p 472) 9 463 rfl _ _ _).trans rfl

set_option maxRecDepth 16384 in
theorem lp_472 {d : Nat} {h : AH} (x4 : Int32) (x5 : Int32) (u6 : Option Value) (u7 : Option Value) (s1 : Int32) :
    LQ d 472 [some (.ref 63), some (.ref 100), some (.ref 189), some (.ref 295), some (.int x4), some (.int x5), u6, u7] [.int s1, .ref 189] h =
  (ck (gC h 63) 60 <|
  gd (x4 + (nI 2)) (gK h 63) <|
  LQ d 478 [some (.ref 63), some (.ref 100), some (.ref 189), some (.ref 295), some (.int x4), some (.int x5), u6, u7] [.int (gA h 63 (ix (x4 + (nI 2)))), .int s1, .ref 189] h) := by
  exact (blkL (fun p q => wcf_n q) (fun p => Nat.beq p 478) 7 472 rfl _ _ _).trans rfl

set_option maxRecDepth 16384 in
theorem lp_478 {d : Nat} {h : AH} (x4 : Int32) (x5 : Int32) (u6 : Option Value) (u7 : Option Value) (s1 : Int32) (s2 : Int32) :
    LQ d 478 [some (.ref 63), some (.ref 100), some (.ref 189), some (.ref 295), some (.int x4), some (.int x5), u6, u7] [.int s2, .int s1, .ref 189] h =
  (ck (gC h 189) 14 <|
  cK (E (d + 340) 106 [.ref 189, .int s1, .int s2] h) (LQ d 481 [some (.ref 63), some (.ref 100), some (.ref 189), some (.ref 295), some (.int x4), some (.int x5), u6, u7]) []) := by
  exact (blkL (fun p q => wcf_n q) (fun p => Nat.beq p 481) 2 478 rfl _ _ _).trans rfl

set_option maxRecDepth 16384 in
theorem lp_481 {d : Nat} {h : AH} (x4 : Int32) (x5 : Int32) (u6 : Option Value) (u7 : Option Value) (s0 : Int32) :
    LQ d 481 [some (.ref 63), some (.ref 100), some (.ref 189), some (.ref 295), some (.int x4), some (.int x5), u6, u7] [.int s0] h =
  (ck (gC h 189) 14 <|
  cK (E (d + 340) 29 [.ref 189] h) (LQ d 487 [some (.ref 63), some (.ref 100), some (.ref 189), some (.ref 295), some (.int x4), some (.int x5), some (.int s0), u7]) []) := by
  exact (blkL (fun p q => wcf_n q) (fun p => Nat.beq p 487) 4 481 rfl _ _ _).trans rfl

set_option maxRecDepth 16384 in
theorem lp_487 {d : Nat} {h : AH} (x4 : Int32) (x5 : Int32) (x6 : Int32) (u7 : Option Value) (s0 : Int32) :
    LQ d 487 [some (.ref 63), some (.ref 100), some (.ref 189), some (.ref 295), some (.int x4), some (.int x5), some (.int x6), u7] [.int s0] h =
  if s0 = x5 then
   if x5 = nI 0 then
    ck (gC h 295) 61 <|
    gd (nI 0) (gK h 295) <|
    if lg_cmp (gB h 295 0) x6.toInt64 = nI 0 then
     LQ d 1312 [some (.ref 63), some (.ref 100), some (.ref 189), some (.ref 295), some (.int x4), none, none, none] [] h
    else
     some (some (.int (nI 0)), h)
   else
    LQ d 1312 [some (.ref 63), some (.ref 100), some (.ref 189), some (.ref 295), some (.int x4), none, none, none] [] h
  else
   some (some (.int (nI 0)), h) := by
  exact (blkL (fun p q => wcf_n q) (fun p => Nat.beq p 1312) 14 487 rfl _ _ _).trans rfl

set_option maxRecDepth 16384 in
theorem lp_514 {d : Nat} {h : AH} (x4 : Int32) (u5 : Option Value) (u6 : Option Value) (u7 : Option Value) :
    LQ d 514 [some (.ref 63), some (.ref 100), some (.ref 189), some (.ref 295), some (.int x4), u5, u6, u7] [] h =
  (ck (gC h 63) 60 <|
  gd (x4 + (nI 1)) (gK h 63) <|
  LQ d 521 [some (.ref 63), some (.ref 100), some (.ref 189), some (.ref 295), some (.int x4), u5, u6, u7] [.int (gA h 63 (ix (x4 + (nI 1)))), .ref 100] h) := by
  exact (blkL (fun p q => wcf_n q) (fun p => Nat.beq p 521) 8 514 rfl _ _ _).trans rfl

set_option maxRecDepth 16384 in
theorem lp_521 {d : Nat} {h : AH} (x4 : Int32) (u5 : Option Value) (u6 : Option Value) (u7 : Option Value) (s1 : Int32) :
    LQ d 521 [some (.ref 63), some (.ref 100), some (.ref 189), some (.ref 295), some (.int x4), u5, u6, u7] [.int s1, .ref 100] h =
  (ck (gC h 63) 60 <|
  gd (x4 + (nI 2)) (gK h 63) <|
  LQ d 527 [some (.ref 63), some (.ref 100), some (.ref 189), some (.ref 295), some (.int x4), u5, u6, u7] [.int (gA h 63 (ix (x4 + (nI 2)))), .int s1, .ref 100] h) := by
  exact (blkL (fun p q => wcf_n q) (fun p => Nat.beq p 527) 7 521 rfl _ _ _).trans rfl

set_option maxRecDepth 16384 in
theorem lp_527 {d : Nat} {h : AH} (x4 : Int32) (u5 : Option Value) (u6 : Option Value) (u7 : Option Value) (s1 : Int32) (s2 : Int32) :
    LQ d 527 [some (.ref 63), some (.ref 100), some (.ref 189), some (.ref 295), some (.int x4), u5, u6, u7] [.int s2, .int s1, .ref 100] h =
  (ck (gC h 63) 60 <|
  gd (x4 + (nI 3)) (gK h 63) <|
  LQ d 533 [some (.ref 63), some (.ref 100), some (.ref 189), some (.ref 295), some (.int x4), u5, u6, u7] [.int (gA h 63 (ix (x4 + (nI 3)))), .int s2, .int s1, .ref 100] h) := by
  exact (blkL (fun p q => wcf_n q) (fun p => Nat.beq p 533) 7 527 rfl _ _ _).trans rfl

set_option maxRecDepth 16384 in
theorem lp_533 {d : Nat} {h : AH} (x4 : Int32) (u5 : Option Value) (u6 : Option Value) (u7 : Option Value) (s1 : Int32) (s2 : Int32) (s3 : Int32) :
    LQ d 533 [some (.ref 63), some (.ref 100), some (.ref 189), some (.ref 295), some (.int x4), u5, u6, u7] [.int s3, .int s2, .int s1, .ref 100] h =
  LQ d 534 [some (.ref 63), some (.ref 100), some (.ref 189), some (.ref 295), some (.int x4), u5, u6, u7] [.ref 295, .int s3, .int s2, .int s1, .ref 100] h := by
  exact (blkL (fun p q => wcf_n q) (fun p => Nat.beq p 534) 2 533 rfl _ _ _).trans rfl

set_option maxRecDepth 16384 in
theorem lp_537 {d : Nat} {h : AH} (x4 : Int32) (u5 : Option Value) (u6 : Option Value) (u7 : Option Value) (s0 : Int32) :
    LQ d 537 [some (.ref 63), some (.ref 100), some (.ref 189), some (.ref 295), some (.int x4), u5, u6, u7] [.int s0] h =
  (ck (gC h 63) 60 <|
  gd (x4 + (nI 1)) (gK h 63) <|
  LQ d 546 [some (.ref 63), some (.ref 100), some (.ref 189), some (.ref 295), some (.int x4), some (.int s0), u6, u7] [.int (gA h 63 (ix (x4 + (nI 1)))), .ref 189] h) := by
  exact (blkL (fun p q => wcf_n q) (fun p => Nat.beq p 546) 9 537 rfl _ _ _).trans rfl

set_option maxRecDepth 16384 in
theorem lp_546 {d : Nat} {h : AH} (x4 : Int32) (x5 : Int32) (u6 : Option Value) (u7 : Option Value) (s1 : Int32) :
    LQ d 546 [some (.ref 63), some (.ref 100), some (.ref 189), some (.ref 295), some (.int x4), some (.int x5), u6, u7] [.int s1, .ref 189] h =
  (ck (gC h 63) 60 <|
  gd (x4 + (nI 2)) (gK h 63) <|
  LQ d 552 [some (.ref 63), some (.ref 100), some (.ref 189), some (.ref 295), some (.int x4), some (.int x5), u6, u7] [.int (gA h 63 (ix (x4 + (nI 2)))), .int s1, .ref 189] h) := by
  exact (blkL (fun p q => wcf_n q) (fun p => Nat.beq p 552) 7 546 rfl _ _ _).trans rfl

set_option maxRecDepth 16384 in
theorem lp_552 {d : Nat} {h : AH} (x4 : Int32) (x5 : Int32) (u6 : Option Value) (u7 : Option Value) (s1 : Int32) (s2 : Int32) :
    LQ d 552 [some (.ref 63), some (.ref 100), some (.ref 189), some (.ref 295), some (.int x4), some (.int x5), u6, u7] [.int s2, .int s1, .ref 189] h =
  (ck (gC h 63) 60 <|
  gd (x4 + (nI 3)) (gK h 63) <|
  LQ d 558 [some (.ref 63), some (.ref 100), some (.ref 189), some (.ref 295), some (.int x4), some (.int x5), u6, u7] [.int (gA h 63 (ix (x4 + (nI 3)))), .int s2, .int s1, .ref 189] h) := by
  exact (blkL (fun p q => wcf_n q) (fun p => Nat.beq p 558) 7 552 rfl _ _ _).trans rfl

set_option maxRecDepth 16384 in
theorem lp_558 {d : Nat} {h : AH} (x4 : Int32) (x5 : Int32) (u6 : Option Value) (u7 : Option Value) (s1 : Int32) (s2 : Int32) (s3 : Int32) :
    LQ d 558 [some (.ref 63), some (.ref 100), some (.ref 189), some (.ref 295), some (.int x4), some (.int x5), u6, u7] [.int s3, .int s2, .int s1, .ref 189] h =
  (ck (gC h 189) 14 <|
  cK (E (d + 340) 97 [.ref 189, .int s1, .int s2, .int s3] h) (LQ d 561 [some (.ref 63), some (.ref 100), some (.ref 189), some (.ref 295), some (.int x4), some (.int x5), u6, u7]) []) := by
  exact (blkL (fun p q => wcf_n q) (fun p => Nat.beq p 561) 2 558 rfl _ _ _).trans rfl

set_option maxRecDepth 16384 in
theorem lp_561 {d : Nat} {h : AH} (x4 : Int32) (x5 : Int32) (u6 : Option Value) (u7 : Option Value) (s0 : Int32) :
    LQ d 561 [some (.ref 63), some (.ref 100), some (.ref 189), some (.ref 295), some (.int x4), some (.int x5), u6, u7] [.int s0] h =
  (ck (gC h 189) 14 <|
  cK (E (d + 340) 29 [.ref 189] h) (LQ d 567 [some (.ref 63), some (.ref 100), some (.ref 189), some (.ref 295), some (.int x4), some (.int x5), some (.int s0), u7]) []) := by
  exact (blkL (fun p q => wcf_n q) (fun p => Nat.beq p 567) 4 561 rfl _ _ _).trans rfl

set_option maxRecDepth 16384 in
theorem lp_567 {d : Nat} {h : AH} (x4 : Int32) (x5 : Int32) (x6 : Int32) (u7 : Option Value) (s0 : Int32) :
    LQ d 567 [some (.ref 63), some (.ref 100), some (.ref 189), some (.ref 295), some (.int x4), some (.int x5), some (.int x6), u7] [.int s0] h =
  if s0 = x5 then
   if x5 = nI 0 then
    ck (gC h 295) 61 <|
    gd (nI 0) (gK h 295) <|
    if lg_cmp (gB h 295 0) x6.toInt64 = nI 0 then
     LQ d 1312 [some (.ref 63), some (.ref 100), some (.ref 189), some (.ref 295), some (.int x4), none, none, none] [] h
    else
     some (some (.int (nI 0)), h)
   else
    LQ d 1312 [some (.ref 63), some (.ref 100), some (.ref 189), some (.ref 295), some (.int x4), none, none, none] [] h
  else
   some (some (.int (nI 0)), h) := by
  exact (blkL (fun p q => wcf_n q) (fun p => Nat.beq p 1312) 14 567 rfl _ _ _).trans rfl

set_option maxRecDepth 16384 in
theorem lp_594 {d : Nat} {h : AH} (x4 : Int32) (u5 : Option Value) (u6 : Option Value) (u7 : Option Value) :
    LQ d 594 [some (.ref 63), some (.ref 100), some (.ref 189), some (.ref 295), some (.int x4), u5, u6, u7] [] h =
  (ck (gC h 63) 60 <|
  gd (x4 + (nI 1)) (gK h 63) <|
  LQ d 601 [some (.ref 63), some (.ref 100), some (.ref 189), some (.ref 295), some (.int x4), u5, u6, u7] [.int (gA h 63 (ix (x4 + (nI 1)))), .ref 100] h) := by
  exact (blkL (fun p q => wcf_n q) (fun p => Nat.beq p 601) 8 594 rfl _ _ _).trans rfl

set_option maxRecDepth 16384 in
theorem lp_601 {d : Nat} {h : AH} (x4 : Int32) (u5 : Option Value) (u6 : Option Value) (u7 : Option Value) (s1 : Int32) :
    LQ d 601 [some (.ref 63), some (.ref 100), some (.ref 189), some (.ref 295), some (.int x4), u5, u6, u7] [.int s1, .ref 100] h =
  (ck (gC h 63) 60 <|
  gd (x4 + (nI 2)) (gK h 63) <|
  LQ d 607 [some (.ref 63), some (.ref 100), some (.ref 189), some (.ref 295), some (.int x4), u5, u6, u7] [.int (gA h 63 (ix (x4 + (nI 2)))), .int s1, .ref 100] h) := by
  exact (blkL (fun p q => wcf_n q) (fun p => Nat.beq p 607) 7 601 rfl _ _ _).trans rfl

set_option maxRecDepth 16384 in
theorem lp_607 {d : Nat} {h : AH} (x4 : Int32) (u5 : Option Value) (u6 : Option Value) (u7 : Option Value) (s1 : Int32) (s2 : Int32) :
    LQ d 607 [some (.ref 63), some (.ref 100), some (.ref 189), some (.ref 295), some (.int x4), u5, u6, u7] [.int s2, .int s1, .ref 100] h =
  LQ d 608 [some (.ref 63), some (.ref 100), some (.ref 189), some (.ref 295), some (.int x4), u5, u6, u7] [.ref 295, .int s2, .int s1, .ref 100] h := by
  exact (blkL (fun p q => wcf_n q) (fun p => Nat.beq p 608) 2 607 rfl _ _ _).trans rfl

set_option maxRecDepth 16384 in
theorem lp_611 {d : Nat} {h : AH} (x4 : Int32) (u5 : Option Value) (u6 : Option Value) (u7 : Option Value) (s0 : Int32) :
    LQ d 611 [some (.ref 63), some (.ref 100), some (.ref 189), some (.ref 295), some (.int x4), u5, u6, u7] [.int s0] h =
  (ck (gC h 63) 60 <|
  gd (x4 + (nI 1)) (gK h 63) <|
  LQ d 620 [some (.ref 63), some (.ref 100), some (.ref 189), some (.ref 295), some (.int x4), some (.int s0), u6, u7] [.int (gA h 63 (ix (x4 + (nI 1)))), .ref 189] h) := by
  exact (blkL (fun p q => wcf_n q) (fun p => Nat.beq p 620) 9 611 rfl _ _ _).trans rfl

set_option maxRecDepth 16384 in
theorem lp_620 {d : Nat} {h : AH} (x4 : Int32) (x5 : Int32) (u6 : Option Value) (u7 : Option Value) (s1 : Int32) :
    LQ d 620 [some (.ref 63), some (.ref 100), some (.ref 189), some (.ref 295), some (.int x4), some (.int x5), u6, u7] [.int s1, .ref 189] h =
  (ck (gC h 63) 60 <|
  gd (x4 + (nI 2)) (gK h 63) <|
  LQ d 626 [some (.ref 63), some (.ref 100), some (.ref 189), some (.ref 295), some (.int x4), some (.int x5), u6, u7] [.int (gA h 63 (ix (x4 + (nI 2)))), .int s1, .ref 189] h) := by
  exact (blkL (fun p q => wcf_n q) (fun p => Nat.beq p 626) 7 620 rfl _ _ _).trans rfl

set_option maxRecDepth 16384 in
theorem lp_626 {d : Nat} {h : AH} (x4 : Int32) (x5 : Int32) (u6 : Option Value) (u7 : Option Value) (s1 : Int32) (s2 : Int32) :
    LQ d 626 [some (.ref 63), some (.ref 100), some (.ref 189), some (.ref 295), some (.int x4), some (.int x5), u6, u7] [.int s2, .int s1, .ref 189] h =
  (ck (gC h 189) 14 <|
  cK (E (d + 340) 86 [.ref 189, .int s1, .int s2] h) (LQ d 629 [some (.ref 63), some (.ref 100), some (.ref 189), some (.ref 295), some (.int x4), some (.int x5), u6, u7]) []) := by
  exact (blkL (fun p q => wcf_n q) (fun p => Nat.beq p 629) 2 626 rfl _ _ _).trans rfl

set_option maxRecDepth 16384 in
theorem lp_629 {d : Nat} {h : AH} (x4 : Int32) (x5 : Int32) (u6 : Option Value) (u7 : Option Value) (s0 : Int32) :
    LQ d 629 [some (.ref 63), some (.ref 100), some (.ref 189), some (.ref 295), some (.int x4), some (.int x5), u6, u7] [.int s0] h =
  (ck (gC h 189) 14 <|
  cK (E (d + 340) 29 [.ref 189] h) (LQ d 635 [some (.ref 63), some (.ref 100), some (.ref 189), some (.ref 295), some (.int x4), some (.int x5), some (.int s0), u7]) []) := by
  exact (blkL (fun p q => wcf_n q) (fun p => Nat.beq p 635) 4 629 rfl _ _ _).trans rfl

set_option maxRecDepth 16384 in
theorem lp_635 {d : Nat} {h : AH} (x4 : Int32) (x5 : Int32) (x6 : Int32) (u7 : Option Value) (s0 : Int32) :
    LQ d 635 [some (.ref 63), some (.ref 100), some (.ref 189), some (.ref 295), some (.int x4), some (.int x5), some (.int x6), u7] [.int s0] h =
  if s0 = x5 then
   if x5 = nI 0 then
    ck (gC h 295) 61 <|
    gd (nI 0) (gK h 295) <|
    if lg_cmp (gB h 295 0) x6.toInt64 = nI 0 then
     LQ d 1312 [some (.ref 63), some (.ref 100), some (.ref 189), some (.ref 295), some (.int x4), none, none, none] [] h
    else
     some (some (.int (nI 0)), h)
   else
    LQ d 1312 [some (.ref 63), some (.ref 100), some (.ref 189), some (.ref 295), some (.int x4), none, none, none] [] h
  else
   some (some (.int (nI 0)), h) := by
  exact (blkL (fun p q => wcf_n q) (fun p => Nat.beq p 1312) 14 635 rfl _ _ _).trans rfl

set_option maxRecDepth 16384 in
theorem lp_662 {d : Nat} {h : AH} (x4 : Int32) (u5 : Option Value) (u6 : Option Value) (u7 : Option Value) :
    LQ d 662 [some (.ref 63), some (.ref 100), some (.ref 189), some (.ref 295), some (.int x4), u5, u6, u7] [] h =
  (ck (gC h 100) 13 <|
  cK (E (d + 340) 7 [.ref 100] h) (LQ d 666 [some (.ref 63), some (.ref 100), some (.ref 189), some (.ref 295), some (.int x4), u5, u6, u7]) []) := by
  exact (blkL (fun p q => wcf_n q) (fun p => Nat.beq p 666) 3 662 rfl _ _ _).trans rfl

set_option maxRecDepth 16384 in
theorem lp_666 {d : Nat} {h : AH} (x4 : Int32) (u5 : Option Value) (u6 : Option Value) (u7 : Option Value) (s0 : Int32) :
    LQ d 666 [some (.ref 63), some (.ref 100), some (.ref 189), some (.ref 295), some (.int x4), u5, u6, u7] [.int s0] h =
  (ck (gC h 189) 14 <|
  cK (E (d + 340) 92 [.ref 189] h) (LQ d 670 [some (.ref 63), some (.ref 100), some (.ref 189), some (.ref 295), some (.int x4), u5, u6, u7]) [.int s0]) := by
  exact (blkL (fun p q => wcf_n q) (fun p => Nat.beq p 670) 3 666 rfl _ _ _).trans rfl

set_option maxRecDepth 16384 in
theorem lp_670 {d : Nat} {h : AH} (x4 : Int32) (u5 : Option Value) (u6 : Option Value) (u7 : Option Value) (s0 : Int32) (s1 : Int32) :
    LQ d 670 [some (.ref 63), some (.ref 100), some (.ref 189), some (.ref 295), some (.int x4), u5, u6, u7] [.int s1, .int s0] h =
  if s0 = s1 then
   LQ d 1312 [some (.ref 63), some (.ref 100), some (.ref 189), some (.ref 295), some (.int x4), none, none, none] [] h
  else
   some (some (.int (nI 0)), h) := by
  exact (blkL (fun p q => wcf_n q) (fun p => Nat.beq p 1312) 4 670 rfl _ _ _).trans rfl

set_option maxRecDepth 16384 in
theorem lp_675 {d : Nat} {h : AH} (x4 : Int32) (u5 : Option Value) (u6 : Option Value) (u7 : Option Value) :
    LQ d 675 [some (.ref 63), some (.ref 100), some (.ref 189), some (.ref 295), some (.int x4), u5, u6, u7] [] h =
  (ck (gC h 100) 13 <|
  cK (E (d + 340) 8 [.ref 100] h) (LQ d 679 [some (.ref 63), some (.ref 100), some (.ref 189), some (.ref 295), some (.int x4), u5, u6, u7]) []) := by
  exact (blkL (fun p q => wcf_n q) (fun p => Nat.beq p 679) 3 675 rfl _ _ _).trans rfl

set_option maxRecDepth 16384 in
theorem lp_679 {d : Nat} {h : AH} (x4 : Int32) (u5 : Option Value) (u6 : Option Value) (u7 : Option Value) (s0 : Int32) :
    LQ d 679 [some (.ref 63), some (.ref 100), some (.ref 189), some (.ref 295), some (.int x4), u5, u6, u7] [.int s0] h =
  (ck (gC h 189) 14 <|
  cK (E (d + 340) 96 [.ref 189] h) (LQ d 683 [some (.ref 63), some (.ref 100), some (.ref 189), some (.ref 295), some (.int x4), u5, u6, u7]) [.int s0]) := by
  exact (blkL (fun p q => wcf_n q) (fun p => Nat.beq p 683) 3 679 rfl _ _ _).trans rfl

set_option maxRecDepth 16384 in
theorem lp_683 {d : Nat} {h : AH} (x4 : Int32) (u5 : Option Value) (u6 : Option Value) (u7 : Option Value) (s0 : Int32) (s1 : Int32) :
    LQ d 683 [some (.ref 63), some (.ref 100), some (.ref 189), some (.ref 295), some (.int x4), u5, u6, u7] [.int s1, .int s0] h =
  if s0 = s1 then
   LQ d 1312 [some (.ref 63), some (.ref 100), some (.ref 189), some (.ref 295), some (.int x4), none, none, none] [] h
  else
   some (some (.int (nI 0)), h) := by
  exact (blkL (fun p q => wcf_n q) (fun p => Nat.beq p 1312) 4 683 rfl _ _ _).trans rfl

set_option maxRecDepth 16384 in
theorem lp_688 {d : Nat} {h : AH} (x4 : Int32) (u5 : Option Value) (u6 : Option Value) (u7 : Option Value) :
    LQ d 688 [some (.ref 63), some (.ref 100), some (.ref 189), some (.ref 295), some (.int x4), u5, u6, u7] [] h =
  (ck (gC h 63) 60 <|
  gd (x4 + (nI 1)) (gK h 63) <|
  LQ d 695 [some (.ref 63), some (.ref 100), some (.ref 189), some (.ref 295), some (.int x4), u5, u6, u7] [.int (gA h 63 (ix (x4 + (nI 1)))), .ref 100] h) := by
  exact (blkL (fun p q => wcf_n q) (fun p => Nat.beq p 695) 8 688 rfl _ _ _).trans rfl

set_option maxRecDepth 16384 in
theorem lp_695 {d : Nat} {h : AH} (x4 : Int32) (u5 : Option Value) (u6 : Option Value) (u7 : Option Value) (s1 : Int32) :
    LQ d 695 [some (.ref 63), some (.ref 100), some (.ref 189), some (.ref 295), some (.int x4), u5, u6, u7] [.int s1, .ref 100] h =
  (ck (gC h 100) 13 <|
  cK (E (d + 340) 9 [.ref 100, .int s1] h) (LQ d 698 [some (.ref 63), some (.ref 100), some (.ref 189), some (.ref 295), some (.int x4), u5, u6, u7]) []) := by
  exact (blkL (fun p q => wcf_n q) (fun p => Nat.beq p 698) 2 695 rfl _ _ _).trans rfl

set_option maxRecDepth 16384 in
theorem lp_698 {d : Nat} {h : AH} (x4 : Int32) (u5 : Option Value) (u6 : Option Value) (u7 : Option Value) (s0 : Int32) :
    LQ d 698 [some (.ref 63), some (.ref 100), some (.ref 189), some (.ref 295), some (.int x4), u5, u6, u7] [.int s0] h =
  (ck (gC h 63) 60 <|
  gd (x4 + (nI 1)) (gK h 63) <|
  LQ d 705 [some (.ref 63), some (.ref 100), some (.ref 189), some (.ref 295), some (.int x4), u5, u6, u7] [.int (gA h 63 (ix (x4 + (nI 1)))), .ref 189, .int s0] h) := by
  exact (blkL (fun p q => wcf_n q) (fun p => Nat.beq p 705) 8 698 rfl _ _ _).trans rfl

set_option maxRecDepth 16384 in
theorem lp_705 {d : Nat} {h : AH} (x4 : Int32) (u5 : Option Value) (u6 : Option Value) (u7 : Option Value) (s0 : Int32) (s2 : Int32) :
    LQ d 705 [some (.ref 63), some (.ref 100), some (.ref 189), some (.ref 295), some (.int x4), u5, u6, u7] [.int s2, .ref 189, .int s0] h =
  (ck (gC h 189) 14 <|
  cK (E (d + 340) 102 [.ref 189, .int s2] h) (LQ d 708 [some (.ref 63), some (.ref 100), some (.ref 189), some (.ref 295), some (.int x4), u5, u6, u7]) [.int s0]) := by
  exact (blkL (fun p q => wcf_n q) (fun p => Nat.beq p 708) 2 705 rfl _ _ _).trans rfl

set_option maxRecDepth 16384 in
theorem lp_708 {d : Nat} {h : AH} (x4 : Int32) (u5 : Option Value) (u6 : Option Value) (u7 : Option Value) (s0 : Int32) (s1 : Int32) :
    LQ d 708 [some (.ref 63), some (.ref 100), some (.ref 189), some (.ref 295), some (.int x4), u5, u6, u7] [.int s1, .int s0] h =
  if s0 = s1 then
   LQ d 1312 [some (.ref 63), some (.ref 100), some (.ref 189), some (.ref 295), some (.int x4), none, none, none] [] h
  else
   some (some (.int (nI 0)), h) := by
  exact (blkL (fun p q => wcf_n q) (fun p => Nat.beq p 1312) 4 708 rfl _ _ _).trans rfl

set_option maxRecDepth 16384 in
theorem lp_713 {d : Nat} {h : AH} (x4 : Int32) (u5 : Option Value) (u6 : Option Value) (u7 : Option Value) :
    LQ d 713 [some (.ref 63), some (.ref 100), some (.ref 189), some (.ref 295), some (.int x4), u5, u6, u7] [] h =
  (ck (gC h 63) 60 <|
  gd (x4 + (nI 1)) (gK h 63) <|
  LQ d 720 [some (.ref 63), some (.ref 100), some (.ref 189), some (.ref 295), some (.int x4), u5, u6, u7] [.int (gA h 63 (ix (x4 + (nI 1)))), .ref 100] h) := by
  exact (blkL (fun p q => wcf_n q) (fun p => Nat.beq p 720) 8 713 rfl _ _ _).trans rfl

set_option maxRecDepth 16384 in
theorem lp_720 {d : Nat} {h : AH} (x4 : Int32) (u5 : Option Value) (u6 : Option Value) (u7 : Option Value) (s1 : Int32) :
    LQ d 720 [some (.ref 63), some (.ref 100), some (.ref 189), some (.ref 295), some (.int x4), u5, u6, u7] [.int s1, .ref 100] h =
  (ck (gC h 100) 13 <|
  cK (E (d + 340) 10 [.ref 100, .int s1] h) (LQ d 723 [some (.ref 63), some (.ref 100), some (.ref 189), some (.ref 295), some (.int x4), u5, u6, u7]) []) := by
  exact (blkL (fun p q => wcf_n q) (fun p => Nat.beq p 723) 2 720 rfl _ _ _).trans rfl

set_option maxRecDepth 16384 in
theorem lp_723 {d : Nat} {h : AH} (x4 : Int32) (u5 : Option Value) (u6 : Option Value) (u7 : Option Value) (s0 : Int32) :
    LQ d 723 [some (.ref 63), some (.ref 100), some (.ref 189), some (.ref 295), some (.int x4), u5, u6, u7] [.int s0] h =
  (ck (gC h 63) 60 <|
  gd (x4 + (nI 1)) (gK h 63) <|
  LQ d 730 [some (.ref 63), some (.ref 100), some (.ref 189), some (.ref 295), some (.int x4), u5, u6, u7] [.int (gA h 63 (ix (x4 + (nI 1)))), .ref 189, .int s0] h) := by
  exact (blkL (fun p q => wcf_n q) (fun p => Nat.beq p 730) 8 723 rfl _ _ _).trans rfl

set_option maxRecDepth 16384 in
theorem lp_730 {d : Nat} {h : AH} (x4 : Int32) (u5 : Option Value) (u6 : Option Value) (u7 : Option Value) (s0 : Int32) (s2 : Int32) :
    LQ d 730 [some (.ref 63), some (.ref 100), some (.ref 189), some (.ref 295), some (.int x4), u5, u6, u7] [.int s2, .ref 189, .int s0] h =
  (ck (gC h 189) 14 <|
  cK (E (d + 340) 109 [.ref 189, .int s2] h) (LQ d 733 [some (.ref 63), some (.ref 100), some (.ref 189), some (.ref 295), some (.int x4), u5, u6, u7]) [.int s0]) := by
  exact (blkL (fun p q => wcf_n q) (fun p => Nat.beq p 733) 2 730 rfl _ _ _).trans rfl

set_option maxRecDepth 16384 in
theorem lp_733 {d : Nat} {h : AH} (x4 : Int32) (u5 : Option Value) (u6 : Option Value) (u7 : Option Value) (s0 : Int32) (s1 : Int32) :
    LQ d 733 [some (.ref 63), some (.ref 100), some (.ref 189), some (.ref 295), some (.int x4), u5, u6, u7] [.int s1, .int s0] h =
  if s0 = s1 then
   LQ d 1312 [some (.ref 63), some (.ref 100), some (.ref 189), some (.ref 295), some (.int x4), none, none, none] [] h
  else
   some (some (.int (nI 0)), h) := by
  exact (blkL (fun p q => wcf_n q) (fun p => Nat.beq p 1312) 4 733 rfl _ _ _).trans rfl

set_option maxRecDepth 16384 in
theorem lp_738 {d : Nat} {h : AH} (x4 : Int32) (u5 : Option Value) (u6 : Option Value) (u7 : Option Value) :
    LQ d 738 [some (.ref 63), some (.ref 100), some (.ref 189), some (.ref 295), some (.int x4), u5, u6, u7] [] h =
  (ck (gC h 63) 60 <|
  gd (x4 + (nI 1)) (gK h 63) <|
  LQ d 745 [some (.ref 63), some (.ref 100), some (.ref 189), some (.ref 295), some (.int x4), u5, u6, u7] [.int (gA h 63 (ix (x4 + (nI 1)))), .ref 100] h) := by
  exact (blkL (fun p q => wcf_n q) (fun p => Nat.beq p 745) 8 738 rfl _ _ _).trans rfl

set_option maxRecDepth 16384 in
theorem lp_745 {d : Nat} {h : AH} (x4 : Int32) (u5 : Option Value) (u6 : Option Value) (u7 : Option Value) (s1 : Int32) :
    LQ d 745 [some (.ref 63), some (.ref 100), some (.ref 189), some (.ref 295), some (.int x4), u5, u6, u7] [.int s1, .ref 100] h =
  (ck (gC h 63) 60 <|
  gd (x4 + (nI 2)) (gK h 63) <|
  LQ d 751 [some (.ref 63), some (.ref 100), some (.ref 189), some (.ref 295), some (.int x4), u5, u6, u7] [.int (gA h 63 (ix (x4 + (nI 2)))), .int s1, .ref 100] h) := by
  exact (blkL (fun p q => wcf_n q) (fun p => Nat.beq p 751) 7 745 rfl _ _ _).trans rfl

set_option maxRecDepth 16384 in
theorem lp_751 {d : Nat} {h : AH} (x4 : Int32) (u5 : Option Value) (u6 : Option Value) (u7 : Option Value) (s1 : Int32) (s2 : Int32) :
    LQ d 751 [some (.ref 63), some (.ref 100), some (.ref 189), some (.ref 295), some (.int x4), u5, u6, u7] [.int s2, .int s1, .ref 100] h =
  (ck (gC h 100) 13 <|
  cK (E (d + 340) 11 [.ref 100, .int s1, .int s2] h) (LQ d 754 [some (.ref 63), some (.ref 100), some (.ref 189), some (.ref 295), some (.int x4), u5, u6, u7]) []) := by
  exact (blkL (fun p q => wcf_n q) (fun p => Nat.beq p 754) 2 751 rfl _ _ _).trans rfl

set_option maxRecDepth 16384 in
theorem lp_754 {d : Nat} {h : AH} (x4 : Int32) (u5 : Option Value) (u6 : Option Value) (u7 : Option Value) (s0 : Int32) :
    LQ d 754 [some (.ref 63), some (.ref 100), some (.ref 189), some (.ref 295), some (.int x4), u5, u6, u7] [.int s0] h =
  (ck (gC h 63) 60 <|
  gd (x4 + (nI 1)) (gK h 63) <|
  LQ d 761 [some (.ref 63), some (.ref 100), some (.ref 189), some (.ref 295), some (.int x4), u5, u6, u7] [.int (gA h 63 (ix (x4 + (nI 1)))), .ref 189, .int s0] h) := by
  exact (blkL (fun p q => wcf_n q) (fun p => Nat.beq p 761) 8 754 rfl _ _ _).trans rfl

set_option maxRecDepth 16384 in
theorem lp_761 {d : Nat} {h : AH} (x4 : Int32) (u5 : Option Value) (u6 : Option Value) (u7 : Option Value) (s0 : Int32) (s2 : Int32) :
    LQ d 761 [some (.ref 63), some (.ref 100), some (.ref 189), some (.ref 295), some (.int x4), u5, u6, u7] [.int s2, .ref 189, .int s0] h =
  (ck (gC h 63) 60 <|
  gd (x4 + (nI 2)) (gK h 63) <|
  LQ d 767 [some (.ref 63), some (.ref 100), some (.ref 189), some (.ref 295), some (.int x4), u5, u6, u7] [.int (gA h 63 (ix (x4 + (nI 2)))), .int s2, .ref 189, .int s0] h) := by
  exact (blkL (fun p q => wcf_n q) (fun p => Nat.beq p 767) 7 761 rfl _ _ _).trans rfl

set_option maxRecDepth 16384 in
theorem lp_767 {d : Nat} {h : AH} (x4 : Int32) (u5 : Option Value) (u6 : Option Value) (u7 : Option Value) (s0 : Int32) (s2 : Int32) (s3 : Int32) :
    LQ d 767 [some (.ref 63), some (.ref 100), some (.ref 189), some (.ref 295), some (.int x4), u5, u6, u7] [.int s3, .int s2, .ref 189, .int s0] h =
  (ck (gC h 189) 14 <|
  cK (E (d + 340) 118 [.ref 189, .int s2, .int s3] h) (LQ d 770 [some (.ref 63), some (.ref 100), some (.ref 189), some (.ref 295), some (.int x4), u5, u6, u7]) [.int s0]) := by
  exact (blkL (fun p q => wcf_n q) (fun p => Nat.beq p 770) 2 767 rfl _ _ _).trans rfl

set_option maxRecDepth 16384 in
theorem lp_770 {d : Nat} {h : AH} (x4 : Int32) (u5 : Option Value) (u6 : Option Value) (u7 : Option Value) (s0 : Int32) (s1 : Int32) :
    LQ d 770 [some (.ref 63), some (.ref 100), some (.ref 189), some (.ref 295), some (.int x4), u5, u6, u7] [.int s1, .int s0] h =
  if s0 = s1 then
   LQ d 1312 [some (.ref 63), some (.ref 100), some (.ref 189), some (.ref 295), some (.int x4), none, none, none] [] h
  else
   some (some (.int (nI 0)), h) := by
  exact (blkL (fun p q => wcf_n q) (fun p => Nat.beq p 1312) 4 770 rfl _ _ _).trans rfl

set_option maxRecDepth 16384 in
theorem lp_775 {d : Nat} {h : AH} (x4 : Int32) (u5 : Option Value) (u6 : Option Value) (u7 : Option Value) :
    LQ d 775 [some (.ref 63), some (.ref 100), some (.ref 189), some (.ref 295), some (.int x4), u5, u6, u7] [] h =
  (ck (gC h 63) 60 <|
  gd (x4 + (nI 1)) (gK h 63) <|
  LQ d 782 [some (.ref 63), some (.ref 100), some (.ref 189), some (.ref 295), some (.int x4), u5, u6, u7] [.int (gA h 63 (ix (x4 + (nI 1)))), .ref 100] h) := by
  exact (blkL (fun p q => wcf_n q) (fun p => Nat.beq p 782) 8 775 rfl _ _ _).trans rfl

set_option maxRecDepth 16384 in
theorem lp_782 {d : Nat} {h : AH} (x4 : Int32) (u5 : Option Value) (u6 : Option Value) (u7 : Option Value) (s1 : Int32) :
    LQ d 782 [some (.ref 63), some (.ref 100), some (.ref 189), some (.ref 295), some (.int x4), u5, u6, u7] [.int s1, .ref 100] h =
  (ck (gC h 63) 60 <|
  gd (x4 + (nI 2)) (gK h 63) <|
  LQ d 788 [some (.ref 63), some (.ref 100), some (.ref 189), some (.ref 295), some (.int x4), u5, u6, u7] [.int (gA h 63 (ix (x4 + (nI 2)))), .int s1, .ref 100] h) := by
  exact (blkL (fun p q => wcf_n q) (fun p => Nat.beq p 788) 7 782 rfl _ _ _).trans rfl

set_option maxRecDepth 16384 in
theorem lp_788 {d : Nat} {h : AH} (x4 : Int32) (u5 : Option Value) (u6 : Option Value) (u7 : Option Value) (s1 : Int32) (s2 : Int32) :
    LQ d 788 [some (.ref 63), some (.ref 100), some (.ref 189), some (.ref 295), some (.int x4), u5, u6, u7] [.int s2, .int s1, .ref 100] h =
  (ck (gC h 100) 13 <|
  cK (E (d + 340) 12 [.ref 100, .int s1, .int s2] h) (LQ d 791 [some (.ref 63), some (.ref 100), some (.ref 189), some (.ref 295), some (.int x4), u5, u6, u7]) []) := by
  exact (blkL (fun p q => wcf_n q) (fun p => Nat.beq p 791) 2 788 rfl _ _ _).trans rfl

set_option maxRecDepth 16384 in
theorem lp_791 {d : Nat} {h : AH} (x4 : Int32) (u5 : Option Value) (u6 : Option Value) (u7 : Option Value) (s0 : Int32) :
    LQ d 791 [some (.ref 63), some (.ref 100), some (.ref 189), some (.ref 295), some (.int x4), u5, u6, u7] [.int s0] h =
  (ck (gC h 63) 60 <|
  gd (x4 + (nI 1)) (gK h 63) <|
  LQ d 798 [some (.ref 63), some (.ref 100), some (.ref 189), some (.ref 295), some (.int x4), u5, u6, u7] [.int (gA h 63 (ix (x4 + (nI 1)))), .ref 189, .int s0] h) := by
  exact (blkL (fun p q => wcf_n q) (fun p => Nat.beq p 798) 8 791 rfl _ _ _).trans rfl

set_option maxRecDepth 16384 in
theorem lp_798 {d : Nat} {h : AH} (x4 : Int32) (u5 : Option Value) (u6 : Option Value) (u7 : Option Value) (s0 : Int32) (s2 : Int32) :
    LQ d 798 [some (.ref 63), some (.ref 100), some (.ref 189), some (.ref 295), some (.int x4), u5, u6, u7] [.int s2, .ref 189, .int s0] h =
  (ck (gC h 63) 60 <|
  gd (x4 + (nI 2)) (gK h 63) <|
  LQ d 804 [some (.ref 63), some (.ref 100), some (.ref 189), some (.ref 295), some (.int x4), u5, u6, u7] [.int (gA h 63 (ix (x4 + (nI 2)))), .int s2, .ref 189, .int s0] h) := by
  exact (blkL (fun p q => wcf_n q) (fun p => Nat.beq p 804) 7 798 rfl _ _ _).trans rfl

set_option maxRecDepth 16384 in
theorem lp_804 {d : Nat} {h : AH} (x4 : Int32) (u5 : Option Value) (u6 : Option Value) (u7 : Option Value) (s0 : Int32) (s2 : Int32) (s3 : Int32) :
    LQ d 804 [some (.ref 63), some (.ref 100), some (.ref 189), some (.ref 295), some (.int x4), u5, u6, u7] [.int s3, .int s2, .ref 189, .int s0] h =
  (ck (gC h 189) 14 <|
  cK (E (d + 340) 114 [.ref 189, .int s2, .int s3] h) (LQ d 807 [some (.ref 63), some (.ref 100), some (.ref 189), some (.ref 295), some (.int x4), u5, u6, u7]) [.int s0]) := by
  exact (blkL (fun p q => wcf_n q) (fun p => Nat.beq p 807) 2 804 rfl _ _ _).trans rfl

set_option maxRecDepth 16384 in
theorem lp_807 {d : Nat} {h : AH} (x4 : Int32) (u5 : Option Value) (u6 : Option Value) (u7 : Option Value) (s0 : Int32) (s1 : Int32) :
    LQ d 807 [some (.ref 63), some (.ref 100), some (.ref 189), some (.ref 295), some (.int x4), u5, u6, u7] [.int s1, .int s0] h =
  if s0 = s1 then
   LQ d 1312 [some (.ref 63), some (.ref 100), some (.ref 189), some (.ref 295), some (.int x4), none, none, none] [] h
  else
   some (some (.int (nI 0)), h) := by
  exact (blkL (fun p q => wcf_n q) (fun p => Nat.beq p 1312) 4 807 rfl _ _ _).trans rfl

set_option maxRecDepth 16384 in
theorem lp_812 {d : Nat} {h : AH} (x4 : Int32) (u5 : Option Value) (u6 : Option Value) (u7 : Option Value) :
    LQ d 812 [some (.ref 63), some (.ref 100), some (.ref 189), some (.ref 295), some (.int x4), u5, u6, u7] [] h =
  (ck (gC h 63) 60 <|
  gd (x4 + (nI 1)) (gK h 63) <|
  LQ d 819 [some (.ref 63), some (.ref 100), some (.ref 189), some (.ref 295), some (.int x4), u5, u6, u7] [.int (gA h 63 (ix (x4 + (nI 1)))), .ref 100] h) := by
  exact (blkL (fun p q => wcf_n q) (fun p => Nat.beq p 819) 8 812 rfl _ _ _).trans rfl

set_option maxRecDepth 16384 in
theorem lp_819 {d : Nat} {h : AH} (x4 : Int32) (u5 : Option Value) (u6 : Option Value) (u7 : Option Value) (s1 : Int32) :
    LQ d 819 [some (.ref 63), some (.ref 100), some (.ref 189), some (.ref 295), some (.int x4), u5, u6, u7] [.int s1, .ref 100] h =
  (ck (gC h 63) 60 <|
  gd (x4 + (nI 2)) (gK h 63) <|
  LQ d 825 [some (.ref 63), some (.ref 100), some (.ref 189), some (.ref 295), some (.int x4), u5, u6, u7] [.int (gA h 63 (ix (x4 + (nI 2)))), .int s1, .ref 100] h) := by
  exact (blkL (fun p q => wcf_n q) (fun p => Nat.beq p 825) 7 819 rfl _ _ _).trans rfl

set_option maxRecDepth 16384 in
theorem lp_825 {d : Nat} {h : AH} (x4 : Int32) (u5 : Option Value) (u6 : Option Value) (u7 : Option Value) (s1 : Int32) (s2 : Int32) :
    LQ d 825 [some (.ref 63), some (.ref 100), some (.ref 189), some (.ref 295), some (.int x4), u5, u6, u7] [.int s2, .int s1, .ref 100] h =
  (ck (gC h 100) 13 <|
  cK (E (d + 340) 13 [.ref 100, .int s1, .int s2] h) (LQ d 828 [some (.ref 63), some (.ref 100), some (.ref 189), some (.ref 295), some (.int x4), u5, u6, u7]) []) := by
  exact (blkL (fun p q => wcf_n q) (fun p => Nat.beq p 828) 2 825 rfl _ _ _).trans rfl

set_option maxRecDepth 16384 in
theorem lp_828 {d : Nat} {h : AH} (x4 : Int32) (u5 : Option Value) (u6 : Option Value) (u7 : Option Value) (s0 : Int32) :
    LQ d 828 [some (.ref 63), some (.ref 100), some (.ref 189), some (.ref 295), some (.int x4), u5, u6, u7] [.int s0] h =
  (ck (gC h 63) 60 <|
  gd (x4 + (nI 1)) (gK h 63) <|
  LQ d 835 [some (.ref 63), some (.ref 100), some (.ref 189), some (.ref 295), some (.int x4), u5, u6, u7] [.int (gA h 63 (ix (x4 + (nI 1)))), .ref 189, .int s0] h) := by
  exact (blkL (fun p q => wcf_n q) (fun p => Nat.beq p 835) 8 828 rfl _ _ _).trans rfl

set_option maxRecDepth 16384 in
theorem lp_835 {d : Nat} {h : AH} (x4 : Int32) (u5 : Option Value) (u6 : Option Value) (u7 : Option Value) (s0 : Int32) (s2 : Int32) :
    LQ d 835 [some (.ref 63), some (.ref 100), some (.ref 189), some (.ref 295), some (.int x4), u5, u6, u7] [.int s2, .ref 189, .int s0] h =
  (ck (gC h 63) 60 <|
  gd (x4 + (nI 2)) (gK h 63) <|
  LQ d 841 [some (.ref 63), some (.ref 100), some (.ref 189), some (.ref 295), some (.int x4), u5, u6, u7] [.int (gA h 63 (ix (x4 + (nI 2)))), .int s2, .ref 189, .int s0] h) := by
  exact (blkL (fun p q => wcf_n q) (fun p => Nat.beq p 841) 7 835 rfl _ _ _).trans rfl

set_option maxRecDepth 16384 in
theorem lp_841 {d : Nat} {h : AH} (x4 : Int32) (u5 : Option Value) (u6 : Option Value) (u7 : Option Value) (s0 : Int32) (s2 : Int32) (s3 : Int32) :
    LQ d 841 [some (.ref 63), some (.ref 100), some (.ref 189), some (.ref 295), some (.int x4), u5, u6, u7] [.int s3, .int s2, .ref 189, .int s0] h =
  (ck (gC h 189) 14 <|
  cK (E (d + 340) 117 [.ref 189, .int s2, .int s3] h) (LQ d 844 [some (.ref 63), some (.ref 100), some (.ref 189), some (.ref 295), some (.int x4), u5, u6, u7]) [.int s0]) := by
  exact (blkL (fun p q => wcf_n q) (fun p => Nat.beq p 844) 2 841 rfl _ _ _).trans rfl

set_option maxRecDepth 16384 in
theorem lp_844 {d : Nat} {h : AH} (x4 : Int32) (u5 : Option Value) (u6 : Option Value) (u7 : Option Value) (s0 : Int32) (s1 : Int32) :
    LQ d 844 [some (.ref 63), some (.ref 100), some (.ref 189), some (.ref 295), some (.int x4), u5, u6, u7] [.int s1, .int s0] h =
  if s0 = s1 then
   LQ d 1312 [some (.ref 63), some (.ref 100), some (.ref 189), some (.ref 295), some (.int x4), none, none, none] [] h
  else
   some (some (.int (nI 0)), h) := by
  exact (blkL (fun p q => wcf_n q) (fun p => Nat.beq p 1312) 4 844 rfl _ _ _).trans rfl

set_option maxRecDepth 16384 in
theorem lp_849 {d : Nat} {h : AH} (x4 : Int32) (u5 : Option Value) (u6 : Option Value) (u7 : Option Value) :
    LQ d 849 [some (.ref 63), some (.ref 100), some (.ref 189), some (.ref 295), some (.int x4), u5, u6, u7] [] h =
  (ck (gC h 100) 13 <|
  cK (E (d + 340) 14 [.ref 100] h) (LQ d 853 [some (.ref 63), some (.ref 100), some (.ref 189), some (.ref 295), some (.int x4), u5, u6, u7]) []) := by
  exact (blkL (fun p q => wcf_n q) (fun p => Nat.beq p 853) 3 849 rfl _ _ _).trans rfl

set_option maxRecDepth 16384 in
theorem lp_853 {d : Nat} {h : AH} (x4 : Int32) (u5 : Option Value) (u6 : Option Value) (u7 : Option Value) (s0 : Int32) :
    LQ d 853 [some (.ref 63), some (.ref 100), some (.ref 189), some (.ref 295), some (.int x4), u5, u6, u7] [.int s0] h =
  (ck (gC h 189) 14 <|
  cK (E (d + 340) 127 [.ref 189] h) (LQ d 857 [some (.ref 63), some (.ref 100), some (.ref 189), some (.ref 295), some (.int x4), u5, u6, u7]) [.int s0]) := by
  exact (blkL (fun p q => wcf_n q) (fun p => Nat.beq p 857) 3 853 rfl _ _ _).trans rfl

set_option maxRecDepth 16384 in
theorem lp_857 {d : Nat} {h : AH} (x4 : Int32) (u5 : Option Value) (u6 : Option Value) (u7 : Option Value) (s0 : Int32) (s1 : Int32) :
    LQ d 857 [some (.ref 63), some (.ref 100), some (.ref 189), some (.ref 295), some (.int x4), u5, u6, u7] [.int s1, .int s0] h =
  if s0 = s1 then
   LQ d 1312 [some (.ref 63), some (.ref 100), some (.ref 189), some (.ref 295), some (.int x4), none, none, none] [] h
  else
   some (some (.int (nI 0)), h) := by
  exact (blkL (fun p q => wcf_n q) (fun p => Nat.beq p 1312) 4 857 rfl _ _ _).trans rfl

set_option maxRecDepth 16384 in
theorem lp_862 {d : Nat} {h : AH} (x4 : Int32) (u5 : Option Value) (u6 : Option Value) (u7 : Option Value) :
    LQ d 862 [some (.ref 63), some (.ref 100), some (.ref 189), some (.ref 295), some (.int x4), u5, u6, u7] [] h =
  (ck (gC h 63) 60 <|
  gd (x4 + (nI 1)) (gK h 63) <|
  LQ d 869 [some (.ref 63), some (.ref 100), some (.ref 189), some (.ref 295), some (.int x4), u5, u6, u7] [.int (gA h 63 (ix (x4 + (nI 1)))), .ref 100] h) := by
  exact (blkL (fun p q => wcf_n q) (fun p => Nat.beq p 869) 8 862 rfl _ _ _).trans rfl

set_option maxRecDepth 16384 in
theorem lp_869 {d : Nat} {h : AH} (x4 : Int32) (u5 : Option Value) (u6 : Option Value) (u7 : Option Value) (s1 : Int32) :
    LQ d 869 [some (.ref 63), some (.ref 100), some (.ref 189), some (.ref 295), some (.int x4), u5, u6, u7] [.int s1, .ref 100] h =
  (ck (gC h 63) 60 <|
  gd (x4 + (nI 2)) (gK h 63) <|
  LQ d 875 [some (.ref 63), some (.ref 100), some (.ref 189), some (.ref 295), some (.int x4), u5, u6, u7] [.int (gA h 63 (ix (x4 + (nI 2)))), .int s1, .ref 100] h) := by
  exact (blkL (fun p q => wcf_n q) (fun p => Nat.beq p 875) 7 869 rfl _ _ _).trans rfl

set_option maxRecDepth 16384 in
theorem lp_875 {d : Nat} {h : AH} (x4 : Int32) (u5 : Option Value) (u6 : Option Value) (u7 : Option Value) (s1 : Int32) (s2 : Int32) :
    LQ d 875 [some (.ref 63), some (.ref 100), some (.ref 189), some (.ref 295), some (.int x4), u5, u6, u7] [.int s2, .int s1, .ref 100] h =
  (ck (gC h 100) 13 <|
  cK (E (d + 340) 15 [.ref 100, .int s1, .int s2] h) (LQ d 878 [some (.ref 63), some (.ref 100), some (.ref 189), some (.ref 295), some (.int x4), u5, u6, u7]) []) := by
  exact (blkL (fun p q => wcf_n q) (fun p => Nat.beq p 878) 2 875 rfl _ _ _).trans rfl

set_option maxRecDepth 16384 in
theorem lp_878 {d : Nat} {h : AH} (x4 : Int32) (u5 : Option Value) (u6 : Option Value) (u7 : Option Value) (s0 : Int32) :
    LQ d 878 [some (.ref 63), some (.ref 100), some (.ref 189), some (.ref 295), some (.int x4), u5, u6, u7] [.int s0] h =
  (ck (gC h 63) 60 <|
  gd (x4 + (nI 1)) (gK h 63) <|
  LQ d 885 [some (.ref 63), some (.ref 100), some (.ref 189), some (.ref 295), some (.int x4), u5, u6, u7] [.int (gA h 63 (ix (x4 + (nI 1)))), .ref 189, .int s0] h) := by
  exact (blkL (fun p q => wcf_n q) (fun p => Nat.beq p 885) 8 878 rfl _ _ _).trans rfl

set_option maxRecDepth 16384 in
theorem lp_885 {d : Nat} {h : AH} (x4 : Int32) (u5 : Option Value) (u6 : Option Value) (u7 : Option Value) (s0 : Int32) (s2 : Int32) :
    LQ d 885 [some (.ref 63), some (.ref 100), some (.ref 189), some (.ref 295), some (.int x4), u5, u6, u7] [.int s2, .ref 189, .int s0] h =
  (ck (gC h 63) 60 <|
  gd (x4 + (nI 2)) (gK h 63) <|
  LQ d 891 [some (.ref 63), some (.ref 100), some (.ref 189), some (.ref 295), some (.int x4), u5, u6, u7] [.int (gA h 63 (ix (x4 + (nI 2)))), .int s2, .ref 189, .int s0] h) := by
  exact (blkL (fun p q => wcf_n q) (fun p => Nat.beq p 891) 7 885 rfl _ _ _).trans rfl

set_option maxRecDepth 16384 in
theorem lp_891 {d : Nat} {h : AH} (x4 : Int32) (u5 : Option Value) (u6 : Option Value) (u7 : Option Value) (s0 : Int32) (s2 : Int32) (s3 : Int32) :
    LQ d 891 [some (.ref 63), some (.ref 100), some (.ref 189), some (.ref 295), some (.int x4), u5, u6, u7] [.int s3, .int s2, .ref 189, .int s0] h =
  (ck (gC h 189) 14 <|
  cK (E (d + 340) 151 [.ref 189, .int s2, .int s3] h) (LQ d 894 [some (.ref 63), some (.ref 100), some (.ref 189), some (.ref 295), some (.int x4), u5, u6, u7]) [.int s0]) := by
  exact (blkL (fun p q => wcf_n q) (fun p => Nat.beq p 894) 2 891 rfl _ _ _).trans rfl

set_option maxRecDepth 16384 in
theorem lp_894 {d : Nat} {h : AH} (x4 : Int32) (u5 : Option Value) (u6 : Option Value) (u7 : Option Value) (s0 : Int32) (s1 : Int32) :
    LQ d 894 [some (.ref 63), some (.ref 100), some (.ref 189), some (.ref 295), some (.int x4), u5, u6, u7] [.int s1, .int s0] h =
  if s0 = s1 then
   LQ d 1312 [some (.ref 63), some (.ref 100), some (.ref 189), some (.ref 295), some (.int x4), none, none, none] [] h
  else
   some (some (.int (nI 0)), h) := by
  exact (blkL (fun p q => wcf_n q) (fun p => Nat.beq p 1312) 4 894 rfl _ _ _).trans rfl

set_option maxRecDepth 16384 in
theorem lp_899 {d : Nat} {h : AH} (x4 : Int32) (u5 : Option Value) (u6 : Option Value) (u7 : Option Value) :
    LQ d 899 [some (.ref 63), some (.ref 100), some (.ref 189), some (.ref 295), some (.int x4), u5, u6, u7] [] h =
  (ck (gC h 63) 60 <|
  gd (x4 + (nI 1)) (gK h 63) <|
  LQ d 906 [some (.ref 63), some (.ref 100), some (.ref 189), some (.ref 295), some (.int x4), u5, u6, u7] [.int (gA h 63 (ix (x4 + (nI 1)))), .ref 100] h) := by
  exact (blkL (fun p q => wcf_n q) (fun p => Nat.beq p 906) 8 899 rfl _ _ _).trans rfl

set_option maxRecDepth 16384 in
theorem lp_906 {d : Nat} {h : AH} (x4 : Int32) (u5 : Option Value) (u6 : Option Value) (u7 : Option Value) (s1 : Int32) :
    LQ d 906 [some (.ref 63), some (.ref 100), some (.ref 189), some (.ref 295), some (.int x4), u5, u6, u7] [.int s1, .ref 100] h =
  LQ d 907 [some (.ref 63), some (.ref 100), some (.ref 189), some (.ref 295), some (.int x4), u5, u6, u7] [.ref 295, .int s1, .ref 100] h := by
  exact (blkL (fun p q => wcf_n q) (fun p => Nat.beq p 907) 2 906 rfl _ _ _).trans rfl

set_option maxRecDepth 16384 in
theorem lp_910 {d : Nat} {h : AH} (x4 : Int32) (u5 : Option Value) (u6 : Option Value) (u7 : Option Value) (s0 : Int32) :
    LQ d 910 [some (.ref 63), some (.ref 100), some (.ref 189), some (.ref 295), some (.int x4), u5, u6, u7] [.int s0] h =
  (ck (gC h 63) 60 <|
  gd (x4 + (nI 1)) (gK h 63) <|
  LQ d 919 [some (.ref 63), some (.ref 100), some (.ref 189), some (.ref 295), some (.int x4), some (.int s0), u6, u7] [.int (gA h 63 (ix (x4 + (nI 1)))), .ref 189] h) := by
  exact (blkL (fun p q => wcf_n q) (fun p => Nat.beq p 919) 9 910 rfl _ _ _).trans rfl

set_option maxRecDepth 16384 in
theorem lp_919 {d : Nat} {h : AH} (x4 : Int32) (x5 : Int32) (u6 : Option Value) (u7 : Option Value) (s1 : Int32) :
    LQ d 919 [some (.ref 63), some (.ref 100), some (.ref 189), some (.ref 295), some (.int x4), some (.int x5), u6, u7] [.int s1, .ref 189] h =
  (ck (gC h 189) 14 <|
  cK (E (d + 340) 177 [.ref 189, .int s1] h) (LQ d 922 [some (.ref 63), some (.ref 100), some (.ref 189), some (.ref 295), some (.int x4), some (.int x5), u6, u7]) []) := by
  exact (blkL (fun p q => wcf_n q) (fun p => Nat.beq p 922) 2 919 rfl _ _ _).trans rfl

set_option maxRecDepth 16384 in
theorem lp_922 {d : Nat} {h : AH} (x4 : Int32) (x5 : Int32) (u6 : Option Value) (u7 : Option Value) (s0 : Int64) :
    LQ d 922 [some (.ref 63), some (.ref 100), some (.ref 189), some (.ref 295), some (.int x4), some (.int x5), u6, u7] [.long s0] h =
  (ck (gC h 189) 14 <|
  cK (E (d + 340) 29 [.ref 189] h) (LQ d 928 [some (.ref 63), some (.ref 100), some (.ref 189), some (.ref 295), some (.int x4), some (.int x5), some (.long s0), none]) []) := by
  exact (blkL (fun p q => wcf_n q) (fun p => Nat.beq p 928) 4 922 rfl _ _ _).trans rfl

set_option maxRecDepth 16384 in
theorem lp_928 {d : Nat} {h : AH} (x4 : Int32) (x5 : Int32) (x6 : Int64) (s0 : Int32) :
    LQ d 928 [some (.ref 63), some (.ref 100), some (.ref 189), some (.ref 295), some (.int x4), some (.int x5), some (.long x6), none] [.int s0] h =
  if s0 = x5 then
   if x5 = nI 0 then
    ck (gC h 295) 61 <|
    gd (nI 0) (gK h 295) <|
    if lg_cmp (gB h 295 0) x6 = nI 0 then
     LQ d 1312 [some (.ref 63), some (.ref 100), some (.ref 189), some (.ref 295), some (.int x4), none, none, none] [] h
    else
     some (some (.int (nI 0)), h)
   else
    LQ d 1312 [some (.ref 63), some (.ref 100), some (.ref 189), some (.ref 295), some (.int x4), none, none, none] [] h
  else
   some (some (.int (nI 0)), h) := by
  exact (blkL (fun p q => wcf_n q) (fun p => Nat.beq p 1312) 13 928 rfl _ _ _).trans rfl

set_option maxRecDepth 16384 in
theorem lp_954 {d : Nat} {h : AH} (x4 : Int32) (u5 : Option Value) (u6 : Option Value) (u7 : Option Value) :
    LQ d 954 [some (.ref 63), some (.ref 100), some (.ref 189), some (.ref 295), some (.int x4), u5, u6, u7] [] h =
  (ck (gC h 63) 60 <|
  gd (x4 + (nI 1)) (gK h 63) <|
  LQ d 961 [some (.ref 63), some (.ref 100), some (.ref 189), some (.ref 295), some (.int x4), u5, u6, u7] [.int (gA h 63 (ix (x4 + (nI 1)))), .ref 100] h) := by
  exact (blkL (fun p q => wcf_n q) (fun p => Nat.beq p 961) 8 954 rfl _ _ _).trans rfl

set_option maxRecDepth 16384 in
theorem lp_961 {d : Nat} {h : AH} (x4 : Int32) (u5 : Option Value) (u6 : Option Value) (u7 : Option Value) (s1 : Int32) :
    LQ d 961 [some (.ref 63), some (.ref 100), some (.ref 189), some (.ref 295), some (.int x4), u5, u6, u7] [.int s1, .ref 100] h =
  LQ d 962 [some (.ref 63), some (.ref 100), some (.ref 189), some (.ref 295), some (.int x4), u5, u6, u7] [.ref 295, .int s1, .ref 100] h := by
  exact (blkL (fun p q => wcf_n q) (fun p => Nat.beq p 962) 2 961 rfl _ _ _).trans rfl

set_option maxRecDepth 16384 in
theorem lp_965 {d : Nat} {h : AH} (x4 : Int32) (u5 : Option Value) (u6 : Option Value) (u7 : Option Value) (s0 : Int32) :
    LQ d 965 [some (.ref 63), some (.ref 100), some (.ref 189), some (.ref 295), some (.int x4), u5, u6, u7] [.int s0] h =
  (ck (gC h 63) 60 <|
  gd (x4 + (nI 1)) (gK h 63) <|
  LQ d 974 [some (.ref 63), some (.ref 100), some (.ref 189), some (.ref 295), some (.int x4), some (.int s0), u6, u7] [.int (gA h 63 (ix (x4 + (nI 1)))), .ref 189] h) := by
  exact (blkL (fun p q => wcf_n q) (fun p => Nat.beq p 974) 9 965 rfl _ _ _).trans rfl

set_option maxRecDepth 16384 in
theorem lp_974 {d : Nat} {h : AH} (x4 : Int32) (x5 : Int32) (u6 : Option Value) (u7 : Option Value) (s1 : Int32) :
    LQ d 974 [some (.ref 63), some (.ref 100), some (.ref 189), some (.ref 295), some (.int x4), some (.int x5), u6, u7] [.int s1, .ref 189] h =
  (ck (gC h 189) 14 <|
  cK (E (d + 340) 178 [.ref 189, .int s1] h) (LQ d 977 [some (.ref 63), some (.ref 100), some (.ref 189), some (.ref 295), some (.int x4), some (.int x5), u6, u7]) []) := by
  exact (blkL (fun p q => wcf_n q) (fun p => Nat.beq p 977) 2 974 rfl _ _ _).trans rfl

set_option maxRecDepth 16384 in
theorem lp_977 {d : Nat} {h : AH} (x4 : Int32) (x5 : Int32) (u6 : Option Value) (u7 : Option Value) (s0 : Int32) :
    LQ d 977 [some (.ref 63), some (.ref 100), some (.ref 189), some (.ref 295), some (.int x4), some (.int x5), u6, u7] [.int s0] h =
  (ck (gC h 189) 14 <|
  cK (E (d + 340) 29 [.ref 189] h) (LQ d 983 [some (.ref 63), some (.ref 100), some (.ref 189), some (.ref 295), some (.int x4), some (.int x5), some (.int s0), u7]) []) := by
  exact (blkL (fun p q => wcf_n q) (fun p => Nat.beq p 983) 4 977 rfl _ _ _).trans rfl

set_option maxRecDepth 16384 in
theorem lp_983 {d : Nat} {h : AH} (x4 : Int32) (x5 : Int32) (x6 : Int32) (u7 : Option Value) (s0 : Int32) :
    LQ d 983 [some (.ref 63), some (.ref 100), some (.ref 189), some (.ref 295), some (.int x4), some (.int x5), some (.int x6), u7] [.int s0] h =
  if s0 = x5 then
   if x5 = nI 0 then
    ck (gC h 295) 61 <|
    gd (nI 0) (gK h 295) <|
    if lg_cmp (gB h 295 0) x6.toInt64 = nI 0 then
     LQ d 1312 [some (.ref 63), some (.ref 100), some (.ref 189), some (.ref 295), some (.int x4), none, none, none] [] h
    else
     some (some (.int (nI 0)), h)
   else
    LQ d 1312 [some (.ref 63), some (.ref 100), some (.ref 189), some (.ref 295), some (.int x4), none, none, none] [] h
  else
   some (some (.int (nI 0)), h) := by
  exact (blkL (fun p q => wcf_n q) (fun p => Nat.beq p 1312) 14 983 rfl _ _ _).trans rfl

set_option maxRecDepth 16384 in
theorem lp_1010 {d : Nat} {h : AH} (x4 : Int32) (u5 : Option Value) (u6 : Option Value) (u7 : Option Value) :
    LQ d 1010 [some (.ref 63), some (.ref 100), some (.ref 189), some (.ref 295), some (.int x4), u5, u6, u7] [] h =
  (ck (gC h 63) 60 <|
  gd (x4 + (nI 1)) (gK h 63) <|
  LQ d 1017 [some (.ref 63), some (.ref 100), some (.ref 189), some (.ref 295), some (.int x4), u5, u6, u7] [.int (gA h 63 (ix (x4 + (nI 1)))), .ref 100] h) := by
  exact (blkL (fun p q => wcf_n q) (fun p => Nat.beq p 1017) 8 1010 rfl _ _ _).trans rfl

set_option maxRecDepth 16384 in
theorem lp_1017 {d : Nat} {h : AH} (x4 : Int32) (u5 : Option Value) (u6 : Option Value) (u7 : Option Value) (s1 : Int32) :
    LQ d 1017 [some (.ref 63), some (.ref 100), some (.ref 189), some (.ref 295), some (.int x4), u5, u6, u7] [.int s1, .ref 100] h =
  (ck (gC h 63) 60 <|
  gd (x4 + (nI 2)) (gK h 63) <|
  LQ d 1023 [some (.ref 63), some (.ref 100), some (.ref 189), some (.ref 295), some (.int x4), u5, u6, u7] [.int (gA h 63 (ix (x4 + (nI 2)))), .int s1, .ref 100] h) := by
  exact (blkL (fun p q => wcf_n q) (fun p => Nat.beq p 1023) 7 1017 rfl _ _ _).trans rfl

set_option maxRecDepth 16384 in
theorem lp_1023 {d : Nat} {h : AH} (x4 : Int32) (u5 : Option Value) (u6 : Option Value) (u7 : Option Value) (s1 : Int32) (s2 : Int32) :
    LQ d 1023 [some (.ref 63), some (.ref 100), some (.ref 189), some (.ref 295), some (.int x4), u5, u6, u7] [.int s2, .int s1, .ref 100] h =
  LQ d 1024 [some (.ref 63), some (.ref 100), some (.ref 189), some (.ref 295), some (.int x4), u5, u6, u7] [.ref 295, .int s2, .int s1, .ref 100] h := by
  exact (blkL (fun p q => wcf_n q) (fun p => Nat.beq p 1024) 2 1023 rfl _ _ _).trans rfl

set_option maxRecDepth 16384 in
theorem lp_1027 {d : Nat} {h : AH} (x4 : Int32) (u5 : Option Value) (u6 : Option Value) (u7 : Option Value) (s0 : Int32) :
    LQ d 1027 [some (.ref 63), some (.ref 100), some (.ref 189), some (.ref 295), some (.int x4), u5, u6, u7] [.int s0] h =
  (ck (gC h 63) 60 <|
  gd (x4 + (nI 1)) (gK h 63) <|
  LQ d 1036 [some (.ref 63), some (.ref 100), some (.ref 189), some (.ref 295), some (.int x4), some (.int s0), u6, u7] [.int (gA h 63 (ix (x4 + (nI 1)))), .ref 189] h) := by
  exact (blkL (fun p q => wcf_n q) (fun p => Nat.beq p 1036) 9 1027 rfl _ _ _).trans rfl

set_option maxRecDepth 16384 in
theorem lp_1036 {d : Nat} {h : AH} (x4 : Int32) (x5 : Int32) (u6 : Option Value) (u7 : Option Value) (s1 : Int32) :
    LQ d 1036 [some (.ref 63), some (.ref 100), some (.ref 189), some (.ref 295), some (.int x4), some (.int x5), u6, u7] [.int s1, .ref 189] h =
  (ck (gC h 63) 60 <|
  gd (x4 + (nI 2)) (gK h 63) <|
  LQ d 1042 [some (.ref 63), some (.ref 100), some (.ref 189), some (.ref 295), some (.int x4), some (.int x5), u6, u7] [.int (gA h 63 (ix (x4 + (nI 2)))), .int s1, .ref 189] h) := by
  exact (blkL (fun p q => wcf_n q) (fun p => Nat.beq p 1042) 7 1036 rfl _ _ _).trans rfl

set_option maxRecDepth 16384 in
theorem lp_1042 {d : Nat} {h : AH} (x4 : Int32) (x5 : Int32) (u6 : Option Value) (u7 : Option Value) (s1 : Int32) (s2 : Int32) :
    LQ d 1042 [some (.ref 63), some (.ref 100), some (.ref 189), some (.ref 295), some (.int x4), some (.int x5), u6, u7] [.int s2, .int s1, .ref 189] h =
  (ck (gC h 189) 14 <|
  cK (E (d + 340) 179 [.ref 189, .int s1, .int s2] h) (LQ d 1045 [some (.ref 63), some (.ref 100), some (.ref 189), some (.ref 295), some (.int x4), some (.int x5), u6, u7]) []) := by
  exact (blkL (fun p q => wcf_n q) (fun p => Nat.beq p 1045) 2 1042 rfl _ _ _).trans rfl

set_option maxRecDepth 16384 in
theorem lp_1045 {d : Nat} {h : AH} (x4 : Int32) (x5 : Int32) (u6 : Option Value) (u7 : Option Value) (s0 : Int32) :
    LQ d 1045 [some (.ref 63), some (.ref 100), some (.ref 189), some (.ref 295), some (.int x4), some (.int x5), u6, u7] [.int s0] h =
  (ck (gC h 189) 14 <|
  cK (E (d + 340) 29 [.ref 189] h) (LQ d 1051 [some (.ref 63), some (.ref 100), some (.ref 189), some (.ref 295), some (.int x4), some (.int x5), some (.int s0), u7]) []) := by
  exact (blkL (fun p q => wcf_n q) (fun p => Nat.beq p 1051) 4 1045 rfl _ _ _).trans rfl

set_option maxRecDepth 16384 in
theorem lp_1051 {d : Nat} {h : AH} (x4 : Int32) (x5 : Int32) (x6 : Int32) (u7 : Option Value) (s0 : Int32) :
    LQ d 1051 [some (.ref 63), some (.ref 100), some (.ref 189), some (.ref 295), some (.int x4), some (.int x5), some (.int x6), u7] [.int s0] h =
  if s0 = x5 then
   if x5 = nI 0 then
    ck (gC h 295) 61 <|
    gd (nI 0) (gK h 295) <|
    if lg_cmp (gB h 295 0) x6.toInt64 = nI 0 then
     LQ d 1312 [some (.ref 63), some (.ref 100), some (.ref 189), some (.ref 295), some (.int x4), none, none, none] [] h
    else
     some (some (.int (nI 0)), h)
   else
    LQ d 1312 [some (.ref 63), some (.ref 100), some (.ref 189), some (.ref 295), some (.int x4), none, none, none] [] h
  else
   some (some (.int (nI 0)), h) := by
  exact (blkL (fun p q => wcf_n q) (fun p => Nat.beq p 1312) 14 1051 rfl _ _ _).trans rfl

set_option maxRecDepth 16384 in
theorem lp_1078 {d : Nat} {h : AH} (x4 : Int32) (u5 : Option Value) (u6 : Option Value) (u7 : Option Value) :
    LQ d 1078 [some (.ref 63), some (.ref 100), some (.ref 189), some (.ref 295), some (.int x4), u5, u6, u7] [] h =
  (ck (gC h 63) 60 <|
  gd (x4 + (nI 1)) (gK h 63) <|
  LQ d 1085 [some (.ref 63), some (.ref 100), some (.ref 189), some (.ref 295), some (.int x4), u5, u6, u7] [.int (gA h 63 (ix (x4 + (nI 1)))), .ref 100] h) := by
  exact (blkL (fun p q => wcf_n q) (fun p => Nat.beq p 1085) 8 1078 rfl _ _ _).trans rfl

set_option maxRecDepth 16384 in
theorem lp_1085 {d : Nat} {h : AH} (x4 : Int32) (u5 : Option Value) (u6 : Option Value) (u7 : Option Value) (s1 : Int32) :
    LQ d 1085 [some (.ref 63), some (.ref 100), some (.ref 189), some (.ref 295), some (.int x4), u5, u6, u7] [.int s1, .ref 100] h =
  (ck (gC h 63) 60 <|
  gd (x4 + (nI 2)) (gK h 63) <|
  LQ d 1091 [some (.ref 63), some (.ref 100), some (.ref 189), some (.ref 295), some (.int x4), u5, u6, u7] [.int (gA h 63 (ix (x4 + (nI 2)))), .int s1, .ref 100] h) := by
  exact (blkL (fun p q => wcf_n q) (fun p => Nat.beq p 1091) 7 1085 rfl _ _ _).trans rfl

set_option maxRecDepth 16384 in
theorem lp_1091 {d : Nat} {h : AH} (x4 : Int32) (u5 : Option Value) (u6 : Option Value) (u7 : Option Value) (s1 : Int32) (s2 : Int32) :
    LQ d 1091 [some (.ref 63), some (.ref 100), some (.ref 189), some (.ref 295), some (.int x4), u5, u6, u7] [.int s2, .int s1, .ref 100] h =
  LQ d 1092 [some (.ref 63), some (.ref 100), some (.ref 189), some (.ref 295), some (.int x4), u5, u6, u7] [.ref 295, .int s2, .int s1, .ref 100] h := by
  exact (blkL (fun p q => wcf_n q) (fun p => Nat.beq p 1092) 2 1091 rfl _ _ _).trans rfl

set_option maxRecDepth 16384 in
theorem lp_1095 {d : Nat} {h : AH} (x4 : Int32) (u5 : Option Value) (u6 : Option Value) (u7 : Option Value) (s0 : Int32) :
    LQ d 1095 [some (.ref 63), some (.ref 100), some (.ref 189), some (.ref 295), some (.int x4), u5, u6, u7] [.int s0] h =
  (ck (gC h 63) 60 <|
  gd (x4 + (nI 1)) (gK h 63) <|
  LQ d 1104 [some (.ref 63), some (.ref 100), some (.ref 189), some (.ref 295), some (.int x4), some (.int s0), u6, u7] [.int (gA h 63 (ix (x4 + (nI 1)))), .ref 189] h) := by
  exact (blkL (fun p q => wcf_n q) (fun p => Nat.beq p 1104) 9 1095 rfl _ _ _).trans rfl

set_option maxRecDepth 16384 in
theorem lp_1104 {d : Nat} {h : AH} (x4 : Int32) (x5 : Int32) (u6 : Option Value) (u7 : Option Value) (s1 : Int32) :
    LQ d 1104 [some (.ref 63), some (.ref 100), some (.ref 189), some (.ref 295), some (.int x4), some (.int x5), u6, u7] [.int s1, .ref 189] h =
  (ck (gC h 63) 60 <|
  gd (x4 + (nI 2)) (gK h 63) <|
  LQ d 1110 [some (.ref 63), some (.ref 100), some (.ref 189), some (.ref 295), some (.int x4), some (.int x5), u6, u7] [.int (gA h 63 (ix (x4 + (nI 2)))), .int s1, .ref 189] h) := by
  exact (blkL (fun p q => wcf_n q) (fun p => Nat.beq p 1110) 7 1104 rfl _ _ _).trans rfl

set_option maxRecDepth 16384 in
theorem lp_1110 {d : Nat} {h : AH} (x4 : Int32) (x5 : Int32) (u6 : Option Value) (u7 : Option Value) (s1 : Int32) (s2 : Int32) :
    LQ d 1110 [some (.ref 63), some (.ref 100), some (.ref 189), some (.ref 295), some (.int x4), some (.int x5), u6, u7] [.int s2, .int s1, .ref 189] h =
  (ck (gC h 189) 14 <|
  cK (E (d + 340) 180 [.ref 189, .int s1, .int s2] h) (LQ d 1113 [some (.ref 63), some (.ref 100), some (.ref 189), some (.ref 295), some (.int x4), some (.int x5), u6, u7]) []) := by
  exact (blkL (fun p q => wcf_n q) (fun p => Nat.beq p 1113) 2 1110 rfl _ _ _).trans rfl

set_option maxRecDepth 16384 in
theorem lp_1113 {d : Nat} {h : AH} (x4 : Int32) (x5 : Int32) (u6 : Option Value) (u7 : Option Value) (s0 : Int64) :
    LQ d 1113 [some (.ref 63), some (.ref 100), some (.ref 189), some (.ref 295), some (.int x4), some (.int x5), u6, u7] [.long s0] h =
  (ck (gC h 189) 14 <|
  cK (E (d + 340) 29 [.ref 189] h) (LQ d 1119 [some (.ref 63), some (.ref 100), some (.ref 189), some (.ref 295), some (.int x4), some (.int x5), some (.long s0), none]) []) := by
  exact (blkL (fun p q => wcf_n q) (fun p => Nat.beq p 1119) 4 1113 rfl _ _ _).trans rfl

set_option maxRecDepth 16384 in
theorem lp_1119 {d : Nat} {h : AH} (x4 : Int32) (x5 : Int32) (x6 : Int64) (s0 : Int32) :
    LQ d 1119 [some (.ref 63), some (.ref 100), some (.ref 189), some (.ref 295), some (.int x4), some (.int x5), some (.long x6), none] [.int s0] h =
  if s0 = x5 then
   if x5 = nI 0 then
    ck (gC h 295) 61 <|
    gd (nI 0) (gK h 295) <|
    if lg_cmp (gB h 295 0) x6 = nI 0 then
     LQ d 1312 [some (.ref 63), some (.ref 100), some (.ref 189), some (.ref 295), some (.int x4), none, none, none] [] h
    else
     some (some (.int (nI 0)), h)
   else
    LQ d 1312 [some (.ref 63), some (.ref 100), some (.ref 189), some (.ref 295), some (.int x4), none, none, none] [] h
  else
   some (some (.int (nI 0)), h) := by
  exact (blkL (fun p q => wcf_n q) (fun p => Nat.beq p 1312) 13 1119 rfl _ _ _).trans rfl

set_option maxRecDepth 16384 in
theorem lp_1145 {d : Nat} {h : AH} (x4 : Int32) (u5 : Option Value) (u6 : Option Value) (u7 : Option Value) :
    LQ d 1145 [some (.ref 63), some (.ref 100), some (.ref 189), some (.ref 295), some (.int x4), u5, u6, u7] [] h =
  (ck (gC h 63) 60 <|
  gd (x4 + (nI 1)) (gK h 63) <|
  LQ d 1152 [some (.ref 63), some (.ref 100), some (.ref 189), some (.ref 295), some (.int x4), u5, u6, u7] [.int (gA h 63 (ix (x4 + (nI 1)))), .ref 100] h) := by
  exact (blkL (fun p q => wcf_n q) (fun p => Nat.beq p 1152) 8 1145 rfl _ _ _).trans rfl

set_option maxRecDepth 16384 in
theorem lp_1152 {d : Nat} {h : AH} (x4 : Int32) (u5 : Option Value) (u6 : Option Value) (u7 : Option Value) (s1 : Int32) :
    LQ d 1152 [some (.ref 63), some (.ref 100), some (.ref 189), some (.ref 295), some (.int x4), u5, u6, u7] [.int s1, .ref 100] h =
  (ck (gC h 63) 60 <|
  gd (x4 + (nI 2)) (gK h 63) <|
  LQ d 1158 [some (.ref 63), some (.ref 100), some (.ref 189), some (.ref 295), some (.int x4), u5, u6, u7] [.int (gA h 63 (ix (x4 + (nI 2)))), .int s1, .ref 100] h) := by
  exact (blkL (fun p q => wcf_n q) (fun p => Nat.beq p 1158) 7 1152 rfl _ _ _).trans rfl

set_option maxRecDepth 16384 in
theorem lp_1158 {d : Nat} {h : AH} (x4 : Int32) (u5 : Option Value) (u6 : Option Value) (u7 : Option Value) (s1 : Int32) (s2 : Int32) :
    LQ d 1158 [some (.ref 63), some (.ref 100), some (.ref 189), some (.ref 295), some (.int x4), u5, u6, u7] [.int s2, .int s1, .ref 100] h =
  LQ d 1159 [some (.ref 63), some (.ref 100), some (.ref 189), some (.ref 295), some (.int x4), u5, u6, u7] [.ref 295, .int s2, .int s1, .ref 100] h := by
  exact (blkL (fun p q => wcf_n q) (fun p => Nat.beq p 1159) 2 1158 rfl _ _ _).trans rfl

set_option maxRecDepth 16384 in
theorem lp_1162 {d : Nat} {h : AH} (x4 : Int32) (u5 : Option Value) (u6 : Option Value) (u7 : Option Value) (s0 : Int32) :
    LQ d 1162 [some (.ref 63), some (.ref 100), some (.ref 189), some (.ref 295), some (.int x4), u5, u6, u7] [.int s0] h =
  (ck (gC h 63) 60 <|
  gd (x4 + (nI 1)) (gK h 63) <|
  LQ d 1171 [some (.ref 63), some (.ref 100), some (.ref 189), some (.ref 295), some (.int x4), some (.int s0), u6, u7] [.int (gA h 63 (ix (x4 + (nI 1)))), .ref 189] h) := by
  exact (blkL (fun p q => wcf_n q) (fun p => Nat.beq p 1171) 9 1162 rfl _ _ _).trans rfl

set_option maxRecDepth 16384 in
theorem lp_1171 {d : Nat} {h : AH} (x4 : Int32) (x5 : Int32) (u6 : Option Value) (u7 : Option Value) (s1 : Int32) :
    LQ d 1171 [some (.ref 63), some (.ref 100), some (.ref 189), some (.ref 295), some (.int x4), some (.int x5), u6, u7] [.int s1, .ref 189] h =
  (ck (gC h 63) 60 <|
  gd (x4 + (nI 2)) (gK h 63) <|
  LQ d 1177 [some (.ref 63), some (.ref 100), some (.ref 189), some (.ref 295), some (.int x4), some (.int x5), u6, u7] [.int (gA h 63 (ix (x4 + (nI 2)))), .int s1, .ref 189] h) := by
  exact (blkL (fun p q => wcf_n q) (fun p => Nat.beq p 1177) 7 1171 rfl _ _ _).trans rfl

set_option maxRecDepth 16384 in
theorem lp_1177 {d : Nat} {h : AH} (x4 : Int32) (x5 : Int32) (u6 : Option Value) (u7 : Option Value) (s1 : Int32) (s2 : Int32) :
    LQ d 1177 [some (.ref 63), some (.ref 100), some (.ref 189), some (.ref 295), some (.int x4), some (.int x5), u6, u7] [.int s2, .int s1, .ref 189] h =
  (ck (gC h 189) 14 <|
  cK (E (d + 340) 181 [.ref 189, .int s1, .int s2] h) (LQ d 1180 [some (.ref 63), some (.ref 100), some (.ref 189), some (.ref 295), some (.int x4), some (.int x5), u6, u7]) []) := by
  exact (blkL (fun p q => wcf_n q) (fun p => Nat.beq p 1180) 2 1177 rfl _ _ _).trans rfl

set_option maxRecDepth 16384 in
theorem lp_1180 {d : Nat} {h : AH} (x4 : Int32) (x5 : Int32) (u6 : Option Value) (u7 : Option Value) (s0 : Int32) :
    LQ d 1180 [some (.ref 63), some (.ref 100), some (.ref 189), some (.ref 295), some (.int x4), some (.int x5), u6, u7] [.int s0] h =
  (ck (gC h 189) 14 <|
  cK (E (d + 340) 29 [.ref 189] h) (LQ d 1186 [some (.ref 63), some (.ref 100), some (.ref 189), some (.ref 295), some (.int x4), some (.int x5), some (.int s0), u7]) []) := by
  exact (blkL (fun p q => wcf_n q) (fun p => Nat.beq p 1186) 4 1180 rfl _ _ _).trans rfl

set_option maxRecDepth 16384 in
theorem lp_1186 {d : Nat} {h : AH} (x4 : Int32) (x5 : Int32) (x6 : Int32) (u7 : Option Value) (s0 : Int32) :
    LQ d 1186 [some (.ref 63), some (.ref 100), some (.ref 189), some (.ref 295), some (.int x4), some (.int x5), some (.int x6), u7] [.int s0] h =
  if s0 = x5 then
   if x5 = nI 0 then
    ck (gC h 295) 61 <|
    gd (nI 0) (gK h 295) <|
    if lg_cmp (gB h 295 0) x6.toInt64 = nI 0 then
     LQ d 1312 [some (.ref 63), some (.ref 100), some (.ref 189), some (.ref 295), some (.int x4), none, none, none] [] h
    else
     some (some (.int (nI 0)), h)
   else
    LQ d 1312 [some (.ref 63), some (.ref 100), some (.ref 189), some (.ref 295), some (.int x4), none, none, none] [] h
  else
   some (some (.int (nI 0)), h) := by
  exact (blkL (fun p q => wcf_n q) (fun p => Nat.beq p 1312) 14 1186 rfl _ _ _).trans rfl

set_option maxRecDepth 16384 in
theorem lp_1213 {d : Nat} {h : AH} (x4 : Int32) (u5 : Option Value) (u6 : Option Value) (u7 : Option Value) :
    LQ d 1213 [some (.ref 63), some (.ref 100), some (.ref 189), some (.ref 295), some (.int x4), u5, u6, u7] [] h =
  (ck (gC h 63) 60 <|
  gd (x4 + (nI 1)) (gK h 63) <|
  LQ d 1220 [some (.ref 63), some (.ref 100), some (.ref 189), some (.ref 295), some (.int x4), u5, u6, u7] [.int (gA h 63 (ix (x4 + (nI 1)))), .ref 100] h) := by
  exact (blkL (fun p q => wcf_n q) (fun p => Nat.beq p 1220) 8 1213 rfl _ _ _).trans rfl

set_option maxRecDepth 16384 in
theorem lp_1220 {d : Nat} {h : AH} (x4 : Int32) (u5 : Option Value) (u6 : Option Value) (u7 : Option Value) (s1 : Int32) :
    LQ d 1220 [some (.ref 63), some (.ref 100), some (.ref 189), some (.ref 295), some (.int x4), u5, u6, u7] [.int s1, .ref 100] h =
  (ck (gC h 63) 60 <|
  gd (x4 + (nI 2)) (gK h 63) <|
  LQ d 1226 [some (.ref 63), some (.ref 100), some (.ref 189), some (.ref 295), some (.int x4), u5, u6, u7] [.int (gA h 63 (ix (x4 + (nI 2)))), .int s1, .ref 100] h) := by
  exact (blkL (fun p q => wcf_n q) (fun p => Nat.beq p 1226) 7 1220 rfl _ _ _).trans rfl

set_option maxRecDepth 16384 in
theorem lp_1226 {d : Nat} {h : AH} (x4 : Int32) (u5 : Option Value) (u6 : Option Value) (u7 : Option Value) (s1 : Int32) (s2 : Int32) :
    LQ d 1226 [some (.ref 63), some (.ref 100), some (.ref 189), some (.ref 295), some (.int x4), u5, u6, u7] [.int s2, .int s1, .ref 100] h =
  (ck (gC h 100) 13 <|
  cK (E (d + 340) 16 [.ref 100, .int s1, .int s2] h) (LQ d 1229 [some (.ref 63), some (.ref 100), some (.ref 189), some (.ref 295), some (.int x4), u5, u6, u7]) []) := by
  exact (blkL (fun p q => wcf_n q) (fun p => Nat.beq p 1229) 2 1226 rfl _ _ _).trans rfl

set_option maxRecDepth 16384 in
theorem lp_1229 {d : Nat} {h : AH} (x4 : Int32) (u5 : Option Value) (u6 : Option Value) (u7 : Option Value) (s0 : Int32) :
    LQ d 1229 [some (.ref 63), some (.ref 100), some (.ref 189), some (.ref 295), some (.int x4), u5, u6, u7] [.int s0] h =
  (ck (gC h 63) 60 <|
  gd (x4 + (nI 1)) (gK h 63) <|
  LQ d 1236 [some (.ref 63), some (.ref 100), some (.ref 189), some (.ref 295), some (.int x4), u5, u6, u7] [.int (gA h 63 (ix (x4 + (nI 1)))), .ref 189, .int s0] h) := by
  exact (blkL (fun p q => wcf_n q) (fun p => Nat.beq p 1236) 8 1229 rfl _ _ _).trans rfl

set_option maxRecDepth 16384 in
theorem lp_1236 {d : Nat} {h : AH} (x4 : Int32) (u5 : Option Value) (u6 : Option Value) (u7 : Option Value) (s0 : Int32) (s2 : Int32) :
    LQ d 1236 [some (.ref 63), some (.ref 100), some (.ref 189), some (.ref 295), some (.int x4), u5, u6, u7] [.int s2, .ref 189, .int s0] h =
  (ck (gC h 63) 60 <|
  gd (x4 + (nI 2)) (gK h 63) <|
  LQ d 1242 [some (.ref 63), some (.ref 100), some (.ref 189), some (.ref 295), some (.int x4), u5, u6, u7] [.int (gA h 63 (ix (x4 + (nI 2)))), .int s2, .ref 189, .int s0] h) := by
  exact (blkL (fun p q => wcf_n q) (fun p => Nat.beq p 1242) 7 1236 rfl _ _ _).trans rfl

set_option maxRecDepth 16384 in
theorem lp_1242 {d : Nat} {h : AH} (x4 : Int32) (u5 : Option Value) (u6 : Option Value) (u7 : Option Value) (s0 : Int32) (s2 : Int32) (s3 : Int32) :
    LQ d 1242 [some (.ref 63), some (.ref 100), some (.ref 189), some (.ref 295), some (.int x4), u5, u6, u7] [.int s3, .int s2, .ref 189, .int s0] h =
  (ck (gC h 189) 14 <|
  cK (E (d + 340) 182 [.ref 189, .int s2, .int s3] h) (LQ d 1245 [some (.ref 63), some (.ref 100), some (.ref 189), some (.ref 295), some (.int x4), u5, u6, u7]) [.int s0]) := by
  exact (blkL (fun p q => wcf_n q) (fun p => Nat.beq p 1245) 2 1242 rfl _ _ _).trans rfl

set_option maxRecDepth 16384 in
theorem lp_1245 {d : Nat} {h : AH} (x4 : Int32) (u5 : Option Value) (u6 : Option Value) (u7 : Option Value) (s0 : Int32) (s1 : Int32) :
    LQ d 1245 [some (.ref 63), some (.ref 100), some (.ref 189), some (.ref 295), some (.int x4), u5, u6, u7] [.int s1, .int s0] h =
  if s0 = s1 then
   LQ d 1312 [some (.ref 63), some (.ref 100), some (.ref 189), some (.ref 295), some (.int x4), none, none, none] [] h
  else
   some (some (.int (nI 0)), h) := by
  exact (blkL (fun p q => wcf_n q) (fun p => Nat.beq p 1312) 4 1245 rfl _ _ _).trans rfl

set_option maxRecDepth 16384 in
theorem lp_1250 {d : Nat} {h : AH} (x4 : Int32) (u5 : Option Value) (u6 : Option Value) (u7 : Option Value) :
    LQ d 1250 [some (.ref 63), some (.ref 100), some (.ref 189), some (.ref 295), some (.int x4), u5, u6, u7] [] h =
  (ck (gC h 63) 60 <|
  gd (x4 + (nI 1)) (gK h 63) <|
  LQ d 1257 [some (.ref 63), some (.ref 100), some (.ref 189), some (.ref 295), some (.int x4), u5, u6, u7] [.int (gA h 63 (ix (x4 + (nI 1)))), .ref 100] h) := by
  exact (blkL (fun p q => wcf_n q) (fun p => Nat.beq p 1257) 8 1250 rfl _ _ _).trans rfl

set_option maxRecDepth 16384 in
theorem lp_1257 {d : Nat} {h : AH} (x4 : Int32) (u5 : Option Value) (u6 : Option Value) (u7 : Option Value) (s1 : Int32) :
    LQ d 1257 [some (.ref 63), some (.ref 100), some (.ref 189), some (.ref 295), some (.int x4), u5, u6, u7] [.int s1, .ref 100] h =
  (ck (gC h 63) 60 <|
  gd (x4 + (nI 2)) (gK h 63) <|
  LQ d 1263 [some (.ref 63), some (.ref 100), some (.ref 189), some (.ref 295), some (.int x4), u5, u6, u7] [.int (gA h 63 (ix (x4 + (nI 2)))), .int s1, .ref 100] h) := by
  exact (blkL (fun p q => wcf_n q) (fun p => Nat.beq p 1263) 7 1257 rfl _ _ _).trans rfl

set_option maxRecDepth 16384 in
theorem lp_1263 {d : Nat} {h : AH} (x4 : Int32) (u5 : Option Value) (u6 : Option Value) (u7 : Option Value) (s1 : Int32) (s2 : Int32) :
    LQ d 1263 [some (.ref 63), some (.ref 100), some (.ref 189), some (.ref 295), some (.int x4), u5, u6, u7] [.int s2, .int s1, .ref 100] h =
  (ck (gC h 100) 13 <|
  cK (E (d + 340) 18 [.ref 100, .int s1, .int s2] h) (LQ d 1266 [some (.ref 63), some (.ref 100), some (.ref 189), some (.ref 295), some (.int x4), u5, u6, u7]) []) := by
  exact (blkL (fun p q => wcf_n q) (fun p => Nat.beq p 1266) 2 1263 rfl _ _ _).trans rfl

set_option maxRecDepth 16384 in
theorem lp_1266 {d : Nat} {h : AH} (x4 : Int32) (u5 : Option Value) (u6 : Option Value) (u7 : Option Value) (s0 : Int32) :
    LQ d 1266 [some (.ref 63), some (.ref 100), some (.ref 189), some (.ref 295), some (.int x4), u5, u6, u7] [.int s0] h =
  (ck (gC h 63) 60 <|
  gd (x4 + (nI 1)) (gK h 63) <|
  LQ d 1273 [some (.ref 63), some (.ref 100), some (.ref 189), some (.ref 295), some (.int x4), u5, u6, u7] [.int (gA h 63 (ix (x4 + (nI 1)))), .ref 189, .int s0] h) := by
  exact (blkL (fun p q => wcf_n q) (fun p => Nat.beq p 1273) 8 1266 rfl _ _ _).trans rfl

set_option maxRecDepth 16384 in
theorem lp_1273 {d : Nat} {h : AH} (x4 : Int32) (u5 : Option Value) (u6 : Option Value) (u7 : Option Value) (s0 : Int32) (s2 : Int32) :
    LQ d 1273 [some (.ref 63), some (.ref 100), some (.ref 189), some (.ref 295), some (.int x4), u5, u6, u7] [.int s2, .ref 189, .int s0] h =
  (ck (gC h 63) 60 <|
  gd (x4 + (nI 2)) (gK h 63) <|
  LQ d 1279 [some (.ref 63), some (.ref 100), some (.ref 189), some (.ref 295), some (.int x4), u5, u6, u7] [.int (gA h 63 (ix (x4 + (nI 2)))), .int s2, .ref 189, .int s0] h) := by
  exact (blkL (fun p q => wcf_n q) (fun p => Nat.beq p 1279) 7 1273 rfl _ _ _).trans rfl

set_option maxRecDepth 16384 in
theorem lp_1279 {d : Nat} {h : AH} (x4 : Int32) (u5 : Option Value) (u6 : Option Value) (u7 : Option Value) (s0 : Int32) (s2 : Int32) (s3 : Int32) :
    LQ d 1279 [some (.ref 63), some (.ref 100), some (.ref 189), some (.ref 295), some (.int x4), u5, u6, u7] [.int s3, .int s2, .ref 189, .int s0] h =
  (ck (gC h 189) 14 <|
  cK (E (d + 340) 183 [.ref 189, .int s2, .int s3] h) (LQ d 1282 [some (.ref 63), some (.ref 100), some (.ref 189), some (.ref 295), some (.int x4), u5, u6, u7]) [.int s0]) := by
  exact (blkL (fun p q => wcf_n q) (fun p => Nat.beq p 1282) 2 1279 rfl _ _ _).trans rfl

set_option maxRecDepth 16384 in
theorem lp_1282 {d : Nat} {h : AH} (x4 : Int32) (u5 : Option Value) (u6 : Option Value) (u7 : Option Value) (s0 : Int32) (s1 : Int32) :
    LQ d 1282 [some (.ref 63), some (.ref 100), some (.ref 189), some (.ref 295), some (.int x4), u5, u6, u7] [.int s1, .int s0] h =
  if s0 = s1 then
   LQ d 1312 [some (.ref 63), some (.ref 100), some (.ref 189), some (.ref 295), some (.int x4), none, none, none] [] h
  else
   some (some (.int (nI 0)), h) := by
  exact (blkL (fun p q => wcf_n q) (fun p => Nat.beq p 1312) 4 1282 rfl _ _ _).trans rfl

set_option maxRecDepth 16384 in
theorem lp_1287 {d : Nat} {h : AH} (x4 : Int32) (u5 : Option Value) (u6 : Option Value) (u7 : Option Value) :
    LQ d 1287 [some (.ref 63), some (.ref 100), some (.ref 189), some (.ref 295), some (.int x4), u5, u6, u7] [] h =
  (ck (gC h 63) 60 <|
  gd (x4 + (nI 1)) (gK h 63) <|
  LQ d 1294 [some (.ref 63), some (.ref 100), some (.ref 189), some (.ref 295), some (.int x4), u5, u6, u7] [.int (gA h 63 (ix (x4 + (nI 1)))), .ref 100] h) := by
  exact (blkL (fun p q => wcf_n q) (fun p => Nat.beq p 1294) 8 1287 rfl _ _ _).trans rfl

set_option maxRecDepth 16384 in
theorem lp_1294 {d : Nat} {h : AH} (x4 : Int32) (u5 : Option Value) (u6 : Option Value) (u7 : Option Value) (s1 : Int32) :
    LQ d 1294 [some (.ref 63), some (.ref 100), some (.ref 189), some (.ref 295), some (.int x4), u5, u6, u7] [.int s1, .ref 100] h =
  (ck (gC h 100) 13 <|
  cK (E (d + 340) 19 [.ref 100, .int s1] h) (LQ d 1297 [some (.ref 63), some (.ref 100), some (.ref 189), some (.ref 295), some (.int x4), u5, u6, u7]) []) := by
  exact (blkL (fun p q => wcf_n q) (fun p => Nat.beq p 1297) 2 1294 rfl _ _ _).trans rfl

set_option maxRecDepth 16384 in
theorem lp_1297 {d : Nat} {h : AH} (x4 : Int32) (u5 : Option Value) (u6 : Option Value) (u7 : Option Value) (s0 : Int32) :
    LQ d 1297 [some (.ref 63), some (.ref 100), some (.ref 189), some (.ref 295), some (.int x4), u5, u6, u7] [.int s0] h =
  (ck (gC h 63) 60 <|
  gd (x4 + (nI 1)) (gK h 63) <|
  LQ d 1304 [some (.ref 63), some (.ref 100), some (.ref 189), some (.ref 295), some (.int x4), u5, u6, u7] [.int (gA h 63 (ix (x4 + (nI 1)))), .ref 189, .int s0] h) := by
  exact (blkL (fun p q => wcf_n q) (fun p => Nat.beq p 1304) 8 1297 rfl _ _ _).trans rfl

set_option maxRecDepth 16384 in
theorem lp_1304 {d : Nat} {h : AH} (x4 : Int32) (u5 : Option Value) (u6 : Option Value) (u7 : Option Value) (s0 : Int32) (s2 : Int32) :
    LQ d 1304 [some (.ref 63), some (.ref 100), some (.ref 189), some (.ref 295), some (.int x4), u5, u6, u7] [.int s2, .ref 189, .int s0] h =
  (ck (gC h 189) 14 <|
  cK (E (d + 340) 184 [.ref 189, .int s2] h) (LQ d 1307 [some (.ref 63), some (.ref 100), some (.ref 189), some (.ref 295), some (.int x4), u5, u6, u7]) [.int s0]) := by
  exact (blkL (fun p q => wcf_n q) (fun p => Nat.beq p 1307) 2 1304 rfl _ _ _).trans rfl

set_option maxRecDepth 16384 in
theorem lp_1307 {d : Nat} {h : AH} (x4 : Int32) (u5 : Option Value) (u6 : Option Value) (u7 : Option Value) (s0 : Int32) (s1 : Int32) :
    LQ d 1307 [some (.ref 63), some (.ref 100), some (.ref 189), some (.ref 295), some (.int x4), u5, u6, u7] [.int s1, .int s0] h =
  if s0 = s1 then
   LQ d 1312 [some (.ref 63), some (.ref 100), some (.ref 189), some (.ref 295), some (.int x4), none, none, none] [] h
  else
   some (some (.int (nI 0)), h) := by
  exact (blkL (fun p q => wcf_n q) (fun p => Nat.beq p 1312) 4 1307 rfl _ _ _).trans rfl

set_option maxRecDepth 16384 in
theorem lp_1312 {d : Nat} {h : AH} (x4 : Int32) :
    LQ d 1312 [some (.ref 63), some (.ref 100), some (.ref 189), some (.ref 295), some (.int x4), none, none, none] [] h =
  LQ d 23 [some (.ref 63), some (.ref 100), some (.ref 189), some (.ref 295), some (.int (x4 + nI 7)), none, none, none] [] h := by
  exact (blkL (fun p q => wcf_n q) (fun p => Nat.beq p 23) 4 1312 rfl _ _ _).trans rfl

