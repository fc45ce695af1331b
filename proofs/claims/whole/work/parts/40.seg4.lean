/-! ===== THE METHODS, PIECE BY PIECE: 4 (made by wip/gen/gen40.py) ===== -/
/-! 149 PostRoomModel.act()V -/
set_option maxRecDepth 16384 in
theorem t_149 {d : Nat} {h : AH} (hs : Sh h)  :
    E (d + 1) 149 [.ref 189] h =
  cK (E d 55 [.ref 189, .int (nI 34)] h) (Q d 149 6 [some (.ref 189), none, none]) [] := by
  rw [← hs.1]
  exact entL (l := [some (.ref 189), none, none]) rfl rfl ((blkM (fun p => Nat.beq p 6) 4 0 _ _ _).trans rfl)

set_option maxRecDepth 16384 in
theorem t_149_6 {d : Nat} {h : AH} (hs : Sh h) (u1 : Option Value) (u2 : Option Value) (s0 : Int32) :
    Q d 149 6 [some (.ref 189), u1, u2] [.int s0] h =
  if s0 = nI 0 then
   cK (E d 55 [.ref 189, .int (nI 35)] h) (Q d 149 45 [some (.ref 189), u1, u2]) []
  else
   cK (E d 139 [.ref 189] h) (Q d 149 13 [some (.ref 189), u1, u2]) [] := by
  rw [← hs.1]
  exact (blkM (fun p => Nat.beq p 13 || Nat.beq p 45) 5 6 _ _ _).trans rfl

set_option maxRecDepth 16384 in
theorem t_149_13 {d : Nat} {h : AH} (hs : Sh h) (u1 : Option Value) (u2 : Option Value) :
    Q d 149 13 [some (.ref 189), u1, u2] [] h =
  cK (E d 56 [.ref 189, .int (nI 62), .int (nI 73)] h) (Q d 149 21 [some (.ref 189), u1, u2]) [] := by
  rw [← hs.1]
  exact (blkM (fun p => Nat.beq p 21) 5 13 _ _ _).trans rfl

set_option maxRecDepth 16384 in
theorem t_149_45 {d : Nat} {h : AH} (hs : Sh h) (u1 : Option Value) (u2 : Option Value) (s0 : Int32) :
    Q d 149 45 [some (.ref 189), u1, u2] [.int s0] h =
  if s0 = nI 0 then
   cK (E d 55 [.ref 189, .int (nI 36)] h) (Q d 149 69 [some (.ref 189), u1, u2]) []
  else
   cK (E d 139 [.ref 189] h) (Q d 149 52 [some (.ref 189), u1, u2]) [] := by
  rw [← hs.1]
  exact (blkM (fun p => Nat.beq p 52 || Nat.beq p 69) 5 45 _ _ _).trans rfl

set_option maxRecDepth 16384 in
theorem t_149_21 {d : Nat} {h : AH} (hs : Sh h) (u1 : Option Value) (u2 : Option Value) (s0 : Int32) :
    Q d 149 21 [some (.ref 189), u1, u2] [.int s0] h =
  cK (E d 131 [.ref 189] h) (Q d 149 28 [some (.ref 189), klV u1, some (.int (s0 + (nI 1)))]) [] := by
  rw [← hs.1]
  exact (blkM (fun p => Nat.beq p 28) 6 21 _ _ _).trans rfl

set_option maxRecDepth 16384 in
theorem t_149_52 {d : Nat} {h : AH} (hs : Sh h) (u1 : Option Value) (u2 : Option Value) :
    Q d 149 52 [some (.ref 189), u1, u2] [] h =
  cK (E d 130 [.ref 189, .int (nI 30), .int (nI 0)] h) (Q d 149 59 [some (.ref 189), u1, u2]) [] := by
  rw [← hs.1]
  exact (blkM (fun p => Nat.beq p 59) 5 52 _ _ _).trans rfl

set_option maxRecDepth 16384 in
theorem t_149_69 {d : Nat} {h : AH} (hs : Sh h) (u1 : Option Value) (u2 : Option Value) (s0 : Int32) :
    Q d 149 69 [some (.ref 189), u1, u2] [.int s0] h =
  if s0 = nI 0 then
   cK (E d 55 [.ref 189, .int (nI 37)] h) (Q d 149 97 [some (.ref 189), u1, u2]) []
  else
   cK (E d 139 [.ref 189] h) (Q d 149 76 [some (.ref 189), u1, u2]) [] := by
  rw [← hs.1]
  exact (blkM (fun p => Nat.beq p 76 || Nat.beq p 97) 5 69 _ _ _).trans rfl

set_option maxRecDepth 16384 in
theorem t_149_28 {d : Nat} {h : AH} (hs : Sh h) (x2 : Int32) (u1 : Option Value) :
    Q d 149 28 [some (.ref 189), u1, some (.int x2)] [] h =
  cK (E d 130 [.ref 189, .int (nI 29), .int x2] h) (Q d 149 35 [some (.ref 189), u1, some (.int x2)]) [] := by
  rw [← hs.1]
  exact (blkM (fun p => Nat.beq p 35) 5 28 _ _ _).trans rfl

set_option maxRecDepth 16384 in
theorem t_149_59 {d : Nat} {h : AH} (hs : Sh h) (u0 : Option Value) (u1 : Option Value) (u2 : Option Value) (s0 : Int32) :
    Q d 149 59 [u0, u1, u2] [.int s0] h =
  some (none, h) := by
  rw [← hs.1]
  exact (blkM (fun p => false) 4 59 _ _ _).trans rfl

set_option maxRecDepth 16384 in
theorem t_149_76 {d : Nat} {h : AH} (hs : Sh h) (u1 : Option Value) (u2 : Option Value) :
    Q d 149 76 [some (.ref 189), u1, u2] [] h =
  cK (E d 139 [.ref 189] h) (Q d 149 80 [some (.ref 189), u1, u2]) [] := by
  rw [← hs.1]
  exact (blkM (fun p => Nat.beq p 80) 3 76 _ _ _).trans rfl

set_option maxRecDepth 16384 in
theorem t_149_97 {d : Nat} {h : AH} (hs : Sh h) (u1 : Option Value) (u2 : Option Value) (s0 : Int32) :
    Q d 149 97 [some (.ref 189), u1, u2] [.int s0] h =
  if s0 = nI 0 then
   cK (E d 55 [.ref 189, .int (nI 38)] h) (Q d 149 129 [some (.ref 189), u1, u2]) []
  else
   cK (E d 139 [.ref 189] h) (Q d 149 104 [some (.ref 189), u1, u2]) [] := by
  rw [← hs.1]
  exact (blkM (fun p => Nat.beq p 104 || Nat.beq p 129) 5 97 _ _ _).trans rfl

set_option maxRecDepth 16384 in
theorem t_149_35 {d : Nat} {h : AH} (hs : Sh h) (u0 : Option Value) (u1 : Option Value) (u2 : Option Value) (s0 : Int32) :
    Q d 149 35 [u0, u1, u2] [.int s0] h =
  some (none, h) := by
  rw [← hs.1]
  exact (blkM (fun p => false) 4 35 _ _ _).trans rfl

set_option maxRecDepth 16384 in
theorem t_149_80 {d : Nat} {h : AH} (hs : Sh h) (u1 : Option Value) (u2 : Option Value) :
    Q d 149 80 [some (.ref 189), u1, u2] [] h =
  cK (E d 130 [.ref 189, .int (nI 31), .int (nI 0)] h) (Q d 149 87 [some (.ref 189), u1, u2]) [] := by
  rw [← hs.1]
  exact (blkM (fun p => Nat.beq p 87) 5 80 _ _ _).trans rfl

set_option maxRecDepth 16384 in
theorem t_149_104 {d : Nat} {h : AH} (hs : Sh h) (u1 : Option Value) (u2 : Option Value) :
    Q d 149 104 [some (.ref 189), u1, u2] [] h =
  cK (E d 140 [.ref 189] h) (Q d 149 108 [some (.ref 189), u1, u2]) [] := by
  rw [← hs.1]
  exact (blkM (fun p => Nat.beq p 108) 3 104 _ _ _).trans rfl

set_option maxRecDepth 16384 in
theorem t_149_129 {d : Nat} {h : AH} (hs : Sh h) (u1 : Option Value) (u2 : Option Value) (s0 : Int32) :
    Q d 149 129 [some (.ref 189), u1, u2] [.int s0] h =
  if s0 = nI 0 then
   cK (E d 55 [.ref 189, .int (nI 39)] h) (Q d 149 161 [some (.ref 189), u1, u2]) []
  else
   cK (E d 139 [.ref 189] h) (Q d 149 136 [some (.ref 189), u1, u2]) [] := by
  rw [← hs.1]
  exact (blkM (fun p => Nat.beq p 136 || Nat.beq p 161) 5 129 _ _ _).trans rfl

set_option maxRecDepth 16384 in
theorem t_149_87 {d : Nat} {h : AH} (hs : Sh h) (u0 : Option Value) (u1 : Option Value) (u2 : Option Value) (s0 : Int32) :
    Q d 149 87 [u0, u1, u2] [.int s0] h =
  some (none, h) := by
  rw [← hs.1]
  exact (blkM (fun p => false) 4 87 _ _ _).trans rfl

set_option maxRecDepth 16384 in
theorem t_149_108 {d : Nat} {h : AH} (hs : Sh h) (u1 : Option Value) (u2 : Option Value) :
    Q d 149 108 [some (.ref 189), u1, u2] [] h =
  cK (E d 131 [.ref 189] h) (Q d 149 112 [some (.ref 189), u1, u2]) [] := by
  rw [← hs.1]
  exact (blkM (fun p => Nat.beq p 112) 3 108 _ _ _).trans rfl

set_option maxRecDepth 16384 in
theorem t_149_136 {d : Nat} {h : AH} (hs : Sh h) (u1 : Option Value) (u2 : Option Value) :
    Q d 149 136 [some (.ref 189), u1, u2] [] h =
  cK (E d 140 [.ref 189] h) (Q d 149 140 [some (.ref 189), u1, u2]) [] := by
  rw [← hs.1]
  exact (blkM (fun p => Nat.beq p 140) 3 136 _ _ _).trans rfl

set_option maxRecDepth 16384 in
theorem t_149_161 {d : Nat} {h : AH} (hs : Sh h) (u1 : Option Value) (u2 : Option Value) (s0 : Int32) :
    Q d 149 161 [some (.ref 189), u1, u2] [.int s0] h =
  if s0 = nI 0 then
   cK (E d 55 [.ref 189, .int (nI 40)] h) (Q d 149 177 [some (.ref 189), u1, u2]) []
  else
   cK (E d 150 [.ref 189] h) (Q d 149 168 [some (.ref 189), u1, u2]) [] := by
  rw [← hs.1]
  exact (blkM (fun p => Nat.beq p 168 || Nat.beq p 177) 5 161 _ _ _).trans rfl

set_option maxRecDepth 16384 in
theorem t_149_112 {d : Nat} {h : AH} (hs : Sh h) (u1 : Option Value) (u2 : Option Value) :
    Q d 149 112 [some (.ref 189), u1, u2] [] h =
  cK (E d 130 [.ref 189, .int (nI 32), .int (nI 0)] h) (Q d 149 119 [some (.ref 189), u1, u2]) [] := by
  rw [← hs.1]
  exact (blkM (fun p => Nat.beq p 119) 5 112 _ _ _).trans rfl

set_option maxRecDepth 16384 in
theorem t_149_140 {d : Nat} {h : AH} (hs : Sh h) (u1 : Option Value) (u2 : Option Value) :
    Q d 149 140 [some (.ref 189), u1, u2] [] h =
  cK (E d 142 [.ref 189] h) (Q d 149 144 [some (.ref 189), u1, u2]) [] := by
  rw [← hs.1]
  exact (blkM (fun p => Nat.beq p 144) 3 140 _ _ _).trans rfl

set_option maxRecDepth 16384 in
theorem t_149_168 {d : Nat} {h : AH} (hs : Sh h) (u0 : Option Value) (u1 : Option Value) (u2 : Option Value) :
    Q d 149 168 [u0, u1, u2] [] h =
  some (none, h) := by
  rw [← hs.1]
  exact (blkM (fun p => false) 3 168 _ _ _).trans rfl

set_option maxRecDepth 16384 in
theorem t_149_177 {d : Nat} {h : AH} (hs : Sh h) (u1 : Option Value) (u2 : Option Value) (s0 : Int32) :
    Q d 149 177 [some (.ref 189), u1, u2] [.int s0] h =
  if s0 = nI 0 then
   cK (E d 55 [.ref 189, .int (nI 41)] h) (Q d 149 211 [some (.ref 189), u1, u2]) []
  else
   cK (E d 142 [.ref 189] h) (Q d 149 184 [some (.ref 189), u1, u2]) [] := by
  rw [← hs.1]
  exact (blkM (fun p => Nat.beq p 184 || Nat.beq p 211) 5 177 _ _ _).trans rfl

set_option maxRecDepth 16384 in
theorem t_149_119 {d : Nat} {h : AH} (hs : Sh h) (u0 : Option Value) (u1 : Option Value) (u2 : Option Value) (s0 : Int32) :
    Q d 149 119 [u0, u1, u2] [.int s0] h =
  some (none, h) := by
  rw [← hs.1]
  exact (blkM (fun p => false) 4 119 _ _ _).trans rfl

set_option maxRecDepth 16384 in
theorem t_149_144 {d : Nat} {h : AH} (hs : Sh h) (u1 : Option Value) (u2 : Option Value) :
    Q d 149 144 [some (.ref 189), u1, u2] [] h =
  cK (E d 130 [.ref 189, .int (nI 33), .int (nI 0)] h) (Q d 149 151 [some (.ref 189), u1, u2]) [] := by
  rw [← hs.1]
  exact (blkM (fun p => Nat.beq p 151) 5 144 _ _ _).trans rfl

set_option maxRecDepth 16384 in
theorem t_149_184 {d : Nat} {h : AH} (hs : Sh h) (u1 : Option Value) (u2 : Option Value) :
    Q d 149 184 [some (.ref 189), u1, u2] [] h =
  cK (E d 61 [.ref 189, .int (nI 44)] h) (Q d 149 190 [some (.ref 189), u1, u2]) [] := by
  rw [← hs.1]
  exact (blkM (fun p => Nat.beq p 190) 4 184 _ _ _).trans rfl

set_option maxRecDepth 16384 in
theorem t_149_211 {d : Nat} {h : AH} (hs : Sh h) (u1 : Option Value) (u2 : Option Value) (s0 : Int32) :
    Q d 149 211 [some (.ref 189), u1, u2] [.int s0] h =
  if s0 = nI 0 then
   cK (E d 53 [.ref 189, .int (nI 42)] h) (Q d 149 235 [some (.ref 189), u1, u2]) []
  else
   cK (E d 131 [.ref 189] h) (Q d 149 218 [some (.ref 189), u1, u2]) [] := by
  rw [← hs.1]
  exact (blkM (fun p => Nat.beq p 218 || Nat.beq p 235) 5 211 _ _ _).trans rfl

set_option maxRecDepth 16384 in
theorem t_149_151 {d : Nat} {h : AH} (hs : Sh h) (u0 : Option Value) (u1 : Option Value) (u2 : Option Value) (s0 : Int32) :
    Q d 149 151 [u0, u1, u2] [.int s0] h =
  some (none, h) := by
  rw [← hs.1]
  exact (blkM (fun p => false) 4 151 _ _ _).trans rfl

set_option maxRecDepth 16384 in
theorem t_149_190 {d : Nat} {h : AH} (hs : Sh h) (u1 : Option Value) (u2 : Option Value) :
    Q d 149 190 [some (.ref 189), u1, u2] [] h =
  cK (E d 131 [.ref 189] h) (Q d 149 194 [some (.ref 189), u1, u2]) [] := by
  rw [← hs.1]
  exact (blkM (fun p => Nat.beq p 194) 3 190 _ _ _).trans rfl

set_option maxRecDepth 16384 in
theorem t_149_218 {d : Nat} {h : AH} (hs : Sh h) (u1 : Option Value) (u2 : Option Value) :
    Q d 149 218 [some (.ref 189), u1, u2] [] h =
  cK (E d 130 [.ref 189, .int (nI 36), .int (nI 0)] h) (Q d 149 225 [some (.ref 189), u1, u2]) [] := by
  rw [← hs.1]
  exact (blkM (fun p => Nat.beq p 225) 5 218 _ _ _).trans rfl

set_option maxRecDepth 16384 in
theorem t_149_235 {d : Nat} {h : AH} (hs : Sh h) (u1 : Option Value) (u2 : Option Value) :
    Q d 149 235 [some (.ref 189), u1, u2] [] h =
  cK (E d 130 [.ref 189, .int (nI 37), .int (nI 0)] h) (Q d 149 242 [some (.ref 189), u1, u2]) [] := by
  rw [← hs.1]
  exact (blkM (fun p => Nat.beq p 242) 5 235 _ _ _).trans rfl

set_option maxRecDepth 16384 in
theorem t_149_194 {d : Nat} {h : AH} (hs : Sh h) (u1 : Option Value) (u2 : Option Value) :
    Q d 149 194 [some (.ref 189), u1, u2] [] h =
  cK (E d 130 [.ref 189, .int (nI 35), .int (nI 0)] h) (Q d 149 201 [some (.ref 189), u1, u2]) [] := by
  rw [← hs.1]
  exact (blkM (fun p => Nat.beq p 201) 5 194 _ _ _).trans rfl

set_option maxRecDepth 16384 in
theorem t_149_225 {d : Nat} {h : AH} (hs : Sh h) (u0 : Option Value) (u1 : Option Value) (u2 : Option Value) (s0 : Int32) :
    Q d 149 225 [u0, u1, u2] [.int s0] h =
  some (none, h) := by
  rw [← hs.1]
  exact (blkM (fun p => false) 4 225 _ _ _).trans rfl

set_option maxRecDepth 16384 in
theorem t_149_242 {d : Nat} {h : AH} (hs : Sh h) (u0 : Option Value) (u1 : Option Value) (u2 : Option Value) (s0 : Int32) :
    Q d 149 242 [u0, u1, u2] [.int s0] h =
  some (none, h) := by
  rw [← hs.1]
  exact (blkM (fun p => false) 3 242 _ _ _).trans rfl

set_option maxRecDepth 16384 in
theorem t_149_201 {d : Nat} {h : AH} (hs : Sh h) (u0 : Option Value) (u1 : Option Value) (u2 : Option Value) (s0 : Int32) :
    Q d 149 201 [u0, u1, u2] [.int s0] h =
  some (none, h) := by
  rw [← hs.1]
  exact (blkM (fun p => false) 4 201 _ _ _).trans rfl

/-! 150 PostRoomModel.slide()V -/
set_option maxRecDepth 16384 in
theorem t_150 {d : Nat} {h : AH} (hs : Sh h)  :
    E (d + 1) 150 [.ref 189] h =
  cK (E d 139 [.ref 189] h) (Q d 150 4 [some (.ref 189), none]) [] := by
  rw [← hs.1]
  exact entL (l := [some (.ref 189), none]) rfl rfl ((blkM (fun p => Nat.beq p 4) 3 0 _ _ _).trans rfl)

set_option maxRecDepth 16384 in
theorem t_150_4 {d : Nat} {h : AH} (hs : Sh h) (u1 : Option Value) :
    Q d 150 4 [some (.ref 189), u1] [] h =
  cK (E d 131 [.ref 189] h) (Q d 150 8 [some (.ref 189), u1]) [] := by
  rw [← hs.1]
  exact (blkM (fun p => Nat.beq p 8) 3 4 _ _ _).trans rfl

set_option maxRecDepth 16384 in
theorem t_150_8 {d : Nat} {h : AH} (hs : Sh h) (u1 : Option Value) :
    Q d 150 8 [some (.ref 189), u1] [] h =
  cK (E d 61 [.ref 189, .int (nI 44)] h) (Q d 150 14 [some (.ref 189), u1]) [] := by
  rw [← hs.1]
  exact (blkM (fun p => Nat.beq p 14) 4 8 _ _ _).trans rfl

set_option maxRecDepth 16384 in
theorem t_150_14 {d : Nat} {h : AH} (hs : Sh h) (u1 : Option Value) :
    Q d 150 14 [some (.ref 189), u1] [] h =
  cK (E d 139 [.ref 189] h) (Q d 150 18 [some (.ref 189), u1]) [] := by
  rw [← hs.1]
  exact (blkM (fun p => Nat.beq p 18) 3 14 _ _ _).trans rfl

set_option maxRecDepth 16384 in
theorem t_150_18 {d : Nat} {h : AH} (hs : Sh h) (u1 : Option Value) :
    Q d 150 18 [some (.ref 189), u1] [] h =
  cK (E d 131 [.ref 189] h) (Q d 150 22 [some (.ref 189), u1]) [] := by
  rw [← hs.1]
  exact (blkM (fun p => Nat.beq p 22) 3 18 _ _ _).trans rfl

set_option maxRecDepth 16384 in
theorem t_150_22 {d : Nat} {h : AH} (hs : Sh h) (u1 : Option Value) :
    Q d 150 22 [some (.ref 189), u1] [] h =
  cK (E d 61 [.ref 189, .int (nI 44)] h) (Q d 150 28 [some (.ref 189), u1]) [] := by
  rw [← hs.1]
  exact (blkM (fun p => Nat.beq p 28) 4 22 _ _ _).trans rfl

set_option maxRecDepth 16384 in
theorem t_150_28 {d : Nat} {h : AH} (hs : Sh h) (u1 : Option Value) :
    Q d 150 28 [some (.ref 189), u1] [] h =
  cK (E d 131 [.ref 189] h) (Q d 150 32 [some (.ref 189), u1]) [] := by
  rw [← hs.1]
  exact (blkM (fun p => Nat.beq p 32) 3 28 _ _ _).trans rfl

set_option maxRecDepth 16384 in
theorem t_150_32 {d : Nat} {h : AH} (hs : Sh h) (u1 : Option Value) :
    Q d 150 32 [some (.ref 189), u1] [] h =
  cK (E d 130 [.ref 189, .int (nI 34), .int (nI 0)] h) (Q d 150 39 [some (.ref 189), u1]) [] := by
  rw [← hs.1]
  exact (blkM (fun p => Nat.beq p 39) 5 32 _ _ _).trans rfl

set_option maxRecDepth 16384 in
theorem t_150_39 {d : Nat} {h : AH} (hs : Sh h) (u0 : Option Value) (u1 : Option Value) (s0 : Int32) :
    Q d 150 39 [u0, u1] [.int s0] h =
  some (none, h) := by
  rw [← hs.1]
  exact (blkM (fun p => false) 3 39 _ _ _).trans rfl

/-! 151 PostRoomModel.run(II)I -/
set_option maxRecDepth 16384 in
theorem t_151 {d : Nat} {h : AH} (hs : Sh h) (x1 : Int32) (x2 : Int32) :
    E (d + 1) 151 [.ref 189, .int x1, .int x2] h =
  if gI h 3695 189 = nI 0 then
   some (some (.int (-1)), sI h 3586 189 (nI 0))
  else
   cK (E d 82 [.ref 189, .int x1] (sI h 3586 189 (nI 0))) (Q d 151 17 [some (.ref 189), some (.int x1), some (.int x2), none]) [] := by
  rw [← hs.1]
  exact entL (l := [some (.ref 189), some (.int x1), some (.int x2), none]) rfl rfl ((blkM (fun p => Nat.beq p 17) 10 0 _ _ _).trans rfl)

set_option maxRecDepth 16384 in
theorem t_151_17 {d : Nat} {h : AH} (hs : Sh h) (x1 : Int32) (x2 : Int32) (u3 : Option Value) (s0 : Int32) :
    Q d 151 17 [some (.ref 189), some (.int x1), some (.int x2), u3] [.int s0] h =
  if s0 = nI 0 then
   some (some (.int (-1)), h)
  else
   if x2 < nI 1 then
    some (some (.int (-1)), h)
   else
    if (nI 20000) < x2 then
     some (some (.int (-1)), h)
    else
     cK (E d 32 [.ref 189] h) (Q d 151 38 [some (.ref 189), some (.int x1), some (.int x2), u3]) [] := by
  rw [← hs.1]
  exact (blkM (fun p => Nat.beq p 38) 10 17 _ _ _).trans rfl

set_option maxRecDepth 16384 in
theorem t_151_38 {d : Nat} {h : AH} (hs : Sh h) (x1 : Int32) (x2 : Int32) (u3 : Option Value) :
    Q d 151 38 [some (.ref 189), some (.int x1), some (.int x2), u3] [] h =
  Q d 151 78 [some (.ref 189), none, none, none] [] (sI (sI (sI (sI (sI (sI (sI (sI h 3717 189 (nI 0)) 3720 189 (nI 0)) 3725 189 x2) 3726 189 x1) 3723 189 (nI 0)) 3731 189 (nI 0)) 3724 189 (nI 0)) 3732 189 (-1)) := by
  rw [← hs.1]
  exact (blkM (fun p => Nat.beq p 78) 26 38 _ _ _).trans rfl

set_option maxRecDepth 16384 in
theorem t_151_78 {d : Nat} {h : AH} (hs : Sh h)  :
    Q d 151 78 [some (.ref 189), none, none, none] [] h =
  if gI h 3732 189 < nI 0 then
   gd (((nI 4400) * (gI h 3696 189)) + (gI h 3724 189)) 8800 <|
   gd (((nI 4400) * (gI h 3696 189)) + (gI h 3724 189)) 8800 <|
   cK (E d 152 [.ref 189, .int (gA h 274 (ix (((nI 4400) * (gI h 3696 189)) + (gI h 3724 189)))), .int (gA h 275 (ix (((nI 4400) * (gI h 3696 189)) + (gI h 3724 189))))] (sI (sI h 3733 189 (nI 0)) 3724 189 ((gI h 3724 189) + (nI 1)))) (Q d 151 130 [some (.ref 189), none, none, some (.int (((nI 4400) * (gI h 3696 189)) + (gI h 3724 189)))]) []
  else
   some (some (.int (gI h 3732 189)), h) := by
  rw [← hs.1]
  exact (blkM (fun p => Nat.beq p 130) 31 78 _ _ _).trans rfl

set_option maxRecDepth 16384 in
theorem t_151_130 {d : Nat} {h : AH} (hs : Sh h) (u1 : Option Value) (u2 : Option Value) (u3 : Option Value) :
    Q d 151 130 [some (.ref 189), u1, u2, u3] [] h =
  if (nI 0) < gI h 3733 189 then
   if gI h 3732 189 < nI 0 then
    cK (E d 176 [.ref 189] h) (Q d 151 148 [some (.ref 189), none, none, none]) []
   else
    Q d 151 148 [some (.ref 189), none, none, none] [] h
  else
   Q d 151 148 [some (.ref 189), none, none, none] [] h := by
  rw [← hs.1]
  exact (blkM (fun p => Nat.beq p 148) 9 130 _ _ _).trans rfl

set_option maxRecDepth 16384 in
theorem t_151_148 {d : Nat} {h : AH} (hs : Sh h)  :
    Q d 151 148 [some (.ref 189), none, none, none] [] h =
  Q d 151 78 [some (.ref 189), none, none, none] [] h := by
  rw [← hs.1]
  exact (blkM (fun p => Nat.beq p 78) 3 148 _ _ _).trans rfl

/-! 152 PostRoomModel.works(II)V -/
set_option maxRecDepth 16384 in
theorem t_152 {d : Nat} {h : AH} (hs : Sh h) (x1 : Int32) (x2 : Int32) :
    E (d + 1) 152 [.ref 189, .int x1, .int x2] h =
  if x1 < nI 38 then
   if x1 < nI 29 then
    if x1 < nI 14 then
     if x1 < nI 7 then
      cK (E d 175 [.ref 189, .int x1, .int x2] h) (Q d 152 65 [none, none, none]) []
     else
      cK (E d 174 [.ref 189, .int x1] h) (Q d 152 56 [some (.ref 189), some (.int x1), some (.int x2)]) []
    else
     cK (E d 171 [.ref 189, .int x1, .int x2] h) (Q d 152 42 [some (.ref 189), some (.int x1), some (.int x2)]) []
   else
    cK (E d 159 [.ref 189, .int x1, .int x2] h) (Q d 152 27 [some (.ref 189), some (.int x1), some (.int x2)]) []
  else
   cK (E d 153 [.ref 189, .int x1, .int x2] h) (Q d 152 12 [some (.ref 189), some (.int x1), some (.int x2)]) [] := by
  rw [← hs.1]
  exact entL (l := [some (.ref 189), some (.int x1), some (.int x2)]) rfl rfl ((blkM (fun p => Nat.beq p 12 || Nat.beq p 27 || Nat.beq p 42 || Nat.beq p 56 || Nat.beq p 65) 17 0 _ _ _).trans rfl)

set_option maxRecDepth 16384 in
theorem t_152_12 {d : Nat} {h : AH} (hs : Sh h) (u0 : Option Value) (u1 : Option Value) (u2 : Option Value) :
    Q d 152 12 [u0, u1, u2] [] h =
  Q d 152 65 [none, none, none] [] h := by
  rw [← hs.1]
  exact (blkM (fun p => Nat.beq p 65) 3 12 _ _ _).trans rfl

set_option maxRecDepth 16384 in
theorem t_152_27 {d : Nat} {h : AH} (hs : Sh h) (u0 : Option Value) (u1 : Option Value) (u2 : Option Value) :
    Q d 152 27 [u0, u1, u2] [] h =
  Q d 152 65 [none, none, none] [] h := by
  rw [← hs.1]
  exact (blkM (fun p => Nat.beq p 65) 3 27 _ _ _).trans rfl

set_option maxRecDepth 16384 in
theorem t_152_42 {d : Nat} {h : AH} (hs : Sh h) (u0 : Option Value) (u1 : Option Value) (u2 : Option Value) :
    Q d 152 42 [u0, u1, u2] [] h =
  Q d 152 65 [none, none, none] [] h := by
  rw [← hs.1]
  exact (blkM (fun p => Nat.beq p 65) 3 42 _ _ _).trans rfl

set_option maxRecDepth 16384 in
theorem t_152_56 {d : Nat} {h : AH} (hs : Sh h) (u0 : Option Value) (u1 : Option Value) (u2 : Option Value) :
    Q d 152 56 [u0, u1, u2] [] h =
  Q d 152 65 [none, none, none] [] h := by
  rw [← hs.1]
  exact (blkM (fun p => Nat.beq p 65) 3 56 _ _ _).trans rfl

set_option maxRecDepth 16384 in
theorem t_152_65 {d : Nat} {h : AH} (hs : Sh h)  :
    Q d 152 65 [none, none, none] [] h =
  some (none, h) := by
  rw [← hs.1]
  exact (blkM (fun p => false) 2 65 _ _ _).trans rfl

/-! 153 PostRoomModel.goesOn(II)V -/
set_option maxRecDepth 16384 in
theorem t_153 {d : Nat} {h : AH} (hs : Sh h) (x1 : Int32) (x2 : Int32) :
    E (d + 1) 153 [.ref 189, .int x1, .int x2] h =
  if x1 = nI 38 then
   cK (E d 154 [.ref 189] h) (Q d 153 44 [some (.ref 189), some (.int x1), some (.int x2), none]) []
  else
   if x1 = nI 39 then
   some (none, sI h 3724 189 x2)
  else
   if x1 = nI 40 then
   cK (E d 155 [.ref 189] h) (Q d 153 61 [some (.ref 189), some (.int x1), some (.int x2), none]) [.ref 189]
  else
   if x1 = nI 41 then
   gd (gI h 3731 189) 24 <|
   gd (gI h 3731 189) 24 <|
   some (none, sI (sA (sA h 290 (ix (gI h 3731 189)) x2) 291 (ix (gI h 3731 189)) (nI 0)) 3731 189 ((gI h 3731 189) + (nI 1)))
  else
   if x1 = nI 42 then
   cK (E d 156 [.ref 189, .int x2] h) (Q d 153 118 [some (.ref 189), some (.int x1), some (.int x2), none]) []
  else
   if x1 = nI 43 then
   gd x2 1640 <|
   gd ((gI h 3731 189) - (nI 1)) 24 <|
   if (nI 0) < gA h 292 (ix ((gI h 3731 189) - (nI 1))) then
    gd ((gI h 3731 189) - (nI 1)) 24 <|
    gd ((gI h 3731 189) - (nI 1)) 24 <|
    cK (E d 157 [.ref 189, .int (gA h 292 (ix ((gI h 3731 189) - (nI 1)))), .long (gB h 293 (ix ((gI h 3731 189) - (nI 1))))] (sI (sI h 3731 189 ((gI h 3731 189) - (nI 1))) 3724 189 (gA h 278 (ix x2)))) (Q d 153 175 [some (.ref 189), some (.int x1), some (.int x2), none]) []
   else
    some (none, sI (sI h 3731 189 ((gI h 3731 189) - (nI 1))) 3724 189 (gA h 278 (ix x2)))
  else
   some (none, sI h 3732 189 (nI 0)) := by
  rw [← hs.1]
  exact entL (l := [some (.ref 189), some (.int x1), some (.int x2), none]) rfl rfl ((blkM (fun p => Nat.beq p 44 || Nat.beq p 61 || Nat.beq p 118 || Nat.beq p 175) 33 0 _ _ _).trans rfl)

set_option maxRecDepth 16384 in
theorem t_153_44 {d : Nat} {h : AH} (hs : Sh h) (u0 : Option Value) (u1 : Option Value) (u2 : Option Value) (u3 : Option Value) (s0 : Int32) :
    Q d 153 44 [u0, u1, u2, u3] [.int s0] h =
  some (none, h) := by
  rw [← hs.1]
  exact (blkM (fun p => false) 4 44 _ _ _).trans rfl

set_option maxRecDepth 16384 in
theorem t_153_61 {d : Nat} {h : AH} (hs : Sh h) (x2 : Int32) (u1 : Option Value) (u3 : Option Value) (s0 : Nat) (s1 : Int64) :
    Q d 153 61 [some (.ref 189), u1, some (.int x2), u3] [.long s1, .ref s0] h =
  if lg_cmp s1 0 = nI 0 then
   ck (gC h s0) 14 <|
   some (none, sI h 3724 s0 x2)
  else
   ck (gC h s0) 14 <|
   some (none, sI h 3724 s0 (gI h 3724 189)) := by
  rw [← hs.1]
  exact (blkM (fun p => false) 9 61 _ _ _).trans rfl

set_option maxRecDepth 16384 in
theorem t_153_118 {d : Nat} {h : AH} (hs : Sh h) (u0 : Option Value) (u1 : Option Value) (u2 : Option Value) (u3 : Option Value) :
    Q d 153 118 [u0, u1, u2, u3] [] h =
  some (none, h) := by
  rw [← hs.1]
  exact (blkM (fun p => false) 3 118 _ _ _).trans rfl

set_option maxRecDepth 16384 in
theorem t_153_175 {d : Nat} {h : AH} (hs : Sh h) (u0 : Option Value) (u1 : Option Value) (u2 : Option Value) (u3 : Option Value) :
    Q d 153 175 [u0, u1, u2, u3] [] h =
  some (none, h) := by
  rw [← hs.1]
  exact (blkM (fun p => false) 3 175 _ _ _).trans rfl

/-! 154 PostRoomModel.steps()Z -/
set_option maxRecDepth 16384 in
theorem t_154 {d : Nat} {h : AH} (hs : Sh h)  :
    E (d + 1) 154 [.ref 189] h =
  if gI h 3720 189 = gI h 3725 189 then
   some (some (.int (nI 0)), sI h 3732 189 (nI 10))
  else
   if gI h 3719 189 = nI 200000 then
    some (some (.int (nI 0)), sI h 3732 189 (nI 10))
   else
    some (some (.int (nI 1)), sI (sI h 3720 189 ((gI h 3720 189) + (nI 1))) 3719 189 ((gI h 3719 189) + (nI 1))) := by
  rw [← hs.1]
  exact entL (l := [some (.ref 189)]) rfl rfl ((blkM (fun p => false) 24 0 _ _ _).trans rfl)

/-! 155 PostRoomModel.pop()J -/
set_option maxRecDepth 16384 in
theorem t_155 {d : Nat} {h : AH} (hs : Sh h)  :
    E (d + 1) 155 [.ref 189] h =
  (gd ((gI h 3723 189) - (nI 1)) 2000 <|
  some (some (.long (gB h 289 (ix ((gI h 3723 189) - (nI 1))))), sI h 3723 189 ((gI h 3723 189) - (nI 1)))) := by
  rw [← hs.1]
  exact entL (l := [some (.ref 189)]) rfl rfl ((blkM (fun p => false) 13 0 _ _ _).trans rfl)

/-! 156 PostRoomModel.tried(I)V -/
set_option maxRecDepth 16384 in
theorem t_156 {d : Nat} {h : AH} (hs : Sh h) (x1 : Int32) :
    E (d + 1) 156 [.ref 189, .int x1] h =
  (gd x1 1640 <|
  if gA h 277 (ix x1) < nI 0 then
   gd x1 1640 <|
   some (none, sI (sI h 3731 189 ((gI h 3731 189) - (nI 1))) 3724 189 (gA h 278 (ix x1)))
  else
   gd ((gI h 3731 189) - (nI 1)) 24 <|
   gd ((gI h 3731 189) - (nI 1)) 24 <|
   gd x1 1640 <|
   some (none, sI (sA (sA h 291 (ix ((gI h 3731 189) - (nI 1))) (nI 2)) 292 (ix ((gI h 3731 189) - (nI 1))) (nI 0)) 3724 189 (gA h 277 (ix x1)))) := by
  rw [← hs.1]
  exact entL (l := [some (.ref 189), some (.int x1)]) rfl rfl ((blkM (fun p => false) 30 0 _ _ _).trans rfl)

/-! 157 PostRoomModel.outward(IJ)V -/
set_option maxRecDepth 16384 in
theorem t_157 {d : Nat} {h : AH} (hs : Sh h) (x1 : Int32) (x2 : Int64) :
    E (d + 1) 157 [.ref 189, .int x1, .long x2] h =
  if (nI 0) < gI h 3731 189 then
   gd ((gI h 3731 189) - (nI 1)) 24 <|
   gd ((gI h 3731 189) - (nI 1)) 24 <|
   if gA h 291 (ix ((gI h 3731 189) - (nI 1))) = nI 0 then
    if x1 < nI 20 then
     cK (E d 158 [.ref 189, .int (gA h 290 (ix ((gI h 3731 189) - (nI 1)))), .int x1] h) (Q d 157 47 [some (.ref 189), some (.int x1), some (.long x2), none, some (.int (gA h 290 (ix ((gI h 3731 189) - (nI 1))))), none]) []
    else
     if ((-1) : Int32) < nI 0 then
      gd ((gI h 3731 189) - (nI 1)) 24 <|
      if gA h 291 (ix ((gI h 3731 189) - (nI 1))) < nI 2 then
       gd (gA h 290 (ix ((gI h 3731 189) - (nI 1)))) 1640 <|
       if gA h 277 (ix (gA h 290 (ix ((gI h 3731 189) - (nI 1))))) < nI 0 then
        Q d 157 0 [some (.ref 189), some (.int x1), some (.long x2), none, none, none] [] (sI h 3731 189 ((gI h 3731 189) - (nI 1)))
       else
        gd ((gI h 3731 189) - (nI 1)) 24 <|
        gd ((gI h 3731 189) - (nI 1)) 24 <|
        gd ((gI h 3731 189) - (nI 1)) 24 <|
        gd (gA h 290 (ix ((gI h 3731 189) - (nI 1)))) 1640 <|
        some (none, sI (sB (sA (sA h 291 (ix ((gI h 3731 189) - (nI 1))) (nI 2)) 292 (ix ((gI h 3731 189) - (nI 1))) x1) 293 (ix ((gI h 3731 189) - (nI 1))) x2) 3724 189 (gA h 277 (ix (gA h 290 (ix ((gI h 3731 189) - (nI 1)))))))
      else
       Q d 157 0 [some (.ref 189), some (.int x1), some (.long x2), none, none, none] [] (sI h 3731 189 ((gI h 3731 189) - (nI 1)))
     else
      gd ((gI h 3731 189) - (nI 1)) 24 <|
      if x1 = nI 9 then
       none
      else
       none
   else
    if ((-1) : Int32) < nI 0 then
     gd ((gI h 3731 189) - (nI 1)) 24 <|
     if gA h 291 (ix ((gI h 3731 189) - (nI 1))) < nI 2 then
      gd (gA h 290 (ix ((gI h 3731 189) - (nI 1)))) 1640 <|
      if gA h 277 (ix (gA h 290 (ix ((gI h 3731 189) - (nI 1))))) < nI 0 then
       Q d 157 0 [some (.ref 189), some (.int x1), some (.long x2), none, none, none] [] (sI h 3731 189 ((gI h 3731 189) - (nI 1)))
      else
       gd ((gI h 3731 189) - (nI 1)) 24 <|
       gd ((gI h 3731 189) - (nI 1)) 24 <|
       gd ((gI h 3731 189) - (nI 1)) 24 <|
       gd (gA h 290 (ix ((gI h 3731 189) - (nI 1)))) 1640 <|
       some (none, sI (sB (sA (sA h 291 (ix ((gI h 3731 189) - (nI 1))) (nI 2)) 292 (ix ((gI h 3731 189) - (nI 1))) x1) 293 (ix ((gI h 3731 189) - (nI 1))) x2) 3724 189 (gA h 277 (ix (gA h 290 (ix ((gI h 3731 189) - (nI 1)))))))
     else
      Q d 157 0 [some (.ref 189), some (.int x1), some (.long x2), none, none, none] [] (sI h 3731 189 ((gI h 3731 189) - (nI 1)))
    else
     gd ((gI h 3731 189) - (nI 1)) 24 <|
     if x1 = nI 9 then
      none
     else
      none
  else
   if x1 = nI 20 then
    some (none, sI h 3732 189 (nI 0))
   else
    some (none, sI h 3732 189 x1) := by
  rw [← hs.1]
  exact entL (l := [some (.ref 189), some (.int x1), some (.long x2), none, none, none]) rfl rfl ((blkM (fun p => Nat.beq p 0 || Nat.beq p 47) 72 0 _ _ _).trans rfl)

set_option maxRecDepth 16384 in
theorem t_157_47 {d : Nat} {h : AH} (hs : Sh h) (x1 : Int32) (x2 : Int64) (x4 : Int32) (u5 : Option Value) (s0 : Int32) :
    Q d 157 47 [some (.ref 189), some (.int x1), some (.long x2), none, some (.int x4), u5] [.int s0] h =
  if s0 < nI 0 then
   gd ((gI h 3731 189) - (nI 1)) 24 <|
   if gA h 291 (ix ((gI h 3731 189) - (nI 1))) < nI 2 then
    gd x4 1640 <|
    if gA h 277 (ix x4) < nI 0 then
     Q d 157 0 [some (.ref 189), some (.int x1), some (.long x2), none, none, none] [] (sI h 3731 189 ((gI h 3731 189) - (nI 1)))
    else
     gd ((gI h 3731 189) - (nI 1)) 24 <|
     gd ((gI h 3731 189) - (nI 1)) 24 <|
     gd ((gI h 3731 189) - (nI 1)) 24 <|
     gd x4 1640 <|
     some (none, sI (sB (sA (sA h 291 (ix ((gI h 3731 189) - (nI 1))) (nI 2)) 292 (ix ((gI h 3731 189) - (nI 1))) x1) 293 (ix ((gI h 3731 189) - (nI 1))) x2) 3724 189 (gA h 277 (ix x4)))
   else
    Q d 157 0 [some (.ref 189), some (.int x1), some (.long x2), none, none, none] [] (sI h 3731 189 ((gI h 3731 189) - (nI 1)))
  else
   gd ((gI h 3731 189) - (nI 1)) 24 <|
   if x1 = nI 9 then
    gd s0 1400 <|
    some (none, sI (sB (sA h 291 (ix ((gI h 3731 189) - (nI 1))) (nI 1)) 282 9 x2) 3724 189 (gA h 280 (ix s0)))
   else
    gd s0 1400 <|
    some (none, sI (sB (sA h 291 (ix ((gI h 3731 189) - (nI 1))) (nI 1)) 282 9 x1.toInt64) 3724 189 (gA h 280 (ix s0))) := by
  rw [← hs.1]
  exact (blkM (fun p => Nat.beq p 0) 50 47 _ _ _).trans rfl

/-! 158 PostRoomModel.onFor(II)I -/
set_option maxRecDepth 16384 in
theorem t_158 {d : Nat} {h : AH} (hs : Sh h) (x1 : Int32) (x2 : Int32) :
    E (d + 1) 158 [.ref 189, .int x1, .int x2] h =
  (gd x1 1640 <|
  Q d 158 7 [some (.ref 189), none, some (.int x2), some (.int (gA h 276 (ix x1)))] [] h) := by
  rw [← hs.1]
  exact entL (l := [some (.ref 189), some (.int x1), some (.int x2), none]) rfl rfl ((blkM (fun p => Nat.beq p 7) 7 0 _ _ _).trans rfl)

set_option maxRecDepth 16384 in
theorem t_158_7 {d : Nat} {h : AH} (hs : Sh h) (x2 : Int32) (x3 : Int32) :
    Q d 158 7 [some (.ref 189), none, some (.int x2), some (.int x3)] [] h =
  if x3 < nI 0 then
   some (some (.int x3), h)
  else
   gd x3 1400 <|
   if gA h 279 (ix x3) = nI 0 then
    some (some (.int x3), h)
   else
    gd x3 1400 <|
    if gA h 279 (ix x3) = x2 then
     some (some (.int x3), h)
    else
     gd x3 1400 <|
     Q d 158 7 [some (.ref 189), none, some (.int x2), some (.int (gA h 281 (ix x3)))] [] h := by
  rw [← hs.1]
  exact (blkM (fun p => Nat.beq p 7) 21 7 _ _ _).trans rfl

/-! 159 PostRoomModel.does(II)V -/
set_option maxRecDepth 16384 in
theorem t_159 {d : Nat} {h : AH} (hs : Sh h) (x1 : Int32) (x2 : Int32) :
    E (d + 1) 159 [.ref 189, .int x1, .int x2] h =
  if x1 = nI 29 then
   cK (E d 160 [.ref 189, .int x2] h) (Q d 159 53 [some (.ref 189), some (.int x1), some (.int x2), none, none, none, none, none, none]) []
  else
   if x1 = nI 30 then
   cK (E d 155 [.ref 189] h) (Q d 159 64 [some (.ref 189), some (.int x1), some (.int x2), none, none, none, none, none, none]) [.ref 284]
  else
   if x1 = nI 31 then
   cK (E d 155 [.ref 189] h) (Q d 159 78 [some (.ref 189), some (.int x1), some (.int x2), none, none, none, none, none, none]) [.ref 284]
  else
   if x1 = nI 32 then
   cK (E d 155 [.ref 189] h) (Q d 159 99 [some (.ref 189), some (.int x1), some (.int x2), none, none, none, none, none, none]) []
  else
   if x1 = nI 33 then
   cK (E d 166 [.ref 189] h) (Q d 159 161 [some (.ref 189), some (.int x1), some (.int x2), none, none, none, none, none, none]) []
  else
   if x1 = nI 34 then
   cK (E d 169 [.ref 189] h) (Q d 159 168 [some (.ref 189), some (.int x1), some (.int x2), none, none, none, none, none, none]) []
  else
   if x1 = nI 35 then
   cK (E d 170 [.ref 189] h) (Q d 159 175 [some (.ref 189), some (.int x1), some (.int x2), none, none, none, none, none, none]) []
  else
   if x1 = nI 36 then
   cK (E d 155 [.ref 189] h) (Q d 159 183 [some (.ref 189), some (.int x1), some (.int x2), none, none, none, none, none, none]) [.ref 189]
  else
   cK (E d 157 [.ref 189, .int (nI 20), .long 0] h) (Q d 159 202 [none, none, none, none, none, none, none, none, none]) [] := by
  rw [← hs.1]
  exact entL (l := [some (.ref 189), some (.int x1), some (.int x2), none, none, none, none, none, none]) rfl rfl ((blkM (fun p => Nat.beq p 53 || Nat.beq p 64 || Nat.beq p 78 || Nat.beq p 99 || Nat.beq p 161 || Nat.beq p 168 || Nat.beq p 175 || Nat.beq p 183 || Nat.beq p 202) 7 0 _ _ _).trans rfl)

set_option maxRecDepth 16384 in
theorem t_159_53 {d : Nat} {h : AH} (hs : Sh h) (u0 : Option Value) (u1 : Option Value) (u2 : Option Value) (u3 : Option Value) (u4 : Option Value) (u5 : Option Value) (u6 : Option Value) (u7 : Option Value) (u8 : Option Value) :
    Q d 159 53 [u0, u1, u2, u3, u4, u5, u6, u7, u8] [] h =
  Q d 159 202 [none, none, none, none, none, none, none, none, none] [] h := by
  rw [← hs.1]
  exact (blkM (fun p => Nat.beq p 202) 3 53 _ _ _).trans rfl

set_option maxRecDepth 16384 in
theorem t_159_64 {d : Nat} {h : AH} (hs : Sh h) (u0 : Option Value) (u1 : Option Value) (u2 : Option Value) (u3 : Option Value) (u4 : Option Value) (u5 : Option Value) (u6 : Option Value) (u7 : Option Value) (u8 : Option Value) (s0 : Nat) (s1 : Int64) :
    Q d 159 64 [u0, u1, u2, u3, u4, u5, u6, u7, u8] [.long s1, .ref s0] h =
  (cw (gC h s0) 60 s0 <|
  gd s1.toInt32 (gK h s0) <|
  Q d 159 202 [none, none, none, none, none, none, none, none, none] [] (sA h s0 (ix s1.toInt32) (-1))) := by
  rw [← hs.1]
  exact (blkM (fun p => Nat.beq p 202) 6 64 _ _ _).trans rfl

set_option maxRecDepth 16384 in
theorem t_159_78 {d : Nat} {h : AH} (hs : Sh h) (u1 : Option Value) (u2 : Option Value) (u3 : Option Value) (u4 : Option Value) (u5 : Option Value) (u6 : Option Value) (u7 : Option Value) (u8 : Option Value) (s0 : Nat) (s1 : Int64) :
    Q d 159 78 [some (.ref 189), u1, u2, u3, u4, u5, u6, u7, u8] [.long s1, .ref s0] h =
  (ck (gC h s0) 60 <|
  gd s1.toInt32 (gK h s0) <|
  cK (E d 155 [.ref 189] h) (Q d 159 89 [some (.ref 189), u1, klV u2, some (.int (gA h s0 (ix s1.toInt32))), u4, u5, u6, u7, u8]) [.ref 284]) := by
  rw [← hs.1]
  exact (blkM (fun p => Nat.beq p 89) 8 78 _ _ _).trans rfl

set_option maxRecDepth 16384 in
theorem t_159_99 {d : Nat} {h : AH} (hs : Sh h) (u1 : Option Value) (u2 : Option Value) (u3 : Option Value) (u4 : Option Value) (u5 : Option Value) (u6 : Option Value) (u7 : Option Value) (u8 : Option Value) (s0 : Int64) :
    Q d 159 99 [some (.ref 189), u1, u2, u3, u4, u5, u6, u7, u8] [.long s0] h =
  cK (E d 155 [.ref 189] h) (Q d 159 104 [some (.ref 189), u1, klV u2, some (.long s0), none, u5, u6, u7, u8]) [] := by
  rw [← hs.1]
  exact (blkM (fun p => Nat.beq p 104) 4 99 _ _ _).trans rfl

set_option maxRecDepth 16384 in
theorem t_159_161 {d : Nat} {h : AH} (hs : Sh h) (u0 : Option Value) (u1 : Option Value) (u2 : Option Value) (u3 : Option Value) (u4 : Option Value) (u5 : Option Value) (u6 : Option Value) (u7 : Option Value) (u8 : Option Value) :
    Q d 159 161 [u0, u1, u2, u3, u4, u5, u6, u7, u8] [] h =
  Q d 159 202 [none, none, none, none, none, none, none, none, none] [] h := by
  rw [← hs.1]
  exact (blkM (fun p => Nat.beq p 202) 3 161 _ _ _).trans rfl

set_option maxRecDepth 16384 in
theorem t_159_168 {d : Nat} {h : AH} (hs : Sh h) (u0 : Option Value) (u1 : Option Value) (u2 : Option Value) (u3 : Option Value) (u4 : Option Value) (u5 : Option Value) (u6 : Option Value) (u7 : Option Value) (u8 : Option Value) :
    Q d 159 168 [u0, u1, u2, u3, u4, u5, u6, u7, u8] [] h =
  Q d 159 202 [none, none, none, none, none, none, none, none, none] [] h := by
  rw [← hs.1]
  exact (blkM (fun p => Nat.beq p 202) 3 168 _ _ _).trans rfl

set_option maxRecDepth 16384 in
theorem t_159_175 {d : Nat} {h : AH} (hs : Sh h) (u0 : Option Value) (u1 : Option Value) (u2 : Option Value) (u3 : Option Value) (u4 : Option Value) (u5 : Option Value) (u6 : Option Value) (u7 : Option Value) (u8 : Option Value) :
    Q d 159 175 [u0, u1, u2, u3, u4, u5, u6, u7, u8] [] h =
  Q d 159 202 [none, none, none, none, none, none, none, none, none] [] h := by
  rw [← hs.1]
  exact (blkM (fun p => Nat.beq p 202) 3 175 _ _ _).trans rfl

set_option maxRecDepth 16384 in
theorem t_159_183 {d : Nat} {h : AH} (hs : Sh h) (u1 : Option Value) (u2 : Option Value) (u3 : Option Value) (u4 : Option Value) (u5 : Option Value) (u6 : Option Value) (u7 : Option Value) (u8 : Option Value) (s0 : Nat) (s1 : Int64) :
    Q d 159 183 [some (.ref 189), u1, u2, u3, u4, u5, u6, u7, u8] [.long s1, .ref s0] h =
  (ck (gC h s0) 14 <|
  cK (E d 161 [.ref 189, .int (nI 9)] (sL h 3734 s0 s1)) (Q d 159 192 [some (.ref 189), u1, u2, u3, u4, u5, u6, u7, u8]) []) := by
  rw [← hs.1]
  exact (blkM (fun p => Nat.beq p 192) 5 183 _ _ _).trans rfl

set_option maxRecDepth 16384 in
theorem t_159_202 {d : Nat} {h : AH} (hs : Sh h)  :
    Q d 159 202 [none, none, none, none, none, none, none, none, none] [] h =
  some (none, h) := by
  rw [← hs.1]
  exact (blkM (fun p => false) 2 202 _ _ _).trans rfl

set_option maxRecDepth 16384 in
theorem t_159_89 {d : Nat} {h : AH} (hs : Sh h) (x3 : Int32) (u0 : Option Value) (u1 : Option Value) (u2 : Option Value) (u4 : Option Value) (u5 : Option Value) (u6 : Option Value) (u7 : Option Value) (u8 : Option Value) (s0 : Nat) (s1 : Int64) :
    Q d 159 89 [u0, u1, u2, some (.int x3), u4, u5, u6, u7, u8] [.long s1, .ref s0] h =
  (cw (gC h s0) 60 s0 <|
  gd s1.toInt32 (gK h s0) <|
  Q d 159 202 [none, none, none, none, none, none, none, none, none] [] (sA h s0 (ix s1.toInt32) x3)) := by
  rw [← hs.1]
  exact (blkM (fun p => Nat.beq p 202) 6 89 _ _ _).trans rfl

set_option maxRecDepth 16384 in
theorem t_159_104 {d : Nat} {h : AH} (hs : Sh h) (x3 : Int64) (u1 : Option Value) (u2 : Option Value) (u5 : Option Value) (u6 : Option Value) (u7 : Option Value) (u8 : Option Value) (s0 : Int64) :
    Q d 159 104 [some (.ref 189), u1, u2, some (.long x3), none, u5, u6, u7, u8] [.long s0] h =
  cK (E d 155 [.ref 189] h) (Q d 159 114 [some (.ref 189), u1, u2, some (.long x3), none, some (.long s0), none, u7, u8]) [.ref 284] := by
  rw [← hs.1]
  exact (blkM (fun p => Nat.beq p 114) 6 104 _ _ _).trans rfl

set_option maxRecDepth 16384 in
theorem t_159_192 {d : Nat} {h : AH} (hs : Sh h) (u0 : Option Value) (u1 : Option Value) (u2 : Option Value) (u3 : Option Value) (u4 : Option Value) (u5 : Option Value) (u6 : Option Value) (u7 : Option Value) (u8 : Option Value) :
    Q d 159 192 [u0, u1, u2, u3, u4, u5, u6, u7, u8] [] h =
  Q d 159 202 [none, none, none, none, none, none, none, none, none] [] h := by
  rw [← hs.1]
  exact (blkM (fun p => Nat.beq p 202) 3 192 _ _ _).trans rfl

set_option maxRecDepth 16384 in
theorem t_159_114 {d : Nat} {h : AH} (hs : Sh h) (x3 : Int64) (x5 : Int64) (u1 : Option Value) (u2 : Option Value) (u7 : Option Value) (u8 : Option Value) (s0 : Nat) (s1 : Int64) :
    Q d 159 114 [some (.ref 189), u1, u2, some (.long x3), none, some (.long x5), none, u7, u8] [.long s1, .ref s0] h =
  (ck (gC h s0) 60 <|
  gd s1.toInt32 (gK h s0) <|
  cK (E d 163 [.ref 189, .int (gA h s0 (ix s1.toInt32)), .long x5, .int (nI 0)] h) (Q d 159 127 [some (.ref 189), u1, u2, some (.long x3), none, some (.long x5), none, some (.int (gA h s0 (ix s1.toInt32))), u8]) []) := by
  rw [← hs.1]
  exact (blkM (fun p => Nat.beq p 127) 9 114 _ _ _).trans rfl

set_option maxRecDepth 16384 in
theorem t_159_127 {d : Nat} {h : AH} (hs : Sh h) (x3 : Int64) (x7 : Int32) (u1 : Option Value) (u2 : Option Value) (u5 : Option Value) (u6 : Option Value) (u8 : Option Value) (s0 : Int32) :
    Q d 159 127 [some (.ref 189), u1, u2, some (.long x3), none, u5, u6, some (.int x7), u8] [.int s0] h =
  if gI h 3733 189 = nI 0 then
   gd x7 13 <|
   cK (E d 165 [.int (gA h 285 (ix x7)), .long x3] h) (Q d 159 153 [some (.ref 189), u1, u2, some (.long x3), none, u5, u6, some (.int x7), some (.int s0)]) [.int s0, .ref 288]
  else
   Q d 159 202 [none, none, none, none, none, none, none, none, none] [] h := by
  rw [← hs.1]
  exact (blkM (fun p => Nat.beq p 153 || Nat.beq p 202) 14 127 _ _ _).trans rfl

set_option maxRecDepth 16384 in
theorem t_159_153 {d : Nat} {h : AH} (hs : Sh h) (u0 : Option Value) (u1 : Option Value) (u2 : Option Value) (u3 : Option Value) (u4 : Option Value) (u5 : Option Value) (u6 : Option Value) (u7 : Option Value) (u8 : Option Value) (s0 : Nat) (s1 : Int32) (s2 : Int64) :
    Q d 159 153 [u0, u1, u2, u3, u4, u5, u6, u7, u8] [.long s2, .int s1, .ref s0] h =
  (cw (gC h s0) 61 s0 <|
  gd s1 (gK h s0) <|
  Q d 159 202 [none, none, none, none, none, none, none, none, none] [] (sB h s0 (ix s1) s2)) := by
  rw [← hs.1]
  exact (blkM (fun p => Nat.beq p 202) 4 153 _ _ _).trans rfl

/-! 160 PostRoomModel.makes(I)V -/
set_option maxRecDepth 16384 in
theorem t_160 {d : Nat} {h : AH} (hs : Sh h) (x1 : Int32) :
    E (d + 1) 160 [.ref 189, .int x1] h =
  cK (E d 155 [.ref 189] h) (Q d 160 4 [some (.ref 189), some (.int x1), none, none, none, none, none]) [] := by
  rw [← hs.1]
  exact entL (l := [some (.ref 189), some (.int x1), none, none, none, none, none]) rfl rfl ((blkM (fun p => Nat.beq p 4) 3 0 _ _ _).trans rfl)

set_option maxRecDepth 16384 in
theorem t_160_4 {d : Nat} {h : AH} (hs : Sh h) (x1 : Int32) (u2 : Option Value) (u3 : Option Value) (u4 : Option Value) (u5 : Option Value) (u6 : Option Value) (s0 : Int64) :
    Q d 160 4 [some (.ref 189), some (.int x1), u2, u3, u4, u5, u6] [.long s0] h =
  cK (E d 155 [.ref 189] h) (Q d 160 9 [some (.ref 189), some (.int x1), some (.long s0), none, u4, u5, u6]) [] := by
  rw [← hs.1]
  exact (blkM (fun p => Nat.beq p 9) 4 4 _ _ _).trans rfl

set_option maxRecDepth 16384 in
theorem t_160_9 {d : Nat} {h : AH} (hs : Sh h) (x1 : Int32) (x2 : Int64) (u4 : Option Value) (u5 : Option Value) (u6 : Option Value) (s0 : Int64) :
    Q d 160 9 [some (.ref 189), some (.int x1), some (.long x2), none, u4, u5, u6] [.long s0] h =
  if lg_cmp x2 0 < nI 0 then
   cK (E d 161 [.ref 189, .int (nI 4)] h) (Q d 160 23 [some (.ref 189), some (.int x1), some (.long x2), none, some (.int s0.toInt32), u5, u6]) []
  else
   if (nI 0) < lg_cmp x2 (2000 - ((gI h 3717 189).toInt64)) then
    some (none, sI h 3732 189 (nI 11))
   else
    if (nI 0) < lg_cmp x2 (200000 - ((gI h 3718 189).toInt64)) then
     some (none, sI h 3732 189 (nI 11))
    else
     Q d 160 65 [some (.ref 189), some (.int x1), some (.long x2), none, some (.int s0.toInt32), some (.int (nI 0)), some (.int (nI 0))] [] h := by
  rw [← hs.1]
  exact (blkM (fun p => Nat.beq p 23 || Nat.beq p 65) 28 9 _ _ _).trans rfl

set_option maxRecDepth 16384 in
theorem t_160_23 {d : Nat} {h : AH} (hs : Sh h) (u0 : Option Value) (u1 : Option Value) (u2 : Option Value) (u3 : Option Value) (u4 : Option Value) (u5 : Option Value) (u6 : Option Value) :
    Q d 160 23 [u0, u1, u2, u3, u4, u5, u6] [] h =
  some (none, h) := by
  rw [← hs.1]
  exact (blkM (fun p => false) 2 23 _ _ _).trans rfl

set_option maxRecDepth 16384 in
theorem t_160_65 {d : Nat} {h : AH} (hs : Sh h) (x1 : Int32) (x2 : Int64) (x4 : Int32) (x5 : Int32) (x6 : Int32) :
    Q d 160 65 [some (.ref 189), some (.int x1), some (.long x2), none, some (.int x4), some (.int x5), some (.int x6)] [] h =
  if x6 < nI 13 then
   cK (E d 162 [.ref 189, .int x5] h) (Q d 160 78 [some (.ref 189), some (.int x1), some (.long x2), none, some (.int x4), some (.int x5), some (.int x6)]) []
  else
   gd x5 13 <|
   gd x5 13 <|
   gd x5 13 <|
   Q d 160 129 [some (.ref 189), some (.int x1), some (.long x2), none, some (.int x4), some (.int x5), some (.int (nI 0))] [] (sA (sA (sA h 285 (ix x5) x1) 286 (ix x5) (gI h 3717 189)) 287 (ix x5) x2.toInt32) := by
  rw [← hs.1]
  exact (blkM (fun p => Nat.beq p 78 || Nat.beq p 129) 24 65 _ _ _).trans rfl

set_option maxRecDepth 16384 in
theorem t_160_78 {d : Nat} {h : AH} (hs : Sh h) (x1 : Int32) (x2 : Int64) (x4 : Int32) (x5 : Int32) (x6 : Int32) (s0 : Int32) :
    Q d 160 78 [some (.ref 189), some (.int x1), some (.long x2), none, some (.int x4), some (.int x5), some (.int x6)] [.int s0] h =
  if s0 = nI 0 then
   Q d 160 65 [some (.ref 189), some (.int x1), some (.long x2), none, some (.int x4), some (.int x5), some (.int (x6 + nI 1))] [] h
  else
   Q d 160 65 [some (.ref 189), some (.int x1), some (.long x2), none, some (.int x4), some (.int (x5 + (nI 1))), some (.int (x6 + nI 1))] [] h := by
  rw [← hs.1]
  exact (blkM (fun p => Nat.beq p 65) 10 78 _ _ _).trans rfl

set_option maxRecDepth 16384 in
theorem t_160_129 {d : Nat} {h : AH} (hs : Sh h) (x1 : Int32) (x2 : Int64) (x4 : Int32) (x5 : Int32) (x6 : Int32) :
    Q d 160 129 [some (.ref 189), some (.int x1), some (.long x2), none, some (.int x4), some (.int x5), some (.int x6)] [] h =
  if lg_cmp x6.toInt64 x2 < nI 0 then
   if (nI 8) < x1 then
    gd ((gI h 3717 189) + x6) 2000 <|
    Q d 160 129 [some (.ref 189), some (.int x1), some (.long x2), none, some (.int x4), some (.int x5), some (.int (x6 + nI 1))] [] (sB h 288 (ix ((gI h 3717 189) + x6)) (-1))
   else
    gd ((gI h 3717 189) + x6) 2000 <|
    Q d 160 129 [some (.ref 189), some (.int x1), some (.long x2), none, some (.int x4), some (.int x5), some (.int (x6 + nI 1))] [] (sB h 288 (ix ((gI h 3717 189) + x6)) 0)
  else
   gd x4 12 <|
   some (none, sA (sI (sI h 3717 189 ((gI h 3717 189) + x2.toInt32)) 3718 189 ((gI h 3718 189) + x2.toInt32)) 284 (ix x4) x5) := by
  rw [← hs.1]
  exact (blkM (fun p => Nat.beq p 129) 26 129 _ _ _).trans rfl

/-! 161 PostRoomModel.refuse(I)V -/
set_option maxRecDepth 16384 in
theorem t_161 {d : Nat} {h : AH} (hs : Sh h) (x1 : Int32) :
    E (d + 1) 161 [.ref 189, .int x1] h =
  if gI h 3733 189 = nI 0 then
   some (none, sI h 3733 189 x1)
  else
   some (none, sI h 3733 189 (gI h 3733 189)) := by
  rw [← hs.1]
  exact entL (l := [some (.ref 189), some (.int x1)]) rfl rfl ((blkM (fun p => false) 9 0 _ _ _).trans rfl)

/-! 162 PostRoomModel.isHeld(I)Z -/
set_option maxRecDepth 16384 in
theorem t_162 {d : Nat} {h : AH} (hs : Sh h) (x1 : Int32) :
    E (d + 1) 162 [.ref 189, .int x1] h =
  Q d 162 4 [some (.ref 189), some (.int x1), some (.int (nI 0)), some (.int (nI 0))] [] h := by
  rw [← hs.1]
  exact entL (l := [some (.ref 189), some (.int x1), none, none]) rfl rfl ((blkM (fun p => Nat.beq p 4) 6 0 _ _ _).trans rfl)

set_option maxRecDepth 16384 in
theorem t_162_4 {d : Nat} {h : AH} (hs : Sh h) (x1 : Int32) (x2 : Int32) (x3 : Int32) :
    Q d 162 4 [some (.ref 189), some (.int x1), some (.int x2), some (.int x3)] [] h =
  if x3 < nI 12 then
   if x2 = nI 0 then
    gd x3 12 <|
    if gA h 284 (ix x3) = x1 then
     Q d 162 4 [some (.ref 189), some (.int x1), some (.int (nI 1)), some (.int (x3 + nI 1))] [] h
    else
     Q d 162 4 [some (.ref 189), some (.int x1), some (.int (nI 0)), some (.int (x3 + nI 1))] [] h
   else
    Q d 162 4 [some (.ref 189), some (.int x1), some (.int (nI 1)), some (.int (x3 + nI 1))] [] h
  else
   if x2 = 0 ∨ x2 = 1 then
    some (some (.int x2), h)
   else
    none := by
  rw [← hs.1]
  exact (blkM (fun p => Nat.beq p 4) 18 4 _ _ _).trans rfl

/-! 163 PostRoomModel.cellOf(IJZ)I -/
set_option maxRecDepth 16384 in
theorem t_163 {d : Nat} {h : AH} (hs : Sh h) (x1 : Int32) (x2 : Int64) (x4 : Int32) :
    E (d + 1) 163 [.ref 189, .int x1, .long x2, .int x4] h =
  if x1 < nI 0 then
   cK (E d 161 [.ref 189, .int (nI 1)] h) (Q d 163 9 [some (.ref 189), some (.int x1), some (.long x2), none, some (.int x4)]) []
  else
   gd x1 13 <|
   cK (E d 164 [.int (gA h 285 (ix x1))] h) (Q d 163 21 [some (.ref 189), some (.int x1), some (.long x2), none, some (.int x4)]) [] := by
  rw [← hs.1]
  exact entL (l := [some (.ref 189), some (.int x1), some (.long x2), none, some (.int x4)]) rfl rfl ((blkM (fun p => Nat.beq p 9 || Nat.beq p 21) 8 0 _ _ _).trans rfl)

set_option maxRecDepth 16384 in
theorem t_163_9 {d : Nat} {h : AH} (hs : Sh h) (x1 : Int32) (x2 : Int64) (u4 : Option Value) :
    Q d 163 9 [some (.ref 189), some (.int x1), some (.long x2), none, u4] [] h =
  Q d 163 57 [some (.ref 189), some (.int x1), some (.long x2), none, none] [] h := by
  rw [← hs.1]
  exact (blkM (fun p => Nat.beq p 57) 3 9 _ _ _).trans rfl

set_option maxRecDepth 16384 in
theorem t_163_21 {d : Nat} {h : AH} (hs : Sh h) (x1 : Int32) (x2 : Int64) (x4 : Int32) (s0 : Int32) :
    Q d 163 21 [some (.ref 189), some (.int x1), some (.long x2), none, some (.int x4)] [.int s0] h =
  if s0 = x4 then
   if lg_cmp x2 0 < nI 0 then
    cK (E d 161 [.ref 189, .int (nI 3)] h) (Q d 163 57 [some (.ref 189), some (.int x1), some (.long x2), none, none]) []
   else
    gd x1 13 <|
    if lg_cmp x2 ((gA h 287 (ix x1)).toInt64) < nI 0 then
     Q d 163 57 [some (.ref 189), some (.int x1), some (.long x2), none, none] [] h
    else
     cK (E d 161 [.ref 189, .int (nI 3)] h) (Q d 163 57 [some (.ref 189), some (.int x1), some (.long x2), none, none]) []
  else
   cK (E d 161 [.ref 189, .int (nI 2)] h) (Q d 163 31 [some (.ref 189), some (.int x1), some (.long x2), none, some (.int x4)]) [] := by
  rw [← hs.1]
  exact (blkM (fun p => Nat.beq p 31 || Nat.beq p 57) 18 21 _ _ _).trans rfl

set_option maxRecDepth 16384 in
theorem t_163_57 {d : Nat} {h : AH} (hs : Sh h) (x1 : Int32) (x2 : Int64) :
    Q d 163 57 [some (.ref 189), some (.int x1), some (.long x2), none, none] [] h =
  if (nI 0) < gI h 3733 189 then
   some (some (.int (nI 0)), h)
  else
   gd x1 13 <|
   some (some (.int ((gA h 286 (ix x1)) + x2.toInt32)), h) := by
  rw [← hs.1]
  exact (blkM (fun p => false) 12 57 _ _ _).trans rfl

set_option maxRecDepth 16384 in
theorem t_163_31 {d : Nat} {h : AH} (hs : Sh h) (x1 : Int32) (x2 : Int64) (u4 : Option Value) :
    Q d 163 31 [some (.ref 189), some (.int x1), some (.long x2), none, u4] [] h =
  Q d 163 57 [some (.ref 189), some (.int x1), some (.long x2), none, none] [] h := by
  rw [← hs.1]
  exact (blkM (fun p => Nat.beq p 57) 3 31 _ _ _).trans rfl

/-! 164 PostRoomModel.isOfItems(I)Z -/
set_option maxRecDepth 16384 in
theorem t_164 {d : Nat} {h : AH} (hs : Sh h) (x0 : Int32) :
    E (d + 1) 164 [.int x0] h =
  if (nI 8) < x0 then
   some (some (.int (nI 1)), h)
  else
   some (some (.int (nI 0)), h) := by
  rw [← hs.1]
  exact entL (l := [some (.int x0)]) rfl rfl ((blkM (fun p => false) 7 0 _ _ _).trans rfl)

/-! 165 PostRoomModel.shaped(IJ)J -/
set_option maxRecDepth 16384 in
theorem t_165 {d : Nat} {h : AH} (hs : Sh h) (x0 : Int32) (x1 : Int64) :
    E (d + 1) 165 [.int x0, .long x1] h =
  if x0 = nI 1 then
   if lg_cmp x1 0 = nI 0 then
    some (some (.long 0), h)
   else
    some (some (.long 1), h)
  else
   if x0 = nI 2 then
   some (some (.long x1.toInt32.toInt8.toInt32.toInt64), h)
  else
   if x0 = nI 3 then
   some (some (.long (((x1.toInt32.toUInt32 % 65536).toInt32).toInt64)), h)
  else
   if x0 = nI 4 then
   some (some (.long x1.toInt32.toInt16.toInt32.toInt64), h)
  else
   if x0 = nI 5 then
   some (some (.long x1.toInt32.toInt64), h)
  else
   if x0 = nI 6 then
   some (some (.long x1), h)
  else
   if x0 = nI 7 then
   some (some (.long (FP.f2l (FP.l2f x1))), h)
  else
   if x0 = nI 8 then
   some (some (.long (FP.d2l (FP.l2d x1))), h)
  else
   some (some (.long x1), h) := by
  rw [← hs.1]
  exact entL (l := [some (.int x0), some (.long x1), none]) rfl rfl ((blkM (fun p => false) 10 0 _ _ _).trans rfl)

/-! 166 PostRoomModel.lays()V -/
set_option maxRecDepth 16384 in
theorem t_166 {d : Nat} {h : AH} (hs : Sh h)  :
    E (d + 1) 166 [.ref 189] h =
  cK (E d 155 [.ref 189] h) (Q d 166 4 [some (.ref 189), none, none, none, none, none]) [] := by
  rw [← hs.1]
  exact entL (l := [some (.ref 189), none, none, none, none, none]) rfl rfl ((blkM (fun p => Nat.beq p 4) 3 0 _ _ _).trans rfl)

set_option maxRecDepth 16384 in
theorem t_166_4 {d : Nat} {h : AH} (hs : Sh h) (u1 : Option Value) (u2 : Option Value) (u3 : Option Value) (u4 : Option Value) (u5 : Option Value) (s0 : Int64) :
    Q d 166 4 [some (.ref 189), u1, u2, u3, u4, u5] [.long s0] h =
  cK (E d 155 [.ref 189] h) (Q d 166 10 [some (.ref 189), some (.int s0.toInt32), u2, u3, u4, u5]) [] := by
  rw [← hs.1]
  exact (blkM (fun p => Nat.beq p 10) 5 4 _ _ _).trans rfl

set_option maxRecDepth 16384 in
theorem t_166_10 {d : Nat} {h : AH} (hs : Sh h) (x1 : Int32) (u2 : Option Value) (u3 : Option Value) (u4 : Option Value) (u5 : Option Value) (s0 : Int64) :
    Q d 166 10 [some (.ref 189), some (.int x1), u2, u3, u4, u5] [.long s0] h =
  cK (E d 155 [.ref 189] h) (Q d 166 19 [some (.ref 189), some (.int x1), some (.long s0), none, u4, u5]) [.ref 284] := by
  rw [← hs.1]
  exact (blkM (fun p => Nat.beq p 19) 6 10 _ _ _).trans rfl

set_option maxRecDepth 16384 in
theorem t_166_19 {d : Nat} {h : AH} (hs : Sh h) (x1 : Int32) (x2 : Int64) (u4 : Option Value) (u5 : Option Value) (s0 : Nat) (s1 : Int64) :
    Q d 166 19 [some (.ref 189), some (.int x1), some (.long x2), none, u4, u5] [.long s1, .ref s0] h =
  (ck (gC h s0) 60 <|
  gd s1.toInt32 (gK h s0) <|
  cK (E d 163 [.ref 189, .int (gA h s0 (ix s1.toInt32)), .long x2, .int (nI 1)] h) (Q d 166 31 [some (.ref 189), some (.int x1), some (.long x2), none, some (.int (gA h s0 (ix s1.toInt32))), u5]) []) := by
  rw [← hs.1]
  exact (blkM (fun p => Nat.beq p 31) 9 19 _ _ _).trans rfl

set_option maxRecDepth 16384 in
theorem t_166_31 {d : Nat} {h : AH} (hs : Sh h) (x1 : Int32) (x4 : Int32) (u2 : Option Value) (u3 : Option Value) (u5 : Option Value) (s0 : Int32) :
    Q d 166 31 [some (.ref 189), some (.int x1), u2, u3, some (.int x4), u5] [.int s0] h =
  if gI h 3733 189 = nI 0 then
   gd x4 13 <|
   cK (E d 167 [.ref 189, .int (gA h 285 (ix x4)), .int x1] h) (Q d 166 52 [some (.ref 189), some (.int x1), u2, u3, some (.int x4), some (.int s0)]) []
  else
   Q d 166 60 [some (.ref 189), some (.int x1), none, none, none, some (.int s0)] [] h := by
  rw [← hs.1]
  exact (blkM (fun p => Nat.beq p 52 || Nat.beq p 60) 12 31 _ _ _).trans rfl

set_option maxRecDepth 16384 in
theorem t_166_52 {d : Nat} {h : AH} (hs : Sh h) (x1 : Int32) (x5 : Int32) (u2 : Option Value) (u3 : Option Value) (u4 : Option Value) (s0 : Int32) :
    Q d 166 52 [some (.ref 189), some (.int x1), u2, u3, u4, some (.int x5)] [.int s0] h =
  if s0 = nI 0 then
   cK (E d 161 [.ref 189, .int (nI 5)] h) (Q d 166 60 [some (.ref 189), some (.int x1), none, none, none, some (.int x5)]) []
  else
   Q d 166 60 [some (.ref 189), some (.int x1), none, none, none, some (.int x5)] [] h := by
  rw [← hs.1]
  exact (blkM (fun p => Nat.beq p 60) 5 52 _ _ _).trans rfl

set_option maxRecDepth 16384 in
theorem t_166_60 {d : Nat} {h : AH} (hs : Sh h) (x1 : Int32) (x5 : Int32) :
    Q d 166 60 [some (.ref 189), some (.int x1), none, none, none, some (.int x5)] [] h =
  if gI h 3733 189 = nI 0 then
   gd x5 2000 <|
   some (none, sB h 288 (ix x5) x1.toInt64)
  else
   some (none, h) := by
  rw [← hs.1]
  exact (blkM (fun p => false) 11 60 _ _ _).trans rfl

/-! 167 PostRoomModel.mayHave(II)Z -/
set_option maxRecDepth 16384 in
theorem t_167 {d : Nat} {h : AH} (hs : Sh h) (x1 : Int32) (x2 : Int32) :
    E (d + 1) 167 [.ref 189, .int x1, .int x2] h =
  if x2 < nI 0 then
   some (some (.int (nI 1)), h)
  else
   if x1 = nI 9 then
    some (some (.int (nI 1)), h)
   else
    cK (E d 168 [.ref 189, .int x2, .int (x1 - (nI 10))] h) (Q d 167 19 [some (.ref 189), some (.int x1), some (.int x2)]) [] := by
  rw [← hs.1]
  exact entL (l := [some (.ref 189), some (.int x1), some (.int x2)]) rfl rfl ((blkM (fun p => Nat.beq p 19) 12 0 _ _ _).trans rfl)

set_option maxRecDepth 16384 in
theorem t_167_19 {d : Nat} {h : AH} (hs : Sh h) (u0 : Option Value) (u1 : Option Value) (u2 : Option Value) (s0 : Int32) :
    Q d 167 19 [u0, u1, u2] [.int s0] h =
  if s0 = nI 0 then
   some (some (.int (nI 0)), h)
  else
   some (some (.int (nI 1)), h) := by
  rw [← hs.1]
  exact (blkM (fun p => false) 5 19 _ _ _).trans rfl

/-! 168 PostRoomModel.hasSort(II)Z -/
set_option maxRecDepth 16384 in
theorem t_168 {d : Nat} {h : AH} (hs : Sh h) (x1 : Int32) (x2 : Int32) :
    E (d + 1) 168 [.ref 189, .int x1, .int x2] h =
  cK (E d 101 [.ref 189, .int x1] h) (Q d 168 5 [some (.ref 189), some (.int x1), some (.int x2), none]) [] := by
  rw [← hs.1]
  exact entL (l := [some (.ref 189), some (.int x1), some (.int x2), none]) rfl rfl ((blkM (fun p => Nat.beq p 5) 4 0 _ _ _).trans rfl)

set_option maxRecDepth 16384 in
theorem t_168_5 {d : Nat} {h : AH} (hs : Sh h) (x2 : Int32) (u0 : Option Value) (u1 : Option Value) (u3 : Option Value) (s0 : Int32) :
    Q d 168 5 [u0, u1, some (.int x2), u3] [.int s0] h =
  if s0 = x2 then
   some (some (.int (nI 1)), h)
  else
   if x2 = nI 0 then
    if s0 = nI 2 then
     some (some (.int (nI 1)), h)
    else
     some (some (.int (nI 0)), h)
   else
    some (some (.int (nI 0)), h) := by
  rw [← hs.1]
  exact (blkM (fun p => false) 13 5 _ _ _).trans rfl

/-! 169 PostRoomModel.slides()V -/
set_option maxRecDepth 16384 in
theorem t_169 {d : Nat} {h : AH} (hs : Sh h)  :
    E (d + 1) 169 [.ref 189] h =
  cK (E d 155 [.ref 189] h) (Q d 169 4 [some (.ref 189), none, none, none, none, none, none, none, none, none, none, none, none]) [] := by
  rw [← hs.1]
  exact entL (l := [some (.ref 189), none, none, none, none, none, none, none, none, none, none, none, none]) rfl rfl ((blkM (fun p => Nat.beq p 4) 3 0 _ _ _).trans rfl)

set_option maxRecDepth 16384 in
theorem t_169_4 {d : Nat} {h : AH} (hs : Sh h) (u1 : Option Value) (u2 : Option Value) (u3 : Option Value) (u4 : Option Value) (u5 : Option Value) (u6 : Option Value) (u7 : Option Value) (u8 : Option Value) (u9 : Option Value) (u10 : Option Value) (u11 : Option Value) (u12 : Option Value) (s0 : Int64) :
    Q d 169 4 [some (.ref 189), u1, u2, u3, u4, u5, u6, u7, u8, u9, u10, u11, u12] [.long s0] h =
  cK (E d 155 [.ref 189] h) (Q d 169 9 [some (.ref 189), some (.long s0), none, u3, u4, u5, u6, u7, u8, u9, u10, u11, u12]) [] := by
  rw [← hs.1]
  exact (blkM (fun p => Nat.beq p 9) 4 4 _ _ _).trans rfl

set_option maxRecDepth 16384 in
theorem t_169_9 {d : Nat} {h : AH} (hs : Sh h) (x1 : Int64) (u3 : Option Value) (u4 : Option Value) (u5 : Option Value) (u6 : Option Value) (u7 : Option Value) (u8 : Option Value) (u9 : Option Value) (u10 : Option Value) (u11 : Option Value) (u12 : Option Value) (s0 : Int64) :
    Q d 169 9 [some (.ref 189), some (.long x1), none, u3, u4, u5, u6, u7, u8, u9, u10, u11, u12] [.long s0] h =
  cK (E d 155 [.ref 189] h) (Q d 169 18 [some (.ref 189), some (.long x1), none, some (.long s0), none, u5, u6, u7, u8, u9, u10, u11, u12]) [.ref 284] := by
  rw [← hs.1]
  exact (blkM (fun p => Nat.beq p 18) 6 9 _ _ _).trans rfl

set_option maxRecDepth 16384 in
theorem t_169_18 {d : Nat} {h : AH} (hs : Sh h) (x1 : Int64) (x3 : Int64) (u5 : Option Value) (u6 : Option Value) (u7 : Option Value) (u8 : Option Value) (u9 : Option Value) (u10 : Option Value) (u11 : Option Value) (u12 : Option Value) (s0 : Nat) (s1 : Int64) :
    Q d 169 18 [some (.ref 189), some (.long x1), none, some (.long x3), none, u5, u6, u7, u8, u9, u10, u11, u12] [.long s1, .ref s0] h =
  (ck (gC h s0) 60 <|
  gd s1.toInt32 (gK h s0) <|
  cK (E d 155 [.ref 189] h) (Q d 169 26 [some (.ref 189), some (.long x1), none, some (.long x3), none, some (.int (gA h s0 (ix s1.toInt32))), u6, u7, u8, u9, u10, u11, u12]) []) := by
  rw [← hs.1]
  exact (blkM (fun p => Nat.beq p 26) 6 18 _ _ _).trans rfl

set_option maxRecDepth 16384 in
theorem t_169_26 {d : Nat} {h : AH} (hs : Sh h) (x1 : Int64) (x3 : Int64) (x5 : Int32) (u6 : Option Value) (u7 : Option Value) (u8 : Option Value) (u9 : Option Value) (u10 : Option Value) (u11 : Option Value) (u12 : Option Value) (s0 : Int64) :
    Q d 169 26 [some (.ref 189), some (.long x1), none, some (.long x3), none, some (.int x5), u6, u7, u8, u9, u10, u11, u12] [.long s0] h =
  cK (E d 155 [.ref 189] h) (Q d 169 36 [some (.ref 189), some (.long x1), none, some (.long x3), none, some (.int x5), some (.long s0), none, u8, u9, u10, u11, u12]) [.ref 284] := by
  rw [← hs.1]
  exact (blkM (fun p => Nat.beq p 36) 6 26 _ _ _).trans rfl

set_option maxRecDepth 16384 in
theorem t_169_36 {d : Nat} {h : AH} (hs : Sh h) (x1 : Int64) (x3 : Int64) (x5 : Int32) (x6 : Int64) (u8 : Option Value) (u9 : Option Value) (u10 : Option Value) (u11 : Option Value) (u12 : Option Value) (s0 : Nat) (s1 : Int64) :
    Q d 169 36 [some (.ref 189), some (.long x1), none, some (.long x3), none, some (.int x5), some (.long x6), none, u8, u9, u10, u11, u12] [.long s1, .ref s0] h =
  (ck (gC h s0) 60 <|
  gd s1.toInt32 (gK h s0) <|
  if gA h s0 (ix s1.toInt32) < nI 0 then
   cK (E d 161 [.ref 189, .int (nI 1)] h) (Q d 169 55 [some (.ref 189), none, none, none, none, none, none, none, none, none, none, none, none]) []
  else
   if x5 < nI 0 then
    cK (E d 161 [.ref 189, .int (nI 1)] h) (Q d 169 55 [some (.ref 189), none, none, none, none, none, none, none, none, none, none, none, none]) []
   else
    gd (gA h s0 (ix s1.toInt32)) 13 <|
    cK (E d 164 [.int (gA h 285 (ix (gA h s0 (ix s1.toInt32))))] h) (Q d 169 66 [some (.ref 189), some (.long x1), none, some (.long x3), none, some (.int x5), some (.long x6), none, some (.int (gA h s0 (ix s1.toInt32))), u9, u10, u11, u12]) []) := by
  rw [← hs.1]
  exact (blkM (fun p => Nat.beq p 55 || Nat.beq p 66) 13 36 _ _ _).trans rfl

set_option maxRecDepth 16384 in
theorem t_169_55 {d : Nat} {h : AH} (hs : Sh h) (u0 : Option Value) (u1 : Option Value) (u2 : Option Value) (u3 : Option Value) (u4 : Option Value) (u5 : Option Value) (u6 : Option Value) (u7 : Option Value) (u8 : Option Value) (u9 : Option Value) (u10 : Option Value) (u11 : Option Value) (u12 : Option Value) :
    Q d 169 55 [u0, u1, u2, u3, u4, u5, u6, u7, u8, u9, u10, u11, u12] [] h =
  some (none, h) := by
  rw [← hs.1]
  exact (blkM (fun p => false) 2 55 _ _ _).trans rfl

set_option maxRecDepth 16384 in
theorem t_169_66 {d : Nat} {h : AH} (hs : Sh h) (x1 : Int64) (x3 : Int64) (x5 : Int32) (x6 : Int64) (x8 : Int32) (u9 : Option Value) (u10 : Option Value) (u11 : Option Value) (u12 : Option Value) (s0 : Int32) :
    Q d 169 66 [some (.ref 189), some (.long x1), none, some (.long x3), none, some (.int x5), some (.long x6), none, some (.int x8), u9, u10, u11, u12] [.int s0] h =
  if s0 = nI 0 then
   gd x8 13 <|
   gd x5 13 <|
   if gA h 285 (ix x8) = gA h 285 (ix x5) then
    Q d 169 104 [some (.ref 189), some (.long x1), none, some (.long x3), none, some (.int x5), some (.long x6), none, some (.int x8), none, none, none, none] [.int (nI 1)] h
   else
    Q d 169 104 [some (.ref 189), some (.long x1), none, some (.long x3), none, some (.int x5), some (.long x6), none, some (.int x8), none, none, none, none] [.int (nI 0)] h
  else
   gd x5 13 <|
   cK (E d 164 [.int (gA h 285 (ix x5))] h) (Q d 169 79 [some (.ref 189), some (.long x1), none, some (.long x3), none, some (.int x5), some (.long x6), none, some (.int x8), u9, u10, u11, u12]) [] := by
  rw [← hs.1]
  exact (blkM (fun p => Nat.beq p 79 || Nat.beq p 104) 14 66 _ _ _).trans rfl

set_option maxRecDepth 16384 in
theorem t_169_79 {d : Nat} {h : AH} (hs : Sh h) (x1 : Int64) (x3 : Int64) (x5 : Int32) (x6 : Int64) (x8 : Int32) (u9 : Option Value) (u10 : Option Value) (u11 : Option Value) (u12 : Option Value) (s0 : Int32) :
    Q d 169 79 [some (.ref 189), some (.long x1), none, some (.long x3), none, some (.int x5), some (.long x6), none, some (.int x8), u9, u10, u11, u12] [.int s0] h =
  Q d 169 104 [some (.ref 189), some (.long x1), none, some (.long x3), none, some (.int x5), some (.long x6), none, some (.int x8), none, none, none, none] [.int s0] h := by
  rw [← hs.1]
  exact (blkM (fun p => Nat.beq p 104) 3 79 _ _ _).trans rfl

set_option maxRecDepth 16384 in
theorem t_169_104 {d : Nat} {h : AH} (hs : Sh h) (x1 : Int64) (x3 : Int64) (x5 : Int32) (x6 : Int64) (x8 : Int32) (s0 : Int32) :
    Q d 169 104 [some (.ref 189), some (.long x1), none, some (.long x3), none, some (.int x5), some (.long x6), none, some (.int x8), none, none, none, none] [.int s0] h =
  if s0 = nI 0 then
   cK (E d 161 [.ref 189, .int (nI 2)] h) (Q d 169 116 [some (.ref 189), some (.long x1), none, some (.long x3), none, some (.int x5), some (.long x6), none, some (.int x8), some (.int s0), none, none, none]) []
  else
   if lg_cmp x1 0 < nI 0 then
    Q d 169 180 [some (.ref 189), some (.long x1), none, some (.long x3), none, some (.int x5), some (.long x6), none, some (.int x8), none, none, none, none] [.int (nI 0)] h
   else
    if lg_cmp x6 0 < nI 0 then
     Q d 169 180 [some (.ref 189), some (.long x1), none, some (.long x3), none, some (.int x5), some (.long x6), none, some (.int x8), none, none, none, none] [.int (nI 0)] h
    else
     if lg_cmp x3 0 < nI 0 then
      Q d 169 180 [some (.ref 189), some (.long x1), none, some (.long x3), none, some (.int x5), some (.long x6), none, some (.int x8), none, none, none, none] [.int (nI 0)] h
     else
      if (nI 0) < lg_cmp x1 2000 then
       Q d 169 180 [some (.ref 189), some (.long x1), none, some (.long x3), none, some (.int x5), some (.long x6), none, some (.int x8), none, none, none, none] [.int (nI 0)] h
      else
       gd x8 13 <|
       if (nI 0) < lg_cmp x6 (((gA h 287 (ix x8)).toInt64) - x1) then
        Q d 169 180 [some (.ref 189), some (.long x1), none, some (.long x3), none, some (.int x5), some (.long x6), none, some (.int x8), none, none, none, none] [.int (nI 0)] h
       else
        gd x5 13 <|
        if (nI 0) < lg_cmp x3 (((gA h 287 (ix x5)).toInt64) - x1) then
         Q d 169 180 [some (.ref 189), some (.long x1), none, some (.long x3), none, some (.int x5), some (.long x6), none, some (.int x8), none, none, none, none] [.int (nI 0)] h
        else
         Q d 169 180 [some (.ref 189), some (.long x1), none, some (.long x3), none, some (.int x5), some (.long x6), none, some (.int x8), none, none, none, none] [.int (nI 1)] h := by
  rw [← hs.1]
  exact (blkM (fun p => Nat.beq p 116 || Nat.beq p 180) 43 104 _ _ _).trans rfl

set_option maxRecDepth 16384 in
theorem t_169_116 {d : Nat} {h : AH} (hs : Sh h) (u0 : Option Value) (u1 : Option Value) (u2 : Option Value) (u3 : Option Value) (u4 : Option Value) (u5 : Option Value) (u6 : Option Value) (u7 : Option Value) (u8 : Option Value) (u9 : Option Value) (u10 : Option Value) (u11 : Option Value) (u12 : Option Value) :
    Q d 169 116 [u0, u1, u2, u3, u4, u5, u6, u7, u8, u9, u10, u11, u12] [] h =
  some (none, h) := by
  rw [← hs.1]
  exact (blkM (fun p => false) 2 116 _ _ _).trans rfl

set_option maxRecDepth 16384 in
theorem t_169_180 {d : Nat} {h : AH} (hs : Sh h) (x1 : Int64) (x3 : Int64) (x5 : Int32) (x6 : Int64) (x8 : Int32) (s0 : Int32) :
    Q d 169 180 [some (.ref 189), some (.long x1), none, some (.long x3), none, some (.int x5), some (.long x6), none, some (.int x8), none, none, none, none] [.int s0] h =
  if s0 = nI 0 then
   cK (E d 161 [.ref 189, .int (nI 3)] h) (Q d 169 192 [some (.ref 189), some (.long x1), none, some (.long x3), none, some (.int x5), some (.long x6), none, some (.int x8), none, some (.int s0), none, none]) []
  else
   Q d 169 200 [some (.ref 189), none, none, some (.long x3), none, some (.int x5), some (.long x6), none, some (.int x8), none, none, some (.int x1.toInt32), some (.int (nI 0))] [] h := by
  rw [← hs.1]
  exact (blkM (fun p => Nat.beq p 192 || Nat.beq p 200) 10 180 _ _ _).trans rfl

set_option maxRecDepth 16384 in
theorem t_169_192 {d : Nat} {h : AH} (hs : Sh h) (u0 : Option Value) (u1 : Option Value) (u2 : Option Value) (u3 : Option Value) (u4 : Option Value) (u5 : Option Value) (u6 : Option Value) (u7 : Option Value) (u8 : Option Value) (u9 : Option Value) (u10 : Option Value) (u11 : Option Value) (u12 : Option Value) :
    Q d 169 192 [u0, u1, u2, u3, u4, u5, u6, u7, u8, u9, u10, u11, u12] [] h =
  some (none, h) := by
  rw [← hs.1]
  exact (blkM (fun p => false) 2 192 _ _ _).trans rfl

set_option maxRecDepth 16384 in
theorem t_169_200 {d : Nat} {h : AH} (hs : Sh h) (x3 : Int64) (x5 : Int32) (x6 : Int64) (x8 : Int32) (x11 : Int32) (x12 : Int32) :
    Q d 169 200 [some (.ref 189), none, none, some (.long x3), none, some (.int x5), some (.long x6), none, some (.int x8), none, none, some (.int x11), some (.int x12)] [] h =
  if x12 < x11 then
   gd x8 13 <|
   gd (((gA h 286 (ix x8)) + x6.toInt32) + x12) 2000 <|
   gd x12 2000 <|
   Q d 169 200 [some (.ref 189), none, none, some (.long x3), none, some (.int x5), some (.long x6), none, some (.int x8), none, none, some (.int x11), some (.int (x12 + nI 1))] [] (sB h 294 (ix x12) (gB h 288 (ix (((gA h 286 (ix x8)) + x6.toInt32) + x12))))
  else
   Q d 169 242 [some (.ref 189), none, none, some (.long x3), none, some (.int x5), none, none, none, none, none, some (.int x11), some (.int (nI 0))] [] h := by
  rw [← hs.1]
  exact (blkM (fun p => Nat.beq p 200 || Nat.beq p 242) 23 200 _ _ _).trans rfl

set_option maxRecDepth 16384 in
theorem t_169_242 {d : Nat} {h : AH} (hs : Sh h) (x3 : Int64) (x5 : Int32) (x11 : Int32) (x12 : Int32) :
    Q d 169 242 [some (.ref 189), none, none, some (.long x3), none, some (.int x5), none, none, none, none, none, some (.int x11), some (.int x12)] [] h =
  if x12 < x11 then
   if gI h 3733 189 = nI 0 then
    gd x5 13 <|
    cK (E d 164 [.int (gA h 285 (ix x5))] h) (Q d 169 266 [some (.ref 189), none, none, some (.long x3), none, some (.int x5), none, none, none, none, none, some (.int x11), some (.int x12)]) []
   else
    some (none, h)
  else
   some (none, h) := by
  rw [← hs.1]
  exact (blkM (fun p => Nat.beq p 266) 12 242 _ _ _).trans rfl

set_option maxRecDepth 16384 in
theorem t_169_266 {d : Nat} {h : AH} (hs : Sh h) (x3 : Int64) (x5 : Int32) (x11 : Int32) (x12 : Int32) (u1 : Option Value) (u2 : Option Value) (u6 : Option Value) (u7 : Option Value) (u8 : Option Value) (u9 : Option Value) (u10 : Option Value) (s0 : Int32) :
    Q d 169 266 [some (.ref 189), u1, u2, some (.long x3), none, some (.int x5), u6, u7, u8, u9, u10, some (.int x11), some (.int x12)] [.int s0] h =
  if s0 = nI 0 then
   gd x5 13 <|
   gd x12 2000 <|
   gd (((gA h 286 (ix x5)) + x3.toInt32) + x12) 2000 <|
   Q d 169 242 [some (.ref 189), none, none, some (.long x3), none, some (.int x5), none, none, none, none, none, some (.int x11), some (.int (x12 + nI 1))] [] (sB h 288 (ix (((gA h 286 (ix x5)) + x3.toInt32) + x12)) (gB h 294 (ix x12)))
  else
   gd x5 13 <|
   gd x12 2000 <|
   cK (E d 167 [.ref 189, .int (gA h 285 (ix x5)), .int ((gB h 294 (ix x12)).toInt32)] h) (Q d 169 288 [some (.ref 189), u1, u2, some (.long x3), none, some (.int x5), u6, u7, u8, u9, u10, some (.int x11), some (.int x12)]) [] := by
  rw [← hs.1]
  exact (blkM (fun p => Nat.beq p 242 || Nat.beq p 288) 21 266 _ _ _).trans rfl

set_option maxRecDepth 16384 in
theorem t_169_288 {d : Nat} {h : AH} (hs : Sh h) (x3 : Int64) (x5 : Int32) (x11 : Int32) (x12 : Int32) (u1 : Option Value) (u2 : Option Value) (u6 : Option Value) (u7 : Option Value) (u8 : Option Value) (u9 : Option Value) (u10 : Option Value) (s0 : Int32) :
    Q d 169 288 [some (.ref 189), u1, u2, some (.long x3), none, some (.int x5), u6, u7, u8, u9, u10, some (.int x11), some (.int x12)] [.int s0] h =
  if s0 = nI 0 then
   cK (E d 161 [.ref 189, .int (nI 5)] h) (Q d 169 296 [some (.ref 189), u1, u2, some (.long x3), none, some (.int x5), u6, u7, u8, u9, u10, some (.int x11), some (.int x12)]) []
  else
   gd x5 13 <|
   gd x12 2000 <|
   gd (((gA h 286 (ix x5)) + x3.toInt32) + x12) 2000 <|
   Q d 169 242 [some (.ref 189), none, none, some (.long x3), none, some (.int x5), none, none, none, none, none, some (.int x11), some (.int (x12 + nI 1))] [] (sB h 288 (ix (((gA h 286 (ix x5)) + x3.toInt32) + x12)) (gB h 294 (ix x12))) := by
  rw [← hs.1]
  exact (blkM (fun p => Nat.beq p 242 || Nat.beq p 296) 21 288 _ _ _).trans rfl

set_option maxRecDepth 16384 in
theorem t_169_296 {d : Nat} {h : AH} (hs : Sh h) (x3 : Int64) (x5 : Int32) (x11 : Int32) (x12 : Int32) (u1 : Option Value) (u2 : Option Value) (u6 : Option Value) (u7 : Option Value) (u8 : Option Value) (u9 : Option Value) (u10 : Option Value) :
    Q d 169 296 [some (.ref 189), u1, u2, some (.long x3), none, some (.int x5), u6, u7, u8, u9, u10, some (.int x11), some (.int x12)] [] h =
  Q d 169 242 [some (.ref 189), none, none, some (.long x3), none, some (.int x5), none, none, none, none, none, some (.int x11), some (.int (x12 + nI 1))] [] h := by
  rw [← hs.1]
  exact (blkM (fun p => Nat.beq p 242) 5 296 _ _ _).trans rfl

/-! 170 PostRoomModel.bags()V -/
set_option maxRecDepth 16384 in
theorem t_170 {d : Nat} {h : AH} (hs : Sh h)  :
    E (d + 1) 170 [.ref 189] h =
  cK (E d 155 [.ref 189] h) (Q d 170 4 [some (.ref 189), none, none, none]) [] := by
  rw [← hs.1]
  exact entL (l := [some (.ref 189), none, none, none]) rfl rfl ((blkM (fun p => Nat.beq p 4) 3 0 _ _ _).trans rfl)

set_option maxRecDepth 16384 in
theorem t_170_4 {d : Nat} {h : AH} (hs : Sh h) (u1 : Option Value) (u2 : Option Value) (u3 : Option Value) (s0 : Int64) :
    Q d 170 4 [some (.ref 189), u1, u2, u3] [.long s0] h =
  cK (E d 155 [.ref 189] h) (Q d 170 9 [some (.ref 189), some (.long s0), none, u3]) [] := by
  rw [← hs.1]
  exact (blkM (fun p => Nat.beq p 9) 4 4 _ _ _).trans rfl

set_option maxRecDepth 16384 in
theorem t_170_9 {d : Nat} {h : AH} (hs : Sh h) (x1 : Int64) (u3 : Option Value) (s0 : Int64) :
    Q d 170 9 [some (.ref 189), some (.long x1), none, u3] [.long s0] h =
  if s0.toInt32 < nI 0 then
   cK (E d 161 [.ref 189, .int (nI 1)] h) (Q d 170 20 [some (.ref 189), some (.long x1), none, some (.int s0.toInt32)]) []
  else
   if lg_cmp x1 0 < nI 0 then
    cK (E d 161 [.ref 189, .int (nI 3)] h) (Q d 170 49 [some (.ref 189), none, none, none]) []
   else
    gd (gI h 3597 189) 2 <|
    if lg_cmp x1 ((gA h 225 (ix (gI h 3597 189))).toInt64) < nI 0 then
     gd s0.toInt32 200 <|
     if gA h 248 (ix s0.toInt32) = nI 0 then
      gd s0.toInt32 200 <|
      if gA h 249 (ix s0.toInt32) = gI h 3726 189 then
       gd (((nI 40) * (gI h 3597 189)) + x1.toInt32) 80 <|
       if gA h 226 (ix (((nI 40) * (gI h 3597 189)) + x1.toInt32)) = gI h 3726 189 then
        cK (E d 111 [.ref 189, .int s0.toInt32, .int x1.toInt32] h) (Q d 170 121 [none, none, none, none]) []
       else
        cK (E d 161 [.ref 189, .int (nI 8)] h) (Q d 170 111 [some (.ref 189), some (.long x1), none, some (.int s0.toInt32)]) []
      else
       cK (E d 161 [.ref 189, .int (nI 7)] h) (Q d 170 80 [some (.ref 189), none, none, none]) []
     else
      cK (E d 161 [.ref 189, .int (nI 7)] h) (Q d 170 80 [some (.ref 189), none, none, none]) []
    else
     cK (E d 161 [.ref 189, .int (nI 3)] h) (Q d 170 49 [some (.ref 189), none, none, none]) [] := by
  rw [← hs.1]
  exact (blkM (fun p => Nat.beq p 20 || Nat.beq p 49 || Nat.beq p 80 || Nat.beq p 111 || Nat.beq p 121) 48 9 _ _ _).trans rfl

set_option maxRecDepth 16384 in
theorem t_170_20 {d : Nat} {h : AH} (hs : Sh h) (u0 : Option Value) (u1 : Option Value) (u2 : Option Value) (u3 : Option Value) :
    Q d 170 20 [u0, u1, u2, u3] [] h =
  Q d 170 121 [none, none, none, none] [] h := by
  rw [← hs.1]
  exact (blkM (fun p => Nat.beq p 121) 3 20 _ _ _).trans rfl

set_option maxRecDepth 16384 in
theorem t_170_49 {d : Nat} {h : AH} (hs : Sh h) (u0 : Option Value) (u1 : Option Value) (u2 : Option Value) (u3 : Option Value) :
    Q d 170 49 [u0, u1, u2, u3] [] h =
  Q d 170 121 [none, none, none, none] [] h := by
  rw [← hs.1]
  exact (blkM (fun p => Nat.beq p 121) 3 49 _ _ _).trans rfl

set_option maxRecDepth 16384 in
theorem t_170_80 {d : Nat} {h : AH} (hs : Sh h) (u0 : Option Value) (u1 : Option Value) (u2 : Option Value) (u3 : Option Value) :
    Q d 170 80 [u0, u1, u2, u3] [] h =
  Q d 170 121 [none, none, none, none] [] h := by
  rw [← hs.1]
  exact (blkM (fun p => Nat.beq p 121) 3 80 _ _ _).trans rfl

set_option maxRecDepth 16384 in
theorem t_170_111 {d : Nat} {h : AH} (hs : Sh h) (u0 : Option Value) (u1 : Option Value) (u2 : Option Value) (u3 : Option Value) :
    Q d 170 111 [u0, u1, u2, u3] [] h =
  Q d 170 121 [none, none, none, none] [] h := by
  rw [← hs.1]
  exact (blkM (fun p => Nat.beq p 121) 3 111 _ _ _).trans rfl

set_option maxRecDepth 16384 in
theorem t_170_121 {d : Nat} {h : AH} (hs : Sh h)  :
    Q d 170 121 [none, none, none, none] [] h =
  some (none, h) := by
  rw [← hs.1]
  exact (blkM (fun p => false) 2 121 _ _ _).trans rfl

/-! 171 PostRoomModel.asks(II)V -/
set_option maxRecDepth 16384 in
theorem t_171 {d : Nat} {h : AH} (hs : Sh h) (x1 : Int32) (x2 : Int32) :
    E (d + 1) 171 [.ref 189, .int x1, .int x2] h =
  if x1 = nI 14 then
   gd ((gI h 3723 189) - (nI 1)) 2000 <|
   if lg_cmp (gB h 289 (ix ((gI h 3723 189) - (nI 1)))) 0 < nI 0 then
    cK (E d 161 [.ref 189, .int (nI 3)] h) (Q d 171 111 [some (.ref 189), none, none, none, none, none, none]) []
   else
    gd ((gI h 3723 189) - (nI 1)) 2000 <|
    if (nI 0) < lg_cmp (gB h 289 (ix ((gI h 3723 189) - (nI 1)))) 11 then
     cK (E d 161 [.ref 189, .int (nI 3)] h) (Q d 171 111 [some (.ref 189), none, none, none, none, none, none]) []
    else
     Q d 171 347 [none, none, none, none, none, none, none] [] h
  else
   if x1 = nI 15 then
   cK (E d 155 [.ref 189] h) (Q d 171 122 [some (.ref 189), some (.int x1), some (.int x2), none, none, none, none]) [.ref 284]
  else
   if x1 = nI 16 then
   cK (E d 155 [.ref 189] h) (Q d 171 159 [some (.ref 189), some (.int x1), some (.int x2), none, none, none, none]) [.ref 284]
  else
   if x1 = nI 17 then
   cK (E d 155 [.ref 189] h) (Q d 171 188 [some (.ref 189), some (.int x1), some (.int x2), none, none, none, none]) []
  else
   if x1 = nI 18 then
   cK (E d 173 [.ref 189, .int x1, .int x2] h) (Q d 171 347 [none, none, none, none, none, none, none]) []
  else
   if x1 = nI 19 then
   cK (E d 173 [.ref 189, .int x1, .int x2] h) (Q d 171 347 [none, none, none, none, none, none, none]) []
  else
   if x1 = nI 20 then
   cK (E d 173 [.ref 189, .int x1, .int x2] h) (Q d 171 347 [none, none, none, none, none, none, none]) []
  else
   if x1 = nI 21 then
   cK (E d 173 [.ref 189, .int x1, .int x2] h) (Q d 171 347 [none, none, none, none, none, none, none]) []
  else
   if x1 = nI 22 then
   cK (E d 173 [.ref 189, .int x1, .int x2] h) (Q d 171 347 [none, none, none, none, none, none, none]) []
  else
   if x1 = nI 23 then
   gd (gI h 3726 189) 16 <|
   cK (E d 172 [.ref 189, .long ((gA h 255 (ix (gI h 3726 189))).toInt64)] h) (Q d 171 256 [some (.ref 189), some (.int x1), some (.int x2), none, none, none, none]) []
  else
   if x1 = nI 24 then
   cK (E d 172 [.ref 189, .long ((gI h 3726 189).toInt64)] h) (Q d 171 268 [some (.ref 189), some (.int x1), some (.int x2), none, none, none, none]) []
  else
   if x1 = nI 25 then
   cK (E d 172 [.ref 189, .long ((gI h 3677 189).toInt64)] h) (Q d 171 280 [some (.ref 189), some (.int x1), some (.int x2), none, none, none, none]) []
  else
   if x1 = nI 26 then
   cK (E d 155 [.ref 189] h) (Q d 171 287 [some (.ref 189), some (.int x1), some (.int x2), none, none, none, none]) []
  else
   if x1 = nI 27 then
   cK (E d 155 [.ref 189] h) (Q d 171 188 [some (.ref 189), some (.int x1), some (.int x2), none, none, none, none]) []
  else
   cK (E d 173 [.ref 189, .int x1, .int x2] h) (Q d 171 347 [none, none, none, none, none, none, none]) [] := by
  rw [← hs.1]
  exact entL (l := [some (.ref 189), some (.int x1), some (.int x2), none, none, none, none]) rfl rfl ((blkM (fun p => Nat.beq p 111 || Nat.beq p 122 || Nat.beq p 159 || Nat.beq p 188 || Nat.beq p 256 || Nat.beq p 268 || Nat.beq p 280 || Nat.beq p 287 || Nat.beq p 347) 26 0 _ _ _).trans rfl)

set_option maxRecDepth 16384 in
theorem t_171_111 {d : Nat} {h : AH} (hs : Sh h) (u0 : Option Value) (u1 : Option Value) (u2 : Option Value) (u3 : Option Value) (u4 : Option Value) (u5 : Option Value) (u6 : Option Value) :
    Q d 171 111 [u0, u1, u2, u3, u4, u5, u6] [] h =
  Q d 171 347 [none, none, none, none, none, none, none] [] h := by
  rw [← hs.1]
  exact (blkM (fun p => Nat.beq p 347) 3 111 _ _ _).trans rfl

set_option maxRecDepth 16384 in
theorem t_171_122 {d : Nat} {h : AH} (hs : Sh h) (u1 : Option Value) (u2 : Option Value) (u3 : Option Value) (u4 : Option Value) (u5 : Option Value) (u6 : Option Value) (s0 : Nat) (s1 : Int64) :
    Q d 171 122 [some (.ref 189), u1, u2, u3, u4, u5, u6] [.long s1, .ref s0] h =
  (ck (gC h s0) 60 <|
  gd s1.toInt32 (gK h s0) <|
  if gA h s0 (ix s1.toInt32) < nI 0 then
   cK (E d 161 [.ref 189, .int (nI 1)] h) (Q d 171 134 [some (.ref 189), u1, klV u2, some (.int (gA h s0 (ix s1.toInt32))), u4, u5, u6]) []
  else
   gd (gA h s0 (ix s1.toInt32)) 13 <|
   cK (E d 172 [.ref 189, .long ((gA h 287 (ix (gA h s0 (ix s1.toInt32)))).toInt64)] h) (Q d 171 148 [some (.ref 189), u1, klV u2, some (.int (gA h s0 (ix s1.toInt32))), u4, u5, u6]) []) := by
  rw [← hs.1]
  exact (blkM (fun p => Nat.beq p 134 || Nat.beq p 148) 13 122 _ _ _).trans rfl

set_option maxRecDepth 16384 in
theorem t_171_159 {d : Nat} {h : AH} (hs : Sh h) (u1 : Option Value) (u2 : Option Value) (u3 : Option Value) (u4 : Option Value) (u5 : Option Value) (u6 : Option Value) (s0 : Nat) (s1 : Int64) :
    Q d 171 159 [some (.ref 189), u1, u2, u3, u4, u5, u6] [.long s1, .ref s0] h =
  (ck (gC h s0) 60 <|
  gd s1.toInt32 (gK h s0) <|
  if gA h s0 (ix s1.toInt32) < nI 0 then
   cK (E d 172 [.ref 189, .long 0] h) (Q d 171 181 [none, none, none, none, none, none, none]) []
  else
   gd (gA h s0 (ix s1.toInt32)) 13 <|
   cK (E d 172 [.ref 189, .long ((gA h 285 (ix (gA h s0 (ix s1.toInt32)))).toInt64)] h) (Q d 171 181 [none, none, none, none, none, none, none]) []) := by
  rw [← hs.1]
  exact (blkM (fun p => Nat.beq p 181) 13 159 _ _ _).trans rfl

set_option maxRecDepth 16384 in
theorem t_171_188 {d : Nat} {h : AH} (hs : Sh h) (x1 : Int32) (u2 : Option Value) (u3 : Option Value) (u4 : Option Value) (u5 : Option Value) (u6 : Option Value) (s0 : Int64) :
    Q d 171 188 [some (.ref 189), some (.int x1), u2, u3, u4, u5, u6] [.long s0] h =
  cK (E d 155 [.ref 189] h) (Q d 171 197 [some (.ref 189), some (.int x1), klV u2, some (.long s0), none, u5, u6]) [.ref 284] := by
  rw [← hs.1]
  exact (blkM (fun p => Nat.beq p 197) 6 188 _ _ _).trans rfl

set_option maxRecDepth 16384 in
theorem t_171_256 {d : Nat} {h : AH} (hs : Sh h) (u0 : Option Value) (u1 : Option Value) (u2 : Option Value) (u3 : Option Value) (u4 : Option Value) (u5 : Option Value) (u6 : Option Value) :
    Q d 171 256 [u0, u1, u2, u3, u4, u5, u6] [] h =
  Q d 171 347 [none, none, none, none, none, none, none] [] h := by
  rw [← hs.1]
  exact (blkM (fun p => Nat.beq p 347) 3 256 _ _ _).trans rfl

set_option maxRecDepth 16384 in
theorem t_171_268 {d : Nat} {h : AH} (hs : Sh h) (u0 : Option Value) (u1 : Option Value) (u2 : Option Value) (u3 : Option Value) (u4 : Option Value) (u5 : Option Value) (u6 : Option Value) :
    Q d 171 268 [u0, u1, u2, u3, u4, u5, u6] [] h =
  Q d 171 347 [none, none, none, none, none, none, none] [] h := by
  rw [← hs.1]
  exact (blkM (fun p => Nat.beq p 347) 3 268 _ _ _).trans rfl

set_option maxRecDepth 16384 in
theorem t_171_280 {d : Nat} {h : AH} (hs : Sh h) (u0 : Option Value) (u1 : Option Value) (u2 : Option Value) (u3 : Option Value) (u4 : Option Value) (u5 : Option Value) (u6 : Option Value) :
    Q d 171 280 [u0, u1, u2, u3, u4, u5, u6] [] h =
  Q d 171 347 [none, none, none, none, none, none, none] [] h := by
  rw [← hs.1]
  exact (blkM (fun p => Nat.beq p 347) 3 280 _ _ _).trans rfl

set_option maxRecDepth 16384 in
theorem t_171_287 {d : Nat} {h : AH} (hs : Sh h) (u1 : Option Value) (u2 : Option Value) (u3 : Option Value) (u4 : Option Value) (u5 : Option Value) (u6 : Option Value) (s0 : Int64) :
    Q d 171 287 [some (.ref 189), u1, u2, u3, u4, u5, u6] [.long s0] h =
  if lg_cmp s0 0 < nI 0 then
   cK (E d 161 [.ref 189, .int (nI 3)] h) (Q d 171 314 [some (.ref 189), none, none, none, none, none, none]) []
  else
   gd (gI h 3726 189) 16 <|
   if lg_cmp s0 ((gA h 255 (ix (gI h 3726 189))).toInt64) < nI 0 then
    gd (((nI 200) * (gI h 3726 189)) + s0.toInt32) 3200 <|
    cK (E d 172 [.ref 189, .long ((gA h 254 (ix (((nI 200) * (gI h 3726 189)) + s0.toInt32))).toInt64)] h) (Q d 171 338 [some (.ref 189), u1, klV u2, some (.long s0), none, u5, u6]) []
   else
    cK (E d 161 [.ref 189, .int (nI 3)] h) (Q d 171 314 [some (.ref 189), none, none, none, none, none, none]) [] := by
  rw [← hs.1]
  exact (blkM (fun p => Nat.beq p 314 || Nat.beq p 338) 28 287 _ _ _).trans rfl

set_option maxRecDepth 16384 in
theorem t_171_347 {d : Nat} {h : AH} (hs : Sh h)  :
    Q d 171 347 [none, none, none, none, none, none, none] [] h =
  some (none, h) := by
  rw [← hs.1]
  exact (blkM (fun p => false) 2 347 _ _ _).trans rfl

set_option maxRecDepth 16384 in
theorem t_171_134 {d : Nat} {h : AH} (hs : Sh h) (u0 : Option Value) (u1 : Option Value) (u2 : Option Value) (u3 : Option Value) (u4 : Option Value) (u5 : Option Value) (u6 : Option Value) :
    Q d 171 134 [u0, u1, u2, u3, u4, u5, u6] [] h =
  Q d 171 347 [none, none, none, none, none, none, none] [] h := by
  rw [← hs.1]
  exact (blkM (fun p => Nat.beq p 347) 3 134 _ _ _).trans rfl

set_option maxRecDepth 16384 in
theorem t_171_148 {d : Nat} {h : AH} (hs : Sh h) (u0 : Option Value) (u1 : Option Value) (u2 : Option Value) (u3 : Option Value) (u4 : Option Value) (u5 : Option Value) (u6 : Option Value) :
    Q d 171 148 [u0, u1, u2, u3, u4, u5, u6] [] h =
  Q d 171 347 [none, none, none, none, none, none, none] [] h := by
  rw [← hs.1]
  exact (blkM (fun p => Nat.beq p 347) 3 148 _ _ _).trans rfl

set_option maxRecDepth 16384 in
theorem t_171_181 {d : Nat} {h : AH} (hs : Sh h) (u0 : Option Value) (u1 : Option Value) (u2 : Option Value) (u3 : Option Value) (u4 : Option Value) (u5 : Option Value) (u6 : Option Value) :
    Q d 171 181 [u0, u1, u2, u3, u4, u5, u6] [] h =
  Q d 171 347 [none, none, none, none, none, none, none] [] h := by
  rw [← hs.1]
  exact (blkM (fun p => Nat.beq p 347) 3 181 _ _ _).trans rfl

set_option maxRecDepth 16384 in
theorem t_171_197 {d : Nat} {h : AH} (hs : Sh h) (x1 : Int32) (x3 : Int64) (u2 : Option Value) (u5 : Option Value) (u6 : Option Value) (s0 : Nat) (s1 : Int64) :
    Q d 171 197 [some (.ref 189), some (.int x1), u2, some (.long x3), none, u5, u6] [.long s1, .ref s0] h =
  (ck (gC h s0) 60 <|
  gd s1.toInt32 (gK h s0) <|
  if x1 = nI 27 then
   cK (E d 163 [.ref 189, .int (gA h s0 (ix s1.toInt32)), .long x3, .int (nI 1)] h) (Q d 171 219 [some (.ref 189), none, none, none, none, none, none]) []
  else
   cK (E d 163 [.ref 189, .int (gA h s0 (ix s1.toInt32)), .long x3, .int (nI 0)] h) (Q d 171 219 [some (.ref 189), none, none, none, none, none, none]) []) := by
  rw [← hs.1]
  exact (blkM (fun p => Nat.beq p 219) 13 197 _ _ _).trans rfl

set_option maxRecDepth 16384 in
theorem t_171_314 {d : Nat} {h : AH} (hs : Sh h) (u0 : Option Value) (u1 : Option Value) (u2 : Option Value) (u3 : Option Value) (u4 : Option Value) (u5 : Option Value) (u6 : Option Value) :
    Q d 171 314 [u0, u1, u2, u3, u4, u5, u6] [] h =
  Q d 171 347 [none, none, none, none, none, none, none] [] h := by
  rw [← hs.1]
  exact (blkM (fun p => Nat.beq p 347) 3 314 _ _ _).trans rfl

set_option maxRecDepth 16384 in
theorem t_171_338 {d : Nat} {h : AH} (hs : Sh h) (u0 : Option Value) (u1 : Option Value) (u2 : Option Value) (u3 : Option Value) (u4 : Option Value) (u5 : Option Value) (u6 : Option Value) :
    Q d 171 338 [u0, u1, u2, u3, u4, u5, u6] [] h =
  Q d 171 347 [none, none, none, none, none, none, none] [] h := by
  rw [← hs.1]
  exact (blkM (fun p => Nat.beq p 347) 3 338 _ _ _).trans rfl

set_option maxRecDepth 16384 in
theorem t_171_219 {d : Nat} {h : AH} (hs : Sh h) (u1 : Option Value) (u2 : Option Value) (u3 : Option Value) (u4 : Option Value) (u5 : Option Value) (u6 : Option Value) (s0 : Int32) :
    Q d 171 219 [some (.ref 189), u1, u2, u3, u4, u5, u6] [.int s0] h =
  if gI h 3733 189 = nI 0 then
   gd s0 2000 <|
   cK (E d 172 [.ref 189, .long (gB h 288 (ix s0))] h) (Q d 171 239 [some (.ref 189), u1, u2, u3, u4, klV u5, some (.int s0)]) []
  else
   Q d 171 347 [none, none, none, none, none, none, none] [] h := by
  rw [← hs.1]
  exact (blkM (fun p => Nat.beq p 239 || Nat.beq p 347) 11 219 _ _ _).trans rfl

set_option maxRecDepth 16384 in
theorem t_171_239 {d : Nat} {h : AH} (hs : Sh h) (u0 : Option Value) (u1 : Option Value) (u2 : Option Value) (u3 : Option Value) (u4 : Option Value) (u5 : Option Value) (u6 : Option Value) :
    Q d 171 239 [u0, u1, u2, u3, u4, u5, u6] [] h =
  Q d 171 347 [none, none, none, none, none, none, none] [] h := by
  rw [← hs.1]
  exact (blkM (fun p => Nat.beq p 347) 3 239 _ _ _).trans rfl

/-! 172 PostRoomModel.push(J)V -/
set_option maxRecDepth 16384 in
theorem t_172 {d : Nat} {h : AH} (hs : Sh h) (x1 : Int64) :
    E (d + 1) 172 [.ref 189, .long x1] h =
  (gd (gI h 3723 189) 2000 <|
  some (none, sI (sB h 289 (ix (gI h 3723 189)) x1) 3723 189 ((gI h 3723 189) + (nI 1)))) := by
  rw [← hs.1]
  exact entL (l := [some (.ref 189), some (.long x1), none]) rfl rfl ((blkM (fun p => false) 14 0 _ _ _).trans rfl)

