/-! ===== THE PURE MACHINE: a heap of typed maps, frames of values, one instruction a step (cells and slots are counted) ===== -/
/-- ((next id, slots), class tag, length, int fields, long fields, reference fields, int arrays, long arrays, reference arrays) -/
abbrev AH : Type := (Nat × Nat) × (Nat → Nat) × (Nat → Nat) × (Nat → Nat → Int32) × (Nat → Nat → Int64) × (Nat → Nat → Option Nat) × (Nat → Nat → Int32) × (Nat → Nat → Int64) × (Nat → Nat → Option Nat)
def gN (h : AH) : Nat := h.1.1
def gS (h : AH) : Nat := h.1.2
def gC (h : AH) : Nat → Nat := h.2.1
def gK (h : AH) : Nat → Nat := h.2.2.1
def gI (h : AH) : Nat → Nat → Int32 := h.2.2.2.1
def gL (h : AH) : Nat → Nat → Int64 := h.2.2.2.2.1
def gR (h : AH) : Nat → Nat → Option Nat := h.2.2.2.2.2.1
def gA (h : AH) : Nat → Nat → Int32 := h.2.2.2.2.2.2.1
def gB (h : AH) : Nat → Nat → Int64 := h.2.2.2.2.2.2.2.1
def gO (h : AH) : Nat → Nat → Option Nat := h.2.2.2.2.2.2.2.2
def up1 {α : Type} (f : Nat → α) (x : Nat) (v : α) : Nat → α := fun y => if y = x then v else f y
def up2 {α : Type} (f : Nat → Nat → α) (k x : Nat) (v : α) : Nat → Nat → α := fun k' => if k' = k then up1 (f k') x v else f k'
def sI (h : AH) (k x : Nat) (v : Int32) : AH := (h.1, gC h, gK h, up2 (gI h) k x v, gL h, gR h, gA h, gB h, gO h)
def sL (h : AH) (k x : Nat) (v : Int64) : AH := (h.1, gC h, gK h, gI h, up2 (gL h) k x v, gR h, gA h, gB h, gO h)
def sR (h : AH) (k x : Nat) (v : Option Nat) : AH := (h.1, gC h, gK h, gI h, gL h, up2 (gR h) k x v, gA h, gB h, gO h)
def sA (h : AH) (x i : Nat) (v : Int32) : AH := (h.1, gC h, gK h, gI h, gL h, gR h, up2 (gA h) x i v, gB h, gO h)
def sB (h : AH) (x i : Nat) (v : Int64) : AH := (h.1, gC h, gK h, gI h, gL h, gR h, gA h, up2 (gB h) x i v, gO h)
def sO (h : AH) (x i : Nat) (v : Option Nat) : AH := (h.1, gC h, gK h, gI h, gL h, gR h, gA h, gB h, up2 (gO h) x i v)
/-- a new cell: class or kind, places, slots -/
def nw (h : AH) (c k n : Nat) : AH := ((gN h + 1, gS h + n), up1 (gC h) (gN h) c, up1 (gK h) (gN h) k, (fun j => up1 (gI h j) (gN h) 0), (fun j => up1 (gL h j) (gN h) 0), (fun j => up1 (gR h j) (gN h) none), up1 (gA h) (gN h) (fun _ => 0), up1 (gB h) (gN h) (fun _ => 0), up1 (gO h) (gN h) (fun _ => none))
/-- a new object of a class with so many fields -/
abbrev nwO (h : AH) (c n : Nat) : AH := nw h c 0 n
/-- a new array of a kind, of so many places -/
abbrev nwA (h : AH) (c n : Nat) : AH := nw h c n n
/-- new int[n][k]: the outer array, then its rows -/
def nwM (h : AH) (n k : Nat) : AH := ((gN h + (1 + n), gS h + (n + n * k)), (fun x => if x = gN h then 66 else if gN h < x ∧ x < gN h + (1 + n) then 60 else gC h x), (fun x => if x = gN h then n else if gN h < x ∧ x < gN h + (1 + n) then k else gK h x), (fun j x => if gN h ≤ x ∧ x < gN h + (1 + n) then 0 else gI h j x), (fun j x => if gN h ≤ x ∧ x < gN h + (1 + n) then 0 else gL h j x), (fun j x => if gN h ≤ x ∧ x < gN h + (1 + n) then none else gR h j x), (fun x => if gN h ≤ x ∧ x < gN h + (1 + n) then fun _ => 0 else gA h x), (fun x => if gN h ≤ x ∧ x < gN h + (1 + n) then fun _ => 0 else gB h x), (fun x => if x = gN h then (fun i => if i < n then some (gN h + 1 + i) else none) else if gN h < x ∧ x < gN h + (1 + n) then fun _ => none else gO h x))
/-- n places of the array x, from sp on, to the array y, from dp on, as if taken first -/
def cpA (h : AH) (x sp y dp n : Nat) : AH := (h.1, gC h, gK h, gI h, gL h, gR h, up1 (gA h) y (va_cpy (gA h x) (gA h y) sp dp n), gB h, gO h)
def cpB (h : AH) (x sp y dp n : Nat) : AH := (h.1, gC h, gK h, gI h, gL h, gR h, gA h, up1 (gB h) y (va_cpy (gB h x) (gB h y) sp dp n), gO h)
def cpO (h : AH) (x sp y dp n : Nat) : AH := (h.1, gC h, gK h, gI h, gL h, gR h, gA h, gB h, up1 (gO h) y (va_cpy (gO h x) (gO h y) sp dp n))
abbrev Ls : Type := List (Option Value)
abbrev Vs : Type := List Value
abbrev Ot : Type := Option Value × AH
/-- an instruction; what its operands are resolved to; constants and switches; a long constant; which locals are dead there -/
abbrev CI : Type := Instr × (Nat × Nat × Nat) × List (Int32 × Nat) × Int64 × List Bool
abbrev Cl : Type := Nat → Vs → AH → Option Ot
abbrev Cn : Type := Nat → Ls → Vs → AH → Option Ot
def ldL : Ls → Nat → Option Value
  | [], _ => none
  | v :: _, 0 => v
  | _ :: t, n + 1 => ldL t n
def seL : Ls → Nat → Option Value → Ls
  | [], _, _ => []
  | _ :: t, 0, v => v :: t
  | a :: t, n + 1, v => a :: seL t n v
def klV : Option Value → Option Value
  | some (.long _) => none
  | some (.double _) => none
  | v => v
/-- a long that ends at i is gone -/
def klL (l : Ls) : Nat → Ls
  | 0 => l
  | n + 1 => seL l n (klV (ldL l n))
def stL (l : Ls) (i : Nat) (v : Value) : Ls := seL (klL l i) i (some v)
def stL2 (l : Ls) (i : Nat) (v : Value) : Ls := seL (stL l i v) (i + 1) none
def mkL : Ls → List Bool → Ls
  | l, [] => l
  | [], _ => []
  | a :: t, b :: bs => (bif b then none else a) :: mkL t bs
def kc : List (Int32 × Nat) → Int32
  | [] => 0
  | (v, _) :: _ => v
def ix (i : Int32) : Nat := i.toNatClampNeg
/-- the words of operands -/
def vsz : Vs → Nat
  | [] => 0
  | .long _ :: t => 2 + vsz t
  | .double _ :: t => 2 + vsz t
  | _ :: t => 1 + vsz t
/-- the arguments, the last one on top -/
def spl : Nat → Vs → Vs → Option (Vs × Vs)
  | 0, acc, st => some (acc, st)
  | n + 1, acc, v :: t => spl n (v :: acc) t
  | _ + 1, _, [] => none
def sw1 (k : Nat → Option Ot) (x : Int32) (d : Nat) : List (Int32 × Nat) → Option Ot
  | [] => k d
  | (v, t) :: r => if x = v then k t else sw1 k x d r
def o_ld (k : Vs → Option Ot) (l : Ls) (i : Nat) (st : Vs) : Option Ot := match ldL l i with
  | some (.int x) => k (.int x :: st)
  | _ => none
def o_ldl (k : Vs → Option Ot) (l : Ls) (i : Nat) (st : Vs) : Option Ot := match ldL l i with
  | some (.long x) => k (.long x :: st)
  | _ => none
def o_lda (k : Vs → Option Ot) (l : Ls) (i : Nat) (st : Vs) : Option Ot := match ldL l i with
  | some (.ref x) => k (.ref x :: st)
  | some .null => k (.null :: st)
  | _ => none
def o_st (k : Ls → Vs → Option Ot) (l : Ls) (i : Nat) : Vs → Option Ot
  | .int x :: t => k (stL l i (.int x)) t
  | _ => none
def o_stl (k : Ls → Vs → Option Ot) (l : Ls) (i : Nat) : Vs → Option Ot
  | .long x :: t => k (stL2 l i (.long x)) t
  | _ => none
def o_sta (k : Ls → Vs → Option Ot) (l : Ls) (i : Nat) : Vs → Option Ot
  | .ref x :: t => k (stL l i (.ref x)) t
  | _ => none
def o_b (f : Int32 → Int32 → Int32) (k : Vs → Option Ot) : Vs → Option Ot
  | .int y :: .int x :: t => k (.int (f x y) :: t)
  | _ => none
def o_bd (f : Int32 → Int32 → Int32) (k : Vs → Option Ot) : Vs → Option Ot
  | .int y :: .int x :: t => if y = 0 then none else k (.int (f x y) :: t)
  | _ => none
def o_u (f : Int32 → Int32) (k : Vs → Option Ot) : Vs → Option Ot
  | .int x :: t => k (.int (f x) :: t)
  | _ => none
def o_B (f : Int64 → Int64 → Int64) (k : Vs → Option Ot) : Vs → Option Ot
  | .long y :: .long x :: t => k (.long (f x y) :: t)
  | _ => none
def o_Bd (f : Int64 → Int64 → Int64) (k : Vs → Option Ot) : Vs → Option Ot
  | .long y :: .long x :: t => if y = 0 then none else k (.long (f x y) :: t)
  | _ => none
def o_Bs (f : Int64 → Int32 → Int64) (k : Vs → Option Ot) : Vs → Option Ot
  | .int y :: .long x :: t => k (.long (f x y) :: t)
  | _ => none
def o_cmp (k : Vs → Option Ot) : Vs → Option Ot
  | .long y :: .long x :: t => k (.int (lg_cmp x y) :: t)
  | _ => none
/-- a compare and jump: eq 0, ne 1, lt 2, ge 3, gt 4, le 5 -/
def o_if (a b : Vs → Option Ot) : Nat → Int32 → Int32 → Vs → Option Ot
  | 0, x, y, t => if x = y then a t else b t
  | 1, x, y, t => if x = y then b t else a t
  | 2, x, y, t => if x < y then a t else b t
  | 3, x, y, t => if x < y then b t else a t
  | 4, x, y, t => if y < x then a t else b t
  | _, x, y, t => if y < x then b t else a t
def cnN : ClassFile.Cond → Nat
  | .eq => 0
  | .ne => 1
  | .lt => 2
  | .ge => 3
  | .gt => 4
  | .le => 5
def o_if0 (a b : Vs → Option Ot) (c : Nat) : Vs → Option Ot
  | .int x :: t => o_if a b c x 0 t
  | _ => none
def o_if2 (a b : Vs → Option Ot) (c : Nat) : Vs → Option Ot
  | .int y :: .int x :: t => o_if a b c x y t
  | _ => none
def o_ifa (h : AH) (a b : Vs → Option Ot) : Vs → Option Ot
  | .ref y :: .ref x :: t => if x = y then a t else if gC h x ≠ 0 ∧ gC h y ≠ 0 ∧ (100 ≤ x ∨ 100 ≤ y) then b t else none
  | _ => none
/-- a field read: its kind 0 int, 1 long, 2 reference, 3 boolean -/
def o_get (h : AH) (c j kd : Nat) (k : Vs → Option Ot) : Vs → Option Ot
  | .ref x :: t => if gC h x = c then (match kd with
    | 1 => k (.long (gL h (256 * c + j) x) :: t)
    | 2 => (gR h (256 * c + j) x).bind fun y => k (.ref y :: t)
    | _ => k (.int (gI h (256 * c + j) x) :: t)) else none
  | _ => none
def o_put (h : AH) (c j kd : Nat) (k : Vs → AH → Option Ot) : Vs → Option Ot
  | .int v :: .ref x :: t => if gC h x = c then (match kd with
    | 0 => k t (sI h (256 * c + j) x v)
    | 3 => if v = 0 ∨ v = 1 then k t (sI h (256 * c + j) x v) else none
    | _ => none) else none
  | .long v :: .ref x :: t => if gC h x = c then (match kd with
    | 1 => k t (sL h (256 * c + j) x v)
    | _ => none) else none
  | .ref v :: .ref x :: t => if gC h x = c then (match kd with
    | 2 => k t (sR h (256 * c + j) x (some v))
    | _ => none) else none
  | _ => none
def o_ali (h : AH) (c : Nat) (k : Vs → Option Ot) : Vs → Option Ot
  | .int i :: .ref x :: t => if gC h x = c then (if i < 0 then none else if ix i < gK h x then k (.int (gA h x (ix i)) :: t) else none) else none
  | _ => none
def o_all (h : AH) (k : Vs → Option Ot) : Vs → Option Ot
  | .int i :: .ref x :: t => if gC h x = 61 then (if i < 0 then none else if ix i < gK h x then k (.long (gB h x (ix i)) :: t) else none) else none
  | _ => none
def o_ala (h : AH) (c : Nat) (k : Vs → Option Ot) : Vs → Option Ot
  | .int i :: .ref x :: t => if gC h x = c then (if i < 0 then none else if ix i < gK h x then (gO h x (ix i)).bind fun y => k (.ref y :: t) else none) else none
  | _ => none
/-- what an array of a kind keeps: 62 chars, 63 booleans -/
def nrA (c : Nat) (v : Int32) : Int32 := match c with
  | 62 => vp_nar .char v
  | 63 => vp_nar .boolean v
  | _ => v
def o_asi (h : AH) (c : Nat) (k : Vs → AH → Option Ot) : Vs → Option Ot
  | .int v :: .int i :: .ref x :: t => if gC h x = c ∧ 100 ≤ x then (if i < 0 then none else if ix i < gK h x then k t (sA h x (ix i) (nrA c v)) else none) else none
  | _ => none
def o_asl (h : AH) (k : Vs → AH → Option Ot) : Vs → Option Ot
  | .long v :: .int i :: .ref x :: t => if gC h x = 61 ∧ 100 ≤ x then (if i < 0 then none else if ix i < gK h x then k t (sB h x (ix i) v) else none) else none
  | _ => none
/-- into an array of Objects alone: an object of a known class, or null -/
def o_asa (h : AH) (k : Vs → AH → Option Ot) : Vs → Option Ot
  | .ref v :: .int i :: .ref x :: t => if gC h x = 65 ∧ 100 ≤ x then (if gC h v ≠ 0 ∧ gC h v < 15 then (if i < 0 then none else if ix i < gK h x then k t (sO h x (ix i) (some v)) else none) else none) else none
  | .null :: .int i :: .ref x :: t => if gC h x = 65 ∧ 100 ≤ x then (if i < 0 then none else if ix i < gK h x then k t (sO h x (ix i) none) else none) else none
  | _ => none
def o_len (h : AH) (k : Vs → Option Ot) : Vs → Option Ot
  | .ref x :: t => if 60 ≤ gC h x ∧ gC h x ≤ 66 then k (.int (nI (gK h x)) :: t) else none
  | _ => none
def o_nwa (h : AH) (c : Nat) (k : Vs → AH → Option Ot) : Vs → Option Ot
  | .int n :: t => if n < 0 then none else if ix n ≤ 1000000 then k (.ref (gN h) :: t) (nwA h c (ix n)) else none
  | _ => none
def o_nwm (h : AH) (k : Vs → AH → Option Ot) : Vs → Option Ot
  | .int b :: .int a :: t => if a < 0 ∨ b < 0 then none else if ix a ≤ 1000 ∧ ix b ≤ 1000 then k (.ref (gN h) :: t) (nwM h (ix a) (ix b)) else none
  | _ => none
def o_cpy (h : AH) (c : Nat) (k : Vs → AH → Option Ot) : Vs → Option Ot
  | .int n :: .int dp :: .ref y :: .int sp :: .ref x :: t => if gC h x = c ∧ gC h y = c ∧ 100 ≤ x ∧ 100 ≤ y ∧ vsz t ≤ 20 then (if n < 0 ∨ dp < 0 ∨ sp < 0 then none else if ix sp + ix n ≤ gK h x ∧ ix dp + ix n ≤ gK h y then k t (match c with
    | 60 => cpA h x (ix sp) y (ix dp) (ix n)
    | 61 => cpB h x (ix sp) y (ix dp) (ix n)
    | _ => cpO h x (ix sp) y (ix dp) (ix n)) else none) else none
  | _ => none
/-- a call of method y, its receiver of class c -/
def o_inv (call : Cl) (h : AH) (y na c : Nat) (k : Vs → AH → Option Ot) (st : Vs) : Option Ot := match spl na [] st with
  | some (as, .ref x :: t) => if gC h x = c then (bif Nat.ble (vsz t) 20 then (call y (.ref x :: as) h).bind fun o => k (o.1.toList ++ t) o.2 else none) else none
  | _ => none
def o_ins (call : Cl) (h : AH) (y na : Nat) (k : Vs → AH → Option Ot) (st : Vs) : Option Ot := match spl na [] st with
  | some (as, t) => bif Nat.ble (vsz t) 20 then (call y as h).bind fun o => k (o.1.toList ++ t) o.2 else none
  | _ => none
def o_inc (call : Cl) (h : AH) (y na : Nat) (k : Vs → AH → Option Ot) (st : Vs) : Option Ot := match spl na [] st with
  | some (as, .ref x :: t) => bif Nat.ble (vsz t) 20 then (call y (.ref x :: as) h).bind fun o => k (o.1.toList ++ t) o.2 else none
  | _ => none
def nrR (c : Nat) (v : Int32) : Prop := match c with
  | 1 => v = 0 ∨ v = 1
  | 2 => narrow .char (.int v) = .int v
  | 3 => narrow .byte (.int v) = .int v
  | _ => True
def o_ret (h : AH) (c : Nat) : Vs → Option Ot
  | [.int v] => (match c with
    | 0 => some (some (.int v), h)
    | 1 => if v = 0 ∨ v = 1 then some (some (.int v), h) else none
    | 2 => if narrow .char (.int v) = .int v then some (some (.int v), h) else none
    | _ => if narrow .byte (.int v) = .int v then some (some (.int v), h) else none)
  | _ => none
/-- a static that is a reference: number 64 may be null (then its length is 1) -/
def gsv (h : AH) (x : Nat) : Value := bif Nat.beq x 64 && Nat.beq (gK h 64) 1 then .null else .ref x
def stp (call : Cl) (k : Cn) (ci : CI) (pc : Nat) (l : Ls) (st : Vs) (h : AH) : Option Ot := match ci with
  | (ins, (ra, rb, rc), tb, lc, _) => match ins with
    | .aconst_null => k (pc + 1) l (.null :: st) h
    | .iconst _ => k (pc + 1) l (.int (kc tb) :: st) h
    | .bipush _ => k (pc + 2) l (.int (kc tb) :: st) h
    | .sipush _ => k (pc + 3) l (.int (kc tb) :: st) h
    | .lconst _ => k (pc + 1) l (.long lc :: st) h
    | .ldc2_w _ => k (pc + 3) l (.long lc :: st) h
    | .ldc _ => (match ra with
      | 0 => k (pc + 2) l (.int (kc tb) :: st) h
      | _ => k (pc + 2) l (.ref rb :: st) h)
    | .ldc_w _ => (match ra with
      | 0 => k (pc + 3) l (.int (kc tb) :: st) h
      | _ => k (pc + 3) l (.ref rb :: st) h)
    | .getstatic _ => (match ra with
      | 0 => k (pc + 3) l (.int (kc tb) :: st) h
      | _ => k (pc + 3) l (gsv h rb :: st) h)
    | .iload i => o_ld (fun st => k (pc + 2) l st h) l i st
    | .iload_n i => o_ld (fun st => k (pc + 1) l st h) l i st
    | .lload i => o_ldl (fun st => k (pc + 2) l st h) l i st
    | .lload_n i => o_ldl (fun st => k (pc + 1) l st h) l i st
    | .aload i => o_lda (fun st => k (pc + 2) l st h) l i st
    | .aload_n i => o_lda (fun st => k (pc + 1) l st h) l i st
    | .istore i => o_st (fun l st => k (pc + 2) l st h) l i st
    | .istore_n i => o_st (fun l st => k (pc + 1) l st h) l i st
    | .lstore i => o_stl (fun l st => k (pc + 2) l st h) l i st
    | .lstore_n i => o_stl (fun l st => k (pc + 1) l st h) l i st
    | .astore i => o_sta (fun l st => k (pc + 2) l st h) l i st
    | .astore_n i => o_sta (fun l st => k (pc + 1) l st h) l i st
    | .iinc i _ => (match ldL l i with
      | some (.int x) => k (pc + 3) (stL l i (.int (x + kc tb))) st h
      | _ => none)
    | .iadd => o_b (· + ·) (fun st => k (pc + 1) l st h) st
    | .isub => o_b (· - ·) (fun st => k (pc + 1) l st h) st
    | .imul => o_b (· * ·) (fun st => k (pc + 1) l st h) st
    | .iand => o_b (· &&& ·) (fun st => k (pc + 1) l st h) st
    | .ior => o_b (· ||| ·) (fun st => k (pc + 1) l st h) st
    | .ixor => o_b (· ^^^ ·) (fun st => k (pc + 1) l st h) st
    | .ishl => o_b (fun x y => x <<< (y &&& 31)) (fun st => k (pc + 1) l st h) st
    | .ishr => o_b (fun x y => x >>> (y &&& 31)) (fun st => k (pc + 1) l st h) st
    | .idiv => o_bd (· / ·) (fun st => k (pc + 1) l st h) st
    | .irem => o_bd (fun x y => x - x / y * y) (fun st => k (pc + 1) l st h) st
    | .ineg => o_u (fun x => -x) (fun st => k (pc + 1) l st h) st
    | .i2b => o_u (fun x => x.toInt8.toInt32) (fun st => k (pc + 1) l st h) st
    | .i2s => o_u (fun x => x.toInt16.toInt32) (fun st => k (pc + 1) l st h) st
    | .i2c => o_u (fun x => (x.toUInt32 % 65536).toInt32) (fun st => k (pc + 1) l st h) st
    | .ladd => o_B (· + ·) (fun st => k (pc + 1) l st h) st
    | .lsub => o_B (· - ·) (fun st => k (pc + 1) l st h) st
    | .lmul => o_B (· * ·) (fun st => k (pc + 1) l st h) st
    | .land => o_B (· &&& ·) (fun st => k (pc + 1) l st h) st
    | .lor => o_B (· ||| ·) (fun st => k (pc + 1) l st h) st
    | .ldiv => o_Bd (· / ·) (fun st => k (pc + 1) l st h) st
    | .lrem => o_Bd (fun x y => x - x / y * y) (fun st => k (pc + 1) l st h) st
    | .lneg => (match st with
      | .long x :: t => k (pc + 1) l (.long (-x) :: t) h
      | _ => none)
    | .lshl => o_Bs (fun x y => x <<< (y.toInt64 &&& 63)) (fun st => k (pc + 1) l st h) st
    | .lshr => o_Bs (fun x y => x >>> (y.toInt64 &&& 63)) (fun st => k (pc + 1) l st h) st
    | .lushr => o_Bs (fun x y => (x.toUInt64 >>> (y.toInt64.toUInt64 &&& Int64.toUInt64 63)).toInt64) (fun st => k (pc + 1) l st h) st
    | .lcmp => o_cmp (fun st => k (pc + 1) l st h) st
    | .i2l => (match st with
      | .int x :: t => k (pc + 1) l (.long x.toInt64 :: t) h
      | _ => none)
    | .l2i => (match st with
      | .long x :: t => k (pc + 1) l (.int x.toInt32 :: t) h
      | _ => none)
    | .l2f => (match st with
      | .long x :: t => k (pc + 1) l (.float (FP.l2f x) :: t) h
      | _ => none)
    | .f2l => (match st with
      | .float x :: t => k (pc + 1) l (.long (FP.f2l x) :: t) h
      | _ => none)
    | .l2d => (match st with
      | .long x :: t => k (pc + 1) l (.double (FP.l2d x) :: t) h
      | _ => none)
    | .d2l => (match st with
      | .double x :: t => k (pc + 1) l (.long (FP.d2l x) :: t) h
      | _ => none)
    | .dup => (match st with
      | .int x :: t => k (pc + 1) l (.int x :: .int x :: t) h
      | .ref x :: t => k (pc + 1) l (.ref x :: .ref x :: t) h
      | _ => none)
    | .dup_x1 => (match st with
      | .int x :: .ref y :: t => k (pc + 1) l (.int x :: .ref y :: .int x :: t) h
      | .ref x :: .ref y :: t => k (pc + 1) l (.ref x :: .ref y :: .ref x :: t) h
      | _ => none)
    | .dup2 => (match st with
      | .int x :: .ref y :: t => k (pc + 1) l (.int x :: .ref y :: .int x :: .ref y :: t) h
      | .int x :: .int y :: t => k (pc + 1) l (.int x :: .int y :: .int x :: .int y :: t) h
      | .long x :: t => k (pc + 1) l (.long x :: .long x :: t) h
      | _ => none)
    | .pop => (match st with
      | .int _ :: t => k (pc + 1) l t h
      | .ref _ :: t => k (pc + 1) l t h
      | _ => none)
    | .goto _ => k ra l st h
    | .ifCond c _ => o_if0 (fun st => k ra l st h) (fun st => k (pc + 3) l st h) (cnN c) st
    | .if_icmp c _ => o_if2 (fun st => k ra l st h) (fun st => k (pc + 3) l st h) (cnN c) st
    | .if_acmp c _ => (match c with
      | .eq => o_ifa h (fun st => k ra l st h) (fun st => k (pc + 3) l st h) st
      | .ne => o_ifa h (fun st => k (pc + 3) l st h) (fun st => k ra l st h) st)
    | .tableswitch _ _ _ _ => (match st with
      | .int x :: t => sw1 (fun q => k q l t h) x ra tb
      | _ => none)
    | .lookupswitch _ _ => (match st with
      | .int x :: t => sw1 (fun q => k q l t h) x ra tb
      | _ => none)
    | .getfield _ => o_get h ra rb rc (fun st => k (pc + 3) l st h) st
    | .putfield _ => o_put h ra rb rc (fun st h => k (pc + 3) l st h) st
    | .new _ => k (pc + 3) l (.ref (gN h) :: st) (nwO h ra rb)
    | .newarray _ => o_nwa h ra (fun st h => k (pc + 2) l st h) st
    | .anewarray _ => o_nwa h 65 (fun st h => k (pc + 3) l st h) st
    | .multianewarray _ _ => o_nwm h (fun st h => k (pc + 4) l st h) st
    | .arraylength => o_len h (fun st => k (pc + 1) l st h) st
    | .iaload => o_ali h 60 (fun st => k (pc + 1) l st h) st
    | .caload => o_ali h 62 (fun st => k (pc + 1) l st h) st
    | .baload => o_ali h ra (fun st => k (pc + 1) l st h) st
    | .laload => o_all h (fun st => k (pc + 1) l st h) st
    | .aaload => o_ala h ra (fun st => k (pc + 1) l st h) st
    | .iastore => o_asi h 60 (fun st h => k (pc + 1) l st h) st
    | .castore => o_asi h 62 (fun st h => k (pc + 1) l st h) st
    | .bastore => o_asi h 63 (fun st h => k (pc + 1) l st h) st
    | .lastore => o_asl h (fun st h => k (pc + 1) l st h) st
    | .aastore => o_asa h (fun st h => k (pc + 1) l st h) st
    | .checkcast _ => (match st with
      | .ref x :: t => if gC h x = ra then k (pc + 3) l (.ref x :: t) h else none
      | _ => none)
    | .invokevirtual _ => (match rc with
      | 0 => (match st with
        | .ref x :: t => if gC h x = 65 ∧ vsz t ≤ 20 then k (pc + 3) l (.ref ra :: t) h else none
        | _ => none)
      | c + 1 => o_inv call h ra rb (c + 1) (fun st h => k (pc + 3) l st h) st)
    | .invokestatic _ => (match rc with
      | 0 => o_ins call h ra rb (fun st h => k (pc + 3) l st h) st
      | c + 1 => o_cpy h (c + 1) (fun st h => k (pc + 3) l st h) st)
    | .invokespecial _ => (match rc with
      | 0 => (match st with
        | .ref _ :: t => bif Nat.ble (vsz t) 20 then k (pc + 3) l t h else none
        | _ => none)
      | _ + 1 => o_inc call h ra rb (fun st h => k (pc + 3) l st h) st)
    | .ireturn => o_ret h ra st
    | .lreturn => (match st with
      | [.long v] => some (some (.long v), h)
      | _ => none)
    | .areturn => (match st with
      | [.ref v] => some (some (.ref v), h)
      | _ => none)
    | .return_ => (match st with
      | [] => some (none, h)
      | _ => none)
    | _ => none
def dd5 : CI → List Bool
  | (_, _, _, _, b) => b
/-- so many steps of one method's code -/
def rnF (call : Cl) (cd : Nat → CI) : Nat → Cn
  | 0 => fun _ _ _ _ => none
  | n + 1 => fun pc l st h => stp call (rnF call cd n) (cd pc) pc (mkL l (dd5 (cd pc))) st h
/-- the arguments as locals: a long takes two places -/
def arL : Vs → Ls
  | [] => []
  | .long v :: t => some (.long v) :: none :: arL t
  | .double v :: t => some (.double v) :: none :: arL t
  | v :: t => some v :: arL t
def pdL (l : Ls) (n : Nat) : Ls := l ++ List.replicate (n - l.length) none
/-- calls so deep; cd: each method's code, ml: how many locals -/
def evM (cd : Nat → Nat → CI) (ml : Nat → Nat) (N : Nat) : Nat → Cl
  | 0 => fun _ _ _ => none
  | d + 1 => fun y as h => bif Nat.ble (arL as).length (ml y) then rnF (evM cd ml N d) (cd y) N 0 (pdL (arL as) (ml y)) [] h else none
