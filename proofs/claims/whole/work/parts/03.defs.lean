/-! ===== WHAT AN INSTRUCTION MUST BE: classes, fields, kinds; the check of one instruction; its words ===== -/
def cT : Nat → u_T
  | 1 => TJx4a65c
  | 2 => TX0
  | 3 => TX1
  | 4 => TX2
  | 5 => TX3
  | 6 => TX4
  | 7 => TX5
  | 8 => TX6
  | 9 => TX7
  | 10 => TX8
  | 11 => TX9
  | 12 => TX10
  | 13 => TX11
  | 14 => TX12
  | _ => fun k => match k with
    | 0 => ("java/lang/String", "value", "[B", true)
    | _ => ("java/lang/String", "coder", "B", true)
def cY : Nat → Nat → FieldType
  | 1 => tyJx4a65c
  | 2 => tyX0
  | 3 => tyX1
  | 4 => tyX2
  | 5 => tyX3
  | 6 => tyX4
  | 7 => tyX5
  | 8 => tyX6
  | 9 => tyX7
  | 10 => tyX8
  | 11 => tyX9
  | 12 => tyX10
  | 13 => tyX11
  | 14 => tyX12
  | _ => fun k => match k with
    | 0 => .array .byte
    | _ => .byte
def cR : Nat → String
  | 1 => RJx4a65c
  | 2 => RX0
  | 3 => RX1
  | 4 => RX2
  | 5 => RX3
  | 6 => RX4
  | 7 => RX5
  | 8 => RX6
  | 9 => RX7
  | 10 => RX8
  | 11 => RX9
  | 12 => RX10
  | 13 => RX11
  | 14 => RX12
  | _ => "java/lang/String"
def cF : Nat → Nat
  | 1 => 3
  | 2 => 9
  | 3 => 8
  | 4 => 8
  | 5 => 15
  | 6 => 20
  | 7 => 6
  | 8 => 18
  | 9 => 6
  | 10 => 8
  | 11 => 9
  | 12 => 7
  | 13 => 10
  | 14 => 152
  | _ => 2
/-- the arrays' kinds: 60 int, 61 long, 62 char, 63 boolean, 64 byte, 65 Object, 66 int[] -/
def aY : Nat → FieldType
  | 60 => .int
  | 61 => .long
  | 62 => .char
  | 63 => .boolean
  | 64 => .byte
  | 65 => .object "java/lang/Object"
  | _ => .array .int
/-- the kind of a field's type -/
def kdY : FieldType → Nat
  | .int => 0
  | .long => 1
  | .object _ => 2
  | .array _ => 2
  | .boolean => 3
  | .byte => 4
  | _ => 9
def atK : ArrayType → Nat
  | .int => 60
  | .long => 61
  | .char => 62
  | .boolean => 63
  | .byte => 64
  | _ => 0
def lnI : Instr → Nat
  | .aload _ => 2
  | .iload _ => 2
  | .lload _ => 2
  | .astore _ => 2
  | .istore _ => 2
  | .lstore _ => 2
  | .bipush _ => 2
  | .sipush _ => 3
  | .ldc _ => 2
  | .ldc_w _ => 3
  | .ldc2_w _ => 3
  | .getstatic _ => 3
  | .getfield _ => 3
  | .putfield _ => 3
  | .invokevirtual _ => 3
  | .invokespecial _ => 3
  | .invokestatic _ => 3
  | .new _ => 3
  | .newarray _ => 2
  | .anewarray _ => 3
  | .multianewarray _ _ => 4
  | .checkcast _ => 3
  | .goto _ => 3
  | .ifCond _ _ => 3
  | .if_icmp _ _ => 3
  | .if_acmp _ _ => 3
  | .iinc _ _ => 3
  | _ => 1
def isSw : Instr → Bool
  | .tableswitch _ _ _ _ => true
  | .lookupswitch _ _ => true
  | _ => false
/-- a switch's rows beside the pure machine's -/
def swB (pc : Nat) : List (Int × Int) → List (Int32 × Nat) → Bool
  | [], [] => true
  | (a, o) :: r, (v, t) :: s => decide (v.toInt = a) && decide ((pc : Int) + o = (t : Int)) && swB pc r s
  | _, _ => false
def tbl0 (lo : Int) : List Int → List (Int × Int)
  | [] => []
  | o :: r => (lo, o) :: tbl0 (lo + 1) r
/-- the return type's kind -/
def rtB (rt : Option FieldType) (k : Nat) : Bool := match rt, k with
  | some .int, 0 => true
  | some .boolean, 1 => true
  | some .char, 2 => true
  | some .byte, 3 => true
  | _, _ => false
def refRt : Option FieldType → Bool
  | some (.object _) => true
  | some (.array _) => true
  | _ => false
section OKB
variable (wP wP0 : Cond → Bool) (mY : Nat → MethodName) (mB : Nat → ByteArray) (mL : Nat → Nat) (mT : Nat → Option FieldType) (mK : Nat → Nat × Nat × Nat) (exS : List (String × Nat × Nat)) (exZ : List (String × String × String × (Int32 ⊕ Nat)))
def okB (own : String) (cc : ByteArray) (nL : Nat) (ini : Bool) (rt : Option FieldType) (pc : Nat) (ci : CI) : Bool := match ci with
  | (ins, (ra, rb, rc), tb, lc, _) => (match decode cc pc with
    | .ok (i, n) => decide (i = ins) && (isSw ins || decide (n = lnI ins))
    | .error _ => false) && match ins with
    | .iconst n => decide (Int32.ofInt n = kc tb)
    | .bipush n => decide ((Int8.ofInt n).toInt32 = kc tb)
    | .sipush n => decide ((Int16.ofInt n).toInt32 = kc tb)
    | .lconst n => decide (Int64.ofNat (n : Nat) = lc)
    | .ldc2_w i => wP (.constantLong own i lc)
    | .ldc i => (match ra with
      | 0 => wP (.constant own i (kc tb))
      | 1 => decide (exS[rb]? = some (own, i, rb))
      | _ => decide (rb = 62) && wP (.classLink own i "[Ljava/lang/Object;"))
    | .ldc_w i => (match ra with
      | 0 => wP (.constant own i (kc tb))
      | 1 => decide (exS[rb]? = some (own, i, rb))
      | _ => false)
    | .getstatic i => (match exZ[rc]? with
      | some (C, n, d, .inl v) => decide (ra = 0) && decide (v = kc tb) && wP (.fieldLink own i C n d)
      | some (C, n, d, .inr x) => decide (ra = 1) && decide (x = rb) && wP (.fieldLink own i C n d)
      | none => false)
    | .istore i => decide (i < nL)
    | .istore_n i => decide ((i : Nat) < nL)
    | .lstore i => decide (i + 1 < nL)
    | .lstore_n i => decide ((i : Nat) + 1 < nL)
    | .astore i => decide (i < nL)
    | .astore_n i => decide ((i : Nat) < nL)
    | .iinc i n => decide (i < nL) && decide (Int32.ofInt n = kc tb)
    | .goto f => decide ((pc : Int) + f = (ra : Int))
    | .ifCond _ f => decide ((pc : Int) + f = (ra : Int))
    | .if_icmp _ f => decide ((pc : Int) + f = (ra : Int))
    | .if_acmp _ f => decide ((pc : Int) + f = (ra : Int))
    | .tableswitch f lo hi os => decide ((pc : Int) + f = (ra : Int)) && decide (hi = lo + os.size - 1) && swB pc (tbl0 lo os.toList) tb
    | .lookupswitch f ps => decide ((pc : Int) + f = (ra : Int)) && (ps.toList.zip (ps.toList.drop 1)).all (fun (a, next) => a.1 < next.1) && swB pc ps.toList tb
    | .getfield i => decide (1 ≤ ra) && decide (ra ≤ 15) && decide (rb < cF ra) && decide (kdY (cY ra rb) = rc) && decide (rc ≠ 9) && (match tb with
      | [] => wP (.fieldLink own i (cT ra rb).1 (cT ra rb).2.1 (cT ra rb).2.2.1)
      | _ => wP (.fieldLink own i "java/util/ArrayList" (cT ra rb).2.1 (cT ra rb).2.2.1) && wP (.sameField "java/util/ArrayList" (cT ra rb).1 (cT ra rb).2.1 (cT ra rb).2.2.1))
    | .putfield i => decide (1 ≤ ra) && decide (ra ≤ 14) && decide (rb < cF ra) && decide (kdY (cY ra rb) = rc) && (!(cT ra rb).2.2.2 || (ini && decide ((cT ra rb).1 = own))) && (match tb with
      | [] => wP (.fieldLink own i (cT ra rb).1 (cT ra rb).2.1 (cT ra rb).2.2.1) && wP (u_lay (cR ra) (cT ra) rb)
      | _ => wP (.fieldLink own i "java/util/ArrayList" (cT ra rb).2.1 (cT ra rb).2.2.1) && wP (.sameField "java/util/ArrayList" (cT ra rb).1 (cT ra rb).2.1 (cT ra rb).2.2.1) && wP (u_lay (cR ra) (cT ra) rb))
    | .new i => decide (1 ≤ ra) && decide (ra ≤ 14) && decide (rb = cF ra) && wP (.classLink own i (cR ra)) && wP (.instantiable (cR ra) (cF ra)) && wP (.initialized (cR ra))
    | .newarray t => decide (atK t = ra) && decide (60 ≤ ra) && wP (.arrayClass (newarray.typeOf t))
    | .anewarray i => wP (.classLink own i "java/lang/Object") && wP0 (.arrayOver (.object "java/lang/Object"))
    | .multianewarray i n => decide (n = 2) && wP (.classLink own i "[[I") && wP0 (.arrayOver (.array .int)) && wP (.arrayClass .int)
    | .baload => decide (ra = 63) || decide (ra = 64)
    | .aaload => decide (ra = 65) || decide (ra = 66)
    | .checkcast i => decide (1 ≤ ra) && decide (ra ≤ 14) && wP (.classLink own i (cR ra))
    | .invokevirtual i => (match rc with
      | 0 => decide (ra = 62) && wP (.methodLink own i ⟨"java/lang/Object", "getClass", "()Ljava/lang/Class;"⟩) && wP0 (.declares ⟨"java/lang/Object", "getClass", "()Ljava/lang/Class;"⟩) && wP (.selects "[Ljava/lang/Object;" ⟨"java/lang/Object", "getClass", "()Ljava/lang/Class;"⟩ ⟨"java/lang/Object", "getClass", "()Ljava/lang/Class;"⟩) && wP (.instanceMethod ⟨"java/lang/Object", "getClass", "()Ljava/lang/Class;"⟩) && wP (.native ⟨"java/lang/Object", "getClass", "()Ljava/lang/Class;"⟩)
      | c + 1 => decide (mK ra = (1, c + 1, rb)) && wP (.methodLink own i (mY ra)))
    | .invokestatic i => (match rc with
      | 0 => decide (mK ra = (0, 0, rb)) && wP (.methodLink own i (mY ra))
      | c + 1 => (decide (c + 1 = 60) || decide (c + 1 = 61) || decide (c + 1 = 65)) && wP (.methodLink own i arraycopyName) && wP (.native arraycopyName) && wP (.static arraycopyName) && wP (.initialized "java/lang/System"))
    | .invokespecial i => (match rc with
      | 0 => wP (.methodLink own i objectInit) && wP (.instanceMethod objectInit) && wP (.code objectInit ⟨#[0xb1]⟩ 1 none)
      | 1 => decide (mK ra = (2, 0, rb)) && wP (.methodLink own i (mY ra))
      | _ => decide (mK ra = (2, 0, rb)) && wP0 (.methodLinkNest own i (mY ra) "PostRoom"))
    | .ireturn => rtB rt ra
    | .lreturn => decide (rt = some .long)
    | .areturn => refRt rt
    | .return_ => decide (rt = none)
    | _ => true
/-- the words that an instruction needs: such as hold in every state; such as hold in the first -/
def ndW (own : String) (ci : CI) : List Cond × List Cond := match ci with
  | (ins, (ra, rb, rc), tb, lc, _) => match ins with
    | .ldc2_w i => ([.constantLong own i lc], [])
    | .ldc i => (match ra with
      | 0 => ([.constant own i (kc tb)], [])
      | 1 => ([], [])
      | _ => ([.classLink own i "[Ljava/lang/Object;"], []))
    | .ldc_w i => (match ra with
      | 0 => ([.constant own i (kc tb)], [])
      | _ => ([], []))
    | .getstatic i => (match exZ[rc]? with
      | some (C, n, d, _) => ([.fieldLink own i C n d], [])
      | none => ([], []))
    | .getfield i => (match tb with
      | [] => ([.fieldLink own i (cT ra rb).1 (cT ra rb).2.1 (cT ra rb).2.2.1], [])
      | _ => ([.fieldLink own i "java/util/ArrayList" (cT ra rb).2.1 (cT ra rb).2.2.1, .sameField "java/util/ArrayList" (cT ra rb).1 (cT ra rb).2.1 (cT ra rb).2.2.1], []))
    | .putfield i => (match tb with
      | [] => ([.fieldLink own i (cT ra rb).1 (cT ra rb).2.1 (cT ra rb).2.2.1, u_lay (cR ra) (cT ra) rb], [])
      | _ => ([.fieldLink own i "java/util/ArrayList" (cT ra rb).2.1 (cT ra rb).2.2.1, .sameField "java/util/ArrayList" (cT ra rb).1 (cT ra rb).2.1 (cT ra rb).2.2.1, u_lay (cR ra) (cT ra) rb], []))
    | .new i => ([.classLink own i (cR ra), .instantiable (cR ra) (cF ra), .initialized (cR ra)], [])
    | .newarray t => ([.arrayClass (newarray.typeOf t)], [])
    | .anewarray i => ([.classLink own i "java/lang/Object"], [.arrayOver (.object "java/lang/Object")])
    | .multianewarray i _ => ([.classLink own i "[[I", .arrayClass .int], [.arrayOver (.array .int)])
    | .checkcast i => ([.classLink own i (cR ra)], [])
    | .invokevirtual i => (match rc with
      | 0 => ([.methodLink own i ⟨"java/lang/Object", "getClass", "()Ljava/lang/Class;"⟩, .selects "[Ljava/lang/Object;" ⟨"java/lang/Object", "getClass", "()Ljava/lang/Class;"⟩ ⟨"java/lang/Object", "getClass", "()Ljava/lang/Class;"⟩, .instanceMethod ⟨"java/lang/Object", "getClass", "()Ljava/lang/Class;"⟩, .native ⟨"java/lang/Object", "getClass", "()Ljava/lang/Class;"⟩], [.declares ⟨"java/lang/Object", "getClass", "()Ljava/lang/Class;"⟩])
      | _ => ([.methodLink own i (mY ra)], []))
    | .invokestatic i => (match rc with
      | 0 => ([.methodLink own i (mY ra)], [])
      | _ => ([.methodLink own i arraycopyName, .native arraycopyName, .static arraycopyName, .initialized "java/lang/System"], []))
    | .invokespecial i => (match rc with
      | 0 => ([.methodLink own i objectInit, .instanceMethod objectInit, .code objectInit ⟨#[0xb1]⟩ 1 none], [])
      | 1 => ([.methodLink own i (mY ra)], [])
      | _ => ([], [.methodLinkNest own i (mY ra) "PostRoom"]))
    | _ => ([], [])
end OKB
/-- the kinds of the arrays that are there at the start: the strings' bytes, the powers, the script -/
def eK (x : Nat) : Nat := if 30 ≤ x ∧ x < 60 then 64 else if x = 60 ∨ x = 63 then 60 else 0
