/-! ===== A HEAP OUT OF A LIST OF OPERATIONS (the newest first), and what stands in it ===== -/
abbrev Op : Type := Nat × Nat × Nat × Nat × Nat
/-- 0 a new cell x (class a, places b, slots v), 1 new int[a][b] at x, 2 field a of x := cell v, 3 field a of x := v, 4 .. := -1, 5 x[a] := v, 6 x[a] := -1, 7 x[a] := the long v -/
def op1 (o : Op) (h : AH) : AH := match o with
  | (t, x, a, b, v) => match t with
    | 0 => nw h a b v
    | 1 => nwM h a b
    | 2 => sR h a x (some v)
    | 3 => sI h a x (nI v)
    | 4 => sI h a x (-1)
    | 5 => sA h x a (nI v)
    | 6 => sA h x a (-1)
    | 7 => sB h x a (lN v)
    | _ => h
def ap : List Op → AH → AH
  | [], h => h
  | o :: l, h => op1 o (ap l h)
def oN : List Op → Nat
  | [] => 100
  | (t, x, a, _, _) :: l => match t with
    | 0 => x + 1
    | 1 => x + (1 + a)
    | _ => oN l
def oS : List Op → Nat
  | [] => 0
  | (t, _, a, b, v) :: l => match t with
    | 0 => oS l + v
    | 1 => oS l + (a + a * b)
    | _ => oS l
def okO : List Op → Bool
  | [] => true
  | (t, x, _, _, _) :: l => match t with
    | 0 => Nat.beq x (oN l) && okO l
    | 1 => Nat.beq x (oN l) && okO l
    | _ => okO l
def inW (x a y : Nat) : Bool := Nat.ble x y && Nat.blt y (x + (1 + a))
def evC : List Op → Nat → Option Nat
  | [], _ => none
  | (t, x, a, _, _) :: l, y => match t with
    | 0 => bif Nat.beq y x then some a else evC l y
    | 1 => bif Nat.beq y x then some 66 else bif inW x a y then some 60 else evC l y
    | _ => evC l y
def evK : List Op → Nat → Option Nat
  | [], _ => none
  | (t, x, a, b, _) :: l, y => match t with
    | 0 => bif Nat.beq y x then some b else evK l y
    | 1 => bif Nat.beq y x then some a else bif inW x a y then some b else evK l y
    | _ => evK l y
def evI : List Op → Nat → Nat → Option Int32
  | [], _, _ => none
  | (t, x, a, _, v) :: l, k, y => match t with
    | 0 => bif Nat.beq y x then some 0 else evI l k y
    | 1 => bif inW x a y then some 0 else evI l k y
    | 3 => bif Nat.beq k a && Nat.beq y x then some (nI v) else evI l k y
    | 4 => bif Nat.beq k a && Nat.beq y x then some (-1) else evI l k y
    | _ => evI l k y
def evL : List Op → Nat → Nat → Option Int64
  | [], _, _ => none
  | (t, x, a, _, _) :: l, k, y => match t with
    | 0 => bif Nat.beq y x then some 0 else evL l k y
    | 1 => bif inW x a y then some 0 else evL l k y
    | _ => evL l k y
def evR : List Op → Nat → Nat → Option (Option Nat)
  | [], _, _ => none
  | (t, x, a, _, v) :: l, k, y => match t with
    | 0 => bif Nat.beq y x then some none else evR l k y
    | 1 => bif inW x a y then some none else evR l k y
    | 2 => bif Nat.beq k a && Nat.beq y x then some (some v) else evR l k y
    | _ => evR l k y
def evA : List Op → Nat → Nat → Option Int32
  | [], _, _ => none
  | (t, x, a, _, v) :: l, y, i => match t with
    | 0 => bif Nat.beq y x then some 0 else evA l y i
    | 1 => bif inW x a y then some 0 else evA l y i
    | 5 => bif Nat.beq y x && Nat.beq i a then some (nI v) else evA l y i
    | 6 => bif Nat.beq y x && Nat.beq i a then some (-1) else evA l y i
    | _ => evA l y i
def evB : List Op → Nat → Nat → Option Int64
  | [], _, _ => none
  | (t, x, a, _, v) :: l, y, i => match t with
    | 0 => bif Nat.beq y x then some 0 else evB l y i
    | 1 => bif inW x a y then some 0 else evB l y i
    | 7 => bif Nat.beq y x && Nat.beq i a then some (lN v) else evB l y i
    | _ => evB l y i
def evO : List Op → Nat → Nat → Option (Option Nat)
  | [], _, _ => none
  | (t, x, a, _, _) :: l, y, i => match t with
    | 0 => bif Nat.beq y x then some none else evO l y i
    | 1 => bif Nat.beq y x then some (bif Nat.blt i a then some (x + 1 + i) else none) else bif inW x a y then some none else evO l y i
    | _ => evO l y i
section EVS
variable {h : AH}
theorem beq_tt {a b : Nat} (e : a = b) : Nat.beq a b = true := by rw [e]; exact Nat.beq_refl b
theorem beq_ff {a b : Nat} (e : ¬ a = b) : Nat.beq a b = false := by
  cases q : Nat.beq a b with
  | false => rfl
  | true => exact absurd (Nat.eq_of_beq_eq_true q) e
theorem blt_tt {a b : Nat} (e : a < b) : Nat.blt a b = true := Nat.ble_eq_true_of_le e
theorem blt_ff {a b : Nat} (e : ¬ a < b) : Nat.blt a b = false := by
  cases q : Nat.blt a b with
  | false => rfl
  | true => exact absurd (Nat.le_of_ble_eq_true q) e
theorem inW_t {x a y : Nat} (e : x ≤ y ∧ y < x + (1 + a)) : inW x a y = true := by
  unfold inW; rw [Nat.ble_eq_true_of_le e.1, blt_tt e.2]; rfl
theorem inW_f {x a y : Nat} (e : ¬ (x ≤ y ∧ y < x + (1 + a))) : inW x a y = false := by
  cases q : inW x a y with
  | false => rfl
  | true =>
    unfold inW at q
    rw [Bool.and_eq_true] at q
    exact absurd ⟨Nat.le_of_ble_eq_true q.1, Nat.le_of_ble_eq_true q.2⟩ e
theorem okO_c {t x a b v : Nat} {l : List Op} (ok : okO ((t, x, a, b, v) :: l) = true) : okO l = true ∧ (t ≤ 1 → x = oN l) := by
  match t with
  | 0 =>
    have q : (Nat.beq x (oN l) && okO l) = true := ok
    rw [Bool.and_eq_true] at q
    exact ⟨q.2, fun _ => Nat.eq_of_beq_eq_true q.1⟩
  | 1 =>
    have q : (Nat.beq x (oN l) && okO l) = true := ok
    rw [Bool.and_eq_true] at q
    exact ⟨q.2, fun _ => Nat.eq_of_beq_eq_true q.1⟩
  | n + 2 => exact ⟨ok, fun z => by omega⟩
theorem eN (hN : gN h = 100) : ∀ l : List Op, okO l = true → gN (ap l h) = oN l
  | [], _ => hN
  | (t, x, a, b, v) :: l, ok => by
    obtain ⟨o1, o2⟩ := okO_c ok
    have ih := eN hN l o1
    match t with
    | 0 => show gN (ap l h) + 1 = x + 1; rw [ih, o2 (by decide)]
    | 1 => show gN (ap l h) + (1 + a) = x + (1 + a); rw [ih, o2 (by decide)]
    | 2 => exact ih
    | 3 => exact ih
    | 4 => exact ih
    | 5 => exact ih
    | 6 => exact ih
    | 7 => exact ih
    | _ + 8 => exact ih
theorem eS : ∀ l : List Op, gS (ap l h) = gS h + oS l
  | [] => rfl
  | (t, x, a, b, v) :: l => by
    have ih := eS l
    match t with
    | 0 => show gS (ap l h) + v = gS h + (oS l + v); rw [ih]; omega
    | 1 => show gS (ap l h) + (a + a * b) = gS h + (oS l + (a + a * b)); rw [ih]; omega
    | 2 => exact ih
    | 3 => exact ih
    | 4 => exact ih
    | 5 => exact ih
    | 6 => exact ih
    | 7 => exact ih
    | _ + 8 => exact ih
theorem eC (hN : gN h = 100) : ∀ l : List Op, okO l = true → ∀ y, gC (ap l h) y = (evC l y).getD (gC h y)
  | [], _, _ => rfl
  | (t, x, a, b, v) :: l, ok, y => by
    obtain ⟨o1, o2⟩ := okO_c ok
    have ih := eC hN l o1 y
    match t with
    | 0 =>
      show (if y = gN (ap l h) then a else gC (ap l h) y) = (bif Nat.beq y x then some a else evC l y).getD (gC h y)
      rw [eN hN l o1, ← o2 (by decide)]
      by_cases e : y = x
      · rw [if_pos e, beq_tt e]; rfl
      · rw [if_neg e, beq_ff e]; exact ih
    | 1 =>
      show (if y = gN (ap l h) then 66 else if gN (ap l h) < y ∧ y < gN (ap l h) + (1 + a) then 60 else gC (ap l h) y) = (bif Nat.beq y x then some 66 else bif inW x a y then some 60 else evC l y).getD (gC h y)
      rw [eN hN l o1, ← o2 (by decide)]
      by_cases e : y = x
      · rw [if_pos e, beq_tt e]; rfl
      · rw [if_neg e, beq_ff e]
        by_cases f : x < y ∧ y < x + (1 + a)
        · rw [if_pos f, inW_t ⟨by omega, f.2⟩]; rfl
        · rw [if_neg f, inW_f (by omega)]; exact ih
    | 2 => exact ih
    | 3 => exact ih
    | 4 => exact ih
    | 5 => exact ih
    | 6 => exact ih
    | 7 => exact ih
    | _ + 8 => exact ih
theorem eKp (hN : gN h = 100) : ∀ l : List Op, okO l = true → ∀ y, gK (ap l h) y = (evK l y).getD (gK h y)
  | [], _, _ => rfl
  | (t, x, a, b, v) :: l, ok, y => by
    obtain ⟨o1, o2⟩ := okO_c ok
    have ih := eKp hN l o1 y
    match t with
    | 0 =>
      show (if y = gN (ap l h) then b else gK (ap l h) y) = (bif Nat.beq y x then some b else evK l y).getD (gK h y)
      rw [eN hN l o1, ← o2 (by decide)]
      by_cases e : y = x
      · rw [if_pos e, beq_tt e]; rfl
      · rw [if_neg e, beq_ff e]; exact ih
    | 1 =>
      show (if y = gN (ap l h) then a else if gN (ap l h) < y ∧ y < gN (ap l h) + (1 + a) then b else gK (ap l h) y) = (bif Nat.beq y x then some a else bif inW x a y then some b else evK l y).getD (gK h y)
      rw [eN hN l o1, ← o2 (by decide)]
      by_cases e : y = x
      · rw [if_pos e, beq_tt e]; rfl
      · rw [if_neg e, beq_ff e]
        by_cases f : x < y ∧ y < x + (1 + a)
        · rw [if_pos f, inW_t ⟨by omega, f.2⟩]; rfl
        · rw [if_neg f, inW_f (by omega)]; exact ih
    | 2 => exact ih
    | 3 => exact ih
    | 4 => exact ih
    | 5 => exact ih
    | 6 => exact ih
    | 7 => exact ih
    | _ + 8 => exact ih
theorem eI (hN : gN h = 100) : ∀ l : List Op, okO l = true → ∀ k y, gI (ap l h) k y = (evI l k y).getD (gI h k y)
  | [], _, _, _ => rfl
  | (t, x, a, b, v) :: l, ok, k, y => by
    obtain ⟨o1, o2⟩ := okO_c ok
    have ih := eI hN l o1 k y
    have put : ∀ w : Int32, up2 (gI (ap l h)) a x w k y = (bif Nat.beq k a && Nat.beq y x then some w else evI l k y).getD (gI h k y) := fun w => by
      show (if k = a then up1 (gI (ap l h) k) x w else gI (ap l h) k) y = _
      by_cases e : k = a
      · rw [if_pos e, beq_tt e, Bool.true_and]
        show (if y = x then w else gI (ap l h) k y) = _
        by_cases f : y = x
        · rw [if_pos f, beq_tt f]; rfl
        · rw [if_neg f, beq_ff f]; exact ih
      · rw [if_neg e, beq_ff e, Bool.false_and]; exact ih
    match t with
    | 0 =>
      show (if y = gN (ap l h) then 0 else gI (ap l h) k y) = (bif Nat.beq y x then some 0 else evI l k y).getD (gI h k y)
      rw [eN hN l o1, ← o2 (by decide)]
      by_cases e : y = x
      · rw [if_pos e, beq_tt e]; rfl
      · rw [if_neg e, beq_ff e]; exact ih
    | 1 =>
      show (if gN (ap l h) ≤ y ∧ y < gN (ap l h) + (1 + a) then 0 else gI (ap l h) k y) = (bif inW x a y then some 0 else evI l k y).getD (gI h k y)
      rw [eN hN l o1, ← o2 (by decide)]
      by_cases f : x ≤ y ∧ y < x + (1 + a)
      · rw [if_pos f, inW_t f]; rfl
      · rw [if_neg f, inW_f f]; exact ih
    | 2 => exact ih
    | 3 => exact put _
    | 4 => exact put _
    | 5 => exact ih
    | 6 => exact ih
    | 7 => exact ih
    | _ + 8 => exact ih
theorem eL (hN : gN h = 100) : ∀ l : List Op, okO l = true → ∀ k y, gL (ap l h) k y = (evL l k y).getD (gL h k y)
  | [], _, _, _ => rfl
  | (t, x, a, b, v) :: l, ok, k, y => by
    obtain ⟨o1, o2⟩ := okO_c ok
    have ih := eL hN l o1 k y
    match t with
    | 0 =>
      show (if y = gN (ap l h) then 0 else gL (ap l h) k y) = (bif Nat.beq y x then some 0 else evL l k y).getD (gL h k y)
      rw [eN hN l o1, ← o2 (by decide)]
      by_cases e : y = x
      · rw [if_pos e, beq_tt e]; rfl
      · rw [if_neg e, beq_ff e]; exact ih
    | 1 =>
      show (if gN (ap l h) ≤ y ∧ y < gN (ap l h) + (1 + a) then 0 else gL (ap l h) k y) = (bif inW x a y then some 0 else evL l k y).getD (gL h k y)
      rw [eN hN l o1, ← o2 (by decide)]
      by_cases f : x ≤ y ∧ y < x + (1 + a)
      · rw [if_pos f, inW_t f]; rfl
      · rw [if_neg f, inW_f f]; exact ih
    | 2 => exact ih
    | 3 => exact ih
    | 4 => exact ih
    | 5 => exact ih
    | 6 => exact ih
    | 7 => exact ih
    | _ + 8 => exact ih
theorem eR (hN : gN h = 100) : ∀ l : List Op, okO l = true → ∀ k y, gR (ap l h) k y = (evR l k y).getD (gR h k y)
  | [], _, _, _ => rfl
  | (t, x, a, b, v) :: l, ok, k, y => by
    obtain ⟨o1, o2⟩ := okO_c ok
    have ih := eR hN l o1 k y
    match t with
    | 0 =>
      show (if y = gN (ap l h) then none else gR (ap l h) k y) = (bif Nat.beq y x then some none else evR l k y).getD (gR h k y)
      rw [eN hN l o1, ← o2 (by decide)]
      by_cases e : y = x
      · rw [if_pos e, beq_tt e]; rfl
      · rw [if_neg e, beq_ff e]; exact ih
    | 1 =>
      show (if gN (ap l h) ≤ y ∧ y < gN (ap l h) + (1 + a) then none else gR (ap l h) k y) = (bif inW x a y then some none else evR l k y).getD (gR h k y)
      rw [eN hN l o1, ← o2 (by decide)]
      by_cases f : x ≤ y ∧ y < x + (1 + a)
      · rw [if_pos f, inW_t f]; rfl
      · rw [if_neg f, inW_f f]; exact ih
    | 2 =>
      show (if k = a then up1 (gR (ap l h) k) x (some v) else gR (ap l h) k) y = (bif Nat.beq k a && Nat.beq y x then some (some v) else evR l k y).getD (gR h k y)
      by_cases e : k = a
      · rw [if_pos e, beq_tt e, Bool.true_and]
        show (if y = x then some v else gR (ap l h) k y) = _
        by_cases f : y = x
        · rw [if_pos f, beq_tt f]; rfl
        · rw [if_neg f, beq_ff f]; exact ih
      · rw [if_neg e, beq_ff e, Bool.false_and]; exact ih
    | 3 => exact ih
    | 4 => exact ih
    | 5 => exact ih
    | 6 => exact ih
    | 7 => exact ih
    | _ + 8 => exact ih
theorem eA (hN : gN h = 100) : ∀ l : List Op, okO l = true → ∀ y i, gA (ap l h) y i = (evA l y i).getD (gA h y i)
  | [], _, _, _ => rfl
  | (t, x, a, b, v) :: l, ok, y, i => by
    obtain ⟨o1, o2⟩ := okO_c ok
    have ih := eA hN l o1 y i
    have put : ∀ w : Int32, up2 (gA (ap l h)) x a w y i = (bif Nat.beq y x && Nat.beq i a then some w else evA l y i).getD (gA h y i) := fun w => by
      show (if y = x then up1 (gA (ap l h) y) a w else gA (ap l h) y) i = _
      by_cases e : y = x
      · rw [if_pos e, beq_tt e, Bool.true_and]
        show (if i = a then w else gA (ap l h) y i) = _
        by_cases f : i = a
        · rw [if_pos f, beq_tt f]; rfl
        · rw [if_neg f, beq_ff f]; exact ih
      · rw [if_neg e, beq_ff e, Bool.false_and]; exact ih
    match t with
    | 0 =>
      show (if y = gN (ap l h) then fun _ => 0 else gA (ap l h) y) i = (bif Nat.beq y x then some 0 else evA l y i).getD (gA h y i)
      rw [eN hN l o1, ← o2 (by decide)]
      by_cases e : y = x
      · rw [if_pos e, beq_tt e]; rfl
      · rw [if_neg e, beq_ff e]; exact ih
    | 1 =>
      show (if gN (ap l h) ≤ y ∧ y < gN (ap l h) + (1 + a) then fun _ => 0 else gA (ap l h) y) i = (bif inW x a y then some 0 else evA l y i).getD (gA h y i)
      rw [eN hN l o1, ← o2 (by decide)]
      by_cases f : x ≤ y ∧ y < x + (1 + a)
      · rw [if_pos f, inW_t f]; rfl
      · rw [if_neg f, inW_f f]; exact ih
    | 2 => exact ih
    | 3 => exact ih
    | 4 => exact ih
    | 5 => exact put _
    | 6 => exact put _
    | 7 => exact ih
    | _ + 8 => exact ih
theorem eB (hN : gN h = 100) : ∀ l : List Op, okO l = true → ∀ y i, gB (ap l h) y i = (evB l y i).getD (gB h y i)
  | [], _, _, _ => rfl
  | (t, x, a, b, v) :: l, ok, y, i => by
    obtain ⟨o1, o2⟩ := okO_c ok
    have ih := eB hN l o1 y i
    match t with
    | 0 =>
      show (if y = gN (ap l h) then fun _ => 0 else gB (ap l h) y) i = (bif Nat.beq y x then some 0 else evB l y i).getD (gB h y i)
      rw [eN hN l o1, ← o2 (by decide)]
      by_cases e : y = x
      · rw [if_pos e, beq_tt e]; rfl
      · rw [if_neg e, beq_ff e]; exact ih
    | 1 =>
      show (if gN (ap l h) ≤ y ∧ y < gN (ap l h) + (1 + a) then fun _ => 0 else gB (ap l h) y) i = (bif inW x a y then some 0 else evB l y i).getD (gB h y i)
      rw [eN hN l o1, ← o2 (by decide)]
      by_cases f : x ≤ y ∧ y < x + (1 + a)
      · rw [if_pos f, inW_t f]; rfl
      · rw [if_neg f, inW_f f]; exact ih
    | 2 => exact ih
    | 3 => exact ih
    | 4 => exact ih
    | 5 => exact ih
    | 6 => exact ih
    | 7 =>
      show (if y = x then up1 (gB (ap l h) y) a (lN v) else gB (ap l h) y) i = (bif Nat.beq y x && Nat.beq i a then some (lN v) else evB l y i).getD (gB h y i)
      by_cases e : y = x
      · rw [if_pos e, beq_tt e, Bool.true_and]
        show (if i = a then lN v else gB (ap l h) y i) = _
        by_cases f : i = a
        · rw [if_pos f, beq_tt f]; rfl
        · rw [if_neg f, beq_ff f]; exact ih
      · rw [if_neg e, beq_ff e, Bool.false_and]; exact ih
    | _ + 8 => exact ih
theorem eO (hN : gN h = 100) : ∀ l : List Op, okO l = true → ∀ y i, gO (ap l h) y i = (evO l y i).getD (gO h y i)
  | [], _, _, _ => rfl
  | (t, x, a, b, v) :: l, ok, y, i => by
    obtain ⟨o1, o2⟩ := okO_c ok
    have ih := eO hN l o1 y i
    match t with
    | 0 =>
      show (if y = gN (ap l h) then fun _ => none else gO (ap l h) y) i = (bif Nat.beq y x then some none else evO l y i).getD (gO h y i)
      rw [eN hN l o1, ← o2 (by decide)]
      by_cases e : y = x
      · rw [if_pos e, beq_tt e]; rfl
      · rw [if_neg e, beq_ff e]; exact ih
    | 1 =>
      show (if y = gN (ap l h) then (fun i => if i < a then some (gN (ap l h) + 1 + i) else none) else if gN (ap l h) < y ∧ y < gN (ap l h) + (1 + a) then fun _ => none else gO (ap l h) y) i = (bif Nat.beq y x then some (bif Nat.blt i a then some (x + 1 + i) else none) else bif inW x a y then some none else evO l y i).getD (gO h y i)
      rw [eN hN l o1, ← o2 (by decide)]
      by_cases e : y = x
      · rw [if_pos e, beq_tt e]
        show (if i < a then some (x + 1 + i) else none) = (bif Nat.blt i a then some (x + 1 + i) else none)
        by_cases g : i < a
        · rw [if_pos g, blt_tt g]; rfl
        · rw [if_neg g, blt_ff g]; rfl
      · rw [if_neg e, beq_ff e]
        by_cases f : x < y ∧ y < x + (1 + a)
        · rw [if_pos f, inW_t ⟨by omega, f.2⟩]; rfl
        · rw [if_neg f, inW_f (by omega)]; exact ih
    | 2 => exact ih
    | 3 => exact ih
    | 4 => exact ih
    | 5 => exact ih
    | 6 => exact ih
    | 7 => exact ih
    | _ + 8 => exact ih
theorem nz (hN : gN h = 100) {l : List Op} {n : Nat} (ok : okO l = true) (e : oN l = n) : gN (ap l h) = n := (eN hN l ok).trans e
theorem cz (hN : gN h = 100) {l : List Op} {y c : Nat} (ok : okO l = true) (e : evC l y = some c) : gC (ap l h) y = c := by rw [eC hN l ok, e]; rfl
theorem kz (hN : gN h = 100) {l : List Op} {y c : Nat} (ok : okO l = true) (e : evK l y = some c) : gK (ap l h) y = c := by rw [eKp hN l ok, e]; rfl
theorem rz (hN : gN h = 100) {l : List Op} {k y : Nat} {c : Option Nat} (ok : okO l = true) (e : evR l k y = some c) : gR (ap l h) k y = c := by rw [eR hN l ok, e]; rfl
theorem iz (hN : gN h = 100) {l : List Op} {k y : Nat} {c : Int32} (ok : okO l = true) (e : evI l k y = some c) : gI (ap l h) k y = c := by rw [eI hN l ok, e]; rfl
theorem lz (hN : gN h = 100) {l : List Op} {k y : Nat} {c : Int64} (ok : okO l = true) (e : evL l k y = some c) : gL (ap l h) k y = c := by rw [eL hN l ok, e]; rfl
theorem az (hN : gN h = 100) {l : List Op} {y i : Nat} {c : Int32} (ok : okO l = true) (e : evA l y i = some c) : gA (ap l h) y i = c := by rw [eA hN l ok, e]; rfl
theorem bbz (hN : gN h = 100) {l : List Op} {y i : Nat} {c : Int64} (ok : okO l = true) (e : evB l y i = some c) : gB (ap l h) y i = c := by rw [eB hN l ok, e]; rfl
theorem oz (hN : gN h = 100) {l : List Op} {y i : Nat} {c : Option Nat} (ok : okO l = true) (e : evO l y i = some c) : gO (ap l h) y i = c := by rw [eO hN l ok, e]; rfl
end EVS
