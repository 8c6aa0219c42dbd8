/-! ===== A flat machine: every cell that the law makes has a number (the order of its making); its numbers are Int, in one memory ===== -/
abbrev fV : Type := Int ⊕ (Int ⊕ Nat)
abbrev fI (z : Int) : fV := .inl z
abbrev fJ (z : Int) : fV := .inr (.inl z)
abbrev fA (k : Nat) : fV := .inr (.inr k)
abbrev fL : Type := List (Option fV)
abbrev fM : Type := Nat → Nat → Int
/-- how many cells are made, the references in them (number and 1, 0 null), the numbers in them -/
abbrev fH : Type := Nat × (Nat → Nat → Nat) × fM
/-- calls that may yet stand open, method, place, cells and slots made by this call, locals, stack -/
abbrev fF : Type := Nat × Nat × Nat × Nat × Nat × fL × List fV
abbrev fO : Type := Option fV ⊕ Nat
abbrev fRs : Type := Option ((List Prop × fF × fH) ⊕ ((Prop × fF × fF) ⊕ ((Int × Int × List Nat × Nat × fF) ⊕ ((Prop × fF × fF × Option (Nat × Nat)) ⊕ (Prop × fO)))))
abbrev fE1 : Type := Instr × Nat × List Nat
abbrev fT : Type := List (Nat × List (Nat × fE1))
/-- what an entry of the pool is: kind, three numbers, a constant; its word's place in the tables -/
abbrev fK1 : Type := Nat × Nat × Nat × Nat × Int
abbrev fK : Type := List (Nat × fK1)
abbrev fD : Type := MethodName × ByteArray × Nat × Option FieldType × fT × fK × Nat × Nat × List (Nat × Nat × Nat × Nat × Nat)
def fw (z : Int) : Int := Int.bmod z 4294967296
def fwl (z : Int) : Int := Int.bmod z 18446744073709551616
def fand (x y : Int) : Int := (Int32.ofInt x &&& Int32.ofInt y).toInt
def fior (x y : Int) : Int := (Int32.ofInt x ||| Int32.ofInt y).toInt
def fxor (x y : Int) : Int := (Int32.ofInt x ^^^ Int32.ofInt y).toInt
def fshl (x y : Int) : Int := (Int32.ofInt x <<< (Int32.ofInt y &&& 31)).toInt
def fshr (x y : Int) : Int := (Int32.ofInt x >>> (Int32.ofInt y &&& 31)).toInt
def fush (x y : Int) : Int := ((Int32.ofInt x).toUInt32 >>> ((Int32.ofInt y).toUInt32 &&& Int32.toUInt32 31)).toInt32.toInt
def flan (x y : Int) : Int := (Int64.ofInt x &&& Int64.ofInt y).toInt
def flor (x y : Int) : Int := (Int64.ofInt x ||| Int64.ofInt y).toInt
def fls (x y : Int) : Int := (Int64.ofInt x <<< ((Int32.ofInt y).toInt64 &&& 63)).toInt
def flr (x y : Int) : Int := (Int64.ofInt x >>> ((Int32.ofInt y).toInt64 &&& 63)).toInt
def fi2b (z : Int) : Int := (Int32.ofInt z).toInt8.toInt32.toInt
def fdiv (x y : Int) : Int := fw (Int.tdiv x y)
def frem (x y : Int) : Int := fw (x - fw (fw (Int.tdiv x y) * y))
def fldv (x y : Int) : Int := fwl (Int.tdiv x y)
def flrm (x y : Int) : Int := fwl (x - fwl (fwl (Int.tdiv x y) * y))
def fcm (x y : Int) : Int := if y < x then 1 else if x = y then 0 else -1
def fcd (c : ClassFile.Cond) (x y : Int) : Prop := match c with
  | .eq => x = y
  | .ne => ¬ x = y
  | .lt => x < y
  | .ge => y ≤ x
  | .gt => y < x
  | .le => x ≤ y
def fget : fL → Nat → Option fV
  | [], _ => none
  | x :: _, 0 => x
  | _ :: t, k + 1 => fget t k
def flg : Option fV → Bool
  | some (.inr (.inl _)) => true
  | _ => false
def fst1 : fL → Nat → fV → fL
  | [], _, _ => []
  | _ :: t, 0, v => some v :: t
  | x :: t, 1, v => (bif flg x then none else x) :: fst1 t 0 v
  | x :: t, k + 2, v => x :: fst1 t (k + 1) v
def fst2 : fL → Nat → fV → fL
  | [], _, _ => []
  | [_], 0, v => [some v]
  | _ :: _ :: t, 0, v => some v :: none :: t
  | x :: t, 1, v => (bif flg x then none else x) :: fst2 t 0 v
  | x :: t, k + 2, v => x :: fst2 t (k + 1) v
def fup (M : fM) (k i : Nat) (v : Int) : fM := fun a b => if a = k ∧ b = i then v else M a b
def fupN (J : Nat → Nat → Nat) (k i : Nat) (v : Nat) : Nat → Nat → Nat := fun a b => if a = k ∧ b = i then v else J a b
def fclr (M : fM) (k : Nat) : fM := fun a b => if a = k then 0 else M a b
def fclN (J : Nat → Nat → Nat) (k : Nat) : Nat → Nat → Nat := fun a b => if a = k then 0 else J a b
/-- n numbers of cell k from i on come to cell q from j on -/
def fcpy (M : fM) (k i q j n : Nat) : fM := fun a b => if a = q ∧ j ≤ b ∧ b < j + n then M k (i + (b - j)) else M a b
def flk1 {α : Type} : List (Nat × α) → Nat → Option α
  | [], _ => none
  | q :: t, k => bif Nat.beq q.1 k then some q.2 else flk1 t k
def flk2 : fT → Nat → Option fE1
  | [], _ => none
  | q :: t, k => bif Nat.ble k q.1 then flk1 q.2 k else flk2 t k
/-- locals at the entry -/
def fent : List fV → fL
  | [] => []
  | v :: t => bif flg (some v) then some v :: none :: fent t else some v :: fent t
def fpad : Nat → fL → fL
  | 0, l => l
  | n + 1, [] => none :: fpad n []
  | n + 1, x :: t => x :: fpad n t
/-- the last n of a stack as arguments, and the rest -/
def fpop : Nat → List fV → List fV → Option (List fV × List fV)
  | 0, st, acc => some (acc, st)
  | _ + 1, [], _ => none
  | n + 1, v :: st, acc => fpop n st (v :: acc)
def fcat (v : fV) : Nat := bif flg (some v) then 2 else 1
def fsum : List fV → Nat
  | [] => 0
  | v :: t => fcat v + fsum t
def fall : List Prop → Prop
  | [] => True
  | [p] => p
  | p :: t => p ∧ fall t
