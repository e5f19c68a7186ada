/-! ===== states, and what the functions of the methods are made of ===== -/
abbrev HP : Type := Nat → Nat → Int32
/-- which cells the towers are that are laid, told -/
abbrev TW : Type := Nat × Nat
/-- the cells: what each is (0 ints, 1 booleans, 2 rows of ints, c + 3 an object of class c) and how long -/
def kdL : List (Nat × Nat) := [(9, 12), (7, 4), (0, 200), (0, 3), (8, 9), (0, 8), (0, 8), (0, 8), (0, 32), (8, 9), (0, 8), (0, 8), (0, 8), (0, 32),
  (3, 6), (0, 32), (0, 16), (0, 8), (0, 8), (3, 6), (0, 32), (0, 16), (0, 8), (0, 8), (5, 4), (0, 528), (5, 4), (0, 132), (0, 32), (0, 8),
  (6, 1), (2, 4), (0, 1089), (0, 1089), (0, 1089), (0, 1089), (4, 4), (0, 8), (0, 8),
  (10, 23), (0, 19), (0, 19), (0, 32), (0, 66), (0, 528), (0, 132), (0, 200), (0, 32), (0, 8), (0, 2), (0, 3), (0, 32), (0, 66), (0, 4356), (0, 256), (1, 256)]
def kd (k : Nat) : Nat × Nat := kdL.getD k (11, 0)
/-- how long a cell is -/
def ln (k : Nat) : Nat := (kd k).2
/-- cell k holds f -/
def upc (h : HP) (k : Nat) (f : Nat → Int32) : HP := fun q => if q = k then f else h q
def up (h : HP) (k j : Nat) (x : Int32) : HP := upc h k (upd (h k) j x)
theorem upc_same (h : HP) (k : Nat) (f : Nat → Int32) : upc h k f k = f := if_pos rfl
theorem upc_ne (h : HP) {k q : Nat} (f : Nat → Int32) (n : q ≠ k) : upc h k f q = h q := if_neg n
def jrem (x y : Int32) : Int32 := x - x / y * y
def jlrem (x y : Int64) : Int64 := x - x / y * y
def jshl (x y : Int32) : Int32 := x <<< (y &&& 31)
def jshr (x y : Int32) : Int32 := x >>> (y &&& 31)
def jushr (x y : Int32) : Int32 := (x.toUInt32 >>> (y.toUInt32 &&& Int32.toUInt32 31)).toInt32
/-- a place in a row of so many -/
def inb (x : Int32) (L : Nat) : Bool := decide (¬ (x < 0 ∨ L ≤ x.toNatClampNeg))
/-- System.arraycopy -/
def cpb (x y n : Int32) (L0 L1 : Nat) : Bool := decide (¬ x < 0 ∧ ¬ y < 0 ∧ ¬ n < 0 ∧ x.toNatClampNeg + n.toNatClampNeg ≤ L0 ∧ y.toNatClampNeg + n.toNatClampNeg ≤ L1)
def cpy (h : HP) (a : Nat) (x : Int32) (b : Nat) (y n : Int32) : HP := upc h b (va_cpy (h a) (h b) x.toNatClampNeg y.toNatClampNeg n.toNatClampNeg)
abbrev ix (x : Int32) : Nat := x.toNatClampNeg
def ob {α β : Type} (o : Option (α × HP)) (k : α → HP → Option β) : Option β := match o with
  | none => none
  | some q => k q.1 q.2
def obv {β : Type} (o : Option HP) (k : HP → Option β) : Option β := match o with
  | none => none
  | some q => k q
def ob3 {β : Type} (o : Option (Int32 × TW × HP)) (k : Int32 → TW → HP → Option β) : Option β := match o with
  | none => none
  | some q => k q.1 q.2.1 q.2.2
def TO (t : Nat) : Prop := t = 4 ∨ t = 9
def DR (t : Nat) : Prop := t = 14 ∨ t = 19
def SF (t : Nat) : Prop := t = 24 ∨ t = 26
