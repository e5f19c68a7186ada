section
/-! ===== states, and what the functions of the methods are made of ===== -/
abbrev HP : Type := Nat → Nat → Int32
/-- which cells the towers are that are laid, told -/
abbrev TW : Type := Nat × Nat
/-- the cells: what each is (0 ints, 1 booleans, 2 rows of ints, c + 3 an object of class c) and how long -/
def kdL : List (Nat × Nat) := [(9, 12), (7, 4), (0, 200), (0, 3), (8, 9), (0, 8), (0, 8), (0, 8), (0, 32), (8, 9), (0, 8), (0, 8), (0, 8), (0, 32),
  (3, 6), (0, 32), (0, 16), (0, 8), (0, 8), (3, 6), (0, 32), (0, 16), (0, 8), (0, 8), (5, 4), (0, 528), (5, 4), (0, 132), (0, 32), (0, 8),
  (6, 1), (2, 4), (0, 1089), (0, 1089), (0, 1089), (0, 1089), (4, 4), (0, 8), (0, 8),
  (10, 23), (0, 19), (0, 19), (0, 32), (0, 66), (0, 528), (0, 132), (0, 200), (0, 32), (0, 8), (0, 2), (0, 3), (0, 32), (0, 66), (0, 4356), (0, 256), (1, 256)]
def kd (k : Nat) : Nat × Nat := kdL.getD k (11, 0)
/-- how long a cell is -/
def ln (k : Nat) : Nat := (kd k).2
/-- cell k holds f -/
def upc (h : HP) (k : Nat) (f : Nat → Int32) : HP := fun q => if q = k then f else h q
def up (h : HP) (k j : Nat) (x : Int32) : HP := upc h k (upd (h k) j x)
theorem upc_same (h : HP) (k : Nat) (f : Nat → Int32) : upc h k f k = f := if_pos rfl
theorem upc_ne (h : HP) {k q : Nat} (f : Nat → Int32) (n : q ≠ k) : upc h k f q = h q := if_neg n
def jrem (x y : Int32) : Int32 := x - x / y * y
def jlrem (x y : Int64) : Int64 := x - x / y * y
def jshl (x y : Int32) : Int32 := x <<< (y &&& 31)
def jshr (x y : Int32) : Int32 := x >>> (y &&& 31)
def jushr (x y : Int32) : Int32 := (x.toUInt32 >>> (y.toUInt32 &&& Int32.toUInt32 31)).toInt32
/-- a place in a row of so many -/
def inb (x : Int32) (L : Nat) : Bool := decide (¬ (x < 0 ∨ L ≤ x.toNatClampNeg))
/-- System.arraycopy -/
def cpb (x y n : Int32) (L0 L1 : Nat) : Bool := decide (¬ x < 0 ∧ ¬ y < 0 ∧ ¬ n < 0 ∧ x.toNatClampNeg + n.toNatClampNeg ≤ L0 ∧ y.toNatClampNeg + n.toNatClampNeg ≤ L1)
def cpy (h : HP) (a : Nat) (x : Int32) (b : Nat) (y n : Int32) : HP := upc h b (va_cpy (h a) (h b) x.toNatClampNeg y.toNatClampNeg n.toNatClampNeg)
abbrev ix (x : Int32) : Nat := x.toNatClampNeg
def ob {α β : Type} (o : Option (α × HP)) (k : α → HP → Option β) : Option β := match o with
  | none => none
  | some q => k q.1 q.2
def obv {β : Type} (o : Option HP) (k : HP → Option β) : Option β := match o with
  | none => none
  | some q => k q
def ob3 {β : Type} (o : Option (Int32 × TW × HP)) (k : Int32 → TW → HP → Option β) : Option β := match o with
  | none => none
  | some q => k q.1 q.2.1 q.2.2
def TO (t : Nat) : Prop := t = 4 ∨ t = 9
def DR (t : Nat) : Prop := t = 14 ∨ t = 19
def SF (t : Nat) : Prop := t = 24 ∨ t = 26
end
section
def f_J7_fill_53178_5 (F : Nat) (r0 : Nat) (x1 : Int32) : Nat → Int32 → Int32 → HP → Option (HP)
  | 0, _, _, _ => none
  | n + 1, x2, x3, h =>
    if x3 ≤ x2 then
      some h
    else
      if inb x2 (ln r0) then
        f_J7_fill_53178_5 F r0 x1 n (x2 + (nI 1)) x3 (up h r0 (ix x2) x1)
      else none
def f_J7_fill_53178 (F : Nat) (r0 : Nat) (x1 : Int32) (h : HP) : Option (HP) :=
  f_J7_fill_53178_5 F r0 x1 F (nI 0) (nI (ln r0)) h
def f_X0_startWith (F : Nat) (r0 : Nat) (r1 : Nat) (h : HP) : Option (HP) :=
  obv (f_J7_fill_53178 F (r0 + 1) (nI 0) h) (fun h1 =>
  if cpb (nI 0) (nI 0) (h1 r1 7) 32 32 then
    obv (f_J7_fill_53178 F (r0 + 2) (nI 0) (cpy h1 (r1 + 4) (nI 0) (r0 + 1) (nI 0) (h1 r1 7))) (fun h4 =>
    obv (f_J7_fill_53178 F (r0 + 3) (nI 0) h4) (fun h6 =>
    obv (f_J7_fill_53178 F (r0 + 4) (nI 0) h6) (fun h8 =>
    some (up (up h8 r0 4 (h8 r1 4)) r0 5 (nI 0)))))
  else none)
def f_X0_strike_7 (F : Nat) (r0 : Nat) (x1 : Int32) (r2 : Nat) : Nat → Int32 → Int32 → HP → Option (Int32 × HP)
  | 0, _, _, _ => none
  | n + 1, x3, x4, h =>
    if inb x1 8 then
      if (x3 + (h (r2 + 2) (ix x1))) ≤ x4 then
        some ((nI 0), h)
      else
        if inb x4 16 then
          if (h r0 5) < (h (r0 + 2) (ix x4)) then
            f_X0_strike_7 F r0 x1 r2 n x3 (x4 + (nI 1)) h
          else
            some ((nI 1), up h (r0 + 2) (ix x4) (((h r0 5) + (h r2 5)) + (nI 1)))
        else none
    else none
def f_X0_strike (F : Nat) (r0 : Nat) (x1 : Int32) (r2 : Nat) (h : HP) : Option (Int32 × HP) :=
  f_X0_strike_7 F r0 x1 r2 F (x1 * (nI 2)) (x1 * (nI 2)) h
def f_X0_ringRow_32 (F : Nat) (r0 : Nat) (x1 : Int32) (r2 : Nat) : Nat → Int32 → Int32 → HP → Option (Int32 × HP)
  | 0, _, _, _ => none
  | n + 1, x3, x4, h =>
    if (h r2 0) ≤ x4 then
      some (x3, h)
    else
      if inb x1 32 then
        if ((jshr (h (r0 + 1) (ix x1)) x4) &&& (nI 1)) = nI 0 then
          f_X0_ringRow_32 F r0 x1 r2 n x3 (x4 + (nI 1)) h
        else
          ob (f_X0_strike F r0 x4 r2 h) (fun v8 h6 =>
          if v8 = nI 0 then
            if inb x4 8 then
              f_X0_ringRow_32 F r0 x1 r2 n x3 (x4 + (nI 1)) (up h6 (r0 + 4) (ix x4) ((h6 (r0 + 4) (ix x4)) + (nI 1)))
            else none
          else
            if inb x4 8 then
              f_X0_ringRow_32 F r0 x1 r2 n (x3 ||| (jshl (nI 1) x4)) (x4 + (nI 1)) (up h6 (r0 + 3) (ix x4) ((h6 (r0 + 3) (ix x4)) + (nI 1)))
            else none)
      else none
def f_X0_ringRow (F : Nat) (r0 : Nat) (x1 : Int32) (r2 : Nat) (h : HP) : Option (Int32 × HP) :=
  if x1 < nI 0 then
    some ((nI 0), h)
  else
    if x1 < (nI 32) then
      f_X0_ringRow_32 F r0 x1 r2 F (nI 0) (nI 0) (up (up h r0 4 x1) r0 5 (((up h r0 4 x1) r0 5) + (nI 1)))
    else
      some ((nI 0), h)
def f_X0_turnOn (F : Nat) (r0 : Nat) (r1 : Nat) (h : HP) : Option (Int32 × HP) :=
  ob (f_X0_ringRow F r0 (if (h r0 4) < ((h r1 4) - (nI 1)) then (h r0 4) + (nI 1) else (nI 0)) r1 h) (fun v3 h1 =>
  some (v3, h1))
def f_X0_turnOff (F : Nat) (r0 : Nat) (r1 : Nat) (h : HP) : Option (Int32 × HP) :=
  ob (f_X0_ringRow F r0 (if nI 0 < (h r0 4) then (h r0 4) - (nI 1) else (h r1 4) - (nI 1)) r1 h) (fun v3 h1 =>
  some (v3, h1))
def f_X0_copy (F : Nat) (r0 : Nat) (r1 : Nat) (h : HP) : Option (HP) :=
  if cpb (nI 0) (nI 0) (nI 32) 32 32 then
    if cpb (nI 0) (nI 0) (nI 16) 16 16 then
      if cpb (nI 0) (nI 0) (nI 8) 8 8 then
        if cpb (nI 0) (nI 0) (nI 8) 8 8 then
          some (up (up (cpy (cpy (cpy (cpy h (r1 + 1) (nI 0) (r0 + 1) (nI 0) (nI 32)) (r1 + 2) (nI 0) (r0 + 2) (nI 0) (nI 16)) (r1 + 3) (nI 0) (r0 + 3) (nI 0) (nI 8)) (r1 + 4) (nI 0) (r0 + 4) (nI 0) (nI 8)) r0 4 ((cpy (cpy (cpy (cpy h (r1 + 1) (nI 0) (r0 + 1) (nI 0) (nI 32)) (r1 + 2) (nI 0) (r0 + 2) (nI 0) (nI 16)) (r1 + 3) (nI 0) (r0 + 3) (nI 0) (nI 8)) (r1 + 4) (nI 0) (r0 + 4) (nI 0) (nI 8)) r1 4)) r0 5 ((up (cpy (cpy (cpy (cpy h (r1 + 1) (nI 0) (r0 + 1) (nI 0) (nI 32)) (r1 + 2) (nI 0) (r0 + 2) (nI 0) (nI 16)) (r1 + 3) (nI 0) (r0 + 3) (nI 0) (nI 8)) (r1 + 4) (nI 0) (r0 + 4) (nI 0) (nI 8)) r0 4 ((cpy (cpy (cpy (cpy h (r1 + 1) (nI 0) (r0 + 1) (nI 0) (nI 32)) (r1 + 2) (nI 0) (r0 + 2) (nI 0) (nI 16)) (r1 + 3) (nI 0) (r0 + 3) (nI 0) (nI 8)) (r1 + 4) (nI 0) (r0 + 4) (nI 0) (nI 8)) r1 4)) r1 5))
        else none
      else none
    else none
  else none
def f_X0_saveTo (F : Nat) (r0 : Nat) (r1 : Nat) (x2 : Int32) (h : HP) : Option (HP) :=
  if x2 < nI 0 then
    some h
  else
    if (x2 + (nI 66)) ≤ (nI (ln r1)) then
      if inb x2 (ln r1) then
        if inb (x2 + (nI 1)) (ln r1) then
          if cpb (nI 0) ((x2 + (nI 1)) + (nI 1)) (nI 32) 32 (ln r1) then
            if cpb (nI 0) (((x2 + (nI 1)) + (nI 1)) + (nI 32)) (nI 16) 16 (ln r1) then
              if cpb (nI 0) ((((x2 + (nI 1)) + (nI 1)) + (nI 32)) + (nI 16)) (nI 8) 8 (ln r1) then
                if cpb (nI 0) (((((x2 + (nI 1)) + (nI 1)) + (nI 32)) + (nI 16)) + (nI 8)) (nI 8) 8 (ln r1) then
                  some (cpy (cpy (cpy (cpy (up (up h r1 (ix x2) (h r0 4)) r1 (ix (x2 + (nI 1))) ((up h r1 (ix x2) (h r0 4)) r0 5)) (r0 + 1) (nI 0) r1 ((x2 + (nI 1)) + (nI 1)) (nI 32)) (r0 + 2) (nI 0) r1 (((x2 + (nI 1)) + (nI 1)) + (nI 32)) (nI 16)) (r0 + 3) (nI 0) r1 ((((x2 + (nI 1)) + (nI 1)) + (nI 32)) + (nI 16)) (nI 8)) (r0 + 4) (nI 0) r1 (((((x2 + (nI 1)) + (nI 1)) + (nI 32)) + (nI 16)) + (nI 8)) (nI 8))
                else none
              else none
            else none
          else none
        else none
      else none
    else
      some h
def f_X0_loadFrom (F : Nat) (r0 : Nat) (r1 : Nat) (x2 : Int32) (h : HP) : Option (HP) :=
  if x2 < nI 0 then
    some h
  else
    if (x2 + (nI 66)) ≤ (nI (ln r1)) then
      if inb x2 (ln r1) then
        if inb (x2 + (nI 1)) (ln r1) then
          if cpb ((x2 + (nI 1)) + (nI 1)) (nI 0) (nI 32) (ln r1) 32 then
            if cpb (((x2 + (nI 1)) + (nI 1)) + (nI 32)) (nI 0) (nI 16) (ln r1) 16 then
              if cpb ((((x2 + (nI 1)) + (nI 1)) + (nI 32)) + (nI 16)) (nI 0) (nI 8) (ln r1) 8 then
                if cpb (((((x2 + (nI 1)) + (nI 1)) + (nI 32)) + (nI 16)) + (nI 8)) (nI 0) (nI 8) (ln r1) 8 then
                  some (cpy (cpy (cpy (cpy (up (up h r0 4 (h r1 (ix x2))) r0 5 ((up h r0 4 (h r1 (ix x2))) r1 (ix (x2 + (nI 1))))) r1 ((x2 + (nI 1)) + (nI 1)) (r0 + 1) (nI 0) (nI 32)) r1 (((x2 + (nI 1)) + (nI 1)) + (nI 32)) (r0 + 2) (nI 0) (nI 16)) r1 ((((x2 + (nI 1)) + (nI 1)) + (nI 32)) + (nI 16)) (r0 + 3) (nI 0) (nI 8)) r1 (((((x2 + (nI 1)) + (nI 1)) + (nI 32)) + (nI 16)) + (nI 8)) (r0 + 4) (nI 0) (nI 8))
                else none
              else none
            else none
          else none
        else none
      else none
    else
      some h
def f_J9_max_7cf53 (F : Nat) (x0 : Int32) (x1 : Int32) (h : HP) : Option (Int32 × HP) :=
  if x0 < x1 then
    some (x1, h)
  else
    some (x0, h)
def f_X1_partFrom_31 (F : Nat) (kr : Int32 → Int32 → HP → Option HP) (x1 : Int32) (x2 : Int32) : Nat → Int32 → HP → Option (HP)
  | 0, _, _ => none
  | n + 1, x3, h =>
    if x2 < x3 then
      some h
    else
      if (nI 8) ≤ x3 then
        some h
      else
        if inb x3 8 then
          if inb x1 8 then
            if ((h 38 (ix x3)) &&& (h 37 (ix x1))) = nI 0 then
              ob (f_J9_max_7cf53 F x2 (x3 + (nI 1)) (up h 38 (ix x3) ((h 38 (ix x3)) ||| (jshl (nI 1) x1)))) (fun v11 h9 =>
              obv (kr (x1 + (nI 1)) v11 h9) (fun h12 =>
              f_X1_partFrom_31 F kr x1 x2 n (x3 + (nI 1)) (up h12 38 (ix x3) ((h12 38 (ix x3)) &&& ((jshl (nI 1) x1) ^^^ (-1))))))
            else
              f_X1_partFrom_31 F kr x1 x2 n (x3 + (nI 1)) h
          else none
        else none
def f_X1_partFrom (F : Nat) : Nat → Int32 → Int32 → HP → Option HP
  | 0, _, _, _ => none
  | dd + 1, x1, x2, h =>
    if x2 < (h 36 3) then
      if (h 36 2) ≤ x1 then
        some (up h 36 3 x2)
      else
        if x1 < (nI 8) then
          f_X1_partFrom_31 F (f_X1_partFrom F dd) x1 x2 F (nI 0) h
        else
          some (up h 36 3 x2)
    else
      some h
def f_X1_fewestPeople_45 (F : Nat) (r1 : Nat) (r2 : Nat) (k_34 : Int32 → HP → Option (Int32 × HP)) : Nat → Int32 → Int32 → HP → Option (Int32 × HP)
  | 0, _, _, _ => none
  | n + 1, x3, x4, h =>
    if (h 36 2) ≤ x4 then
      k_34 (x3 + (nI 1)) h
    else
      if inb x3 (ln r1) then
        if ((jshr (h r1 (ix x3)) x4) &&& (nI 1)) = (nI 1) then
          if inb x4 8 then
            f_X1_fewestPeople_45 F r1 r2 k_34 n x3 (x4 + (nI 1)) (up h 37 (ix x4) ((h 37 (ix x4)) ||| ((h r1 (ix x3)) &&& ((jshl (nI 1) x4) ^^^ (-1)))))
          else none
        else
          f_X1_fewestPeople_45 F r1 r2 k_34 n x3 (x4 + (nI 1)) h
      else none
def f_X1_fewestPeople_34 (F : Nat) (r1 : Nat) (r2 : Nat) : Nat → Int32 → HP → Option (Int32 × HP)
  | 0, _, _ => none
  | n + 1, x3, h =>
    if (h r2 4) ≤ x3 then
      obv (f_X1_partFrom F 12 (nI 0) (nI 0) h) (fun h6 =>
      some (h6 36 3, h6))
    else
      f_X1_fewestPeople_45 F r1 r2 (f_X1_fewestPeople_34 F r1 r2 n) F x3 (nI 0) h
def f_X1_fewestPeople (F : Nat) (r1 : Nat) (r2 : Nat) (h : HP) : Option (Int32 × HP) :=
  obv (f_J7_fill_53178 F 37 (nI 0) (up (up h 36 2 (h r2 0)) 36 3 ((up h 36 2 (h r2 0)) 36 2))) (fun h1 =>
  obv (f_J7_fill_53178 F 38 (nI 0) h1) (fun h3 =>
  f_X1_fewestPeople_34 F r1 r2 F (nI 0) h3))
def f_X2_clear (F : Nat) (r0 : Nat) (h : HP) : Option (HP) :=
  some (up h r0 3 (nI 0))
def f_J9_min_7cf53 (F : Nat) (x0 : Int32) (x1 : Int32) (h : HP) : Option (Int32 × HP) :=
  if x1 < x0 then
    some (x1, h)
  else
    some (x0, h)
def f_X2_put (F : Nat) (r0 : Nat) (r1 : Nat) (h : HP) : Option (HP) :=
  obv (f_X0_saveTo F r1 (r0 + 1) ((h r0 2) * (nI 66)) h) (fun h1 =>
  ob (f_J9_min_7cf53 F (((up h1 r0 2 (if (h1 r0 0) ≤ ((h1 r0 2) + (nI 1)) then (nI 0) else (h1 r0 2) + (nI 1))) r0 3) + (nI 1)) ((up h1 r0 2 (if (h1 r0 0) ≤ ((h1 r0 2) + (nI 1)) then (nI 0) else (h1 r0 2) + (nI 1))) r0 0) (up h1 r0 2 (if (h1 r0 0) ≤ ((h1 r0 2) + (nI 1)) then (nI 0) else (h1 r0 2) + (nI 1)))) (fun v5 h3 =>
  some (up h3 r0 3 v5)))
def f_X2_takeInto (F : Nat) (r0 : Nat) (r1 : Nat) (h : HP) : Option (Int32 × HP) :=
  if (nI 1) ≤ (h r0 3) then
    obv (f_X0_loadFrom F r1 (r0 + 1) (((up (up h r0 3 ((h r0 3) - (nI 1))) r0 2 (if ((up h r0 3 ((h r0 3) - (nI 1))) r0 2) ≤ nI 0 then ((up h r0 3 ((h r0 3) - (nI 1))) r0 0) - (nI 1) else ((up h r0 3 ((h r0 3) - (nI 1))) r0 2) - (nI 1))) r0 2) * (nI 66)) (up (up h r0 3 ((h r0 3) - (nI 1))) r0 2 (if ((up h r0 3 ((h r0 3) - (nI 1))) r0 2) ≤ nI 0 then ((up h r0 3 ((h r0 3) - (nI 1))) r0 0) - (nI 1) else ((up h r0 3 ((h r0 3) - (nI 1))) r0 2) - (nI 1)))) (fun h2 =>
    some ((nI 1), h2))
  else
    some ((nI 0), h)
def f_J6_bitCount_0f7a4 (F : Nat) (x0 : Int32) (h : HP) : Option (Int32 × HP) :=
  some ((((((((x0 - ((jushr x0 (nI 1)) &&& (nI 1431655765))) &&& (nI 858993459)) + ((jushr (x0 - ((jushr x0 (nI 1)) &&& (nI 1431655765))) (nI 2)) &&& (nI 858993459))) + (jushr (((x0 - ((jushr x0 (nI 1)) &&& (nI 1431655765))) &&& (nI 858993459)) + ((jushr (x0 - ((jushr x0 (nI 1)) &&& (nI 1431655765))) (nI 2)) &&& (nI 858993459))) (nI 4))) &&& (nI 252645135)) + (jushr (((((x0 - ((jushr x0 (nI 1)) &&& (nI 1431655765))) &&& (nI 858993459)) + ((jushr (x0 - ((jushr x0 (nI 1)) &&& (nI 1431655765))) (nI 2)) &&& (nI 858993459))) + (jushr (((x0 - ((jushr x0 (nI 1)) &&& (nI 1431655765))) &&& (nI 858993459)) + ((jushr (x0 - ((jushr x0 (nI 1)) &&& (nI 1431655765))) (nI 2)) &&& (nI 858993459))) (nI 4))) &&& (nI 252645135)) (nI 8))) + (jushr ((((((x0 - ((jushr x0 (nI 1)) &&& (nI 1431655765))) &&& (nI 858993459)) + ((jushr (x0 - ((jushr x0 (nI 1)) &&& (nI 1431655765))) (nI 2)) &&& (nI 858993459))) + (jushr (((x0 - ((jushr x0 (nI 1)) &&& (nI 1431655765))) &&& (nI 858993459)) + ((jushr (x0 - ((jushr x0 (nI 1)) &&& (nI 1431655765))) (nI 2)) &&& (nI 858993459))) (nI 4))) &&& (nI 252645135)) + (jushr (((((x0 - ((jushr x0 (nI 1)) &&& (nI 1431655765))) &&& (nI 858993459)) + ((jushr (x0 - ((jushr x0 (nI 1)) &&& (nI 1431655765))) (nI 2)) &&& (nI 858993459))) + (jushr (((x0 - ((jushr x0 (nI 1)) &&& (nI 1431655765))) &&& (nI 858993459)) + ((jushr (x0 - ((jushr x0 (nI 1)) &&& (nI 1431655765))) (nI 2)) &&& (nI 858993459))) (nI 4))) &&& (nI 252645135)) (nI 8))) (nI 16))) &&& (nI 63), h)
def f_X3_lettersOf (F : Nat) (x0 : Int32) (h : HP) : Option (Int32 × HP) :=
  ob (f_J6_bitCount_0f7a4 F x0 h) (fun v3 h1 =>
  if (nI 2) ≤ v3 then
    some (v3 + (nI 2), h1)
  else
    some ((nI 1), h1))
def f_X3_timesTold_48 (F : Nat) (x1 : Int32) (x2 : Int32) (r3 : Nat) (x4 : Int32) (x5 : Int32) (h : HP) : Option (Int32 × HP) :=
  if x2 ≤ nI 0 then
    some ((nI 1), h)
  else
    if x2 ≠ (nI 0) then
      some ((nI 1) + (x5 / x2), h)
    else none
def f_X3_timesTold_18 (F : Nat) (x1 : Int32) (x2 : Int32) (r3 : Nat) (x4 : Int32) : Nat → Int32 → Int32 → HP → Option (Int32 × HP)
  | 0, _, _, _ => none
  | n + 1, x5, x6, h =>
    if x6 ≤ x5 then
      f_X3_timesTold_48 F x1 x2 r3 x4 x5 h
    else
      if inb (x1 + x5) (ln r3) then
        if inb ((x1 + x5) + x2) (ln r3) then
          if (h r3 (ix (x1 + x5))) = (h r3 (ix ((x1 + x5) + x2))) then
            f_X3_timesTold_18 F x1 x2 r3 x4 n (x5 + (nI 1)) x6 h
          else
            f_X3_timesTold_48 F x1 x2 r3 x4 x5 h
        else none
      else none
def f_X3_timesTold (F : Nat) (x1 : Int32) (x2 : Int32) (r3 : Nat) (x4 : Int32) (h : HP) : Option (Int32 × HP) :=
  ob (f_J9_min_7cf53 F ((x4 - x1) - x2) ((nI 8) * x2) h) (fun v3 h1 =>
  f_X3_timesTold_18 F x1 x2 r3 x4 F (nI 0) v3 h1)
def f_X3_beginWithPart_3 (F : Nat) (r1 : Nat) (x2 : Int32) (x3 : Int32) (x4 : Int32) (x5 : Int32) : Nat → Int32 → HP → Option (HP)
  | 0, _, _ => none
  | n + 1, x6, h =>
    if x5 < x6 then
      some h
    else
      if inb ((x3 * (nI 33)) + x6) (ln r1) then
        if inb ((x2 * (nI 33)) + x6) (ln r1) then
          if (h r1 (ix ((x2 * (nI 33)) + x6))) ≤ (x4 + (h r1 (ix ((x3 * (nI 33)) + x6)))) then
            f_X3_beginWithPart_3 F r1 x2 x3 x4 x5 n (x6 + (nI 1)) h
          else
            f_X3_beginWithPart_3 F r1 x2 x3 x4 x5 n (x6 + (nI 1)) (up h r1 (ix ((x2 * (nI 33)) + x6)) (x4 + (h r1 (ix ((x3 * (nI 33)) + x6)))))
        else none
      else none
def f_X3_beginWithPart (F : Nat) (r1 : Nat) (x2 : Int32) (x3 : Int32) (x4 : Int32) (x5 : Int32) (h : HP) : Option (HP) :=
  f_X3_beginWithPart_3 F r1 x2 x3 x4 x5 F x3 h
def f_X3_fillFrom_136 (F : Nat) (x1 : Int32) (x2 : Int32) (r3 : Nat) (x4 : Int32) (k_79 : Int32 → HP → Option (HP)) : Nat → Int32 → Int32 → Int32 → Int32 → HP → Option (HP)
  | 0, _, _, _, _, _ => none
  | n + 1, x7, x8, x9, x10, h =>
    if (x2 + (x9 * x7)) < x10 then
      k_79 (x7 + (nI 1)) h
    else
      obv (f_X3_beginWithPart F (31 + 1 + (ix x1)) x2 x10 x8 x4 h) (fun h19 =>
      f_X3_fillFrom_136 F x1 x2 r3 x4 k_79 n x7 x8 x9 (x10 + x7) h19)
def f_X3_fillFrom_79 (F : Nat) (x1 : Int32) (x2 : Int32) (r3 : Nat) (x4 : Int32) : Nat → Int32 → HP → Option (HP)
  | 0, _, _ => none
  | n + 1, x7, h =>
    if x1 ≤ nI 0 then
      some h
    else
      if x4 < (x2 + ((nI 2) * x7)) then
        some h
      else
        if inb (x1 - (nI 1)) 4 then
          if inb (((x2 * (nI 33)) + x2) + x7) 1089 then
            ob (f_X3_timesTold F x2 x7 r3 x4 h) (fun v17 h15 =>
            f_X3_fillFrom_136 F x1 x2 r3 x4 (f_X3_fillFrom_79 F x1 x2 r3 x4 n) F x7 ((nI 3) + (h (31 + 1 + (ix (x1 - (nI 1)))) (ix (((x2 * (nI 33)) + x2) + x7)))) v17 (x2 + ((nI 2) * x7)) h15)
          else none
        else none
def f_X3_fillFrom_38 (F : Nat) (x1 : Int32) (x2 : Int32) (r3 : Nat) (x4 : Int32) : Nat → Int32 → Int32 → HP → Option (HP)
  | 0, _, _, _ => none
  | n + 1, x6, x7, h =>
    if x4 < x7 then
      f_X3_fillFrom_79 F x1 x2 r3 x4 F (nI 1) h
    else
      if inb (((x2 + (nI 1)) * (nI 33)) + x7) 1089 then
        if inb ((x2 * (nI 33)) + x7) 1089 then
          f_X3_fillFrom_38 F x1 x2 r3 x4 n x6 (x7 + (nI 1)) (up h (31 + 1 + (ix x1)) (ix ((x2 * (nI 33)) + x7)) (x6 + (h (31 + 1 + (ix x1)) (ix (((x2 + (nI 1)) * (nI 33)) + x7)))))
        else none
      else none
def f_X3_fillFrom (F : Nat) (x1 : Int32) (x2 : Int32) (r3 : Nat) (x4 : Int32) (h : HP) : Option (HP) :=
  if inb x1 4 then
    if inb ((x2 * (nI 33)) + x2) 1089 then
      if x2 < x4 then
        if inb x2 (ln r3) then
          ob (f_X3_lettersOf F ((up h (31 + 1 + (ix x1)) (ix ((x2 * (nI 33)) + x2)) (nI 0)) r3 (ix x2)) (up h (31 + 1 + (ix x1)) (ix ((x2 * (nI 33)) + x2)) (nI 0))) (fun v7 h5 =>
          f_X3_fillFrom_38 F x1 x2 r3 x4 F v7 (x2 + (nI 1)) h5)
        else none
      else
        some (up h (31 + 1 + (ix x1)) (ix ((x2 * (nI 33)) + x2)) (nI 0))
    else none
  else none
def f_X3_fewestLetters_28 (F : Nat) (r1 : Nat) (x2 : Int32) (k_20 : Int32 → HP → Option (Int32 × HP)) : Nat → Int32 → Int32 → HP → Option (Int32 × HP)
  | 0, _, _, _ => none
  | n + 1, x3, x4, h =>
    if x4 < nI 0 then
      k_20 (x3 + (nI 1)) h
    else
      obv (f_X3_fillFrom F x3 x4 r1 x2 h) (fun h7 =>
      f_X3_fewestLetters_28 F r1 x2 k_20 n x3 (x4 + (-1)) h7)
def f_X3_fewestLetters_20 (F : Nat) (r1 : Nat) (x2 : Int32) : Nat → Int32 → HP → Option (Int32 × HP)
  | 0, _, _ => none
  | n + 1, x3, h =>
    if (nI 3) < x3 then
      if inb x2 1089 then
        some (h 35 (ix x2), h)
      else none
    else
      f_X3_fewestLetters_28 F r1 x2 (f_X3_fewestLetters_20 F r1 x2 n) F x3 x2 h
def f_X3_fewestLetters (F : Nat) (r1 : Nat) (x2 : Int32) (h : HP) : Option (Int32 × HP) :=
  if x2 < nI 0 then
    some ((nI 0), h)
  else
    if (nI 32) < x2 then
      some ((nI 0), h)
    else
      if x2 ≤ (nI (ln r1)) then
        f_X3_fewestLetters_20 F r1 x2 F (nI 0) h
      else
        some ((nI 0), h)
def f_X4_append (F : Nat) (x1 : Int32) (h : HP) : Option (Int32 × HP) :=
  if (h 1 1) < (nI 200) then
    if inb (h 1 1) 200 then
      some ((nI 1), up (up h 2 (ix (h 1 1)) x1) 1 1 (((up h 2 (ix (h 1 1)) x1) 1 1) + (nI 1)))
    else none
  else
    some ((nI 0), h)
def f_X4_clear (F : Nat)  (h : HP) : Option (HP) :=
  some (up h 1 1 (nI 0))
def f_X5_clear (F : Nat) (r0 : Nat) (h : HP) : Option (HP) :=
  some (up (up (up (up (up h r0 0 (nI 0)) r0 4 (nI 16)) r0 5 (nI 1)) r0 6 (nI 0)) r0 7 (nI 0))
def f_X4_peek (F : Nat)  (h : HP) : Option (Int32 × HP) :=
  if (h 1 2) < nI 0 then
    some ((nI 0), h)
  else
    if (h 1 1) ≤ (h 1 2) then
      some ((nI 0), h)
    else
      if inb (h 1 2) 200 then
        some (h 2 (ix (h 1 2)), h)
      else none
def f_X4_readFigure (F : Nat)  (h : HP) : Option (Int32 × HP) :=
  ob (f_X4_peek F h) (fun v3 h1 =>
  if (v3 - (nI 48)) < nI 0 then
    some ((-1), h1)
  else
    if (v3 - (nI 48)) ≤ (nI 9) then
      some (v3 - (nI 48), up h1 1 2 ((h1 1 2) + (nI 1)))
    else
      some ((-1), h1))
def f_X4_readNumber (F : Nat)  (h : HP) : Option (Int32 × HP) :=
  ob (f_X4_readFigure F h) (fun v3 h1 =>
  if nI 0 ≤ v3 then
    ob (f_X4_readFigure F h1) (fun v7 h5 =>
    if nI 0 ≤ v7 then
      some ((v3 * (nI 10)) + v7, h5)
    else
      some (v3, h5))
  else
    some ((-1), h1))
def f_X4_accept (F : Nat) (x1 : Int32) (h : HP) : Option (Int32 × HP) :=
  ob (f_X4_peek F h) (fun v3 h1 =>
  if v3 = x1 then
    some ((nI 1), up h1 1 2 ((h1 1 2) + (nI 1)))
  else
    some ((nI 0), h1))
def f_J9_abs_0f7a4 (F : Nat) (x0 : Int32) (h : HP) : Option (Int32 × HP) :=
  if nI 0 ≤ x0 then
    some (x0, h)
  else
    some (-x0, h)
def f_X5_addBell_63 (F : Nat) (r0 : Nat) (x1 : Int32) (x2 : Int32) : Nat → Int32 → HP → Option (Int32 × HP)
  | 0, _, _ => none
  | n + 1, x3, h =>
    if (h r0 0) ≤ x3 then
      some ((nI 1), up h r0 0 ((h r0 0) + (nI 1)))
    else
      if inb x3 8 then
        ob (f_J9_abs_0f7a4 F ((h (r0 + 1) (ix x3)) - x1) h) (fun v13 h11 =>
        if ((jshr (nI 3142) (jrem v13 (nI 12))) &&& (nI 1)) = (nI 1) then
          if inb ((up h11 (r0 + 3) (ix x3) ((h11 (r0 + 3) (ix x3)) ||| (jshl (nI 1) (h11 r0 0)))) r0 0) 8 then
            f_X5_addBell_63 F r0 x1 x2 n (x3 + (nI 1)) (up (up h11 (r0 + 3) (ix x3) ((h11 (r0 + 3) (ix x3)) ||| (jshl (nI 1) (h11 r0 0)))) (r0 + 3) (ix ((up h11 (r0 + 3) (ix x3) ((h11 (r0 + 3) (ix x3)) ||| (jshl (nI 1) (h11 r0 0)))) r0 0)) (((up h11 (r0 + 3) (ix x3) ((h11 (r0 + 3) (ix x3)) ||| (jshl (nI 1) (h11 r0 0)))) (r0 + 3) (ix ((up h11 (r0 + 3) (ix x3) ((h11 (r0 + 3) (ix x3)) ||| (jshl (nI 1) (h11 r0 0)))) r0 0))) ||| (jshl (nI 1) x3)))
          else none
        else
          f_X5_addBell_63 F r0 x1 x2 n (x3 + (nI 1)) h11)
      else none
def f_X5_addBell (F : Nat) (r0 : Nat) (x1 : Int32) (x2 : Int32) (h : HP) : Option (Int32 × HP) :=
  if (nI 8) ≤ (h r0 0) then
    some ((nI 0), h)
  else
    if x1 < nI 0 then
      some ((nI 0), h)
    else
      if (nI 40) < x1 then
        some ((nI 0), h)
      else
        if x2 < (nI 1) then
          some ((nI 0), h)
        else
          if x2 ≤ (nI 2) then
            if inb (h r0 0) 8 then
              if inb ((up h (r0 + 1) (ix (h r0 0)) x1) r0 0) 8 then
                if inb ((up (up h (r0 + 1) (ix (h r0 0)) x1) (r0 + 2) (ix ((up h (r0 + 1) (ix (h r0 0)) x1) r0 0)) x2) r0 0) 8 then
                  f_X5_addBell_63 F r0 x1 x2 F (nI 0) (up (up (up h (r0 + 1) (ix (h r0 0)) x1) (r0 + 2) (ix ((up h (r0 + 1) (ix (h r0 0)) x1) r0 0)) x2) (r0 + 3) (ix ((up (up h (r0 + 1) (ix (h r0 0)) x1) (r0 + 2) (ix ((up h (r0 + 1) (ix (h r0 0)) x1) r0 0)) x2) r0 0)) (nI 0))
                else none
              else none
            else none
          else
            some ((nI 0), h)
def f_X4_readBell (F : Nat) (r1 : Nat) (h : HP) : Option (Int32 × HP) :=
  ob (f_X4_readNumber F h) (fun v3 h1 =>
  ob (f_X4_accept F (nI 44) h1) (fun v6 h4 =>
  if v6 = nI 0 then
    some ((nI 0), h4)
  else
    ob (f_X4_readNumber F h4) (fun v10 h8 =>
    ob (f_X5_addBell F r1 v3 v10 h8) (fun v13 h11 =>
    if v13 = nI 0 then
      some ((nI 0), h11)
    else
      some ((nI 1), h11)))))
def f_X5_tellRows (F : Nat) (r0 : Nat) (x1 : Int32) (h : HP) : Option (Int32 × HP) :=
  if x1 < (nI 2) then
    some ((nI 0), h)
  else
    if x1 ≤ (nI 32) then
      some ((nI 1), up h r0 4 x1)
    else
      some ((nI 0), h)
def f_X5_tellRest (F : Nat) (r0 : Nat) (x1 : Int32) (h : HP) : Option (Int32 × HP) :=
  if x1 < nI 0 then
    some ((nI 0), h)
  else
    if x1 ≤ (nI 6) then
      some ((nI 1), up h r0 5 x1)
    else
      some ((nI 0), h)
def f_X5_addRow (F : Nat) (r0 : Nat) (x1 : Int32) (h : HP) : Option (Int32 × HP) :=
  if (h r0 7) < (nI 32) then
    if inb (h r0 7) 32 then
      some ((nI 1), up (up h (r0 + 4) (ix (h r0 7)) x1) r0 7 (((up h (r0 + 4) (ix (h r0 7)) x1) r0 7) + (nI 1)))
    else none
  else
    some ((nI 0), h)
def f_X5_tellAgain_31 (F : Nat) (r0 : Nat) (x1 : Int32) (x2 : Int32) : Nat → Int32 → Int32 → HP → Option (Int32 × HP)
  | 0, _, _, _ => none
  | n + 1, x3, x4, h =>
    if (x3 * (x2 - (nI 1))) ≤ x4 then
      some ((nI 1), h)
    else
      if inb (x1 + x4) 32 then
        ob (f_X5_addRow F r0 (h (r0 + 4) (ix (x1 + x4))) h) (fun v8 h6 =>
        f_X5_tellAgain_31 F r0 x1 x2 n x3 (x4 + (nI 1)) h6)
      else none
def f_X5_tellAgain (F : Nat) (r0 : Nat) (x1 : Int32) (x2 : Int32) (h : HP) : Option (Int32 × HP) :=
  if x1 < nI 0 then
    some ((nI 0), h)
  else
    if ((h r0 7) - x1) < (nI 1) then
      some ((nI 0), h)
    else
      if (x1 + (((h r0 7) - x1) * x2)) ≤ (nI 32) then
        f_X5_tellAgain_31 F r0 x1 x2 F ((h r0 7) - x1) (nI 0) h
      else
        some ((nI 0), h)
def f_X4_readBellLetter (F : Nat) (x1 : Int32) (h : HP) : Option (Int32 × HP) :=
  ob (f_X4_peek F h) (fun v3 h1 =>
  if (v3 - (nI 97)) < nI 0 then
    some ((-1), up h1 1 2 ((h1 1 2) + (nI 1)))
  else
    if x1 ≤ (v3 - (nI 97)) then
      some ((-1), up h1 1 2 ((h1 1 2) + (nI 1)))
    else
      some (v3 - (nI 97), up h1 1 2 ((h1 1 2) + (nI 1))))
def f_X4_readSet_91 (F : Nat) (x1 : Int32) (x2 : Int32) (h : HP) : Option (Int32 × HP) :=
  ob (f_X4_accept F (nI 93) h) (fun v25 h23 =>
  if v25 = nI 0 then
    some ((-1), h23)
  else
    ob (f_J6_bitCount_0f7a4 F x2 h23) (fun v29 h27 =>
    if v29 < (nI 2) then
      some ((-1), h27)
    else
      some (x2, h27)))
def f_X4_readSet_42 (F : Nat) (x1 : Int32) : Nat → Int32 → Int32 → HP → Option (Int32 × HP)
  | 0, _, _, _ => none
  | n + 1, x2, x3, h =>
    if (nI 8) ≤ x3 then
      f_X4_readSet_91 F x1 x2 h
    else
      ob (f_X4_peek F h) (fun v16 h14 =>
      if v16 = (nI 93) then
        f_X4_readSet_91 F x1 x2 h14
      else
        ob (f_X4_readBellLetter F x1 h14) (fun v20 h18 =>
        if v20 < nI 0 then
          some ((-1), h18)
        else
          if (jshr x2 v20) = nI 0 then
            f_X4_readSet_42 F x1 n (x2 ||| (jshl (nI 1) v20)) (x3 + (nI 1)) h18
          else
            some ((-1), h18)))
def f_X4_readSet (F : Nat) (x1 : Int32) (h : HP) : Option (Int32 × HP) :=
  ob (f_X4_accept F (nI 46) h) (fun v3 h1 =>
  if v3 = nI 0 then
    ob (f_X4_accept F (nI 91) h1) (fun v7 h5 =>
    if v7 = nI 0 then
      ob (f_X4_readBellLetter F x1 h5) (fun v11 h9 =>
      if nI 0 ≤ v11 then
        some (jshl (nI 1) v11, h9)
      else
        some ((-1), h9))
    else
      f_X4_readSet_42 F x1 F (nI 0) (nI 0) h5)
  else
    some ((nI 0), h1))
def f_X4_readTune_149 (F : Nat) (r1 : Nat) (x2 : Int32) (h : HP) : Option (Int32 × HP) :=
  if x2 = nI 0 then
    if (h r1 7) ≤ nI 0 then
      some ((nI 0), h)
    else
      some ((nI 1), h)
  else
    some ((nI 0), h)
def f_X4_readTune_18 (F : Nat) (r1 : Nat) : Nat → Int32 → Int32 → HP → Option (Int32 × HP)
  | 0, _, _, _ => none
  | n + 1, x2, x3, h =>
    if (nI 200) ≤ x3 then
      f_X4_readTune_149 F r1 x2 h
    else
      ob (f_X4_peek F h) (fun v5 h3 =>
      if v5 = (nI 59) then
        f_X4_readTune_149 F r1 x2 h3
      else
        ob (f_X4_accept F (nI 40) h3) (fun v9 h7 =>
        if v9 = nI 0 then
          ob (f_X4_accept F (nI 41) h7) (fun v13 h11 =>
          if v13 = nI 0 then
            ob (f_X4_readSet F (h11 r1 0) h11) (fun v17 h15 =>
            if v17 < nI 0 then
              some ((nI 0), h15)
            else
              ob (f_X5_addRow F r1 v17 h15) (fun v21 h19 =>
              if v21 = nI 0 then
                some ((nI 0), h19)
              else
                f_X4_readTune_18 F r1 n x2 (x3 + (nI 1)) h19))
          else
            ob (f_X4_readFigure F h11) (fun v25 h23 =>
            if x2 < (nI 1) then
              some ((nI 0), h23)
            else
              if v25 < (nI 2) then
                some ((nI 0), h23)
              else
                if inb (x2 - (nI 1)) 3 then
                  ob (f_X5_tellAgain F r1 (h23 3 (ix (x2 - (nI 1)))) v25 h23) (fun v31 h29 =>
                  if v31 = nI 0 then
                    some ((nI 0), h29)
                  else
                    f_X4_readTune_18 F r1 n (x2 + (-1)) (x3 + (nI 1)) h29)
                else none))
        else
          if x2 < (nI 3) then
            if inb x2 3 then
              f_X4_readTune_18 F r1 n (x2 + (nI 1)) (x3 + (nI 1)) (up h7 3 (ix x2) (h7 r1 7))
            else none
          else
            some ((nI 0), h7)))
def f_X4_readTune (F : Nat) (r1 : Nat) (h : HP) : Option (Int32 × HP) :=
  if (h r1 6) = nI 0 then
    f_X4_readTune_18 F r1 F (nI 0) (nI 0) (up h r1 6 (nI 1))
  else
    some ((nI 0), h)
def f_X4_readItem (F : Nat) (r1 : Nat) (h : HP) : Option (Int32 × HP) :=
  ob (f_X4_peek F h) (fun v3 h1 =>
  if v3 = nI 98 then
    ob (f_X4_readBell F r1 (up h1 1 2 ((h1 1 2) + (nI 1)))) (fun v7 h5 =>
    if v7 = nI 0 ∨ v7 = nI 1 then
      some (v7, h5)
    else none)
  else if v3 = nI 110 then
    ob (f_X4_readNumber F (up h1 1 2 ((h1 1 2) + (nI 1)))) (fun v12 h10 =>
    ob (f_X5_tellRows F r1 v12 h10) (fun v15 h13 =>
    if v15 = nI 0 ∨ v15 = nI 1 then
      some (v15, h13)
    else none))
  else if v3 = nI 114 then
    ob (f_X4_readNumber F (up h1 1 2 ((h1 1 2) + (nI 1)))) (fun v20 h18 =>
    ob (f_X5_tellRest F r1 v20 h18) (fun v23 h21 =>
    if v23 = nI 0 ∨ v23 = nI 1 then
      some (v23, h21)
    else none))
  else if v3 = nI 116 then
    ob (f_X4_readTune F r1 (up h1 1 2 ((h1 1 2) + (nI 1)))) (fun v28 h26 =>
    if v28 = nI 0 ∨ v28 = nI 1 then
      some (v28, h26)
    else none)
  else 
    some ((nI 0), up h1 1 2 ((h1 1 2) + (nI 1))))
def f_X4_readInto_11 (F : Nat) (r1 : Nat) : Nat → Int32 → HP → Option (Int32 × HP)
  | 0, _, _ => none
  | n + 1, x2, h =>
    if (nI 200) ≤ x2 then
      some ((-4), h)
    else
      if (h 1 1) ≤ (h 1 2) then
        some ((-4), h)
      else
        ob (f_X4_readItem F r1 h) (fun v7 h5 =>
        if v7 = nI 0 then
          some (h 1 2, h5)
        else
          ob (f_X4_accept F (nI 59) h5) (fun v11 h9 =>
          if v11 = nI 0 then
            some (h 1 2, h9)
          else
            f_X4_readInto_11 F r1 n (x2 + (nI 1)) h9))
def f_X4_readInto (F : Nat) (r1 : Nat) (h : HP) : Option (Int32 × HP) :=
  obv (f_X5_clear F r1 h) (fun h1 =>
  f_X4_readInto_11 F r1 F (nI 0) (up h1 1 2 (nI 0)))
def f_X5_canBeLaid (F : Nat) (r0 : Nat) (h : HP) : Option (Int32 × HP) :=
  if (h r0 0) ≤ nI 0 then
    some ((nI 0), h)
  else
    if (h r0 4) < (h r0 7) then
      some ((nI 0), h)
    else
      some ((nI 1), h)
def f_X5_everyBell (F : Nat) (r0 : Nat) (h : HP) : Option (Int32 × HP) :=
  some ((jshl (nI 1) (h r0 0)) - (nI 1), h)
def f_J9_floorMod_7cf53 (F : Nat) (x0 : Int32) (x1 : Int32) (h : HP) : Option (Int32 × HP) :=
  if x1 ≠ (nI 0) then
    if nI 0 ≤ (x0 ^^^ x1) then
      some (jrem x0 x1, h)
    else
      if (jrem x0 x1) = nI 0 then
        some (jrem x0 x1, h)
      else
        some ((jrem x0 x1) + x1, h)
  else none
def f_X5_rowBehind (F : Nat) (r0 : Nat) (x1 : Int32) (x2 : Int32) (h : HP) : Option (Int32 × HP) :=
  if (h r0 4) ≤ nI 0 then
    some ((nI 0), h)
  else
    ob (f_J9_floorMod_7cf53 F (x1 + x2) (h r0 4) h) (fun v4 h2 =>
    some (v4, h2))
def f_X5_highestTone_5 (F : Nat) (r0 : Nat) (x1 : Int32) : Nat → Int32 → Int32 → HP → Option (Int32 × HP)
  | 0, _, _, _ => none
  | n + 1, x2, x3, h =>
    if (h r0 0) ≤ x3 then
      some (x2, h)
    else
      if ((jshr x1 x3) &&& (nI 1)) = (nI 1) then
        if inb x3 8 then
          ob (f_J9_max_7cf53 F x2 (h (r0 + 1) (ix x3)) h) (fun v6 h4 =>
          f_X5_highestTone_5 F r0 x1 n v6 (x3 + (nI 1)) h4)
        else none
      else
        f_X5_highestTone_5 F r0 x1 n x2 (x3 + (nI 1)) h
def f_X5_highestTone (F : Nat) (r0 : Nat) (x1 : Int32) (h : HP) : Option (Int32 × HP) :=
  f_X5_highestTone_5 F r0 x1 F (-4) (nI 0) h
def f_X6_write (F : Nat) (tw : TW) (x1 : Int32) (h : HP) : Option (Int32 × HP) :=
  if x1 < (nI 32) then
    some ((-1), h)
  else
    if x1 ≤ (nI 126) then
      ob (f_X4_append F x1 h) (fun v5 h3 =>
      if v5 = nI 0 then
        some ((-3), h3)
      else
        some (h3 1 1, h3))
    else
      some ((-1), h)
def f_X6_wipe (F : Nat) (tw : TW)  (h : HP) : Option (Int32 × HP) :=
  obv (f_X4_clear F h) (fun h1 =>
  some (h 1 1, h1))
def f_X6_fault (F : Nat) (tw : TW)  (h : HP) : Option (Int32 × HP) :=
  ob (f_X4_readInto F tw.2 h) (fun v3 h1 =>
  some (v3, h1))
def f_X6_layTold (F : Nat) (tw : TW)  (h : HP) : Option (HP) :=
  obv (f_X0_startWith F 14 tw.2 h) (fun h1 =>
  obv (f_J7_fill_53178 F 28 (nI 0) h1) (fun h3 =>
  obv (f_X2_clear F 24 (up h3 0 9 (nI 0))) (fun h5 =>
  obv (f_X2_clear F 26 h5) (fun h7 =>
  some h7))))
def f_X6_lay (F : Nat) (tw : TW)  (h : HP) : Option (Int32 × TW × HP) :=
  ob (f_X4_readInto F tw.2 h) (fun v3 h1 =>
  if v3 = (-4) then
    ob (f_X5_canBeLaid F tw.2 h1) (fun v7 h5 =>
    if v7 = nI 0 then
      some ((-2), tw, h5)
    else
      obv (f_X6_layTold F tw h5) (fun h9 =>
      some (h9 tw.2 7, (tw.2, tw.1), h9)))
  else
    some ((-2), tw, h1))
def f_X6_isBell (F : Nat) (tw : TW) (x1 : Int32) (h : HP) : Option (Int32 × HP) :=
  if x1 < nI 0 then
    some ((nI 0), h)
  else
    if (h tw.1 0) ≤ x1 then
      some ((nI 0), h)
    else
      some ((nI 1), h)
def f_X6_pinsOfBell_4 (F : Nat) (tw : TW) (x1 : Int32) : Nat → Int32 → Int32 → HP → Option (Int32 × HP)
  | 0, _, _, _ => none
  | n + 1, x2, x3, h =>
    if (h tw.1 4) ≤ x3 then
      some (x2, h)
    else
      if inb x3 32 then
        f_X6_pinsOfBell_4 F tw x1 n (x2 + ((jshr (h 15 (ix x3)) x1) &&& (nI 1))) (x3 + (nI 1)) h
      else none
def f_X6_pinsOfBell (F : Nat) (tw : TW) (x1 : Int32) (h : HP) : Option (Int32 × HP) :=
  f_X6_pinsOfBell_4 F tw x1 F (nI 0) (nI 0) h
def f_X6_bell (F : Nat) (tw : TW) (x1 : Int32) (x2 : Int32) (h : HP) : Option (Int32 × HP) :=
  ob (f_X6_isBell F tw x1 h) (fun v3 h1 =>
  if v3 = nI 0 then
    some ((-1), h1)
  else
    if x2 = nI 0 then
      if inb x1 8 then
        some (h1 (tw.1 + 1) (ix x1), h1)
      else none
    else if x2 = nI 1 then
      if inb x1 8 then
        some (h1 (tw.1 + 2) (ix x1), h1)
      else none
    else if x2 = nI 2 then
      ob (f_X6_pinsOfBell F tw x1 h1) (fun v12 h10 =>
      some (v12, h10))
    else if x2 = nI 3 then
      if inb x1 8 then
        some (h1 17 (ix x1), h1)
      else none
    else if x2 = nI 4 then
      if inb x1 8 then
        some (h1 18 (ix x1), h1)
      else none
    else 
      some ((-1), h1))
def f_X6_isRow (F : Nat) (tw : TW) (x1 : Int32) (h : HP) : Option (Int32 × HP) :=
  if x1 < nI 0 then
    some ((nI 0), h)
  else
    if (h tw.1 4) ≤ x1 then
      some ((nI 0), h)
    else
      some ((nI 1), h)
def f_X6_pins (F : Nat) (tw : TW) (x1 : Int32) (h : HP) : Option (Int32 × HP) :=
  ob (f_X6_isRow F tw x1 h) (fun v3 h1 =>
  if v3 = nI 0 then
    some ((-1), h1)
  else
    if inb x1 32 then
      some (h1 15 (ix x1), h1)
    else none)
def f_X6_isSet (F : Nat) (tw : TW) (x1 : Int32) (h : HP) : Option (Int32 × HP) :=
  if x1 < nI 0 then
    some ((nI 0), h)
  else
    ob (f_X5_everyBell F tw.1 h) (fun v4 h2 =>
    if v4 < x1 then
      some ((nI 0), h2)
    else
      some ((nI 1), h2))
def f_X6_turn (F : Nat) (tw : TW)  (h : HP) : Option (Int32 × HP) :=
  obv (f_X2_put F 24 14 h) (fun h1 =>
  ob (f_X0_turnOn F 14 tw.1 h1) (fun v5 h3 =>
  some (v5, h3)))
def f_X6_turnBack (F : Nat) (tw : TW)  (h : HP) : Option (Int32 × HP) :=
  obv (f_X2_put F 24 14 h) (fun h1 =>
  ob (f_X0_turnOff F 14 tw.1 h1) (fun v5 h3 =>
  some (v5, h3)))
def f_X6_pin (F : Nat) (tw : TW) (x1 : Int32) (x2 : Int32) (x3 : Int32) (h : HP) : Option (Int32 × HP) :=
  ob (f_X6_isRow F tw x1 h) (fun v3 h1 =>
  if v3 = nI 0 then
    some ((-1), h1)
  else
    ob (f_X6_isBell F tw x2 h1) (fun v7 h5 =>
    if v7 = nI 0 then
      some ((-1), h5)
    else
      if inb x1 32 then
        if (if ((jshr (h5 15 (ix x1)) x2) &&& (nI 1)) = (nI 1) then (nI 1) else (nI 0)) = x3 then
          some ((-2), h5)
        else
          obv (f_X2_put F 24 14 h5) (fun h11 =>
          ob (f_J6_bitCount_0f7a4 F ((up h11 15 (ix x1) ((h11 15 (ix x1)) ^^^ (jshl (nI 1) x2))) 15 (ix x1)) (up h11 15 (ix x1) ((h11 15 (ix x1)) ^^^ (jshl (nI 1) x2)))) (fun v15 h13 =>
          some (v15, h13)))
      else none))
def f_X6_shift_23 (F : Nat) (tw : TW) (x1 : Int32) : Nat → Int32 → HP → Option (Int32 × HP)
  | 0, _, _ => none
  | n + 1, x2, h =>
    if (h tw.1 4) ≤ x2 then
      if cpb (nI 0) (nI 0) (h tw.1 4) 32 32 then
        some ((cpy h 20 (nI 0) 15 (nI 0) (h tw.1 4)) 15 0, cpy h 20 (nI 0) 15 (nI 0) (h tw.1 4))
      else none
    else
      ob (f_X5_rowBehind F tw.1 x2 x1 h) (fun v11 h9 =>
      if inb x2 32 then
        if inb v11 32 then
          f_X6_shift_23 F tw x1 n (x2 + (nI 1)) (up h9 20 (ix v11) (h9 15 (ix x2)))
        else none
      else none)
def f_X6_shift (F : Nat) (tw : TW) (x1 : Int32) (h : HP) : Option (Int32 × HP) :=
  ob (f_X6_isRow F tw x1 h) (fun v3 h1 =>
  if v3 = nI 0 then
    some ((-1), h1)
  else
    obv (f_X2_put F 24 14 h1) (fun h5 =>
    f_X6_shift_23 F tw x1 F (nI 0) h5))
def f_X6_undo (F : Nat) (tw : TW)  (h : HP) : Option (Int32 × HP) :=
  ob (f_X2_takeInto F 24 14 h) (fun v3 h1 =>
  if v3 = nI 0 then
    some ((-2), h1)
  else
    some (h1 24 3, h1))
def f_X6_ringsInATurn_4 (F : Nat) (tw : TW) (r1 : Nat) : Nat → Int32 → Int32 → HP → Option (Int32 × HP)
  | 0, _, _, _ => none
  | n + 1, x2, x3, h =>
    if (h tw.1 4) ≤ x3 then
      some (x2, h)
    else
      ob (f_X0_turnOn F r1 tw.1 h) (fun v4 h2 =>
      ob (f_J6_bitCount_0f7a4 F v4 h2) (fun v7 h5 =>
      f_X6_ringsInATurn_4 F tw r1 n (x2 + v7) (x3 + (nI 1)) h5))
def f_X6_ringsInATurn (F : Nat) (tw : TW) (r1 : Nat) (h : HP) : Option (Int32 × HP) :=
  f_X6_ringsInATurn_4 F tw r1 F (nI 0) (nI 0) h
def f_X6_allPins_4 (F : Nat) (tw : TW)  : Nat → Int32 → Int32 → HP → Option (Int32 × HP)
  | 0, _, _, _ => none
  | n + 1, x1, x2, h =>
    if (h tw.1 4) ≤ x2 then
      some (x1, h)
    else
      if inb x2 32 then
        ob (f_J6_bitCount_0f7a4 F (h 15 (ix x2)) h) (fun v5 h3 =>
        f_X6_allPins_4 F tw n (x1 + v5) (x2 + (nI 1)) h3)
      else none
def f_X6_allPins (F : Nat) (tw : TW)  (h : HP) : Option (Int32 × HP) :=
  f_X6_allPins_4 F tw F (nI 0) (nI 0) h
def f_X6_whole_50 (F : Nat) (tw : TW) (x1 : Int32)  (h : HP) : Option (Int32 × HP) :=
  ob (f_X6_ringsInATurn F tw 19 h) (fun v8 h6 =>
  if x1 = nI 0 then
    some (v8, h6)
  else
    ob (f_X6_allPins F tw h6) (fun v12 h10 =>
    some (v12 - v8, h10)))
def f_X6_whole_29 (F : Nat) (tw : TW) (x1 : Int32) : Nat → Int32 → HP → Option (Int32 × HP)
  | 0, _, _ => none
  | n + 1, x2, h =>
    if (nI 8) ≤ x2 then
      f_X6_whole_50 F tw x1  h
    else
      ob (f_X6_ringsInATurn F tw 19 h) (fun v16 h14 =>
      f_X6_whole_29 F tw x1 n (x2 + (nI 1)) h14)
def f_X6_whole (F : Nat) (tw : TW) (x1 : Int32) (h : HP) : Option (Int32 × HP) :=
  if x1 < nI 0 then
    some ((-1), h)
  else
    if x1 ≤ (nI 2) then
      obv (f_X0_copy F 19 14 h) (fun h3 =>
      if x1 = (nI 2) then
        f_X6_whole_29 F tw x1 F (nI 0) h3
      else
        f_X6_whole_50 F tw x1  h3)
    else
      some ((-1), h)
def f_X6_silence_6 (F : Nat) (tw : TW)  : Nat → Int32 → Int32 → Int32 → HP → Option (Int32 × HP)
  | 0, _, _, _, _ => none
  | n + 1, x1, x2, x3, h =>
    if ((nI 2) * (h tw.1 4)) ≤ x3 then
      ob (f_J9_min_7cf53 F x1 (h tw.1 4) h) (fun v4 h2 =>
      some (v4, h2))
    else
      ob (f_X5_rowBehind F tw.1 (nI 0) x3 h) (fun v7 h5 =>
      if inb v7 32 then
        ob (f_J9_max_7cf53 F x1 (if (h5 15 (ix v7)) = nI 0 then x2 + (nI 1) else (nI 0)) h5) (fun v11 h9 =>
        f_X6_silence_6 F tw n v11 (if (h5 15 (ix v7)) = nI 0 then x2 + (nI 1) else (nI 0)) (x3 + (nI 1)) h9)
      else none)
def f_X6_silence (F : Nat) (tw : TW)  (h : HP) : Option (Int32 × HP) :=
  f_X6_silence_6 F tw F (nI 0) (nI 0) (nI 0) h
def f_X6_comesAgainAfter_2 (F : Nat) (tw : TW) (x1 : Int32) : Nat → Int32 → HP → Option (Int32 × HP)
  | 0, _, _ => none
  | n + 1, x2, h =>
    if (h tw.1 4) ≤ x2 then
      some ((nI 1), h)
    else
      if inb x2 32 then
        ob (f_X5_rowBehind F tw.1 x2 x1 h) (fun v5 h3 =>
        if inb v5 32 then
          if (h 15 (ix x2)) = (h3 15 (ix v5)) then
            f_X6_comesAgainAfter_2 F tw x1 n (x2 + (nI 1)) h3
          else
            some ((nI 0), h3)
        else none)
      else none
def f_X6_comesAgainAfter (F : Nat) (tw : TW) (x1 : Int32) (h : HP) : Option (Int32 × HP) :=
  f_X6_comesAgainAfter_2 F tw x1 F (nI 0) h
def f_X6_again_2 (F : Nat) (tw : TW)  : Nat → Int32 → HP → Option (Int32 × HP)
  | 0, _, _ => none
  | n + 1, x1, h =>
    if (h tw.1 4) ≤ x1 then
      some (h tw.1 4, h)
    else
      ob (f_X6_comesAgainAfter F tw x1 h) (fun v4 h2 =>
      if v4 = nI 0 then
        f_X6_again_2 F tw n (x1 + (nI 1)) h2
      else
        some (x1, h2))
def f_X6_again (F : Nat) (tw : TW)  (h : HP) : Option (Int32 × HP) :=
  f_X6_again_2 F tw F (nI 1) h
def f_X6_illTwos_37 (F : Nat) (tw : TW) (x1 : Int32) (k_4 : Int32 → Int32 → HP → Option (Int32 × HP)) : Nat → Int32 → Int32 → Int32 → Int32 → HP → Option (Int32 × HP)
  | 0, _, _, _, _, _ => none
  | n + 1, x2, x3, x4, x5, h =>
    if (h tw.1 0) ≤ x5 then
      k_4 x2 (x3 + (nI 1)) h
    else
      if x4 = nI 0 then
        k_4 x2 (x3 + (nI 1)) h
      else
        if inb x3 32 then
          if ((jshr (h 15 (ix x3)) x5) &&& (nI 1)) = (nI 1) then
            if inb x5 8 then
              ob (f_J6_bitCount_0f7a4 F ((h (tw.1 + 3) (ix x5)) &&& x4) h) (fun v13 h11 =>
              f_X6_illTwos_37 F tw x1 k_4 n (x2 + v13) x3 x4 (x5 + (nI 1)) h11)
            else none
          else
            f_X6_illTwos_37 F tw x1 k_4 n x2 x3 x4 (x5 + (nI 1)) h
        else none
def f_X6_illTwos_4 (F : Nat) (tw : TW) (x1 : Int32) : Nat → Int32 → Int32 → HP → Option (Int32 × HP)
  | 0, _, _, _ => none
  | n + 1, x2, x3, h =>
    if (h tw.1 4) ≤ x3 then
      some (x2, h)
    else
      ob (f_X5_rowBehind F tw.1 x3 x1 h) (fun v4 h2 =>
      if inb v4 32 then
        f_X6_illTwos_37 F tw x1 (f_X6_illTwos_4 F tw x1 n) F x2 x3 (h2 15 (ix v4)) (nI 0) h2
      else none)
def f_X6_illTwos (F : Nat) (tw : TW) (x1 : Int32) (h : HP) : Option (Int32 × HP) :=
  f_X6_illTwos_4 F tw x1 F (nI 0) (nI 0) h
def f_X6_harsh (F : Nat) (tw : TW)  (h : HP) : Option (Int32 × HP) :=
  ob (f_X6_illTwos F tw (nI 0) h) (fun v3 h1 =>
  some (v3 / (nI 2), h1))
def f_X6_canon_22 (F : Nat) (tw : TW) (x1 : Int32) : Nat → Int32 → Int32 → Int32 → HP → Option (Int32 × HP)
  | 0, _, _, _, _ => none
  | n + 1, x2, x3, x4, h =>
    if (h tw.1 4) ≤ x4 then
      if x1 = nI 0 then
        some (x2, h)
      else
        some (x3, h)
    else
      ob (f_X6_illTwos F tw x4 h) (fun v10 h8 =>
      f_X6_canon_22 F tw x1 n (if x3 ≤ v10 then x2 else x4) (if x3 ≤ v10 then x3 else v10) (x4 + (nI 1)) h8)
def f_X6_canon (F : Nat) (tw : TW) (x1 : Int32) (h : HP) : Option (Int32 × HP) :=
  if x1 < nI 0 then
    some ((-1), h)
  else
    if x1 ≤ (nI 1) then
      ob (f_X6_illTwos F tw (nI 1) h) (fun v5 h3 =>
      f_X6_canon_22 F tw x1 F (nI 1) v5 (nI 2) h3)
    else
      some ((-1), h)
def f_X6_want (F : Nat) (tw : TW) (x1 : Int32) (x2 : Int32) (h : HP) : Option (Int32 × HP) :=
  ob (f_X6_isRow F tw x1 h) (fun v3 h1 =>
  if v3 = nI 0 then
    some ((-1), h1)
  else
    ob (f_X6_isSet F tw x2 h1) (fun v7 h5 =>
    if v7 = nI 0 then
      some ((-1), h5)
    else
      if inb x1 32 then
        some (h5 28 (ix x1), up h5 28 (ix x1) x2)
      else none))
def f_X6_changesIfShifted_4 (F : Nat) (tw : TW) (x1 : Int32) : Nat → Int32 → Int32 → HP → Option (Int32 × HP)
  | 0, _, _, _ => none
  | n + 1, x2, x3, h =>
    if (h tw.1 4) ≤ x3 then
      some (x2, h)
    else
      if inb x3 32 then
        ob (f_X5_rowBehind F tw.1 x3 x1 h) (fun v5 h3 =>
        if inb v5 32 then
          ob (f_J6_bitCount_0f7a4 F ((h 15 (ix x3)) ^^^ (h3 28 (ix v5))) h3) (fun v9 h7 =>
          f_X6_changesIfShifted_4 F tw x1 n (x2 + v9) (x3 + (nI 1)) h7)
        else none)
      else none
def f_X6_changesIfShifted (F : Nat) (tw : TW) (x1 : Int32) (h : HP) : Option (Int32 × HP) :=
  f_X6_changesIfShifted_4 F tw x1 F (nI 0) (nI 0) h
def f_X6_changes_22 (F : Nat) (tw : TW) (x1 : Int32) : Nat → Int32 → Int32 → Int32 → HP → Option (Int32 × HP)
  | 0, _, _, _, _ => none
  | n + 1, x2, x3, x4, h =>
    if (h tw.1 4) ≤ x4 then
      if x1 = nI 0 then
        some (x3, h)
      else
        some (x2, h)
    else
      ob (f_X6_changesIfShifted F tw x4 h) (fun v10 h8 =>
      f_X6_changes_22 F tw x1 n (if x3 ≤ v10 then x2 else x4) (if x3 ≤ v10 then x3 else v10) (x4 + (nI 1)) h8)
def f_X6_changes (F : Nat) (tw : TW) (x1 : Int32) (h : HP) : Option (Int32 × HP) :=
  if x1 < nI 0 then
    some ((-1), h)
  else
    if x1 ≤ (nI 1) then
      ob (f_X6_changesIfShifted F tw (nI 0) h) (fun v5 h3 =>
      f_X6_changes_22 F tw x1 F (nI 0) v5 (nI 1) h3)
    else
      some ((-1), h)
def f_X6_letters (F : Nat) (tw : TW)  (h : HP) : Option (Int32 × HP) :=
  ob (f_X3_fewestLetters F 15 (h tw.1 4) h) (fun v3 h1 =>
  some (v3, h1))
def f_X6_ringers (F : Nat) (tw : TW)  (h : HP) : Option (Int32 × HP) :=
  ob (f_X1_fewestPeople F 15 tw.1 h) (fun v3 h1 =>
  some (v3, h1))
def f_X6_hear (F : Nat) (tw : TW) (x1 : Int32) (h : HP) : Option (Int32 × HP) :=
  ob (f_X6_isSet F tw x1 h) (fun v3 h1 =>
  if v3 = nI 0 then
    some ((-1), h1)
  else
    if (h1 0 9) < (nI 8) then
      if inb (h1 0 9) 8 then
        some ((up (up h1 29 (ix (h1 0 9)) x1) 0 9 (((up h1 29 (ix (h1 0 9)) x1) 0 9) + (nI 1))) 0 9, up (up h1 29 (ix (h1 0 9)) x1) 0 9 (((up h1 29 (ix (h1 0 9)) x1) 0 9) + (nI 1)))
      else none
    else
      some ((-3), h1))
def f_X6_forget (F : Nat) (tw : TW)  (h : HP) : Option (Int32 × HP) :=
  some (h 0 9, up h 0 9 (nI 0))
def f_X6_isHeardFrom_2 (F : Nat) (tw : TW) (x1 : Int32) : Nat → Int32 → HP → Option (Int32 × HP)
  | 0, _, _ => none
  | n + 1, x2, h =>
    if (h 0 9) ≤ x2 then
      some ((nI 1), h)
    else
      ob (f_X5_rowBehind F tw.1 x1 x2 h) (fun v4 h2 =>
      if inb v4 32 then
        if inb x2 8 then
          if (h2 15 (ix v4)) = (h2 29 (ix x2)) then
            f_X6_isHeardFrom_2 F tw x1 n (x2 + (nI 1)) h2
          else
            some ((nI 0), h2)
        else none
      else none)
def f_X6_isHeardFrom (F : Nat) (tw : TW) (x1 : Int32) (h : HP) : Option (Int32 × HP) :=
  f_X6_isHeardFrom_2 F tw x1 F (nI 0) h
def f_X6_stood_4 (F : Nat) (tw : TW)  : Nat → Int32 → Int32 → HP → Option (Int32 × HP)
  | 0, _, _, _ => none
  | n + 1, x1, x2, h =>
    if (h tw.1 4) ≤ x2 then
      some (x1, h)
    else
      ob (f_X6_isHeardFrom F tw x2 h) (fun v4 h2 =>
      f_X6_stood_4 F tw n (if v4 = nI 0 then x1 else x1 ||| (jshl (nI 1) x2)) (x2 + (nI 1)) h2)
def f_X6_stood (F : Nat) (tw : TW)  (h : HP) : Option (Int32 × HP) :=
  f_X6_stood_4 F tw F (nI 0) (nI 0) h
def f_X6_octaves_6 (F : Nat) (tw : TW)  : Nat → Int32 → Int32 → Int32 → HP → Option (Int32 × HP)
  | 0, _, _, _, _ => none
  | n + 1, x1, x2, x3, h =>
    if (h tw.1 0) ≤ x3 then
      ob (f_J6_bitCount_0f7a4 F x2 h) (fun v4 h2 =>
      some (v4, h2))
    else
      if inb x3 8 then
        f_X6_octaves_6 F tw n (x1 ||| (jshl (nI 1) (jrem (h (tw.1 + 1) (ix x3)) (nI 12)))) (x2 ||| (x1 &&& (jshl (nI 1) (jrem (h (tw.1 + 1) (ix x3)) (nI 12))))) (x3 + (nI 1)) h
      else none
def f_X6_octaves (F : Nat) (tw : TW)  (h : HP) : Option (Int32 × HP) :=
  f_X6_octaves_6 F tw F (nI 0) (nI 0) (nI 0) h
def f_X6_melody_115 (F : Nat) (tw : TW) (x1 : Int32) (k_25 : Int32 → Int32 → Int32 → Int32 → Int32 → HP → Option (Int32 × HP)) (x2 : Int32) (x3 : Int32) (x4 : Int32) (x5 : Int32) (x6 : Int32) (x7 : Int32) (h : HP) : Option (Int32 × HP) :=
  k_25 x2 x3 x4 (if x7 = (-4) then x5 else x7) (x6 + (nI 1)) h
def f_X6_melody_25 (F : Nat) (tw : TW) (x1 : Int32) : Nat → Int32 → Int32 → Int32 → Int32 → Int32 → HP → Option (Int32 × HP)
  | 0, _, _, _, _, _, _ => none
  | n + 1, x2, x3, x4, x5, x6, h =>
    if (h tw.1 4) ≤ x6 then
      if x1 = nI 0 then
        some (x2, h)
      else
        if x1 = (nI 1) then
          some (x3, h)
        else
          some (x4, h)
    else
      if inb x6 32 then
        ob (f_X5_highestTone F tw.1 (h 15 (ix x6)) h) (fun v9 h7 =>
        if v9 = (-4) then
          f_X6_melody_115 F tw x1 (f_X6_melody_25 F tw x1 n) x2 x3 x4 x5 x6 v9 h7
        else
          if x5 = (-4) then
            f_X6_melody_115 F tw x1 (f_X6_melody_25 F tw x1 n) x2 x3 x4 x5 x6 v9 h7
          else
            ob (f_J9_abs_0f7a4 F (v9 - x5) h7) (fun v14 h12 =>
            ob (f_J9_max_7cf53 F x4 v14 h12) (fun v17 h15 =>
            f_X6_melody_115 F tw x1 (f_X6_melody_25 F tw x1 n) (x2 + (if v9 ≤ x5 then (nI 0) else (nI 1))) (x3 + (if x5 ≤ v9 then (nI 0) else (nI 1))) v17 x5 x6 v9 h15)))
      else none
def f_X6_melody (F : Nat) (tw : TW) (x1 : Int32) (h : HP) : Option (Int32 × HP) :=
  if x1 < nI 0 then
    some ((-1), h)
  else
    if x1 ≤ (nI 2) then
      f_X6_melody_25 F tw x1 F (nI 0) (nI 0) (nI 0) (-4) (nI 0) h
    else
      some ((-1), h)
def f_X6_draw (F : Nat) (x0 : Int32) (x1 : Int32) (h : HP) : Option (Int32 × HP) :=
  some (((jlrem (((((lN 7919) * x0.toInt64) + ((lN 6151) * x1.toInt64)) + (lN 1)) * ((((lN 7919) * x0.toInt64) + ((lN 6151) * x1.toInt64)) + (lN 1))) (lN 65521)) / (lN 8)).toInt32, h)
def f_X6_winter_109 (F : Nat) (tw : TW) (x1 : Int32) (x2 : Int32) (x3 : Int32) : Nat → Int32 → Int32 → Int32 → HP → Option (Int32 × HP)
  | 0, _, _, _, _ => none
  | n + 1, x4, x5, x6, h =>
    if (h tw.1 4) ≤ x6 then
      if x3 = nI 0 then
        some (x4, h)
      else
        some (x5, h)
    else
      if inb x6 32 then
        ob (f_J6_bitCount_0f7a4 F (h 20 (ix x6)) h) (fun v22 h20 =>
        f_X6_winter_109 F tw x1 x2 x3 n (x4 + v22) (x5 + (if (h20 20 (ix x6)) = nI 0 then (nI 1) else (nI 0))) (x6 + (nI 1)) h20)
      else none
def f_X6_winter_47 (F : Nat) (tw : TW) (x1 : Int32) (x2 : Int32) (x3 : Int32) : Nat → Int32 → HP → Option (Int32 × HP)
  | 0, _, _ => none
  | n + 1, x4, h =>
    if x2 ≤ x4 then
      f_X6_winter_109 F tw x1 x2 x3 F (nI 0) (nI 0) (nI 0) h
    else
      ob (f_X6_draw F x1 x4 h) (fun v12 h10 =>
      ob (f_X5_rowBehind F tw.1 (nI 0) v12 h10) (fun v15 h13 =>
      if inb v15 32 then
        f_X6_winter_47 F tw x1 x2 x3 n (x4 + (nI 1)) (up h13 20 (ix v15) ((h13 20 (ix v15)) &&& ((h13 20 (ix v15)) - (nI 1))))
      else none))
def f_X6_winter (F : Nat) (tw : TW) (x1 : Int32) (x2 : Int32) (x3 : Int32) (h : HP) : Option (Int32 × HP) :=
  if x1 < nI 0 then
    some ((-1), h)
  else
    if (nI 9999) < x1 then
      some ((-1), h)
    else
      if x2 < (nI 1) then
        some ((-1), h)
      else
        if (nI 60) < x2 then
          some ((-1), h)
        else
          if x3 < nI 0 then
            some ((-1), h)
          else
            if x3 ≤ (nI 1) then
              obv (f_X0_copy F 19 14 h) (fun h7 =>
              f_X6_winter_47 F tw x1 x2 x3 F (nI 0) h7)
            else
              some ((-1), h)
def f_X6_keep (F : Nat) (tw : TW)  (h : HP) : Option (Int32 × HP) :=
  if (h 26 3) < (nI 2) then
    obv (f_X2_put F 26 14 h) (fun h2 =>
    some (h2 26 3, h2))
  else
    some ((-3), h)
def f_X6_back (F : Nat) (tw : TW)  (h : HP) : Option (Int32 × HP) :=
  ob (f_X2_takeInto F 26 14 h) (fun v3 h1 =>
  if v3 = nI 0 then
    some ((-2), h1)
  else
    obv (f_X2_clear F 24 h1) (fun h5 =>
    some (h5 26 3, h5)))
def f_X6_count (F : Nat) (tw : TW) (x1 : Int32) (h : HP) : Option (Int32 × HP) :=
  if x1 = nI 0 then
    some (h tw.1 0, h)
  else if x1 = nI 1 then
    some (h tw.1 4, h)
  else if x1 = nI 2 then
    some (h tw.1 5, h)
  else if x1 = nI 3 then
    ob (f_X6_allPins F tw h) (fun v7 h5 =>
    some (v7, h5))
  else if x1 = nI 4 then
    some (h 14 5, h)
  else if x1 = nI 5 then
    some (h 14 4, h)
  else if x1 = nI 6 then
    some (h 0 9, h)
  else if x1 = nI 7 then
    some (h 24 3, h)
  else if x1 = nI 8 then
    some (h 26 3, h)
  else if x1 = nI 9 then
    some (h 1 1, h)
  else 
    some ((-1), h)
def f_X7_in (F : Nat) (x0 : Int64) (x2 : Int64) (x4 : Int64) (h : HP) : Option (Int32 × HP) :=
  if (lg_cmp x0 x2) < nI 0 then
    some ((nI 0), h)
  else
    if nI 0 < (lg_cmp x0 x4) then
      some ((nI 0), h)
    else
      some ((nI 1), h)
def f_X7_isTwo (F : Nat) (x0 : Int32) (h : HP) : Option (Int32 × HP) :=
  ob (f_X7_in F x0.toInt64 (lN 0) (lN 1) h) (fun v3 h1 =>
  if v3 = nI 0 ∨ v3 = nI 1 then
    some (v3, h1)
  else none)
def f_X7_has (F : Nat) (x0 : Int32) (x1 : Int32) (h : HP) : Option (Int32 × HP) :=
  if ((jshr x0 x1) &&& (nI 1)) = (nI 1) then
    some ((nI 1), h)
  else
    some ((nI 0), h)
def f_X7_bits_4 (F : Nat) (x0 : Int32) : Nat → Int32 → Int32 → HP → Option (Int32 × HP)
  | 0, _, _, _ => none
  | n + 1, x1, x2, h =>
    if x2 = nI 0 then
      some (x1, h)
    else
      f_X7_bits_4 F x0 n (x1 + (nI 1)) (x2 &&& (x2 - (nI 1))) h
def f_X7_bits (F : Nat) (x0 : Int32) (h : HP) : Option (Int32 × HP) :=
  f_X7_bits_4 F x0 F (nI 0) x0 h
def f_X7_write (F : Nat) (x1 : Int32) (h : HP) : Option (Int32 × HP) :=
  ob (f_X7_in F x1.toInt64 (lN 32) (lN 126) h) (fun v3 h1 =>
  if v3 = nI 0 then
    some ((-1), h1)
  else
    if (h1 39 10) = (nI 200) then
      some ((-3), h1)
    else
      if inb (h1 39 10) 200 then
        some ((up (up h1 46 (ix (h1 39 10)) x1) 39 10 (((up h1 46 (ix (h1 39 10)) x1) 39 10) + (nI 1))) 39 10, up (up h1 46 (ix (h1 39 10)) x1) 39 10 (((up h1 46 (ix (h1 39 10)) x1) 39 10) + (nI 1)))
      else none)
def f_X7_wipe (F : Nat)  (h : HP) : Option (Int32 × HP) :=
  some (h 39 10, up h 39 10 (nI 0))
def f_X7_clean_2 (F : Nat)  : Nat → Int32 → HP → Option (HP)
  | 0, _, _ => none
  | n + 1, x1, h =>
    if (nI 19) ≤ x1 then
      some (up (up (up (up h 41 1 (nI 16)) 41 2 (nI 1)) 39 3 (nI 0)) 39 15 (nI 0))
    else
      if inb x1 19 then
        f_X7_clean_2 F n (x1 + (nI 1)) (up h 41 (ix x1) (nI 0))
      else none
def f_X7_clean (F : Nat)  (h : HP) : Option (HP) :=
  f_X7_clean_2 F F (nI 0) h
def f_X7_comes (F : Nat) (x1 : Int32) (x2 : Int32) (h : HP) : Option (HP) :=
  if inb ((nI 3) + (h 41 0)) 19 then
    if inb ((nI 11) + (h 41 0)) 19 then
      some (up (up (up h 41 (ix ((nI 3) + (h 41 0))) x1) 41 (ix ((nI 11) + (h 41 0))) x2) 41 0 (((up (up h 41 (ix ((nI 3) + (h 41 0))) x1) 41 (ix ((nI 11) + (h 41 0))) x2) 41 0) + (nI 1)))
    else none
  else none
def f_X7_put (F : Nat) (x1 : Int32) (h : HP) : Option (Int32 × HP) :=
  if (h 39 3) = (nI 32) then
    some ((nI 0), h)
  else
    if inb (h 39 3) 32 then
      some ((nI 1), up (up h 42 (ix (h 39 3)) x1) 39 3 (((up h 42 (ix (h 39 3)) x1) 39 3) + (nI 1)))
    else none
def f_X7_here (F : Nat)  (h : HP) : Option (Int32 × HP) :=
  if (h 39 10) ≤ (h 39 14) then
    some ((-1), h)
  else
    if inb (h 39 14) 200 then
      some (h 46 (ix (h 39 14)), h)
    else none
def f_X7_takes_12 (F : Nat) (x1 : Int32) (k_2 : Int32 → HP → Option (Int32 × HP)) : Nat → Int32 → Int32 → Int32 → HP → Option (Int32 × HP)
  | 0, _, _, _, _ => none
  | n + 1, x2, x3, x4, h =>
    ob (f_X7_here F h) (fun v4 h2 =>
    ob (f_X7_in F v4.toInt64 (lN 48) (lN 57) h2) (fun v7 h5 =>
    if v7 = nI 0 then
      ob (f_X7_in F x4.toInt64 (lN 1) (lN 2) h5) (fun v11 h9 =>
      if v11 = nI 0 then
        some ((nI 0), h9)
      else
        ob (f_X7_here F h9) (fun v15 h13 =>
        if v15 = (if (x1 - (nI 1)) ≤ x2 then (nI 59) else (nI 44)) then
          if inb x2 2 then
            k_2 (x2 + (nI 1)) (up (up h13 49 (ix x2) x3) 39 14 (((up h13 49 (ix x2) x3) 39 14) + (nI 1)))
          else none
        else
          some ((nI 0), h13)))
    else
      if (nI 2) ≤ x4 then
        f_X7_takes_12 F x1 k_2 n x2 x3 (x4 + (nI 1)) (up h5 39 14 ((h5 39 14) + (nI 1)))
      else
        ob (f_X7_here F h5) (fun v21 h19 =>
        f_X7_takes_12 F x1 k_2 n x2 ((((nI 10) * x3) + v21) - (nI 48)) (x4 + (nI 1)) (up h19 39 14 ((h19 39 14) + (nI 1))))))
def f_X7_takes_2 (F : Nat) (x1 : Int32) : Nat → Int32 → HP → Option (Int32 × HP)
  | 0, _, _ => none
  | n + 1, x2, h =>
    if x1 ≤ x2 then
      some ((nI 1), h)
    else
      f_X7_takes_12 F x1 (f_X7_takes_2 F x1 n) F x2 (nI 0) (nI 0) h
def f_X7_takes (F : Nat) (x1 : Int32) (h : HP) : Option (Int32 × HP) :=
  f_X7_takes_2 F x1 F (nI 0) h
def f_X7_takesBell (F : Nat)  (h : HP) : Option (Int32 × HP) :=
  ob (f_X7_takes F (nI 2) h) (fun v3 h1 =>
  if v3 = nI 0 then
    some ((nI 0), h1)
  else
    if (nI 40) < (h1 49 0) then
      some ((nI 0), h1)
    else
      ob (f_X7_in F ((h1 49 1).toInt64) (lN 1) (lN 2) h1) (fun v8 h6 =>
      if v8 = nI 0 then
        some ((nI 0), h6)
      else
        if (h6 41 0) = (nI 8) then
          some ((nI 0), h6)
        else
          obv (f_X7_comes F (h6 49 0) (h6 49 1) h6) (fun h11 =>
          some ((nI 1), h11))))
def f_X7_takesOne (F : Nat) (x1 : Int32) (x2 : Int32) (x3 : Int32) (h : HP) : Option (Int32 × HP) :=
  ob (f_X7_takes F (nI 1) h) (fun v3 h1 =>
  if v3 = nI 0 then
    some ((nI 0), h1)
  else
    ob (f_X7_in F ((h1 49 0).toInt64) x2.toInt64 x3.toInt64 h1) (fun v7 h5 =>
    if v7 = nI 0 then
      some ((nI 0), h5)
    else
      if inb x1 19 then
        some ((nI 1), up h5 41 (ix x1) (h5 49 0))
      else none))
def f_X7_isBellHere (F : Nat)  (h : HP) : Option (Int32 × HP) :=
  ob (f_X7_here F h) (fun v3 h1 =>
  ob (f_X7_in F v3.toInt64 (lN 97) (((nI 96) + (h1 41 0)).toInt64) h1) (fun v6 h4 =>
  if v6 = nI 0 ∨ v6 = nI 1 then
    some (v6, h4)
  else none))
def f_X7_chord_4 (F : Nat)  : Nat → Int32 → Int32 → HP → Option (Int32 × HP)
  | 0, _, _, _ => none
  | n + 1, x1, x2, h =>
    ob (f_X7_isBellHere F h) (fun v3 h1 =>
    if v3 = nI 0 then
      ob (f_X7_here F h1) (fun v7 h5 =>
      if v7 = (nI 93) then
        ob (f_X7_bits F x1 h5) (fun v11 h9 =>
        if (nI 2) ≤ v11 then
          some (x1, up h9 39 14 ((h9 39 14) + (nI 1)))
        else
          some ((-1), h9))
      else
        some ((-1), h5))
    else
      ob (f_X7_here F h1) (fun v15 h13 =>
      if x2 < (v15 - (nI 97)) then
        f_X7_chord_4 F n (x1 ||| (jshl (nI 1) (v15 - (nI 97)))) (v15 - (nI 97)) (up h13 39 14 ((h13 39 14) + (nI 1)))
      else
        some ((-1), h13)))
def f_X7_chord (F : Nat)  (h : HP) : Option (Int32 × HP) :=
  f_X7_chord_4 F F (nI 0) (-1) h
def f_X7_tellsAgain_17 (F : Nat) (x1 : Int32) (x2 : Int32) (k_8 : Int32 → Int32 → HP → Option (Int32 × HP)) : Nat → Int32 → Int32 → Int32 → HP → Option (Int32 × HP)
  | 0, _, _, _, _ => none
  | n + 1, x3, x4, x5, h =>
    if x3 ≤ x5 then
      k_8 x3 (x4 + (nI 1)) h
    else
      if inb x5 32 then
        ob (f_X7_put F (h 42 (ix x5)) h) (fun v6 h4 =>
        if v6 = nI 0 then
          some ((nI 0), h4)
        else
          f_X7_tellsAgain_17 F x1 x2 k_8 n x3 x4 (x5 + (nI 1)) h4)
      else none
def f_X7_tellsAgain_8 (F : Nat) (x1 : Int32) (x2 : Int32) : Nat → Int32 → Int32 → HP → Option (Int32 × HP)
  | 0, _, _, _ => none
  | n + 1, x3, x4, h =>
    if x2 ≤ x4 then
      some ((nI 1), h)
    else
      f_X7_tellsAgain_17 F x1 x2 (f_X7_tellsAgain_8 F x1 x2 n) F x3 x4 x1 h
def f_X7_tellsAgain (F : Nat) (x1 : Int32) (x2 : Int32) (h : HP) : Option (Int32 × HP) :=
  f_X7_tellsAgain_8 F x1 x2 F (h 39 3) (nI 1) h
def f_X7_takesTune_263 (F : Nat)  (k_16 : Int32 → HP → Option (Int32 × HP)) (x1 : Int32) (x3 : Int32) (h : HP) : Option (Int32 × HP) :=
  if x3 = nI 0 then
    some ((nI 0), h)
  else
    k_16 x1 h
def f_X7_takesTune_129 (F : Nat)  (k_16 : Int32 → HP → Option (Int32 × HP)) (x1 : Int32) (s0 : Int32) (h : HP) : Option (Int32 × HP) :=
  f_X7_takesTune_263 F k_16 x1 s0 h
def f_X7_takesTune_128 (F : Nat)  (k_16 : Int32 → HP → Option (Int32 × HP)) (x1 : Int32) (h : HP) : Option (Int32 × HP) :=
  f_X7_takesTune_129 F k_16 x1 (nI 0) h
def f_X7_takesTune_262 (F : Nat)  (k_16 : Int32 → HP → Option (Int32 × HP)) (x1 : Int32) (s0 : Int32) (h : HP) : Option (Int32 × HP) :=
  f_X7_takesTune_263 F k_16 x1 s0 h
def f_X7_takesTune_261 (F : Nat)  (k_16 : Int32 → HP → Option (Int32 × HP)) (x1 : Int32) (h : HP) : Option (Int32 × HP) :=
  f_X7_takesTune_262 F k_16 x1 (nI 0) h
def f_X7_takesTune_172 (F : Nat)  (k_16 : Int32 → HP → Option (Int32 × HP)) (x1 : Int32) (x2 : Int32) (x3 : Int32) (h : HP) : Option (Int32 × HP) :=
  if x2 = (nI 41) then
    if x1 ≤ nI 0 then
      f_X7_takesTune_263 F k_16 x1 x3 h
    else
      ob (f_X7_here F (up h 39 14 ((h 39 14) + (nI 1)))) (fun v37 h35 =>
      ob (f_X7_in F ((v37 - (nI 48)).toInt64) (lN 2) (lN 9) (up h35 39 14 ((h35 39 14) + (nI 1)))) (fun v40 h38 =>
      if v40 = nI 0 then
        f_X7_takesTune_261 F k_16 (x1 + (-1)) h38
      else
        if inb (x1 + (-1)) 3 then
          if (h38 39 3) ≤ (h38 50 (ix (x1 + (-1)))) then
            f_X7_takesTune_261 F k_16 (x1 + (-1)) h38
          else
            ob (f_X7_tellsAgain F (h38 50 (ix (x1 + (-1)))) (v37 - (nI 48)) h38) (fun v46 h44 =>
            f_X7_takesTune_263 F k_16 (x1 + (-1)) (if v46 = nI 0 then (nI 0) else (nI 1)) h44)
        else none))
  else
    f_X7_takesTune_263 F k_16 x1 x3 h
def f_X7_takesTune_16 (F : Nat)  : Nat → Int32 → HP → Option (Int32 × HP)
  | 0, _, _ => none
  | n + 1, x1, h =>
    ob (f_X7_here F h) (fun v4 h2 =>
    if v4 = (nI 59) then
      if x1 = nI 0 then
        if ((up h2 39 14 ((h2 39 14) + (nI 1))) 39 3) ≤ nI 0 then
          some ((nI 0), up h2 39 14 ((h2 39 14) + (nI 1)))
        else
          some ((nI 1), up h2 39 14 ((h2 39 14) + (nI 1)))
      else
        some ((nI 0), up h2 39 14 ((h2 39 14) + (nI 1)))
    else
      ob (f_X7_here F h2) (fun v10 h8 =>
      ob (f_X7_isBellHere F h8) (fun v13 h11 =>
      if v13 = nI 0 then
        if v10 = (nI 46) then
          ob (f_X7_put F (nI 0) (up h11 39 14 ((h11 39 14) + (nI 1)))) (fun v29 h27 =>
          f_X7_takesTune_263 F (f_X7_takesTune_16 F n) x1 v29 h27)
        else
          if v10 = (nI 91) then
            ob (f_X7_chord F (up h11 39 14 ((h11 39 14) + (nI 1)))) (fun v22 h20 =>
            if v22 ≤ nI 0 then
              f_X7_takesTune_128 F (f_X7_takesTune_16 F n) x1 h20
            else
              ob (f_X7_put F v22 h20) (fun v26 h24 =>
              f_X7_takesTune_263 F (f_X7_takesTune_16 F n) x1 (if v26 = nI 0 then (nI 0) else (nI 1)) h24))
          else
            if v10 = (nI 40) then
              if (nI 3) ≤ x1 then
                f_X7_takesTune_172 F (f_X7_takesTune_16 F n) x1 v10 (nI 0) h11
              else
                if inb x1 3 then
                  f_X7_takesTune_263 F (f_X7_takesTune_16 F n) (x1 + (nI 1)) (nI 1) (up (up h11 39 14 ((h11 39 14) + (nI 1))) 50 (ix x1) ((up h11 39 14 ((h11 39 14) + (nI 1))) 39 3))
                else none
            else
              f_X7_takesTune_172 F (f_X7_takesTune_16 F n) x1 v10 (nI 0) h11
      else
        ob (f_X7_put F (jshl (nI 1) (v10 - (nI 97))) (up h11 39 14 ((h11 39 14) + (nI 1)))) (fun v32 h30 =>
        f_X7_takesTune_263 F (f_X7_takesTune_16 F n) x1 v32 h30))))
def f_X7_takesTune (F : Nat)  (h : HP) : Option (Int32 × HP) :=
  if (h 39 15) = nI 0 then
    f_X7_takesTune_16 F F (nI 0) (up h 39 15 (nI 1))
  else
    some ((nI 0), h)
def f_X7_takesItem (F : Nat)  (h : HP) : Option (Int32 × HP) :=
  ob (f_X7_here F h) (fun v3 h1 =>
  if v3 = nI 98 then
    ob (f_X7_takesBell F (up h1 39 14 ((h1 39 14) + (nI 1)))) (fun v7 h5 =>
    if v7 = nI 0 ∨ v7 = nI 1 then
      some (v7, h5)
    else none)
  else if v3 = nI 110 then
    ob (f_X7_takesOne F (nI 1) (nI 2) (nI 32) (up h1 39 14 ((h1 39 14) + (nI 1)))) (fun v12 h10 =>
    if v12 = nI 0 ∨ v12 = nI 1 then
      some (v12, h10)
    else none)
  else if v3 = nI 114 then
    ob (f_X7_takesOne F (nI 2) (nI 0) (nI 6) (up h1 39 14 ((h1 39 14) + (nI 1)))) (fun v17 h15 =>
    if v17 = nI 0 ∨ v17 = nI 1 then
      some (v17, h15)
    else none)
  else if v3 = nI 116 then
    ob (f_X7_takesTune F (up h1 39 14 ((h1 39 14) + (nI 1)))) (fun v22 h20 =>
    if v22 = nI 0 ∨ v22 = nI 1 then
      some (v22, h20)
    else none)
  else 
    some ((nI 0), up h1 39 14 ((h1 39 14) + (nI 1))))
def f_X7_fault_9 (F : Nat)  : Nat → HP → Option (Int32 × HP)
  | 0, _ => none
  | n + 1, h =>
    if (h 39 10) ≤ (h 39 14) then
      some ((-4), h)
    else
      ob (f_X7_takesItem F h) (fun v6 h4 =>
      if v6 = nI 0 then
        some (h 39 14, h4)
      else
        f_X7_fault_9 F n  h4)
def f_X7_fault (F : Nat)  (h : HP) : Option (Int32 × HP) :=
  obv (f_X7_clean F h) (fun h1 =>
  f_X7_fault_9 F F  (up h1 39 14 (nI 0)))
def f_X7_begins_79 (F : Nat)  : Nat → Int32 → HP → Option (HP)
  | 0, _, _ => none
  | n + 1, x1, h =>
    if (nI 32) ≤ x1 then
      some (up (up (up h 39 13 (nI 0)) 39 6 (nI 0)) 39 8 (nI 0))
    else
      if (h 39 3) ≤ x1 then
        if inb ((nI 2) + x1) 66 then
          if inb x1 32 then
            f_X7_begins_79 F n (x1 + (nI 1)) (up (up h 43 (ix ((nI 2) + x1)) (nI 0)) 47 (ix x1) (nI 0))
          else none
        else none
      else
        if inb x1 32 then
          if inb ((nI 2) + x1) 66 then
            f_X7_begins_79 F n (x1 + (nI 1)) (up (up h 43 (ix ((nI 2) + x1)) (h 42 (ix x1))) 47 (ix x1) (nI 0))
          else none
        else none
def f_X7_begins_28 (F : Nat)  : Nat → Int32 → HP → Option (HP)
  | 0, _, _ => none
  | n + 1, x1, h =>
    if (nI 66) ≤ x1 then
      f_X7_begins_79 F F (nI 0) (up h 43 0 (h 40 1))
    else
      if inb x1 66 then
        f_X7_begins_28 F n (x1 + (nI 1)) (up h 43 (ix x1) (if x1 < (nI 34) then (nI 0) else (if (nI 50) ≤ x1 then (nI 0) else (-1000))))
      else none
def f_X7_begins_2 (F : Nat)  : Nat → Int32 → HP → Option (HP)
  | 0, _, _ => none
  | n + 1, x1, h =>
    if (nI 19) ≤ x1 then
      f_X7_begins_28 F F (nI 0) h
    else
      if inb x1 19 then
        f_X7_begins_2 F n (x1 + (nI 1)) (up h 40 (ix x1) (h 41 (ix x1)))
      else none
def f_X7_begins (F : Nat)  (h : HP) : Option (HP) :=
  f_X7_begins_2 F F (nI 0) h
def f_X7_lay (F : Nat)  (h : HP) : Option (Int32 × HP) :=
  ob (f_X7_fault F h) (fun v3 h1 =>
  if v3 = (-4) then
    if (h1 41 0) = nI 0 then
      some ((-2), h1)
    else
      if (h1 39 3) ≤ (h1 41 1) then
        obv (f_X7_begins F h1) (fun h7 =>
        some (h7 39 3, h7))
      else
        some ((-2), h1)
  else
    some ((-2), h1))
def f_X7_isBell (F : Nat) (x1 : Int32) (h : HP) : Option (Int32 × HP) :=
  ob (f_X7_in F x1.toInt64 (lN 0) (((h 40 0) - (nI 1)).toInt64) h) (fun v3 h1 =>
  if v3 = nI 0 ∨ v3 = nI 1 then
    some (v3, h1)
  else none)
def f_X7_isRow (F : Nat) (x1 : Int32) (h : HP) : Option (Int32 × HP) :=
  ob (f_X7_in F x1.toInt64 (lN 0) (((h 40 1) - (nI 1)).toInt64) h) (fun v3 h1 =>
  if v3 = nI 0 ∨ v3 = nI 1 then
    some (v3, h1)
  else none)
def f_X7_isSet (F : Nat) (x1 : Int32) (h : HP) : Option (Int32 × HP) :=
  ob (f_X7_in F x1.toInt64 (lN 0) (((jshl (nI 1) (h 40 0)) - (nI 1)).toInt64) h) (fun v3 h1 =>
  if v3 = nI 0 ∨ v3 = nI 1 then
    some (v3, h1)
  else none)
def f_X7_rings_46 (F : Nat) (r1 : Nat) (x2 : Int32) (k_5 : Int32 → Int32 → HP → Option (Int32 × HP)) : Nat → Int32 → Int32 → Int32 → Int32 → HP → Option (Int32 × HP)
  | 0, _, _, _, _, _ => none
  | n + 1, x3, x4, x5, x6, h =>
    if x6 < nI 0 then
      if nI 0 ≤ x5 then
        if inb (nI 1) (ln r1) then
          if inb (((nI 34) + ((nI 2) * x4)) + x5) (ln r1) then
            if inb ((nI 50) + x4) (ln r1) then
              k_5 (x3 ||| (jshl (nI 1) x4)) (x4 + (nI 1)) (up (up h r1 (ix (((nI 34) + ((nI 2) * x4)) + x5)) (h r1 1)) r1 (ix ((nI 50) + x4)) (((up h r1 (ix (((nI 34) + ((nI 2) * x4)) + x5)) (h r1 1)) r1 (ix ((nI 50) + x4))) + (nI 1)))
            else none
          else none
        else none
      else
        if inb ((nI 58) + x4) (ln r1) then
          k_5 x3 (x4 + (nI 1)) (up h r1 (ix ((nI 58) + x4)) ((h r1 (ix ((nI 58) + x4))) + (nI 1)))
        else none
    else
      if inb (nI 1) (ln r1) then
        if inb (((nI 34) + ((nI 2) * x4)) + x6) (ln r1) then
          f_X7_rings_46 F r1 x2 k_5 n x3 x4 (if ((h r1 1) - (h r1 (ix (((nI 34) + ((nI 2) * x4)) + x6)))) ≤ (h 40 2) then x5 else x6) (x6 + (-1)) h
        else none
      else none
def f_X7_rings_5 (F : Nat) (r1 : Nat) (x2 : Int32) : Nat → Int32 → Int32 → HP → Option (Int32 × HP)
  | 0, _, _, _ => none
  | n + 1, x3, x4, h =>
    if (h 40 0) ≤ x4 then
      if inb (nI 1) (ln r1) then
        if inb (nI 0) (ln r1) then
          some (x3, up (up h r1 1 ((h r1 1) + (nI 1))) r1 0 x2)
        else none
      else none
    else
      if inb ((nI 2) + x2) (ln r1) then
        ob (f_X7_has F (h r1 (ix ((nI 2) + x2))) x4 h) (fun v7 h5 =>
        if v7 = nI 0 then
          f_X7_rings_5 F r1 x2 n x3 (x4 + (nI 1)) h5
        else
          if inb ((nI 11) + x4) 19 then
            f_X7_rings_46 F r1 x2 (f_X7_rings_5 F r1 x2 n) F x3 x4 (-1) ((h5 40 (ix ((nI 11) + x4))) - (nI 1)) h5
          else none)
      else none
def f_X7_rings (F : Nat) (r1 : Nat) (x2 : Int32) (h : HP) : Option (Int32 × HP) :=
  f_X7_rings_5 F r1 x2 F (nI 0) (nI 0) h
def f_X7_comesNext (F : Nat) (r1 : Nat) (h : HP) : Option (Int32 × HP) :=
  if inb (nI 0) (ln r1) then
    ob (f_X7_rings F r1 (if (h r1 0) < ((h 40 1) - (nI 1)) then (h r1 0) + (nI 1) else (nI 0)) h) (fun v4 h2 =>
    some (v4, h2))
  else none
def f_X7_bell_15 (F : Nat) (x1 : Int32) (x2 : Int32) : Nat → Int32 → Int32 → HP → Option (Int32 × HP)
  | 0, _, _, _ => none
  | n + 1, x3, x4, h =>
    if (h 40 1) ≤ x4 then
      if x2 = nI 0 then
        if inb ((nI 3) + x1) 19 then
          some (h 40 (ix ((nI 3) + x1)), h)
        else none
      else if x2 = nI 1 then
        if inb ((nI 11) + x1) 19 then
          some (h 40 (ix ((nI 11) + x1)), h)
        else none
      else if x2 = nI 2 then
        some (x3, h)
      else if x2 = nI 3 then
        if inb ((nI 50) + x1) 66 then
          some (h 43 (ix ((nI 50) + x1)), h)
        else none
      else if x2 = nI 4 then
        if inb ((nI 58) + x1) 66 then
          some (h 43 (ix ((nI 58) + x1)), h)
        else none
      else 
        some ((-1), h)
    else
      if inb ((nI 2) + x4) 66 then
        ob (f_X7_has F (h 43 (ix ((nI 2) + x4))) x1 h) (fun v18 h16 =>
        f_X7_bell_15 F x1 x2 n (x3 + (if v18 = nI 0 then (nI 0) else (nI 1))) (x4 + (nI 1)) h16)
      else none
def f_X7_bell (F : Nat) (x1 : Int32) (x2 : Int32) (h : HP) : Option (Int32 × HP) :=
  ob (f_X7_isBell F x1 h) (fun v3 h1 =>
  if v3 = nI 0 then
    some ((-1), h1)
  else
    f_X7_bell_15 F x1 x2 F (nI 0) (nI 0) h1)
def f_X7_pins (F : Nat) (x1 : Int32) (h : HP) : Option (Int32 × HP) :=
  ob (f_X7_isRow F x1 h) (fun v3 h1 =>
  if v3 = nI 0 then
    some ((-1), h1)
  else
    if inb ((nI 2) + x1) 66 then
      some (h1 43 (ix ((nI 2) + x1)), h1)
    else none)
def f_X7_copies_3 (F : Nat) (r0 : Nat) (x1 : Int32) (r2 : Nat) (x3 : Int32) : Nat → Int32 → HP → Option (HP)
  | 0, _, _ => none
  | n + 1, x4, h =>
    if (nI 66) ≤ x4 then
      some h
    else
      if inb (x1 + x4) (ln r0) then
        if inb (x3 + x4) (ln r2) then
          f_X7_copies_3 F r0 x1 r2 x3 n (x4 + (nI 1)) (up h r2 (ix (x3 + x4)) (h r0 (ix (x1 + x4))))
        else none
      else none
def f_X7_copies (F : Nat) (r0 : Nat) (x1 : Int32) (r2 : Nat) (x3 : Int32) (h : HP) : Option (HP) :=
  f_X7_copies_3 F r0 x1 r2 x3 F (nI 0) h
def f_X7_remember_49 (F : Nat)   (h : HP) : Option (HP) :=
  obv (f_X7_copies F 43 (nI 0) 44 ((nI 66) * (h 39 6)) h) (fun h2 =>
  some (up h2 39 6 ((h2 39 6) + (nI 1))))
def f_X7_remember_11 (F : Nat)  : Nat → Int32 → HP → Option (HP)
  | 0, _, _ => none
  | n + 1, x1, h =>
    if (nI 462) ≤ x1 then
      f_X7_remember_49 F  (up h 39 6 ((h 39 6) - (nI 1)))
    else
      if inb (x1 + (nI 66)) 528 then
        if inb x1 528 then
          f_X7_remember_11 F n (x1 + (nI 1)) (up h 44 (ix x1) (h 44 (ix (x1 + (nI 66)))))
        else none
      else none
def f_X7_remember (F : Nat)  (h : HP) : Option (HP) :=
  if (h 39 6) = (nI 8) then
    f_X7_remember_11 F F (nI 0) h
  else
    f_X7_remember_49 F  h
def f_X7_turn (F : Nat)  (h : HP) : Option (Int32 × HP) :=
  obv (f_X7_remember F h) (fun h1 =>
  ob (f_X7_comesNext F 43 h1) (fun v5 h3 =>
  some (v5, h3)))
def f_X7_turnBack (F : Nat)  (h : HP) : Option (Int32 × HP) :=
  obv (f_X7_remember F h) (fun h1 =>
  ob (f_X7_rings F 43 (if (h1 43 0) = nI 0 then (h1 40 1) - (nI 1) else (h1 43 0) - (nI 1)) h1) (fun v5 h3 =>
  some (v5, h3)))
def f_X7_pin (F : Nat) (x1 : Int32) (x2 : Int32) (x3 : Int32) (h : HP) : Option (Int32 × HP) :=
  ob (f_X7_isRow F x1 h) (fun v3 h1 =>
  if v3 = nI 0 then
    some ((-1), h1)
  else
    ob (f_X7_isBell F x2 h1) (fun v7 h5 =>
    if v7 = nI 0 then
      some ((-1), h5)
    else
      if inb ((nI 2) + x1) 66 then
        ob (f_X7_has F (h5 43 (ix ((nI 2) + x1))) x2 h5) (fun v12 h10 =>
        if v12 = x3 then
          some ((-2), h10)
        else
          obv (f_X7_remember F h10) (fun h14 =>
          ob (f_X7_bits F ((up h14 43 (ix ((nI 2) + x1)) ((h14 43 (ix ((nI 2) + x1))) ^^^ (jshl (nI 1) x2))) 43 (ix ((nI 2) + x1))) (up h14 43 (ix ((nI 2) + x1)) ((h14 43 (ix ((nI 2) + x1))) ^^^ (jshl (nI 1) x2)))) (fun v18 h16 =>
          some (v18, h16))))
      else none))
def f_X7_shifted (F : Nat) (x1 : Int32) (x2 : Int32) (h : HP) : Option (Int32 × HP) :=
  if (h 40 1) ≠ (nI 0) then
    if inb ((nI 2) + (jrem ((x1 - x2) + (h 40 1)) (h 40 1))) 66 then
      some (h 43 (ix ((nI 2) + (jrem ((x1 - x2) + (h 40 1)) (h 40 1)))), h)
    else none
  else none
def f_X7_shift_46 (F : Nat) (x1 : Int32) : Nat → Int32 → HP → Option (Int32 × HP)
  | 0, _, _ => none
  | n + 1, x2, h =>
    if (h 40 1) ≤ x2 then
      some (h 43 2, h)
    else
      if inb x2 32 then
        if inb ((nI 2) + x2) 66 then
          f_X7_shift_46 F x1 n (x2 + (nI 1)) (up h 43 (ix ((nI 2) + x2)) (h 51 (ix x2)))
        else none
      else none
def f_X7_shift_16 (F : Nat) (x1 : Int32) : Nat → Int32 → HP → Option (Int32 × HP)
  | 0, _, _ => none
  | n + 1, x2, h =>
    if (h 40 1) ≤ x2 then
      f_X7_shift_46 F x1 F (nI 0) h
    else
      ob (f_X7_shifted F x2 x1 h) (fun v10 h8 =>
      if inb x2 32 then
        f_X7_shift_16 F x1 n (x2 + (nI 1)) (up h8 51 (ix x2) v10)
      else none)
def f_X7_shift (F : Nat) (x1 : Int32) (h : HP) : Option (Int32 × HP) :=
  ob (f_X7_isRow F x1 h) (fun v3 h1 =>
  if v3 = nI 0 then
    some ((-1), h1)
  else
    obv (f_X7_remember F h1) (fun h5 =>
    f_X7_shift_16 F x1 F (nI 0) h5))
def f_X7_undo (F : Nat)  (h : HP) : Option (Int32 × HP) :=
  if (h 39 6) = nI 0 then
    some ((-2), h)
  else
    obv (f_X7_copies F 44 ((nI 66) * ((up h 39 6 ((h 39 6) - (nI 1))) 39 6)) 43 (nI 0) (up h 39 6 ((h 39 6) - (nI 1)))) (fun h2 =>
    some (h2 39 6, h2))
def f_X7_sumOf_4 (F : Nat) (x1 : Int32) : Nat → Int32 → Int32 → HP → Option (Int32 × HP)
  | 0, _, _, _ => none
  | n + 1, x2, x3, h =>
    if (h 40 0) ≤ x3 then
      some (x2, h)
    else
      if inb (x1 + x3) 66 then
        f_X7_sumOf_4 F x1 n (x2 + (h 52 (ix (x1 + x3)))) (x3 + (nI 1)) h
      else none
def f_X7_sumOf (F : Nat) (x1 : Int32) (h : HP) : Option (Int32 × HP) :=
  f_X7_sumOf_4 F x1 F (nI 0) (nI 0) h
def f_X7_go_2 (F : Nat) (x1 : Int32) : Nat → Int32 → HP → Option (HP)
  | 0, _, _ => none
  | n + 1, x2, h =>
    if x1 ≤ x2 then
      some h
    else
      ob (f_X7_comesNext F 52 h) (fun v4 h2 =>
      f_X7_go_2 F x1 n (x2 + (nI 1)) h2)
def f_X7_go (F : Nat) (x1 : Int32) (h : HP) : Option (HP) :=
  f_X7_go_2 F x1 F (nI 0) h
def f_X7_whole (F : Nat) (x1 : Int32) (h : HP) : Option (Int32 × HP) :=
  ob (f_X7_in F x1.toInt64 (lN 0) (lN 2) h) (fun v3 h1 =>
  if v3 = nI 0 then
    some ((-1), h1)
  else
    obv (f_X7_copies F 43 (nI 0) 52 (nI 0) h1) (fun h5 =>
    obv (f_X7_go F (if x1 = (nI 2) then (nI 8) * (h5 40 1) else (nI 0)) h5) (fun h7 =>
    ob (f_X7_sumOf F (if x1 = nI 0 then (nI 50) else (nI 58)) h7) (fun v11 h9 =>
    obv (f_X7_go F (h9 40 1) h9) (fun h12 =>
    ob (f_X7_sumOf F (if x1 = nI 0 then (nI 50) else (nI 58)) h12) (fun v16 h14 =>
    some (v16 - v11, h14)))))))
def f_X7_silence_6 (F : Nat)  : Nat → Int32 → Int32 → Int32 → HP → Option (Int32 × HP)
  | 0, _, _, _, _ => none
  | n + 1, x1, x2, x3, h =>
    if ((nI 2) * (h 40 1)) ≤ x3 then
      if x1 ≤ (h 40 1) then
        some (x1, h)
      else
        some (h 40 1, h)
    else
      if (h 40 1) ≠ (nI 0) then
        if inb ((nI 2) + (jrem x3 (h 40 1))) 66 then
          f_X7_silence_6 F n (if (if (h 43 (ix ((nI 2) + (jrem x3 (h 40 1))))) = nI 0 then x2 + (nI 1) else (nI 0)) ≤ x1 then x1 else (if (h 43 (ix ((nI 2) + (jrem x3 (h 40 1))))) = nI 0 then x2 + (nI 1) else (nI 0))) (if (h 43 (ix ((nI 2) + (jrem x3 (h 40 1))))) = nI 0 then x2 + (nI 1) else (nI 0)) (x3 + (nI 1)) h
        else none
      else none
def f_X7_silence (F : Nat)  (h : HP) : Option (Int32 × HP) :=
  f_X7_silence_6 F F (nI 0) (nI 0) (nI 0) h
def f_X7_comesAgain_4 (F : Nat) (x1 : Int32) : Nat → Int32 → Int32 → HP → Option (Int32 × HP)
  | 0, _, _, _ => none
  | n + 1, x2, x3, h =>
    if (h 40 1) ≤ x3 then
      if x2 = nI 0 ∨ x2 = nI 1 then
        some (x2, h)
      else none
    else
      if x2 = nI 0 then
        f_X7_comesAgain_4 F x1 n (nI 0) (x3 + (nI 1)) h
      else
        if (h 40 1) ≠ (nI 0) then
          ob (f_X7_shifted F x3 (jrem x1 (h 40 1)) h) (fun v7 h5 =>
          if inb ((nI 2) + x3) 66 then
            f_X7_comesAgain_4 F x1 n (if v7 = (h5 43 (ix ((nI 2) + x3))) then (nI 1) else (nI 0)) (x3 + (nI 1)) h5
          else none)
        else none
def f_X7_comesAgain (F : Nat) (x1 : Int32) (h : HP) : Option (Int32 × HP) :=
  f_X7_comesAgain_4 F x1 F (nI 1) (nI 0) h
def f_X7_again_2 (F : Nat)  : Nat → Int32 → HP → Option (Int32 × HP)
  | 0, _, _ => none
  | n + 1, x1, h =>
    ob (f_X7_comesAgain F x1 h) (fun v3 h1 =>
    if v3 = nI 0 then
      f_X7_again_2 F n (x1 + (nI 1)) h1
    else
      some (x1, h1))
def f_X7_again (F : Nat)  (h : HP) : Option (Int32 × HP) :=
  f_X7_again_2 F F (nI 1) h
def f_X7_isIll (F : Nat) (x1 : Int32) (x2 : Int32) (h : HP) : Option (Int32 × HP) :=
  if inb ((nI 3) + x1) 19 then
    if inb ((nI 3) + x2) 19 then
      if (jrem (if nI 0 ≤ ((h 40 (ix ((nI 3) + x1))) - (h 40 (ix ((nI 3) + x2)))) then (h 40 (ix ((nI 3) + x1))) - (h 40 (ix ((nI 3) + x2))) else -((h 40 (ix ((nI 3) + x1))) - (h 40 (ix ((nI 3) + x2))))) (nI 12)) = (nI 1) then
        some ((nI 1), h)
      else
        if (jrem (if nI 0 ≤ ((h 40 (ix ((nI 3) + x1))) - (h 40 (ix ((nI 3) + x2)))) then (h 40 (ix ((nI 3) + x1))) - (h 40 (ix ((nI 3) + x2))) else -((h 40 (ix ((nI 3) + x1))) - (h 40 (ix ((nI 3) + x2))))) (nI 12)) = (nI 2) then
          some ((nI 1), h)
        else
          if (jrem (if nI 0 ≤ ((h 40 (ix ((nI 3) + x1))) - (h 40 (ix ((nI 3) + x2)))) then (h 40 (ix ((nI 3) + x1))) - (h 40 (ix ((nI 3) + x2))) else -((h 40 (ix ((nI 3) + x1))) - (h 40 (ix ((nI 3) + x2))))) (nI 12)) = (nI 6) then
            some ((nI 1), h)
          else
            if (jrem (if nI 0 ≤ ((h 40 (ix ((nI 3) + x1))) - (h 40 (ix ((nI 3) + x2)))) then (h 40 (ix ((nI 3) + x1))) - (h 40 (ix ((nI 3) + x2))) else -((h 40 (ix ((nI 3) + x1))) - (h 40 (ix ((nI 3) + x2))))) (nI 12)) = (nI 10) then
              some ((nI 1), h)
            else
              if (jrem (if nI 0 ≤ ((h 40 (ix ((nI 3) + x1))) - (h 40 (ix ((nI 3) + x2)))) then (h 40 (ix ((nI 3) + x1))) - (h 40 (ix ((nI 3) + x2))) else -((h 40 (ix ((nI 3) + x1))) - (h 40 (ix ((nI 3) + x2))))) (nI 12)) = (nI 11) then
                some ((nI 1), h)
              else
                some ((nI 0), h)
    else none
  else none
def f_X7_illOf_19 (F : Nat) (x1 : Int32) (x2 : Int32) (k_5 : Int32 → Int32 → HP → Option (Int32 × HP)) : Nat → Int32 → Int32 → Int32 → HP → Option (Int32 × HP)
  | 0, _, _, _, _ => none
  | n + 1, x3, x4, x5, h =>
    if (h 40 0) ≤ x5 then
      k_5 x3 (x4 + (nI 1)) h
    else
      ob (f_X7_has F x1 x4 h) (fun v5 h3 =>
      if v5 = nI 0 then
        f_X7_illOf_19 F x1 x2 k_5 n (x3 + (nI 0)) x4 (x5 + (nI 1)) h3
      else
        ob (f_X7_has F x2 x5 h3) (fun v9 h7 =>
        if v9 = nI 0 then
          f_X7_illOf_19 F x1 x2 k_5 n (x3 + (nI 0)) x4 (x5 + (nI 1)) h7
        else
          ob (f_X7_isIll F x4 x5 h7) (fun v13 h11 =>
          f_X7_illOf_19 F x1 x2 k_5 n (x3 + (if v13 = nI 0 then (nI 0) else (nI 1))) x4 (x5 + (nI 1)) h11)))
def f_X7_illOf_5 (F : Nat) (x1 : Int32) (x2 : Int32) : Nat → Int32 → Int32 → HP → Option (Int32 × HP)
  | 0, _, _, _ => none
  | n + 1, x3, x4, h =>
    if (h 40 0) ≤ x4 then
      some (x3, h)
    else
      f_X7_illOf_19 F x1 x2 (f_X7_illOf_5 F x1 x2 n) F x3 x4 (nI 0) h
def f_X7_illOf (F : Nat) (x1 : Int32) (x2 : Int32) (h : HP) : Option (Int32 × HP) :=
  f_X7_illOf_5 F x1 x2 F (nI 0) (nI 0) h
def f_X7_harsh_4 (F : Nat)  : Nat → Int32 → Int32 → HP → Option (Int32 × HP)
  | 0, _, _, _ => none
  | n + 1, x1, x2, h =>
    if (h 40 1) ≤ x2 then
      some (x1, h)
    else
      if inb ((nI 2) + x2) 66 then
        ob (f_X7_illOf F (h 43 (ix ((nI 2) + x2))) (h 43 (ix ((nI 2) + x2))) h) (fun v5 h3 =>
        f_X7_harsh_4 F n (x1 + (v5 / (nI 2))) (x2 + (nI 1)) h3)
      else none
def f_X7_harsh (F : Nat)  (h : HP) : Option (Int32 × HP) :=
  f_X7_harsh_4 F F (nI 0) (nI 0) h
def f_X7_canon_34 (F : Nat) (x1 : Int32) (k_17 : Int32 → Int32 → Int32 → HP → Option (Int32 × HP)) : Nat → Int32 → Int32 → Int32 → Int32 → Int32 → HP → Option (Int32 × HP)
  | 0, _, _, _, _, _, _ => none
  | n + 1, x2, x3, x4, x5, x6, h =>
    if (h 40 1) ≤ x6 then
      k_17 (if x3 ≤ x5 then x2 else x4) (if x3 ≤ x5 then x3 else x5) (x4 + (nI 1)) h
    else
      if inb ((nI 2) + x6) 66 then
        ob (f_X7_shifted F x6 x4 h) (fun v11 h9 =>
        ob (f_X7_illOf F (h 43 (ix ((nI 2) + x6))) v11 h9) (fun v14 h12 =>
        f_X7_canon_34 F x1 k_17 n x2 x3 x4 (x5 + v14) (x6 + (nI 1)) h12))
      else none
def f_X7_canon_17 (F : Nat) (x1 : Int32) : Nat → Int32 → Int32 → Int32 → HP → Option (Int32 × HP)
  | 0, _, _, _, _ => none
  | n + 1, x2, x3, x4, h =>
    if (h 40 1) ≤ x4 then
      if x1 = nI 0 then
        some (x2, h)
      else
        some (x3, h)
    else
      f_X7_canon_34 F x1 (f_X7_canon_17 F x1 n) F x2 x3 x4 (nI 0) (nI 0) h
def f_X7_canon (F : Nat) (x1 : Int32) (h : HP) : Option (Int32 × HP) :=
  ob (f_X7_isTwo F x1 h) (fun v3 h1 =>
  if v3 = nI 0 then
    some ((-1), h1)
  else
    f_X7_canon_17 F x1 F (nI 0) (nI 1000000) (nI 1) h1)
def f_X7_want (F : Nat) (x1 : Int32) (x2 : Int32) (h : HP) : Option (Int32 × HP) :=
  ob (f_X7_isRow F x1 h) (fun v3 h1 =>
  if v3 = nI 0 then
    some ((-1), h1)
  else
    ob (f_X7_isSet F x2 h1) (fun v7 h5 =>
    if v7 = nI 0 then
      some ((-1), h5)
    else
      if inb x1 32 then
        some (h5 47 (ix x1), up h5 47 (ix x1) x2)
      else none))
def f_X7_changes_34 (F : Nat) (x1 : Int32) (k_17 : Int32 → Int32 → Int32 → HP → Option (Int32 × HP)) : Nat → Int32 → Int32 → Int32 → Int32 → Int32 → HP → Option (Int32 × HP)
  | 0, _, _, _, _, _, _ => none
  | n + 1, x2, x3, x4, x5, x6, h =>
    if (h 40 1) ≤ x6 then
      k_17 (if x3 ≤ x5 then x2 else x4) (if x3 ≤ x5 then x3 else x5) (x4 + (nI 1)) h
    else
      ob (f_X7_shifted F x6 x4 h) (fun v10 h8 =>
      if inb x6 32 then
        ob (f_X7_bits F (v10 ^^^ (h8 47 (ix x6))) h8) (fun v14 h12 =>
        f_X7_changes_34 F x1 k_17 n x2 x3 x4 (x5 + v14) (x6 + (nI 1)) h12)
      else none)
def f_X7_changes_17 (F : Nat) (x1 : Int32) : Nat → Int32 → Int32 → Int32 → HP → Option (Int32 × HP)
  | 0, _, _, _, _ => none
  | n + 1, x2, x3, x4, h =>
    if (h 40 1) ≤ x4 then
      if x1 = nI 0 then
        some (x3, h)
      else
        some (x2, h)
    else
      f_X7_changes_34 F x1 (f_X7_changes_17 F x1 n) F x2 x3 x4 (nI 0) (nI 0) h
def f_X7_changes (F : Nat) (x1 : Int32) (h : HP) : Option (Int32 × HP) :=
  ob (f_X7_isTwo F x1 h) (fun v3 h1 =>
  if v3 = nI 0 then
    some ((-1), h1)
  else
    f_X7_changes_17 F x1 F (nI 0) (nI 1000000) (nI 0) h1)
def f_X7_cell (F : Nat) (x0 : Int32) (x1 : Int32) (x2 : Int32) (h : HP) : Option (Int32 × HP) :=
  some (((((nI 33) * x0) + x1) * (nI 33)) + x2, h)
def f_X7_isAgain_8 (F : Nat) (x1 : Int32) (x2 : Int32) (x3 : Int32) : Nat → Int32 → Int32 → HP → Option (Int32 × HP)
  | 0, _, _, _ => none
  | n + 1, x4, x5, h =>
    if x2 ≤ x5 then
      if x4 = nI 0 ∨ x4 = nI 1 then
        some (x4, h)
      else none
    else
      if x4 = nI 0 then
        f_X7_isAgain_8 F x1 x2 x3 n (nI 0) (x5 + (nI 1)) h
      else
        if inb ((nI 2) + x5) 66 then
          if inb (((nI 2) + x5) - x3) 66 then
            f_X7_isAgain_8 F x1 x2 x3 n (if (h 43 (ix ((nI 2) + x5))) = (h 43 (ix (((nI 2) + x5) - x3))) then (nI 1) else (nI 0)) (x5 + (nI 1)) h
          else none
        else none
def f_X7_isAgain (F : Nat) (x1 : Int32) (x2 : Int32) (x3 : Int32) (h : HP) : Option (Int32 × HP) :=
  f_X7_isAgain_8 F x1 x2 x3 F (nI 1) (x1 + x3) h
def f_X7_fewest_106 (F : Nat) (x1 : Int32) (x2 : Int32) (x3 : Int32) : Nat → Int32 → Int32 → Int32 → HP → Option (Int32 × HP)
  | 0, _, _, _, _ => none
  | n + 1, x4, x5, x6, h =>
    if (nI 10) ≤ x6 then
      some (x5, h)
    else
      if x1 ≤ nI 0 then
        some (x5, h)
      else
        if x6 ≠ (nI 0) then
          if (jrem x4 x6) = nI 0 then
            ob (f_X7_isAgain F x2 x3 (x4 / x6) h) (fun v22 h20 =>
            if v22 = nI 0 then
              f_X7_fewest_106 F x1 x2 x3 n x4 x5 (x6 + (nI 1)) h20
            else
              ob (f_X7_cell F (x1 - (nI 1)) x2 (x2 + (x4 / x6)) h20) (fun v26 h24 =>
              if inb v26 4356 then
                f_X7_fewest_106 F x1 x2 x3 n x4 (if x5 ≤ ((nI 3) + (h24 53 (ix v26))) then x5 else (nI 3) + (h24 53 (ix v26))) (x6 + (nI 1)) h24
              else none))
          else
            f_X7_fewest_106 F x1 x2 x3 n x4 x5 (x6 + (nI 1)) h
        else none
def f_X7_fewest_48 (F : Nat) (x1 : Int32) (x2 : Int32) (x3 : Int32) : Nat → Int32 → Int32 → Int32 → HP → Option (Int32 × HP)
  | 0, _, _, _, _ => none
  | n + 1, x4, x5, x6, h =>
    if x3 ≤ x6 then
      f_X7_fewest_106 F x1 x2 x3 F x4 x5 (nI 2) h
    else
      ob (f_X7_cell F x1 x2 x6 h) (fun v10 h8 =>
      if inb v10 4356 then
        ob (f_X7_cell F x1 x6 x3 h8) (fun v14 h12 =>
        if inb v14 4356 then
          f_X7_fewest_48 F x1 x2 x3 n x4 (if x5 ≤ ((h8 53 (ix v10)) + (h12 53 (ix v14))) then x5 else (h8 53 (ix v10)) + (h12 53 (ix v14))) (x6 + (nI 1)) h12
        else none)
      else none)
def f_X7_fewest (F : Nat) (x1 : Int32) (x2 : Int32) (x3 : Int32) (h : HP) : Option (Int32 × HP) :=
  if (x3 - x2) = (nI 1) then
    if inb ((nI 2) + x2) 66 then
      ob (f_X7_bits F (h 43 (ix ((nI 2) + x2))) h) (fun v5 h3 =>
      if (nI 2) ≤ v5 then
        some (v5 + (nI 2), h3)
      else
        some ((nI 1), h3))
    else none
  else
    f_X7_fewest_48 F x1 x2 x3 F (x3 - x2) (nI 1000000) (x2 + (nI 1)) h
def f_X7_letters_21 (F : Nat)  (k_9 : Int32 → Int32 → HP → Option (Int32 × HP)) : Nat → Int32 → Int32 → Int32 → HP → Option (Int32 × HP)
  | 0, _, _, _, _ => none
  | n + 1, x1, x2, x3, h =>
    if (h 40 1) < (x3 + x2) then
      k_9 x1 (x2 + (nI 1)) h
    else
      ob (f_X7_cell F x1 x3 (x3 + x2) h) (fun v10 h8 =>
      ob (f_X7_fewest F x1 x3 (x3 + x2) h8) (fun v13 h11 =>
      if inb v10 4356 then
        f_X7_letters_21 F k_9 n x1 x2 (x3 + (nI 1)) (up h11 53 (ix v10) v13)
      else none))
def f_X7_letters_9 (F : Nat)  (k_2 : Int32 → HP → Option (Int32 × HP)) : Nat → Int32 → Int32 → HP → Option (Int32 × HP)
  | 0, _, _, _ => none
  | n + 1, x1, x2, h =>
    if (h 40 1) < x2 then
      k_2 (x1 + (nI 1)) h
    else
      f_X7_letters_21 F (f_X7_letters_9 F k_2 n) F x1 x2 (nI 0) h
def f_X7_letters_2 (F : Nat)  : Nat → Int32 → HP → Option (Int32 × HP)
  | 0, _, _ => none
  | n + 1, x1, h =>
    if (nI 4) ≤ x1 then
      ob (f_X7_cell F (nI 3) (nI 0) (h 40 1) h) (fun v4 h2 =>
      if inb v4 4356 then
        some (h2 53 (ix v4), h2)
      else none)
    else
      f_X7_letters_9 F (f_X7_letters_2 F n) F x1 (nI 1) h
def f_X7_letters (F : Nat)  (h : HP) : Option (Int32 × HP) :=
  f_X7_letters_2 F F (nI 0) h
def f_X7_areOne_4 (F : Nat) (x1 : Int32) : Nat → Int32 → Int32 → HP → Option (Int32 × HP)
  | 0, _, _, _ => none
  | n + 1, x2, x3, h =>
    if (h 40 1) ≤ x3 then
      if x2 = nI 0 ∨ x2 = nI 1 then
        some (x2, h)
      else none
    else
      if x2 = nI 0 then
        f_X7_areOne_4 F x1 n (nI 0) (x3 + (nI 1)) h
      else
        if inb ((nI 2) + x3) 66 then
          ob (f_X7_bits F (x1 &&& (h 43 (ix ((nI 2) + x3)))) h) (fun v7 h5 =>
          f_X7_areOne_4 F x1 n (if (nI 2) ≤ v7 then (nI 0) else (nI 1)) (x3 + (nI 1)) h5)
        else none
def f_X7_areOne (F : Nat) (x1 : Int32) (h : HP) : Option (Int32 × HP) :=
  f_X7_areOne_4 F x1 F (nI 1) (nI 0) h
def f_X7_ringers_78 (F : Nat)  (k_39 : Int32 → Int32 → Int32 → HP → Option (Int32 × HP)) (x1 : Int32) (x2 : Int32) (x3 : Int32) (s0 : Int32) (h : HP) : Option (Int32 × HP) :=
  if inb x2 256 then
    k_39 x1 x2 ((x3 - (nI 1)) &&& x2) (up h 54 (ix x2) (if (h 54 (ix x2)) ≤ s0 then h 54 (ix x2) else s0))
  else none
def f_X7_ringers_72 (F : Nat)  (k_39 : Int32 → Int32 → Int32 → HP → Option (Int32 × HP)) (x1 : Int32) (x2 : Int32) (x3 : Int32) (s0 : Int32) (s1 : Int32) (h : HP) : Option (Int32 × HP) :=
  f_X7_ringers_78 F k_39 x1 x2 x3 (s0 + s1) h
def f_X7_ringers_39 (F : Nat)  (k_13 : Int32 → Int32 → HP → Option (Int32 × HP)) : Nat → Int32 → Int32 → Int32 → HP → Option (Int32 × HP)
  | 0, _, _, _, _ => none
  | n + 1, x1, x2, x3, h =>
    if x3 ≤ nI 0 then
      k_13 x1 (x2 + (nI 1)) h
    else
      if inb x3 256 then
        if (h 55 (ix x3)) = nI 0 then
          f_X7_ringers_78 F (f_X7_ringers_39 F k_13 n) x1 x2 x3 (nI 1000000) h
        else
          if x3 = x2 then
            f_X7_ringers_72 F (f_X7_ringers_39 F k_13 n) x1 x2 x3 (nI 1) (nI 0) h
          else
            if inb (x2 &&& (x3 ^^^ (-1))) 256 then
              f_X7_ringers_72 F (f_X7_ringers_39 F k_13 n) x1 x2 x3 (nI 1) (h 54 (ix (x2 &&& (x3 ^^^ (-1))))) h
            else none
      else none
def f_X7_ringers_13 (F : Nat)  : Nat → Int32 → Int32 → HP → Option (Int32 × HP)
  | 0, _, _, _ => none
  | n + 1, x1, x2, h =>
    if x1 < x2 then
      if inb x1 256 then
        some (h 54 (ix x1), h)
      else none
    else
      ob (f_X7_areOne F x2 h) (fun v5 h3 =>
      if inb x2 256 then
        if v5 = nI 0 ∨ v5 = nI 1 then
          f_X7_ringers_39 F (f_X7_ringers_13 F n) F x1 x2 x2 (up (up h3 55 (ix x2) v5) 54 (ix x2) (nI 1000000))
        else none
      else none)
def f_X7_ringers (F : Nat)  (h : HP) : Option (Int32 × HP) :=
  f_X7_ringers_13 F F ((jshl (nI 1) (h 40 0)) - (nI 1)) (nI 1) h
def f_X7_hear (F : Nat) (x1 : Int32) (h : HP) : Option (Int32 × HP) :=
  ob (f_X7_isSet F x1 h) (fun v3 h1 =>
  if v3 = nI 0 then
    some ((-1), h1)
  else
    if (h1 39 13) = (nI 8) then
      some ((-3), h1)
    else
      if inb (h1 39 13) 8 then
        some ((up (up h1 48 (ix (h1 39 13)) x1) 39 13 (((up h1 48 (ix (h1 39 13)) x1) 39 13) + (nI 1))) 39 13, up (up h1 48 (ix (h1 39 13)) x1) 39 13 (((up h1 48 (ix (h1 39 13)) x1) 39 13) + (nI 1)))
      else none)
def f_X7_forget (F : Nat)  (h : HP) : Option (Int32 × HP) :=
  some (h 39 13, up h 39 13 (nI 0))
def f_X7_stood_19 (F : Nat)  (k_4 : Int32 → Int32 → HP → Option (Int32 × HP)) : Nat → Int32 → Int32 → Int32 → Int32 → HP → Option (Int32 × HP)
  | 0, _, _, _, _, _ => none
  | n + 1, x1, x2, x3, x4, h =>
    if (h 39 13) ≤ x4 then
      k_4 (x1 ||| (if x3 = nI 0 then (nI 0) else jshl (nI 1) x2)) (x2 + (nI 1)) h
    else
      if x3 = nI 0 then
        f_X7_stood_19 F k_4 n x1 x2 (nI 0) (x4 + (nI 1)) h
      else
        if (h 40 1) ≠ (nI 0) then
          if inb ((nI 2) + (jrem (x2 + x4) (h 40 1))) 66 then
            if inb x4 8 then
              f_X7_stood_19 F k_4 n x1 x2 (if (h 43 (ix ((nI 2) + (jrem (x2 + x4) (h 40 1))))) = (h 48 (ix x4)) then (nI 1) else (nI 0)) (x4 + (nI 1)) h
            else none
          else none
        else none
def f_X7_stood_4 (F : Nat)  : Nat → Int32 → Int32 → HP → Option (Int32 × HP)
  | 0, _, _, _ => none
  | n + 1, x1, x2, h =>
    if (h 40 1) ≤ x2 then
      some (x1, h)
    else
      f_X7_stood_19 F (f_X7_stood_4 F n) F x1 x2 (nI 1) (nI 0) h
def f_X7_stood (F : Nat)  (h : HP) : Option (Int32 × HP) :=
  f_X7_stood_4 F F (nI 0) (nI 0) h
def f_X7_octaves_15 (F : Nat)  (k_4 : Int32 → Int32 → HP → Option (Int32 × HP)) : Nat → Int32 → Int32 → Int32 → Int32 → HP → Option (Int32 × HP)
  | 0, _, _, _, _, _ => none
  | n + 1, x1, x2, x3, x4, h =>
    if (h 40 0) ≤ x4 then
      k_4 (x1 + (if x3 ≤ (nI 1) then (nI 0) else (nI 1))) (x2 + (nI 1)) h
    else
      if inb ((nI 3) + x4) 19 then
        f_X7_octaves_15 F k_4 n x1 x2 (x3 + (if (jrem (h 40 (ix ((nI 3) + x4))) (nI 12)) = x2 then (nI 1) else (nI 0))) (x4 + (nI 1)) h
      else none
def f_X7_octaves_4 (F : Nat)  : Nat → Int32 → Int32 → HP → Option (Int32 × HP)
  | 0, _, _, _ => none
  | n + 1, x1, x2, h =>
    if (nI 12) ≤ x2 then
      some (x1, h)
    else
      f_X7_octaves_15 F (f_X7_octaves_4 F n) F x1 x2 (nI 0) (nI 0) h
def f_X7_octaves (F : Nat)  (h : HP) : Option (Int32 × HP) :=
  f_X7_octaves_4 F F (nI 0) (nI 0) h
def f_X7_melody_44 (F : Nat) (x1 : Int32) (k_27 : Int32 → Int32 → Int32 → Int32 → Int32 → HP → Option (Int32 × HP)) : Nat → Int32 → Int32 → Int32 → Int32 → Int32 → Int32 → Int32 → HP → Option (Int32 × HP)
  | 0, _, _, _, _, _, _, _, _ => none
  | n + 1, x2, x3, x4, x5, x6, x7, x8, h =>
    if (h 40 0) ≤ x8 then
      if x7 < nI 0 then
        k_27 x2 x3 x4 x5 (x6 + (nI 1)) h
      else
        k_27 (x2 + (if (if nI 0 ≤ x5 then x7 - x5 else (nI 0)) ≤ nI 0 then (nI 0) else (nI 1))) (x3 + (if nI 0 ≤ (if nI 0 ≤ x5 then x7 - x5 else (nI 0)) then (nI 0) else (nI 1))) (if (if nI 0 ≤ (if nI 0 ≤ x5 then x7 - x5 else (nI 0)) then (if nI 0 ≤ x5 then x7 - x5 else (nI 0)) else -(if nI 0 ≤ x5 then x7 - x5 else (nI 0))) ≤ x4 then x4 else (if nI 0 ≤ (if nI 0 ≤ x5 then x7 - x5 else (nI 0)) then (if nI 0 ≤ x5 then x7 - x5 else (nI 0)) else -(if nI 0 ≤ x5 then x7 - x5 else (nI 0)))) x7 (x6 + (nI 1)) h
    else
      if inb ((nI 2) + x6) 66 then
        ob (f_X7_has F (h 43 (ix ((nI 2) + x6))) x8 h) (fun v13 h11 =>
        if v13 = nI 0 then
          f_X7_melody_44 F x1 k_27 n x2 x3 x4 x5 x6 x7 (x8 + (nI 1)) h11
        else
          if inb ((nI 3) + x8) 19 then
            f_X7_melody_44 F x1 k_27 n x2 x3 x4 x5 x6 (if (h11 40 (ix ((nI 3) + x8))) ≤ x7 then x7 else h11 40 (ix ((nI 3) + x8))) (x8 + (nI 1)) h11
          else none)
      else none
def f_X7_melody_27 (F : Nat) (x1 : Int32) : Nat → Int32 → Int32 → Int32 → Int32 → Int32 → HP → Option (Int32 × HP)
  | 0, _, _, _, _, _, _ => none
  | n + 1, x2, x3, x4, x5, x6, h =>
    if (h 40 1) ≤ x6 then
      if x1 = nI 0 then
        some (x2, h)
      else
        if x1 = (nI 1) then
          some (x3, h)
        else
          some (x4, h)
    else
      f_X7_melody_44 F x1 (f_X7_melody_27 F x1 n) F x2 x3 x4 x5 x6 (-1) (nI 0) h
def f_X7_melody (F : Nat) (x1 : Int32) (h : HP) : Option (Int32 × HP) :=
  ob (f_X7_in F x1.toInt64 (lN 0) (lN 2) h) (fun v3 h1 =>
  if v3 = nI 0 then
    some ((-1), h1)
  else
    f_X7_melody_27 F x1 F (nI 0) (nI 0) (nI 0) (-1) (nI 0) h1)
def f_X7_winter_135 (F : Nat) (x1 : Int32) (x2 : Int32) (x3 : Int32) : Nat → Int32 → Int32 → Int32 → HP → Option (Int32 × HP)
  | 0, _, _, _, _ => none
  | n + 1, x4, x5, x6, h =>
    if (h 40 1) ≤ x6 then
      if x3 = nI 0 then
        some (x4, h)
      else
        some (x5, h)
    else
      if inb ((nI 2) + x6) 66 then
        ob (f_X7_bits F (h 52 (ix ((nI 2) + x6))) h) (fun v23 h21 =>
        f_X7_winter_135 F x1 x2 x3 n (x4 + v23) (x5 + (if (h21 52 (ix ((nI 2) + x6))) = nI 0 then (nI 1) else (nI 0))) (x6 + (nI 1)) h21)
      else none
def f_X7_winter_49 (F : Nat) (x1 : Int32) (x2 : Int32) (x3 : Int32) : Nat → Int32 → HP → Option (Int32 × HP)
  | 0, _, _ => none
  | n + 1, x4, h =>
    if x2 ≤ x4 then
      f_X7_winter_135 F x1 x2 x3 F (nI 0) (nI 0) (nI 0) h
    else
      if (h 40 1) ≠ (nI 0) then
        if inb ((nI 2) + (jrem (((jlrem (((((lN 7919) * x1.toInt64) + ((lN 6151) * x4.toInt64)) + (lN 1)) * ((((lN 7919) * x1.toInt64) + ((lN 6151) * x4.toInt64)) + (lN 1))) (lN 65521)).toInt32) / (nI 8)) (h 40 1))) 66 then
          f_X7_winter_49 F x1 x2 x3 n (x4 + (nI 1)) (up h 52 (ix ((nI 2) + (jrem (((jlrem (((((lN 7919) * x1.toInt64) + ((lN 6151) * x4.toInt64)) + (lN 1)) * ((((lN 7919) * x1.toInt64) + ((lN 6151) * x4.toInt64)) + (lN 1))) (lN 65521)).toInt32) / (nI 8)) (h 40 1)))) ((h 52 (ix ((nI 2) + (jrem (((jlrem (((((lN 7919) * x1.toInt64) + ((lN 6151) * x4.toInt64)) + (lN 1)) * ((((lN 7919) * x1.toInt64) + ((lN 6151) * x4.toInt64)) + (lN 1))) (lN 65521)).toInt32) / (nI 8)) (h 40 1))))) &&& ((h 52 (ix ((nI 2) + (jrem (((jlrem (((((lN 7919) * x1.toInt64) + ((lN 6151) * x4.toInt64)) + (lN 1)) * ((((lN 7919) * x1.toInt64) + ((lN 6151) * x4.toInt64)) + (lN 1))) (lN 65521)).toInt32) / (nI 8)) (h 40 1))))) - (nI 1))))
        else none
      else none
def f_X7_winter (F : Nat) (x1 : Int32) (x2 : Int32) (x3 : Int32) (h : HP) : Option (Int32 × HP) :=
  ob (f_X7_in F x1.toInt64 (lN 0) (lN 9999) h) (fun v3 h1 =>
  if v3 = nI 0 then
    some ((-1), h1)
  else
    ob (f_X7_in F x2.toInt64 (lN 1) (lN 60) h1) (fun v7 h5 =>
    if v7 = nI 0 then
      some ((-1), h5)
    else
      ob (f_X7_isTwo F x3 h5) (fun v11 h9 =>
      if v11 = nI 0 then
        some ((-1), h9)
      else
        obv (f_X7_copies F 43 (nI 0) 52 (nI 0) h9) (fun h13 =>
        f_X7_winter_49 F x1 x2 x3 F (nI 0) h13))))
def f_X7_keep (F : Nat)  (h : HP) : Option (Int32 × HP) :=
  if (h 39 8) = (nI 2) then
    some ((-3), h)
  else
    obv (f_X7_copies F 43 (nI 0) 45 ((nI 66) * (h 39 8)) h) (fun h2 =>
    some ((up h2 39 8 ((h2 39 8) + (nI 1))) 39 8, up h2 39 8 ((h2 39 8) + (nI 1))))
def f_X7_back (F : Nat)  (h : HP) : Option (Int32 × HP) :=
  if (h 39 8) = nI 0 then
    some ((-2), h)
  else
    obv (f_X7_copies F 45 ((nI 66) * ((up h 39 8 ((h 39 8) - (nI 1))) 39 8)) 43 (nI 0) (up h 39 8 ((h 39 8) - (nI 1)))) (fun h2 =>
    some ((up h2 39 6 (nI 0)) 39 8, up h2 39 6 (nI 0)))
def f_X7_count_4 (F : Nat) (x1 : Int32) : Nat → Int32 → Int32 → HP → Option (Int32 × HP)
  | 0, _, _, _ => none
  | n + 1, x2, x3, h =>
    if (h 40 1) ≤ x3 then
      if x1 = nI 0 then
        if inb x1 19 then
          some (h 40 (ix x1), h)
        else none
      else if x1 = nI 1 then
        if inb x1 19 then
          some (h 40 (ix x1), h)
        else none
      else if x1 = nI 2 then
        if inb x1 19 then
          some (h 40 (ix x1), h)
        else none
      else if x1 = nI 3 then
        some (x2, h)
      else if x1 = nI 4 then
        some (h 43 1, h)
      else if x1 = nI 5 then
        some (h 43 0, h)
      else if x1 = nI 6 then
        some (h 39 13, h)
      else if x1 = nI 7 then
        some (h 39 6, h)
      else if x1 = nI 8 then
        some (h 39 8, h)
      else if x1 = nI 9 then
        some (h 39 10, h)
      else 
        some ((-1), h)
    else
      if inb ((nI 2) + x3) 66 then
        ob (f_X7_bits F (h 43 (ix ((nI 2) + x3))) h) (fun v18 h16 =>
        f_X7_count_4 F x1 n (x2 + v18) (x3 + (nI 1)) h16)
      else none
def f_X7_count (F : Nat) (x1 : Int32) (h : HP) : Option (Int32 × HP) :=
  f_X7_count_4 F x1 F (nI 0) (nI 0) h
end
section
def f_L_law_18 (F : Nat) (xs : Nat → Int32) (L : Nat) : Nat → Int32 → TW → HP → Option HP
  | 0, _, _, _ => none
  | n + 1, x3, tw, h =>
    if ((nI L) - (nI 4)) < x3 then
      some h
    else
      if inb x3 L then
        if ((xs (ix x3)) &&& (nI 31)) = nI 0 then
          if inb (x3 + (nI 1)) L then
            ob (f_X6_write F tw (xs (ix (x3 + (nI 1)))) h) (fun v4 h2 =>
            ob (f_X7_write F (xs (ix (x3 + (nI 1)))) h2) (fun v7 h5 =>
            if v4 = v7 then
              f_L_law_18 F xs L n (x3 + (nI 4)) tw h5
            else none))
          else none
        else if ((xs (ix x3)) &&& (nI 31)) = nI 1 then
          ob (f_X6_wipe F tw h) (fun v11 h9 =>
          ob (f_X7_wipe F h9) (fun v14 h12 =>
          if v11 = v14 then
            f_L_law_18 F xs L n (x3 + (nI 4)) tw h12
          else none))
        else if ((xs (ix x3)) &&& (nI 31)) = nI 2 then
          ob (f_X6_fault F tw h) (fun v18 h16 =>
          ob (f_X7_fault F h16) (fun v21 h19 =>
          if v18 = v21 then
            f_L_law_18 F xs L n (x3 + (nI 4)) tw h19
          else none))
        else if ((xs (ix x3)) &&& (nI 31)) = nI 3 then
          ob3 (f_X6_lay F tw h) (fun v25 t26 h23 =>
          ob (f_X7_lay F h23) (fun v29 h27 =>
          if v25 = v29 then
            f_L_law_18 F xs L n (x3 + (nI 4)) t26 h27
          else none))
        else if ((xs (ix x3)) &&& (nI 31)) = nI 4 then
          if inb (x3 + (nI 1)) L then
            if inb (x3 + (nI 2)) L then
              ob (f_X6_bell F tw (xs (ix (x3 + (nI 1)))) (xs (ix (x3 + (nI 2)))) h) (fun v35 h33 =>
              ob (f_X7_bell F (xs (ix (x3 + (nI 1)))) (xs (ix (x3 + (nI 2)))) h33) (fun v38 h36 =>
              if v35 = v38 then
                f_L_law_18 F xs L n (x3 + (nI 4)) tw h36
              else none))
            else none
          else none
        else if ((xs (ix x3)) &&& (nI 31)) = nI 5 then
          if inb (x3 + (nI 1)) L then
            ob (f_X6_pins F tw (xs (ix (x3 + (nI 1)))) h) (fun v43 h41 =>
            ob (f_X7_pins F (xs (ix (x3 + (nI 1)))) h41) (fun v46 h44 =>
            if v43 = v46 then
              f_L_law_18 F xs L n (x3 + (nI 4)) tw h44
            else none))
          else none
        else if ((xs (ix x3)) &&& (nI 31)) = nI 6 then
          ob (f_X6_turn F tw h) (fun v50 h48 =>
          ob (f_X7_turn F h48) (fun v53 h51 =>
          if v50 = v53 then
            f_L_law_18 F xs L n (x3 + (nI 4)) tw h51
          else none))
        else if ((xs (ix x3)) &&& (nI 31)) = nI 7 then
          ob (f_X6_turnBack F tw h) (fun v57 h55 =>
          ob (f_X7_turnBack F h55) (fun v60 h58 =>
          if v57 = v60 then
            f_L_law_18 F xs L n (x3 + (nI 4)) tw h58
          else none))
        else if ((xs (ix x3)) &&& (nI 31)) = nI 8 then
          if inb (x3 + (nI 1)) L then
            if inb (x3 + (nI 2)) L then
              if inb (x3 + (nI 3)) L then
                ob (f_X6_pin F tw (xs (ix (x3 + (nI 1)))) (xs (ix (x3 + (nI 2)))) (if (xs (ix (x3 + (nI 3)))) = nI 0 then nI 0 else nI 1) h) (fun v69 h67 =>
                ob (f_X7_pin F (xs (ix (x3 + (nI 1)))) (xs (ix (x3 + (nI 2)))) (if (xs (ix (x3 + (nI 3)))) = nI 0 then nI 0 else nI 1) h67) (fun v74 h72 =>
                if v69 = v74 then
                  f_L_law_18 F xs L n (x3 + (nI 4)) tw h72
                else none))
              else none
            else none
          else none
        else if ((xs (ix x3)) &&& (nI 31)) = nI 9 then
          if inb (x3 + (nI 1)) L then
            ob (f_X6_shift F tw (xs (ix (x3 + (nI 1)))) h) (fun v79 h77 =>
            ob (f_X7_shift F (xs (ix (x3 + (nI 1)))) h77) (fun v82 h80 =>
            if v79 = v82 then
              f_L_law_18 F xs L n (x3 + (nI 4)) tw h80
            else none))
          else none
        else if ((xs (ix x3)) &&& (nI 31)) = nI 10 then
          ob (f_X6_undo F tw h) (fun v86 h84 =>
          ob (f_X7_undo F h84) (fun v89 h87 =>
          if v86 = v89 then
            f_L_law_18 F xs L n (x3 + (nI 4)) tw h87
          else none))
        else if ((xs (ix x3)) &&& (nI 31)) = nI 11 then
          if inb (x3 + (nI 1)) L then
            ob (f_X6_whole F tw (xs (ix (x3 + (nI 1)))) h) (fun v94 h92 =>
            ob (f_X7_whole F (xs (ix (x3 + (nI 1)))) h92) (fun v97 h95 =>
            if v94 = v97 then
              f_L_law_18 F xs L n (x3 + (nI 4)) tw h95
            else none))
          else none
        else if ((xs (ix x3)) &&& (nI 31)) = nI 12 then
          ob (f_X6_silence F tw h) (fun v101 h99 =>
          ob (f_X7_silence F h99) (fun v104 h102 =>
          if v101 = v104 then
            f_L_law_18 F xs L n (x3 + (nI 4)) tw h102
          else none))
        else if ((xs (ix x3)) &&& (nI 31)) = nI 13 then
          ob (f_X6_again F tw h) (fun v108 h106 =>
          ob (f_X7_again F h106) (fun v111 h109 =>
          if v108 = v111 then
            f_L_law_18 F xs L n (x3 + (nI 4)) tw h109
          else none))
        else if ((xs (ix x3)) &&& (nI 31)) = nI 14 then
          ob (f_X6_harsh F tw h) (fun v115 h113 =>
          ob (f_X7_harsh F h113) (fun v118 h116 =>
          if v115 = v118 then
            f_L_law_18 F xs L n (x3 + (nI 4)) tw h116
          else none))
        else if ((xs (ix x3)) &&& (nI 31)) = nI 15 then
          if inb (x3 + (nI 1)) L then
            ob (f_X6_canon F tw (xs (ix (x3 + (nI 1)))) h) (fun v123 h121 =>
            ob (f_X7_canon F (xs (ix (x3 + (nI 1)))) h121) (fun v126 h124 =>
            if v123 = v126 then
              f_L_law_18 F xs L n (x3 + (nI 4)) tw h124
            else none))
          else none
        else if ((xs (ix x3)) &&& (nI 31)) = nI 16 then
          if inb (x3 + (nI 1)) L then
            if inb (x3 + (nI 2)) L then
              ob (f_X6_want F tw (xs (ix (x3 + (nI 1)))) (xs (ix (x3 + (nI 2)))) h) (fun v132 h130 =>
              ob (f_X7_want F (xs (ix (x3 + (nI 1)))) (xs (ix (x3 + (nI 2)))) h130) (fun v135 h133 =>
              if v132 = v135 then
                f_L_law_18 F xs L n (x3 + (nI 4)) tw h133
              else none))
            else none
          else none
        else if ((xs (ix x3)) &&& (nI 31)) = nI 17 then
          if inb (x3 + (nI 1)) L then
            ob (f_X6_changes F tw (xs (ix (x3 + (nI 1)))) h) (fun v140 h138 =>
            ob (f_X7_changes F (xs (ix (x3 + (nI 1)))) h138) (fun v143 h141 =>
            if v140 = v143 then
              f_L_law_18 F xs L n (x3 + (nI 4)) tw h141
            else none))
          else none
        else if ((xs (ix x3)) &&& (nI 31)) = nI 18 then
          ob (f_X6_letters F tw h) (fun v147 h145 =>
          ob (f_X7_letters F h145) (fun v150 h148 =>
          if v147 = v150 then
            f_L_law_18 F xs L n (x3 + (nI 4)) tw h148
          else none))
        else if ((xs (ix x3)) &&& (nI 31)) = nI 19 then
          ob (f_X6_ringers F tw h) (fun v154 h152 =>
          ob (f_X7_ringers F h152) (fun v157 h155 =>
          if v154 = v157 then
            f_L_law_18 F xs L n (x3 + (nI 4)) tw h155
          else none))
        else if ((xs (ix x3)) &&& (nI 31)) = nI 20 then
          if inb (x3 + (nI 1)) L then
            ob (f_X6_hear F tw (xs (ix (x3 + (nI 1)))) h) (fun v162 h160 =>
            ob (f_X7_hear F (xs (ix (x3 + (nI 1)))) h160) (fun v165 h163 =>
            if v162 = v165 then
              f_L_law_18 F xs L n (x3 + (nI 4)) tw h163
            else none))
          else none
        else if ((xs (ix x3)) &&& (nI 31)) = nI 21 then
          ob (f_X6_forget F tw h) (fun v169 h167 =>
          ob (f_X7_forget F h167) (fun v172 h170 =>
          if v169 = v172 then
            f_L_law_18 F xs L n (x3 + (nI 4)) tw h170
          else none))
        else if ((xs (ix x3)) &&& (nI 31)) = nI 22 then
          ob (f_X6_stood F tw h) (fun v176 h174 =>
          ob (f_X7_stood F h174) (fun v179 h177 =>
          if v176 = v179 then
            f_L_law_18 F xs L n (x3 + (nI 4)) tw h177
          else none))
        else if ((xs (ix x3)) &&& (nI 31)) = nI 23 then
          ob (f_X6_octaves F tw h) (fun v183 h181 =>
          ob (f_X7_octaves F h181) (fun v186 h184 =>
          if v183 = v186 then
            f_L_law_18 F xs L n (x3 + (nI 4)) tw h184
          else none))
        else if ((xs (ix x3)) &&& (nI 31)) = nI 24 then
          if inb (x3 + (nI 1)) L then
            ob (f_X6_melody F tw (xs (ix (x3 + (nI 1)))) h) (fun v191 h189 =>
            ob (f_X7_melody F (xs (ix (x3 + (nI 1)))) h189) (fun v194 h192 =>
            if v191 = v194 then
              f_L_law_18 F xs L n (x3 + (nI 4)) tw h192
            else none))
          else none
        else if ((xs (ix x3)) &&& (nI 31)) = nI 25 then
          if inb (x3 + (nI 1)) L then
            if inb (x3 + (nI 2)) L then
              if inb (x3 + (nI 3)) L then
                ob (f_X6_winter F tw (xs (ix (x3 + (nI 1)))) (xs (ix (x3 + (nI 2)))) (xs (ix (x3 + (nI 3)))) h) (fun v201 h199 =>
                ob (f_X7_winter F (xs (ix (x3 + (nI 1)))) (xs (ix (x3 + (nI 2)))) (xs (ix (x3 + (nI 3)))) h199) (fun v204 h202 =>
                if v201 = v204 then
                  f_L_law_18 F xs L n (x3 + (nI 4)) tw h202
                else none))
              else none
            else none
          else none
        else if ((xs (ix x3)) &&& (nI 31)) = nI 26 then
          ob (f_X6_keep F tw h) (fun v208 h206 =>
          ob (f_X7_keep F h206) (fun v211 h209 =>
          if v208 = v211 then
            f_L_law_18 F xs L n (x3 + (nI 4)) tw h209
          else none))
        else if ((xs (ix x3)) &&& (nI 31)) = nI 27 then
          ob (f_X6_back F tw h) (fun v215 h213 =>
          ob (f_X7_back F h213) (fun v218 h216 =>
          if v215 = v218 then
            f_L_law_18 F xs L n (x3 + (nI 4)) tw h216
          else none))
        else if ((xs (ix x3)) &&& (nI 31)) = nI 28 then
          if inb (x3 + (nI 1)) L then
            ob (f_X6_count F tw (xs (ix (x3 + (nI 1)))) h) (fun v223 h221 =>
            ob (f_X7_count F (xs (ix (x3 + (nI 1)))) h221) (fun v226 h224 =>
            if v223 = v226 then
              f_L_law_18 F xs L n (x3 + (nI 4)) tw h224
            else none))
          else none
        else f_L_law_18 F xs L n (x3 + (nI 4)) tw h
      else none
end
section
/-! ===== numbers, bits, loops ===== -/
theorem e31 : (2 : Nat) ^ 31 = 2147483648 := by decide
theorem e_lt {a b : Nat} (ha : a < 2147483648) (hb : b < 2147483648) : (nI a < nI b) = (a < b) := propext (nI_ltI (by rw [e31]; exact ha) (by rw [e31]; exact hb))
theorem e_le {a b : Nat} (ha : a < 2147483648) (hb : b < 2147483648) : (nI a ≤ nI b) = (a ≤ b) := propext (nI_leI (by rw [e31]; exact ha) (by rw [e31]; exact hb))
theorem e_eq {a b : Nat} (ha : a < 2147483648) (hb : b < 2147483648) : (nI a = nI b) = (a = b) := propext (nI_eq (by rw [e31]; exact ha) (by rw [e31]; exact hb))
theorem e_ix {j : Nat} (h : j < 2147483648) : ix (nI j) = j := nI_clamp (by rw [e31]; exact h)
theorem e_sub {a b : Nat} (h : b ≤ a) : nI a - nI b = nI (a - b) := pk_sub h
theorem e_mul (a b : Nat) : nI a * nI b = nI (a * b) := pk_mul a b
theorem e_add (a b : Nat) : nI a + nI b = nI (a + b) := nI_add a b
theorem e_inb {j L : Nat} (h : j < 2147483648) : inb (nI j) L = decide (j < L) := by
  unfold inb
  have h0 : ¬ nI j < 0 := nI_pos (by rw [e31]; exact h)
  have h1 : (nI j).toNatClampNeg = j := e_ix h
  rw [h1]
  by_cases hj : j < L
  · simp [h0, hj]
  · simp [Nat.le_of_not_lt hj]
theorem inb_t {j L : Nat} (h : j < L) (hL : L < 2147483648) : inb (nI j) L = true := by
  rw [e_inb (Nat.lt_trans h hL)]
  exact decide_eq_true h
theorem ob_eq {α β : Type} (a : α) (h : HP) (k : α → HP → Option β) : ob (some (a, h)) k = k a h := rfl
theorem obv_eq {β : Type} (h : HP) (k : HP → Option β) : obv (some h) k = k h := rfl
theorem ob3_eq {β : Type} (a : Int32) (t : TW) (h : HP) (k : Int32 → TW → HP → Option β) : ob3 (some (a, t, h)) k = k a t h := rfl
theorem up_c {h : HP} {k j q : Nat} {x : Int32} (hq : q ≠ k) : up h k j x q = h q := upc_ne h _ hq
theorem up_s {h : HP} {k j : Nat} {x : Int32} : up h k j x k j = x := by unfold up upc upd; rw [if_pos rfl, if_pos rfl]
theorem up_n {h : HP} {k j i : Nat} {x : Int32} (hi : i ≠ j) : up h k j x k i = h k i := by unfold up upc upd; rw [if_pos rfl, if_neg hi]
theorem up_at (h : HP) (k j : Nat) (x : Int32) (q i : Nat) : up h k j x q i = if q = k ∧ i = j then x else h q i := by
  by_cases hq : q = k
  · subst hq
    by_cases hi : i = j
    · subst hi; rw [up_s, if_pos ⟨rfl, rfl⟩]
    · rw [up_n hi, if_neg (fun z => hi z.2)]
  · rw [up_c hq, if_neg (fun z => hq z.1)]
theorem cpy_at (h : HP) (a x b y n q i : Nat) (hx : x < 2147483648) (hy : y < 2147483648) (hn : n < 2147483648) : cpy h a (nI x) b (nI y) (nI n) q i = if q = b ∧ y ≤ i ∧ i < y + n then h a (x + (i - y)) else h q i := by
  unfold cpy
  rw [show (nI x).toNatClampNeg = x from e_ix hx, show (nI y).toNatClampNeg = y from e_ix hy, show (nI n).toNatClampNeg = n from e_ix hn]
  by_cases hq : q = b
  · subst hq
    rw [upc_same]
    by_cases hi : y ≤ i ∧ i < y + n
    · rw [pk_cpy_in hi.1 hi.2, if_pos ⟨rfl, hi⟩]
    · rw [pk_cpy_out (by omega), if_neg (fun z => hi z.2)]
  · rw [upc_ne h _ hq, if_neg (fun z => hq z.1)]
theorem cpy_c {h : HP} {a b q : Nat} {x y n : Int32} (hq : q ≠ b) : cpy h a x b y n q = h q := upc_ne h _ hq
theorem cpb_t {x y n L0 L1 : Nat} (h0 : x + n ≤ L0) (h1 : y + n ≤ L1) (hL0 : L0 < 2147483648) (hL1 : L1 < 2147483648) : cpb (nI x) (nI y) (nI n) L0 L1 = true := by
  unfold cpb
  have a1 : (nI x).toNatClampNeg = x := e_ix (by omega)
  have a2 : (nI y).toNatClampNeg = y := e_ix (by omega)
  have a3 : (nI n).toNatClampNeg = n := e_ix (by omega)
  rw [a1, a2, a3]
  exact decide_eq_true ⟨nI_pos (by rw [e31]; omega), nI_pos (by rw [e31]; omega), nI_pos (by rw [e31]; omega), h0, h1⟩
/-- a bit -/
def bn (s i : Nat) : Nat := s / 2 ^ i % 2
theorem bn_lt (s i : Nat) : bn s i < 2 := Nat.mod_lt _ (by decide)
theorem e_and (a b : Nat) : nI a &&& nI b = nI (a &&& b) := by
  apply Int32.toBitVec_inj.mp
  show BitVec.ofNat 32 a &&& BitVec.ofNat 32 b = BitVec.ofNat 32 (a &&& b)
  exact (BitVec.ofNat_and).symm
theorem e_or (a b : Nat) : nI a ||| nI b = nI (a ||| b) := by
  apply Int32.toBitVec_inj.mp
  show BitVec.ofNat 32 a ||| BitVec.ofNat 32 b = BitVec.ofNat 32 (a ||| b)
  exact (BitVec.ofNat_or).symm
theorem e_xor (a b : Nat) : nI a ^^^ nI b = nI (a ^^^ b) := by
  apply Int32.toBitVec_inj.mp
  show BitVec.ofNat 32 a ^^^ BitVec.ofNat 32 b = BitVec.ofNat 32 (a ^^^ b)
  exact (BitVec.ofNat_xor).symm
theorem s31 : ∀ n, n < 32 → ((nI n &&& 31).toBitVec.smod 32).toNat = n := by decide +kernel
theorem e_shr {s i : Nat} (hs : s < 2147483648) (hi : i < 32) : jshr (nI s) (nI i) = nI (s / 2 ^ i) := pk_shrN (by rw [e31]; exact hs) _ i (s31 i hi)
theorem e_shl {s i : Nat} (hi : i < 32) (h : s * 2 ^ i < 4294967296) : jshl (nI s) (nI i) = nI (s * 2 ^ i) := pk_shlN _ i (s31 i hi) (by exact h)
theorem e_bit {s i : Nat} (hs : s < 2147483648) (hi : i < 32) : jshr (nI s) (nI i) &&& nI 1 = nI (bn s i) := by
  rw [e_shr hs hi, e_and, Nat.and_one_is_mod]
  rfl
theorem e_one {i : Nat} (hi : i < 31) : jshl (nI 1) (nI i) = nI (2 ^ i) := by
  rw [e_shl (by omega), Nat.one_mul]
  rw [Nat.one_mul]
  have : 2 ^ i ≤ 2 ^ 31 := Nat.pow_le_pow_right (by decide) (by omega)
  omega
/-- how many bits of eight -/
def popc (s : Nat) : Nat := bn s 0 + bn s 1 + bn s 2 + bn s 3 + bn s 4 + bn s 5 + bn s 6 + bn s 7
theorem popc_le (s : Nat) : popc s ≤ 8 := by
  unfold popc
  have h := bn_lt s
  have := h 0; have := h 1; have := h 2; have := h 3; have := h 4; have := h 5; have := h 6; have := h 7
  omega
theorem bc_all : ∀ s, s < 256 → (f_J6_bitCount_0f7a4 0 (nI s) (fun _ _ => 0)).map (fun q => q.1) = some (nI (popc s)) := by decide +kernel
theorem bc_spec (F : Nat) {s : Nat} (hs : s < 256) (h : HP) : f_J6_bitCount_0f7a4 F (nI s) h = some (nI (popc s), h) := by
  have := bc_all s hs
  unfold f_J6_bitCount_0f7a4 at this ⊢
  simp only [Option.map_some, Option.some.injEq] at this
  rw [this]
def bl : Nat → Int32 → Int32 → Option Int32
  | 0, _, _ => none
  | n + 1, a, x => if x = nI 0 then some a else bl n (a + nI 1) (x &&& (x - nI 1))
theorem bl_eq (F : Nat) (x0 : Int32) : ∀ (n : Nat) (a x : Int32) (h : HP), f_X7_bits_4 F x0 n a x h = (bl n a x).map (fun r => (r, h)) := by
  intro n
  induction n with
  | zero => intro a x h; rfl
  | succ n ih =>
    intro a x h
    rw [f_X7_bits_4, bl]
    by_cases hx : x = nI 0
    · rw [if_pos hx, if_pos hx]; rfl
    · rw [if_neg hx, if_neg hx]; exact ih _ _ _
theorem bl_mono : ∀ {n k : Nat} {a x r : Int32}, bl n a x = some r → bl (n + k) a x = some r := by
  intro n
  induction n with
  | zero => intro k a x r h; cases h
  | succ n ih =>
    intro k a x r h
    rw [show n + 1 + k = (n + k) + 1 by omega, bl]
    rw [bl] at h
    by_cases hx : x = nI 0
    · rw [if_pos hx] at h ⊢; exact h
    · rw [if_neg hx] at h ⊢; exact ih h
theorem bl_all : ∀ s, s < 256 → bl 10 (nI 0) (nI s) = some (nI (popc s)) := by decide +kernel
theorem bits_spec {F : Nat} (hF : 600 ≤ F) {s : Nat} (hs : s < 256) (h : HP) : f_X7_bits F (nI s) h = some (nI (popc s), h) := by
  unfold f_X7_bits
  rw [bl_eq]
  have := bl_mono (k := F - 10) (bl_all s hs)
  rw [show 10 + (F - 10) = F by omega] at this
  rw [this]
  rfl
/-- x is one of y .. z -/
theorem in_spec (F : Nat) (x y z : Int32) (h : HP) : f_X7_in F x.toInt64 y.toInt64 z.toInt64 h = some (if y ≤ x ∧ x ≤ z then nI 1 else nI 0, h) := by
  unfold f_X7_in
  have e1 : (lg_cmp x.toInt64 y.toInt64 < nI 0) ↔ ¬ y ≤ x := by
    rw [nI_0, ← Int32.not_le, lg_cmp_ge, Int64.le_iff_toInt_le, Int32.toInt_toInt64, Int32.toInt_toInt64, Int32.le_iff_toInt_le]
  have e2 : (nI 0 < lg_cmp x.toInt64 z.toInt64) ↔ ¬ x ≤ z := by
    rw [nI_0, Int32.le_iff_toInt_le]
    unfold lg_cmp
    have q1 : (x.toInt64 > z.toInt64) ↔ z.toInt < x.toInt := by rw [gt_iff_lt, Int64.lt_iff_toInt_lt, Int32.toInt_toInt64, Int32.toInt_toInt64]
    by_cases g : z.toInt < x.toInt
    · rw [if_pos (q1.mpr g)]
      exact ⟨fun _ => by omega, fun _ => by decide⟩
    · rw [if_neg (fun w => g (q1.mp w))]
      constructor
      · intro w
        split at w
        · exact absurd w (by decide)
        · exact absurd w (by decide)
      · intro w; omega
  by_cases h1 : y ≤ x
  · rw [if_neg (fun w => e1.mp w h1)]
    by_cases h2 : x ≤ z
    · rw [if_neg (fun w => e2.mp w h2), if_pos ⟨h1, h2⟩]
    · rw [if_pos (e2.mpr h2), if_neg (fun w => h2 w.2)]
  · rw [if_pos (e1.mpr h1), if_neg (fun w => h1 w.1)]
theorem l64 {n : Nat} (h : n < 2147483648) : lN n = (nI n).toInt64 := (nI_l (by rw [e31]; exact h)).symm
/-- a number is a place below n, or not -/
theorem cas (x : Int32) {n : Nat} (hn : n < 2147483648) : (∃ j, j < n ∧ x = nI j) ∨ (x < nI 0 ∨ nI n ≤ x) := by
  rcases pk_ix x (n := n) (by rw [e31]; exact hn) with h | h | h
  · exact Or.inr (Or.inl (by rw [nI_0]; exact h))
  · exact Or.inr (Or.inr h)
  · exact Or.inl h
/-- a sum over i .. i + k - 1 -/
def sg (f : Nat → Nat) : Nat → Nat → Nat
  | _, 0 => 0
  | i, k + 1 => f i + sg f (i + 1) k
theorem sg_congr {f g : Nat → Nat} : ∀ {k i : Nat}, (∀ j, i ≤ j → j < i + k → f j = g j) → sg f i k = sg g i k := by
  intro k
  induction k with
  | zero => intro i _; rfl
  | succ k ih =>
    intro i h
    show f i + sg f (i + 1) k = g i + sg g (i + 1) k
    rw [h i (Nat.le_refl _) (by omega), ih (fun j a b => h j (by omega) (by omega))]
theorem sg_le {f : Nat → Nat} {m : Nat} (hf : ∀ j, f j ≤ m) : ∀ (k i : Nat), sg f i k ≤ k * m := by
  intro k
  induction k with
  | zero => intro i; exact Nat.zero_le _
  | succ k ih =>
    intro i
    show f i + sg f (i + 1) k ≤ _
    have := ih (i + 1)
    have := hf i
    rw [Nat.succ_mul]
    omega
theorem sg_add (f g : Nat → Nat) : ∀ (k i : Nat), sg (fun j => f j + g j) i k = sg f i k + sg g i k := by
  intro k
  induction k with
  | zero => intro i; rfl
  | succ k ih =>
    intro i
    show f i + g i + sg (fun j => f j + g j) (i + 1) k = f i + sg f (i + 1) k + (g i + sg g (i + 1) k)
    rw [ih]
    omega
theorem sg_last (f : Nat → Nat) : ∀ (k i : Nat), sg f i (k + 1) = sg f i k + f (i + k) := by
  intro k
  induction k with
  | zero => intro i; show f i + 0 = 0 + f i; omega
  | succ k ih =>
    intro i
    show f i + sg f (i + 1) (k + 1) = f i + sg f (i + 1) k + f (i + (k + 1))
    rw [ih (i + 1), show i + 1 + k = i + (k + 1) by omega]
    omega
theorem sg_shift (f : Nat → Nat) (d : Nat) : ∀ (k i : Nat), sg f (i + d) k = sg (fun j => f (j + d)) i k := by
  intro k
  induction k with
  | zero => intro i; rfl
  | succ k ih =>
    intro i
    show f (i + d) + sg f (i + d + 1) k = f (i + d) + sg (fun j => f (j + d)) (i + 1) k
    rw [show i + d + 1 = i + 1 + d by omega, ih]
theorem sg_split (f : Nat → Nat) (m : Nat) : ∀ (k i : Nat), sg f i (k + m) = sg f i k + sg f (i + k) m := by
  intro k
  induction k with
  | zero => intro i; rw [Nat.zero_add]; show _ = 0 + sg f (i + 0) m; simp
  | succ k ih =>
    intro i
    rw [show k + 1 + m = (k + m) + 1 by omega]
    show f i + sg f (i + 1) (k + m) = f i + sg f (i + 1) k + sg f (i + (k + 1)) m
    rw [ih, show i + 1 + k = i + (k + 1) by omega]
    omega
/-- round: the rows from any one on are all rows -/
theorem sg_round (f : Nat → Nat) {N k : Nat} (hk : k < N) : sg (fun r => f ((r + k) % N)) 0 N = sg f 0 N := by
  have e1 : sg (fun r => f ((r + k) % N)) 0 (N - k) = sg f k (N - k) := by
    have := sg_shift f k (N - k) 0
    rw [Nat.zero_add] at this
    rw [this]
    exact sg_congr (fun j _ b => by rw [Nat.mod_eq_of_lt (by omega)])
  have e2 : sg (fun r => f ((r + k) % N)) (N - k) k = sg f 0 k := by
    have := sg_shift (fun r => f ((r + k) % N)) (N - k) k 0
    rw [Nat.zero_add] at this
    rw [this]
    refine sg_congr (fun j _ b => ?_)
    rw [show j + (N - k) + k = j + N by omega, Nat.add_mod_right, Nat.mod_eq_of_lt (by omega)]
  have a1 := sg_split (fun r => f ((r + k) % N)) k (N - k) 0
  have a2 := sg_split f (N - k) k 0
  rw [show N - k + k = N by omega, Nat.zero_add] at a1
  rw [show k + (N - k) = N by omega, Nat.zero_add] at a2
  rw [a1, a2, e1, e2]
  omega
theorem i_le {α : Type} {a b : Nat} (ha : a < 2147483648) (hb : b < 2147483648) (x y : α) : (if nI a ≤ nI b then x else y) = (if a ≤ b then x else y) := by
  by_cases g : a ≤ b
  · rw [if_pos (by rw [e_le ha hb]; exact g), if_pos g]
  · rw [if_neg (by rw [e_le ha hb]; exact g), if_neg g]
theorem i_lt {α : Type} {a b : Nat} (ha : a < 2147483648) (hb : b < 2147483648) (x y : α) : (if nI a < nI b then x else y) = (if a < b then x else y) := by
  by_cases g : a < b
  · rw [if_pos (by rw [e_lt ha hb]; exact g), if_pos g]
  · rw [if_neg (by rw [e_lt ha hb]; exact g), if_neg g]
theorem i_eq {α : Type} {a b : Nat} (ha : a < 2147483648) (hb : b < 2147483648) (x y : α) : (if nI a = nI b then x else y) = (if a = b then x else y) := by
  by_cases g : a = b
  · rw [if_pos (by rw [e_eq ha hb]; exact g), if_pos g]
  · rw [if_neg (by rw [e_eq ha hb]; exact g), if_neg g]
end
section
def popc12 (s : Nat) : Nat := sg (bn s) 0 12
set_option maxRecDepth 100000 in
theorem bc12_all : ∀ s, s < 4096 → (f_J6_bitCount_0f7a4 0 (nI s) (fun _ _ => 0)).map (fun q => q.1) = some (nI (popc12 s)) := by decide +kernel
theorem bc12_spec (F : Nat) {s : Nat} (hs : s < 4096) (h : HP) : f_J6_bitCount_0f7a4 F (nI s) h = some (nI (popc12 s), h) := by
  have := bc12_all s hs
  unfold f_J6_bitCount_0f7a4 at this ⊢
  simp only [Option.map_some, Option.some.injEq] at this
  rw [this]
end
section
/-! ===== what the cells hold between two calls ===== -/
def TF (B N R : Nat) (T M : Nat → Nat) : Prop := 1 ≤ B ∧ B ≤ 8 ∧ 2 ≤ N ∧ N ≤ 32 ∧ R ≤ 6 ∧ ∀ b, b < B → T b ≤ 40 ∧ 1 ≤ M b ∧ M b ≤ 2
def tdif (a b : Nat) : Nat := (if a ≤ b then b - a else a - b) % 12
def ill (a b : Nat) : Bool := tdif a b == 1 || tdif a b == 2 || tdif a b == 6 || tdif a b == 10 || tdif a b == 11
/-- the bells that sound ill with bell b, as bits -/
def illm (B : Nat) (T : Nat → Nat) (b : Nat) : Nat := sg (fun c => if ill (T b) (T c) then 2 ^ c else 0) 0 B
def CTw (B N R : Nat) (T M : Nat → Nat) (t : Nat) (h : HP) : Prop := h t 0 = nI B ∧ h t 4 = nI N ∧ h t 5 = nI R ∧ ∀ b, b < B → h (t + 1) b = nI (T b) ∧ h (t + 2) b = nI (M b) ∧ h (t + 3) b = nI (illm B T b)
def MTw (B N R : Nat) (T M : Nat → Nat) (h : HP) : Prop := h 40 0 = nI B ∧ h 40 1 = nI N ∧ h 40 2 = nI R ∧ ∀ b, b < B → h 40 (3 + b) = nI (T b) ∧ h 40 (11 + b) = nI (M b)
/-- how a drum stands, in the reference's order -/
def SOK (B N c : Nat) (m : Nat → Int32) : Prop := (∃ la, la ≤ N ∧ m 0 = nI la) ∧ (∃ tu, tu ≤ c ∧ m 1 = nI tu ∧ ∀ j, j < 16 → m (34 + j) = -1000 ∨ ∃ g, g < tu ∧ m (34 + j) = nI g) ∧ ∀ r, r < 32 → ∃ p, p < 2 ^ B ∧ m (2 + r) = nI p
/-- the class's way to hold it, against the reference's -/
def CS (R : Nat) (s m : Nat → Int32) : Prop := (∀ j, j < 66 → (j < 34 ∨ 50 ≤ j) → s j = m j) ∧ ∀ j, j < 16 → (m (34 + j) = -1000 ∧ s (34 + j) = nI 0) ∨ ∃ g, g < 1000000 ∧ m (34 + j) = nI g ∧ s (34 + j) = nI (g + R + 2)
def dv (h : HP) (d j : Nat) : Int32 := if j = 0 then h d 4 else if j = 1 then h d 5 else if j < 34 then h (d + 1) (j - 2) else if j < 50 then h (d + 2) (j - 34) else if j < 58 then h (d + 3) (j - 50) else h (d + 4) (j - 58)
/-- a shelf of P places against the reference's row of drums -/
def SR (R B N c P sf mb k : Nat) (h : HP) : Prop := k ≤ P ∧ h sf 0 = nI P ∧ h sf 3 = nI k ∧ ∃ nx, nx < P ∧ h sf 2 = nI nx ∧ ∀ i, i < k → CS R (fun j => h (sf + 1) (66 * ((nx + P - k + i) % P) + j)) (fun j => h mb (66 * i + j)) ∧ SOK B N c (fun j => h mb (66 * i + j))
def WT (B : Nat) (h : HP) : Prop := ∀ r, r < 32 → h 28 r = h 47 r ∧ ∃ w, w < 2 ^ B ∧ h 47 r = nI w
def HD (h : HP) : Prop := ∃ k, k ≤ 8 ∧ h 0 9 = nI k ∧ h 39 13 = nI k ∧ ∀ i, i < k → h 29 i = h 48 i
def TX (h : HP) : Prop := ∃ n, n ≤ 200 ∧ h 1 1 = nI n ∧ h 39 10 = nI n ∧ ∀ j, j < n → h 2 j = h 46 j ∧ ∃ c, 32 ≤ c ∧ c ≤ 126 ∧ h 46 j = nI c
def TWK (tw : TW) : Prop := tw = (4, 9) ∨ tw = (9, 4)
def INV (c : Nat) (tw : TW) (h : HP) : Prop := TWK tw ∧ ∃ (B N R : Nat) (T M : Nat → Nat), TF B N R T M ∧ CTw B N R T M tw.1 h ∧ MTw B N R T M h ∧ SOK B N c (h 43) ∧ CS R (dv h 14) (h 43) ∧ (∃ k, SR R B N c 8 24 44 k h ∧ h 39 6 = nI k) ∧ (∃ k, SR R B N c 2 26 45 k h ∧ h 39 8 = nI k) ∧ WT B h ∧ HD h ∧ TX h
theorem SOK.mono {B N c c' : Nat} {m : Nat → Int32} (h : SOK B N c m) (hc : c ≤ c') : SOK B N c' m := by
  obtain ⟨a, ⟨tu, b1, b2⟩, d⟩ := h
  exact ⟨a, ⟨tu, Nat.le_trans b1 hc, b2⟩, d⟩
theorem SR.mono {R B N c c' P sf mb k : Nat} {h : HP} (hr : SR R B N c P sf mb k h) (hc : c ≤ c') : SR R B N c' P sf mb k h := by
  obtain ⟨a, b, d, nx, e, f, g⟩ := hr
  exact ⟨a, b, d, nx, e, f, fun i hi => ⟨(g i hi).1, (g i hi).2.mono hc⟩⟩
theorem INV.mono {c c' : Nat} {tw : TW} {h : HP} (i : INV c tw h) (hc : c ≤ c') : INV c' tw h := by
  obtain ⟨a, B, N, R, T, M, h1, h2, h3, h4, h5, ⟨k1, h6, h6'⟩, ⟨k2, h7, h7'⟩, h8⟩ := i
  exact ⟨a, B, N, R, T, M, h1, h2, h3, h4.mono hc, h5, ⟨k1, h6.mono hc, h6'⟩, ⟨k2, h7.mono hc, h7'⟩, h8⟩
/-- the cells that matter between two calls are as they were -/
def essL : List Nat := [2, 14, 15, 16, 17, 18, 24, 25, 26, 27, 28, 29, 40, 43, 44, 45, 46, 47, 48]
def Ess (tw : TW) (h h' : HP) : Prop := (∀ k, k ∈ essL → h' k = h k) ∧ (∀ j, j < 4 → h' (tw.1 + j) = h (tw.1 + j)) ∧ h' 0 9 = h 0 9 ∧ h' 1 1 = h 1 1 ∧ h' 39 6 = h 39 6 ∧ h' 39 8 = h 39 8 ∧ h' 39 10 = h 39 10 ∧ h' 39 13 = h 39 13
theorem INV.ess {c : Nat} {tw : TW} {h h' : HP} (i : INV c tw h) (e : Ess tw h h') : INV c tw h' := by
  obtain ⟨a, B, N, R, T, M, h1, h2, h3, h4, h5, ⟨k1, h6, h6'⟩, ⟨k2, h7, h7'⟩, h8, h9, h10⟩ := i
  obtain ⟨e1, e2, e3, e4, e5, e6, e7, e8⟩ := e
  have q : ∀ k, k ∈ essL → h' k = h k := e1
  have t0 : h' tw.1 = h tw.1 := e2 0 (by decide)
  have t1 := e2 1 (by decide)
  have t2 := e2 2 (by decide)
  have t3 := e2 3 (by decide)
  have hdv : dv h' 14 = dv h 14 := by
    funext j
    unfold dv
    rw [q 14 (by decide), q 15 (by decide), q 16 (by decide), q 17 (by decide), q 18 (by decide)]
  refine ⟨a, B, N, R, T, M, h1, ?_, ?_, ?_, ?_, ⟨k1, ?_, ?_⟩, ⟨k2, ?_, ?_⟩, ?_, ?_, ?_⟩
  · unfold CTw; rw [t0, t1, t2, t3]; exact h2
  · unfold MTw; rw [q 40 (by decide)]; exact h3
  · rw [q 43 (by decide)]; exact h4
  · rw [q 43 (by decide), hdv]; exact h5
  · unfold SR; rw [q 24 (by decide), q 25 (by decide), q 44 (by decide)]; exact h6
  · rw [e5]; exact h6'
  · unfold SR; rw [q 26 (by decide), q 27 (by decide), q 45 (by decide)]; exact h7
  · rw [e6]; exact h7'
  · unfold WT; rw [q 28 (by decide), q 47 (by decide)]; exact h8
  · unfold HD; rw [e3, e8, q 29 (by decide), q 48 (by decide)]; exact h9
  · unfold TX; rw [e4, e7, q 2 (by decide), q 46 (by decide)]; exact h10
theorem p2le {B : Nat} (h : B ≤ 8) : 2 ^ B ≤ 256 := Nat.pow_le_pow_right (by decide) h
/-- rows' sets -/
def pv (h : HP) (r : Nat) : Nat := ix (h 43 (2 + r))
theorem pv_of {B N c : Nat} {h : HP} (hB : B ≤ 8) (hs : SOK B N c (h 43)) {r : Nat} (hr : r < 32) : h 43 (2 + r) = nI (pv h r) ∧ pv h r < 2 ^ B ∧ pv h r < 256 := by
  obtain ⟨p, hp, e⟩ := hs.2.2 r hr
  have h256 := p2le hB
  have : pv h r = p := by unfold pv; rw [e]; exact e_ix (by omega)
  rw [this]
  exact ⟨e, hp, by omega⟩
theorem pin_of {R : Nat} {h : HP} (hc : CS R (dv h 14) (h 43)) {r : Nat} (hr : r < 32) : h 15 r = h 43 (2 + r) := by
  have := hc.1 (2 + r) (by omega) (Or.inl (by omega))
  rw [← this]
  unfold dv
  rw [if_neg (by omega), if_neg (by omega), if_pos (by omega), show 2 + r - 2 = r by omega]
theorem jrem_n {a d : Nat} (ha : a < 2147483648) (h0 : 0 < d) (hd : d < 2147483648) : jrem (nI a) (nI d) = nI (a % d) := pk_rem (by rw [e31]; exact ha) h0 (by rw [e31]; exact hd)
theorem floorMod_n (F : Nat) {a d : Nat} (ha : a < 2147483648) (h0 : 0 < d) (hd : d < 2147483648) (h : HP) : f_J9_floorMod_7cf53 F (nI a) (nI d) h = some (nI (a % d), h) := by
  unfold f_J9_floorMod_7cf53
  have hx : a ^^^ d < 2 ^ 31 := Nat.xor_lt_two_pow (by rw [e31]; exact ha) (by rw [e31]; exact hd)
  rw [e31] at hx
  rw [if_pos (by rw [Ne, e_eq hd (by decide)]; omega), e_xor, if_pos (by rw [e_le (by decide) hx]; omega), jrem_n ha h0 hd]
theorem rowBehind_n (F : Nat) {t N a b : Nat} {h : HP} (hN : h t 4 = nI N) (h0 : 0 < N) (hN2 : N < 1000) (ha : a + b < 2147483648) : f_X5_rowBehind F t (nI a) (nI b) h = some (nI ((a + b) % N), h) := by
  unfold f_X5_rowBehind
  rw [hN, if_neg (by rw [e_le (by omega) (by decide)]; omega), e_add, floorMod_n F ha h0 (by omega), ob_eq]
theorem subadd {a b c : Nat} (h : b ≤ a + c) : nI a - nI b + nI c = nI (a + c - b) := by
  have e : nI (a + c - b) + nI b = nI a + nI c := by rw [e_add, e_add, Nat.sub_add_cancel h]
  have : nI a - nI b + nI c = nI a + nI c - nI b := by
    apply Int32.toBitVec_inj.mp
    simp only [Int32.toBitVec_add, Int32.toBitVec_sub]
    rw [BitVec.sub_eq_add_neg, BitVec.sub_eq_add_neg, BitVec.add_assoc, BitVec.add_comm (-_), ← BitVec.add_assoc]
  rw [this, ← e]
  apply Int32.toBitVec_inj.mp
  simp only [Int32.toBitVec_add, Int32.toBitVec_sub]
  rw [BitVec.add_sub_cancel]
theorem shifted_n (F : Nat) {N r k : Nat} {h : HP} (hN : h 40 1 = nI N) (h0 : 0 < N) (hN2 : N ≤ 32) (hr : r < N) (hk : k ≤ N) : f_X7_shifted F (nI r) (nI k) h = some (h 43 (2 + (r + N - k) % N), h) := by
  unfold f_X7_shifted
  have hm : (r + N - k) % N < N := Nat.mod_lt _ h0
  rw [hN, if_pos (by rw [Ne, e_eq (by omega) (by decide)]; omega), subadd (by omega), jrem_n (by omega) h0 (by omega), e_add, if_pos (inb_t (by omega) (by decide)), e_ix (by omega)]
end
section
/-! ===== the plain calls ===== -/
def Same (fX fM : HP → Option (Int32 × HP)) (h : HP) : Prop := ∃ r, fX h = some (r, h) ∧ fM h = some (r, h)
theorem X6_isRow_t (F : Nat) {tw : TW} {N j : Nat} {h : HP} (hN : h tw.1 4 = nI N) (hb : N ≤ 32) (hj : j < N) : f_X6_isRow F tw (nI j) h = some (nI 1, h) := by
  unfold f_X6_isRow
  rw [hN, if_neg (by rw [e_lt (by omega) (by decide)]; omega), if_neg (by rw [e_le (by omega) (by omega)]; omega)]
theorem X6_isRow_f (F : Nat) {tw : TW} {N : Nat} {x : Int32} {h : HP} (hN : h tw.1 4 = nI N) (hx : x < nI 0 ∨ nI N ≤ x) : f_X6_isRow F tw x h = some (nI 0, h) := by
  unfold f_X6_isRow
  rw [hN]
  by_cases g : x < nI 0
  · rw [if_pos g]
  · rw [if_neg g, if_pos (hx.resolve_left g)]
theorem X6_isBell_t (F : Nat) {tw : TW} {B j : Nat} {h : HP} (hB : h tw.1 0 = nI B) (hb : B ≤ 8) (hj : j < B) : f_X6_isBell F tw (nI j) h = some (nI 1, h) := by
  unfold f_X6_isBell
  rw [hB, if_neg (by rw [e_lt (by omega) (by decide)]; omega), if_neg (by rw [e_le (by omega) (by omega)]; omega)]
theorem X6_isBell_f (F : Nat) {tw : TW} {B : Nat} {x : Int32} {h : HP} (hB : h tw.1 0 = nI B) (hx : x < nI 0 ∨ nI B ≤ x) : f_X6_isBell F tw x h = some (nI 0, h) := by
  unfold f_X6_isBell
  rw [hB]
  by_cases g : x < nI 0
  · rw [if_pos g]
  · rw [if_neg g, if_pos (hx.resolve_left g)]
theorem X6_isSet_t (F : Nat) {tw : TW} {B j : Nat} {h : HP} (hB : h tw.1 0 = nI B) (hb : B ≤ 8) (hj : j < 2 ^ B) : f_X6_isSet F tw (nI j) h = some (nI 1, h) := by
  have h256 := p2le hb
  unfold f_X6_isSet f_X5_everyBell
  rw [if_neg (by rw [e_lt (by omega) (by decide)]; omega), ob_eq, hB, e_one (by omega), e_sub (by omega), if_neg (by rw [e_lt (by omega) (by omega)]; omega)]
theorem X6_isSet_f (F : Nat) {tw : TW} {B : Nat} {x : Int32} {h : HP} (hB : h tw.1 0 = nI B) (hb : B ≤ 8) (hx : x < nI 0 ∨ nI (2 ^ B) ≤ x) : f_X6_isSet F tw x h = some (nI 0, h) := by
  have h256 := p2le hb
  have hp : 0 < 2 ^ B := Nat.pow_pos (by decide)
  unfold f_X6_isSet f_X5_everyBell
  by_cases g : x < nI 0
  · rw [if_pos g]
  · rw [if_neg g, ob_eq, hB, e_one (by omega), e_sub (by omega)]
    have h1 := hx.resolve_left g
    rw [Int32.le_iff_toInt_le, nI_toInt (by rw [e31]; omega)] at h1
    rw [if_pos (by rw [Int32.lt_iff_toInt_lt, nI_toInt (by rw [e31]; omega)]; omega)]
theorem in_t {F : Nat} {j a b : Nat} (h : HP) (hj : a ≤ j) (hb : j ≤ b) (hbb : b < 2147483648) : f_X7_in F (nI j).toInt64 (nI a).toInt64 (nI b).toInt64 h = some (nI 1, h) := by
  rw [in_spec, if_pos ⟨by rw [e_le (by omega) (by omega)]; exact hj, by rw [e_le (by omega) (by omega)]; exact hb⟩]
theorem in_f {F : Nat} {x : Int32} {n : Nat} (h : HP) (h0 : 0 < n) (hn : n < 2147483648) (hx : x < nI 0 ∨ nI n ≤ x) : f_X7_in F x.toInt64 (nI 0).toInt64 (nI (n - 1)).toInt64 h = some (nI 0, h) := by
  rw [in_spec, if_neg]
  rintro ⟨a, b⟩
  rw [Int32.le_iff_toInt_le, nI_toInt (by decide)] at a
  rw [Int32.le_iff_toInt_le, nI_toInt (by rw [e31]; omega)] at b
  rcases hx with g | g
  · rw [Int32.lt_iff_toInt_lt, nI_toInt (by decide)] at g
    omega
  · rw [Int32.le_iff_toInt_le, nI_toInt (by rw [e31]; omega)] at g
    omega
theorem guard01 {α : Type} {v : Int32} (hv : v = nI 0 ∨ v = nI 1) (a : Option α) : (if v = nI 0 ∨ v = nI 1 then a else none) = a := if_pos hv
theorem X7_isRow_t (F : Nat) {N j : Nat} {h : HP} (hN : h 40 1 = nI N) (hb : N ≤ 32) (hj : j < N) : f_X7_isRow F (nI j) h = some (nI 1, h) := by
  unfold f_X7_isRow
  rw [hN, e_sub (by omega), l64 (by decide), in_t h (by omega) (by omega) (by omega), ob_eq, guard01 (Or.inr rfl)]
theorem X7_isRow_f (F : Nat) {N : Nat} {x : Int32} {h : HP} (hN : h 40 1 = nI N) (h0 : 0 < N) (hb : N ≤ 32) (hx : x < nI 0 ∨ nI N ≤ x) : f_X7_isRow F x h = some (nI 0, h) := by
  unfold f_X7_isRow
  rw [hN, e_sub (by omega), l64 (by decide), in_f h h0 (by omega) hx, ob_eq, guard01 (Or.inl rfl)]
theorem X7_isBell_t (F : Nat) {B j : Nat} {h : HP} (hB : h 40 0 = nI B) (hb : B ≤ 8) (hj : j < B) : f_X7_isBell F (nI j) h = some (nI 1, h) := by
  unfold f_X7_isBell
  rw [hB, e_sub (by omega), l64 (by decide), in_t h (by omega) (by omega) (by omega), ob_eq, guard01 (Or.inr rfl)]
theorem X7_isBell_f (F : Nat) {B : Nat} {x : Int32} {h : HP} (hB : h 40 0 = nI B) (h0 : 0 < B) (hb : B ≤ 8) (hx : x < nI 0 ∨ nI B ≤ x) : f_X7_isBell F x h = some (nI 0, h) := by
  unfold f_X7_isBell
  rw [hB, e_sub (by omega), l64 (by decide), in_f h h0 (by omega) hx, ob_eq, guard01 (Or.inl rfl)]
theorem X7_isSet_t (F : Nat) {B j : Nat} {h : HP} (hB : h 40 0 = nI B) (hb : B ≤ 8) (hj : j < 2 ^ B) : f_X7_isSet F (nI j) h = some (nI 1, h) := by
  have h256 := p2le hb
  unfold f_X7_isSet
  rw [hB, e_one (by omega), e_sub (by omega), l64 (by decide), in_t h (by omega) (by omega) (by omega), ob_eq, guard01 (Or.inr rfl)]
theorem X7_isSet_f (F : Nat) {B : Nat} {x : Int32} {h : HP} (hB : h 40 0 = nI B) (hb : B ≤ 8) (hx : x < nI 0 ∨ nI (2 ^ B) ≤ x) : f_X7_isSet F x h = some (nI 0, h) := by
  have h256 := p2le hb
  have hp : 0 < 2 ^ B := Nat.pow_pos (by decide)
  unfold f_X7_isSet
  rw [hB, e_one (by omega), e_sub (by omega), l64 (by decide), in_f h hp (by omega) hx, ob_eq, guard01 (Or.inl rfl)]
theorem n10 : ¬ nI 1 = nI 0 := by decide
/-- pins -/
theorem op_pins {F c : Nat} {tw : TW} {h : HP} (i : INV c tw h) (x : Int32) : Same (f_X6_pins F tw x) (f_X7_pins F x) h := by
  obtain ⟨-, B, N, R, T, M, hT, hC, hM, hS, hD, -⟩ := i
  have hN1 := hC.2.1
  have hN2 := hM.2.1
  rcases cas x (n := N) (by have := hT.2.2.2.1; omega) with ⟨j, hj, rfl⟩ | hx
  · have hb := hT.2.2.2.1
    refine ⟨h 15 j, ?_, ?_⟩
    · unfold f_X6_pins
      rw [X6_isRow_t F hN1 hb hj, ob_eq, if_neg n10, if_pos (inb_t (by omega) (by decide)), e_ix (by omega)]
    · unfold f_X7_pins
      rw [X7_isRow_t F hN2 hb hj, ob_eq, if_neg n10, e_add, if_pos (inb_t (by omega) (by decide)), e_ix (by omega), pin_of hD (by omega)]
  · refine ⟨-1, ?_, ?_⟩
    · unfold f_X6_pins
      rw [X6_isRow_f F hN1 hx, ob_eq, if_pos rfl]
    · unfold f_X7_pins
      rw [X7_isRow_f F hN2 (by have := hT.2.2.1; omega) hT.2.2.2.1 hx, ob_eq, if_pos rfl]
theorem has_n (F : Nat) {s i : Nat} (hs : s < 256) (hi : i < 8) (h : HP) : f_X7_has F (nI s) (nI i) h = some (nI (bn s i), h) := by
  unfold f_X7_has
  have := bn_lt s i
  rw [e_bit (by omega) (by omega)]
  rcases (show bn s i = 0 ∨ bn s i = 1 by omega) with e | e <;> rw [e]
  · rw [if_neg (by decide)]
  · rw [if_pos rfl]
/-- pins of a bell, rows from i on -/
theorem X6_pinsOfBell_loop {F : Nat} {tw : TW} {N b : Nat} {h : HP} {p : Nat → Nat} (hN : h tw.1 4 = nI N) (hb : N ≤ 32) (hb8 : b < 8) (hp : ∀ r, r < 32 → h 15 r = nI (p r) ∧ p r < 256) :
    ∀ (k i n acc : Nat), i + k = N → k < n → f_X6_pinsOfBell_4 F tw (nI b) n (nI acc) (nI i) h = some (nI (acc + sg (fun r => bn (p r) b) i k), h) := by
  intro k
  induction k with
  | zero =>
    intro i n acc hi hn
    obtain ⟨n, rfl⟩ : ∃ m, n = m + 1 := ⟨n - 1, by omega⟩
    rw [f_X6_pinsOfBell_4, hN, if_pos (by rw [e_le (by omega) (by omega)]; omega)]
    rfl
  | succ k ih =>
    intro i n acc hi hn
    obtain ⟨n, rfl⟩ : ∃ m, n = m + 1 := ⟨n - 1, by omega⟩
    obtain ⟨q1, q2⟩ := hp i (by omega)
    rw [f_X6_pinsOfBell_4, hN, if_neg (by rw [e_le (by omega) (by omega)]; omega), if_pos (inb_t (by omega) (by decide)), e_ix (by omega), q1, e_bit (by omega) (by omega), e_add, e_add, ih (i + 1) n _ (by omega) (by omega), Nat.add_assoc]
    rfl
theorem X7_bell_loop {F : Nat} {N b : Nat} {x2 : Int32} {h : HP} {p : Nat → Nat} (hN : h 40 1 = nI N) (hb : N ≤ 32) (hb8 : b < 8) (hp : ∀ r, r < 32 → h 43 (2 + r) = nI (p r) ∧ p r < 256) :
    ∀ (k i n acc : Nat), i + k = N → k < n → f_X7_bell_15 F (nI b) x2 n (nI acc) (nI i) h = f_X7_bell_15 F (nI b) x2 1 (nI (acc + sg (fun r => bn (p r) b) i k)) (nI N) h := by
  intro k
  induction k with
  | zero =>
    intro i n acc hi hn
    obtain ⟨n, rfl⟩ : ∃ m, n = m + 1 := ⟨n - 1, by omega⟩
    obtain rfl : i = N := by omega
    rw [f_X7_bell_15, f_X7_bell_15, hN, if_pos (Int32.le_refl (nI i)), if_pos (Int32.le_refl (nI i))]
    rfl
  | succ k ih =>
    intro i n acc hi hn
    obtain ⟨n, rfl⟩ : ∃ m, n = m + 1 := ⟨n - 1, by omega⟩
    obtain ⟨q1, q2⟩ := hp i (by omega)
    rw [f_X7_bell_15, hN, if_neg (by rw [e_le (by omega) (by omega)]; omega), e_add, if_pos (inb_t (by omega) (by decide)), e_ix (by omega), q1, has_n F q2 hb8, ob_eq]
    have hbn := bn_lt (p i) b
    have e : (if nI (bn (p i) b) = nI 0 then nI 0 else nI 1) = nI (bn (p i) b) := by
      rcases (show bn (p i) b = 0 ∨ bn (p i) b = 1 by omega) with e | e <;> rw [e]
      · rw [if_pos rfl]
      · rw [if_neg n10]
    rw [e, e_add, e_add, ih (i + 1) n _ (by omega) (by omega), Nat.add_assoc]
    rfl
theorem op_bell {F c : Nat} (hF : 600 ≤ F) {tw : TW} {h : HP} (i : INV c tw h) (x y : Int32) : Same (f_X6_bell F tw x y) (f_X7_bell F x y) h := by
  obtain ⟨-, B, N, R, T, M, hT, hC, hM, hS, hD, -⟩ := i
  obtain ⟨hB1, hB8, hN2, hN32, hR6, hTM⟩ := hT
  rcases cas x (n := B) (by omega) with ⟨b, hb, rfl⟩ | hx
  · have hp15 : ∀ r, r < 32 → h 15 r = nI (pv h r) ∧ pv h r < 256 := fun r hr => by
      rw [pin_of hD hr]
      exact ⟨(pv_of hB8 hS hr).1, (pv_of hB8 hS hr).2.2⟩
    have hp43 : ∀ r, r < 32 → h 43 (2 + r) = nI (pv h r) ∧ pv h r < 256 := fun r hr => ⟨(pv_of hB8 hS hr).1, (pv_of hB8 hS hr).2.2⟩
    unfold Same f_X6_bell f_X7_bell
    rw [X6_isBell_t F hC.1 hB8 hb, X7_isBell_t F hM.1 hB8 hb, ob_eq, ob_eq, if_neg n10, if_neg n10, X7_bell_loop hM.2.1 hN32 (by omega) hp43 N 0 F 0 (by omega) (by omega), Nat.zero_add, f_X7_bell_15, hM.2.1, if_pos (Int32.le_refl (nI N))]
    by_cases g0 : y = nI 0
    · rw [if_pos g0, if_pos g0, if_pos (inb_t (by omega) (by decide)), e_ix (by omega), e_add, if_pos (inb_t (by omega) (by decide)), e_ix (by omega), (hC.2.2.2 b hb).1, (hM.2.2.2 b hb).1]
      exact ⟨_, rfl, rfl⟩
    rw [if_neg g0, if_neg g0]
    by_cases g1 : y = nI 1
    · rw [if_pos g1, if_pos g1, if_pos (inb_t (by omega) (by decide)), e_ix (by omega), e_add, if_pos (inb_t (by omega) (by decide)), e_ix (by omega), (hC.2.2.2 b hb).2.1, (hM.2.2.2 b hb).2]
      exact ⟨_, rfl, rfl⟩
    rw [if_neg g1, if_neg g1]
    by_cases g2 : y = nI 2
    · rw [if_pos g2, if_pos g2]
      unfold f_X6_pinsOfBell
      rw [X6_pinsOfBell_loop hC.2.1 hN32 (by omega) hp15 N 0 F 0 (by omega) (by omega), ob_eq, Nat.zero_add]
      exact ⟨_, rfl, rfl⟩
    rw [if_neg g2, if_neg g2]
    have q : ∀ j, 50 ≤ j → j < 66 → dv h 14 j = h 43 j := fun j a b => hD.1 j b (Or.inr a)
    by_cases g3 : y = nI 3
    · rw [if_pos g3, if_pos g3, if_pos (inb_t (by omega) (by decide)), e_ix (by omega), e_add, if_pos (inb_t (by omega) (by decide)), e_ix (by omega)]
      have := q (50 + b) (by omega) (by omega)
      unfold dv at this
      rw [if_neg (by omega), if_neg (by omega), if_neg (by omega), if_neg (by omega), if_pos (by omega), show 50 + b - 50 = b by omega] at this
      rw [← this]
      exact ⟨_, rfl, rfl⟩
    rw [if_neg g3, if_neg g3]
    by_cases g4 : y = nI 4
    · rw [if_pos g4, if_pos g4, if_pos (inb_t (by omega) (by decide)), e_ix (by omega), e_add, if_pos (inb_t (by omega) (by decide)), e_ix (by omega)]
      have := q (58 + b) (by omega) (by omega)
      unfold dv at this
      rw [if_neg (by omega), if_neg (by omega), if_neg (by omega), if_neg (by omega), if_neg (by omega), show 58 + b - 58 = b by omega] at this
      rw [← this]
      exact ⟨_, rfl, rfl⟩
    rw [if_neg g4, if_neg g4]
    exact ⟨_, rfl, rfl⟩
  · refine ⟨-1, ?_, ?_⟩
    · unfold f_X6_bell
      rw [X6_isBell_f F hC.1 hx, ob_eq, if_pos rfl]
    · unfold f_X7_bell
      rw [X7_isBell_f F hM.1 (by omega) hB8 hx, ob_eq, if_pos rfl]
/-- all pins -/
theorem X6_allPins_loop {F : Nat} {tw : TW} {N : Nat} {h : HP} {p : Nat → Nat} (hN : h tw.1 4 = nI N) (hb : N ≤ 32) (hp : ∀ r, r < 32 → h 15 r = nI (p r) ∧ p r < 256) :
    ∀ (k i n acc : Nat), i + k = N → k < n → f_X6_allPins_4 F tw n (nI acc) (nI i) h = some (nI (acc + sg (fun r => popc (p r)) i k), h) := by
  intro k
  induction k with
  | zero =>
    intro i n acc hi hn
    obtain ⟨n, rfl⟩ : ∃ m, n = m + 1 := ⟨n - 1, by omega⟩
    rw [f_X6_allPins_4, hN, if_pos (by rw [e_le (by omega) (by omega)]; omega)]
    rfl
  | succ k ih =>
    intro i n acc hi hn
    obtain ⟨n, rfl⟩ : ∃ m, n = m + 1 := ⟨n - 1, by omega⟩
    obtain ⟨q1, q2⟩ := hp i (by omega)
    rw [f_X6_allPins_4, hN, if_neg (by rw [e_le (by omega) (by omega)]; omega), if_pos (inb_t (by omega) (by decide)), e_ix (by omega), q1, bc_spec F q2, ob_eq, e_add, e_add, ih (i + 1) n _ (by omega) (by omega), Nat.add_assoc]
    rfl
theorem X7_count_loop {F : Nat} (hF : 600 ≤ F) {N : Nat} {x : Int32} {h : HP} {p : Nat → Nat} (hN : h 40 1 = nI N) (hb : N ≤ 32) (hp : ∀ r, r < 32 → h 43 (2 + r) = nI (p r) ∧ p r < 256) :
    ∀ (k i n acc : Nat), i + k = N → k < n → f_X7_count_4 F x n (nI acc) (nI i) h = f_X7_count_4 F x 1 (nI (acc + sg (fun r => popc (p r)) i k)) (nI N) h := by
  intro k
  induction k with
  | zero =>
    intro i n acc hi hn
    obtain ⟨n, rfl⟩ : ∃ m, n = m + 1 := ⟨n - 1, by omega⟩
    obtain rfl : i = N := by omega
    rw [f_X7_count_4, f_X7_count_4, hN, if_pos (Int32.le_refl (nI i)), if_pos (Int32.le_refl (nI i))]
    rfl
  | succ k ih =>
    intro i n acc hi hn
    obtain ⟨n, rfl⟩ : ∃ m, n = m + 1 := ⟨n - 1, by omega⟩
    obtain ⟨q1, q2⟩ := hp i (by omega)
    rw [f_X7_count_4, hN, if_neg (by rw [e_le (by omega) (by omega)]; omega), e_add, if_pos (inb_t (by omega) (by decide)), e_ix (by omega), q1, bits_spec hF q2, ob_eq, e_add, e_add, ih (i + 1) n _ (by omega) (by omega), Nat.add_assoc]
    rfl
theorem op_count {F c : Nat} (hF : 600 ≤ F) {tw : TW} {h : HP} (i : INV c tw h) (x : Int32) : Same (f_X6_count F tw x) (f_X7_count F x) h := by
  obtain ⟨-, B, N, R, T, M, hT, hC, hM, hS, hD, ⟨k1, hU, hU'⟩, ⟨k2, hK, hK'⟩, -, ⟨k3, -, hH1, hH2, -⟩, ⟨n, -, hX1, hX2, -⟩⟩ := i
  obtain ⟨hB1, hB8, hN2, hN32, hR6, hTM⟩ := hT
  have hp15 : ∀ r, r < 32 → h 15 r = nI (pv h r) ∧ pv h r < 256 := fun r hr => by
    rw [pin_of hD hr]
    exact ⟨(pv_of hB8 hS hr).1, (pv_of hB8 hS hr).2.2⟩
  have hp43 : ∀ r, r < 32 → h 43 (2 + r) = nI (pv h r) ∧ pv h r < 256 := fun r hr => ⟨(pv_of hB8 hS hr).1, (pv_of hB8 hS hr).2.2⟩
  unfold Same f_X7_count
  rw [X7_count_loop hF hM.2.1 hN32 hp43 N 0 F 0 (by omega) (by omega), Nat.zero_add, f_X7_count_4, hM.2.1, if_pos (Int32.le_refl (nI N))]
  unfold f_X6_count
  by_cases g0 : x = nI 0
  · subst g0
    rw [if_pos rfl, if_pos rfl, if_pos (inb_t (by decide) (by decide)), e_ix (by decide), hC.1, hM.1]
    exact ⟨_, rfl, rfl⟩
  rw [if_neg g0, if_neg g0]
  by_cases g1 : x = nI 1
  · subst g1
    rw [if_pos rfl, if_pos rfl, if_pos (inb_t (by decide) (by decide)), e_ix (by decide), hC.2.1, hM.2.1]
    exact ⟨_, rfl, rfl⟩
  rw [if_neg g1, if_neg g1]
  by_cases g2 : x = nI 2
  · subst g2
    rw [if_pos rfl, if_pos rfl, if_pos (inb_t (by decide) (by decide)), e_ix (by decide), hC.2.2.1, hM.2.2.1]
    exact ⟨_, rfl, rfl⟩
  rw [if_neg g2, if_neg g2]
  by_cases g3 : x = nI 3
  · rw [if_pos g3, if_pos g3]
    unfold f_X6_allPins
    rw [X6_allPins_loop hC.2.1 hN32 hp15 N 0 F 0 (by omega) (by omega), ob_eq, Nat.zero_add]
    exact ⟨_, rfl, rfl⟩
  rw [if_neg g3, if_neg g3]
  by_cases g4 : x = nI 4
  · rw [if_pos g4, if_pos g4]
    exact ⟨_, rfl, by rw [← hD.1 1 (by decide) (Or.inl (by decide))]; rfl⟩
  rw [if_neg g4, if_neg g4]
  by_cases g5 : x = nI 5
  · rw [if_pos g5, if_pos g5]
    exact ⟨_, rfl, by rw [← hD.1 0 (by decide) (Or.inl (by decide))]; rfl⟩
  rw [if_neg g5, if_neg g5]
  by_cases g6 : x = nI 6
  · rw [if_pos g6, if_pos g6, hH1, hH2]
    exact ⟨_, rfl, rfl⟩
  rw [if_neg g6, if_neg g6]
  by_cases g7 : x = nI 7
  · rw [if_pos g7, if_pos g7, hU.2.2.1, hU']
    exact ⟨_, rfl, rfl⟩
  rw [if_neg g7, if_neg g7]
  by_cases g8 : x = nI 8
  · rw [if_pos g8, if_pos g8, hK.2.2.1, hK']
    exact ⟨_, rfl, rfl⟩
  rw [if_neg g8, if_neg g8]
  by_cases g9 : x = nI 9
  · rw [if_pos g9, if_pos g9, hX1, hX2]
    exact ⟨_, rfl, rfl⟩
  rw [if_neg g9, if_neg g9]
  exact ⟨_, rfl, rfl⟩
end
section
/-! ===== silence, again, changes, stood ===== -/
theorem succ_of {k n : Nat} (h : k < n) : ∃ m, n = m + 1 := ⟨n - 1, by omega⟩
theorem max_n (F : Nat) {a b : Nat} (ha : a < 2147483648) (hb : b < 2147483648) (h : HP) : f_J9_max_7cf53 F (nI a) (nI b) h = some (nI (max a b), h) := by
  unfold f_J9_max_7cf53
  rw [i_lt ha hb]
  by_cases g : a < b
  · rw [if_pos g, Nat.max_eq_right (by omega)]
  · rw [if_neg g, Nat.max_eq_left (by omega)]
theorem min_n (F : Nat) {a b : Nat} (ha : a < 2147483648) (hb : b < 2147483648) (h : HP) : f_J9_min_7cf53 F (nI a) (nI b) h = some (nI (min a b), h) := by
  unfold f_J9_min_7cf53
  rw [i_lt hb ha]
  by_cases g : b < a
  · rw [if_pos g, Nat.min_eq_right (by omega)]
  · rw [if_neg g, Nat.min_eq_left (by omega)]
/-- the most rows without a pin: k more rows from i on -/
def silf (z : Nat → Bool) : Nat → Nat → Nat → Nat → Nat
  | 0, _, m, _ => m
  | k + 1, i, m, w => silf z k (i + 1) (max m (if z i then w + 1 else 0)) (if z i then w + 1 else 0)
theorem X6_silence_loop {F : Nat} {tw : TW} {N : Nat} {h : HP} {p : Nat → Nat} (hN : h tw.1 4 = nI N) (h0 : 0 < N) (hb : N ≤ 32) (hp : ∀ r, r < 32 → h 15 r = nI (p r) ∧ p r < 256) :
    ∀ (k i n m w : Nat), i + k = 2 * N → k < n → m ≤ i → w ≤ i → f_X6_silence_6 F tw n (nI m) (nI w) (nI i) h = some (nI (min (silf (fun j => p (j % N) == 0) k i m w) N), h) := by
  intro k
  induction k with
  | zero =>
    intro i n m w hi hn hm hw
    obtain ⟨n, rfl⟩ := succ_of hn
    rw [f_X6_silence_6, hN, e_mul, if_pos (by rw [e_le (by omega) (by omega)]; omega), min_n F (by omega) (by omega), ob_eq]
    rfl
  | succ k ih =>
    intro i n m w hi hn hm hw
    obtain ⟨n, rfl⟩ := succ_of hn
    have hlt : i % N < N := Nat.mod_lt _ h0
    obtain ⟨q1, q2⟩ := hp (i % N) (by omega)
    rw [f_X6_silence_6, hN, e_mul, if_neg (by rw [e_le (by omega) (by omega)]; omega), rowBehind_n F hN h0 (by omega) (by omega), ob_eq, Nat.zero_add, if_pos (inb_t (by omega) (by decide)), e_ix (by omega), q1]
    by_cases g : p (i % N) = 0
    · rw [if_pos (by rw [g]), e_add, max_n F (by omega) (by omega), ob_eq, e_add, ih (i + 1) n _ _ (by omega) (by omega) (by omega) (by omega)]
      have : silf (fun j => p (j % N) == 0) (k + 1) i m w = silf (fun j => p (j % N) == 0) k (i + 1) (max m (w + 1)) (w + 1) := by
        show silf _ k (i + 1) (max m (if (p (i % N) == 0) = true then w + 1 else 0)) (if (p (i % N) == 0) = true then w + 1 else 0) = _
        rw [if_pos (by rw [g]; rfl)]
      rw [this]
    · rw [if_neg (by rw [e_eq (by omega) (by decide)]; exact g), max_n F (by omega) (by omega), ob_eq, e_add, ih (i + 1) n _ _ (by omega) (by omega) (by omega) (by omega)]
      have : silf (fun j => p (j % N) == 0) (k + 1) i m w = silf (fun j => p (j % N) == 0) k (i + 1) (max m 0) 0 := by
        show silf _ k (i + 1) (max m (if (p (i % N) == 0) = true then w + 1 else 0)) (if (p (i % N) == 0) = true then w + 1 else 0) = _
        rw [if_neg (by simpa using g)]
      rw [this]
theorem X7_silence_loop {F : Nat} {N : Nat} {h : HP} {p : Nat → Nat} (hN : h 40 1 = nI N) (h0 : 0 < N) (hb : N ≤ 32) (hp : ∀ r, r < 32 → h 43 (2 + r) = nI (p r) ∧ p r < 256) :
    ∀ (k i n m w : Nat), i + k = 2 * N → k < n → m ≤ i → w ≤ i → f_X7_silence_6 F n (nI m) (nI w) (nI i) h = some (nI (min (silf (fun j => p (j % N) == 0) k i m w) N), h) := by
  intro k
  induction k with
  | zero =>
    intro i n m w hi hn hm hw
    obtain ⟨n, rfl⟩ := succ_of hn
    rw [f_X7_silence_6, hN, e_mul, if_pos (by rw [e_le (by omega) (by omega)]; omega)]
    show _ = some (nI (min m N), h)
    by_cases g : m ≤ N
    · rw [if_pos (by rw [e_le (by omega) (by omega)]; exact g), Nat.min_eq_left g]
    · rw [if_neg (by rw [e_le (by omega) (by omega)]; exact g), Nat.min_eq_right (by omega)]
  | succ k ih =>
    intro i n m w hi hn hm hw
    obtain ⟨n, rfl⟩ := succ_of hn
    have hlt : i % N < N := Nat.mod_lt _ h0
    obtain ⟨q1, q2⟩ := hp (i % N) (by omega)
    rw [f_X7_silence_6, hN, e_mul, if_neg (by rw [e_le (by omega) (by omega)]; omega), if_pos (by rw [Ne, e_eq (by omega) (by decide)]; omega), jrem_n (by omega) h0 (by omega), e_add, if_pos (inb_t (by omega) (by decide)), e_ix (by omega), q1]
    have emax : ∀ v : Nat, v ≤ i + 1 → (if nI v ≤ nI m then nI m else nI v) = nI (max m v) := by
      intro v hv
      by_cases g : v ≤ m
      · rw [if_pos (by rw [e_le (by omega) (by omega)]; exact g), Nat.max_eq_left g]
      · rw [if_neg (by rw [e_le (by omega) (by omega)]; exact g), Nat.max_eq_right (by omega)]
    by_cases g : p (i % N) = 0
    · have c0 : nI (p (i % N)) = nI 0 := by rw [g]
      simp only [if_pos c0]
      rw [e_add, emax _ (by omega), e_add, ih (i + 1) n _ _ (by omega) (by omega) (by omega) (by omega)]
      have : silf (fun j => p (j % N) == 0) (k + 1) i m w = silf (fun j => p (j % N) == 0) k (i + 1) (max m (w + 1)) (w + 1) := by
        show silf _ k (i + 1) (max m (if (p (i % N) == 0) = true then w + 1 else 0)) (if (p (i % N) == 0) = true then w + 1 else 0) = _
        rw [if_pos (by rw [g]; rfl)]
      rw [this]
    · have c0 : ¬ nI (p (i % N)) = nI 0 := by rw [e_eq (by omega) (by decide)]; exact g
      simp only [if_neg c0]
      rw [emax _ (by omega), e_add, ih (i + 1) n _ _ (by omega) (by omega) (by omega) (by omega)]
      have : silf (fun j => p (j % N) == 0) (k + 1) i m w = silf (fun j => p (j % N) == 0) k (i + 1) (max m 0) 0 := by
        show silf _ k (i + 1) (max m (if (p (i % N) == 0) = true then w + 1 else 0)) (if (p (i % N) == 0) = true then w + 1 else 0) = _
        rw [if_neg (by simpa using g)]
      rw [this]
theorem op_silence {F c : Nat} (hF : 600 ≤ F) {tw : TW} {h : HP} (i : INV c tw h) : Same (f_X6_silence F tw) (f_X7_silence F) h := by
  obtain ⟨-, B, N, R, T, M, ⟨hB1, hB8, hN2, hN32, hR6, hTM⟩, hC, hM, hS, hD, -⟩ := i
  have hp43 : ∀ r, r < 32 → h 43 (2 + r) = nI (pv h r) ∧ pv h r < 256 := fun r hr => ⟨(pv_of hB8 hS hr).1, (pv_of hB8 hS hr).2.2⟩
  have hp15 : ∀ r, r < 32 → h 15 r = nI (pv h r) ∧ pv h r < 256 := fun r hr => by rw [pin_of hD hr]; exact hp43 r hr
  exact ⟨_, X6_silence_loop hC.2.1 (by omega) hN32 hp15 (2 * N) 0 F 0 0 (by omega) (by omega) (by omega) (by omega), X7_silence_loop hM.2.1 (by omega) hN32 hp43 (2 * N) 0 F 0 0 (by omega) (by omega) (by omega) (by omega)⟩
/-- all of i .. i + k - 1 -/
def allr (Q : Nat → Bool) : Nat → Nat → Bool
  | _, 0 => true
  | i, k + 1 => Q i && allr Q (i + 1) k
theorem allr_iff {Q : Nat → Bool} : ∀ {k i : Nat}, allr Q i k = true ↔ ∀ j, i ≤ j → j < i + k → Q j = true := by
  intro k
  induction k with
  | zero => intro i; exact ⟨fun _ j a b => by omega, fun _ => rfl⟩
  | succ k ih =>
    intro i
    show (Q i && allr Q (i + 1) k) = true ↔ _
    rw [Bool.and_eq_true, ih]
    constructor
    · rintro ⟨a, b⟩ j h1 h2
      by_cases e : j = i
      · rw [e]; exact a
      · exact b j (by omega) (by omega)
    · intro a
      exact ⟨a i (by omega) (by omega), fun j h1 h2 => a j (by omega) (by omega)⟩
def bI (b : Bool) : Int32 := if b then nI 1 else nI 0
theorem bI_t : bI true = nI 1 := rfl
theorem bI_f : bI false = nI 0 := rfl
theorem bI_01 (b : Bool) : bI b = nI 0 ∨ bI b = nI 1 := by cases b; exact Or.inl rfl; exact Or.inr rfl
theorem X6_again_in {F : Nat} {tw : TW} {N q : Nat} {h : HP} {p : Nat → Nat} (hN : h tw.1 4 = nI N) (h0 : 0 < N) (hb : N ≤ 32) (hq : q < 100) (hp : ∀ r, r < 32 → h 15 r = nI (p r) ∧ p r < 256) :
    ∀ (k i n : Nat), i + k = N → k < n → f_X6_comesAgainAfter_2 F tw (nI q) n (nI i) h = some (bI (allr (fun r => p r == p ((r + q) % N)) i k), h) := by
  intro k
  induction k with
  | zero =>
    intro i n hi hn
    obtain ⟨n, rfl⟩ := succ_of hn
    rw [f_X6_comesAgainAfter_2, hN, if_pos (by rw [e_le (by omega) (by omega)]; omega)]
    rfl
  | succ k ih =>
    intro i n hi hn
    obtain ⟨n, rfl⟩ := succ_of hn
    have hlt : (i + q) % N < N := Nat.mod_lt _ h0
    obtain ⟨q1, q2⟩ := hp i (by omega)
    obtain ⟨r1, r2⟩ := hp ((i + q) % N) (by omega)
    rw [f_X6_comesAgainAfter_2, hN, if_neg (by rw [e_le (by omega) (by omega)]; omega), if_pos (inb_t (by omega) (by decide)), rowBehind_n F hN h0 (by omega) (by omega), ob_eq, if_pos (inb_t (by omega) (by decide)), e_ix (by omega), e_ix (by omega), q1, r1, i_eq (by omega) (by omega)]
    show _ = some (bI ((p i == p ((i + q) % N)) && allr _ (i + 1) k), h)
    by_cases g : p i = p ((i + q) % N)
    · rw [if_pos g, e_add, ih (i + 1) n (by omega) (by omega), beq_iff_eq.mpr g, Bool.true_and]
    · rw [if_neg g, beq_eq_false_iff_ne.mpr g]
      rfl
theorem X7_again_in {F : Nat} {N q : Nat} {h : HP} {p : Nat → Nat} (hN : h 40 1 = nI N) (h0 : 0 < N) (hb : N ≤ 32) (hq : q < 100) (hp : ∀ r, r < 32 → h 43 (2 + r) = nI (p r) ∧ p r < 256) :
    ∀ (k i n : Nat) (d : Bool), i + k = N → k < n → f_X7_comesAgain_4 F (nI q) n (bI d) (nI i) h = some (bI (d && allr (fun r => p ((r + N - q % N) % N) == p r) i k), h) := by
  intro k
  induction k with
  | zero =>
    intro i n d hi hn
    obtain ⟨n, rfl⟩ := succ_of hn
    rw [f_X7_comesAgain_4, hN, if_pos (by rw [e_le (by omega) (by omega)]; omega), guard01 (bI_01 d)]
    show _ = some (bI (d && true), h)
    rw [Bool.and_true]
  | succ k ih =>
    intro i n d hi hn
    obtain ⟨n, rfl⟩ := succ_of hn
    have hlt : (i + N - q % N) % N < N := Nat.mod_lt _ h0
    have hqm : q % N < N := Nat.mod_lt _ h0
    obtain ⟨q1, q2⟩ := hp i (by omega)
    obtain ⟨r1, r2⟩ := hp ((i + N - q % N) % N) (by omega)
    rw [f_X7_comesAgain_4, hN, if_neg (by rw [e_le (by omega) (by omega)]; omega)]
    cases d with
    | false =>
      rw [bI_f, if_pos rfl, e_add, show nI 0 = bI false from rfl, ih (i + 1) n false (by omega) (by omega)]
      rfl
    | true =>
      rw [bI_t, if_neg n10, if_pos (by rw [Ne, e_eq (by omega) (by decide)]; omega), jrem_n (by omega) h0 (by omega), shifted_n F hN h0 hb (by omega) (by omega), ob_eq, e_add, if_pos (inb_t (by omega) (by decide)), e_ix (by omega), q1, r1, i_eq (by omega) (by omega), e_add]
      show _ = some (bI (true && ((p ((i + N - q % N) % N) == p i) && allr _ (i + 1) k)), h)
      have e : (if p ((i + N - q % N) % N) = p i then nI 1 else nI 0) = bI (p ((i + N - q % N) % N) == p i) := by
        by_cases g : p ((i + N - q % N) % N) = p i
        · rw [if_pos g, beq_iff_eq.mpr g]; rfl
        · rw [if_neg g, beq_eq_false_iff_ne.mpr g]; rfl
      rw [e, ih (i + 1) n _ (by omega) (by omega), Bool.true_and]
theorem mod_back {N r q : Nat} (hr : r < N) (hq : q < N) : ((r + q) % N + N - q) % N = r := by
  by_cases g : r + q < N
  · rw [Nat.mod_eq_of_lt g, show r + q + N - q = r + N by omega, Nat.add_mod_right, Nat.mod_eq_of_lt hr]
  · have : (r + q) % N = r + q - N := by
      rw [Nat.mod_eq_sub_mod (by omega), Nat.mod_eq_of_lt (by omega)]
    rw [this, show r + q - N + N - q = r by omega, Nat.mod_eq_of_lt hr]
theorem mod_forth {N r q : Nat} (hr : r < N) (hq : q < N) : ((r + N - q) % N + q) % N = r := by
  by_cases g : r < q
  · rw [Nat.mod_eq_of_lt (show r + N - q < N by omega), show r + N - q + q = r + N by omega, Nat.add_mod_right, Nat.mod_eq_of_lt hr]
  · have : (r + N - q) % N = r - q := by
      rw [show r + N - q = r - q + N by omega, Nat.add_mod_right, Nat.mod_eq_of_lt (by omega)]
    rw [this, show r - q + q = r by omega, Nat.mod_eq_of_lt hr]
theorem again_same {N q : Nat} {p : Nat → Nat} (h0 : 0 < N) (hq : q < N) : allr (fun r => p ((r + N - q % N) % N) == p r) 0 N = allr (fun r => p r == p ((r + q) % N)) 0 N := by
  rw [Nat.mod_eq_of_lt hq]
  apply Bool.eq_iff_iff.mpr
  rw [allr_iff, allr_iff]
  constructor
  · intro a j _ hj
    have hm : (j + q) % N < N := Nat.mod_lt _ h0
    have := a ((j + q) % N) (Nat.zero_le _) (by omega)
    rw [mod_back (by omega) hq] at this
    exact this
  · intro a j _ hj
    have hm : (j + N - q) % N < N := Nat.mod_lt _ h0
    have := a ((j + N - q) % N) (Nat.zero_le _) (by omega)
    rw [mod_forth (by omega) hq] at this
    exact this
def lst (Q : Nat → Bool) : Nat → Nat → Nat
  | p, 0 => p
  | p, k + 1 => if Q p then p else lst Q (p + 1) k
theorem op_again {F c : Nat} (hF : 600 ≤ F) {tw : TW} {h : HP} (i : INV c tw h) : Same (f_X6_again F tw) (f_X7_again F) h := by
  obtain ⟨-, B, N, R, T, M, ⟨hB1, hB8, hN2, hN32, hR6, hTM⟩, hC, hM, hS, hD, -⟩ := i
  have hp43 : ∀ r, r < 32 → h 43 (2 + r) = nI (pv h r) ∧ pv h r < 256 := fun r hr => ⟨(pv_of hB8 hS hr).1, (pv_of hB8 hS hr).2.2⟩
  have hp15 : ∀ r, r < 32 → h 15 r = nI (pv h r) ∧ pv h r < 256 := fun r hr => by rw [pin_of hD hr]; exact hp43 r hr
  have a1 : ∀ (k i n : Nat), i + k = N → k < n → f_X6_again_2 F tw n (nI i) h = some (nI (lst (fun q => allr (fun r => pv h r == pv h ((r + q) % N)) 0 N) i k), h) := by
    intro k
    induction k with
    | zero =>
      intro i n hi hn
      obtain ⟨n, rfl⟩ := succ_of hn
      rw [f_X6_again_2, hC.2.1, if_pos (by rw [e_le (by omega) (by omega)]; omega)]
      show _ = some (nI i, h)
      rw [show N = i by omega]
    | succ k ih =>
      intro i n hi hn
      obtain ⟨n, rfl⟩ := succ_of hn
      rw [f_X6_again_2, hC.2.1, if_neg (by rw [e_le (by omega) (by omega)]; omega), f_X6_comesAgainAfter, X6_again_in hC.2.1 (by omega) hN32 (by omega) hp15 N 0 F (by omega) (by omega), ob_eq]
      show _ = some (nI (if allr (fun r => pv h r == pv h ((r + i) % N)) 0 N = true then i else lst _ (i + 1) k), h)
      cases hb : allr (fun r => pv h r == pv h ((r + i) % N)) 0 N with
      | true => rw [bI_t, if_neg n10, if_pos rfl]
      | false =>
        rw [bI_f, if_pos rfl, e_add, ih (i + 1) n (by omega) (by omega)]
        simp
  have a2 : ∀ (k i n : Nat), i + k = N → k < n → f_X7_again_2 F n (nI i) h = some (nI (lst (fun q => allr (fun r => pv h r == pv h ((r + q) % N)) 0 N) i k), h) := by
    intro k
    induction k with
    | zero =>
      intro i n hi hn
      obtain ⟨n, rfl⟩ := succ_of hn
      rw [f_X7_again_2, f_X7_comesAgain, show nI 1 = bI true from rfl, X7_again_in hM.2.1 (by omega) hN32 (by omega) hp43 N 0 F true (by omega) (by omega), ob_eq]
      have : allr (fun r => pv h ((r + N - i % N) % N) == pv h r) 0 N = true := by
        rw [allr_iff]
        intro j _ hj
        rw [show i = N by omega, Nat.mod_self, Nat.sub_zero, Nat.add_mod_right, Nat.mod_eq_of_lt (by omega)]
        exact beq_self_eq_true _
      rw [this, Bool.true_and, bI_t, if_neg n10]
      rfl
    | succ k ih =>
      intro i n hi hn
      obtain ⟨n, rfl⟩ := succ_of hn
      rw [f_X7_again_2, f_X7_comesAgain, show nI 1 = bI true from rfl, X7_again_in hM.2.1 (by omega) hN32 (by omega) hp43 N 0 F true (by omega) (by omega), ob_eq, again_same (by omega) (by omega), Bool.true_and]
      show _ = some (nI (if allr (fun r => pv h r == pv h ((r + i) % N)) 0 N = true then i else lst _ (i + 1) k), h)
      cases hb : allr (fun r => pv h r == pv h ((r + i) % N)) 0 N with
      | true => rw [bI_t, if_neg n10, if_pos rfl]
      | false =>
        rw [bI_f, if_pos rfl, show bI true = nI 1 from rfl, e_add, ih (i + 1) n (by omega) (by omega)]
        simp
  exact ⟨_, a1 (N - 1) 1 F (by omega) (by omega), a2 (N - 1) 1 F (by omega) (by omega)⟩
/-- the first of the least: k more from i on -/
def amf (v : Nat → Nat) : Nat → Nat → Nat → Nat → Nat × Nat
  | 0, _, b, l => (b, l)
  | k + 1, i, b, l => amf v k (i + 1) (if l ≤ v i then b else i) (if l ≤ v i then l else v i)
theorem amf_congr {v w : Nat → Nat} : ∀ {k i b l : Nat}, (∀ j, i ≤ j → j < i + k → v j = w j) → amf v k i b l = amf w k i b l := by
  intro k
  induction k with
  | zero => intro i b l _; rfl
  | succ k ih =>
    intro i b l h
    show amf v k (i + 1) (if l ≤ v i then b else i) (if l ≤ v i then l else v i) = amf w k (i + 1) (if l ≤ w i then b else i) (if l ≤ w i then l else w i)
    rw [h i (by omega) (by omega), ih (fun j a c => h j (by omega) (by omega))]
theorem ite_n {c : Prop} [Decidable c] (a b : Nat) : (if c then nI a else nI b) = nI (if c then a else b) := by split <;> rfl
/-- if changed so: how many pins -/
theorem X6_chg_loop {F : Nat} {tw : TW} {N q : Nat} {h : HP} {p w : Nat → Nat} (hN : h tw.1 4 = nI N) (h0 : 0 < N) (hb : N ≤ 32) (hq : q < 100) (hp : ∀ r, r < 32 → h 15 r = nI (p r) ∧ p r < 256) (hw : ∀ r, r < 32 → h 28 r = nI (w r) ∧ w r < 256) :
    ∀ (k i n acc : Nat), i + k = N → k < n → f_X6_changesIfShifted_4 F tw (nI q) n (nI acc) (nI i) h = some (nI (acc + sg (fun r => popc (p r ^^^ w ((r + q) % N))) i k), h) := by
  intro k
  induction k with
  | zero =>
    intro i n acc hi hn
    obtain ⟨n, rfl⟩ := succ_of hn
    rw [f_X6_changesIfShifted_4, hN, if_pos (by rw [e_le (by omega) (by omega)]; omega)]
    rfl
  | succ k ih =>
    intro i n acc hi hn
    obtain ⟨n, rfl⟩ := succ_of hn
    have hlt : (i + q) % N < N := Nat.mod_lt _ h0
    obtain ⟨q1, q2⟩ := hp i (by omega)
    obtain ⟨r1, r2⟩ := hw ((i + q) % N) (by omega)
    have hx : p i ^^^ w ((i + q) % N) < 2 ^ 8 := Nat.xor_lt_two_pow q2 r2
    rw [f_X6_changesIfShifted_4, hN, if_neg (by rw [e_le (by omega) (by omega)]; omega), if_pos (inb_t (by omega) (by decide)), rowBehind_n F hN h0 (by omega) (by omega), ob_eq, if_pos (inb_t (by omega) (by decide)), e_ix (by omega), e_ix (by omega), q1, r1, e_xor, bc_spec F hx, ob_eq, e_add, e_add, ih (i + 1) n _ (by omega) (by omega), Nat.add_assoc]
    rfl
theorem X7_chg_loop {F : Nat} (hF : 600 ≤ F) {N q : Nat} {x1 : Int32} {k17 : Int32 → Int32 → Int32 → HP → Option (Int32 × HP)} {b l : Nat} {h : HP} {p w : Nat → Nat} (hN : h 40 1 = nI N) (h0 : 0 < N) (hb : N ≤ 32) (hq : q < N) (hl : l < 2147483648) (hp : ∀ r, r < 32 → h 43 (2 + r) = nI (p r) ∧ p r < 256) (hw : ∀ r, r < 32 → h 47 r = nI (w r) ∧ w r < 256) :
    ∀ (k i n acc : Nat), i + k = N → k < n → acc + 8 * k < 2147483648 → f_X7_changes_34 F x1 k17 n (nI b) (nI l) (nI q) (nI acc) (nI i) h = k17 (nI (if l ≤ acc + sg (fun r => popc (p ((r + N - q) % N) ^^^ w r)) i k then b else q)) (nI (if l ≤ acc + sg (fun r => popc (p ((r + N - q) % N) ^^^ w r)) i k then l else acc + sg (fun r => popc (p ((r + N - q) % N) ^^^ w r)) i k)) (nI (q + 1)) h := by
  intro k
  induction k with
  | zero =>
    intro i n acc hi hn ha
    obtain ⟨n, rfl⟩ := succ_of hn
    rw [f_X7_changes_34, hN, if_pos (by rw [e_le (by omega) (by omega)]; omega), i_le hl (by omega), i_le hl (by omega), ite_n, ite_n, e_add]
    rfl
  | succ k ih =>
    intro i n acc hi hn ha
    obtain ⟨n, rfl⟩ := succ_of hn
    have hlt : (i + N - q) % N < N := Nat.mod_lt _ h0
    obtain ⟨q1, q2⟩ := hp ((i + N - q) % N) (by omega)
    obtain ⟨r1, r2⟩ := hw i (by omega)
    have hx : p ((i + N - q) % N) ^^^ w i < 2 ^ 8 := Nat.xor_lt_two_pow q2 r2
    have h8 := popc_le (p ((i + N - q) % N) ^^^ w i)
    rw [f_X7_changes_34, hN, if_neg (by rw [e_le (by omega) (by omega)]; omega), shifted_n F hN h0 hb (by omega) (by omega), ob_eq, if_pos (inb_t (by omega) (by decide)), e_ix (by omega), q1, r1, e_xor, bits_spec hF hx, ob_eq, e_add, e_add, ih (i + 1) n _ (by omega) (by omega) (by omega), Nat.add_assoc]
    rfl
theorem op_changes {F c : Nat} (hF : 600 ≤ F) {tw : TW} {h : HP} (i : INV c tw h) (x : Int32) : Same (f_X6_changes F tw x) (f_X7_changes F x) h := by
  obtain ⟨-, B, N, R, T, M, ⟨hB1, hB8, hN2, hN32, hR6, hTM⟩, hC, hM, hS, hD, -, -, hW, -⟩ := i
  have hp43 : ∀ r, r < 32 → h 43 (2 + r) = nI (pv h r) ∧ pv h r < 256 := fun r hr => ⟨(pv_of hB8 hS hr).1, (pv_of hB8 hS hr).2.2⟩
  have hp15 : ∀ r, r < 32 → h 15 r = nI (pv h r) ∧ pv h r < 256 := fun r hr => by rw [pin_of hD hr]; exact hp43 r hr
  have h256 := p2le hB8
  have hw47 : ∀ r, r < 32 → h 47 r = nI (ix (h 47 r)) ∧ ix (h 47 r) < 256 := fun r hr => by
    obtain ⟨-, w, hw, e⟩ := hW r hr
    rw [e, e_ix (by omega)]
    exact ⟨rfl, by omega⟩
  have hw28 : ∀ r, r < 32 → h 28 r = nI (ix (h 47 r)) ∧ ix (h 47 r) < 256 := fun r hr => by rw [(hW r hr).1]; exact hw47 r hr
  let v : Nat → Nat := fun q => sg (fun r => popc (pv h r ^^^ ix (h 47 ((r + q) % N)))) 0 N
  have hv : ∀ q, q < N → sg (fun r => popc (pv h ((r + N - q) % N) ^^^ ix (h 47 r))) 0 N = v q := by
    intro q hq
    rw [← sg_round (fun r => popc (pv h ((r + N - q) % N) ^^^ ix (h 47 r))) hq]
    exact sg_congr (fun j _ hj => by
      show popc (pv h (((j + q) % N + N - q) % N) ^^^ _) = _
      rw [mod_back (by omega) hq])
  have hvl : ∀ q, v q ≤ N * 8 := fun q => sg_le (fun j => popc_le _) N 0
  have m1 : ∀ q, q < N → f_X6_changesIfShifted F tw (nI q) h = some (nI (v q), h) := fun q hq => by
    rw [f_X6_changesIfShifted, X6_chg_loop hC.2.1 (by omega) hN32 (by omega) hp15 hw28 N 0 F 0 (by omega) (by omega), Nat.zero_add]
  rcases cas x (n := 2) (by decide) with ⟨j, hj, rfl⟩ | hx
  · have a1 : ∀ (k i n b l : Nat), i + k = N → k < n → l ≤ N * 8 → f_X6_changes_22 F tw (nI j) n (nI b) (nI l) (nI i) h = some (if j = 0 then nI (amf v k i b l).2 else nI (amf v k i b l).1, h) := by
      intro k
      induction k with
      | zero =>
        intro i n b l hi hn hl
        obtain ⟨n, rfl⟩ := succ_of hn
        rw [f_X6_changes_22, hC.2.1, if_pos (by rw [e_le (by omega) (by omega)]; omega), i_eq (by omega) (by decide)]
        show _ = some (if j = 0 then nI l else nI b, h)
        by_cases g : j = 0
        · rw [if_pos g, if_pos g]
        · rw [if_neg g, if_neg g]
      | succ k ih =>
        intro i n b l hi hn hl
        obtain ⟨n, rfl⟩ := succ_of hn
        have := hvl i
        rw [f_X6_changes_22, hC.2.1, if_neg (by rw [e_le (by omega) (by omega)]; omega), m1 i (by omega), ob_eq, i_le (by omega) (by omega), i_le (by omega) (by omega), ite_n, ite_n, e_add, ih (i + 1) n _ _ (by omega) (by omega) (by split <;> omega)]
        rfl
    have a2 : ∀ (k i n b l : Nat), i + k = N → k < n → l < 2147483648 → f_X7_changes_17 F (nI j) n (nI b) (nI l) (nI i) h = some (if j = 0 then nI (amf v k i b l).2 else nI (amf v k i b l).1, h) := by
      intro k
      induction k with
      | zero =>
        intro i n b l hi hn hl
        obtain ⟨n, rfl⟩ := succ_of hn
        rw [f_X7_changes_17, hM.2.1, if_pos (by rw [e_le (by omega) (by omega)]; omega), i_eq (by omega) (by decide)]
        show _ = some (if j = 0 then nI l else nI b, h)
        by_cases g : j = 0
        · rw [if_pos g, if_pos g]
        · rw [if_neg g, if_neg g]
      | succ k ih =>
        intro i n b l hi hn hl
        obtain ⟨n, rfl⟩ := succ_of hn
        have := hvl i
        rw [f_X7_changes_17, hM.2.1, if_neg (by rw [e_le (by omega) (by omega)]; omega), X7_chg_loop hF hM.2.1 (by omega) hN32 (by omega) hl hp43 hw47 N 0 F 0 (by omega) (by omega) (by omega), Nat.zero_add, hv i (by omega), ih (i + 1) n _ _ (by omega) (by omega) (by split <;> omega)]
        rfl
    refine ⟨if j = 0 then nI (amf v (N - 1) 1 0 (v 0)).2 else nI (amf v (N - 1) 1 0 (v 0)).1, ?_, ?_⟩
    · unfold f_X6_changes
      rw [if_neg (by rw [e_lt (by omega) (by decide)]; omega), if_pos (by rw [e_le (by omega) (by decide)]; omega), m1 0 (by omega), ob_eq, a1 (N - 1) 1 F 0 (v 0) (by omega) (by omega) (hvl 0)]
    · unfold f_X7_changes f_X7_isTwo
      rw [l64 (by decide), l64 (by decide), in_t h (by omega) (by omega) (by decide), ob_eq, guard01 (Or.inr rfl), ob_eq, if_neg n10, a2 N 0 F 0 1000000 (by omega) (by omega) (by decide)]
      have e : amf v N 0 0 1000000 = amf v (N - 1) 1 0 (v 0) := by
        rw [show N = (N - 1) + 1 by omega]
        show amf v (N - 1) 1 (if 1000000 ≤ v 0 then 0 else 0) (if 1000000 ≤ v 0 then 1000000 else v 0) = _
        have := hvl 0
        rw [if_neg (by omega), if_neg (by omega)]
        rfl
      rw [e]
  · refine ⟨-1, ?_, ?_⟩
    · unfold f_X6_changes
      rcases hx with g | g
      · rw [if_pos g]
      · have : ¬ x ≤ nI 1 := by
          rw [Int32.le_iff_toInt_le, nI_toInt (by decide)] at g ⊢
          omega
        have g2 : ¬ x < nI 0 := by
          rw [Int32.le_iff_toInt_le, nI_toInt (by decide)] at g
          rw [Int32.lt_iff_toInt_lt, nI_toInt (by decide)]
          omega
        rw [if_neg g2, if_neg this]
    · unfold f_X7_changes f_X7_isTwo
      rw [l64 (by decide), l64 (by decide), show nI 1 = nI (2 - 1) from rfl, in_f h (by decide) (by decide) hx, ob_eq, guard01 (Or.inl rfl), ob_eq, if_pos rfl]
end
section
/-! ===== calls that change little: write, wipe, want, hear, forget; stood ===== -/
def Step (fX fM : HP → Option (Int32 × HP)) (c : Nat) (tw : TW) (h : HP) : Prop := ∃ r h1 h2, fX h = some (r, h1) ∧ fM h1 = some (r, h2) ∧ INV (c + 1) tw h2
theorem Same.step {fX fM : HP → Option (Int32 × HP)} {c : Nat} {tw : TW} {h : HP} (s : Same fX fM h) (i : INV c tw h) : Step fX fM c tw h := by
  obtain ⟨r, a, b⟩ := s
  exact ⟨r, h, h, a, b, i.mono (Nat.le_succ c)⟩
theorem CTw.re {B N R t : Nat} {T M : Nat → Nat} {h h' : HP} (k : CTw B N R T M t h) (e : ∀ j, j < 4 → h' (t + j) = h (t + j)) : CTw B N R T M t h' := by
  have e0 : h' t = h t := e 0 (by decide)
  unfold CTw
  rw [e0, e 1 (by decide), e 2 (by decide), e 3 (by decide)]
  exact k
theorem MTw.re {B N R : Nat} {T M : Nat → Nat} {h h' : HP} (k : MTw B N R T M h) (e : h' 40 = h 40) : MTw B N R T M h' := by unfold MTw; rw [e]; exact k
theorem dv_re {h h' : HP} (e : ∀ k, 14 ≤ k → k ≤ 18 → h' k = h k) : dv h' 14 = dv h 14 := by
  funext j
  unfold dv
  rw [e 14 (by decide) (by decide), e 15 (by decide) (by decide), e 16 (by decide) (by decide), e 17 (by decide) (by decide), e 18 (by decide) (by decide)]
theorem SR.re {R B N c P sf mb k : Nat} {h h' : HP} (s : SR R B N c P sf mb k h) (e1 : h' sf = h sf) (e2 : h' (sf + 1) = h (sf + 1)) (e3 : h' mb = h mb) : SR R B N c P sf mb k h' := by unfold SR; rw [e1, e2, e3]; exact s
theorem WT.re {B : Nat} {h h' : HP} (w : WT B h) (e1 : h' 28 = h 28) (e2 : h' 47 = h 47) : WT B h' := by unfold WT; rw [e1, e2]; exact w
theorem HD.re {h h' : HP} (w : HD h) (e1 : h' 0 9 = h 0 9) (e2 : h' 39 13 = h 39 13) (e3 : h' 29 = h 29) (e4 : h' 48 = h 48) : HD h' := by unfold HD; rw [e1, e2, e3, e4]; exact w
theorem TX.re {h h' : HP} (w : TX h) (e1 : h' 1 1 = h 1 1) (e2 : h' 39 10 = h 39 10) (e3 : h' 2 = h 2) (e4 : h' 46 = h 46) : TX h' := by unfold TX; rw [e1, e2, e3, e4]; exact w
theorem TWK.c {tw : TW} (h : TWK tw) : tw.1 = 4 ∨ tw.1 = 9 := by rcases h with rfl | rfl; exact Or.inl rfl; exact Or.inr rfl
theorem op_want {F c : Nat} {tw : TW} {h : HP} (i : INV c tw h) (x y : Int32) : Step (f_X6_want F tw x y) (f_X7_want F x y) c tw h := by
  have i0 := i
  obtain ⟨hK, B, N, R, T, M, hT, hC, hM, hS, hD, ⟨k1, hU, hU'⟩, ⟨k2, hV, hV'⟩, hW, hH, hX⟩ := i
  obtain ⟨hB1, hB8, hN2, hN32, hR6, hTM⟩ := id hT
  rcases cas x (n := N) (by omega) with ⟨j, hj, rfl⟩ | hx
  · rcases cas y (n := 2 ^ B) (by have := p2le hB8; omega) with ⟨s, hs, rfl⟩ | hy
    · have e28 := (hW j (by omega)).1
      refine ⟨h 28 j, up h 28 j (nI s), up (up h 28 j (nI s)) 47 j (nI s), ?_, ?_, ?_⟩
      · unfold f_X6_want
        rw [X6_isRow_t F hC.2.1 hN32 hj, ob_eq, if_neg n10, X6_isSet_t F hC.1 hB8 hs, ob_eq, if_neg n10, if_pos (inb_t (by omega) (by decide)), e_ix (by omega)]
      · have e40 : (up h 28 j (nI s)) 40 = h 40 := up_c (by decide)
        have e47 : (up h 28 j (nI s)) 47 = h 47 := up_c (by decide)
        unfold f_X7_want
        rw [X7_isRow_t F (by rw [e40]; exact hM.2.1) hN32 hj, ob_eq, if_neg n10, X7_isSet_t F (by rw [e40]; exact hM.1) hB8 hs, ob_eq, if_neg n10, if_pos (inb_t (by omega) (by decide)), e_ix (by omega), e47, e28]
      · have q : ∀ k, k ≠ 28 → k ≠ 47 → (up (up h 28 j (nI s)) 47 j (nI s)) k = h k := fun k a b => by rw [up_c b, up_c a]
        refine INV.mono (c := c) ⟨hK, B, N, R, T, M, hT, hC.re (fun m hm => q _ ?_ ?_), hM.re (q 40 (by decide) (by decide)), ?_, ?_, ⟨k1, hU.re (q _ (by decide) (by decide)) (q _ (by decide) (by decide)) (q _ (by decide) (by decide)), by rw [q 39 (by decide) (by decide)]; exact hU'⟩, ⟨k2, hV.re (q _ (by decide) (by decide)) (q _ (by decide) (by decide)) (q _ (by decide) (by decide)), by rw [q 39 (by decide) (by decide)]; exact hV'⟩, ?_, hH.re (by rw [q 0 (by decide) (by decide)]) (by rw [q 39 (by decide) (by decide)]) (q _ (by decide) (by decide)) (q _ (by decide) (by decide)), hX.re (by rw [q 1 (by decide) (by decide)]) (by rw [q 39 (by decide) (by decide)]) (q _ (by decide) (by decide)) (q _ (by decide) (by decide))⟩ (Nat.le_succ c)
        · have := hK.c; omega
        · have := hK.c; omega
        · rw [q 43 (by decide) (by decide)]; exact hS
        · rw [q 43 (by decide) (by decide), dv_re (fun k a b => q k (by omega) (by omega))]; exact hD
        · intro r hr
          have a1 : (up (up h 28 j (nI s)) 47 j (nI s)) 28 r = if r = j then nI s else h 28 r := by
            rw [up_c (by decide)]
            by_cases g : r = j
            · rw [g, up_s, if_pos rfl]
            · rw [up_n g, if_neg g]
          have a2 : (up (up h 28 j (nI s)) 47 j (nI s)) 47 r = if r = j then nI s else h 47 r := by
            by_cases g : r = j
            · rw [g, up_s, if_pos rfl]
            · rw [up_n g, if_neg g, up_c (by decide)]
          rw [a1, a2]
          by_cases g : r = j
          · rw [if_pos g, if_pos g]; exact ⟨rfl, s, hs, rfl⟩
          · rw [if_neg g, if_neg g]; exact hW r hr
    · refine Same.step ⟨-1, ?_, ?_⟩ i0
      · unfold f_X6_want
        rw [X6_isRow_t F hC.2.1 hN32 hj, ob_eq, if_neg n10, X6_isSet_f F hC.1 hB8 hy, ob_eq, if_pos rfl]
      · unfold f_X7_want
        rw [X7_isRow_t F hM.2.1 hN32 hj, ob_eq, if_neg n10, X7_isSet_f F hM.1 hB8 hy, ob_eq, if_pos rfl]
  · refine Same.step ⟨-1, ?_, ?_⟩ i0
    · unfold f_X6_want
      rw [X6_isRow_f F hC.2.1 hx, ob_eq, if_pos rfl]
    · unfold f_X7_want
      rw [X7_isRow_f F hM.2.1 (by omega) hN32 hx, ob_eq, if_pos rfl]
theorem op_hear {F c : Nat} {tw : TW} {h : HP} (i : INV c tw h) (x : Int32) : Step (f_X6_hear F tw x) (f_X7_hear F x) c tw h := by
  have i0 := i
  obtain ⟨hK, B, N, R, T, M, hT, hC, hM, hS, hD, ⟨k1, hU, hU'⟩, ⟨k2, hV, hV'⟩, hW, ⟨n, hn8, hn1, hn2, hn3⟩, hX⟩ := i
  obtain ⟨hB1, hB8, hN2, hN32, hR6, hTM⟩ := id hT
  rcases cas x (n := 2 ^ B) (by have := p2le hB8; omega) with ⟨s, hs, rfl⟩ | hx
  · by_cases g8 : n = 8
    · refine Same.step ⟨-3, ?_, ?_⟩ i0
      · unfold f_X6_hear
        rw [X6_isSet_t F hC.1 hB8 hs, ob_eq, if_neg n10, hn1, if_neg (by rw [e_lt (by omega) (by decide)]; omega)]
      · unfold f_X7_hear
        rw [X7_isSet_t F hM.1 hB8 hs, ob_eq, if_neg n10, hn2, if_pos (by rw [g8])]
    · let h1 := up (up h 29 n (nI s)) 0 9 (nI (n + 1))
      let h2 := up (up h1 48 n (nI s)) 39 13 (nI (n + 1))
      refine ⟨nI (n + 1), h1, h2, ?_, ?_, ?_⟩
      · unfold f_X6_hear
        rw [X6_isSet_t F hC.1 hB8 hs, ob_eq, if_neg n10, hn1, if_pos (by rw [e_lt (by omega) (by decide)]; omega), if_pos (inb_t (by omega) (by decide)), e_ix (by omega), show (up h 29 n (nI s)) 0 9 = nI n by rw [up_c (by decide), hn1], e_add, up_s]
      · have e40 : h1 40 = h 40 := by show (up (up h 29 n (nI s)) 0 9 _) 40 = _; rw [up_c (by decide), up_c (by decide)]
        have e39 : h1 39 = h 39 := by show (up (up h 29 n (nI s)) 0 9 _) 39 = _; rw [up_c (by decide), up_c (by decide)]
        unfold f_X7_hear
        rw [X7_isSet_t F (by rw [e40]; exact hM.1) hB8 hs, ob_eq, if_neg n10, e39, hn2, if_neg (by rw [e_eq (by omega) (by decide)]; omega), if_pos (inb_t (by omega) (by decide)), e_ix (by omega), show (up h1 48 n (nI s)) 39 13 = nI n by rw [up_c (by decide), e39, hn2], e_add, up_s]
      · have q : ∀ k, k ≠ 29 → k ≠ 0 → k ≠ 48 → k ≠ 39 → h2 k = h k := fun k a b c d => by
          show (up (up (up (up h 29 n (nI s)) 0 9 _) 48 n (nI s)) 39 13 _) k = _
          rw [up_c d, up_c c, up_c b, up_c a]
        have q39 : ∀ j, j ≠ 13 → h2 39 j = h 39 j := fun j a => by
          show (up (up (up (up h 29 n (nI s)) 0 9 _) 48 n (nI s)) 39 13 _) 39 j = _
          rw [up_n a, up_c (by decide), up_c (by decide), up_c (by decide)]
        refine INV.mono (c := c) ⟨hK, B, N, R, T, M, hT, hC.re (fun m hm => q _ ?_ ?_ ?_ ?_), hM.re (q 40 (by decide) (by decide) (by decide) (by decide)), ?_, ?_, ⟨k1, hU.re (q _ (by decide) (by decide) (by decide) (by decide)) (q _ (by decide) (by decide) (by decide) (by decide)) (q _ (by decide) (by decide) (by decide) (by decide)), by rw [q39 6 (by decide)]; exact hU'⟩, ⟨k2, hV.re (q _ (by decide) (by decide) (by decide) (by decide)) (q _ (by decide) (by decide) (by decide) (by decide)) (q _ (by decide) (by decide) (by decide) (by decide)), by rw [q39 8 (by decide)]; exact hV'⟩, hW.re (q _ (by decide) (by decide) (by decide) (by decide)) (q _ (by decide) (by decide) (by decide) (by decide)), ⟨n + 1, by omega, ?_, up_s, ?_⟩, hX.re (by rw [q 1 (by decide) (by decide) (by decide) (by decide)]) (q39 10 (by decide)) (q _ (by decide) (by decide) (by decide) (by decide)) (q _ (by decide) (by decide) (by decide) (by decide))⟩ (Nat.le_succ c)
        · have := hK.c; omega
        · have := hK.c; omega
        · have := hK.c; omega
        · have := hK.c; omega
        · rw [q 43 (by decide) (by decide) (by decide) (by decide)]; exact hS
        · rw [q 43 (by decide) (by decide) (by decide) (by decide), dv_re (fun k a b => q k (by omega) (by omega) (by omega) (by omega))]; exact hD
        · show (up (up (up (up h 29 n (nI s)) 0 9 _) 48 n (nI s)) 39 13 _) 0 9 = _
          rw [up_c (by decide), up_c (by decide), up_s]
        · intro j hj
          show (up (up (up (up h 29 n (nI s)) 0 9 _) 48 n (nI s)) 39 13 _) 29 j = (up (up (up (up h 29 n (nI s)) 0 9 _) 48 n (nI s)) 39 13 _) 48 j
          rw [up_c (by decide), up_c (by decide), up_c (by decide), up_c (k := 39) (q := 48) (by decide)]
          by_cases g : j = n
          · rw [g, up_s, up_s]
          · rw [up_n g, up_n g, up_c (k := 0) (q := 48) (by decide), up_c (k := 29) (q := 48) (by decide)]
            exact hn3 j (by omega)
  · refine Same.step ⟨-1, ?_, ?_⟩ i0
    · unfold f_X6_hear
      rw [X6_isSet_f F hC.1 hB8 hx, ob_eq, if_pos rfl]
    · unfold f_X7_hear
      rw [X7_isSet_f F hM.1 hB8 hx, ob_eq, if_pos rfl]
theorem op_forget {F c : Nat} {tw : TW} {h : HP} (i : INV c tw h) : Step (f_X6_forget F tw) (f_X7_forget F) c tw h := by
  obtain ⟨hK, B, N, R, T, M, hT, hC, hM, hS, hD, ⟨k1, hU, hU'⟩, ⟨k2, hV, hV'⟩, hW, ⟨n, hn8, hn1, hn2, hn3⟩, hX⟩ := i
  refine ⟨h 0 9, up h 0 9 (nI 0), up (up h 0 9 (nI 0)) 39 13 (nI 0), rfl, ?_, ?_⟩
  · unfold f_X7_forget
    rw [up_c (by decide), hn2, hn1]
  · have q : ∀ k, k ≠ 0 → k ≠ 39 → (up (up h 0 9 (nI 0)) 39 13 (nI 0)) k = h k := fun k a b => by rw [up_c b, up_c a]
    have q39 : ∀ j, j ≠ 13 → (up (up h 0 9 (nI 0)) 39 13 (nI 0)) 39 j = h 39 j := fun j a => by rw [up_n a, up_c (by decide)]
    refine INV.mono (c := c) ⟨hK, B, N, R, T, M, hT, hC.re (fun m hm => q _ ?_ ?_), hM.re (q 40 (by decide) (by decide)), ?_, ?_, ⟨k1, hU.re (q _ (by decide) (by decide)) (q _ (by decide) (by decide)) (q _ (by decide) (by decide)), by rw [q39 6 (by decide)]; exact hU'⟩, ⟨k2, hV.re (q _ (by decide) (by decide)) (q _ (by decide) (by decide)) (q _ (by decide) (by decide)), by rw [q39 8 (by decide)]; exact hV'⟩, hW.re (q _ (by decide) (by decide)) (q _ (by decide) (by decide)), ⟨0, by omega, by rw [up_c (by decide), up_s], up_s, fun j hj => by omega⟩, hX.re (by rw [q 1 (by decide) (by decide)]) (q39 10 (by decide)) (q _ (by decide) (by decide)) (q _ (by decide) (by decide))⟩ (Nat.le_succ c)
    · have := hK.c; omega
    · have := hK.c; omega
    · rw [q 43 (by decide) (by decide)]; exact hS
    · rw [q 43 (by decide) (by decide), dv_re (fun k a b => q k (by omega) (by omega))]; exact hD
theorem op_wipe {F c : Nat} {tw : TW} {h : HP} (i : INV c tw h) : Step (f_X6_wipe F tw) (f_X7_wipe F) c tw h := by
  obtain ⟨hK, B, N, R, T, M, hT, hC, hM, hS, hD, ⟨k1, hU, hU'⟩, ⟨k2, hV, hV'⟩, hW, hH, ⟨n, hn8, hn1, hn2, hn3⟩⟩ := i
  refine ⟨h 1 1, up h 1 1 (nI 0), up (up h 1 1 (nI 0)) 39 10 (nI 0), rfl, ?_, ?_⟩
  · unfold f_X7_wipe
    rw [up_c (by decide), hn2, hn1]
  · have q : ∀ k, k ≠ 1 → k ≠ 39 → (up (up h 1 1 (nI 0)) 39 10 (nI 0)) k = h k := fun k a b => by rw [up_c b, up_c a]
    have q39 : ∀ j, j ≠ 10 → (up (up h 1 1 (nI 0)) 39 10 (nI 0)) 39 j = h 39 j := fun j a => by rw [up_n a, up_c (by decide)]
    refine INV.mono (c := c) ⟨hK, B, N, R, T, M, hT, hC.re (fun m hm => q _ ?_ ?_), hM.re (q 40 (by decide) (by decide)), ?_, ?_, ⟨k1, hU.re (q _ (by decide) (by decide)) (q _ (by decide) (by decide)) (q _ (by decide) (by decide)), by rw [q39 6 (by decide)]; exact hU'⟩, ⟨k2, hV.re (q _ (by decide) (by decide)) (q _ (by decide) (by decide)) (q _ (by decide) (by decide)), by rw [q39 8 (by decide)]; exact hV'⟩, hW.re (q _ (by decide) (by decide)) (q _ (by decide) (by decide)), hH.re (by rw [q 0 (by decide) (by decide)]) (q39 13 (by decide)) (q _ (by decide) (by decide)) (q _ (by decide) (by decide)), ⟨0, by omega, by rw [up_c (by decide), up_s], up_s, fun j hj => by omega⟩⟩ (Nat.le_succ c)
    · have := hK.c; omega
    · have := hK.c; omega
    · rw [q 43 (by decide) (by decide)]; exact hS
    · rw [q 43 (by decide) (by decide), dv_re (fun k a b => q k (by omega) (by omega))]; exact hD
theorem op_write {F c : Nat} {tw : TW} {h : HP} (i : INV c tw h) (x : Int32) : Step (f_X6_write F tw x) (f_X7_write F x) c tw h := by
  have i0 := i
  obtain ⟨hK, B, N, R, T, M, hT, hC, hM, hS, hD, ⟨k1, hU, hU'⟩, ⟨k2, hV, hV'⟩, hW, hH, ⟨n, hn8, hn1, hn2, hn3⟩⟩ := i
  by_cases g1 : nI 32 ≤ x ∧ x ≤ nI 126
  · have hx : ∃ l, 32 ≤ l ∧ l ≤ 126 ∧ x = nI l := by
      rw [Int32.le_iff_toInt_le, Int32.le_iff_toInt_le, nI_toInt (by decide), nI_toInt (by decide)] at g1
      rcases cas x (n := 127) (by decide) with ⟨j, hj, e⟩ | hx
      · rw [e, nI_toInt (by rw [e31]; omega)] at g1
        exact ⟨j, by omega, by omega, e⟩
      · rcases hx with a | a
        · rw [Int32.lt_iff_toInt_lt, nI_toInt (by decide)] at a; omega
        · rw [Int32.le_iff_toInt_le, nI_toInt (by decide)] at a; omega
    obtain ⟨l, hl1, hl2, rfl⟩ := hx
    have ein : ∀ h : HP, f_X7_in F (nI l).toInt64 (lN 32) (lN 126) h = some (nI 1, h) := fun h => by rw [l64 (by decide), l64 (by decide), in_t h hl1 hl2 (by decide)]
    by_cases g : n = 200
    · refine Same.step ⟨-3, ?_, ?_⟩ i0
      · unfold f_X6_write f_X4_append
        rw [if_neg (by rw [e_lt (by omega) (by decide)]; omega), if_pos (by rw [e_le (by omega) (by decide)]; omega), hn1, if_neg (by rw [e_lt (by omega) (by decide)]; omega), ob_eq, if_pos rfl]
      · unfold f_X7_write
        rw [ein, ob_eq, if_neg n10, hn2, if_pos (by rw [g])]
    · let h1 := up (up h 2 n (nI l)) 1 1 (nI (n + 1))
      let h2 := up (up h1 46 n (nI l)) 39 10 (nI (n + 1))
      refine ⟨nI (n + 1), h1, h2, ?_, ?_, ?_⟩
      · unfold f_X6_write f_X4_append
        rw [if_neg (by rw [e_lt (by omega) (by decide)]; omega), if_pos (by rw [e_le (by omega) (by decide)]; omega), hn1, if_pos (by rw [e_lt (by omega) (by decide)]; omega), if_pos (inb_t (by omega) (by decide)), e_ix (by omega), show (up h 2 n (nI l)) 1 1 = nI n by rw [up_c (by decide), hn1], e_add, ob_eq, if_neg n10, up_s]
      · have e39 : h1 39 = h 39 := by show (up (up h 2 n (nI l)) 1 1 _) 39 = _; rw [up_c (by decide), up_c (by decide)]
        unfold f_X7_write
        rw [ein, ob_eq, if_neg n10, e39, hn2, if_neg (by rw [e_eq (by omega) (by decide)]; omega), if_pos (inb_t (by omega) (by decide)), e_ix (by omega), show (up h1 46 n (nI l)) 39 10 = nI n by rw [up_c (by decide), e39, hn2], e_add, up_s]
      · have q : ∀ k, k ≠ 2 → k ≠ 1 → k ≠ 46 → k ≠ 39 → h2 k = h k := fun k a b c d => by
          show (up (up (up (up h 2 n (nI l)) 1 1 _) 46 n (nI l)) 39 10 _) k = _
          rw [up_c d, up_c c, up_c b, up_c a]
        have q39 : ∀ j, j ≠ 10 → h2 39 j = h 39 j := fun j a => by
          show (up (up (up (up h 2 n (nI l)) 1 1 _) 46 n (nI l)) 39 10 _) 39 j = _
          rw [up_n a, up_c (by decide), up_c (by decide), up_c (by decide)]
        refine INV.mono (c := c) ⟨hK, B, N, R, T, M, hT, hC.re (fun m hm => q _ ?_ ?_ ?_ ?_), hM.re (q 40 (by decide) (by decide) (by decide) (by decide)), ?_, ?_, ⟨k1, hU.re (q _ (by decide) (by decide) (by decide) (by decide)) (q _ (by decide) (by decide) (by decide) (by decide)) (q _ (by decide) (by decide) (by decide) (by decide)), by rw [q39 6 (by decide)]; exact hU'⟩, ⟨k2, hV.re (q _ (by decide) (by decide) (by decide) (by decide)) (q _ (by decide) (by decide) (by decide) (by decide)) (q _ (by decide) (by decide) (by decide) (by decide)), by rw [q39 8 (by decide)]; exact hV'⟩, hW.re (q _ (by decide) (by decide) (by decide) (by decide)) (q _ (by decide) (by decide) (by decide) (by decide)), hH.re (by rw [q 0 (by decide) (by decide) (by decide) (by decide)]) (q39 13 (by decide)) (q _ (by decide) (by decide) (by decide) (by decide)) (q _ (by decide) (by decide) (by decide) (by decide)), ⟨n + 1, by omega, ?_, up_s, ?_⟩⟩ (Nat.le_succ c)
        · have := hK.c; omega
        · have := hK.c; omega
        · have := hK.c; omega
        · have := hK.c; omega
        · rw [q 43 (by decide) (by decide) (by decide) (by decide)]; exact hS
        · rw [q 43 (by decide) (by decide) (by decide) (by decide), dv_re (fun k a b => q k (by omega) (by omega) (by omega) (by omega))]; exact hD
        · show (up (up (up (up h 2 n (nI l)) 1 1 _) 46 n (nI l)) 39 10 _) 1 1 = _
          rw [up_c (by decide), up_c (by decide), up_s]
        · intro j hj
          have a2 : h2 2 j = if j = n then nI l else h 2 j := by
            show (up (up (up (up h 2 n (nI l)) 1 1 _) 46 n (nI l)) 39 10 _) 2 j = _
            rw [up_c (by decide), up_c (by decide), up_c (by decide)]
            by_cases g : j = n
            · rw [g, up_s, if_pos rfl]
            · rw [up_n g, if_neg g]
          have a46 : h2 46 j = if j = n then nI l else h 46 j := by
            show (up (up (up (up h 2 n (nI l)) 1 1 _) 46 n (nI l)) 39 10 _) 46 j = _
            rw [up_c (by decide)]
            by_cases g : j = n
            · rw [g, up_s, if_pos rfl]
            · rw [up_n g, if_neg g, up_c (by decide), up_c (by decide)]
          rw [a2, a46]
          by_cases g : j = n
          · rw [if_pos g, if_pos g]; exact ⟨rfl, l, hl1, hl2, rfl⟩
          · rw [if_neg g, if_neg g]; exact hn3 j (by omega)
  · refine Same.step ⟨-1, ?_, ?_⟩ i0
    · unfold f_X6_write
      by_cases a : x < nI 32
      · rw [if_pos a]
      · rw [if_neg a, if_neg (fun b => g1 ⟨by rw [Int32.lt_iff_toInt_lt] at a; rw [Int32.le_iff_toInt_le]; omega, b⟩)]
    · unfold f_X7_write
      rw [l64 (by decide), l64 (by decide), in_spec, if_neg g1, ob_eq, if_pos rfl]
/-- stood -/
def stq (h : HP) (N r i : Nat) : Bool := decide (h 43 (2 + (r + i) % N) = h 48 i)
def stf (Q : Nat → Bool) : Nat → Nat → Int32 → Int32
  | 0, _, a => a
  | k + 1, i, a => stf Q k (i + 1) (if Q i then a ||| jshl (nI 1) (nI i) else a)
theorem X6_heard_loop {F : Nat} {tw : TW} {N n r : Nat} {h : HP} (hN : h tw.1 4 = nI N) (h0 : 0 < N) (hb : N ≤ 32) (hr : r < N) (hn : n ≤ 8) (h9 : h 0 9 = nI n) (hp : ∀ q, q < 32 → h 15 q = h 43 (2 + q)) (he : ∀ i, i < n → h 29 i = h 48 i) :
    ∀ (k i m : Nat), i + k = n → k < m → f_X6_isHeardFrom_2 F tw (nI r) m (nI i) h = some (bI (allr (stq h N r) i k), h) := by
  intro k
  induction k with
  | zero =>
    intro i m hi hm
    obtain ⟨m, rfl⟩ := succ_of hm
    rw [f_X6_isHeardFrom_2, h9, if_pos (by rw [e_le (by omega) (by omega)]; omega)]
    rfl
  | succ k ih =>
    intro i m hi hm
    obtain ⟨m, rfl⟩ := succ_of hm
    have hlt : (r + i) % N < N := Nat.mod_lt _ h0
    rw [f_X6_isHeardFrom_2, h9, if_neg (by rw [e_le (by omega) (by omega)]; omega), rowBehind_n F hN h0 (by omega) (by omega), ob_eq, if_pos (inb_t (by omega) (by decide)), if_pos (inb_t (by omega) (by decide)), e_ix (by omega), e_ix (by omega), hp _ (by omega), he i (by omega)]
    show _ = some (bI (decide (h 43 (2 + (r + i) % N) = h 48 i) && allr _ (i + 1) k), h)
    by_cases g : h 43 (2 + (r + i) % N) = h 48 i
    · rw [if_pos g, e_add, ih (i + 1) m (by omega) (by omega), decide_eq_true g, Bool.true_and]
    · rw [if_neg g, decide_eq_false g]
      rfl
theorem X7_heard_loop {F : Nat} {N n r : Nat} {x1 : Int32} {k4 : Int32 → Int32 → HP → Option (Int32 × HP)} {h : HP} (hN : h 40 1 = nI N) (h0 : 0 < N) (hb : N ≤ 32) (hr : r < N) (hn : n ≤ 8) (h9 : h 39 13 = nI n) :
    ∀ (k i m : Nat) (d : Bool), i + k = n → k < m → f_X7_stood_19 F k4 m x1 (nI r) (bI d) (nI i) h = k4 (if d && allr (stq h N r) i k then x1 ||| jshl (nI 1) (nI r) else x1) (nI (r + 1)) h := by
  intro k
  induction k with
  | zero =>
    intro i m d hi hm
    obtain ⟨m, rfl⟩ := succ_of hm
    rw [f_X7_stood_19, h9, if_pos (by rw [e_le (by omega) (by omega)]; omega), e_add]
    cases d with
    | false =>
      rw [bI_f, if_pos rfl]
      show k4 (x1 ||| nI 0) _ _ = k4 x1 _ _
      rw [nI_0, Int32.or_zero]
    | true =>
      rw [bI_t, if_neg n10]
      rfl
  | succ k ih =>
    intro i m d hi hm
    obtain ⟨m, rfl⟩ := succ_of hm
    have hlt : (r + i) % N < N := Nat.mod_lt _ h0
    rw [f_X7_stood_19, h9, if_neg (by rw [e_le (by omega) (by omega)]; omega)]
    cases d with
    | false =>
      rw [bI_f, if_pos rfl, e_add, show nI 0 = bI false from rfl, ih (i + 1) m false (by omega) (by omega)]
      rfl
    | true =>
      rw [bI_t, if_neg n10, hN, if_pos (by rw [Ne, e_eq (by omega) (by decide)]; omega), e_add, jrem_n (by omega) h0 (by omega), e_add, if_pos (inb_t (by omega) (by decide)), if_pos (inb_t (by omega) (by decide)), e_ix (by omega), e_ix (by omega), e_add]
      have e : (if h 43 (2 + (r + i) % N) = h 48 i then nI 1 else nI 0) = bI (stq h N r i) := by
        unfold stq
        by_cases g : h 43 (2 + (r + i) % N) = h 48 i
        · rw [if_pos g, decide_eq_true g]; rfl
        · rw [if_neg g, decide_eq_false g]; rfl
      rw [e, ih (i + 1) m _ (by omega) (by omega), Bool.true_and]
      rfl
theorem op_stood {F c : Nat} (hF : 600 ≤ F) {tw : TW} {h : HP} (i : INV c tw h) : Same (f_X6_stood F tw) (f_X7_stood F) h := by
  obtain ⟨-, B, N, R, T, M, ⟨hB1, hB8, hN2, hN32, hR6, hTM⟩, hC, hM, hS, hD, -, -, -, ⟨n, hn8, hn1, hn2, hn3⟩, -⟩ := i
  have a1 : ∀ (k i m : Nat) (a : Int32), i + k = N → k < m → f_X6_stood_4 F tw m a (nI i) h = some (stf (fun r => allr (stq h N r) 0 n) k i a, h) := by
    intro k
    induction k with
    | zero =>
      intro i m a hi hm
      obtain ⟨m, rfl⟩ := succ_of hm
      rw [f_X6_stood_4, hC.2.1, if_pos (by rw [e_le (by omega) (by omega)]; omega)]
      rfl
    | succ k ih =>
      intro i m a hi hm
      obtain ⟨m, rfl⟩ := succ_of hm
      rw [f_X6_stood_4, hC.2.1, if_neg (by rw [e_le (by omega) (by omega)]; omega), f_X6_isHeardFrom, X6_heard_loop hC.2.1 (by omega) hN32 (by omega) hn8 hn1 (fun q hq => pin_of hD hq) hn3 n 0 F (by omega) (by omega), ob_eq, e_add, ih (i + 1) m _ (by omega) (by omega)]
      show _ = some (stf _ k (i + 1) (if allr (stq h N i) 0 n = true then a ||| jshl (nI 1) (nI i) else a), h)
      cases allr (stq h N i) 0 n with
      | false => rw [bI_f, if_pos rfl]; simp
      | true => rw [bI_t, if_neg n10]; simp
  have a2 : ∀ (k i m : Nat) (a : Int32), i + k = N → k < m → f_X7_stood_4 F m a (nI i) h = some (stf (fun r => allr (stq h N r) 0 n) k i a, h) := by
    intro k
    induction k with
    | zero =>
      intro i m a hi hm
      obtain ⟨m, rfl⟩ := succ_of hm
      rw [f_X7_stood_4, hM.2.1, if_pos (by rw [e_le (by omega) (by omega)]; omega)]
      rfl
    | succ k ih =>
      intro i m a hi hm
      obtain ⟨m, rfl⟩ := succ_of hm
      rw [f_X7_stood_4, hM.2.1, if_neg (by rw [e_le (by omega) (by omega)]; omega), show nI 1 = bI true from rfl, X7_heard_loop hM.2.1 (by omega) hN32 (by omega) hn8 hn2 n 0 F true (by omega) (by omega), ih (i + 1) m _ (by omega) (by omega), Bool.true_and]
      rfl
  exact ⟨_, a1 N 0 F (nI 0) (by omega) (by omega), a2 N 0 F (nI 0) (by omega) (by omega)⟩
end
section
/-! ===== octaves, melody, harsh, canon ===== -/
theorem bn_tb (s i : Nat) : bn s i = (s.testBit i).toNat := by
  unfold bn
  rw [Nat.testBit_eq_decide_div_mod_eq]
  have := Nat.mod_lt (s / 2 ^ i) (show 2 > 0 by decide)
  by_cases g : s / 2 ^ i % 2 = 1
  · rw [decide_eq_true g, g]; rfl
  · rw [decide_eq_false g]
    show s / 2 ^ i % 2 = 0
    omega
theorem bn_or (a b i : Nat) : bn (a ||| b) i = max (bn a i) (bn b i) := by
  rw [bn_tb, bn_tb, bn_tb, Nat.testBit_or]
  cases a.testBit i <;> cases b.testBit i <;> rfl
theorem bn_and (a b i : Nat) : bn (a &&& b) i = bn a i * bn b i := by
  rw [bn_tb, bn_tb, bn_tb, Nat.testBit_and]
  cases a.testBit i <;> cases b.testBit i <;> rfl
theorem bn_pow (j i : Nat) : bn (2 ^ j) i = if i = j then 1 else 0 := by
  rw [bn_tb, Nat.testBit_two_pow]
  by_cases g : i = j
  · rw [if_pos g, decide_eq_true g.symm]; rfl
  · rw [if_neg g, decide_eq_false (fun z => g z.symm)]; rfl
theorem bn_big {s n i : Nat} (h : s < 2 ^ n) (hi : n ≤ i) : bn s i = 0 := by
  unfold bn
  rw [Nat.div_eq_of_lt (Nat.lt_of_lt_of_le h (Nat.pow_le_pow_right (by decide) hi))]
/-- how many of the bells from b on have the tone -/
def tcn (T : Nat → Nat) (t : Nat) (b k : Nat) : Nat := sg (fun j => if T j % 12 = t then 1 else 0) b k
theorem X6_oct_loop {F : Nat} {tw : TW} {B : Nat} {T : Nat → Nat} {h : HP} (hB : h tw.1 0 = nI B) (hb : B ≤ 8) (hT : ∀ b, b < B → h (tw.1 + 1) b = nI (T b) ∧ T b ≤ 40) :
    ∀ (k b n o m : Nat) (c : Nat → Nat), b + k = B → k < n → o < 4096 → m < 4096 → (∀ t, t < 12 → bn o t = (if c t = 0 then 0 else 1) ∧ bn m t = if c t ≤ 1 then 0 else 1) →
      f_X6_octaves_6 F tw n (nI o) (nI m) (nI b) h = some (nI (sg (fun t => if c t + tcn T t b k ≤ 1 then 0 else 1) 0 12), h) := by
  intro k
  induction k with
  | zero =>
    intro b n o m c hi hn ho hm hc
    obtain ⟨n, rfl⟩ := succ_of hn
    rw [f_X6_octaves_6, hB, if_pos (by rw [e_le (by omega) (by omega)]; omega), bc12_spec F hm, ob_eq]
    have : popc12 m = sg (fun t => if c t + tcn T t b 0 ≤ 1 then 0 else 1) 0 12 := sg_congr (fun t _ ht => by
      rw [(hc t (by omega)).2]
      rfl)
    rw [this]
  | succ k ih =>
    intro b n o m c hi hn ho hm hc
    obtain ⟨n, rfl⟩ := succ_of hn
    obtain ⟨t1, t2⟩ := hT b (by omega)
    have hlt : T b % 12 < 12 := Nat.mod_lt _ (by decide)
    have hpw : 2 ^ (T b % 12) < 2 ^ 12 := Nat.pow_lt_pow_right (by decide) hlt
    have hor : o ||| 2 ^ (T b % 12) < 2 ^ 12 := Nat.or_lt_two_pow ho hpw
    have hmr : m ||| (o &&& 2 ^ (T b % 12)) < 2 ^ 12 := Nat.or_lt_two_pow hm (Nat.and_lt_two_pow _ hpw)
    rw [f_X6_octaves_6, hB, if_neg (by rw [e_le (by omega) (by omega)]; omega), if_pos (inb_t (by omega) (by decide)), e_ix (by omega), t1, jrem_n (by omega) (by decide) (by decide), e_one (by omega), e_or, e_and, e_or, e_add, ih (b + 1) n _ _ (fun t => c t + if T b % 12 = t then 1 else 0) (by omega) (by omega) hor hmr ?_]
    · congr 2
      refine congrArg nI (sg_congr (fun t _ _ => ?_))
      show (if c t + (if T b % 12 = t then 1 else 0) + tcn T t (b + 1) k ≤ 1 then 0 else 1) = if c t + ((if T b % 12 = t then 1 else 0) + tcn T t (b + 1) k) ≤ 1 then 0 else 1
      rw [Nat.add_assoc]
    · intro t ht
      obtain ⟨c1, c2⟩ := hc t ht
      rw [bn_or, bn_or, bn_and, bn_pow, c1, c2]
      by_cases g : T b % 12 = t
      · have g' : t = T b % 12 := g.symm
        simp only [if_pos g, if_pos g', Nat.mul_one]
        constructor <;> (repeat' split) <;> first | omega | (simp; omega) | simp
      · have g' : ¬ t = T b % 12 := fun z => g z.symm
        simp only [if_neg g, if_neg g', Nat.mul_zero, Nat.add_zero, Nat.max_zero]
        exact ⟨trivial, trivial⟩
theorem X7_oct_in {F : Nat} {B t : Nat} {x1 : Int32} {k4 : Int32 → Int32 → HP → Option (Int32 × HP)} {T : Nat → Nat} {h : HP} (hB : h 40 0 = nI B) (hb : B ≤ 8) (ht : t < 12) (hT : ∀ b, b < B → h 40 (3 + b) = nI (T b) ∧ T b ≤ 40) :
    ∀ (k b n acc : Nat), b + k = B → k < n → acc + k < 100 → f_X7_octaves_15 F k4 n x1 (nI t) (nI acc) (nI b) h = k4 (x1 + (if acc + tcn T t b k ≤ 1 then nI 0 else nI 1)) (nI (t + 1)) h := by
  intro k
  induction k with
  | zero =>
    intro b n acc hi hn ha
    obtain ⟨n, rfl⟩ := succ_of hn
    rw [f_X7_octaves_15, hB, if_pos (by rw [e_le (by omega) (by omega)]; omega), i_le (by omega) (by decide), e_add]
    rfl
  | succ k ih =>
    intro b n acc hi hn ha
    obtain ⟨n, rfl⟩ := succ_of hn
    obtain ⟨t1, t2⟩ := hT b (by omega)
    have hlt : T b % 12 < 12 := Nat.mod_lt _ (by decide)
    rw [f_X7_octaves_15, hB, if_neg (by rw [e_le (by omega) (by omega)]; omega), e_add, if_pos (inb_t (by omega) (by decide)), e_ix (by omega), t1, jrem_n (by omega) (by decide) (by decide), i_eq (by omega) (by omega), ite_n, e_add, e_add, ih (b + 1) n _ (by omega) (by omega) (by split <;> omega), Nat.add_assoc]
    rfl
theorem op_octaves {F c : Nat} (hF : 600 ≤ F) {tw : TW} {h : HP} (i : INV c tw h) : Same (f_X6_octaves F tw) (f_X7_octaves F) h := by
  obtain ⟨-, B, N, R, T, M, ⟨hB1, hB8, hN2, hN32, hR6, hTM⟩, hC, hM, -⟩ := i
  have a2 : ∀ (k t n acc : Nat), t + k = 12 → k < n → f_X7_octaves_4 F n (nI acc) (nI t) h = some (nI (acc + sg (fun t => if tcn T t 0 B ≤ 1 then 0 else 1) t k), h) := by
    intro k
    induction k with
    | zero =>
      intro t n acc hi hn
      obtain ⟨n, rfl⟩ := succ_of hn
      rw [f_X7_octaves_4, if_pos (by rw [e_le (by decide) (by omega)]; omega)]
      rfl
    | succ k ih =>
      intro t n acc hi hn
      obtain ⟨n, rfl⟩ := succ_of hn
      rw [f_X7_octaves_4, if_neg (by rw [e_le (by decide) (by omega)]; omega), X7_oct_in hM.1 hB8 (by omega) (fun b hb => ⟨(hM.2.2.2 b hb).1, (hTM b hb).1⟩) B 0 F 0 (by omega) (by omega) (by omega), Nat.zero_add, ite_n, e_add, ih (t + 1) n _ (by omega) (by omega), Nat.add_assoc]
      rfl
  refine ⟨nI (sg (fun t => if tcn T t 0 B ≤ 1 then 0 else 1) 0 12), ?_, ?_⟩
  · unfold f_X6_octaves
    rw [X6_oct_loop hC.1 hB8 (fun b hb => ⟨(hC.2.2.2 b hb).1, (hTM b hb).1⟩) B 0 F 0 0 (fun _ => 0) (by omega) (by omega) (by decide) (by decide) (fun t _ => by unfold bn; simp)]
    simp only [Nat.zero_add]
  · unfold f_X7_octaves
    rw [a2 12 0 F 0 (by omega) (by omega), Nat.zero_add]
/-- the highest tone of a set: bells from b on -/
def mxo (o : Option Nat) (t : Nat) : Nat := match o with
  | none => t
  | some v => max v t
def hif (T : Nat → Nat) (s : Nat) : Nat → Nat → Option Nat → Option Nat
  | 0, _, o => o
  | k + 1, b, o => hif T s k (b + 1) (if bn s b = 1 then some (mxo o (T b)) else o)
def oN (d : Int32) (o : Option Nat) : Int32 := match o with
  | none => d
  | some v => nI v
theorem m4_lt {a : Nat} (h : a < 2147483648) : (-4 : Int32) < nI a := by
  rw [Int32.lt_iff_toInt_lt, nI_toInt (by rw [e31]; exact h)]
  have : (-4 : Int32).toInt = -4 := by decide
  omega
theorem m4_ne {a : Nat} (h : a < 2147483648) : ¬ nI a = -4 := fun e => by
  have := m4_lt h
  rw [e] at this
  exact absurd this (by decide)
theorem m1_nle {a : Nat} (h : a < 2147483648) : ¬ nI a ≤ (-1 : Int32) := by
  rw [Int32.le_iff_toInt_le, nI_toInt (by rw [e31]; exact h)]
  have : (-1 : Int32).toInt = -1 := by decide
  omega
def oB (o : Option Nat) : Prop := ∀ v, o = some v → v ≤ 40
theorem hif_B {T : Nat → Nat} {s B : Nat} (hT : ∀ b, b < B → T b ≤ 40) : ∀ (k b : Nat) (o : Option Nat), b + k = B → oB o → oB (hif T s k b o) := by
  intro k
  induction k with
  | zero => intro b o _ ho; exact ho
  | succ k ih =>
    intro b o hb ho
    refine ih (b + 1) _ (by omega) ?_
    split
    · intro v hv
      have := hT b (by omega)
      cases o with
      | none => cases hv; exact this
      | some w => cases hv; have := ho w rfl; exact Nat.max_le.mpr ⟨this, by omega⟩
    · exact ho
theorem X5_high_loop {F : Nat} {t B s : Nat} {T : Nat → Nat} {h : HP} (hB : h t 0 = nI B) (hb : B ≤ 8) (hs : s < 256) (hT : ∀ b, b < B → h (t + 1) b = nI (T b) ∧ T b ≤ 40) :
    ∀ (k b n : Nat) (o : Option Nat), b + k = B → k < n → oB o → f_X5_highestTone_5 F t (nI s) n (oN (-4) o) (nI b) h = some (oN (-4) (hif T s k b o), h) := by
  intro k
  induction k with
  | zero =>
    intro b n o hi hn ho
    obtain ⟨n, rfl⟩ := succ_of hn
    rw [f_X5_highestTone_5, hB, if_pos (by rw [e_le (by omega) (by omega)]; omega)]
    rfl
  | succ k ih =>
    intro b n o hi hn ho
    obtain ⟨n, rfl⟩ := succ_of hn
    obtain ⟨t1, t2⟩ := hT b (by omega)
    have hbn := bn_lt s b
    rw [f_X5_highestTone_5, hB, if_neg (by rw [e_le (by omega) (by omega)]; omega), e_bit (by omega) (by omega), i_eq (by omega) (by decide), e_add]
    show _ = some (oN (-4) (hif T s k (b + 1) (if bn s b = 1 then some (mxo o (T b)) else o)), h)
    by_cases g : bn s b = 1
    · rw [if_pos g, if_pos (inb_t (by omega) (by decide)), e_ix (by omega), t1, if_pos g]
      cases o with
      | none =>
        unfold f_J9_max_7cf53
        rw [if_pos (show oN (-4) none < nI (T b) from m4_lt (by omega)), ob_eq]
        exact ih (b + 1) n (some (T b)) (by omega) (by omega) (fun v hv => by cases hv; exact t2)
      | some w =>
        have hw := ho w rfl
        rw [show oN (-4) (some w) = nI w from rfl, max_n F (by omega) (by omega), ob_eq]
        exact ih (b + 1) n (some (max w (T b))) (by omega) (by omega) (fun v hv => by cases hv; exact Nat.max_le.mpr ⟨hw, t2⟩)
    · rw [if_neg g, if_neg g]
      exact ih (b + 1) n o (by omega) (by omega) ho
/-- one row of the melody: rises, falls, the most, the tone ahead -/
def mst (o : Option Nat) (q : Nat × Nat × Nat × Option Nat) : Nat × Nat × Nat × Option Nat := match o with
  | none => q
  | some v => match q.2.2.2 with
    | none => (q.1, q.2.1, q.2.2.1, some v)
    | some a => (q.1 + (if v ≤ a then 0 else 1), q.2.1 + (if a ≤ v then 0 else 1), max q.2.2.1 (if a ≤ v then v - a else a - v), some v)
def mlf (H : Nat → Option Nat) : Nat → Nat → Nat × Nat × Nat × Option Nat → Nat × Nat × Nat × Option Nat
  | 0, _, q => q
  | k + 1, r, q => mlf H k (r + 1) (mst (H r) q)
theorem nsub_neg {v a : Nat} (h : v < a) (ha : a < 1073741824) : ¬ nI 0 ≤ nI v - nI a := by
  have := pk_sneg (a := v) (b := a) (by omega) h
  rw [nI_0]
  rw [Int32.lt_iff_toInt_lt] at this
  rw [Int32.le_iff_toInt_le]
  omega
theorem neg_nsub {v a : Nat} (h : v ≤ a) : -(nI v - nI a) = nI (a - v) := by
  rw [← e_sub h]
  exact Int32.neg_sub
theorem abs_n (F : Nat) {v a : Nat} (hv : v < 1073741824) (ha : a < 1073741824) (h : HP) : f_J9_abs_0f7a4 F (nI v - nI a) h = some (nI (if a ≤ v then v - a else a - v), h) := by
  unfold f_J9_abs_0f7a4
  by_cases g : a ≤ v
  · rw [e_sub g, if_pos (by rw [e_le (by decide) (by omega)]; omega), if_pos g]
  · rw [if_neg (nsub_neg (by omega) ha), if_neg g, neg_nsub (by omega)]
theorem X6_mel_loop {F : Nat} (hF : 600 ≤ F) {tw : TW} {N B j : Nat} {T p : Nat → Nat} {h : HP} (hj : j < 3) (hN : h tw.1 4 = nI N) (hb32 : N ≤ 32) (hB : h tw.1 0 = nI B) (hb : B ≤ 8) (hT : ∀ b, b < B → h (tw.1 + 1) b = nI (T b) ∧ T b ≤ 40) (hp : ∀ r, r < 32 → h 15 r = nI (p r) ∧ p r < 256) :
    ∀ (k r n : Nat) (q : Nat × Nat × Nat × Option Nat), r + k = N → k < n → q.1 + k ≤ 100 → q.2.1 + k ≤ 100 → q.2.2.1 ≤ 40 → oB q.2.2.2 →
      f_X6_melody_25 F tw (nI j) n (nI q.1) (nI q.2.1) (nI q.2.2.1) (oN (-4) q.2.2.2) (nI r) h = some (nI (if j = 0 then (mlf (fun r => hif T (p r) B 0 none) k r q).1 else if j = 1 then (mlf (fun r => hif T (p r) B 0 none) k r q).2.1 else (mlf (fun r => hif T (p r) B 0 none) k r q).2.2.1), h) := by
  intro k
  induction k with
  | zero =>
    intro r n q hi hn h1 h2 h3 h4
    obtain ⟨n, rfl⟩ := succ_of hn
    rw [f_X6_melody_25, hN, if_pos (by rw [e_le (by omega) (by omega)]; omega), i_eq (by omega) (by decide), i_eq (by omega) (by decide)]
    show _ = some (nI (if j = 0 then q.1 else if j = 1 then q.2.1 else q.2.2.1), h)
    by_cases g0 : j = 0
    · rw [if_pos g0, if_pos g0]
    · rw [if_neg g0, if_neg g0]
      by_cases g1 : j = 1
      · rw [if_pos g1, if_pos g1]
      · rw [if_neg g1, if_neg g1]
  | succ k ih =>
    intro r n q hi hn h1 h2 h3 h4
    obtain ⟨n, rfl⟩ := succ_of hn
    obtain ⟨p1, p2⟩ := hp r (by omega)
    have hob := hif_B (s := p r) (fun b hb => (hT b hb).2) B 0 none (by omega) (fun v hv => by cases hv)
    rw [f_X6_melody_25, hN, if_neg (by rw [e_le (by omega) (by omega)]; omega), if_pos (inb_t (by omega) (by decide)), e_ix (by omega), p1, f_X5_highestTone, show (-4 : Int32) = oN (-4) none from rfl, X5_high_loop hB hb p2 hT B 0 F none (by omega) (by omega) (fun v hv => by cases hv), ob_eq, show oN (-4) none = (-4 : Int32) from rfl]
    have hm : mlf (fun r => hif T (p r) B 0 none) (k + 1) r q = mlf (fun r => hif T (p r) B 0 none) k (r + 1) (mst (hif T (p r) B 0 none) q) := rfl
    rw [hm]
    cases ho : hif T (p r) B 0 none with
    | none =>
      rw [show oN (-4) none = (-4 : Int32) from rfl, if_pos rfl, f_X6_melody_115, if_pos rfl, e_add]
      exact ih (r + 1) n q (by omega) (by omega) (by omega) (by omega) h3 h4
    | some v =>
      have hv := hob v ho
      rw [show oN (-4) (some v) = nI v from rfl, if_neg (m4_ne (by omega))]
      cases ha : q.2.2.2 with
      | none =>
        rw [show oN (-4) none = (-4 : Int32) from rfl, if_pos rfl, f_X6_melody_115, if_neg (m4_ne (by omega)), e_add]
        have hs : mst (some v) q = (q.1, q.2.1, q.2.2.1, some v) := by show (match q.2.2.2 with | none => _ | some a => _) = _; rw [ha]
        rw [hs]
        exact ih (r + 1) n (q.1, q.2.1, q.2.2.1, some v) (by omega) (by omega) (by show q.1 + k ≤ 100; omega) (by show q.2.1 + k ≤ 100; omega) h3 (fun w hw => by cases hw; exact hv)
      | some a =>
        have hA := h4 a ha
        rw [show oN (-4) (some a) = nI a from rfl, if_neg (m4_ne (by omega)), abs_n F (by omega) (by omega), ob_eq, max_n F (by omega) (by split <;> omega), ob_eq, i_le (by omega) (by omega), i_le (by omega) (by omega), ite_n, ite_n, e_add, e_add, f_X6_melody_115, if_neg (m4_ne (by omega)), e_add]
        have hs : mst (some v) q = (q.1 + (if v ≤ a then 0 else 1), q.2.1 + (if a ≤ v then 0 else 1), max q.2.2.1 (if a ≤ v then v - a else a - v), some v) := by show (match q.2.2.2 with | none => _ | some a => _) = _; rw [ha]
        rw [hs]
        refine ih (r + 1) n (q.1 + (if v ≤ a then 0 else 1), q.2.1 + (if a ≤ v then 0 else 1), max q.2.2.1 (if a ≤ v then v - a else a - v), some v) (by omega) (by omega) ?_ ?_ ?_ (fun w hw => by cases hw; exact hv)
        · show q.1 + (if v ≤ a then 0 else 1) + k ≤ 100
          split <;> omega
        · show q.2.1 + (if a ≤ v then 0 else 1) + k ≤ 100
          split <;> omega
        · show max q.2.2.1 (if a ≤ v then v - a else a - v) ≤ 40
          refine Nat.max_le.mpr ⟨h3, ?_⟩
          split <;> omega
theorem X7_mel_loop {F : Nat} (hF : 600 ≤ F) {N B j : Nat} {T p : Nat → Nat} {h : HP} (hj : j < 3) (hN : h 40 1 = nI N) (hb32 : N ≤ 32) (hB : h 40 0 = nI B) (hb : B ≤ 8) (hT : ∀ b, b < B → h 40 (3 + b) = nI (T b) ∧ T b ≤ 40) (hp : ∀ r, r < 32 → h 43 (2 + r) = nI (p r) ∧ p r < 256) :
    ∀ (k r n : Nat) (q : Nat × Nat × Nat × Option Nat), r + k = N → k < n → q.1 + k ≤ 100 → q.2.1 + k ≤ 100 → q.2.2.1 ≤ 40 → oB q.2.2.2 →
      f_X7_melody_27 F (nI j) n (nI q.1) (nI q.2.1) (nI q.2.2.1) (oN (-1) q.2.2.2) (nI r) h = some (nI (if j = 0 then (mlf (fun r => hif T (p r) B 0 none) k r q).1 else if j = 1 then (mlf (fun r => hif T (p r) B 0 none) k r q).2.1 else (mlf (fun r => hif T (p r) B 0 none) k r q).2.2.1), h) := by
  have m1lt : ((-1 : Int32) < nI 0) := by decide
  have inner : ∀ (r : Nat), r < 32 → ∀ (k27 : Int32 → Int32 → Int32 → Int32 → Int32 → HP → Option (Int32 × HP)) (x2 x3 x4 x5 : Int32) (k b n : Nat) (o : Option Nat), b + k = B → k < n → oB o →
      f_X7_melody_44 F (nI j) k27 n x2 x3 x4 x5 (nI r) (oN (-1) o) (nI b) h = f_X7_melody_44 F (nI j) k27 1 x2 x3 x4 x5 (nI r) (oN (-1) (hif T (p r) k b o)) (nI B) h := by
    intro r hr k27 x2 x3 x4 x5 k
    obtain ⟨p1, p2⟩ := hp r hr
    induction k with
    | zero =>
      intro b n o hi hn ho
      obtain ⟨n, rfl⟩ := succ_of hn
      obtain rfl : b = B := by omega
      rw [f_X7_melody_44, f_X7_melody_44, hB, if_pos (Int32.le_refl (nI b)), if_pos (Int32.le_refl (nI b))]
      rfl
    | succ k ih =>
      intro b n o hi hn ho
      obtain ⟨n, rfl⟩ := succ_of hn
      obtain ⟨t1, t2⟩ := hT b (by omega)
      have hbn := bn_lt (p r) b
      have hh : hif T (p r) (k + 1) b o = hif T (p r) k (b + 1) (if bn (p r) b = 1 then some (mxo o (T b)) else o) := rfl
      rw [hh, f_X7_melody_44, hB, if_neg (by rw [e_le (by omega) (by omega)]; omega), e_add, if_pos (inb_t (by omega) (by decide)), e_ix (by omega), p1, has_n F p2 (by omega), ob_eq, i_eq (by omega) (by decide), e_add]
      by_cases g : bn (p r) b = 1
      · rw [if_neg (show ¬ bn (p r) b = 0 by omega), if_pos g, e_add, if_pos (inb_t (by omega) (by decide)), e_ix (by omega), t1]
        cases o with
        | none =>
          rw [show oN (-1) none = (-1 : Int32) from rfl, if_neg (m1_nle (by omega))]
          exact ih (b + 1) n (some (T b)) (by omega) (by omega) (fun v hv => by cases hv; exact t2)
        | some w =>
          have hw := ho w rfl
          rw [show oN (-1) (some w) = nI w from rfl, i_le (by omega) (by omega), ite_n]
          have em : (if T b ≤ w then w else T b) = max w (T b) := by
            by_cases z : T b ≤ w
            · rw [if_pos z, Nat.max_eq_left z]
            · rw [if_neg z, Nat.max_eq_right (by omega)]
          rw [em]
          exact ih (b + 1) n (some (max w (T b))) (by omega) (by omega) (fun v hv => by cases hv; exact Nat.max_le.mpr ⟨hw, t2⟩)
      · rw [if_pos (show bn (p r) b = 0 by omega), if_neg g]
        exact ih (b + 1) n o (by omega) (by omega) ho
  intro k
  induction k with
  | zero =>
    intro r n q hi hn h1 h2 h3 h4
    obtain ⟨n, rfl⟩ := succ_of hn
    rw [f_X7_melody_27, hN, if_pos (by rw [e_le (by omega) (by omega)]; omega), i_eq (by omega) (by decide), i_eq (by omega) (by decide)]
    show _ = some (nI (if j = 0 then q.1 else if j = 1 then q.2.1 else q.2.2.1), h)
    by_cases g0 : j = 0
    · rw [if_pos g0, if_pos g0]
    · rw [if_neg g0, if_neg g0]
      by_cases g1 : j = 1
      · rw [if_pos g1, if_pos g1]
      · rw [if_neg g1, if_neg g1]
  | succ k ih =>
    intro r n q hi hn h1 h2 h3 h4
    obtain ⟨n, rfl⟩ := succ_of hn
    obtain ⟨p1, p2⟩ := hp r (by omega)
    have hob := hif_B (s := p r) (fun b hb => (hT b hb).2) B 0 none (by omega) (fun v hv => by cases hv)
    have hm : mlf (fun r => hif T (p r) B 0 none) (k + 1) r q = mlf (fun r => hif T (p r) B 0 none) k (r + 1) (mst (hif T (p r) B 0 none) q) := rfl
    have hin := inner r (by omega) (f_X7_melody_27 F (nI j) n) (nI q.1) (nI q.2.1) (nI q.2.2.1) (oN (-1) q.2.2.2) B 0 F none (by omega) (by omega) (fun v hv => by cases hv)
    rw [show oN (-1) none = (-1 : Int32) from rfl] at hin
    rw [f_X7_melody_27, hN, if_neg (by rw [e_le (by omega) (by omega)]; omega), hin, hm, f_X7_melody_44, hB, if_pos (Int32.le_refl (nI B))]
    cases ho : hif T (p r) B 0 none with
    | none =>
      rw [show oN (-1) none = (-1 : Int32) from rfl, if_pos m1lt, e_add]
      exact ih (r + 1) n q (by omega) (by omega) (by omega) (by omega) h3 h4
    | some v =>
      have hv := hob v ho
      rw [show oN (-1) (some v) = nI v from rfl, if_neg (by rw [e_lt (by omega) (by decide)]; omega), e_add]
      cases ha : q.2.2.2 with
      | none =>
        have c0 : ¬ nI 0 ≤ oN (-1) none := by decide
        have z1 : nI 0 ≤ nI 0 := Int32.le_refl _
        have z2 : nI 0 ≤ nI q.2.2.1 := by rw [e_le (by decide) (by omega)]; omega
        simp only [if_neg c0, if_pos z1, if_pos z2]
        rw [e_add, e_add]
        have hs : mst (some v) q = (q.1, q.2.1, q.2.2.1, some v) := by show (match q.2.2.2 with | none => _ | some a => _) = _; rw [ha]
        rw [hs]
        exact ih (r + 1) n (q.1, q.2.1, q.2.2.1, some v) (by omega) (by omega) (by show q.1 + k ≤ 100; omega) (by show q.2.1 + k ≤ 100; omega) h3 (fun w hw => by cases hw; exact hv)
      | some a =>
        have hA := h4 a ha
        have c0 : nI 0 ≤ oN (-1) (some a) := by show nI 0 ≤ nI a; rw [e_le (by decide) (by omega)]; omega
        simp only [if_pos c0]
        rw [show oN (-1) (some a) = nI a from rfl]
        have hs : mst (some v) q = (q.1 + (if v ≤ a then 0 else 1), q.2.1 + (if a ≤ v then 0 else 1), max q.2.2.1 (if a ≤ v then v - a else a - v), some v) := by show (match q.2.2.2 with | none => _ | some a => _) = _; rw [ha]
        rw [hs]
        have e1 : (if nI v - nI a ≤ nI 0 then nI 0 else nI 1) = nI (if v ≤ a then 0 else 1) := by
          by_cases z : v ≤ a
          · rw [if_pos z]
            by_cases y : v = a
            · rw [y, e_sub (Nat.le_refl _), Nat.sub_self, if_pos (Int32.le_refl _)]
            · have := pk_sneg (a := v) (b := a) (by omega) (by omega)
              rw [Int32.lt_iff_toInt_lt] at this
              rw [if_pos (by rw [Int32.le_iff_toInt_le, nI_0]; omega)]
          · rw [if_neg z, e_sub (by omega), if_neg (by rw [e_le (by omega) (by decide)]; omega)]
        have e2 : (if nI 0 ≤ nI v - nI a then nI 0 else nI 1) = nI (if a ≤ v then 0 else 1) := by
          by_cases z : a ≤ v
          · rw [if_pos z, e_sub z, if_pos (by rw [e_le (by decide) (by omega)]; omega)]
          · rw [if_neg z, if_neg (nsub_neg (by omega) (by omega))]
        have e3 : (if nI 0 ≤ nI v - nI a then nI v - nI a else -(nI v - nI a)) = nI (if a ≤ v then v - a else a - v) := by
          by_cases z : a ≤ v
          · rw [if_pos z, e_sub z, if_pos (by rw [e_le (by decide) (by omega)]; omega)]
          · rw [if_neg z, if_neg (nsub_neg (by omega) (by omega)), neg_nsub (by omega)]
        have hd : (if a ≤ v then v - a else a - v) ≤ 40 := by split <;> omega
        have e4 : (if nI (if a ≤ v then v - a else a - v) ≤ nI q.2.2.1 then nI q.2.2.1 else nI (if a ≤ v then v - a else a - v)) = nI (max q.2.2.1 (if a ≤ v then v - a else a - v)) := by
          generalize (if a ≤ v then v - a else a - v) = w at hd
          rw [i_le (by omega) (by omega), ite_n]
          by_cases z : w ≤ q.2.2.1
          · rw [if_pos z, Nat.max_eq_left z]
          · rw [if_neg z, Nat.max_eq_right (by omega)]
        rw [e1, e2, e3, e4, e_add, e_add]
        refine ih (r + 1) n (q.1 + (if v ≤ a then 0 else 1), q.2.1 + (if a ≤ v then 0 else 1), max q.2.2.1 (if a ≤ v then v - a else a - v), some v) (by omega) (by omega) ?_ ?_ ?_ (fun w hw => by cases hw; exact hv)
        · show q.1 + (if v ≤ a then 0 else 1) + k ≤ 100
          split <;> omega
        · show q.2.1 + (if a ≤ v then 0 else 1) + k ≤ 100
          split <;> omega
        · exact Nat.max_le.mpr ⟨h3, hd⟩
theorem not_below {x : Int32} {n : Nat} (h0 : 0 < n) (hn : n < 2147483648) (g : nI n ≤ x) : ¬ x < nI 0 ∧ ¬ x ≤ nI (n - 1) := by
  rw [Int32.le_iff_toInt_le, nI_toInt (by rw [e31]; omega)] at g
  constructor
  · rw [Int32.lt_iff_toInt_lt, nI_toInt (by decide)]; omega
  · rw [Int32.le_iff_toInt_le, nI_toInt (by rw [e31]; omega)]; omega
theorem op_melody {F c : Nat} (hF : 600 ≤ F) {tw : TW} {h : HP} (i : INV c tw h) (x : Int32) : Same (f_X6_melody F tw x) (f_X7_melody F x) h := by
  obtain ⟨-, B, N, R, T, M, ⟨hB1, hB8, hN2, hN32, hR6, hTM⟩, hC, hM, hS, hD, -⟩ := i
  have hp43 : ∀ r, r < 32 → h 43 (2 + r) = nI (pv h r) ∧ pv h r < 256 := fun r hr => ⟨(pv_of hB8 hS hr).1, (pv_of hB8 hS hr).2.2⟩
  have hp15 : ∀ r, r < 32 → h 15 r = nI (pv h r) ∧ pv h r < 256 := fun r hr => by rw [pin_of hD hr]; exact hp43 r hr
  rcases cas x (n := 3) (by decide) with ⟨j, hj, rfl⟩ | hx
  · have a1 := X6_mel_loop hF hj hC.2.1 hN32 hC.1 hB8 (fun b hb => ⟨(hC.2.2.2 b hb).1, (hTM b hb).1⟩) hp15 N 0 F (0, 0, 0, none) (by omega) (by omega) (by show 0 + N ≤ 100; omega) (by show 0 + N ≤ 100; omega) (by decide) (fun v hv => by cases hv)
    have a2 := X7_mel_loop hF hj hM.2.1 hN32 hM.1 hB8 (fun b hb => ⟨(hM.2.2.2 b hb).1, (hTM b hb).1⟩) hp43 N 0 F (0, 0, 0, none) (by omega) (by omega) (by show 0 + N ≤ 100; omega) (by show 0 + N ≤ 100; omega) (by decide) (fun v hv => by cases hv)
    refine ⟨_, Eq.trans ?_ a1, Eq.trans ?_ a2⟩
    · unfold f_X6_melody
      rw [if_neg (by rw [e_lt (by omega) (by decide)]; omega), if_pos (by rw [e_le (by omega) (by decide)]; omega)]
      rfl
    · unfold f_X7_melody
      rw [l64 (by decide), l64 (by decide), in_t h (by omega) (by omega) (by decide), ob_eq, if_neg n10]
      rfl
  · refine ⟨-1, ?_, ?_⟩
    · unfold f_X6_melody
      rcases hx with g | g
      · rw [if_pos g]
      · obtain ⟨g1, g2⟩ := not_below (by decide) (by decide) g
        rw [if_neg g1, if_neg g2]
    · unfold f_X7_melody
      rw [l64 (by decide), l64 (by decide), show nI 2 = nI (3 - 1) from rfl, in_f h (by decide) (by decide) hx, ob_eq, if_pos rfl]
end
section
/-! ===== harsh, canon ===== -/
theorem sg_zero {f : Nat → Nat} : ∀ {k i : Nat}, (∀ j, i ≤ j → j < i + k → f j = 0) → sg f i k = 0 := by
  intro k i h
  have := sg_congr (f := f) (g := fun _ => 0) h
  rw [this]
  have z : ∀ (k i : Nat), sg (fun _ => 0) i k = 0 := by
    intro k
    induction k with
    | zero => intro i; rfl
    | succ k ih => intro i; show 0 + sg (fun _ => 0) (i + 1) k = 0; rw [ih]
  exact z k i
theorem sg_mul (c : Nat) (f : Nat → Nat) : ∀ (k i : Nat), sg (fun j => c * f j) i k = c * sg f i k := by
  intro k
  induction k with
  | zero => intro i; rfl
  | succ k ih =>
    intro i
    show c * f i + sg (fun j => c * f j) (i + 1) k = c * (f i + sg f (i + 1) k)
    rw [ih, Nat.mul_add]
theorem sg_swap (f : Nat → Nat → Nat) (m i0 : Nat) : ∀ (k i : Nat), sg (fun a => sg (f a) i0 m) i k = sg (fun b => sg (fun a => f a b) i k) i0 m := by
  intro k
  induction k with
  | zero => intro i; exact (sg_zero (fun _ _ _ => rfl)).symm
  | succ k ih =>
    intro i
    show sg (f i) i0 m + sg (fun a => sg (f a) i0 m) (i + 1) k = sg (fun b => f i b + sg (fun a => f a b) (i + 1) k) i0 m
    rw [ih, sg_add]
theorem tdif_symm (a b : Nat) : tdif a b = tdif b a := by
  unfold tdif
  by_cases h1 : a ≤ b
  · by_cases h2 : b ≤ a
    · rw [show a = b by omega]
    · rw [if_pos h1, if_neg h2]
  · rw [if_neg h1, if_pos (by omega)]
theorem ill_symm (a b : Nat) : ill a b = ill b a := by unfold ill; rw [tdif_symm a b]
theorem ill_self (a : Nat) : ill a a = false := by
  unfold ill tdif
  simp
def il (T : Nat → Nat) (a b : Nat) : Nat := if ill (T a) (T b) then 1 else 0
/-- how many of two sets sound ill -/
def II (B : Nat) (T : Nat → Nat) (s o : Nat) : Nat := sg (fun a => sg (fun b => bn s a * (bn o b * il T a b)) 0 B) 0 B
theorem II_symm (B : Nat) (T : Nat → Nat) (s o : Nat) : II B T s o = II B T o s := by
  unfold II
  rw [sg_swap]
  refine sg_congr (fun b _ _ => sg_congr (fun a _ _ => ?_))
  show bn s a * (bn o b * il T a b) = bn o b * (bn s a * il T b a)
  unfold il
  rw [ill_symm (T a) (T b), Nat.mul_left_comm]
theorem II_even (T : Nat → Nat) (s : Nat) : ∀ B, ∃ m, II B T s s = 2 * m := by
  intro B
  induction B with
  | zero => exact ⟨0, rfl⟩
  | succ B ih =>
    obtain ⟨m, hm⟩ := ih
    refine ⟨m + sg (fun a => bn s a * (bn s B * il T a B)) 0 B, ?_⟩
    unfold II at hm ⊢
    rw [sg_last]
    have e1 : sg (fun a => sg (fun b => bn s a * (bn s b * il T a b)) 0 (B + 1)) 0 B = sg (fun a => sg (fun b => bn s a * (bn s b * il T a b)) 0 B) 0 B + sg (fun a => bn s a * (bn s B * il T a B)) 0 B := by
      rw [← sg_add]
      refine sg_congr (fun a _ _ => ?_)
      rw [sg_last, Nat.zero_add]
    have e2 : sg (fun b => bn s (0 + B) * (bn s b * il T (0 + B) b)) 0 (B + 1) = sg (fun a => bn s a * (bn s B * il T a B)) 0 B := by
      rw [sg_last, Nat.zero_add]
      have : il T B B = 0 := by unfold il; rw [ill_self]; rfl
      rw [this, Nat.mul_zero, Nat.mul_zero, Nat.add_zero]
      refine sg_congr (fun a _ _ => ?_)
      unfold il
      rw [ill_symm (T B) (T a), Nat.mul_left_comm]
    rw [e1, e2, hm]
    omega
theorem II_le (B : Nat) (T : Nat → Nat) (s o : Nat) : II B T s o ≤ B * B := by
  unfold II
  have h1 : ∀ a, sg (fun b => bn s a * (bn o b * il T a b)) 0 B ≤ B * 1 := fun a => sg_le (fun b => by
    have h1 := bn_lt s a
    have h2 := bn_lt o b
    have h3 : il T a b ≤ 1 := by unfold il; split <;> omega
    rcases (show bn s a = 0 ∨ bn s a = 1 by omega) with e | e <;> rcases (show bn o b = 0 ∨ bn o b = 1 by omega) with e' | e' <;> rw [e, e'] <;> omega) B 0
  have := sg_le (f := fun a => sg (fun b => bn s a * (bn o b * il T a b)) 0 B) (m := B * 1) h1 B 0
  rw [Nat.mul_one] at this
  exact this
/-- bits put together -/
theorem num_bits (f : Nat → Nat) (hf : ∀ c, f c ≤ 1) : ∀ B, sg (fun c => f c * 2 ^ c) 0 B < 2 ^ B ∧ ∀ c, bn (sg (fun c => f c * 2 ^ c) 0 B) c = if c < B then f c else 0 := by
  intro B
  induction B with
  | zero =>
    refine ⟨(by show 0 < 1; decide), fun c => ?_⟩
    rw [if_neg (by omega)]
    show 0 / 2 ^ c % 2 = 0
    rw [Nat.zero_div]
  | succ B ih =>
    obtain ⟨h1, h2⟩ := ih
    rw [sg_last, Nat.zero_add]
    generalize sg (fun c => f c * 2 ^ c) 0 B = x at h1 h2
    have hfB := hf B
    have hlt : x + f B * 2 ^ B < 2 ^ (B + 1) := by
      rw [Nat.pow_succ]
      rcases (show f B = 0 ∨ f B = 1 by omega) with e | e <;> rw [e] <;> omega
    refine ⟨hlt, fun c => ?_⟩
    by_cases hc : c < B
    · rw [if_pos (by omega), ← (h2 c).trans (if_pos hc)]
      unfold bn
      have e : f B * 2 ^ B = 2 ^ c * (2 * (f B * 2 ^ (B - c - 1))) := by
        rw [show 2 ^ B = 2 ^ c * (2 * 2 ^ (B - c - 1)) by rw [← Nat.pow_succ', ← Nat.pow_add]; congr 1; omega]
        rw [Nat.mul_left_comm, Nat.mul_left_comm (f B) 2]
      rw [e, Nat.add_mul_div_left _ _ (Nat.pow_pos (by decide)), Nat.add_mul_mod_self_left]
    · by_cases hc2 : c = B
      · subst hc2
        rw [if_pos (by omega)]
        unfold bn
        rw [Nat.add_mul_div_right _ _ (Nat.pow_pos (by decide)), Nat.div_eq_of_lt h1, Nat.zero_add]
        omega
      · rw [if_neg (by omega)]
        exact bn_big hlt (by omega)
theorem illm_num (B : Nat) (T : Nat → Nat) (b : Nat) : illm B T b = sg (fun c => il T b c * 2 ^ c) 0 B := by
  unfold illm il
  exact sg_congr (fun c _ _ => by by_cases g : ill (T b) (T c) <;> simp [g])
theorem il_le (T : Nat → Nat) (a b : Nat) : il T a b ≤ 1 := by unfold il; split <;> omega
theorem popc_sg (s : Nat) : popc s = sg (bn s) 0 8 := by
  show _ = bn s 0 + (bn s 1 + (bn s 2 + (bn s 3 + (bn s 4 + (bn s 5 + (bn s 6 + (bn s 7 + 0)))))))
  unfold popc
  omega
theorem popc_ill {B b o : Nat} {T : Nat → Nat} (hB : B ≤ 8) (ho : o < 2 ^ B) : illm B T b &&& o < 256 ∧ popc (illm B T b &&& o) = sg (fun c => bn o c * il T b c) 0 B := by
  have h := num_bits (il T b) (il_le T b) B
  rw [← illm_num] at h
  have h256 := p2le hB
  refine ⟨Nat.lt_of_le_of_lt Nat.and_le_right (by omega), ?_⟩
  rw [popc_sg, show (8 : Nat) = B + (8 - B) by omega, sg_split]
  have z : sg (bn (illm B T b &&& o)) (0 + B) (8 - B) = 0 := sg_zero (fun j a _ => by rw [bn_and, bn_big ho (by omega), Nat.mul_zero])
  rw [z, Nat.add_zero]
  exact sg_congr (fun c _ hc => by rw [bn_and, h.2 c, if_pos (by omega), Nat.mul_comm])
theorem X6_ill_in {F : Nat} {tw : TW} {B r o q : Nat} {T p : Nat → Nat} {k4 : Int32 → Int32 → HP → Option (Int32 × HP)} {h : HP} (hB : h tw.1 0 = nI B) (hb : B ≤ 8) (hr : r < 32) (ho : o < 2 ^ B) (hp : h 15 r = nI (p r) ∧ p r < 256) (hI : ∀ b, b < B → h (tw.1 + 3) b = nI (illm B T b)) :
    ∀ (k b n acc : Nat), b + k = B → k < n → f_X6_illTwos_37 F tw (nI q) k4 n (nI acc) (nI r) (nI o) (nI b) h = k4 (nI (acc + sg (fun a => sg (fun c => bn (p r) a * (bn o c * il T a c)) 0 B) b k)) (nI (r + 1)) h := by
  have h256 := p2le hb
  intro k
  induction k with
  | zero =>
    intro b n acc hi hn
    obtain ⟨n, rfl⟩ := succ_of hn
    rw [f_X6_illTwos_37, hB, if_pos (by rw [e_le (by omega) (by omega)]; omega), e_add]
    rfl
  | succ k ih =>
    intro b n acc hi hn
    obtain ⟨n, rfl⟩ := succ_of hn
    rw [f_X6_illTwos_37, hB, if_neg (by rw [e_le (by omega) (by omega)]; omega)]
    by_cases g0 : o = 0
    · rw [if_pos (by rw [g0]), e_add]
      have : sg (fun a => sg (fun c => bn (p r) a * (bn o c * il T a c)) 0 B) b (k + 1) = 0 := sg_zero (fun a _ _ => sg_zero (fun c _ _ => by
        rw [g0]
        have : bn 0 c = 0 := by unfold bn; rw [Nat.zero_div]
        rw [this, Nat.zero_mul, Nat.mul_zero]))
      rw [this]
      rfl
    · have hbn := bn_lt (p r) b
      rw [if_neg (by rw [e_eq (by omega) (by decide)]; exact g0), if_pos (inb_t (by omega) (by decide)), e_ix (by omega), hp.1, e_bit (by have := hp.2; omega) (by omega), i_eq (by omega) (by decide), e_add]
      have hs : sg (fun a => sg (fun c => bn (p r) a * (bn o c * il T a c)) 0 B) b (k + 1) = bn (p r) b * sg (fun c => bn o c * il T b c) 0 B + sg (fun a => sg (fun c => bn (p r) a * (bn o c * il T a c)) 0 B) (b + 1) k := by
        show sg (fun c => bn (p r) b * (bn o c * il T b c)) 0 B + _ = _
        rw [sg_mul]
      rw [hs]
      obtain ⟨pi1, pi2⟩ := popc_ill (b := b) (T := T) hb ho
      by_cases g : bn (p r) b = 1
      · rw [if_pos g, if_pos (inb_t (by omega) (by decide)), e_ix (by omega), hI b (by omega), e_and, bc_spec F pi1, ob_eq, e_add, ih (b + 1) n _ (by omega) (by omega), pi2, g, Nat.one_mul, Nat.add_assoc]
      · rw [if_neg g, ih (b + 1) n acc (by omega) (by omega), show bn (p r) b = 0 by omega, Nat.zero_mul, Nat.zero_add]
theorem X6_ill_loop {F : Nat} (hF : 600 ≤ F) {tw : TW} {N B q : Nat} {T p : Nat → Nat} {h : HP} (hN : h tw.1 4 = nI N) (h0 : 0 < N) (hb32 : N ≤ 32) (hB : h tw.1 0 = nI B) (hb : B ≤ 8) (hq : q < 100) (hp : ∀ r, r < 32 → h 15 r = nI (p r) ∧ p r < 2 ^ B) (hI : ∀ b, b < B → h (tw.1 + 3) b = nI (illm B T b)) :
    ∀ (k r n acc : Nat), r + k = N → k < n → f_X6_illTwos_4 F tw (nI q) n (nI acc) (nI r) h = some (nI (acc + sg (fun r => II B T (p r) (p ((r + q) % N))) r k), h) := by
  have h256 := p2le hb
  intro k
  induction k with
  | zero =>
    intro r n acc hi hn
    obtain ⟨n, rfl⟩ := succ_of hn
    rw [f_X6_illTwos_4, hN, if_pos (by rw [e_le (by omega) (by omega)]; omega)]
    rfl
  | succ k ih =>
    intro r n acc hi hn
    obtain ⟨n, rfl⟩ := succ_of hn
    have hlt : (r + q) % N < N := Nat.mod_lt _ h0
    obtain ⟨q1, q2⟩ := hp r (by omega)
    obtain ⟨r1, r2⟩ := hp ((r + q) % N) (by omega)
    rw [f_X6_illTwos_4, hN, if_neg (by rw [e_le (by omega) (by omega)]; omega), rowBehind_n F hN h0 (by omega) (by omega), ob_eq, if_pos (inb_t (by omega) (by decide)), e_ix (by omega), r1, X6_ill_in hB hb (by omega) r2 ⟨q1, by omega⟩ hI B 0 F acc (by omega) (by omega), ih (r + 1) n _ (by omega) (by omega), Nat.add_assoc]
    rfl
theorem isIll_n (F : Nat) {B a b : Nat} {T : Nat → Nat} {h : HP} (hb : B ≤ 8) (ha : a < B) (hbB : b < B) (hT : ∀ b, b < B → h 40 (3 + b) = nI (T b) ∧ T b ≤ 40) : f_X7_isIll F (nI a) (nI b) h = some (nI (il T a b), h) := by
  obtain ⟨a1, a2⟩ := hT a ha
  obtain ⟨b1, b2⟩ := hT b hbB
  have e : (if nI 0 ≤ nI (T a) - nI (T b) then nI (T a) - nI (T b) else -(nI (T a) - nI (T b))) = nI (if T b ≤ T a then T a - T b else T b - T a) := by
    by_cases z : T b ≤ T a
    · rw [if_pos z, e_sub z, if_pos (by rw [e_le (by decide) (by omega)]; omega)]
    · rw [if_neg z, if_neg (nsub_neg (by omega) (by omega)), neg_nsub (by omega)]
  have et : (if T b ≤ T a then T a - T b else T b - T a) % 12 = tdif (T a) (T b) := by rw [tdif_symm]; rfl
  have hlt : tdif (T a) (T b) < 12 := Nat.mod_lt _ (by decide)
  unfold f_X7_isIll
  rw [e_add, e_add, if_pos (inb_t (by omega) (by decide)), if_pos (inb_t (by omega) (by decide)), e_ix (by omega), e_ix (by omega), a1, b1, e, jrem_n (by split <;> omega) (by decide) (by decide), et, i_eq (by omega) (by decide), i_eq (by omega) (by decide), i_eq (by omega) (by decide), i_eq (by omega) (by decide), i_eq (by omega) (by decide)]
  unfold il ill
  generalize tdif (T a) (T b) = d at hlt
  by_cases g1 : d = 1
  · rw [if_pos g1, g1]; rfl
  rw [if_neg g1]
  by_cases g2 : d = 2
  · rw [if_pos g2, g2]; rfl
  rw [if_neg g2]
  by_cases g6 : d = 6
  · rw [if_pos g6, g6]; rfl
  rw [if_neg g6]
  by_cases g10 : d = 10
  · rw [if_pos g10, g10]; rfl
  rw [if_neg g10]
  by_cases g11 : d = 11
  · rw [if_pos g11, g11]; rfl
  rw [if_neg g11]
  have : (d == 1 || d == 2 || d == 6 || d == 10 || d == 11) = false := by simp [g1, g2, g6, g10, g11]
  rw [this]
  rfl
theorem X7_illOf_n {F : Nat} (hF : 600 ≤ F) {B s o : Nat} {T : Nat → Nat} {h : HP} (hB : h 40 0 = nI B) (hb : B ≤ 8) (hs : s < 256) (ho : o < 256) (hT : ∀ b, b < B → h 40 (3 + b) = nI (T b) ∧ T b ≤ 40) : f_X7_illOf F (nI s) (nI o) h = some (nI (II B T s o), h) := by
  have inner : ∀ (a : Nat), a < B → ∀ (k5 : Int32 → Int32 → HP → Option (Int32 × HP)) (k b n acc : Nat), b + k = B → k < n → f_X7_illOf_19 F (nI s) (nI o) k5 n (nI acc) (nI a) (nI b) h = k5 (nI (acc + sg (fun b => bn s a * (bn o b * il T a b)) b k)) (nI (a + 1)) h := by
    intro a ha k5 k
    induction k with
    | zero =>
      intro b n acc hi hn
      obtain ⟨n, rfl⟩ := succ_of hn
      rw [f_X7_illOf_19, hB, if_pos (by rw [e_le (by omega) (by omega)]; omega), e_add]
      rfl
    | succ k ih =>
      intro b n acc hi hn
      obtain ⟨n, rfl⟩ := succ_of hn
      have h1 := bn_lt s a
      have h2 := bn_lt o b
      have hs : sg (fun b => bn s a * (bn o b * il T a b)) b (k + 1) = bn s a * (bn o b * il T a b) + sg (fun b => bn s a * (bn o b * il T a b)) (b + 1) k := rfl
      rw [hs, f_X7_illOf_19, hB, if_neg (by rw [e_le (by omega) (by omega)]; omega), has_n F (by omega) (by omega), ob_eq, i_eq (by omega) (by decide), e_add, e_add]
      by_cases g : bn s a = 0
      · rw [if_pos g, ih (b + 1) n _ (by omega) (by omega), g, Nat.zero_mul, Nat.zero_add, Nat.add_zero]
      · rw [if_neg g, has_n F (by omega) (by omega), ob_eq, i_eq (by omega) (by decide)]
        by_cases g2 : bn o b = 0
        · rw [if_pos g2, ih (b + 1) n _ (by omega) (by omega), g2, Nat.zero_mul, Nat.mul_zero, Nat.zero_add, Nat.add_zero]
        · have hil := il_le T a b
          have e : (if nI (il T a b) = nI 0 then nI 0 else nI 1) = nI (il T a b) := by
            rcases (show il T a b = 0 ∨ il T a b = 1 by omega) with e | e <;> rw [e]
            · rw [if_pos rfl]
            · rw [if_neg n10]
          rw [if_neg g2, isIll_n F hb ha (by omega) hT, ob_eq, e, e_add, ih (b + 1) n _ (by omega) (by omega), show bn s a = 1 by omega, show bn o b = 1 by omega, Nat.one_mul, Nat.one_mul, Nat.add_assoc]
  have outer : ∀ (k a n acc : Nat), a + k = B → k < n → f_X7_illOf_5 F (nI s) (nI o) n (nI acc) (nI a) h = some (nI (acc + sg (fun a => sg (fun b => bn s a * (bn o b * il T a b)) 0 B) a k), h) := by
    intro k
    induction k with
    | zero =>
      intro a n acc hi hn
      obtain ⟨n, rfl⟩ := succ_of hn
      rw [f_X7_illOf_5, hB, if_pos (by rw [e_le (by omega) (by omega)]; omega)]
      rfl
    | succ k ih =>
      intro a n acc hi hn
      obtain ⟨n, rfl⟩ := succ_of hn
      rw [f_X7_illOf_5, hB, if_neg (by rw [e_le (by omega) (by omega)]; omega), inner a (by omega) _ B 0 F acc (by omega) (by omega), ih (a + 1) n _ (by omega) (by omega), Nat.add_assoc]
      rfl
  unfold f_X7_illOf
  rw [outer B 0 F 0 (by omega) (by omega), Nat.zero_add]
  rfl
theorem div2_n {a : Nat} (ha : a < 2147483648) : nI a / nI 2 = nI (a / 2) := pk_div (by rw [e31]; exact ha) (by decide) (by decide)
theorem op_harsh {F c : Nat} (hF : 600 ≤ F) {tw : TW} {h : HP} (i : INV c tw h) : Same (f_X6_harsh F tw) (f_X7_harsh F) h := by
  obtain ⟨-, B, N, R, T, M, ⟨hB1, hB8, hN2, hN32, hR6, hTM⟩, hC, hM, hS, hD, -⟩ := i
  have h256 := p2le hB8
  have hp43 : ∀ r, r < 32 → h 43 (2 + r) = nI (pv h r) ∧ pv h r < 2 ^ B := fun r hr => ⟨(pv_of hB8 hS hr).1, (pv_of hB8 hS hr).2.1⟩
  have hp15 : ∀ r, r < 32 → h 15 r = nI (pv h r) ∧ pv h r < 2 ^ B := fun r hr => by rw [pin_of hD hr]; exact hp43 r hr
  have a2 : ∀ (k r n acc : Nat), r + k = N → k < n → f_X7_harsh_4 F n (nI acc) (nI r) h = some (nI (acc + sg (fun r => II B T (pv h r) (pv h r) / 2) r k), h) := by
    intro k
    induction k with
    | zero =>
      intro r n acc hi hn
      obtain ⟨n, rfl⟩ := succ_of hn
      rw [f_X7_harsh_4, hM.2.1, if_pos (by rw [e_le (by omega) (by omega)]; omega)]
      rfl
    | succ k ih =>
      intro r n acc hi hn
      obtain ⟨n, rfl⟩ := succ_of hn
      obtain ⟨q1, q2⟩ := hp43 r (by omega)
      have hle := II_le B T (pv h r) (pv h r)
      have hBB : B * B ≤ 8 * 8 := Nat.mul_le_mul hB8 hB8
      rw [f_X7_harsh_4, hM.2.1, if_neg (by rw [e_le (by omega) (by omega)]; omega), e_add, if_pos (inb_t (by omega) (by decide)), e_ix (by omega), q1, X7_illOf_n hF hM.1 hB8 (by omega) (by omega) (fun b hb => ⟨(hM.2.2.2 b hb).1, (hTM b hb).1⟩), ob_eq, div2_n (by omega), e_add, e_add, ih (r + 1) n _ (by omega) (by omega), Nat.add_assoc]
      rfl
  have hev : sg (fun r => II B T (pv h r) (pv h ((r + 0) % N))) 0 N = 2 * sg (fun r => II B T (pv h r) (pv h r) / 2) 0 N := by
    rw [← sg_mul]
    refine sg_congr (fun r _ hr => ?_)
    rw [Nat.add_zero, Nat.mod_eq_of_lt (by omega)]
    obtain ⟨m, hm⟩ := II_even T (pv h r) B
    rw [hm]
    omega
  have hle : sg (fun r => II B T (pv h r) (pv h r) / 2) 0 N ≤ N * 64 := sg_le (fun r => by
    have := II_le B T (pv h r) (pv h r)
    have hBB : B * B ≤ 8 * 8 := Nat.mul_le_mul hB8 hB8
    omega) N 0
  refine ⟨nI (sg (fun r => II B T (pv h r) (pv h r) / 2) 0 N), ?_, ?_⟩
  · unfold f_X6_harsh f_X6_illTwos
    rw [X6_ill_loop hF hC.2.1 (by omega) hN32 hC.1 hB8 (by decide) hp15 (fun b hb => (hC.2.2.2 b hb).2.2) N 0 F 0 (by omega) (by omega), ob_eq, Nat.zero_add, hev, div2_n (by omega), Nat.mul_div_cancel_left _ (by decide)]
  · unfold f_X7_harsh
    rw [a2 N 0 F 0 (by omega) (by omega), Nat.zero_add]
theorem op_canon {F c : Nat} (hF : 600 ≤ F) {tw : TW} {h : HP} (i : INV c tw h) (x : Int32) : Same (f_X6_canon F tw x) (f_X7_canon F x) h := by
  obtain ⟨-, B, N, R, T, M, ⟨hB1, hB8, hN2, hN32, hR6, hTM⟩, hC, hM, hS, hD, -⟩ := i
  have h256 := p2le hB8
  have hp43 : ∀ r, r < 32 → h 43 (2 + r) = nI (pv h r) ∧ pv h r < 2 ^ B := fun r hr => ⟨(pv_of hB8 hS hr).1, (pv_of hB8 hS hr).2.1⟩
  have hp15 : ∀ r, r < 32 → h 15 r = nI (pv h r) ∧ pv h r < 2 ^ B := fun r hr => by rw [pin_of hD hr]; exact hp43 r hr
  have hBB : B * B ≤ 8 * 8 := Nat.mul_le_mul hB8 hB8
  have hIle : ∀ s o, II B T s o ≤ 64 := fun s o => by have := II_le B T s o; omega
  let v : Nat → Nat := fun q => sg (fun r => II B T (pv h r) (pv h ((r + q) % N))) 0 N
  have hv : ∀ q, q < N → sg (fun r => II B T (pv h r) (pv h ((r + N - q) % N))) 0 N = v q := by
    intro q hq
    rw [← sg_round (fun r => II B T (pv h r) (pv h ((r + N - q) % N))) hq]
    exact sg_congr (fun j _ hj => by
      show II B T (pv h ((j + q) % N)) (pv h (((j + q) % N + N - q) % N)) = _
      rw [mod_back (by omega) hq, II_symm])
  have hvl : ∀ q, v q ≤ N * 64 := fun q => sg_le (fun j => hIle _ _) N 0
  have m1 : ∀ q, q < N → f_X6_illTwos F tw (nI q) h = some (nI (v q), h) := fun q hq => by
    rw [f_X6_illTwos, X6_ill_loop hF hC.2.1 (by omega) hN32 hC.1 hB8 (by omega) hp15 (fun b hb => (hC.2.2.2 b hb).2.2) N 0 F 0 (by omega) (by omega), Nat.zero_add]
  have inner : ∀ (x1 : Int32) (k17 : Int32 → Int32 → Int32 → HP → Option (Int32 × HP)) (b l q : Nat), q < N → l < 2147483648 → ∀ (k r n acc : Nat), r + k = N → k < n → acc + 64 * k < 2147483648 →
      f_X7_canon_34 F x1 k17 n (nI b) (nI l) (nI q) (nI acc) (nI r) h = k17 (nI (if l ≤ acc + sg (fun r => II B T (pv h r) (pv h ((r + N - q) % N))) r k then b else q)) (nI (if l ≤ acc + sg (fun r => II B T (pv h r) (pv h ((r + N - q) % N))) r k then l else acc + sg (fun r => II B T (pv h r) (pv h ((r + N - q) % N))) r k)) (nI (q + 1)) h := by
    intro x1 k17 b l q hq hl k
    induction k with
    | zero =>
      intro r n acc hi hn ha
      obtain ⟨n, rfl⟩ := succ_of hn
      rw [f_X7_canon_34, hM.2.1, if_pos (by rw [e_le (by omega) (by omega)]; omega), i_le hl (by omega), i_le hl (by omega), ite_n, ite_n, e_add]
      rfl
    | succ k ih =>
      intro r n acc hi hn ha
      obtain ⟨n, rfl⟩ := succ_of hn
      have hlt : (r + N - q) % N < N := Nat.mod_lt _ (by omega)
      obtain ⟨q1, q2⟩ := hp43 ((r + N - q) % N) (by omega)
      obtain ⟨r1, r2⟩ := hp43 r (by omega)
      have h8 := hIle (pv h r) (pv h ((r + N - q) % N))
      rw [f_X7_canon_34, hM.2.1, if_neg (by rw [e_le (by omega) (by omega)]; omega), e_add, if_pos (inb_t (by omega) (by decide)), e_ix (by omega), shifted_n F hM.2.1 (by omega) hN32 (by omega) (by omega), ob_eq, q1, r1, X7_illOf_n hF hM.1 hB8 (by omega) (by omega) (fun b hb => ⟨(hM.2.2.2 b hb).1, (hTM b hb).1⟩), ob_eq, e_add, e_add, ih (r + 1) n _ (by omega) (by omega) (by omega), Nat.add_assoc]
      rfl
  rcases cas x (n := 2) (by decide) with ⟨j, hj, rfl⟩ | hx
  · have a1 : ∀ (k i n b l : Nat), i + k = N → k < n → l ≤ N * 64 → f_X6_canon_22 F tw (nI j) n (nI b) (nI l) (nI i) h = some (if j = 0 then nI (amf v k i b l).1 else nI (amf v k i b l).2, h) := by
      intro k
      induction k with
      | zero =>
        intro i n b l hi hn hl
        obtain ⟨n, rfl⟩ := succ_of hn
        rw [f_X6_canon_22, hC.2.1, if_pos (by rw [e_le (by omega) (by omega)]; omega), i_eq (by omega) (by decide)]
        show _ = some (if j = 0 then nI b else nI l, h)
        by_cases g : j = 0
        · rw [if_pos g, if_pos g]
        · rw [if_neg g, if_neg g]
      | succ k ih =>
        intro i n b l hi hn hl
        obtain ⟨n, rfl⟩ := succ_of hn
        have := hvl i
        rw [f_X6_canon_22, hC.2.1, if_neg (by rw [e_le (by omega) (by omega)]; omega), m1 i (by omega), ob_eq, i_le (by omega) (by omega), i_le (by omega) (by omega), ite_n, ite_n, e_add, ih (i + 1) n _ _ (by omega) (by omega) (by split <;> omega)]
        rfl
    have a2 : ∀ (k i n b l : Nat), i + k = N → k < n → l < 2147483648 → f_X7_canon_17 F (nI j) n (nI b) (nI l) (nI i) h = some (if j = 0 then nI (amf v k i b l).1 else nI (amf v k i b l).2, h) := by
      intro k
      induction k with
      | zero =>
        intro i n b l hi hn hl
        obtain ⟨n, rfl⟩ := succ_of hn
        rw [f_X7_canon_17, hM.2.1, if_pos (by rw [e_le (by omega) (by omega)]; omega), i_eq (by omega) (by decide)]
        show _ = some (if j = 0 then nI b else nI l, h)
        by_cases g : j = 0
        · rw [if_pos g, if_pos g]
        · rw [if_neg g, if_neg g]
      | succ k ih =>
        intro i n b l hi hn hl
        obtain ⟨n, rfl⟩ := succ_of hn
        have := hvl i
        rw [f_X7_canon_17, hM.2.1, if_neg (by rw [e_le (by omega) (by omega)]; omega), inner (nI j) _ b l i (by omega) hl N 0 F 0 (by omega) (by omega) (by omega), Nat.zero_add, hv i (by omega), ih (i + 1) n _ _ (by omega) (by omega) (by split <;> omega)]
        rfl
    refine ⟨if j = 0 then nI (amf v (N - 2) 2 1 (v 1)).1 else nI (amf v (N - 2) 2 1 (v 1)).2, ?_, ?_⟩
    · unfold f_X6_canon
      rw [if_neg (by rw [e_lt (by omega) (by decide)]; omega), if_pos (by rw [e_le (by omega) (by decide)]; omega), m1 1 (by omega), ob_eq, a1 (N - 2) 2 F 1 (v 1) (by omega) (by omega) (hvl 1)]
    · unfold f_X7_canon f_X7_isTwo
      rw [l64 (by decide), l64 (by decide), in_t h (by omega) (by omega) (by decide), ob_eq, guard01 (Or.inr rfl), ob_eq, if_neg n10, a2 (N - 1) 1 F 0 1000000 (by omega) (by omega) (by decide)]
      have e : amf v (N - 1) 1 0 1000000 = amf v (N - 2) 2 1 (v 1) := by
        rw [show N - 1 = (N - 2) + 1 by omega]
        show amf v (N - 2) 2 (if 1000000 ≤ v 1 then 0 else 1) (if 1000000 ≤ v 1 then 1000000 else v 1) = _
        have := hvl 1
        rw [if_neg (by omega), if_neg (by omega)]
      rw [e]
  · refine ⟨-1, ?_, ?_⟩
    · unfold f_X6_canon
      rcases hx with g | g
      · rw [if_pos g]
      · obtain ⟨g1, g2⟩ := not_below (by decide) (by decide) g
        rw [if_neg g1, if_neg g2]
    · unfold f_X7_canon f_X7_isTwo
      rw [l64 (by decide), l64 (by decide), show nI 1 = nI (2 - 1) from rfl, in_f h (by decide) (by decide) hx, ob_eq, guard01 (Or.inl rfl), ob_eq, if_pos rfl]
end
section
/-! ===== a drum, as both hold it ===== -/
/-- the latest row, rows turned, sets, when each hammer rang, how often bells rang, were missed -/
abbrev ADr : Type := Nat × Nat × (Nat → Nat) × (Nat → Option Nat) × (Nat → Int32) × (Nat → Int32)
def rdy (R : Nat) : Option Nat → Int32
  | none => nI 0
  | some g => nI (g + R + 2)
def rgI : Option Nat → Int32
  | none => -1000
  | some g => nI g
def CD (R d : Nat) (h : HP) (a : ADr) : Prop := h d 4 = nI a.1 ∧ h d 5 = nI a.2.1 ∧ (∀ r, r < 32 → h (d + 1) r = nI (a.2.2.1 r)) ∧ (∀ j, j < 16 → h (d + 2) j = rdy R (a.2.2.2.1 j)) ∧ ∀ b, b < 8 → h (d + 3) b = a.2.2.2.2.1 b ∧ h (d + 4) b = a.2.2.2.2.2 b
def MD (t : Nat) (h : HP) (a : ADr) : Prop := h t 0 = nI a.1 ∧ h t 1 = nI a.2.1 ∧ (∀ r, r < 32 → h t (2 + r) = nI (a.2.2.1 r)) ∧ (∀ j, j < 16 → h t (34 + j) = rgI (a.2.2.2.1 j)) ∧ ∀ b, b < 8 → h t (50 + b) = a.2.2.2.2.1 b ∧ h t (58 + b) = a.2.2.2.2.2 b
def AOK (B N c : Nat) (a : ADr) : Prop := a.1 ≤ N ∧ a.2.1 ≤ c ∧ (∀ j, j < 16 → ∀ g, a.2.2.2.1 j = some g → g < a.2.1) ∧ ∀ r, r < 32 → a.2.2.1 r < 2 ^ B
theorem m1000 {g : Nat} (h : g < 2147483648) : ¬ nI g = -1000 := fun e => by
  have := congrArg Int32.toInt e
  rw [nI_toInt (by rw [e31]; exact h)] at this
  have e2 : (-1000 : Int32).toInt = -1000 := by decide
  omega
theorem dv0 (h : HP) (d : Nat) : dv h d 0 = h d 4 := rfl
theorem dv1 (h : HP) (d : Nat) : dv h d 1 = h d 5 := rfl
theorem dv2 (h : HP) (d : Nat) {r : Nat} (hr : r < 32) : dv h d (2 + r) = h (d + 1) r := by
  unfold dv
  rw [if_neg (by omega), if_neg (by omega), if_pos (by omega), show 2 + r - 2 = r by omega]
theorem dv34 (h : HP) (d : Nat) {r : Nat} (hr : r < 16) : dv h d (34 + r) = h (d + 2) r := by
  unfold dv
  rw [if_neg (by omega), if_neg (by omega), if_neg (by omega), if_pos (by omega), show 34 + r - 34 = r by omega]
theorem dv50 (h : HP) (d : Nat) {r : Nat} (hr : r < 8) : dv h d (50 + r) = h (d + 3) r := by
  unfold dv
  rw [if_neg (by omega), if_neg (by omega), if_neg (by omega), if_neg (by omega), if_pos (by omega), show 50 + r - 50 = r by omega]
theorem dv58 (h : HP) (d : Nat) {r : Nat} (hr : r < 8) : dv h d (58 + r) = h (d + 4) r := by
  unfold dv
  rw [if_neg (by omega), if_neg (by omega), if_neg (by omega), if_neg (by omega), if_neg (by omega), show 58 + r - 58 = r by omega]
theorem toAD {R B N c d t : Nat} {h : HP} (hB : B ≤ 8) (hc : c < 1000000) (hs : SOK B N c (h t)) (hd : CS R (dv h d) (h t)) : ∃ a, CD R d h a ∧ MD t h a ∧ AOK B N c a := by
  obtain ⟨⟨la, hla, e0⟩, ⟨tu, htu, e1, hrg⟩, hp⟩ := hs
  have h256 := p2le hB
  let p : Nat → Nat := fun r => ix (h t (2 + r))
  let rg : Nat → Option Nat := fun j => if h t (34 + j) = -1000 then none else some (ix (h t (34 + j)))
  have hp' : ∀ r, r < 32 → h t (2 + r) = nI (p r) ∧ p r < 2 ^ B := fun r hr => by
    obtain ⟨q, hq, e⟩ := hp r hr
    have : p r = q := by show ix (h t (2 + r)) = q; rw [e]; exact e_ix (by omega)
    rw [this]; exact ⟨e, hq⟩
  have hrg' : ∀ j, j < 16 → h t (34 + j) = rgI (rg j) ∧ ∀ g, rg j = some g → g < tu := fun j hj => by
    rcases hrg j hj with e | ⟨g, hg, e⟩
    · have : rg j = none := if_pos e
      rw [this]; exact ⟨e, fun g hg => by cases hg⟩
    · have : rg j = some g := by
        show (if h t (34 + j) = -1000 then none else some (ix (h t (34 + j)))) = some g
        rw [e, if_neg (m1000 (by omega)), e_ix (by omega)]
      rw [this]; exact ⟨e, fun g' hg' => by cases hg'; exact hg⟩
  refine ⟨(la, tu, p, rg, fun b => h t (50 + b), fun b => h t (58 + b)), ⟨?_, ?_, ?_, ?_, ?_⟩, ⟨e0, e1, fun r hr => (hp' r hr).1, fun j hj => (hrg' j hj).1, fun b _ => ⟨rfl, rfl⟩⟩, hla, htu, fun j hj => (hrg' j hj).2, fun r hr => (hp' r hr).2⟩
  · rw [← dv0 h d, hd.1 0 (by decide) (Or.inl (by decide))]; exact e0
  · rw [← dv1 h d, hd.1 1 (by decide) (Or.inl (by decide))]; exact e1
  · intro r hr
    rw [← dv2 h d hr, hd.1 (2 + r) (by omega) (Or.inl (by omega))]; exact (hp' r hr).1
  · intro j hj
    rw [← dv34 h d hj]
    rcases hd.2 j hj with ⟨a1, a2⟩ | ⟨g, hg, a1, a2⟩
    · have : rg j = none := if_pos a1
      show _ = rdy R (rg j)
      rw [this]; exact a2
    · have : rg j = some g := by
        show (if h t (34 + j) = -1000 then none else some (ix (h t (34 + j)))) = some g
        rw [a1, if_neg (m1000 (by omega)), e_ix (by omega)]
      show _ = rdy R (rg j)
      rw [this]; exact a2
  · intro b hb
    exact ⟨by rw [← dv50 h d hb]; exact hd.1 (50 + b) (by omega) (Or.inr (by omega)), by rw [← dv58 h d hb]; exact hd.1 (58 + b) (by omega) (Or.inr (by omega))⟩
theorem ofAD {R B N c d t : Nat} {h : HP} {a : ADr} (hc : c < 1000000) (hC : CD R d h a) (hM : MD t h a) (hA : AOK B N c a) : SOK B N c (h t) ∧ CS R (dv h d) (h t) := by
  obtain ⟨la, tu, p, rg, ru, mi⟩ := a
  obtain ⟨c0, c1, c2, c3, c4⟩ := hC
  obtain ⟨m0, m1, m2, m3, m4⟩ := hM
  obtain ⟨a0, a1, a2, a3⟩ := hA
  refine ⟨⟨⟨la, a0, m0⟩, ⟨tu, a1, m1, fun j hj => ?_⟩, fun r hr => ⟨p r, a3 r hr, m2 r hr⟩⟩, fun j hj hj2 => ?_, fun j hj => ?_⟩
  · have := m3 j hj
    have ha2 := a2 j hj
    dsimp only at this ha2
    cases hr : rg j with
    | none => rw [hr] at this; exact Or.inl this
    | some g => rw [hr] at this; exact Or.inr ⟨g, ha2 g hr, this⟩
  · rcases (show j = 0 ∨ j = 1 ∨ (∃ r, r < 32 ∧ j = 2 + r) ∨ (∃ b, b < 8 ∧ j = 50 + b) ∨ ∃ b, b < 8 ∧ j = 58 + b from by
      by_cases z0 : j = 0
      · exact Or.inl z0
      by_cases z1 : j = 1
      · exact Or.inr (Or.inl z1)
      by_cases z2 : j < 34
      · exact Or.inr (Or.inr (Or.inl ⟨j - 2, by omega, by omega⟩))
      by_cases z3 : j < 58
      · exact Or.inr (Or.inr (Or.inr (Or.inl ⟨j - 50, by omega, by omega⟩)))
      · exact Or.inr (Or.inr (Or.inr (Or.inr ⟨j - 58, by omega, by omega⟩)))) with rfl | rfl | ⟨r, hr, rfl⟩ | ⟨b, hb, rfl⟩ | ⟨b, hb, rfl⟩
    · rw [dv0, c0, m0]
    · rw [dv1, c1, m1]
    · rw [dv2 h d hr, c2 r hr, m2 r hr]
    · rw [dv50 h d hb, (c4 b hb).1, (m4 b hb).1]
    · rw [dv58 h d hb, (c4 b hb).2, (m4 b hb).2]
  · rw [dv34 h d hj, c3 j hj, m3 j hj]
    have ha2 := a2 j hj
    dsimp only at ha2 a1 ⊢
    cases hr : rg j with
    | none => exact Or.inl ⟨rfl, rfl⟩
    | some g => have := ha2 g hr; exact Or.inr ⟨g, by omega, rfl, rfl⟩
/-- a hammer that is free -/
def frh (R tu : Nat) : Option Nat → Bool
  | none => true
  | some g => decide (R < tu - g)
/-- the first free hammer of a bell -/
def fhm (R tu : Nat) (rg : Nat → Option Nat) (b M : Nat) : Option Nat := if frh R tu (rg (2 * b)) then some 0 else if M = 2 ∧ frh R tu (rg (2 * b + 1)) = true then some 1 else none
abbrev BSt : Type := (Nat → Option Nat) × (Nat → Int32) × (Nat → Int32) × Nat
def updO (f : Nat → Option Nat) (k : Nat) (x : Option Nat) : Nat → Option Nat := fun j => if j = k then x else f j
/-- a bell whose pin comes -/
def bst (R tu : Nat) (M : Nat → Nat) (b : Nat) (q : BSt) : BSt := match fhm R tu q.1 b (M b) with
  | none => (q.1, q.2.1, upd q.2.2.1 b (q.2.2.1 b + nI 1), q.2.2.2)
  | some f => (updO q.1 (2 * b + f) (some tu), upd q.2.1 b (q.2.1 b + nI 1), q.2.2.1, q.2.2.2 ||| 2 ^ b)
/-- the bells from b on, k of them -/
def bsf (R tu : Nat) (M : Nat → Nat) (s : Nat) : Nat → Nat → BSt → BSt
  | 0, _, q => q
  | k + 1, b, q => bsf R tu M s k (b + 1) (if bn s b = 0 then q else bst R tu M b q)
/-- a row comes -/
def rowA (B R : Nat) (M : Nat → Nat) (row : Nat) (a : ADr) : Nat × ADr :=
  let q := bsf R a.2.1 M (a.2.2.1 row) B 0 (a.2.2.2.1, a.2.2.2.2.1, a.2.2.2.2.2, 0)
  (q.2.2.2, (row, a.2.1 + 1, a.2.2.1, q.1, q.2.1, q.2.2.1))
/-- hammers and counts, as the class has them; as the reference has them -/
def CB (R d : Nat) (h : HP) (q : BSt) : Prop := (∀ j, j < 16 → h (d + 2) j = rdy R (q.1 j)) ∧ ∀ b, b < 8 → h (d + 3) b = q.2.1 b ∧ h (d + 4) b = q.2.2.1 b
def MB (t : Nat) (h : HP) (q : BSt) : Prop := (∀ j, j < 16 → h t (34 + j) = rgI (q.1 j)) ∧ ∀ b, b < 8 → h t (50 + b) = q.2.1 b ∧ h t (58 + b) = q.2.2.1 b
def GB (tu : Nat) (q : BSt) : Prop := ∀ j, j < 16 → ∀ g, q.1 j = some g → g ≤ tu
theorem rdy_nlt {R tu : Nat} {o : Option Nat} (hg : ∀ g, o = some g → g ≤ tu) (hR : R ≤ 6) (ht : tu < 1000000) : (nI (tu + 1) < rdy R o) ↔ ¬ frh R tu o = true := by
  cases o with
  | none =>
    show nI (tu + 1) < nI 0 ↔ ¬ true = true
    rw [e_lt (by omega) (by decide)]
    exact ⟨fun z => by omega, fun z => absurd rfl z⟩
  | some g =>
    have := hg g rfl
    show nI (tu + 1) < nI (g + R + 2) ↔ ¬ decide (R < tu - g) = true
    rw [e_lt (by omega) (by omega), decide_eq_true_iff]
    omega
theorem rg_le {R tu : Nat} {o : Option Nat} (hg : ∀ g, o = some g → g ≤ tu) (hR : R ≤ 6) (ht : tu < 1000000) : (nI tu - rgI o ≤ nI R) ↔ ¬ frh R tu o = true := by
  cases o with
  | none =>
    show nI tu - (-1000) ≤ nI R ↔ ¬ true = true
    have e : nI tu - (-1000) = nI (tu + 1000) := by
      rw [show (-1000 : Int32) = -(nI 1000) from rfl, Int32.sub_neg, e_add]
    rw [e, e_le (by omega) (by omega)]
    exact ⟨fun z => by omega, fun z => absurd rfl z⟩
  | some g =>
    have := hg g rfl
    show nI tu - nI g ≤ nI R ↔ ¬ decide (R < tu - g) = true
    rw [e_sub (by omega), e_le (by omega) (by omega), decide_eq_true_iff]
    omega
theorem fhm_lt {R tu b M f : Nat} {rg : Nat → Option Nat} (h : fhm R tu rg b M = some f) : f < 2 := by
  unfold fhm at h
  split at h
  · cases h; decide
  · split at h
    · cases h; decide
    · cases h
theorem X0_strike_n {F : Nat} (hF : 600 ≤ F) {R d t b tu M : Nat} {rg : Nat → Option Nat} {h : HP} (hb : b < 8) (hR : R ≤ 6) (ht : tu < 1000000) (hM : 1 ≤ M ∧ M ≤ 2) (eM : h (t + 2) b = nI M) (eR : h t 5 = nI R) (eT : h d 5 = nI (tu + 1)) (hr : ∀ j, j < 16 → h (d + 2) j = rdy R (rg j)) (hg : ∀ j, j < 16 → ∀ g, rg j = some g → g ≤ tu) :
    f_X0_strike F d (nI b) t h = match fhm R tu rg b M with
      | none => some (nI 0, h)
      | some f => some (nI 1, up h (d + 2) (2 * b + f) (nI (tu + R + 2))) := by
  have e0 := rdy_nlt (hg (2 * b) (by omega)) hR ht
  have e1 := rdy_nlt (hg (2 * b + 1) (by omega)) hR ht
  obtain ⟨F, rfl⟩ : ∃ G, F = G + 3 := ⟨F - 3, by omega⟩
  unfold f_X0_strike
  rw [e_mul, f_X0_strike_7, if_pos (inb_t (by omega) (by decide)), e_ix (by omega), eM, e_add, if_neg (by rw [e_le (by omega) (by omega)]; omega), if_pos (inb_t (by omega) (by decide)), e_ix (by omega), eT, show b * 2 = 2 * b by omega, hr (2 * b) (by omega), eR]
  unfold fhm
  by_cases g0 : frh R tu (rg (2 * b)) = true
  · rw [if_neg (fun z => e0.mp z g0), if_pos g0, e_add, e_add, show tu + 1 + R + 1 = tu + R + 2 by omega]
    rfl
  · rw [if_pos (e0.mpr g0), if_neg g0, e_add, f_X0_strike_7, if_pos (inb_t (by omega) (by decide)), e_ix (by omega), eM, e_add]
    rcases (show M = 1 ∨ M = 2 by omega) with rfl | rfl
    · rw [if_pos (by rw [e_le (by omega) (by omega)]; omega), if_neg (fun z => absurd z.1 (by decide))]
    · rw [if_neg (by rw [e_le (by omega) (by omega)]; omega), if_pos (inb_t (by omega) (by decide)), e_ix (by omega), eT, hr (2 * b + 1) (by omega), eR]
      by_cases g1 : frh R tu (rg (2 * b + 1)) = true
      · rw [if_neg (fun z => e1.mp z g1), if_pos ⟨rfl, g1⟩, e_add, e_add, show tu + 1 + R + 1 = tu + R + 2 by omega]
      · rw [if_pos (e1.mpr g1), if_neg (fun z => g1 z.2), e_add, f_X0_strike_7, if_pos (inb_t (by omega) (by decide)), e_ix (by omega), eM, e_add, if_pos (by rw [e_le (by omega) (by omega)]; omega)]
theorem bn01 (s b : Nat) : bn s b = 0 ∨ bn s b = 1 := by have := bn_lt s b; omega
theorem GB_step {R tu b : Nat} {M : Nat → Nat} {q : BSt} (h : GB tu q) : GB tu (bst R tu M b q) := by
  unfold bst
  cases hf : fhm R tu q.1 b (M b) with
  | none => exact h
  | some f =>
    intro j hj g hg
    unfold updO at hg
    dsimp only at hg
    by_cases z : j = 2 * b + f
    · rw [if_pos z] at hg; cases hg; exact Nat.le_refl _
    · rw [if_neg z] at hg; exact h j hj g hg
/-- the class: a row comes -/
theorem X0_ring_loop {F : Nat} (hF : 600 ≤ F) {R d t B tu row s : Nat} {M : Nat → Nat} (hd : d + 5 ≤ t ∨ t + 5 ≤ d) (hB : B ≤ 8) (hR : R ≤ 6) (ht : tu < 1000000) (hrow : row < 32) (hs : s < 256) (hM : ∀ b, b < B → 1 ≤ M b ∧ M b ≤ 2) :
    ∀ (k b n : Nat) (q : BSt) (h : HP), b + k = B → k < n → h t 0 = nI B → h t 5 = nI R → (∀ b, b < B → h (t + 2) b = nI (M b)) → h d 5 = nI (tu + 1) → h (d + 1) row = nI s → CB R d h q → GB tu q → q.2.2.2 < 256 →
      ∃ h', f_X0_ringRow_32 F d (nI row) t n (nI q.2.2.2) (nI b) h = some (nI (bsf R tu M s k b q).2.2.2, h') ∧ CB R d h' (bsf R tu M s k b q) ∧ (∀ z, z ≠ d + 2 → z ≠ d + 3 → z ≠ d + 4 → h' z = h z) := by
  intro k
  induction k with
  | zero =>
    intro b n q h hi hn hB0 hR5 hM2 hT5 hp hC hG hq
    obtain ⟨n, rfl⟩ := succ_of hn
    refine ⟨h, ?_, hC, fun _ _ _ _ => rfl⟩
    rw [f_X0_ringRow_32, hB0, if_pos (by rw [e_le (by omega) (by omega)]; omega)]
    rfl
  | succ k ih =>
    intro b n q h hi hn hB0 hR5 hM2 hT5 hp hC hG hq
    obtain ⟨n, rfl⟩ := succ_of hn
    have hbn := bn_lt s b
    have hstep : f_X0_ringRow_32 F d (nI row) t (n + 1) (nI q.2.2.2) (nI b) h = if bn s b = 0 then f_X0_ringRow_32 F d (nI row) t n (nI q.2.2.2) (nI (b + 1)) h else
        ob (f_X0_strike F d (nI b) t h) (fun v8 h6 => if v8 = nI 0 then f_X0_ringRow_32 F d (nI row) t n (nI q.2.2.2) (nI (b + 1)) (up h6 (d + 4) b ((h6 (d + 4) b) + (nI 1))) else f_X0_ringRow_32 F d (nI row) t n (nI q.2.2.2 ||| jshl (nI 1) (nI b)) (nI (b + 1)) (up h6 (d + 3) b ((h6 (d + 3) b) + (nI 1)))) := by
      rw [f_X0_ringRow_32, hB0, if_neg (by rw [e_le (by omega) (by omega)]; omega), if_pos (inb_t (by omega) (by decide)), e_ix (by omega), hp, e_bit (by omega) (by omega), i_eq (by omega) (by decide), e_add]
      simp only [inb_t (show b < 8 by omega) (by decide), if_true, e_ix (show b < 2147483648 by omega)]
    rw [hstep]
    have hbs : bsf R tu M s (k + 1) b q = bsf R tu M s k (b + 1) (if bn s b = 0 then q else bst R tu M b q) := rfl
    rw [hbs]
    by_cases g : bn s b = 0
    · rw [if_pos g, if_pos g]
      exact ih (b + 1) n q h (by omega) (by omega) hB0 hR5 hM2 hT5 hp hC hG hq
    · rw [if_neg g, if_neg g, X0_strike_n hF (by omega) hR ht (hM b (by omega)) (hM2 b (by omega)) hR5 hT5 hC.1 hG]
      have hG' := GB_step (R := R) (b := b) (M := M) hG
      unfold bst at hG' ⊢
      cases hf : fhm R tu q.1 b (M b) with
      | none =>
        rw [hf] at hG'
        dsimp only at hG' ⊢
        rw [ob_eq, if_pos rfl]
        have fr : ∀ z, z ≠ d + 4 → (up h (d + 4) b (h (d + 4) b + nI 1)) z = h z := fun z hz => up_c hz
        obtain ⟨h', e1, e2, e3⟩ := ih (b + 1) n (q.1, q.2.1, upd q.2.2.1 b (q.2.2.1 b + nI 1), q.2.2.2) (up h (d + 4) b (h (d + 4) b + nI 1)) (by omega) (by omega) (by rw [fr t (by omega)]; exact hB0) (by rw [fr t (by omega)]; exact hR5) (fun b' hb' => by rw [fr (t + 2) (by omega)]; exact hM2 b' hb') (by rw [fr d (by omega)]; exact hT5) (by rw [fr (d + 1) (by omega)]; exact hp) ⟨fun j hj => by rw [fr (d + 2) (by omega)]; exact hC.1 j hj, fun b' hb' => ⟨by rw [fr (d + 3) (by omega)]; exact (hC.2 b' hb').1, by
            unfold upd
            dsimp only
            by_cases z : b' = b
            · rw [if_pos z, z, up_s, (hC.2 b (by omega)).2]
            · rw [if_neg z, up_n z]; exact (hC.2 b' hb').2⟩⟩ hG' hq
        exact ⟨h', e1, e2, fun z a1 a2 a3 => by rw [e3 z a1 a2 a3, fr z a3]⟩
      | some f =>
        have hf2 := fhm_lt hf
        rw [hf] at hG'
        dsimp only at hG' ⊢
        rw [ob_eq, if_neg n10, e_one (by omega), e_or]
        have fr : ∀ z, z ≠ d + 2 → z ≠ d + 3 → (up (up h (d + 2) (2 * b + f) (nI (tu + R + 2))) (d + 3) b ((up h (d + 2) (2 * b + f) (nI (tu + R + 2))) (d + 3) b + nI 1)) z = h z := fun z hz hz2 => by rw [up_c hz2, up_c hz]
        have hor : q.2.2.2 ||| 2 ^ b < 2 ^ 8 := Nat.or_lt_two_pow hq (Nat.pow_lt_pow_right (by decide) (by omega))
        obtain ⟨h', e1, e2, e3⟩ := ih (b + 1) n (updO q.1 (2 * b + f) (some tu), upd q.2.1 b (q.2.1 b + nI 1), q.2.2.1, q.2.2.2 ||| 2 ^ b) (up (up h (d + 2) (2 * b + f) (nI (tu + R + 2))) (d + 3) b ((up h (d + 2) (2 * b + f) (nI (tu + R + 2))) (d + 3) b + nI 1)) (by omega) (by omega) (by rw [fr t (by omega) (by omega)]; exact hB0) (by rw [fr t (by omega) (by omega)]; exact hR5) (fun b' hb' => by rw [fr (t + 2) (by omega) (by omega)]; exact hM2 b' hb') (by rw [fr d (by omega) (by omega)]; exact hT5) (by rw [fr (d + 1) (by omega) (by omega)]; exact hp) ⟨fun j hj => by
            rw [up_c (show d + 2 ≠ d + 3 by omega)]
            unfold updO
            dsimp only
            by_cases z : j = 2 * b + f
            · rw [if_pos z, z, up_s]
              rfl
            · rw [if_neg z, up_n z]; exact hC.1 j hj, fun b' hb' => ⟨by
            unfold upd
            dsimp only
            by_cases z : b' = b
            · rw [if_pos z, z, up_s, up_c (by omega), (hC.2 b (by omega)).1]
            · rw [if_neg z, up_n z, up_c (by omega)]; exact (hC.2 b' hb').1, by rw [fr (d + 4) (by omega) (by omega)]; exact (hC.2 b' hb').2⟩⟩ hG' hor
        exact ⟨h', e1, e2, fun z a1 a2 a3 => by rw [e3 z a1 a2 a3, fr z a1 a2]⟩
theorem bsf_G {R tu s : Nat} {M : Nat → Nat} : ∀ (k b : Nat) (q : BSt), GB tu q → GB tu (bsf R tu M s k b q) := by
  intro k
  induction k with
  | zero => intro b q h; exact h
  | succ k ih =>
    intro b q h
    refine ih (b + 1) _ ?_
    split
    · exact h
    · exact GB_step h
theorem bsf_set {R tu s : Nat} {M : Nat → Nat} {B : Nat} : ∀ (k b : Nat) (q : BSt), b + k = B → q.2.2.2 < 2 ^ B → (bsf R tu M s k b q).2.2.2 < 2 ^ B := by
  intro k
  induction k with
  | zero => intro b q _ h; exact h
  | succ k ih =>
    intro b q hb h
    refine ih (b + 1) _ (by omega) ?_
    split
    · exact h
    · unfold bst
      cases fhm R tu q.1 b (M b) with
      | none => exact h
      | some f => exact Nat.or_lt_two_pow h (Nat.pow_lt_pow_right (by decide) (by omega))
theorem AOK_row {B N c R row : Nat} {M : Nat → Nat} {a : ADr} (h : AOK B N c a) (hr : row ≤ N) : AOK B N (c + 1) (rowA B R M row a).2 := by
  obtain ⟨h1, h2, h3, h4⟩ := h
  refine ⟨hr, Nat.succ_le_succ h2, fun j hj g hg => ?_, h4⟩
  have : GB a.2.1 (a.2.2.2.1, a.2.2.2.2.1, a.2.2.2.2.2, 0) := fun j hj g hg => Nat.le_of_lt (h3 j hj g hg)
  have := bsf_G (R := R) (s := a.2.2.1 row) (M := M) B 0 _ this j hj g hg
  exact Nat.lt_succ_of_le this
theorem X0_ringRow_n {F : Nat} (hF : 600 ≤ F) {R d t B N c row : Nat} {M : Nat → Nat} {a : ADr} {h : HP} (hd : d + 5 ≤ t ∨ t + 5 ≤ d) (hB : B ≤ 8) (hR : R ≤ 6) (hc : c < 1000000) (hrow : row < 32) (hM : ∀ b, b < B → 1 ≤ M b ∧ M b ≤ 2) (hB0 : h t 0 = nI B) (hR5 : h t 5 = nI R) (hM2 : ∀ b, b < B → h (t + 2) b = nI (M b)) (hC : CD R d h a) (hA : AOK B N c a) :
    ∃ h', f_X0_ringRow F d (nI row) t h = some (nI (rowA B R M row a).1, h') ∧ CD R d h' (rowA B R M row a).2 ∧ ∀ z, z ≠ d → z ≠ d + 2 → z ≠ d + 3 → z ≠ d + 4 → h' z = h z := by
  obtain ⟨c0, c1, c2, c3, c4⟩ := hC
  obtain ⟨a0, a1, a2, a3⟩ := hA
  have h256 := p2le hB
  have hpr := a3 row hrow
  let h0 : HP := up (up h d 4 (nI row)) d 5 (nI (a.2.1 + 1))
  have fr : ∀ z, z ≠ d → h0 z = h z := fun z hz => by show (up (up h d 4 _) d 5 _) z = _; rw [up_c hz, up_c hz]
  have e5 : h0 d 5 = nI (a.2.1 + 1) := up_s
  have e4 : h0 d 4 = nI row := by show (up (up h d 4 _) d 5 _) d 4 = _; rw [up_n (by decide), up_s]
  obtain ⟨h', e1, e2, e3⟩ := X0_ring_loop hF (t := t) hd hB hR (show a.2.1 < 1000000 by omega) hrow (show a.2.2.1 row < 256 by omega) hM B 0 F (a.2.2.2.1, a.2.2.2.2.1, a.2.2.2.2.2, 0) h0 (by omega) (by omega) (by rw [fr t (by omega)]; exact hB0) (by rw [fr t (by omega)]; exact hR5) (fun b hb => by rw [fr (t + 2) (by omega)]; exact hM2 b hb) e5 (by rw [fr (d + 1) (by omega)]; exact c2 row hrow) ⟨fun j hj => by rw [fr (d + 2) (by omega)]; exact c3 j hj, fun b hb => by rw [fr (d + 3) (by omega), fr (d + 4) (by omega)]; exact c4 b hb⟩ (fun j hj g hg => Nat.le_of_lt (a2 j hj g hg)) (by show 0 < 256; decide)
  refine ⟨h', ?_, ⟨?_, ?_, ?_, e2.1, e2.2⟩, fun z z0 z1 z2 z3 => by rw [e3 z z1 z2 z3, fr z z0]⟩
  · unfold f_X0_ringRow
    rw [if_neg (by rw [e_lt (by omega) (by decide)]; omega), if_pos (by rw [e_lt (by omega) (by decide)]; omega), show (up h d 4 (nI row)) d 5 = nI a.2.1 by rw [up_n (by decide)]; exact c1, e_add]
    exact e1
  · rw [e3 d (by omega) (by omega) (by omega)]; exact e4
  · rw [e3 d (by omega) (by omega) (by omega)]; exact e5
  · intro r hr
    rw [e3 (d + 1) (by omega) (by omega) (by omega), fr (d + 1) (by omega)]; exact c2 r hr
end
section
/-! ===== the reference: a row comes ===== -/
theorem m1lt0 : (-1 : Int32) < nI 0 := by decide
theorem n0m1 : nI 0 + (-1) = (-1 : Int32) := by decide
theorem n1m1 : nI 1 + (-1) = nI 0 := by decide
theorem X7_ring_in {F : Nat} (hF : 600 ≤ F) {R t b tu M row set : Nat} {rg : Nat → Option Nat} {h : HP} {k5 : Int32 → Int32 → HP → Option (Int32 × HP)} (hL : ln t = 66) (hb : b < 8) (hR : R ≤ 6) (ht : tu < 1000000) (hM : 1 ≤ M ∧ M ≤ 2) (eR : h 40 2 = nI R) (eT : h t 1 = nI tu) (hr : ∀ j, j < 16 → h t (34 + j) = rgI (rg j)) (hg : ∀ j, j < 16 → ∀ g, rg j = some g → g ≤ tu) :
    f_X7_rings_46 F t (nI row) k5 F (nI set) (nI b) (-1) (nI (M - 1)) h = match fhm R tu rg b M with
      | none => k5 (nI set) (nI (b + 1)) (up h t (58 + b) (h t (58 + b) + nI 1))
      | some f => k5 (nI (set ||| 2 ^ b)) (nI (b + 1)) (up (up h t (34 + (2 * b + f)) (nI tu)) t (50 + b) (h t (50 + b) + nI 1)) := by
  have e0 := rg_le (hg (2 * b) (by omega)) hR ht
  have e1 := rg_le (hg (2 * b + 1) (by omega)) hR ht
  obtain ⟨F, rfl⟩ : ∃ G, F = G + 3 := ⟨F - 3, by omega⟩
  have ib : ∀ j, j < 66 → inb (nI j) (ln t) = true := fun j hj => by rw [hL]; exact inb_t hj (by decide)
  have fin : ∀ (n : Nat) (x5 : Int32), f_X7_rings_46 (F + 3) t (nI row) k5 (n + 1) (nI set) (nI b) x5 (-1) h = if nI 0 ≤ x5 then
      (if inb (nI 1) (ln t) then
          if inb (((nI 34) + ((nI 2) * nI b)) + x5) (ln t) then
            if inb ((nI 50) + nI b) (ln t) then
              k5 (nI set ||| (jshl (nI 1) (nI b))) (nI b + (nI 1)) (up (up h t (ix (((nI 34) + ((nI 2) * nI b)) + x5)) (h t 1)) t (ix ((nI 50) + nI b)) (((up h t (ix (((nI 34) + ((nI 2) * nI b)) + x5)) (h t 1)) t (ix ((nI 50) + nI b))) + (nI 1)))
            else none
          else none
        else none)
      else
        (if inb ((nI 58) + nI b) (ln t) then
          k5 (nI set) (nI b + (nI 1)) (up h t (ix ((nI 58) + nI b)) ((h t (ix ((nI 58) + nI b))) + (nI 1)))
        else none) := by
    intro n x5
    rw [f_X7_rings_46, if_pos m1lt0]
  have fnone : ∀ n : Nat, f_X7_rings_46 (F + 3) t (nI row) k5 (n + 1) (nI set) (nI b) (-1) (-1) h = k5 (nI set) (nI (b + 1)) (up h t (58 + b) (h t (58 + b) + nI 1)) := by
    intro n
    rw [fin n (-1), if_neg (by decide), e_add, if_pos (ib (58 + b) (by omega)), e_ix (by omega), e_add]
  have fsome : ∀ (n f : Nat), f < 2 → f_X7_rings_46 (F + 3) t (nI row) k5 (n + 1) (nI set) (nI b) (nI f) (-1) h = k5 (nI (set ||| 2 ^ b)) (nI (b + 1)) (up (up h t (34 + (2 * b + f)) (nI tu)) t (50 + b) (h t (50 + b) + nI 1)) := by
    intro n f hf
    rw [fin n (nI f), if_pos (by rw [e_le (by decide) (by omega)]; omega), if_pos (ib 1 (by decide)), e_mul, e_add, e_add, e_add, if_pos (ib (34 + 2 * b + f) (by omega)), if_pos (ib (50 + b) (by omega)), e_ix (by omega), e_ix (by omega), e_one (by omega), e_or, e_add, eT, up_n (show 50 + b ≠ 34 + 2 * b + f by omega), show 34 + 2 * b + f = 34 + (2 * b + f) by omega]
  have stepg : ∀ (n hm : Nat) (x5 : Int32), hm < 2 → f_X7_rings_46 (F + 3) t (nI row) k5 (n + 1) (nI set) (nI b) x5 (nI hm) h = f_X7_rings_46 (F + 3) t (nI row) k5 n (nI set) (nI b) (if frh R tu (rg (2 * b + hm)) then nI hm else x5) (nI hm + (-1)) h := by
    intro n hm x5 hhm
    have e := rg_le (hg (2 * b + hm) (by omega)) hR ht
    rw [f_X7_rings_46, if_neg (by rw [e_lt (by omega) (by decide)]; omega), if_pos (ib 1 (by decide)), e_mul, e_add, e_add, if_pos (ib (34 + 2 * b + hm) (by omega)), e_ix (by omega), eT, show 34 + 2 * b + hm = 34 + (2 * b + hm) by omega, hr (2 * b + hm) (by omega), eR]
    by_cases g : frh R tu (rg (2 * b + hm)) = true
    · rw [if_neg (fun z => e.mp z g), if_pos g]
    · rw [if_pos (e.mpr g), if_neg g]
  have s0 : ∀ (n : Nat) (x5 : Int32), f_X7_rings_46 (F + 3) t (nI row) k5 (n + 1) (nI set) (nI b) x5 (nI 0) h = f_X7_rings_46 (F + 3) t (nI row) k5 n (nI set) (nI b) (if frh R tu (rg (2 * b)) then nI 0 else x5) (-1) h := fun n x5 => by
    have := stepg n 0 x5 (by decide)
    rw [n0m1] at this
    exact this
  unfold fhm
  rcases (show M = 1 ∨ M = 2 by omega) with rfl | rfl
  · rw [show (1 - 1 : Nat) = 0 from rfl, s0 (F + 2) (-1)]
    by_cases g0 : frh R tu (rg (2 * b)) = true
    · rw [if_pos g0, if_pos g0]
      exact fsome (F + 1) 0 (by decide)
    · rw [if_neg g0, if_neg g0, if_neg (fun z => absurd z.1 (by decide))]
      exact fnone (F + 1)
  · rw [show (2 - 1 : Nat) = 1 from rfl, stepg (F + 2) 1 (-1) (by decide), n1m1, s0 (F + 1) _]
    by_cases g0 : frh R tu (rg (2 * b)) = true
    · rw [if_pos g0, if_pos g0]
      exact fsome F 0 (by decide)
    · rw [if_neg g0, if_neg g0]
      by_cases g1 : frh R tu (rg (2 * b + 1)) = true
      · rw [if_pos g1, if_pos ⟨rfl, g1⟩]
        exact fsome F 1 (by decide)
      · rw [if_neg g1, if_neg (fun z => g1 z.2)]
        exact fnone F
theorem X7_ring_loop {F : Nat} (hF : 600 ≤ F) {R t B tu row s : Nat} {M : Nat → Nat} (hL : ln t = 66) (h40 : t ≠ 40) (hB : B ≤ 8) (hR : R ≤ 6) (ht : tu < 1000000) (hrow : row < 32) (hs : s < 256) (hM : ∀ b, b < B → 1 ≤ M b ∧ M b ≤ 2) :
    ∀ (k b n : Nat) (q : BSt) (h : HP), b + k = B → k < n → h 40 0 = nI B → h 40 2 = nI R → (∀ b, b < B → h 40 (11 + b) = nI (M b)) → h t 1 = nI tu → h t (2 + row) = nI s → MB t h q → GB tu q → q.2.2.2 < 256 →
      ∃ h', f_X7_rings_5 F t (nI row) n (nI q.2.2.2) (nI b) h = some (nI (bsf R tu M s k b q).2.2.2, h') ∧ MB t h' (bsf R tu M s k b q) ∧ h' t 0 = nI row ∧ h' t 1 = nI (tu + 1) ∧ (∀ r, r < 32 → h' t (2 + r) = h t (2 + r)) ∧ (∀ z, z ≠ t → h' z = h z) := by
  have ib : ∀ j, j < 66 → inb (nI j) (ln t) = true := fun j hj => by rw [hL]; exact inb_t hj (by decide)
  intro k
  induction k with
  | zero =>
    intro b n q h hi hn hB0 hR2 hM2 hT hp hC hG hq
    obtain ⟨n, rfl⟩ := succ_of hn
    refine ⟨up (up h t 1 (nI (tu + 1))) t 0 (nI row), ?_, ⟨fun j hj => ?_, fun b hb => ?_⟩, up_s, ?_, fun r hr => ?_, fun z hz => ?_⟩
    · rw [f_X7_rings_5, hB0, if_pos (by rw [e_le (by omega) (by omega)]; omega), if_pos (ib 1 (by decide)), if_pos (ib 0 (by decide)), hT, e_add]
      rfl
    · rw [up_n (by omega), up_n (by omega)]; exact hC.1 j hj
    · rw [up_n (by omega), up_n (by omega), up_n (by omega), up_n (by omega)]; exact hC.2 b hb
    · rw [up_n (by decide), up_s]
    · rw [up_n (by omega), up_n (by omega)]
    · rw [up_c hz, up_c hz]
  | succ k ih =>
    intro b n q h hi hn hB0 hR2 hM2 hT hp hC hG hq
    obtain ⟨n, rfl⟩ := succ_of hn
    have hbn := bn_lt s b
    have hM1 := hM b (by omega)
    rw [f_X7_rings_5, hB0, if_neg (by rw [e_le (by omega) (by omega)]; omega), e_add, if_pos (ib (2 + row) (by omega)), e_ix (by omega), hp, has_n F hs (by omega), ob_eq, i_eq (by omega) (by decide)]
    have hbs : bsf R tu M s (k + 1) b q = bsf R tu M s k (b + 1) (if bn s b = 0 then q else bst R tu M b q) := rfl
    rw [hbs]
    by_cases g : bn s b = 0
    · rw [if_pos g, if_pos g, e_add]
      exact ih (b + 1) n q h (by omega) (by omega) hB0 hR2 hM2 hT hp hC hG hq
    · rw [if_neg g, if_neg g, e_add, if_pos (inb_t (by omega) (by decide)), e_ix (by omega), hM2 b (by omega), e_sub (by omega), X7_ring_in hF hL (by omega) hR ht hM1 hR2 hT hC.1 hG]
      have hG' := GB_step (R := R) (b := b) (M := M) hG
      unfold bst at hG' ⊢
      cases hf : fhm R tu q.1 b (M b) with
      | none =>
        rw [hf] at hG'
        dsimp only at hG' ⊢
        have fr : ∀ z, z ≠ t → (up h t (58 + b) (h t (58 + b) + nI 1)) z = h z := fun z hz => up_c hz
        obtain ⟨h', e1, e2, e3, e4, e5, e6⟩ := ih (b + 1) n (q.1, q.2.1, upd q.2.2.1 b (q.2.2.1 b + nI 1), q.2.2.2) (up h t (58 + b) (h t (58 + b) + nI 1)) (by omega) (by omega) (by rw [fr 40 (Ne.symm h40)]; exact hB0) (by rw [fr 40 (Ne.symm h40)]; exact hR2) (fun b' hb' => by rw [fr 40 (Ne.symm h40)]; exact hM2 b' hb') (by rw [up_n (by omega)]; exact hT) (by rw [up_n (by omega)]; exact hp) ⟨fun j hj => by rw [up_n (by omega)]; exact hC.1 j hj, fun b' hb' => ⟨by rw [up_n (by omega)]; exact (hC.2 b' hb').1, by
            unfold upd
            dsimp only
            by_cases z : b' = b
            · rw [if_pos z, z, up_s, (hC.2 b (by omega)).2]
            · rw [if_neg z, up_n (by omega)]; exact (hC.2 b' hb').2⟩⟩ hG' hq
        exact ⟨h', e1, e2, e3, e4, fun r hr => by rw [e5 r hr, up_n (by omega)], fun z hz => by rw [e6 z hz, fr z hz]⟩
      | some f =>
        have hf2 := fhm_lt hf
        rw [hf] at hG'
        dsimp only at hG' ⊢
        have hor : q.2.2.2 ||| 2 ^ b < 2 ^ 8 := Nat.or_lt_two_pow hq (Nat.pow_lt_pow_right (by decide) (by omega))
        have fr : ∀ z, z ≠ t → (up (up h t (34 + (2 * b + f)) (nI tu)) t (50 + b) (h t (50 + b) + nI 1)) z = h z := fun z hz => by rw [up_c hz, up_c hz]
        obtain ⟨h', e1, e2, e3, e4, e5, e6⟩ := ih (b + 1) n (updO q.1 (2 * b + f) (some tu), upd q.2.1 b (q.2.1 b + nI 1), q.2.2.1, q.2.2.2 ||| 2 ^ b) (up (up h t (34 + (2 * b + f)) (nI tu)) t (50 + b) (h t (50 + b) + nI 1)) (by omega) (by omega) (by rw [fr 40 (Ne.symm h40)]; exact hB0) (by rw [fr 40 (Ne.symm h40)]; exact hR2) (fun b' hb' => by rw [fr 40 (Ne.symm h40)]; exact hM2 b' hb') (by rw [up_n (by omega), up_n (by omega)]; exact hT) (by rw [up_n (by omega), up_n (by omega)]; exact hp) ⟨fun j hj => by
            rw [up_n (by omega)]
            unfold updO
            dsimp only
            by_cases z : j = 2 * b + f
            · rw [if_pos z, z, up_s]
              rfl
            · rw [if_neg z, up_n (by omega)]; exact hC.1 j hj, fun b' hb' => ⟨by
            unfold upd
            dsimp only
            by_cases z : b' = b
            · rw [if_pos z, z, up_s, (hC.2 b (by omega)).1]
            · rw [if_neg z, up_n (by omega), up_n (by omega)]; exact (hC.2 b' hb').1, by rw [up_n (by omega), up_n (by omega)]; exact (hC.2 b' hb').2⟩⟩ hG' hor
        exact ⟨h', e1, e2, e3, e4, fun r hr => by rw [e5 r hr, up_n (by omega), up_n (by omega)], fun z hz => by rw [e6 z hz, fr z hz]⟩
theorem X7_rings_n {F : Nat} (hF : 600 ≤ F) {R t B N c row : Nat} {M : Nat → Nat} {a : ADr} {h : HP} (hL : ln t = 66) (h40 : t ≠ 40) (hB : B ≤ 8) (hR : R ≤ 6) (hc : c < 1000000) (hrow : row < 32) (hM : ∀ b, b < B → 1 ≤ M b ∧ M b ≤ 2) (hB0 : h 40 0 = nI B) (hR2 : h 40 2 = nI R) (hM2 : ∀ b, b < B → h 40 (11 + b) = nI (M b)) (hD : MD t h a) (hA : AOK B N c a) :
    ∃ h', f_X7_rings F t (nI row) h = some (nI (rowA B R M row a).1, h') ∧ MD t h' (rowA B R M row a).2 ∧ ∀ z, z ≠ t → h' z = h z := by
  obtain ⟨c0, c1, c2, c3, c4⟩ := hD
  obtain ⟨a0, a1, a2, a3⟩ := hA
  have h256 := p2le hB
  have hpr := a3 row hrow
  obtain ⟨h', e1, e2, e3, e4, e5, e6⟩ := X7_ring_loop hF hL h40 hB hR (show a.2.1 < 1000000 by omega) hrow (show a.2.2.1 row < 256 by omega) hM B 0 F (a.2.2.2.1, a.2.2.2.2.1, a.2.2.2.2.2, 0) h (by omega) (by omega) hB0 hR2 hM2 c1 (c2 row hrow) ⟨c3, c4⟩ (fun j hj g hg => Nat.le_of_lt (a2 j hj g hg)) (by show 0 < 256; decide)
  exact ⟨h', e1, ⟨e3, e4, fun r hr => by rw [e5 r hr]; exact c2 r hr, e2.1, e2.2⟩, e6⟩
/-- the row that comes next, the one ahead -/
def nxr (N la : Nat) : Nat := if la < N - 1 then la + 1 else 0
def pvr (N la : Nat) : Nat := if la = 0 then N - 1 else la - 1
theorem X0_turnOn_n {F : Nat} (hF : 600 ≤ F) {R d t B N c : Nat} {M : Nat → Nat} {a : ADr} {h : HP} (hd : d + 5 ≤ t ∨ t + 5 ≤ d) (hB : B ≤ 8) (hR : R ≤ 6) (hc : c < 1000000) (hN1 : 1 ≤ N) (hN : N ≤ 32) (hM : ∀ b, b < B → 1 ≤ M b ∧ M b ≤ 2) (hB0 : h t 0 = nI B) (hN4 : h t 4 = nI N) (hR5 : h t 5 = nI R) (hM2 : ∀ b, b < B → h (t + 2) b = nI (M b)) (hC : CD R d h a) (hA : AOK B N c a) :
    ∃ h', f_X0_turnOn F d t h = some (nI (rowA B R M (nxr N a.1) a).1, h') ∧ CD R d h' (rowA B R M (nxr N a.1) a).2 ∧ ∀ z, z ≠ d → z ≠ d + 2 → z ≠ d + 3 → z ≠ d + 4 → h' z = h z := by
  have hla := hA.1
  have hrow : nxr N a.1 < 32 := by unfold nxr; split <;> omega
  obtain ⟨h', e1, e2, e3⟩ := X0_ringRow_n hF hd hB hR hc hrow hM hB0 hR5 hM2 hC hA
  refine ⟨h', ?_, e2, e3⟩
  unfold f_X0_turnOn
  rw [hC.1, hN4, e_sub hN1, i_lt (by omega) (by omega), e_add, ite_n]
  rw [show (if a.1 < N - 1 then a.1 + 1 else 0) = nxr N a.1 from rfl, e1, ob_eq]
theorem X0_turnOff_n {F : Nat} (hF : 600 ≤ F) {R d t B N c : Nat} {M : Nat → Nat} {a : ADr} {h : HP} (hd : d + 5 ≤ t ∨ t + 5 ≤ d) (hB : B ≤ 8) (hR : R ≤ 6) (hc : c < 1000000) (hN1 : 1 ≤ N) (hN : N ≤ 32) (hM : ∀ b, b < B → 1 ≤ M b ∧ M b ≤ 2) (hB0 : h t 0 = nI B) (hN4 : h t 4 = nI N) (hR5 : h t 5 = nI R) (hM2 : ∀ b, b < B → h (t + 2) b = nI (M b)) (hC : CD R d h a) (hA : AOK B N c a) :
    ∃ h', f_X0_turnOff F d t h = some (nI (rowA B R M (pvr N a.1) a).1, h') ∧ CD R d h' (rowA B R M (pvr N a.1) a).2 ∧ ∀ z, z ≠ d → z ≠ d + 2 → z ≠ d + 3 → z ≠ d + 4 → h' z = h z := by
  have hla := hA.1
  have hrow : pvr N a.1 < 32 := by unfold pvr; split <;> omega
  obtain ⟨h', e1, e2, e3⟩ := X0_ringRow_n hF hd hB hR hc hrow hM hB0 hR5 hM2 hC hA
  refine ⟨h', ?_, e2, e3⟩
  have e : (if nI 0 < nI a.1 then nI a.1 - nI 1 else nI N - nI 1) = nI (pvr N a.1) := by
    unfold pvr
    by_cases g : a.1 = 0
    · rw [if_neg (by rw [e_lt (by decide) (by omega)]; omega), e_sub hN1, if_pos g]
    · rw [if_pos (by rw [e_lt (by decide) (by omega)]; omega), e_sub (by omega), if_neg g]
  unfold f_X0_turnOff
  rw [hC.1, hN4, e, e1, ob_eq]
theorem X7_next_n {F : Nat} (hF : 600 ≤ F) {R t B N c : Nat} {M : Nat → Nat} {a : ADr} {h : HP} (hL : ln t = 66) (h40 : t ≠ 40) (hB : B ≤ 8) (hR : R ≤ 6) (hc : c < 1000000) (hN1 : 1 ≤ N) (hN : N ≤ 32) (hM : ∀ b, b < B → 1 ≤ M b ∧ M b ≤ 2) (hB0 : h 40 0 = nI B) (hN4 : h 40 1 = nI N) (hR2 : h 40 2 = nI R) (hM2 : ∀ b, b < B → h 40 (11 + b) = nI (M b)) (hD : MD t h a) (hA : AOK B N c a) :
    ∃ h', f_X7_comesNext F t h = some (nI (rowA B R M (nxr N a.1) a).1, h') ∧ MD t h' (rowA B R M (nxr N a.1) a).2 ∧ ∀ z, z ≠ t → h' z = h z := by
  have hla := hA.1
  have hrow : nxr N a.1 < 32 := by unfold nxr; split <;> omega
  obtain ⟨h', e1, e2, e3⟩ := X7_rings_n hF hL h40 hB hR hc hrow hM hB0 hR2 hM2 hD hA
  refine ⟨h', ?_, e2, e3⟩
  unfold f_X7_comesNext
  rw [if_pos (by rw [hL]; exact inb_t (by decide) (by decide)), hD.1, hN4, e_sub hN1, i_lt (by omega) (by omega), e_add, ite_n]
  rw [show (if a.1 < N - 1 then a.1 + 1 else 0) = nxr N a.1 from rfl, e1, ob_eq]
end
section
/-! ===== drums put on a shelf and taken from it ===== -/
theorem cpA (h : HP) (c x b y n i : Nat) (hx : x < 2147483648) (hy : y < 2147483648) (hn : n < 2147483648) : cpy h c (nI x) b (nI y) (nI n) b i = if y ≤ i ∧ i < y + n then h c (x + (i - y)) else h b i := by
  rw [cpy_at h c x b y n b i hx hy hn]
  by_cases g : y ≤ i ∧ i < y + n
  · rw [if_pos ⟨rfl, g⟩, if_pos g]
  · rw [if_neg (fun z => g z.2), if_neg g]
theorem saveTo_n (F : Nat) {a s : Nat} {h : HP} (hL : 66 * s + 66 ≤ ln a) (hL2 : ln a ≤ 1000) (ha : 18 < a) :
    ∃ h1, f_X0_saveTo F 14 a (nI (66 * s)) h = some h1 ∧ (∀ i, h1 a i = if 66 * s ≤ i ∧ i < 66 * s + 66 then dv h 14 (i - 66 * s) else h a i) ∧ ∀ z, z ≠ a → h1 z = h z := by
  let H1 : HP := up (up h a (66 * s) (h 14 4)) a (66 * s + 1) (h 14 5)
  let H2 : HP := cpy H1 15 (nI 0) a (nI (66 * s + 2)) (nI 32)
  let H3 : HP := cpy H2 16 (nI 0) a (nI (66 * s + 34)) (nI 16)
  let H4 : HP := cpy H3 17 (nI 0) a (nI (66 * s + 50)) (nI 8)
  let H5 : HP := cpy H4 18 (nI 0) a (nI (66 * s + 58)) (nI 8)
  have f1 : ∀ z, z ≠ a → H1 z = h z := fun z hz => by show (up (up h a _ _) a _ _) z = _; rw [up_c hz, up_c hz]
  have f2 : ∀ z, z ≠ a → H2 z = h z := fun z hz => by show (cpy H1 15 _ a _ _) z = _; rw [cpy_c hz, f1 z hz]
  have f3 : ∀ z, z ≠ a → H3 z = h z := fun z hz => by show (cpy H2 16 _ a _ _) z = _; rw [cpy_c hz, f2 z hz]
  have f4 : ∀ z, z ≠ a → H4 z = h z := fun z hz => by show (cpy H3 17 _ a _ _) z = _; rw [cpy_c hz, f3 z hz]
  have f5 : ∀ z, z ≠ a → H5 z = h z := fun z hz => by show (cpy H4 18 _ a _ _) z = _; rw [cpy_c hz, f4 z hz]
  refine ⟨H5, ?_, fun i => ?_, f5⟩
  · unfold f_X0_saveTo
    rw [if_neg (by rw [e_lt (by omega) (by decide)]; omega), e_add, if_pos (by rw [e_le (by omega) (by omega)]; omega), if_pos (inb_t (by omega) (by omega)), e_add, if_pos (inb_t (by omega) (by omega)), e_add, show 66 * s + 1 + 1 = 66 * s + 2 by omega, e_add, show 66 * s + 2 + 32 = 66 * s + 34 by omega, e_add, show 66 * s + 34 + 16 = 66 * s + 50 by omega, e_add, show 66 * s + 50 + 8 = 66 * s + 58 by omega]
    rw [if_pos (cpb_t (by omega) (by omega) (by decide) (by omega)), if_pos (cpb_t (by omega) (by omega) (by decide) (by omega)), if_pos (cpb_t (by omega) (by omega) (by decide) (by omega)), if_pos (cpb_t (by omega) (by omega) (by decide) (by omega)), e_ix (by omega), e_ix (by omega), up_c (show (14 : Nat) ≠ a by omega)]
  · have v1 : H1 a i = if i = 66 * s + 1 then h 14 5 else if i = 66 * s then h 14 4 else h a i := by
      show (up (up h a _ _) a _ _) a i = _
      by_cases g1 : i = 66 * s + 1
      · rw [g1, up_s, if_pos rfl]
      · rw [up_n g1, if_neg g1]
        by_cases g2 : i = 66 * s
        · rw [g2, up_s, if_pos rfl]
        · rw [up_n g2, if_neg g2]
    have v2 : H2 a i = if 66 * s + 2 ≤ i ∧ i < 66 * s + 2 + 32 then h 15 (i - (66 * s + 2)) else H1 a i := by
      show (cpy H1 15 _ a _ _) a i = _
      rw [cpA _ _ _ _ _ _ _ (by decide) (by omega) (by decide), f1 15 (by omega), Nat.zero_add]
    have v3 : H3 a i = if 66 * s + 34 ≤ i ∧ i < 66 * s + 34 + 16 then h 16 (i - (66 * s + 34)) else H2 a i := by
      show (cpy H2 16 _ a _ _) a i = _
      rw [cpA _ _ _ _ _ _ _ (by decide) (by omega) (by decide), f2 16 (by omega), Nat.zero_add]
    have v4 : H4 a i = if 66 * s + 50 ≤ i ∧ i < 66 * s + 50 + 8 then h 17 (i - (66 * s + 50)) else H3 a i := by
      show (cpy H3 17 _ a _ _) a i = _
      rw [cpA _ _ _ _ _ _ _ (by decide) (by omega) (by decide), f3 17 (by omega), Nat.zero_add]
    have v5 : H5 a i = if 66 * s + 58 ≤ i ∧ i < 66 * s + 58 + 8 then h 18 (i - (66 * s + 58)) else H4 a i := by
      show (cpy H4 18 _ a _ _) a i = _
      rw [cpA _ _ _ _ _ _ _ (by decide) (by omega) (by decide), f4 18 (by omega), Nat.zero_add]
    rw [v5, v4, v3, v2, v1]
    by_cases g : 66 * s ≤ i ∧ i < 66 * s + 66
    · rw [if_pos g]
      obtain ⟨j, rfl⟩ : ∃ j, i = 66 * s + j := ⟨i - 66 * s, by omega⟩
      rw [show 66 * s + j - 66 * s = j by omega]
      unfold dv
      by_cases z0 : j = 0
      · rw [if_neg (by omega), if_neg (by omega), if_neg (by omega), if_neg (by omega), if_neg (by omega), if_pos (by omega), if_pos z0]
      by_cases z1 : j = 1
      · rw [if_neg (by omega), if_neg (by omega), if_neg (by omega), if_neg (by omega), if_pos (by omega), if_neg z0, if_pos z1]
      by_cases z2 : j < 34
      · rw [if_neg (by omega), if_neg (by omega), if_neg (by omega), if_pos (by omega), if_neg z0, if_neg z1, if_pos z2, show 66 * s + j - (66 * s + 2) = j - 2 by omega]
      by_cases z3 : j < 50
      · rw [if_neg (by omega), if_neg (by omega), if_pos (by omega), if_neg z0, if_neg z1, if_neg z2, if_pos z3, show 66 * s + j - (66 * s + 34) = j - 34 by omega]
      by_cases z4 : j < 58
      · rw [if_neg (by omega), if_pos (by omega), if_neg z0, if_neg z1, if_neg z2, if_neg z3, if_pos z4, show 66 * s + j - (66 * s + 50) = j - 50 by omega]
      · rw [if_pos (by omega), if_neg z0, if_neg z1, if_neg z2, if_neg z3, if_neg z4, show 66 * s + j - (66 * s + 58) = j - 58 by omega]
    · rw [if_neg g, if_neg (by omega), if_neg (by omega), if_neg (by omega), if_neg (by omega), if_neg (by omega), if_neg (by omega)]
/-- a drum's cells from five functions -/
theorem dv_of {h : HP} {d : Nat} {f : Nat → Int32} (h0 : h d 4 = f 0) (h1 : h d 5 = f 1) (h2 : ∀ r, r < 32 → h (d + 1) r = f (2 + r)) (h3 : ∀ r, r < 16 → h (d + 2) r = f (34 + r)) (h4 : ∀ r, r < 8 → h (d + 3) r = f (50 + r)) (h5 : ∀ r, r < 8 → h (d + 4) r = f (58 + r)) : ∀ j, j < 66 → dv h d j = f j := by
  intro j hj
  unfold dv
  by_cases z0 : j = 0
  · rw [if_pos z0, z0]; exact h0
  by_cases z1 : j = 1
  · rw [if_neg z0, if_pos z1, z1]; exact h1
  by_cases z2 : j < 34
  · rw [if_neg z0, if_neg z1, if_pos z2, h2 _ (by omega)]; congr 1; omega
  by_cases z3 : j < 50
  · rw [if_neg z0, if_neg z1, if_neg z2, if_pos z3, h3 _ (by omega)]; congr 1; omega
  by_cases z4 : j < 58
  · rw [if_neg z0, if_neg z1, if_neg z2, if_neg z3, if_pos z4, h4 _ (by omega)]; congr 1; omega
  · rw [if_neg z0, if_neg z1, if_neg z2, if_neg z3, if_neg z4, h5 _ (by omega)]; congr 1; omega
theorem loadFrom_n (F : Nat) {a s : Nat} {h : HP} (hL : 66 * s + 66 ≤ ln a) (hL2 : ln a ≤ 1000) (ha : 18 < a) :
    ∃ h1, f_X0_loadFrom F 14 a (nI (66 * s)) h = some h1 ∧ (∀ j, j < 66 → dv h1 14 j = h a (66 * s + j)) ∧ ∀ z, z < 14 ∨ 18 < z → h1 z = h z := by
  let H1 : HP := up (up h 14 4 (h a (66 * s))) 14 5 (h a (66 * s + 1))
  let H2 : HP := cpy H1 a (nI (66 * s + 2)) 15 (nI 0) (nI 32)
  let H3 : HP := cpy H2 a (nI (66 * s + 34)) 16 (nI 0) (nI 16)
  let H4 : HP := cpy H3 a (nI (66 * s + 50)) 17 (nI 0) (nI 8)
  let H5 : HP := cpy H4 a (nI (66 * s + 58)) 18 (nI 0) (nI 8)
  have f1 : ∀ z, z ≠ 14 → H1 z = h z := fun z hz => by show (up (up h 14 _ _) 14 _ _) z = _; rw [up_c hz, up_c hz]
  have f2 : ∀ z, z ≠ 15 → H2 z = H1 z := fun z hz => cpy_c hz
  have f3 : ∀ z, z ≠ 16 → H3 z = H2 z := fun z hz => cpy_c hz
  have f4 : ∀ z, z ≠ 17 → H4 z = H3 z := fun z hz => cpy_c hz
  have f5 : ∀ z, z ≠ 18 → H5 z = H4 z := fun z hz => cpy_c hz
  have a1 : H1 a = h a := f1 a (by omega)
  have a2 : H2 a = h a := by rw [f2 a (by omega), a1]
  have a3 : H3 a = h a := by rw [f3 a (by omega), a2]
  have a4 : H4 a = h a := by rw [f4 a (by omega), a3]
  refine ⟨H5, ?_, dv_of (f := fun j => h a (66 * s + j)) ?_ ?_ ?_ ?_ ?_ ?_, fun z hz => ?_⟩
  · unfold f_X0_loadFrom
    rw [if_neg (by rw [e_lt (by omega) (by decide)]; omega), e_add, if_pos (by rw [e_le (by omega) (by omega)]; omega), if_pos (inb_t (by omega) (by omega)), e_add, if_pos (inb_t (by omega) (by omega)), e_add, show 66 * s + 1 + 1 = 66 * s + 2 by omega, e_add, show 66 * s + 2 + 32 = 66 * s + 34 by omega, e_add, show 66 * s + 34 + 16 = 66 * s + 50 by omega, e_add, show 66 * s + 50 + 8 = 66 * s + 58 by omega]
    rw [if_pos (cpb_t (by omega) (by omega) (by omega) (by decide)), if_pos (cpb_t (by omega) (by omega) (by omega) (by decide)), if_pos (cpb_t (by omega) (by omega) (by omega) (by decide)), if_pos (cpb_t (by omega) (by omega) (by omega) (by decide)), e_ix (by omega), e_ix (by omega), up_c (show a ≠ 14 by omega)]
  · rw [f5 14 (by decide), f4 14 (by decide), f3 14 (by decide), f2 14 (by decide)]
    show (up (up h 14 4 _) 14 5 _) 14 4 = _
    rw [up_n (by decide), up_s]
    rfl
  · rw [f5 14 (by decide), f4 14 (by decide), f3 14 (by decide), f2 14 (by decide)]
    exact up_s
  · intro r hr
    rw [f5 15 (by decide), f4 15 (by decide), f3 15 (by decide)]
    show (cpy H1 a _ 15 _ _) 15 r = _
    rw [cpA _ _ _ _ _ _ _ (by omega) (by decide) (by decide), if_pos (by omega), a1]
    show h a _ = h a _
    congr 1; omega
  · intro r hr
    rw [f5 16 (by decide), f4 16 (by decide)]
    show (cpy H2 a _ 16 _ _) 16 r = _
    rw [cpA _ _ _ _ _ _ _ (by omega) (by decide) (by decide), if_pos (by omega), a2]
    show h a _ = h a _
    congr 1; omega
  · intro r hr
    rw [f5 17 (by decide)]
    show (cpy H3 a _ 17 _ _) 17 r = _
    rw [cpA _ _ _ _ _ _ _ (by omega) (by decide) (by decide), if_pos (by omega), a3]
    show h a _ = h a _
    congr 1; omega
  · intro r hr
    show (cpy H4 a _ 18 _ _) 18 r = _
    rw [cpA _ _ _ _ _ _ _ (by omega) (by decide) (by decide), if_pos (by omega), a4]
    show h a _ = h a _
    congr 1; omega
  · rw [f5 z (by omega), f4 z (by omega), f3 z (by omega), f2 z (by omega), f1 z (by omega)]
theorem copy_n (F : Nat) {h : HP} : ∃ h1, f_X0_copy F 19 14 h = some h1 ∧ (∀ j, j < 66 → dv h1 19 j = dv h 14 j) ∧ ∀ z, z < 19 ∨ 23 < z → h1 z = h z := by
  let H2 : HP := cpy h 15 (nI 0) 20 (nI 0) (nI 32)
  let H3 : HP := cpy H2 16 (nI 0) 21 (nI 0) (nI 16)
  let H4 : HP := cpy H3 17 (nI 0) 22 (nI 0) (nI 8)
  let H5 : HP := cpy H4 18 (nI 0) 23 (nI 0) (nI 8)
  let H6 : HP := up (up H5 19 4 (H5 14 4)) 19 5 ((up H5 19 4 (H5 14 4)) 14 5)
  have f2 : ∀ z, z ≠ 20 → H2 z = h z := fun z hz => cpy_c hz
  have f3 : ∀ z, z ≠ 21 → H3 z = H2 z := fun z hz => cpy_c hz
  have f4 : ∀ z, z ≠ 22 → H4 z = H3 z := fun z hz => cpy_c hz
  have f5 : ∀ z, z ≠ 23 → H5 z = H4 z := fun z hz => cpy_c hz
  have f6 : ∀ z, z ≠ 19 → H6 z = H5 z := fun z hz => by show (up (up H5 19 _ _) 19 _ _) z = _; rw [up_c hz, up_c hz]
  have e14 : H5 14 = h 14 := by rw [f5 14 (by decide), f4 14 (by decide), f3 14 (by decide), f2 14 (by decide)]
  refine ⟨H6, ?_, dv_of (f := dv h 14) ?_ ?_ ?_ ?_ ?_ ?_, fun z hz => ?_⟩
  · unfold f_X0_copy
    rw [if_pos (cpb_t (by decide) (by decide) (by decide) (by decide)), if_pos (cpb_t (by decide) (by decide) (by decide) (by decide)), if_pos (cpb_t (by decide) (by decide) (by decide) (by decide)), if_pos (cpb_t (by decide) (by decide) (by decide) (by decide))]
  · show (up (up H5 19 4 (H5 14 4)) 19 5 _) 19 4 = _
    rw [up_n (by decide), up_s, e14]
    rfl
  · show (up (up H5 19 4 (H5 14 4)) 19 5 _) 19 5 = _
    rw [up_s, up_c (by decide), e14]
    rfl
  · intro r hr
    rw [f6 20 (by decide), f5 20 (by decide), f4 20 (by decide), f3 20 (by decide), dv2 h 14 hr]
    show (cpy h 15 _ 20 _ _) 20 r = _
    rw [cpA _ _ _ _ _ _ _ (by decide) (by decide) (by decide), if_pos (by omega), Nat.zero_add]
    rfl
  · intro r hr
    rw [f6 21 (by decide), f5 21 (by decide), f4 21 (by decide), dv34 h 14 hr]
    show (cpy H2 16 _ 21 _ _) 21 r = _
    rw [cpA _ _ _ _ _ _ _ (by decide) (by decide) (by decide), if_pos (by omega), Nat.zero_add, f2 16 (by decide)]
    rfl
  · intro r hr
    rw [f6 22 (by decide), f5 22 (by decide), dv50 h 14 hr]
    show (cpy H3 17 _ 22 _ _) 22 r = _
    rw [cpA _ _ _ _ _ _ _ (by decide) (by decide) (by decide), if_pos (by omega), Nat.zero_add, f3 17 (by decide), f2 17 (by decide)]
    rfl
  · intro r hr
    rw [f6 23 (by decide), dv58 h 14 hr]
    show (cpy H4 18 _ 23 _ _) 23 r = _
    rw [cpA _ _ _ _ _ _ _ (by decide) (by decide) (by decide), if_pos (by omega), Nat.zero_add, f4 18 (by decide), f3 18 (by decide), f2 18 (by decide)]
    rfl
  · rw [f6 z (by omega), f5 z (by omega), f4 z (by omega), f3 z (by omega), f2 z (by omega)]
/-- a shelf: its places -/
def SHP (sf P : Nat) : Prop := sf = 24 ∧ P = 8 ∨ sf = 26 ∧ P = 2
theorem SHP.l {sf P : Nat} (h : SHP sf P) : ln (sf + 1) = 66 * P ∧ 18 < sf ∧ sf < 28 ∧ 2 ≤ P ∧ P ≤ 8 := by
  rcases h with ⟨rfl, rfl⟩ | ⟨rfl, rfl⟩ <;> exact ⟨rfl, by decide, by decide, by decide, by decide⟩
theorem put_n (F : Nat) {sf P k nx : Nat} {h : HP} (hS : SHP sf P) (hnx : nx < P) (hk : k ≤ P) (e0 : h sf 0 = nI P) (e2 : h sf 2 = nI nx) (e3 : h sf 3 = nI k) :
    ∃ h1, f_X2_put F sf 14 h = some h1 ∧ h1 sf 0 = nI P ∧ h1 sf 2 = nI ((nx + 1) % P) ∧ h1 sf 3 = nI (min (k + 1) P) ∧ (∀ i, h1 (sf + 1) i = if 66 * nx ≤ i ∧ i < 66 * nx + 66 then dv h 14 (i - 66 * nx) else h (sf + 1) i) ∧ ∀ z, z ≠ sf → z ≠ sf + 1 → h1 z = h z := by
  obtain ⟨l1, l2, l3, l4, l5⟩ := hS.l
  obtain ⟨h1, s1, s2, s3⟩ := saveTo_n F (a := sf + 1) (s := nx) (h := h) (by rw [l1]; have := Nat.mul_le_mul_left 66 (show nx + 1 ≤ P by omega); omega) (by omega) (by omega)
  have t0 : h1 sf = h sf := s3 sf (by omega)
  refine ⟨up (up h1 sf 2 (nI ((nx + 1) % P))) sf 3 (nI (min (k + 1) P)), ?_, ?_, ?_, up_s, fun i => ?_, fun z z1 z2 => ?_⟩
  · have en : (if h1 sf 0 ≤ h1 sf 2 + nI 1 then nI 0 else h1 sf 2 + nI 1) = nI ((nx + 1) % P) := by
      rw [t0, e0, e2, e_add, i_le (by omega) (by omega), ite_n]
      congr 1
      by_cases g : P ≤ nx + 1
      · rw [if_pos g, show nx + 1 = P by omega, Nat.mod_self]
      · rw [if_neg g, Nat.mod_eq_of_lt (by omega)]
    unfold f_X2_put
    rw [e2, e_mul, show nx * 66 = 66 * nx by omega, s1, obv_eq, en, up_n (show (3 : Nat) ≠ 2 by decide), up_n (show (0 : Nat) ≠ 2 by decide), t0, e3, e0, e_add, min_n F (by omega) (by omega), ob_eq]
  · rw [up_n (by decide), up_n (by decide), t0]; exact e0
  · rw [up_n (by decide), up_s]
  · rw [up_c (by omega), up_c (by omega)]; exact s2 i
  · rw [up_c z1, up_c z1, s3 z z2]
theorem take_n (F : Nat) {sf P k nx : Nat} {h : HP} (hS : SHP sf P) (hnx : nx < P) (hk : k ≤ P) (e0 : h sf 0 = nI P) (e2 : h sf 2 = nI nx) (e3 : h sf 3 = nI k) (h1k : 1 ≤ k) :
    ∃ h1, f_X2_takeInto F sf 14 h = some (nI 1, h1) ∧ h1 sf 0 = nI P ∧ h1 sf 2 = nI ((nx + P - 1) % P) ∧ h1 sf 3 = nI (k - 1) ∧ (∀ j, j < 66 → dv h1 14 j = h (sf + 1) (66 * ((nx + P - 1) % P) + j)) ∧ ∀ z, z ≠ sf → (z < 14 ∨ 18 < z) → h1 z = h z := by
  obtain ⟨l1, l2, l3, l4, l5⟩ := hS.l
  have hlt : (nx + P - 1) % P < P := Nat.mod_lt _ (by omega)
  let H1 : HP := up (up h sf 3 (nI (k - 1))) sf 2 (nI ((nx + P - 1) % P))
  have f1 : ∀ z, z ≠ sf → H1 z = h z := fun z hz => by show (up (up h sf _ _) sf _ _) z = _; rw [up_c hz, up_c hz]
  obtain ⟨h1, s1, s2, s3⟩ := loadFrom_n F (a := sf + 1) (s := (nx + P - 1) % P) (h := H1) (by rw [l1]; have := Nat.mul_le_mul_left 66 (show (nx + P - 1) % P + 1 ≤ P by omega); omega) (by omega) (by omega)
  refine ⟨h1, ?_, ?_, ?_, ?_, fun j hj => by rw [s2 j hj, f1 (sf + 1) (by omega)], fun z z1 z2 => by rw [s3 z z2, f1 z z1]⟩
  · have en : (if (up h sf 3 (nI (k - 1))) sf 2 ≤ nI 0 then (up h sf 3 (nI (k - 1))) sf 0 - nI 1 else (up h sf 3 (nI (k - 1))) sf 2 - nI 1) = nI ((nx + P - 1) % P) := by
      rw [up_n (show (2 : Nat) ≠ 3 by decide), up_n (show (0 : Nat) ≠ 3 by decide), e0, e2]
      by_cases g : nx = 0
      · rw [if_pos (by rw [e_le (by omega) (by decide)]; omega), e_sub (by omega), g, Nat.zero_add, Nat.mod_eq_of_lt (by omega)]
      · rw [if_neg (by rw [e_le (by omega) (by decide)]; omega), e_sub (by omega), show nx + P - 1 = nx - 1 + P by omega, Nat.add_mod_right, Nat.mod_eq_of_lt (by omega)]
    unfold f_X2_takeInto
    rw [e3, if_pos (by rw [e_le (by decide) (by omega)]; omega), e_sub h1k, en, up_s, e_mul, show (nx + P - 1) % P * 66 = 66 * ((nx + P - 1) % P) by omega, s1, obv_eq]
  · rw [s3 sf (Or.inr (by omega))]
    show (up (up h sf _ _) sf _ _) sf 0 = _
    rw [up_n (by decide), up_n (by decide)]; exact e0
  · rw [s3 sf (Or.inr (by omega))]
    exact up_s
  · rw [s3 sf (Or.inr (by omega))]
    show (up (up h sf _ _) sf _ _) sf 3 = _
    rw [up_n (by decide), up_s]
theorem take_no (F : Nat) {sf : Nat} {h : HP} (e3 : h sf 3 = nI 0) : f_X2_takeInto F sf 14 h = some (nI 0, h) := by
  unfold f_X2_takeInto
  rw [e3, if_neg (by decide)]
/-- the reference copies 66 numbers -/
theorem copies_loop (F : Nat) {a b x y : Nat} (hab : a ≠ b) (hx : x + 66 ≤ ln a) (hy : y + 66 ≤ ln b) (hla : ln a ≤ 1000) (hlb : ln b ≤ 1000) :
    ∀ (k i n : Nat) (h : HP), i + k = 66 → k < n → ∃ h1, f_X7_copies_3 F a (nI x) b (nI y) n (nI i) h = some h1 ∧ (∀ j, h1 b j = if y + i ≤ j ∧ j < y + 66 then h a (x + (j - y)) else h b j) ∧ ∀ z, z ≠ b → h1 z = h z := by
  intro k
  induction k with
  | zero =>
    intro i n h hi hn
    obtain ⟨n, rfl⟩ := succ_of hn
    refine ⟨h, ?_, fun j => by rw [if_neg (by omega)], fun _ _ => rfl⟩
    rw [f_X7_copies_3, if_pos (by rw [e_le (by decide) (by omega)]; omega)]
  | succ k ih =>
    intro i n h hi hn
    obtain ⟨n, rfl⟩ := succ_of hn
    obtain ⟨h1, s1, s2, s3⟩ := ih (i + 1) n (up h b (y + i) (h a (x + i))) (by omega) (by omega)
    refine ⟨h1, ?_, fun j => ?_, fun z hz => by rw [s3 z hz, up_c hz]⟩
    · rw [f_X7_copies_3, if_neg (by rw [e_le (by decide) (by omega)]; omega), e_add, e_add, if_pos (inb_t (by omega) (by omega)), if_pos (inb_t (by omega) (by omega)), e_ix (by omega), e_ix (by omega), e_add, s1]
    · rw [s2 j, up_c hab]
      by_cases g : y + (i + 1) ≤ j ∧ j < y + 66
      · rw [if_pos g, if_pos (by omega)]
      · rw [if_neg g]
        by_cases g2 : j = y + i
        · rw [g2, up_s, if_pos (by omega), show x + (y + i - y) = x + i by omega]
        · rw [up_n g2, if_neg (by omega)]
theorem copies_n {F : Nat} (hF : 600 ≤ F) {a b x y : Nat} {h : HP} (hab : a ≠ b) (hx : x + 66 ≤ ln a) (hy : y + 66 ≤ ln b) (hla : ln a ≤ 1000) (hlb : ln b ≤ 1000) :
    ∃ h1, f_X7_copies F a (nI x) b (nI y) h = some h1 ∧ (∀ j, h1 b j = if y ≤ j ∧ j < y + 66 then h a (x + (j - y)) else h b j) ∧ ∀ z, z ≠ b → h1 z = h z :=
  copies_loop F hab hx hy hla hlb 66 0 F h (by omega) (by omega)
/-- the reference's row of drums gives way -/
theorem rem_loop (F : Nat) : ∀ (k i n : Nat) (h : HP), i + k = 462 → k < n → ∃ h1, f_X7_remember_11 F n (nI i) h = f_X7_remember_49 F (up h1 39 6 ((h1 39 6) - (nI 1))) ∧ (∀ j, h1 44 j = if i ≤ j ∧ j < 462 then h 44 (j + 66) else h 44 j) ∧ ∀ z, z ≠ 44 → h1 z = h z := by
  intro k
  induction k with
  | zero =>
    intro i n h hi hn
    obtain ⟨n, rfl⟩ := succ_of hn
    refine ⟨h, ?_, fun j => by rw [if_neg (by omega)], fun _ _ => rfl⟩
    rw [f_X7_remember_11, if_pos (by rw [e_le (by decide) (by omega)]; omega)]
  | succ k ih =>
    intro i n h hi hn
    obtain ⟨n, rfl⟩ := succ_of hn
    obtain ⟨h1, s1, s2, s3⟩ := ih (i + 1) n (up h 44 i (h 44 (i + 66))) (by omega) (by omega)
    refine ⟨h1, ?_, fun j => ?_, fun z hz => by rw [s3 z hz, up_c hz]⟩
    · rw [f_X7_remember_11, if_neg (by rw [e_le (by decide) (by omega)]; omega), e_add, if_pos (inb_t (by omega) (by decide)), if_pos (inb_t (by omega) (by decide)), e_ix (by omega), e_ix (by omega), e_add, s1]
    · rw [s2 j]
      by_cases g : i + 1 ≤ j ∧ j < 462
      · rw [if_pos g, if_pos (by omega), up_n (by omega)]
      · rw [if_neg g]
        by_cases g2 : j = i
        · rw [g2, up_s, if_pos (by omega)]
        · rw [up_n g2, if_neg (by omega)]
theorem remember_n {F : Nat} (hF : 600 ≤ F) {k : Nat} {h : HP} (hk : k ≤ 8) (e : h 39 6 = nI k) :
    ∃ h1, f_X7_remember F h = some h1 ∧ h1 39 6 = nI (min (k + 1) 8) ∧ (∀ j, h1 44 j = if 66 * (min k 7) ≤ j ∧ j < 66 * (min k 7) + 66 then h 43 (j - 66 * (min k 7)) else if k = 8 ∧ j < 462 then h 44 (j + 66) else h 44 j) ∧ (∀ z, z ≠ 44 → z ≠ 39 → h1 z = h z) ∧ ∀ j, j ≠ 6 → h1 39 j = h 39 j := by
  have k49 : ∀ (m : Nat) (g : HP), m < 8 → g 39 6 = nI m → ∃ h1, f_X7_remember_49 F g = some h1 ∧ h1 39 6 = nI (m + 1) ∧ (∀ j, h1 44 j = if 66 * m ≤ j ∧ j < 66 * m + 66 then g 43 (j - 66 * m) else g 44 j) ∧ (∀ z, z ≠ 44 → z ≠ 39 → h1 z = g z) ∧ ∀ j, j ≠ 6 → h1 39 j = g 39 j := by
    intro m g hm eg
    obtain ⟨h1, s1, s2, s3⟩ := copies_n hF (a := 43) (b := 44) (x := 0) (y := 66 * m) (h := g) (by decide) (by decide) (by show 66 * m + 66 ≤ 528; omega) (by decide) (by decide)
    refine ⟨up h1 39 6 (nI (m + 1)), ?_, up_s, fun j => ?_, fun z z1 z2 => by rw [up_c z2, s3 z z1], fun j hj => by rw [up_n hj, s3 39 (by decide)]⟩
    · unfold f_X7_remember_49
      rw [eg, e_mul, s1, obv_eq, s3 39 (by decide), eg, e_add]
    · rw [up_c (by decide), s2 j]
      by_cases z : 66 * m ≤ j ∧ j < 66 * m + 66
      · rw [if_pos z, if_pos z, Nat.zero_add]
      · rw [if_neg z, if_neg z]
  unfold f_X7_remember
  by_cases g8 : k = 8
  · subst g8
    obtain ⟨h0, s1, s2, s3⟩ := rem_loop F 462 0 F h (by omega) (by omega)
    have e39 : h0 39 = h 39 := s3 39 (by decide)
    obtain ⟨h1, t1, t2, t3, t4, t5⟩ := k49 7 (up h0 39 6 ((h0 39 6) - (nI 1))) (by decide) (by rw [up_s, e39, e, e_sub (by decide)])
    refine ⟨h1, ?_, t2, fun j => ?_, fun z z1 z2 => by rw [t4 z z1 z2, up_c z2, s3 z z1], fun j hj => by rw [t5 j hj, up_n hj, e39]⟩
    · rw [e, if_pos rfl, s1, t1]
    · rw [t3 j, up_c (by decide), up_c (by decide), s3 43 (by decide), s2 j]
      show _ = if 66 * 7 ≤ j ∧ j < 66 * 7 + 66 then _ else _
      by_cases z : 66 * 7 ≤ j ∧ j < 66 * 7 + 66
      · rw [if_pos z, if_pos z]
        rfl
      · rw [if_neg z, if_neg z]
        by_cases y : j < 462
        · rw [if_pos (by omega), if_pos ⟨rfl, y⟩]
        · rw [if_neg (by omega), if_neg (by omega)]
  · obtain ⟨h1, t1, t2, t3, t4, t5⟩ := k49 k h (by omega) e
    refine ⟨h1, ?_, by rw [t2, Nat.min_eq_left (by omega)], fun j => ?_, t4, t5⟩
    · rw [e, if_neg (by rw [e_eq (by omega) (by decide)]; exact g8), t1]
    · rw [t3 j, Nat.min_eq_left (show k ≤ 7 by omega)]
      by_cases z : 66 * k ≤ j ∧ j < 66 * k + 66
      · rw [if_pos z, if_pos z]
      · rw [if_neg z, if_neg z, if_neg (fun y => g8 y.1)]
end
section
/-! ===== turn, turnBack, pin, shift, undo, keep, back ===== -/
theorem CS.congr {R : Nat} {s s' m m' : Nat → Int32} (h : CS R s m) (hs : ∀ j, j < 66 → s' j = s j) (hm : ∀ j, j < 66 → m' j = m j) : CS R s' m' := by
  refine ⟨fun j hj hj2 => by rw [hs j hj, hm j hj]; exact h.1 j hj hj2, fun j hj => ?_⟩
  rw [hs (34 + j) (by omega), hm (34 + j) (by omega)]
  exact h.2 j hj
theorem SOK.congr {B N c : Nat} {m m' : Nat → Int32} (h : SOK B N c m) (hm : ∀ j, j < 66 → m' j = m j) : SOK B N c m' := by
  obtain ⟨⟨la, a1, a2⟩, ⟨tu, b1, b2, b3⟩, d⟩ := h
  refine ⟨⟨la, a1, by rw [hm 0 (by decide)]; exact a2⟩, ⟨tu, b1, by rw [hm 1 (by decide)]; exact b2, fun j hj => by rw [hm (34 + j) (by omega)]; exact b3 j hj⟩, fun r hr => by rw [hm (2 + r) (by omega)]; exact d r hr⟩
theorem mod_ne {P n m : Nat} (hn : n < P) (h1 : 1 ≤ m) (hm : m < P) : (n + m) % P ≠ n := by
  by_cases g : n + m < P
  · rw [Nat.mod_eq_of_lt g]; omega
  · rw [Nat.mod_eq_sub_mod (by omega), Nat.mod_eq_of_lt (by omega)]; omega
theorem push_n {R B N c P sf mb k nx : Nat} {h g : HP} (hP : 2 ≤ P) (hk : k ≤ P) (hnx : nx < P) (hsl : ∀ i, i < k → CS R (fun j => h (sf + 1) (66 * ((nx + P - k + i) % P) + j)) (fun j => h mb (66 * i + j)) ∧ SOK B N c (fun j => h mb (66 * i + j))) (hcs : CS R (dv h 14) (h 43)) (hso : SOK B N c (h 43))
    (g0 : g sf 0 = nI P) (g2 : g sf 2 = nI ((nx + 1) % P)) (g3 : g sf 3 = nI (min (k + 1) P)) (gc : ∀ i, g (sf + 1) i = if 66 * nx ≤ i ∧ i < 66 * nx + 66 then dv h 14 (i - 66 * nx) else h (sf + 1) i)
    (gm1 : k < P → (∀ i, i < k → ∀ j, j < 66 → g mb (66 * i + j) = h mb (66 * i + j)) ∧ ∀ j, j < 66 → g mb (66 * k + j) = h 43 j)
    (gm2 : k = P → (∀ i, i + 1 < P → ∀ j, j < 66 → g mb (66 * i + j) = h mb (66 * (i + 1) + j)) ∧ ∀ j, j < 66 → g mb (66 * (P - 1) + j) = h 43 j) : SR R B N c P sf mb (min (k + 1) P) g := by
  have hlt : (nx + 1) % P < P := Nat.mod_lt _ (by omega)
  have cnew : ∀ j, j < 66 → g (sf + 1) (66 * nx + j) = dv h 14 j := fun j hj => by
    rw [gc, if_pos (by omega), show 66 * nx + j - 66 * nx = j by omega]
  have cold : ∀ s, s < P → s ≠ nx → ∀ j, j < 66 → g (sf + 1) (66 * s + j) = h (sf + 1) (66 * s + j) := fun s hs hne j hj => by
    rw [gc, if_neg]
    rcases Nat.lt_or_ge s nx with z | z
    · have := Nat.mul_le_mul_left 66 (show s + 1 ≤ nx by omega); omega
    · have := Nat.mul_le_mul_left 66 (show nx + 1 ≤ s by omega); omega
  refine ⟨Nat.min_le_right _ _, g0, g3, (nx + 1) % P, hlt, g2, fun i hi => ?_⟩
  rcases Nat.lt_or_ge k P with z | z
  · rw [Nat.min_eq_left (show k + 1 ≤ P by omega)] at hi ⊢
    obtain ⟨m1, m2⟩ := gm1 z
    have es : ((nx + 1) % P + P - (k + 1) + i) % P = (nx + P - k + i) % P := by
      rw [show (nx + 1) % P + P - (k + 1) + i = (nx + 1) % P + (P - (k + 1) + i) by omega, Nat.mod_add_mod, show nx + 1 + (P - (k + 1) + i) = nx + P - k + i by omega]
    rw [es]
    rcases Nat.lt_or_ge i k with y | y
    · have hs : (nx + P - k + i) % P < P := Nat.mod_lt _ (by omega)
      have hne : (nx + P - k + i) % P ≠ nx := by
        rw [show nx + P - k + i = nx + (P - k + i) by omega]
        exact mod_ne hnx (by omega) (by omega)
      obtain ⟨q1, q2⟩ := hsl i y
      exact ⟨q1.congr (fun j hj => cold _ hs hne j hj) (fun j hj => m1 i y j hj), q2.congr (fun j hj => m1 i y j hj)⟩
    · have hik : i = k := by omega
      subst hik
      have hs : (nx + P - i + i) % P = nx := by rw [show nx + P - i + i = nx + P by omega, Nat.add_mod_right, Nat.mod_eq_of_lt hnx]
      rw [hs]
      exact ⟨hcs.congr (fun j hj => cnew j hj) (fun j hj => m2 j hj), hso.congr (fun j hj => m2 j hj)⟩
  · have hkP : k = P := by omega
    subst hkP
    rw [Nat.min_eq_right (show k ≤ k + 1 by omega)] at hi ⊢
    obtain ⟨m1, m2⟩ := gm2 rfl
    have es : ((nx + 1) % k + k - k + i) % k = (nx + 1 + i) % k := by
      rw [show (nx + 1) % k + k - k + i = (nx + 1) % k + i by omega, Nat.mod_add_mod]
    rw [es]
    rcases Nat.lt_or_ge (i + 1) k with y | y
    · have hs : (nx + 1 + i) % k < k := Nat.mod_lt _ (by omega)
      have hne : (nx + 1 + i) % k ≠ nx := by
        rw [show nx + 1 + i = nx + (1 + i) by omega]
        exact mod_ne hnx (by omega) (by omega)
      obtain ⟨q1, q2⟩ := hsl (i + 1) y
      rw [show nx + k - k + (i + 1) = nx + 1 + i by omega] at q1
      exact ⟨q1.congr (fun j hj => cold _ hs hne j hj) (fun j hj => m1 i y j hj), q2.congr (fun j hj => m1 i y j hj)⟩
    · have hik : i = k - 1 := by omega
      have hs : (nx + 1 + i) % k = nx := by rw [show nx + 1 + i = nx + k by omega, Nat.add_mod_right, Nat.mod_eq_of_lt hnx]
      rw [hs, hik]
      exact ⟨hcs.congr (fun j hj => cnew j hj) (fun j hj => m2 j hj), hso.congr (fun j hj => m2 j hj)⟩
theorem pop_n {R B N c P sf mb k nx : Nat} {h g : HP} (hP : 2 ≤ P) (hk : k ≤ P) (h1 : 1 ≤ k) (hnx : nx < P) (hsl : ∀ i, i < k → CS R (fun j => h (sf + 1) (66 * ((nx + P - k + i) % P) + j)) (fun j => h mb (66 * i + j)) ∧ SOK B N c (fun j => h mb (66 * i + j)))
    (g0 : g sf 0 = nI P) (g2 : g sf 2 = nI ((nx + P - 1) % P)) (g3 : g sf 3 = nI (k - 1)) (gc : g (sf + 1) = h (sf + 1)) (gm : g mb = h mb) : SR R B N c P sf mb (k - 1) g := by
  have hlt : (nx + P - 1) % P < P := Nat.mod_lt _ (by omega)
  refine ⟨by omega, g0, g3, (nx + P - 1) % P, hlt, g2, fun i hi => ?_⟩
  rw [gc, gm]
  have es : ((nx + P - 1) % P + P - (k - 1) + i) % P = (nx + P - k + i) % P := by
    rw [show (nx + P - 1) % P + P - (k - 1) + i = (nx + P - 1) % P + (P - (k - 1) + i) by omega, Nat.mod_add_mod, show nx + P - 1 + (P - (k - 1) + i) = nx + P - k + i + P by omega, Nat.add_mod_right]
  rw [es]
  exact hsl i (by omega)
theorem INV.new {c' B N R : Nat} {T M : Nat → Nat} {tw : TW} {h g : HP} (hK : TWK tw) (hT : TF B N R T M) (hC : CTw B N R T M tw.1 h) (hM : MTw B N R T M h) (hW : WT B h) (hH : HD h) (hX : TX h) (qt : ∀ j, j < 4 → g (tw.1 + j) = h (tw.1 + j)) (q : ∀ z, z ∈ ([2, 28, 29, 40, 46, 47, 48] : List Nat) → g z = h z) (q0 : g 0 9 = h 0 9) (q1 : g 1 1 = h 1 1) (q10 : g 39 10 = h 39 10) (q13 : g 39 13 = h 39 13)
    (hS : SOK B N c' (g 43)) (hD : CS R (dv g 14) (g 43)) (hU : ∃ k, SR R B N c' 8 24 44 k g ∧ g 39 6 = nI k) (hV : ∃ k, SR R B N c' 2 26 45 k g ∧ g 39 8 = nI k) : INV c' tw g :=
  ⟨hK, B, N, R, T, M, hT, hC.re qt, hM.re (q 40 (by decide)), hS, hD, hU, hV, hW.re (q 28 (by decide)) (q 47 (by decide)), hH.re q0 q13 (q 29 (by decide)) (q 48 (by decide)), hX.re q1 q10 (q 2 (by decide)) (q 46 (by decide))⟩
theorem CD.re {R d : Nat} {h g : HP} {a : ADr} (hC : CD R d h a) (e : ∀ j, j < 5 → g (d + j) = h (d + j)) : CD R d g a := by
  have e0 : g d = h d := e 0 (by decide)
  unfold CD
  rw [e0, e 1 (by decide), e 2 (by decide), e 3 (by decide), e 4 (by decide)]
  exact hC
theorem MD.re {t : Nat} {h g : HP} {a : ADr} (hM : MD t h a) (e : g t = h t) : MD t g a := by unfold MD; rw [e]; exact hM
/-- put and remember: what stands behind them -/
theorem both_put {F : Nat} (hF : 600 ≤ F) {R B N c k : Nat} {h : HP} (hU : SR R B N c 8 24 44 k h) (hU' : h 39 6 = nI k) (hS : SOK B N c (h 43)) (hD : CS R (dv h 14) (h 43)) :
    ∃ h1, f_X2_put F 24 14 h = some h1 ∧ (∀ z, z ≠ 24 → z ≠ 25 → h1 z = h z) ∧ ∀ h2 : HP, (∀ z, 39 ≤ z → h2 z = h z) → ∃ h3, f_X7_remember F h2 = some h3 ∧ (∀ z, z ≠ 44 → z ≠ 39 → h3 z = h2 z) ∧ (∀ j, j ≠ 6 → h3 39 j = h 39 j) ∧
      ∀ g : HP, g 24 = h1 24 → g 25 = h1 25 → g 44 = h3 44 → g 39 6 = h3 39 6 → ∃ k', SR R B N c 8 24 44 k' g ∧ g 39 6 = nI k' := by
  obtain ⟨hk, e0, e3, nx, hnx, e2, hsl⟩ := hU
  obtain ⟨h1, p1, p2, p3, p4, p5, p6⟩ := put_n F (Or.inl ⟨rfl, rfl⟩) hnx hk e0 e2 e3
  refine ⟨h1, p1, p6, fun h2 hh2 => ?_⟩
  obtain ⟨h3, r1, r2, r3, r4, r5⟩ := remember_n hF (h := h2) hk (by rw [hh2 39 (by decide)]; exact hU')
  refine ⟨h3, r1, r4, fun j hj => by rw [r5 j hj, hh2 39 (by decide)], fun g g24 g25 g44 g39 => ⟨min (k + 1) 8, ?_, by rw [g39]; exact r2⟩⟩
  refine push_n (h := h) (by decide) hk hnx hsl hD hS (by rw [g24]; exact p2) (by rw [g24]; exact p3) (by rw [g24]; exact p4) (fun i => by rw [g25]; exact p5 i) (fun hk8 => ⟨fun i hi j hj => ?_, fun j hj => ?_⟩) (fun hk8 => ⟨fun i hi j hj => ?_, fun j hj => ?_⟩)
  · rw [g44, r3, Nat.min_eq_left (show k ≤ 7 by omega), if_neg (by have := Nat.mul_le_mul_left 66 (show i + 1 ≤ k by omega); omega), if_neg (by omega), hh2 44 (by decide)]
  · rw [g44, r3, Nat.min_eq_left (show k ≤ 7 by omega), if_pos (by omega), hh2 43 (by decide), show 66 * k + j - 66 * k = j by omega]
  · rw [g44, r3, hk8]
    show (if 66 * 7 ≤ 66 * i + j ∧ 66 * i + j < 66 * 7 + 66 then _ else _) = _
    rw [if_neg (by omega), if_pos (by omega), hh2 44 (by decide)]
    congr 1; omega
  · rw [g44, r3, hk8]
    show (if 66 * 7 ≤ 66 * 7 + j ∧ 66 * 7 + j < 66 * 7 + 66 then h2 43 (66 * 7 + j - 66 * 7) else _) = _
    rw [if_pos (by omega), hh2 43 (by decide), show 66 * 7 + j - 66 * 7 = j by omega]
/-- a call that changes the drum, behind put and remember -/
theorem drum_core {F c : Nat} (hF : 600 ≤ F) (hc : c < 900000) {tw : TW} {h : HP} (i : INV c tw h) (fX : HP → Option (Int32 × HP)) (fM : HP → Option (Int32 × HP))
    (hq : ∀ (B N R : Nat) (T M : Nat → Nat) (a : ADr), TF B N R T M → CTw B N R T M tw.1 h → MTw B N R T M h → CD R 14 h a → AOK B N c a → ∃ (r : Int32) (a' : ADr), AOK B N (c + 1) a' ∧
      (∀ h1 : HP, CTw B N R T M tw.1 h1 → CD R 14 h1 a → ∃ h', fX h1 = some (r, h') ∧ CD R 14 h' a' ∧ ∀ z, (z < 14 ∨ 18 < z) → z ≠ 20 → h' z = h1 z) ∧
      (∀ h1 : HP, MTw B N R T M h1 → MD 43 h1 a → ∃ h', fM h1 = some (r, h') ∧ MD 43 h' a' ∧ ∀ z, z ≠ 43 → z ≠ 51 → h' z = h1 z)) :
    Step (fun h => obv (f_X2_put F 24 14 h) fX) (fun h => obv (f_X7_remember F h) fM) c tw h := by
  obtain ⟨hK, B, N, R, T, M, hT, hC, hMt, hS, hD, ⟨k1, hU, hU'⟩, ⟨k2, hV, hV'⟩, hW, hH, hTX⟩ := i
  have hKc := hK.c
  obtain ⟨a, a1, a2, a3⟩ := toAD hT.2.1 (by omega) hS hD
  obtain ⟨h1, p1, p2, p3⟩ := both_put hF hU hU' hS hD
  obtain ⟨r, a', hA', hX, hM⟩ := hq B N R T M a hT hC hMt a1 a3
  obtain ⟨h2, x1, x2, x3⟩ := hX h1 (hC.re (fun j hj => p2 _ (by omega) (by omega))) (a1.re (fun j hj => p2 _ (by omega) (by omega)))
  obtain ⟨h3, r1, r2, r3, r4⟩ := p3 h2 (fun z hz => by rw [x3 z (by omega) (by omega), p2 z (by omega) (by omega)])
  have e3 : ∀ z, 39 < z → z ≠ 44 → h3 z = h z := fun z hz hz2 => by rw [r2 z hz2 (by omega), x3 z (by omega) (by omega), p2 z (by omega) (by omega)]
  obtain ⟨h4, m1, m2, m3⟩ := hM h3 (hMt.re (e3 40 (by decide) (by decide))) (a2.re (e3 43 (by decide) (by decide)))
  have low : ∀ z, z < 39 → h4 z = h2 z := fun z hz => by rw [m3 z (by omega) (by omega), r2 z (by omega) (by omega)]
  have frm : ∀ z, z < 39 → (z < 14 ∨ 18 < z) → z ≠ 20 → z ≠ 24 → z ≠ 25 → h4 z = h z := fun z hz z1 z0 z2 z3 => by rw [low z hz, x3 z z1 z0, p2 z z2 z3]
  have hi : ∀ z, 39 < z → z ≠ 44 → z ≠ 43 → z ≠ 51 → h4 z = h z := fun z z1 z2 z3 z4 => by rw [m3 z z3 z4, e3 z z1 z2]
  have e39 : h4 39 = h3 39 := m3 39 (by decide) (by decide)
  obtain ⟨hS', hD'⟩ := ofAD (by omega) (x2.re (fun j hj => low _ (by omega))) m2 hA'
  refine ⟨_, h2, h4, by show obv _ _ = _; rw [p1, obv_eq, x1], by show obv _ _ = _; rw [r1, obv_eq, m1], ?_⟩
  refine INV.new hK hT hC hMt hW hH hTX (fun j hj => frm _ (by omega) (by omega) (by omega) (by omega) (by omega)) (fun z hz => ?_) (by rw [frm 0 (by decide) (by decide) (by decide) (by decide) (by decide)]) (by rw [frm 1 (by decide) (by decide) (by decide) (by decide) (by decide)]) (by rw [e39, r3 10 (by decide)]) (by rw [e39, r3 13 (by decide)]) hS' hD' ?_ ⟨k2, (hV.re (frm 26 (by decide) (by decide) (by decide) (by decide) (by decide)) (frm 27 (by decide) (by decide) (by decide) (by decide) (by decide)) (hi 45 (by decide) (by decide) (by decide) (by decide))).mono (Nat.le_succ c), by rw [e39, r3 8 (by decide)]; exact hV'⟩
  · simp only [List.mem_cons, List.not_mem_nil, or_false] at hz
    rcases hz with rfl | rfl | rfl | rfl | rfl | rfl | rfl
    · exact frm 2 (by decide) (by decide) (by decide) (by decide) (by decide)
    · exact frm 28 (by decide) (by decide) (by decide) (by decide) (by decide)
    · exact frm 29 (by decide) (by decide) (by decide) (by decide) (by decide)
    · exact hi 40 (by decide) (by decide) (by decide) (by decide)
    · exact hi 46 (by decide) (by decide) (by decide) (by decide)
    · exact hi 47 (by decide) (by decide) (by decide) (by decide)
    · exact hi 48 (by decide) (by decide) (by decide) (by decide)
  · obtain ⟨k', s1, s2⟩ := r4 h4 (by rw [low 24 (by decide), x3 24 (by decide) (by decide)]) (by rw [low 25 (by decide), x3 25 (by decide) (by decide)]) (m3 44 (by decide) (by decide)) (by rw [e39])
    exact ⟨k', s1.mono (Nat.le_succ c), s2⟩
theorem nxr_lt {N la : Nat} (h2 : 2 ≤ N) (h : la ≤ N) : nxr N la < N := by unfold nxr; split <;> omega
theorem pvr_lt {N la : Nat} (h2 : 2 ≤ N) (h : la ≤ N) : pvr N la < N := by unfold pvr; split <;> omega
theorem op_turn {F c : Nat} (hF : 600 ≤ F) (hc : c < 900000) {tw : TW} {h : HP} (i : INV c tw h) : Step (f_X6_turn F tw) (f_X7_turn F) c tw h := by
  have hKc := i.1.c
  refine drum_core hF hc i (fun h1 => ob (f_X0_turnOn F 14 tw.1 h1) (fun v5 h3 => some (v5, h3))) (fun h1 => ob (f_X7_comesNext F 43 h1) (fun v5 h3 => some (v5, h3))) ?_
  intro B N R T M a hT _ _ _ hA
  obtain ⟨hB1, hB8, hN2, hN32, hR6, hTM⟩ := hT
  refine ⟨nI (rowA B R M (nxr N a.1) a).1, (rowA B R M (nxr N a.1) a).2, AOK_row (R := R) (M := M) hA (Nat.le_of_lt (nxr_lt hN2 hA.1)), fun h1 hC hD => ?_, fun h1 hC hD => ?_⟩
  · obtain ⟨h', e1, e2, e3⟩ := X0_turnOn_n hF (t := tw.1) (by omega) hB8 hR6 (show c < 1000000 by omega) (by omega) hN32 (fun b hb => (hTM b hb).2) hC.1 hC.2.1 hC.2.2.1 (fun b hb => (hC.2.2.2 b hb).2.1) hD hA
    exact ⟨h', by show ob _ _ = _; rw [e1, ob_eq], e2, fun z z1 _ => e3 z (by omega) (by omega) (by omega) (by omega)⟩
  · obtain ⟨h', e1, e2, e3⟩ := X7_next_n hF rfl (by decide) hB8 hR6 (show c < 1000000 by omega) (by omega) hN32 (fun b hb => (hTM b hb).2) hC.1 hC.2.1 hC.2.2.1 (fun b hb => (hC.2.2.2 b hb).2) hD hA
    exact ⟨h', by show ob _ _ = _; rw [e1, ob_eq], e2, fun z z1 _ => e3 z z1⟩
theorem op_turnBack {F c : Nat} (hF : 600 ≤ F) (hc : c < 900000) {tw : TW} {h : HP} (i : INV c tw h) : Step (f_X6_turnBack F tw) (f_X7_turnBack F) c tw h := by
  have hKc := i.1.c
  refine drum_core hF hc i (fun h1 => ob (f_X0_turnOff F 14 tw.1 h1) (fun v5 h3 => some (v5, h3))) (fun h1 => ob (f_X7_rings F 43 (if (h1 43 0) = nI 0 then (h1 40 1) - (nI 1) else (h1 43 0) - (nI 1)) h1) (fun v5 h3 => some (v5, h3))) ?_
  intro B N R T M a hT _ _ _ hA
  obtain ⟨hB1, hB8, hN2, hN32, hR6, hTM⟩ := hT
  have hp := pvr_lt hN2 hA.1
  have hla := hA.1
  refine ⟨nI (rowA B R M (pvr N a.1) a).1, (rowA B R M (pvr N a.1) a).2, AOK_row (R := R) (M := M) hA (Nat.le_of_lt hp), fun h1 hC hD => ?_, fun h1 hC hD => ?_⟩
  · obtain ⟨h', e1, e2, e3⟩ := X0_turnOff_n hF (t := tw.1) (by omega) hB8 hR6 (show c < 1000000 by omega) (by omega) hN32 (fun b hb => (hTM b hb).2) hC.1 hC.2.1 hC.2.2.1 (fun b hb => (hC.2.2.2 b hb).2.1) hD hA
    exact ⟨h', by show ob _ _ = _; rw [e1, ob_eq], e2, fun z z1 _ => e3 z (by omega) (by omega) (by omega) (by omega)⟩
  · obtain ⟨h', e1, e2, e3⟩ := X7_rings_n hF (t := 43) (row := pvr N a.1) rfl (by decide) hB8 hR6 (show c < 1000000 by omega) (by omega) (fun b hb => (hTM b hb).2) hC.1 hC.2.2.1 (fun b hb => (hC.2.2.2 b hb).2) hD hA
    refine ⟨h', ?_, e2, fun z z1 _ => e3 z z1⟩
    have e : (if h1 43 0 = nI 0 then h1 40 1 - nI 1 else h1 43 0 - nI 1) = nI (pvr N a.1) := by
      rw [hD.1, hC.2.1]
      unfold pvr
      by_cases g : a.1 = 0
      · rw [if_pos (by rw [g]), if_pos g, e_sub (by omega)]
      · rw [if_neg (by rw [e_eq (by omega) (by decide)]; exact g), if_neg g, e_sub (by omega)]
    show ob _ _ = _
    rw [e, e1, ob_eq]
def updN (f : Nat → Nat) (k x : Nat) : Nat → Nat := fun j => if j = k then x else f j
theorem op_pin {F c : Nat} (hF : 600 ≤ F) (hc : c < 900000) {tw : TW} {h : HP} (i : INV c tw h) (x y w : Int32) : Step (f_X6_pin F tw x y w) (f_X7_pin F x y w) c tw h := by
  have i0 := i
  obtain ⟨hK, B, N, R, T, M, hT, hC, hMt, hS, hD, hrest⟩ := i
  obtain ⟨hB1, hB8, hN2, hN32, hR6, hTM⟩ := id hT
  have h256 := p2le hB8
  rcases cas x (n := N) (by omega) with ⟨r, hr, rfl⟩ | hx
  · rcases cas y (n := B) (by omega) with ⟨b, hb, rfl⟩ | hy
    · obtain ⟨q1, q2, q3⟩ := pv_of hB8 hS (show r < 32 by omega)
      have q15 : h 15 r = nI (pv h r) := by rw [pin_of hD (by omega)]; exact q1
      have hbn := bn_lt (pv h r) b
      have eb : (if nI (bn (pv h r) b) = nI 1 then nI 1 else nI 0) = nI (bn (pv h r) b) := by
        rcases bn01 (pv h r) b with e | e <;> rw [e]
        · rw [if_neg (by decide)]
        · rw [if_pos rfl]
      have hXe : f_X6_pin F tw (nI r) (nI b) w h = if nI (bn (pv h r) b) = w then some (-2, h) else obv (f_X2_put F 24 14 h) (fun h11 => ob (f_J6_bitCount_0f7a4 F ((up h11 15 r ((h11 15 r) ^^^ nI (2 ^ b))) 15 r) (up h11 15 r ((h11 15 r) ^^^ nI (2 ^ b)))) (fun v15 h13 => some (v15, h13))) := by
        unfold f_X6_pin
        rw [X6_isRow_t F hC.2.1 hN32 hr, ob_eq, if_neg n10, X6_isBell_t F hC.1 hB8 hb, ob_eq, if_neg n10, if_pos (inb_t (by omega) (by decide)), e_ix (by omega), q15, e_bit (by omega) (by omega), eb, e_one (by omega)]
      by_cases g : nI (bn (pv h r) b) = w
      · refine Same.step ⟨-2, ?_, ?_⟩ i0
        · rw [hXe, if_pos g]
        · unfold f_X7_pin
          rw [X7_isRow_t F hMt.2.1 hN32 hr, ob_eq, if_neg n10, X7_isBell_t F hMt.1 hB8 hb, ob_eq, if_neg n10, e_add, if_pos (inb_t (by omega) (by decide)), e_ix (by omega), q1, has_n F q3 (by omega), ob_eq, if_pos g]
      · have core := drum_core hF hc i0 (fun h11 => ob (f_J6_bitCount_0f7a4 F ((up h11 15 r ((h11 15 r) ^^^ nI (2 ^ b))) 15 r) (up h11 15 r ((h11 15 r) ^^^ nI (2 ^ b)))) (fun v15 h13 => some (v15, h13))) (fun h14 => ob (f_X7_bits F ((up h14 43 (2 + r) ((h14 43 (2 + r)) ^^^ nI (2 ^ b))) 43 (2 + r)) (up h14 43 (2 + r) ((h14 43 (2 + r)) ^^^ nI (2 ^ b)))) (fun v18 h16 => some (v18, h16))) ?_
        · obtain ⟨rv, g1, g2, s1, s2, s3⟩ := core
          refine ⟨rv, g1, g2, ?_, ?_, s3⟩
          · rw [hXe, if_neg g]; exact s1
          · have e40 : g1 40 = h 40 ∧ g1 43 = h 43 := by
              obtain ⟨kk, hU, -⟩ := hrest.1
              obtain ⟨hk', e0, e3, nx, hnx, e2, -⟩ := hU
              obtain ⟨h1, p1, -, -, -, -, p6⟩ := put_n F (Or.inl ⟨rfl, rfl⟩) hnx hk' e0 e2 e3
              have s1' := s1
              dsimp only at s1'
              rw [p1, obv_eq] at s1'
              obtain ⟨v, hh, -⟩ : ∃ v hh, f_J6_bitCount_0f7a4 F ((up h1 15 r ((h1 15 r) ^^^ nI (2 ^ b))) 15 r) (up h1 15 r ((h1 15 r) ^^^ nI (2 ^ b))) = some (v, hh) := ⟨_, _, rfl⟩
              have : g1 = up h1 15 r ((h1 15 r) ^^^ nI (2 ^ b)) := by
                unfold f_J6_bitCount_0f7a4 at s1'
                rw [ob_eq] at s1'
                cases s1'
                rfl
              rw [this, up_c (by decide), up_c (by decide)]
              exact ⟨p6 40 (by decide) (by decide), p6 43 (by decide) (by decide)⟩
            unfold f_X7_pin
            rw [X7_isRow_t F (by rw [e40.1]; exact hMt.2.1) hN32 hr, ob_eq, if_neg n10, X7_isBell_t F (by rw [e40.1]; exact hMt.1) hB8 hb, ob_eq, if_neg n10, e_add, if_pos (inb_t (by omega) (by decide)), e_ix (by omega), e40.2, q1, has_n F q3 (by omega), ob_eq, if_neg g, e_one (by omega)]
            exact s2
        · intro B' N' R' T' M' a hT' hC' hM' hD' hA
          have eB : B' = B := by
            have := hM'.1.symm.trans hMt.1
            rw [e_eq (by have := hT'.2.1; omega) (by omega)] at this
            exact this
          have hpa : a.2.2.1 r = pv h r := by
            have := (hD'.2.2.1 r (by omega)).symm.trans q15
            have ha := hA.2.2.2 r (by omega)
            rw [eB] at ha
            rw [e_eq (by omega) (by omega)] at this
            exact this
          have hx2 : a.2.2.1 r ^^^ 2 ^ b < 2 ^ B' := Nat.xor_lt_two_pow (hA.2.2.2 r (by omega)) (Nat.pow_lt_pow_right (by decide) (by omega))
          have hx3 : a.2.2.1 r ^^^ 2 ^ b < 256 := by rw [eB] at hx2; omega
          refine ⟨nI (popc (a.2.2.1 r ^^^ 2 ^ b)), (a.1, a.2.1, updN a.2.2.1 r (a.2.2.1 r ^^^ 2 ^ b), a.2.2.2.1, a.2.2.2.2.1, a.2.2.2.2.2), ⟨hA.1, Nat.le_succ_of_le hA.2.1, hA.2.2.1, fun r' hr' => ?_⟩, fun h1 _ hD1 => ?_, fun h1 _ hD1 => ?_⟩
          · unfold updN
            dsimp only
            split
            · exact hx2
            · exact hA.2.2.2 r' hr'
          · have e15 := hD1.2.2.1 r (by omega)
            refine ⟨up h1 15 r (nI (a.2.2.1 r ^^^ 2 ^ b)), ?_, ⟨by rw [up_c (by decide)]; exact hD1.1, by rw [up_c (by decide)]; exact hD1.2.1, fun r' hr' => ?_, fun j hj => by rw [up_c (by decide)]; exact hD1.2.2.2.1 j hj, fun b' hb' => by rw [up_c (by decide), up_c (by decide)]; exact hD1.2.2.2.2 b' hb'⟩, fun z z1 z2 => up_c (by omega)⟩
            · show ob _ _ = _
              rw [show h1 15 r = nI (a.2.2.1 r) from e15, e_xor, up_s, bc_spec F hx3, ob_eq]
            · unfold updN
              dsimp only
              by_cases z : r' = r
              · rw [z, if_pos rfl]; exact up_s
              · rw [if_neg z, up_n z]; exact hD1.2.2.1 r' hr'
          · have e43 := hD1.2.2.1 r (by omega)
            refine ⟨up h1 43 (2 + r) (nI (a.2.2.1 r ^^^ 2 ^ b)), ?_, ⟨by rw [up_n (by omega)]; exact hD1.1, by rw [up_n (by omega)]; exact hD1.2.1, fun r' hr' => ?_, fun j hj => by rw [up_n (by omega)]; exact hD1.2.2.2.1 j hj, fun b' hb' => by rw [up_n (by omega), up_n (by omega)]; exact hD1.2.2.2.2 b' hb'⟩, fun z z1 z2 => up_c z1⟩
            · show ob _ _ = _
              rw [e43, e_xor, up_s, bits_spec hF hx3, ob_eq]
            · unfold updN
              dsimp only
              by_cases z : r' = r
              · rw [z, if_pos rfl]; exact up_s
              · rw [if_neg z, up_n (by omega)]; exact hD1.2.2.1 r' hr'
    · refine Same.step ⟨-1, ?_, ?_⟩ i0
      · unfold f_X6_pin
        rw [X6_isRow_t F hC.2.1 hN32 hr, ob_eq, if_neg n10, X6_isBell_f F hC.1 hy, ob_eq, if_pos rfl]
      · unfold f_X7_pin
        rw [X7_isRow_t F hMt.2.1 hN32 hr, ob_eq, if_neg n10, X7_isBell_f F hMt.1 (by omega) hB8 hy, ob_eq, if_pos rfl]
  · refine Same.step ⟨-1, ?_, ?_⟩ i0
    · unfold f_X6_pin
      rw [X6_isRow_f F hC.2.1 hx, ob_eq, if_pos rfl]
    · unfold f_X7_pin
      rw [X7_isRow_f F hMt.2.1 (by omega) hN32 hx, ob_eq, if_pos rfl]
end
section
/-! ===== shift, undo, keep, back ===== -/
theorem mod_inj {N k r s : Nat} (hr : r < N) (hs : s < N) (hk : k < N) (e : (r + k) % N = (s + k) % N) : r = s := by
  rw [← mod_back hr hk, ← mod_back hs hk, e]
theorem X6_shift_loop {F : Nat} {tw : TW} {N k : Nat} {p : Nat → Nat} (ht : tw.1 ≠ 15 ∧ tw.1 ≠ 20) (h0 : 0 < N) (hb : N ≤ 32) (hk : k < N) :
    ∀ (j i n : Nat) (h : HP), i + j = N → j < n → h tw.1 4 = nI N → (∀ r, r < 32 → h 15 r = nI (p r)) → (∀ r, r < i → h 20 ((r + k) % N) = nI (p r)) →
      ∃ h', f_X6_shift_23 F tw (nI k) n (nI i) h = some (h' 15 0, h') ∧ (∀ r, r < N → h' 15 r = nI (p ((r + N - k) % N))) ∧ (∀ r, N ≤ r → h' 15 r = h 15 r) ∧ ∀ z, z ≠ 15 → z ≠ 20 → h' z = h z := by
  intro j
  induction j with
  | zero =>
    intro i n h hi hn hN hp hq
    obtain ⟨n, rfl⟩ := succ_of hn
    obtain rfl : i = N := by omega
    refine ⟨cpy h 20 (nI 0) 15 (nI 0) (nI i), ?_, fun r hr => ?_, fun r hr => ?_, fun z z1 _ => cpy_c z1⟩
    · rw [f_X6_shift_23, hN, if_pos (Int32.le_refl (nI i)), if_pos (cpb_t (by omega) (by omega) (by decide) (by decide))]
    · have hlt : (r + i - k) % i < i := Nat.mod_lt _ h0
      have := hq ((r + i - k) % i) hlt
      rw [mod_forth hr hk] at this
      rw [cpA _ _ _ _ _ _ _ (by decide) (by decide) (by omega), if_pos (by omega), Nat.zero_add, Nat.sub_zero, this]
    · rw [cpA _ _ _ _ _ _ _ (by decide) (by decide) (by omega), if_neg (by omega)]
  | succ j ih =>
    intro i n h hi hn hN hp hq
    obtain ⟨n, rfl⟩ := succ_of hn
    have hlt : (i + k) % N < N := Nat.mod_lt _ h0
    obtain ⟨h', e1, e2, e3, e4⟩ := ih (i + 1) n (up h 20 ((i + k) % N) (nI (p i))) (by omega) (by omega) (by rw [up_c ht.2]; exact hN) (fun r hr => by rw [up_c (by decide)]; exact hp r hr) (fun r hr => by
      by_cases z : r = i
      · rw [z]; exact up_s
      · rw [up_n (fun e => z (mod_inj (by omega) (by omega) hk e))]; exact hq r (by omega))
    refine ⟨h', ?_, e2, fun r hr => by rw [e3 r hr, up_c (by decide)], fun z z1 z2 => by rw [e4 z z1 z2, up_c z2]⟩
    rw [f_X6_shift_23, hN, if_neg (by rw [e_le (by omega) (by omega)]; omega), rowBehind_n F hN h0 (by omega) (by omega), ob_eq, if_pos (inb_t (by omega) (by decide)), if_pos (inb_t (by omega) (by decide)), e_ix (by omega), e_ix (by omega), hp i (by omega), e_add, e1]
theorem X7_shift_in {F : Nat} {x1 : Int32} {N : Nat} (hb : N ≤ 32) :
    ∀ (j i n : Nat) (h : HP), i + j = N → j < n → h 40 1 = nI N → ∃ h', f_X7_shift_46 F x1 n (nI i) h = some (h' 43 2, h') ∧ (∀ r, h' 43 r = if 2 + i ≤ r ∧ r < 2 + N then h 51 (r - 2) else h 43 r) ∧ ∀ z, z ≠ 43 → h' z = h z := by
  intro j
  induction j with
  | zero =>
    intro i n h hi hn hN
    obtain ⟨n, rfl⟩ := succ_of hn
    refine ⟨h, ?_, fun r => by rw [if_neg (by omega)], fun _ _ => rfl⟩
    rw [f_X7_shift_46, hN, if_pos (by rw [e_le (by omega) (by omega)]; omega)]
  | succ j ih =>
    intro i n h hi hn hN
    obtain ⟨n, rfl⟩ := succ_of hn
    obtain ⟨h', e1, e2, e3⟩ := ih (i + 1) n (up h 43 (2 + i) (h 51 i)) (by omega) (by omega) (by rw [up_c (by decide)]; exact hN)
    refine ⟨h', ?_, fun r => ?_, fun z hz => by rw [e3 z hz, up_c hz]⟩
    · rw [f_X7_shift_46, hN, if_neg (by rw [e_le (by omega) (by omega)]; omega), if_pos (inb_t (by omega) (by decide)), e_add, if_pos (inb_t (by omega) (by decide)), e_ix (by omega), e_ix (by omega), e_add, e1]
    · rw [e2 r, up_c (by decide)]
      by_cases g : 2 + (i + 1) ≤ r ∧ r < 2 + N
      · rw [if_pos g, if_pos (by omega)]
      · rw [if_neg g]
        by_cases g2 : r = 2 + i
        · rw [g2, up_s, if_pos (by omega), show 2 + i - 2 = i by omega]
        · rw [up_n g2, if_neg (by omega)]
theorem X7_shift_loop {F : Nat} (hF : 600 ≤ F) {N k : Nat} (h0 : 0 < N) (hb : N ≤ 32) (hk : k < N) :
    ∀ (j i n : Nat) (h : HP), i + j = N → j < n → h 40 1 = nI N → ∃ h', f_X7_shift_16 F (nI k) n (nI i) h = f_X7_shift_46 F (nI k) F (nI 0) h' ∧ (∀ r, i ≤ r → r < N → h' 51 r = h 43 (2 + (r + N - k) % N)) ∧ (∀ r, r < i → h' 51 r = h 51 r) ∧ ∀ z, z ≠ 51 → h' z = h z := by
  intro j
  induction j with
  | zero =>
    intro i n h hi hn hN
    obtain ⟨n, rfl⟩ := succ_of hn
    refine ⟨h, ?_, fun r a b => by omega, fun _ _ => rfl, fun _ _ => rfl⟩
    rw [f_X7_shift_16, hN, if_pos (by rw [e_le (by omega) (by omega)]; omega)]
  | succ j ih =>
    intro i n h hi hn hN
    obtain ⟨n, rfl⟩ := succ_of hn
    obtain ⟨h', e1, e2, e3, e4⟩ := ih (i + 1) n (up h 51 i (h 43 (2 + (i + N - k) % N))) (by omega) (by omega) (by rw [up_c (by decide)]; exact hN)
    refine ⟨h', ?_, fun r a b => ?_, fun r hr => by rw [e3 r (by omega), up_n (by omega)], fun z hz => by rw [e4 z hz, up_c hz]⟩
    · rw [f_X7_shift_16, hN, if_neg (by rw [e_le (by omega) (by omega)]; omega), shifted_n F hN h0 hb (by omega) (by omega), ob_eq, if_pos (inb_t (by omega) (by decide)), e_ix (by omega), e_add, e1]
    · by_cases g : r = i
      · rw [g, e3 i (by omega), up_s]
      · rw [e2 r (by omega) b, up_c (by decide)]
theorem op_shift {F c : Nat} (hF : 600 ≤ F) (hc : c < 900000) {tw : TW} {h : HP} (i : INV c tw h) (x : Int32) : Step (f_X6_shift F tw x) (f_X7_shift F x) c tw h := by
  have i0 := i
  obtain ⟨hK, B, N, R, T, M, hT, hC, hMt, hS, hD, hrest⟩ := i
  obtain ⟨hB1, hB8, hN2, hN32, hR6, hTM⟩ := id hT
  have hKc := hK.c
  rcases cas x (n := N) (by omega) with ⟨k, hk, rfl⟩ | hx
  · have core := drum_core hF hc i0 (fun h5 => f_X6_shift_23 F tw (nI k) F (nI 0) h5) (fun h5 => f_X7_shift_16 F (nI k) F (nI 0) h5) ?_
    · obtain ⟨rv, g1, g2, s1, s2, s3⟩ := core
      refine ⟨rv, g1, g2, ?_, ?_, s3⟩
      · unfold f_X6_shift
        rw [X6_isRow_t F hC.2.1 hN32 hk, ob_eq, if_neg n10]
        exact s1
      · have e40 : g1 40 = h 40 := by
          obtain ⟨kk, hU, -⟩ := hrest.1
          obtain ⟨hk', e0, e3, nx, hnx, e2, -⟩ := hU
          obtain ⟨h1, p1, -, -, -, -, p6⟩ := put_n F (Or.inl ⟨rfl, rfl⟩) hnx hk' e0 e2 e3
          have hp15 : ∀ r, r < 32 → h1 15 r = nI (pv h r) := fun r hr => by rw [p6 15 (by decide) (by decide), pin_of hD hr]; exact (pv_of hB8 hS hr).1
          obtain ⟨h', q1, -, -, q4⟩ := X6_shift_loop (F := F) (tw := tw) (p := pv h) (by omega) (by omega) hN32 hk N 0 F h1 (by omega) (by omega) (by rw [p6 tw.1 (by omega) (by omega)]; exact hC.2.1) hp15 (fun r hr => by omega)
          have s1' := s1
          dsimp only at s1'
          rw [p1, obv_eq, q1] at s1'
          cases s1'
          rw [q4 40 (by decide) (by decide), p6 40 (by decide) (by decide)]
        unfold f_X7_shift
        rw [X7_isRow_t F (by rw [e40]; exact hMt.2.1) hN32 hk, ob_eq, if_neg n10]
        exact s2
    · intro B' N' R' T' M' a hT' hC' hM' hD' hA
      have eN : N' = N := by
        have := hM'.2.1.symm.trans hMt.2.1
        rw [e_eq (by have := hT'.2.2.2.1; omega) (by omega)] at this
        exact this
      subst eN
      let p' : Nat → Nat := fun r => if r < N' then a.2.2.1 ((r + N' - k) % N') else a.2.2.1 r
      have hml : ∀ r, (r + N' - k) % N' < N' := fun r => Nat.mod_lt _ (by omega)
      refine ⟨nI (p' 0), (a.1, a.2.1, p', a.2.2.2.1, a.2.2.2.2.1, a.2.2.2.2.2), ⟨hA.1, Nat.le_succ_of_le hA.2.1, hA.2.2.1, fun r hr => ?_⟩, fun h1 hC1 hD1 => ?_, fun h1 hM1 hD1 => ?_⟩
      · show p' r < 2 ^ B'
        show (if r < N' then a.2.2.1 ((r + N' - k) % N') else a.2.2.1 r) < _
        split
        · exact hA.2.2.2 _ (by have := hml r; omega)
        · exact hA.2.2.2 r hr
      · obtain ⟨h', q1, q2, q3, q4⟩ := X6_shift_loop (F := F) (tw := tw) (p := a.2.2.1) (by omega) (by omega) hN32 hk N' 0 F h1 (by omega) (by omega) hC1.2.1 hD1.2.2.1 (fun r hr => by omega)
        refine ⟨h', ?_, ⟨by rw [q4 14 (by decide) (by decide)]; exact hD1.1, by rw [q4 14 (by decide) (by decide)]; exact hD1.2.1, fun r hr => ?_, fun j hj => by rw [q4 16 (by decide) (by decide)]; exact hD1.2.2.2.1 j hj, fun b hb => by rw [q4 17 (by decide) (by decide), q4 18 (by decide) (by decide)]; exact hD1.2.2.2.2 b hb⟩, fun z z1 z2 => q4 z (by omega) z2⟩
        · show f_X6_shift_23 F tw (nI k) F (nI 0) h1 = _
          rw [q1, q2 0 (by omega)]
          show _ = some (nI (if 0 < N' then _ else _), h')
          rw [if_pos (by omega)]
        · show h' 15 r = nI (if r < N' then _ else _)
          by_cases g : r < N'
          · rw [if_pos g]; exact q2 r g
          · rw [if_neg g, q3 r (by omega)]; exact hD1.2.2.1 r hr
      · obtain ⟨h2, q1, q2, -, q4⟩ := X7_shift_loop hF (k := k) (by omega) hN32 hk N' 0 F h1 (by omega) (by omega) hM1.2.1
        obtain ⟨h', t1, t2, t3⟩ := X7_shift_in (F := F) (x1 := nI k) hN32 N' 0 F h2 (by omega) (by omega) (by rw [q4 40 (by decide)]; exact hM1.2.1)
        have e43 : h2 43 = h1 43 := q4 43 (by decide)
        have row : ∀ r, r < 32 → h' 43 (2 + r) = nI (p' r) := fun r hr => by
          rw [t2, e43]
          show _ = nI (if r < N' then _ else _)
          by_cases g : r < N'
          · rw [if_pos (by omega), if_pos g, show 2 + r - 2 = r by omega, q2 r (by omega) g]
            exact hD1.2.2.1 _ (by have := hml r; omega)
          · rw [if_neg (by omega), if_neg g]; exact hD1.2.2.1 r hr
        have oth : ∀ j, (j < 2 ∨ 34 ≤ j) → h' 43 j = h1 43 j := fun j hj => by rw [t2, if_neg (by omega), e43]
        refine ⟨h', ?_, ⟨by rw [oth 0 (by decide)]; exact hD1.1, by rw [oth 1 (by decide)]; exact hD1.2.1, row, fun j hj => by rw [oth (34 + j) (by omega)]; exact hD1.2.2.2.1 j hj, fun b hb => by rw [oth (50 + b) (by omega), oth (58 + b) (by omega)]; exact hD1.2.2.2.2 b hb⟩, fun z z1 z2 => by rw [t3 z z1, q4 z z2]⟩
        show f_X7_shift_16 F (nI k) F (nI 0) h1 = _
        rw [q1, t1, show h' 43 2 = nI (p' 0) from row 0 (by decide)]
  · refine Same.step ⟨-1, ?_, ?_⟩ i0
    · unfold f_X6_shift
      rw [X6_isRow_f F hC.2.1 hx, ob_eq, if_pos rfl]
    · unfold f_X7_shift
      rw [X7_isRow_f F hMt.2.1 (by omega) hN32 hx, ob_eq, if_pos rfl]
theorem op_undo {F c : Nat} (hF : 600 ≤ F) {tw : TW} {h : HP} (i : INV c tw h) : Step (f_X6_undo F tw) (f_X7_undo F) c tw h := by
  have i0 := i
  obtain ⟨hK, B, N, R, T, M, hT, hC, hMt, hS, hD, ⟨k, hU, hU'⟩, ⟨k2, hV, hV'⟩, hW, hH, hTX⟩ := i
  have hKc := hK.c
  obtain ⟨hk, e0, e3, nx, hnx, e2, hsl⟩ := hU
  by_cases g : k = 0
  · subst g
    refine Same.step ⟨-2, ?_, ?_⟩ i0
    · unfold f_X6_undo
      rw [take_no F e3, ob_eq, if_pos rfl]
    · unfold f_X7_undo
      rw [hU', if_pos rfl]
  · obtain ⟨h1, p1, p2, p3, p4, p5, p6⟩ := take_n F (Or.inl ⟨rfl, rfl⟩) hnx hk e0 e2 e3 (by omega)
    have q : ∀ z, z ≠ 24 → (z < 14 ∨ 18 < z) → h1 z = h z := p6
    obtain ⟨h2, c1, c2, c3⟩ := copies_n hF (a := 44) (b := 43) (x := 66 * (k - 1)) (y := 0) (h := up h1 39 6 (nI (k - 1))) (by decide) (by show 66 * (k - 1) + 66 ≤ 528; omega) (by decide) (by decide) (by decide)
    have hi : ∀ z, z ≠ 43 → z ≠ 39 → h2 z = h1 z := fun z z1 z2 => by rw [c3 z z1, up_c z2]
    have e39 : ∀ j, j ≠ 6 → h2 39 j = h 39 j := fun j hj => by rw [c3 39 (by decide), up_n hj, q 39 (by decide) (by decide)]
    have e43 : ∀ j, j < 66 → h2 43 j = h 44 (66 * (k - 1) + j) := fun j hj => by
      rw [c2, if_pos (by omega), up_c (by decide), q 44 (by decide) (by decide), Nat.sub_zero]
    have eslot : (nx + 8 - k + (k - 1)) % 8 = (nx + 8 - 1) % 8 := by rw [show nx + 8 - k + (k - 1) = nx + 8 - 1 by omega]
    obtain ⟨s1, s2⟩ := hsl (k - 1) (by omega)
    rw [eslot] at s1
    refine ⟨nI (k - 1), h1, h2, ?_, ?_, ?_⟩
    · unfold f_X6_undo
      rw [p1, ob_eq, if_neg n10, p4]
    · unfold f_X7_undo
      rw [q 39 (by decide) (by decide), hU', if_neg (by rw [e_eq (by omega) (by decide)]; exact g), e_sub (by omega), up_s, e_mul, c1, obv_eq, c3 39 (by decide), up_s]
    · have fr : ∀ z, z ≠ 24 → (z < 14 ∨ 18 < z) → z ≠ 43 → z ≠ 39 → h2 z = h z := fun z z1 z2 z3 z4 => by rw [hi z z3 z4, q z z1 z2]
      have hdv : ∀ j, dv h2 14 j = dv h1 14 j := fun j => by
        unfold dv
        rw [hi 14 (by decide) (by decide), hi 15 (by decide) (by decide), hi 16 (by decide) (by decide), hi 17 (by decide) (by decide), hi 18 (by decide) (by decide)]
      refine INV.mono (c := c) (INV.new hK hT hC hMt hW hH hTX (fun j hj => fr _ (by omega) (by omega) (by omega) (by omega)) (fun z hz => ?_) (by rw [fr 0 (by decide) (by decide) (by decide) (by decide)]) (by rw [fr 1 (by decide) (by decide) (by decide) (by decide)]) (e39 10 (by decide)) (e39 13 (by decide)) (s2.congr e43) (s1.congr (fun j hj => by rw [hdv j]; exact p5 j hj) e43) ⟨k - 1, pop_n (by decide) hk (by omega) hnx hsl (by rw [hi 24 (by decide) (by decide)]; exact p2) (by rw [hi 24 (by decide) (by decide)]; exact p3) (by rw [hi 24 (by decide) (by decide)]; exact p4) (fr 25 (by decide) (by decide) (by decide) (by decide)) (fr 44 (by decide) (by decide) (by decide) (by decide)), by rw [c3 39 (by decide), up_s]⟩ ⟨k2, hV.re (fr 26 (by decide) (by decide) (by decide) (by decide)) (fr 27 (by decide) (by decide) (by decide) (by decide)) (fr 45 (by decide) (by decide) (by decide) (by decide)), by rw [e39 8 (by decide)]; exact hV'⟩) (Nat.le_succ c)
      simp only [List.mem_cons, List.not_mem_nil, or_false] at hz
      rcases hz with rfl | rfl | rfl | rfl | rfl | rfl | rfl <;> exact fr _ (by decide) (by decide) (by decide) (by decide)
theorem op_keep {F c : Nat} (hF : 600 ≤ F) {tw : TW} {h : HP} (i : INV c tw h) : Step (f_X6_keep F tw) (f_X7_keep F) c tw h := by
  have i0 := i
  obtain ⟨hK, B, N, R, T, M, hT, hC, hMt, hS, hD, ⟨k1, hU, hU'⟩, ⟨k, hV, hV'⟩, hW, hH, hTX⟩ := i
  have hKc := hK.c
  obtain ⟨hk, e0, e3, nx, hnx, e2, hsl⟩ := hV
  by_cases g : k = 2
  · refine Same.step ⟨-3, ?_, ?_⟩ i0
    · unfold f_X6_keep
      rw [e3, if_neg (by rw [e_lt (by omega) (by decide)]; omega)]
    · unfold f_X7_keep
      rw [hV', if_pos (by rw [g])]
  · obtain ⟨h1, p1, p2, p3, p4, p5, p6⟩ := put_n F (Or.inr ⟨rfl, rfl⟩) hnx hk e0 e2 e3
    obtain ⟨h2, c1, c2, c3⟩ := copies_n hF (a := 43) (b := 45) (x := 0) (y := 66 * k) (h := h1) (by decide) (by decide) (by show 66 * k + 66 ≤ 132; omega) (by decide) (by decide)
    let h3 : HP := up h2 39 8 (nI (k + 1))
    have emin : min (k + 1) 2 = k + 1 := Nat.min_eq_left (by omega)
    rw [emin] at p4
    have hi : ∀ z, z ≠ 45 → z ≠ 39 → h3 z = h1 z := fun z z1 z2 => by show (up h2 39 8 _) z = _; rw [up_c z2, c3 z z1]
    have e39 : ∀ j, j ≠ 8 → h3 39 j = h 39 j := fun j hj => by show (up h2 39 8 _) 39 j = _; rw [up_n hj, c3 39 (by decide), p6 39 (by decide) (by decide)]
    have e45 : ∀ j, h3 45 j = if 66 * k ≤ j ∧ j < 66 * k + 66 then h 43 (j - 66 * k) else h 45 j := fun j => by
      show (up h2 39 8 _) 45 j = _
      rw [up_c (by decide), c2, p6 43 (by decide) (by decide), p6 45 (by decide) (by decide), Nat.zero_add]
    refine ⟨nI (k + 1), h1, h3, ?_, ?_, ?_⟩
    · unfold f_X6_keep
      rw [e3, if_pos (by rw [e_lt (by omega) (by decide)]; omega), p1, obv_eq, p4]
    · unfold f_X7_keep
      rw [p6 39 (by decide) (by decide), hV', if_neg (by rw [e_eq (by omega) (by decide)]; exact g), e_mul, c1, obv_eq, c3 39 (by decide), p6 39 (by decide) (by decide), hV', e_add, up_s]
    · have fr : ∀ z, z ≠ 26 → z ≠ 27 → z ≠ 45 → z ≠ 39 → h3 z = h z := fun z z1 z2 z3 z4 => by rw [hi z z3 z4, p6 z z1 z2]
      refine INV.mono (c := c) (INV.new hK hT hC hMt hW hH hTX (fun j hj => fr _ (by omega) (by omega) (by omega) (by omega)) (fun z hz => ?_) (by rw [fr 0 (by decide) (by decide) (by decide) (by decide)]) (by rw [fr 1 (by decide) (by decide) (by decide) (by decide)]) (e39 10 (by decide)) (e39 13 (by decide)) (by rw [fr 43 (by decide) (by decide) (by decide) (by decide)]; exact hS) (by rw [fr 43 (by decide) (by decide) (by decide) (by decide), dv_re (fun z a b => fr z (by omega) (by omega) (by omega) (by omega))]; exact hD) ⟨k1, hU.re (fr 24 (by decide) (by decide) (by decide) (by decide)) (fr 25 (by decide) (by decide) (by decide) (by decide)) (fr 44 (by decide) (by decide) (by decide) (by decide)), by rw [e39 6 (by decide)]; exact hU'⟩ ⟨k + 1, ?_, up_s⟩) (Nat.le_succ c)
      · simp only [List.mem_cons, List.not_mem_nil, or_false] at hz
        rcases hz with rfl | rfl | rfl | rfl | rfl | rfl | rfl <;> exact fr _ (by decide) (by decide) (by decide) (by decide)
      · rw [← emin]
        refine push_n (h := h) (by decide) hk hnx hsl hD hS (by rw [hi 26 (by decide) (by decide)]; exact p2) (by rw [hi 26 (by decide) (by decide)]; exact p3) (by rw [hi 26 (by decide) (by decide), emin]; exact p4) (fun i => by rw [hi 27 (by decide) (by decide)]; exact p5 i) (fun _ => ⟨fun i hi j hj => ?_, fun j hj => ?_⟩) (fun hk2 => absurd hk2 g)
        · rw [e45, if_neg (by have := Nat.mul_le_mul_left 66 (show i + 1 ≤ k by omega); omega)]
        · rw [e45, if_pos (by omega), show 66 * k + j - 66 * k = j by omega]
theorem op_back {F c : Nat} (hF : 600 ≤ F) {tw : TW} {h : HP} (i : INV c tw h) : Step (f_X6_back F tw) (f_X7_back F) c tw h := by
  have i0 := i
  obtain ⟨hK, B, N, R, T, M, hT, hC, hMt, hS, hD, ⟨k1, hU, hU'⟩, ⟨k, hV, hV'⟩, hW, hH, hTX⟩ := i
  have hKc := hK.c
  obtain ⟨hk, e0, e3, nx, hnx, e2, hsl⟩ := hV
  obtain ⟨u1, u2, u3, unx, u4, u5, -⟩ := hU
  by_cases g : k = 0
  · subst g
    refine Same.step ⟨-2, ?_, ?_⟩ i0
    · unfold f_X6_back
      rw [take_no F e3, ob_eq, if_pos rfl]
    · unfold f_X7_back
      rw [hV', if_pos rfl]
  · obtain ⟨h1, p1, p2, p3, p4, p5, p6⟩ := take_n F (Or.inr ⟨rfl, rfl⟩) hnx hk e0 e2 e3 (by omega)
    let h1' : HP := up h1 24 3 (nI 0)
    have q : ∀ z, z ≠ 26 → (z < 14 ∨ 18 < z) → z ≠ 24 → h1' z = h z := fun z z1 z2 z3 => by show (up h1 24 3 _) z = _; rw [up_c z3, p6 z z1 z2]
    obtain ⟨h2, c1, c2, c3⟩ := copies_n hF (a := 45) (b := 43) (x := 66 * (k - 1)) (y := 0) (h := up h1' 39 8 (nI (k - 1))) (by decide) (by show 66 * (k - 1) + 66 ≤ 132; omega) (by decide) (by decide) (by decide)
    let h3 : HP := up h2 39 6 (nI 0)
    have hi : ∀ z, z ≠ 43 → z ≠ 39 → h3 z = h1' z := fun z z1 z2 => by show (up h2 39 6 _) z = _; rw [up_c z2, c3 z z1, up_c z2]
    have e39 : ∀ j, j ≠ 6 → j ≠ 8 → h3 39 j = h 39 j := fun j hj hj2 => by show (up h2 39 6 _) 39 j = _; rw [up_n hj, c3 39 (by decide), up_n hj2, q 39 (by decide) (by decide) (by decide)]
    have e398 : h3 39 8 = nI (k - 1) := by show (up h2 39 6 _) 39 8 = _; rw [up_n (by decide), c3 39 (by decide), up_s]
    have e43 : ∀ j, j < 66 → h3 43 j = h 45 (66 * (k - 1) + j) := fun j hj => by
      show (up h2 39 6 _) 43 j = _
      rw [up_c (by decide), c2, if_pos (by omega), up_c (by decide), q 45 (by decide) (by decide) (by decide), Nat.sub_zero]
    have eslot : (nx + 2 - k + (k - 1)) % 2 = (nx + 2 - 1) % 2 := by rw [show nx + 2 - k + (k - 1) = nx + 2 - 1 by omega]
    obtain ⟨s1, s2⟩ := hsl (k - 1) (by omega)
    rw [eslot] at s1
    have a26 : h1' 26 = h1 26 := up_c (by decide)
    refine ⟨nI (k - 1), h1', h3, ?_, ?_, ?_⟩
    · unfold f_X6_back f_X2_clear
      rw [p1, ob_eq, if_neg n10, obv_eq, show (up h1 24 3 (nI 0)) 26 3 = nI (k - 1) by rw [up_c (by decide)]; exact p4]
    · unfold f_X7_back
      rw [q 39 (by decide) (by decide) (by decide), hV', if_neg (by rw [e_eq (by omega) (by decide)]; exact g), e_sub (by omega), up_s, e_mul, c1, obv_eq]
      show some ((up h2 39 6 (nI 0)) 39 8, h3) = _
      rw [show (up h2 39 6 (nI 0)) 39 8 = nI (k - 1) from e398]
    · have fr : ∀ z, z ≠ 26 → (z < 14 ∨ 18 < z) → z ≠ 24 → z ≠ 43 → z ≠ 39 → h3 z = h z := fun z z1 z2 z3 z4 z5 => by rw [hi z z4 z5, q z z1 z2 z3]
      have hdv : ∀ j, dv h3 14 j = dv h1 14 j := fun j => by
        unfold dv
        rw [hi 14 (by decide) (by decide), hi 15 (by decide) (by decide), hi 16 (by decide) (by decide), hi 17 (by decide) (by decide), hi 18 (by decide) (by decide)]
        show (if j = 0 then (up h1 24 3 _) 14 4 else if j = 1 then (up h1 24 3 _) 14 5 else if j < 34 then (up h1 24 3 _) 15 (j - 2) else if j < 50 then (up h1 24 3 _) 16 (j - 34) else if j < 58 then (up h1 24 3 _) 17 (j - 50) else (up h1 24 3 _) 18 (j - 58)) = _
        rw [up_c (by decide), up_c (by decide), up_c (by decide), up_c (by decide), up_c (by decide)]
      have h24 : h1 24 = h 24 := p6 24 (by decide) (by decide)
      refine INV.mono (c := c) (INV.new hK hT hC hMt hW hH hTX (fun j hj => fr _ (by omega) (by omega) (by omega) (by omega) (by omega)) (fun z hz => ?_) (by rw [fr 0 (by decide) (by decide) (by decide) (by decide) (by decide)]) (by rw [fr 1 (by decide) (by decide) (by decide) (by decide) (by decide)]) (e39 10 (by decide) (by decide)) (e39 13 (by decide) (by decide)) (s2.congr e43) (s1.congr (fun j hj => by rw [hdv j]; exact p5 j hj) e43) ⟨0, ⟨by decide, ?_, ?_, unx, u4, ?_, fun i hi => by omega⟩, up_s⟩ ⟨k - 1, pop_n (by decide) hk (by omega) hnx hsl (by rw [hi 26 (by decide) (by decide), a26]; exact p2) (by rw [hi 26 (by decide) (by decide), a26]; exact p3) (by rw [hi 26 (by decide) (by decide), a26]; exact p4) (fr 27 (by decide) (by decide) (by decide) (by decide) (by decide)) (fr 45 (by decide) (by decide) (by decide) (by decide) (by decide)), e398⟩) (Nat.le_succ c)
      · simp only [List.mem_cons, List.not_mem_nil, or_false] at hz
        rcases hz with rfl | rfl | rfl | rfl | rfl | rfl | rfl <;> exact fr _ (by decide) (by decide) (by decide) (by decide) (by decide)
      · rw [hi 24 (by decide) (by decide)]
        show (up h1 24 3 _) 24 0 = _
        rw [up_n (by decide), h24]; exact u2
      · rw [hi 24 (by decide) (by decide)]
        exact up_s
      · rw [hi 24 (by decide) (by decide)]
        show (up h1 24 3 _) 24 2 = _
        rw [up_n (by decide), h24]; exact u5
end
section
/-! ===== a whole turn, tried ===== -/
def gA (B R : Nat) (M : Nat → Nat) (N : Nat) : Nat → ADr → ADr
  | 0, a => a
  | k + 1, a => gA B R M N k (rowA B R M (nxr N a.1) a).2
def cA (B R : Nat) (M : Nat → Nat) (N : Nat) : Nat → ADr → Nat
  | 0, _ => 0
  | k + 1, a => popc (rowA B R M (nxr N a.1) a).1 + cA B R M N k (rowA B R M (nxr N a.1) a).2
def sI (f : Nat → Int32) : Nat → Int32
  | 0 => nI 0
  | k + 1 => sI f k + f k
theorem nI0_add (x : Int32) : nI 0 + x = x := by
  rw [nI_0]
  exact Int32.zero_add x
theorem addI_assoc (x y z : Int32) : x + y + z = x + (y + z) := Int32.add_assoc x y z
theorem addI_right (x y z : Int32) : x + y + z = x + z + y := by rw [Int32.add_assoc, Int32.add_comm y z, ← Int32.add_assoc]
theorem addI_sub (x y : Int32) : x + y - x = y := by
  rw [Int32.add_comm]
  apply Int32.toBitVec_inj.mp
  simp only [Int32.toBitVec_add, Int32.toBitVec_sub]
  rw [BitVec.add_sub_cancel]
theorem sI_congr {f g : Nat → Int32} : ∀ {k : Nat}, (∀ j, j < k → f j = g j) → sI f k = sI g k := by
  intro k
  induction k with
  | zero => intro _; rfl
  | succ k ih =>
    intro h
    show sI f k + f k = sI g k + g k
    rw [ih (fun j hj => h j (by omega)), h k (by omega)]
theorem sI_upd (f : Nat → Int32) (b : Nat) (y : Int32) : ∀ k, b < k → sI (upd f b (f b + y)) k = sI f k + y := by
  intro k
  induction k with
  | zero => intro h; omega
  | succ k ih =>
    intro h
    show sI (upd f b (f b + y)) k + upd f b (f b + y) k = sI f k + f k + y
    by_cases g : b = k
    · subst g
      rw [show upd f b (f b + y) b = f b + y by unfold upd; rw [if_pos rfl], sI_congr (g := f) (fun j hj => by unfold upd; rw [if_neg (by omega)]), ← addI_assoc]
    · rw [show upd f b (f b + y) k = f k by unfold upd; rw [if_neg (by omega)], ih (by omega), addI_right]
theorem popc_or : ∀ b, b < 8 → ∀ s, s < 256 → s < 2 ^ b → popc (s ||| 2 ^ b) = popc s + 1 := by decide +kernel
theorem popc_sgB : ∀ B, B < 9 → ∀ s, s < 256 → s < 2 ^ B → sg (bn s) 0 B = popc s := by decide +kernel
theorem bsf_sum {R tu s B : Nat} {M : Nat → Nat} (hB : B ≤ 8) : ∀ (k b : Nat) (q : BSt), b + k = B → q.2.2.2 < 2 ^ b → ∃ x y, x + y = sg (bn s) b k ∧ popc (bsf R tu M s k b q).2.2.2 = popc q.2.2.2 + x ∧ sI (bsf R tu M s k b q).2.1 B = sI q.2.1 B + nI x ∧ sI (bsf R tu M s k b q).2.2.1 B = sI q.2.2.1 B + nI y := by
  intro k
  induction k with
  | zero =>
    intro b q hb hq
    refine ⟨0, 0, rfl, rfl, ?_, ?_⟩
    · rw [Int32.add_comm, nI0_add]; rfl
    · rw [Int32.add_comm, nI0_add]; rfl
  | succ k ih =>
    intro b q hb hq
    have h8 : 2 ^ b < 2 ^ (b + 1) := Nat.pow_lt_pow_right (by decide) (by omega)
    have h9 : 2 ^ b ≤ 2 ^ 8 := Nat.pow_le_pow_right (by decide) (by omega)
    have hbs : bsf R tu M s (k + 1) b q = bsf R tu M s k (b + 1) (if bn s b = 0 then q else bst R tu M b q) := rfl
    have hsg : sg (bn s) b (k + 1) = bn s b + sg (bn s) (b + 1) k := rfl
    rw [hbs, hsg]
    by_cases g : bn s b = 0
    · rw [if_pos g]
      obtain ⟨x, y, e1, e2⟩ := ih (b + 1) q (by omega) (by omega)
      exact ⟨x, y, by omega, e2⟩
    · have g1 : bn s b = 1 := by rcases bn01 s b with z | z <;> omega
      rw [if_neg g]
      unfold bst
      cases hf : fhm R tu q.1 b (M b) with
      | none =>
        dsimp only
        obtain ⟨x, y, e1, e2, e3, e4⟩ := ih (b + 1) (q.1, q.2.1, upd q.2.2.1 b (q.2.2.1 b + nI 1), q.2.2.2) (by omega) (by show q.2.2.2 < _; omega)
        refine ⟨x, y + 1, by omega, e2, e3, ?_⟩
        rw [e4]
        show sI (upd q.2.2.1 b (q.2.2.1 b + nI 1)) B + nI y = _
        rw [sI_upd _ _ _ _ (by omega), addI_assoc, e_add, Nat.add_comm 1 y]
      | some f =>
        dsimp only
        obtain ⟨x, y, e1, e2, e3, e4⟩ := ih (b + 1) (updO q.1 (2 * b + f) (some tu), upd q.2.1 b (q.2.1 b + nI 1), q.2.2.1, q.2.2.2 ||| 2 ^ b) (by omega) (Nat.or_lt_two_pow (by omega) (by omega))
        refine ⟨x + 1, y, by omega, ?_, ?_, e4⟩
        · rw [e2]
          show popc (q.2.2.2 ||| 2 ^ b) + x = _
          rw [popc_or b (by omega) _ (by omega) hq]
          omega
        · rw [e3]
          show sI (upd q.2.1 b (q.2.1 b + nI 1)) B + nI x = _
          rw [sI_upd _ _ _ _ (by omega), addI_assoc, e_add, Nat.add_comm 1 x]
theorem rowA_sum {R B row : Nat} {M : Nat → Nat} {a : ADr} (hB : B ≤ 8) (hp : a.2.2.1 row < 2 ^ B) : ∃ y, popc (rowA B R M row a).1 + y = popc (a.2.2.1 row) ∧ sI (rowA B R M row a).2.2.2.2.2.1 B = sI a.2.2.2.2.1 B + nI (popc (rowA B R M row a).1) ∧ sI (rowA B R M row a).2.2.2.2.2.2 B = sI a.2.2.2.2.2 B + nI y := by
  have h256 := p2le hB
  obtain ⟨x, y, e1, e2, e3, e4⟩ := bsf_sum (R := R) (tu := a.2.1) (s := a.2.2.1 row) (M := M) hB B 0 (a.2.2.2.1, a.2.2.2.2.1, a.2.2.2.2.2, 0) (by omega) (by show 0 < _; decide)
  rw [popc_sgB B (by omega) _ (by omega) hp] at e1
  have e0 : popc (a.2.2.2.1, a.2.2.2.2.1, a.2.2.2.2.2, 0).2.2.2 = 0 := (by show popc 0 = 0; decide)
  rw [e0, Nat.zero_add] at e2
  refine ⟨y, ?_, ?_, ?_⟩
  · show popc (bsf _ _ _ _ _ _ _).2.2.2 + y = _
    rw [e2]; exact e1
  · show sI (bsf _ _ _ _ _ _ _).2.1 B = _ + nI (popc (bsf _ _ _ _ _ _ _).2.2.2)
    rw [e2, e3]
  · exact e4
/-- rows that come from la on -/
def vis (N : Nat) (f : Nat → Nat) : Nat → Nat → Nat
  | 0, _ => 0
  | k + 1, la => f (nxr N la) + vis N f k (nxr N la)
theorem gA_sum {R B N : Nat} {M : Nat → Nat} (hB : B ≤ 8) (h2 : 2 ≤ N) (hN : N ≤ 32) : ∀ (k c : Nat) (a : ADr), AOK B N c a → ∃ y, cA B R M N k a + y = vis N (fun r => popc (a.2.2.1 r)) k a.1 ∧ sI (gA B R M N k a).2.2.2.2.1 B = sI a.2.2.2.2.1 B + nI (cA B R M N k a) ∧ sI (gA B R M N k a).2.2.2.2.2 B = sI a.2.2.2.2.2 B + nI y := by
  intro k
  induction k with
  | zero =>
    intro c a hA
    refine ⟨0, rfl, ?_, ?_⟩
    · show _ = _ + nI 0
      rw [Int32.add_comm, nI0_add]; rfl
    · rw [Int32.add_comm, nI0_add]; rfl
  | succ k ih =>
    intro c a hA
    have hl := nxr_lt h2 hA.1
    obtain ⟨y1, e1, e2, e3⟩ := rowA_sum (R := R) (M := M) (a := a) hB (hA.2.2.2 (nxr N a.1) (by omega))
    obtain ⟨y2, f1, f2, f3⟩ := ih (c + 1) (rowA B R M (nxr N a.1) a).2 (AOK_row hA (Nat.le_of_lt hl))
    have ev : vis N (fun r => popc ((rowA B R M (nxr N a.1) a).2.2.2.1 r)) k (rowA B R M (nxr N a.1) a).2.1 = vis N (fun r => popc (a.2.2.1 r)) k (nxr N a.1) := rfl
    rw [ev] at f1
    refine ⟨y1 + y2, ?_, ?_, ?_⟩
    · show popc (rowA B R M (nxr N a.1) a).1 + cA B R M N k (rowA B R M (nxr N a.1) a).2 + (y1 + y2) = popc (a.2.2.1 (nxr N a.1)) + vis N (fun r => popc (a.2.2.1 r)) k (nxr N a.1)
      omega
    · show sI (gA B R M N k (rowA B R M (nxr N a.1) a).2).2.2.2.2.1 B = _ + nI (popc (rowA B R M (nxr N a.1) a).1 + cA B R M N k (rowA B R M (nxr N a.1) a).2)
      rw [f2, e2, addI_assoc, e_add]
    · show sI (gA B R M N k (rowA B R M (nxr N a.1) a).2).2.2.2.2.2 B = _
      rw [f3, e3, addI_assoc, e_add]
theorem gA_ok {R B N : Nat} {M : Nat → Nat} (h2 : 2 ≤ N) : ∀ (k c : Nat) (a : ADr), AOK B N c a → AOK B N (c + k) (gA B R M N k a) ∧ (gA B R M N k a).2.2.1 = a.2.2.1 := by
  intro k
  induction k with
  | zero => intro c a hA; exact ⟨hA, rfl⟩
  | succ k ih =>
    intro c a hA
    have hl := nxr_lt h2 hA.1
    obtain ⟨e1, e2⟩ := ih (c + 1) (rowA B R M (nxr N a.1) a).2 (AOK_row hA (Nat.le_of_lt hl))
    rw [show c + 1 + k = c + (k + 1) by omega] at e1
    exact ⟨e1, e2⟩
theorem gA_add {R B N : Nat} {M : Nat → Nat} (m : Nat) : ∀ (k : Nat) (a : ADr), gA B R M N (k + m) a = gA B R M N m (gA B R M N k a) := by
  intro k
  induction k with
  | zero => intro a; rw [Nat.zero_add]; rfl
  | succ k ih =>
    intro a
    rw [show k + 1 + m = (k + m) + 1 by omega]
    exact ih _
theorem vis_sg {N : Nat} (f : Nat → Nat) (h2 : 2 ≤ N) : ∀ (k la : Nat), la < N → vis N f k la = sg (fun r => f ((r + (la + 1)) % N)) 0 k := by
  intro k
  induction k with
  | zero => intro la _; rfl
  | succ k ih =>
    intro la hl
    have e : nxr N la = (la + 1) % N := by
      unfold nxr
      by_cases g : la < N - 1
      · rw [if_pos g, Nat.mod_eq_of_lt (by omega)]
      · rw [if_neg g, show la + 1 = N by omega, Nat.mod_self]
    have hlt : nxr N la < N := nxr_lt h2 (by omega)
    have s1 := sg_shift (fun r => f ((r + (la + 1)) % N)) 1 k 0
    show f (nxr N la) + vis N f k (nxr N la) = f ((0 + (la + 1)) % N) + sg (fun r => f ((r + (la + 1)) % N)) (0 + 1) k
    rw [ih (nxr N la) hlt, e, Nat.zero_add (la + 1), s1]
    congr 1
    refine sg_congr (fun j _ _ => ?_)
    rw [show j + ((la + 1) % N + 1) = (la + 1) % N + (j + 1) by omega, Nat.mod_add_mod]
    rw [show la + 1 + (j + 1) = j + 1 + (la + 1) by omega]
theorem vis_all {N la : Nat} (f : Nat → Nat) (h2 : 2 ≤ N) (hl : la ≤ N) : vis N f N la = sg f 0 N := by
  have h0 : ∀ la, la < N → vis N f N la = sg f 0 N := fun la h => by
    rw [vis_sg f h2 N la h]
    by_cases g : la + 1 < N
    · exact sg_round f g
    · rw [show la + 1 = N by omega]
      refine sg_congr (fun j _ b => ?_)
      rw [Nat.add_mod_right, Nat.mod_eq_of_lt (by omega)]
  rcases Nat.lt_or_ge la N with z | z
  · exact h0 la z
  · have ez : la = N := by omega
    have e : vis N f N la = vis N f N (N - 1) := by
      obtain ⟨m, rfl⟩ : ∃ m, N = m + 1 := ⟨N - 1, by omega⟩
      have en : nxr (m + 1) la = nxr (m + 1) (m + 1 - 1) := by
        unfold nxr
        rw [if_neg (by omega), if_neg (by omega)]
      show f (nxr (m + 1) la) + vis (m + 1) f m (nxr (m + 1) la) = f (nxr (m + 1) (m + 1 - 1)) + vis (m + 1) f m (nxr (m + 1) (m + 1 - 1))
      rw [en]
    rw [e]
    exact h0 (N - 1) (by omega)
theorem rings_n {F : Nat} (hF : 600 ≤ F) {R B N : Nat} {M : Nat → Nat} {tw : TW} (ht : tw.1 = 4 ∨ tw.1 = 9) (hB : B ≤ 8) (hR : R ≤ 6) (h2 : 2 ≤ N) (hN : N ≤ 32) (hM : ∀ b, b < B → 1 ≤ M b ∧ M b ≤ 2) :
    ∀ (k i n c acc : Nat) (a : ADr) (h : HP), i + k = N → k < n → c + k < 1000000 → h tw.1 0 = nI B → h tw.1 4 = nI N → h tw.1 5 = nI R → (∀ b, b < B → h (tw.1 + 2) b = nI (M b)) → CD R 19 h a → AOK B N c a →
      ∃ h', f_X6_ringsInATurn_4 F tw 19 n (nI acc) (nI i) h = some (nI (acc + cA B R M N k a), h') ∧ CD R 19 h' (gA B R M N k a) ∧ ∀ z, z < 19 ∨ 23 < z → h' z = h z := by
  intro k
  induction k with
  | zero =>
    intro i n c acc a h hi hn hc hB0 hN4 hR5 hM2 hC hA
    obtain ⟨n, rfl⟩ := succ_of hn
    refine ⟨h, ?_, hC, fun _ _ => rfl⟩
    rw [f_X6_ringsInATurn_4, hN4, if_pos (by rw [e_le (by omega) (by omega)]; omega)]
    rfl
  | succ k ih =>
    intro i n c acc a h hi hn hc hB0 hN4 hR5 hM2 hC hA
    obtain ⟨n, rfl⟩ := succ_of hn
    have hl := nxr_lt h2 hA.1
    have h256 := p2le hB
    obtain ⟨h1, e1, e2, e3⟩ := X0_turnOn_n hF (d := 19) (t := tw.1) (by omega) hB hR (show c < 1000000 by omega) (by omega) hN hM hB0 hN4 hR5 hM2 hC hA
    have hs : (rowA B R M (nxr N a.1) a).1 < 2 ^ B := bsf_set B 0 _ (by omega) (by show 0 < 2 ^ B; exact Nat.two_pow_pos B)
    have fr : ∀ z, z < 19 ∨ 23 < z → h1 z = h z := fun z hz => e3 z (by omega) (by omega) (by omega) (by omega)
    obtain ⟨h', f1, f2, f3⟩ := ih (i + 1) n (c + 1) (acc + popc (rowA B R M (nxr N a.1) a).1) (rowA B R M (nxr N a.1) a).2 h1 (by omega) (by omega) (by omega) (by rw [fr tw.1 (by omega)]; exact hB0) (by rw [fr tw.1 (by omega)]; exact hN4) (by rw [fr tw.1 (by omega)]; exact hR5) (fun b hb => by rw [fr (tw.1 + 2) (by omega)]; exact hM2 b hb) e2 (AOK_row hA (Nat.le_of_lt hl))
    refine ⟨h', ?_, f2, fun z hz => by rw [f3 z hz, fr z hz]⟩
    rw [f_X6_ringsInATurn_4, hN4, if_neg (by rw [e_le (by omega) (by omega)]; omega), e1, ob_eq, bc_spec F (by omega), ob_eq, e_add, e_add, f1]
    show some (nI (acc + popc (rowA B R M (nxr N a.1) a).1 + cA B R M N k (rowA B R M (nxr N a.1) a).2), h') = some (nI (acc + (popc (rowA B R M (nxr N a.1) a).1 + cA B R M N k (rowA B R M (nxr N a.1) a).2)), h')
    rw [Nat.add_assoc]
theorem go_n {F : Nat} (hF : 600 ≤ F) {R B N K : Nat} {M : Nat → Nat} (hB : B ≤ 8) (hR : R ≤ 6) (h2 : 2 ≤ N) (hN : N ≤ 32) (hM : ∀ b, b < B → 1 ≤ M b ∧ M b ≤ 2) (hK : K < 1000) :
    ∀ (k i n c : Nat) (a : ADr) (h : HP), i + k = K → k < n → c + k < 1000000 → h 40 0 = nI B → h 40 1 = nI N → h 40 2 = nI R → (∀ b, b < B → h 40 (11 + b) = nI (M b)) → MD 52 h a → AOK B N c a →
      ∃ h', f_X7_go_2 F (nI K) n (nI i) h = some h' ∧ MD 52 h' (gA B R M N k a) ∧ ∀ z, z ≠ 52 → h' z = h z := by
  intro k
  induction k with
  | zero =>
    intro i n c a h hi hn hc hB0 hN4 hR5 hM2 hC hA
    obtain ⟨n, rfl⟩ := succ_of hn
    refine ⟨h, ?_, hC, fun _ _ => rfl⟩
    rw [f_X7_go_2, if_pos (by rw [e_le (by omega) (by omega)]; omega)]
  | succ k ih =>
    intro i n c a h hi hn hc hB0 hN4 hR5 hM2 hC hA
    obtain ⟨n, rfl⟩ := succ_of hn
    have hl := nxr_lt h2 hA.1
    obtain ⟨h1, e1, e2, e3⟩ := X7_next_n hF (t := 52) rfl (by decide) hB hR (show c < 1000000 by omega) (by omega) hN hM hB0 hN4 hR5 hM2 hC hA
    obtain ⟨h', f1, f2, f3⟩ := ih (i + 1) n (c + 1) (rowA B R M (nxr N a.1) a).2 h1 (by omega) (by omega) (by omega) (by rw [e3 40 (by decide)]; exact hB0) (by rw [e3 40 (by decide)]; exact hN4) (by rw [e3 40 (by decide)]; exact hR5) (fun b hb => by rw [e3 40 (by decide)]; exact hM2 b hb) e2 (AOK_row hA (Nat.le_of_lt hl))
    refine ⟨h', ?_, f2, fun z hz => by rw [f3 z hz, e3 z hz]⟩
    rw [f_X7_go_2, if_neg (by rw [e_le (by omega) (by omega)]; omega), e1, ob_eq, e_add, f1]
theorem sum_n {F : Nat} (hF : 600 ≤ F) {B p : Nat} {f : Nat → Int32} {h : HP} (hB : B ≤ 8) (hp : p + 8 ≤ 66) (hB0 : h 40 0 = nI B) (hf : ∀ b, b < 8 → h 52 (p + b) = f b) : f_X7_sumOf F (nI p) h = some (sI f B, h) := by
  have lp : ∀ (k i n : Nat), i + k = B → k < n → f_X7_sumOf_4 F (nI p) n (sI f i) (nI i) h = some (sI f B, h) := by
    intro k
    induction k with
    | zero =>
      intro i n hi hn
      obtain ⟨n, rfl⟩ := succ_of hn
      rw [f_X7_sumOf_4, hB0, if_pos (by rw [e_le (by omega) (by omega)]; omega), show i = B by omega]
    | succ k ih =>
      intro i n hi hn
      obtain ⟨n, rfl⟩ := succ_of hn
      rw [f_X7_sumOf_4, hB0, if_neg (by rw [e_le (by omega) (by omega)]; omega), e_add, if_pos (inb_t (by omega) (by decide)), e_ix (by omega), hf i (by omega), e_add]
      exact ih (i + 1) n (by omega) (by omega)
  exact lp B 0 F (by omega) (by omega)
theorem CD.dv {R : Nat} {h h1 : HP} {a : ADr} (hC : CD R 14 h a) (e : ∀ j, j < 66 → dv h1 19 j = dv h 14 j) : CD R 19 h1 a := by
  obtain ⟨c0, c1, c2, c3, c4⟩ := hC
  refine ⟨?_, ?_, fun r hr => ?_, fun j hj => ?_, fun b hb => ⟨?_, ?_⟩⟩
  · rw [← c0]; exact e 0 (by decide)
  · rw [← c1]; exact e 1 (by decide)
  · rw [← c2 r hr, ← dv2 h1 19 hr, ← dv2 h 14 hr]; exact e _ (by omega)
  · rw [← c3 j hj, ← dv34 h1 19 hj, ← dv34 h 14 hj]; exact e _ (by omega)
  · rw [← (c4 b hb).1, ← dv50 h1 19 hb, ← dv50 h 14 hb]; exact e _ (by omega)
  · rw [← (c4 b hb).2, ← dv58 h1 19 hb, ← dv58 h 14 hb]; exact e _ (by omega)
theorem MD.cp {h h1 : HP} {a : ADr} (hM : MD 43 h a) (e : ∀ j, j < 66 → h1 52 j = h 43 j) : MD 52 h1 a := by
  obtain ⟨c0, c1, c2, c3, c4⟩ := hM
  exact ⟨by rw [e 0 (by decide)]; exact c0, by rw [e 1 (by decide)]; exact c1, fun r hr => by rw [e _ (by omega)]; exact c2 r hr, fun j hj => by rw [e _ (by omega)]; exact c3 j hj, fun b hb => ⟨by rw [e _ (by omega)]; exact (c4 b hb).1, by rw [e _ (by omega)]; exact (c4 b hb).2⟩⟩
/-- cells 19 .. 23 and 52 are nobody's between two calls -/
theorem ess_tried {tw : TW} {h h' : HP} (hK : TWK tw) (e : ∀ z, z < 19 ∨ 23 < z → z ≠ 52 → h' z = h z) : Ess tw h h' := by
  have hKc := hK.c
  refine ⟨fun k hk => ?_, fun j hj => e _ (by omega) (by omega), by rw [e 0 (by decide) (by decide)], by rw [e 1 (by decide) (by decide)], by rw [e 39 (by decide) (by decide)], by rw [e 39 (by decide) (by decide)], by rw [e 39 (by decide) (by decide)], by rw [e 39 (by decide) (by decide)]⟩
  have : ∀ k, k ∈ essL → (k < 19 ∨ 23 < k) ∧ k ≠ 52 := by decide
  exact e k (this k hk).1 (this k hk).2
theorem rings8_n {F : Nat} (hF : 600 ≤ F) {R B N : Nat} {M : Nat → Nat} {tw : TW} {x : Int32} (ht : tw.1 = 4 ∨ tw.1 = 9) (hB : B ≤ 8) (hR : R ≤ 6) (h2 : 2 ≤ N) (hN : N ≤ 32) (hM : ∀ b, b < B → 1 ≤ M b ∧ M b ≤ 2) :
    ∀ (k i n c : Nat) (a : ADr) (h : HP), i + k = 8 → k < n → c + k * N + N < 1000000 → h tw.1 0 = nI B → h tw.1 4 = nI N → h tw.1 5 = nI R → (∀ b, b < B → h (tw.1 + 2) b = nI (M b)) → CD R 19 h a → AOK B N c a →
      ∃ h', f_X6_whole_29 F tw x n (nI i) h = f_X6_whole_50 F tw x h' ∧ CD R 19 h' (gA B R M N (k * N) a) ∧ ∀ z, z < 19 ∨ 23 < z → h' z = h z := by
  intro k
  induction k with
  | zero =>
    intro i n c a h hi hn hc hB0 hN4 hR5 hM2 hC hA
    obtain ⟨n, rfl⟩ := succ_of hn
    refine ⟨h, ?_, by rw [Nat.zero_mul]; exact hC, fun _ _ => rfl⟩
    rw [f_X6_whole_29, if_pos (by rw [e_le (by omega) (by omega)]; omega)]
  | succ k ih =>
    intro i n c a h hi hn hc hB0 hN4 hR5 hM2 hC hA
    obtain ⟨n, rfl⟩ := succ_of hn
    rw [Nat.succ_mul] at hc
    obtain ⟨h1, e1, e2, e3⟩ := rings_n hF ht hB hR h2 hN hM N 0 F c 0 a h (by omega) (by omega) (by omega) hB0 hN4 hR5 hM2 hC hA
    obtain ⟨h', f1, f2, f3⟩ := ih (i + 1) n (c + N) (gA B R M N N a) h1 (by omega) (by omega) (by omega) (by rw [e3 tw.1 (by omega)]; exact hB0) (by rw [e3 tw.1 (by omega)]; exact hN4) (by rw [e3 tw.1 (by omega)]; exact hR5) (fun b hb => by rw [e3 (tw.1 + 2) (by omega)]; exact hM2 b hb) e2 (gA_ok h2 N c a hA).1
    refine ⟨h', ?_, ?_, fun z hz => by rw [f3 z hz, e3 z hz]⟩
    · rw [f_X6_whole_29, if_neg (by rw [e_le (by omega) (by omega)]; omega)]
      unfold f_X6_ringsInATurn
      rw [e1, ob_eq, e_add, f1]
    · rw [show (k + 1) * N = N + k * N by rw [Nat.succ_mul]; omega, gA_add]
      exact f2
theorem op_whole {F c : Nat} (hF : 600 ≤ F) (hc : c < 900000) {tw : TW} {h : HP} (i : INV c tw h) (x : Int32) : Step (f_X6_whole F tw x) (f_X7_whole F x) c tw h := by
  have i0 := i
  obtain ⟨hK, B, N, R, T, M, hT, hC, hMt, hS, hD, -, -, -, -, -⟩ := i
  obtain ⟨hB1, hB8, hN2, hN32, hR6, hTM⟩ := hT
  have hKc := hK.c
  have hM12 : ∀ b, b < B → 1 ≤ M b ∧ M b ≤ 2 := fun b hb => (hTM b hb).2
  obtain ⟨a, a1, a2, a3⟩ := toAD hB8 (show c < 1000000 by omega) hS hD
  rcases cas x (n := 3) (by decide) with ⟨j, hj, rfl⟩ | hx
  · -- what is rung before, and then
    obtain ⟨h3, p1, p2, p3⟩ := copy_n F (h := h)
    have c19 := a1.dv p2
    let K : Nat := if j = 2 then 8 * N else 0
    have hK8 : K ≤ 256 := by show (if j = 2 then 8 * N else 0) ≤ 256; split <;> omega
    have okK := gA_ok (R := R) (M := M) hN2 K c a a3
    have q0 : h3 tw.1 0 = nI B := by rw [p3 tw.1 (by omega)]; exact hC.1
    have q4 : h3 tw.1 4 = nI N := by rw [p3 tw.1 (by omega)]; exact hC.2.1
    have q5 : h3 tw.1 5 = nI R := by rw [p3 tw.1 (by omega)]; exact hC.2.2.1
    have qM : ∀ b, b < B → h3 (tw.1 + 2) b = nI (M b) := fun b hb => by rw [p3 (tw.1 + 2) (by omega)]; exact (hC.2.2.2 b hb).2.1
    obtain ⟨h4, r1, r2, r3⟩ : ∃ h4, f_X6_whole F tw (nI j) h = f_X6_whole_50 F tw (nI j) h4 ∧ CD R 19 h4 (gA B R M N K a) ∧ ∀ z, z < 19 ∨ 23 < z → h4 z = h z := by
      unfold f_X6_whole
      rw [if_neg (by rw [e_lt (by omega) (by decide)]; omega), if_pos (by rw [e_le (by omega) (by decide)]; omega), p1, obv_eq]
      by_cases g : j = 2
      · have eK : K = 8 * N := if_pos g
        rw [if_pos (by rw [g])]
        obtain ⟨h4, s1, s2, s3⟩ := rings8_n hF (x := nI j) hKc hB8 hR6 hN2 hN32 hM12 8 0 F c a h3 (by omega) (by omega) (by omega) q0 q4 q5 qM c19 a3
        rw [← eK] at s2
        exact ⟨h4, s1, s2, fun z hz => by rw [s3 z hz, p3 z hz]⟩
      · have eK : K = 0 := if_neg g
        rw [if_neg (by rw [e_eq (by omega) (by decide)]; exact g)]
        exact ⟨h3, rfl, by rw [eK]; exact c19, p3⟩
    obtain ⟨h5, t1, t2, t3⟩ := rings_n hF (tw := tw) hKc hB8 hR6 hN2 hN32 hM12 N 0 F (c + K) 0 (gA B R M N K a) h4 (by omega) (by omega) (by omega) (by rw [r3 tw.1 (by omega)]; exact hC.1) (by rw [r3 tw.1 (by omega)]; exact hC.2.1) (by rw [r3 tw.1 (by omega)]; exact hC.2.2.1) (fun b hb => by rw [r3 (tw.1 + 2) (by omega)]; exact (hC.2.2.2 b hb).2.1) r2 okK.1
    have fr5 : ∀ z, z < 19 ∨ 23 < z → h5 z = h z := fun z hz => by rw [t3 z hz, r3 z hz]
    obtain ⟨y, y1, y2, y3⟩ := gA_sum (R := R) (M := M) hB8 hN2 hN32 N (c + K) (gA B R M N K a) okK.1
    rw [vis_all _ hN2 okK.1.1, okK.2] at y1
    have h256 := p2le hB8
    -- the class
    have eX : f_X6_whole F tw (nI j) h = some (if j = 0 then nI (cA B R M N N (gA B R M N K a)) else nI y, h5) := by
      rw [r1]
      unfold f_X6_whole_50 f_X6_ringsInATurn
      rw [t1, ob_eq, Nat.zero_add, i_eq (by omega) (by decide)]
      by_cases g : j = 0
      · rw [if_pos g, if_pos g]
      · rw [if_neg g, if_neg g]
        unfold f_X6_allPins
        rw [X6_allPins_loop (N := N) (p := a.2.2.1) (by rw [fr5 tw.1 (by omega)]; exact hC.2.1) hN32 (fun r hr => ⟨by rw [fr5 15 (by decide)]; exact a1.2.2.1 r hr, by have := a3.2.2.2 r hr; omega⟩) N 0 F 0 (by omega) (by omega), ob_eq, Nat.zero_add, ← y1, e_sub (by omega), Nat.add_sub_cancel_left]
    -- the reference
    obtain ⟨g1, u1, u2, u3⟩ := copies_n hF (a := 43) (b := 52) (x := 0) (y := 0) (h := h5) (by decide) (by decide) (by decide) (by decide) (by decide)
    have m52 : MD 52 g1 a := a2.cp (fun j hj => by rw [u2 j, if_pos (by omega), fr5 43 (by decide)]; congr 1; omega)
    have e40 : g1 40 = h 40 := by rw [u3 40 (by decide), fr5 40 (by decide)]
    obtain ⟨g2, v1, v2, v3⟩ := go_n hF (K := K) hB8 hR6 hN2 hN32 hM12 (by omega) K 0 F c a g1 (by omega) (by omega) (by omega) (by rw [e40]; exact hMt.1) (by rw [e40]; exact hMt.2.1) (by rw [e40]; exact hMt.2.2.1) (fun b hb => by rw [e40]; exact (hMt.2.2.2 b hb).2) m52 a3
    have f40 : g2 40 = h 40 := by rw [v3 40 (by decide), e40]
    obtain ⟨g3, w1, w2, w3⟩ := go_n hF (K := N) hB8 hR6 hN2 hN32 hM12 (by omega) N 0 F (c + K) (gA B R M N K a) g2 (by omega) (by omega) (by omega) (by rw [f40]; exact hMt.1) (by rw [f40]; exact hMt.2.1) (by rw [f40]; exact hMt.2.2.1) (fun b hb => by rw [f40]; exact (hMt.2.2.2 b hb).2) v2 okK.1
    have k40 : g3 40 = h 40 := by rw [w3 40 (by decide), f40]
    have eKI : (if nI j = nI 2 then (nI 8) * (g1 40 1) else (nI 0)) = nI K := by
      show _ = nI (if j = 2 then 8 * N else 0)
      rw [i_eq (by omega) (by decide), e40, hMt.2.1, e_mul, ite_n]
    refine ⟨if j = 0 then nI (cA B R M N N (gA B R M N K a)) else nI y, h5, g3, eX, ?_, (i0.ess (ess_tried hK (fun z hz hz2 => by rw [w3 z hz2, v3 z hz2, u3 z hz2, fr5 z hz]))).mono (Nat.le_succ c)⟩
    unfold f_X7_whole
    rw [l64 (show 0 < 2147483648 by decide), l64 (show 2 < 2147483648 by decide), in_spec, ob_eq, if_pos (show nI 0 ≤ nI j ∧ nI j ≤ nI 2 from ⟨by rw [e_le (by decide) (by omega)]; omega, by rw [e_le (by omega) (by decide)]; omega⟩), if_neg n10, u1, obv_eq, eKI]
    unfold f_X7_go
    rw [v1, obv_eq]
    by_cases g : j = 0
    · rw [if_pos (show nI j = nI 0 by rw [g]), if_pos g, sum_n hF (p := 50) (f := (gA B R M N K a).2.2.2.2.1) hB8 (by decide) (by rw [f40]; exact hMt.1) (fun b hb => (v2.2.2.2.2 b hb).1), ob_eq, f40, hMt.2.1, w1, obv_eq, sum_n hF (p := 50) (f := (gA B R M N N (gA B R M N K a)).2.2.2.2.1) hB8 (by decide) (by rw [k40]; exact hMt.1) (fun b hb => (w2.2.2.2.2 b hb).1), ob_eq, y2, addI_sub]
    · rw [if_neg (show ¬ nI j = nI 0 by rw [e_eq (by omega) (by decide)]; exact g), if_neg g, sum_n hF (p := 58) (f := (gA B R M N K a).2.2.2.2.2) hB8 (by decide) (by rw [f40]; exact hMt.1) (fun b hb => (v2.2.2.2.2 b hb).2), ob_eq, f40, hMt.2.1, w1, obv_eq, sum_n hF (p := 58) (f := (gA B R M N N (gA B R M N K a)).2.2.2.2.2) hB8 (by decide) (by rw [k40]; exact hMt.1) (fun b hb => (w2.2.2.2.2 b hb).2), ob_eq, y3, addI_sub]
  · refine Same.step ⟨-1, ?_, ?_⟩ i0
    · unfold f_X6_whole
      by_cases g : x < nI 0
      · rw [if_pos g]
      · rw [if_neg g, if_neg]
        intro z
        rcases hx with y | y
        · exact g y
        · exact absurd (Int32.le_trans y z) (by decide)
    · unfold f_X7_whole
      rw [l64 (show 0 < 2147483648 by decide), l64 (show 2 < 2147483648 by decide), in_spec, ob_eq, if_neg (show ¬ (nI 0 ≤ x ∧ x ≤ nI 2) from fun z => by
        rcases hx with y | y
        · exact absurd (Int32.lt_of_lt_of_le y z.1) (Int32.lt_irrefl)
        · exact absurd (Int32.le_trans y z.2) (by decide)), if_pos rfl]
end
section
/-! ===== winter ===== -/
def drw (s i : Nat) : Nat := (7919 * s + 6151 * i + 1) * (7919 * s + 6151 * i + 1) % 65521 / 8
theorem drw_lt (s i : Nat) : drw s i < 8191 := by
  unfold drw
  have : (7919 * s + 6151 * i + 1) * (7919 * s + 6151 * i + 1) % 65521 < 65521 := Nat.mod_lt _ (by decide)
  omega
theorem jlrem_n {a d : Nat} (ha : a < 9223372036854775808) (h0 : 0 < d) (hd : d < 9223372036854775808) : jlrem (lN a) (lN d) = lN (a % d) := pk_lRem (by exact ha) h0 (by exact hd)
theorem drw_sq {s i : Nat} (hs : s < 10000) (hi : i < 60) : (7919 * s + 6151 * i + 1) * (7919 * s + 6151 * i + 1) < 9223372036854775808 := by
  have h : 7919 * s + 6151 * i + 1 ≤ 100000000 := by omega
  have := Nat.mul_le_mul h h
  omega
theorem drw_l {s i : Nat} (hs : s < 10000) (hi : i < 60) : jlrem (((((lN 7919) * (nI s).toInt64) + ((lN 6151) * (nI i).toInt64)) + (lN 1)) * ((((lN 7919) * (nI s).toInt64) + ((lN 6151) * (nI i).toInt64)) + (lN 1))) (lN 65521) = lN ((7919 * s + 6151 * i + 1) * (7919 * s + 6151 * i + 1) % 65521) := by
  rw [← l64 (show s < 2147483648 by omega), ← l64 (show i < 2147483648 by omega), lN_mul, lN_mul, lN_add, lN_add, lN_mul, jlrem_n (drw_sq hs hi) (by decide) (by decide)]
theorem drw_X {F s i : Nat} (hs : s < 10000) (hi : i < 60) (h : HP) : f_X6_draw F (nI s) (nI i) h = some (nI (drw s i), h) := by
  unfold f_X6_draw drw
  have hm : (7919 * s + 6151 * i + 1) * (7919 * s + 6151 * i + 1) % 65521 < 65521 := Nat.mod_lt _ (by decide)
  rw [drw_l hs hi, pk_lDiv (Nat.lt_trans hm (by decide)) (by decide) (by decide), lN_i]
theorem drw_M {s i : Nat} (hs : s < 10000) (hi : i < 60) : (jlrem (((((lN 7919) * (nI s).toInt64) + ((lN 6151) * (nI i).toInt64)) + (lN 1)) * ((((lN 7919) * (nI s).toInt64) + ((lN 6151) * (nI i).toInt64)) + (lN 1))) (lN 65521)).toInt32 / (nI 8) = nI (drw s i) := by
  unfold drw
  have hm : (7919 * s + 6151 * i + 1) * (7919 * s + 6151 * i + 1) % 65521 < 65521 := Nat.mod_lt _ (by decide)
  rw [drw_l hs hi, lN_i]
  exact pk_div (Nat.lt_trans hm (by decide)) (by decide) (by decide)
def low1 (q : Nat) : Nat := if q = 0 then 0 else q &&& (q - 1)
theorem low1_lt {q : Nat} (h : q < 256) : low1 q < 256 := by
  unfold low1
  split
  · decide
  · exact Nat.lt_of_le_of_lt Nat.and_le_left h
theorem low1_n (q : Nat) : nI q &&& (nI q - nI 1) = nI (low1 q) := by
  unfold low1
  by_cases g : q = 0
  · rw [if_pos g, g]; decide
  · rw [if_neg g, e_sub (by omega), e_and]
def wst (N s : Nat) : Nat → Nat → (Nat → Nat) → Nat → Nat
  | 0, _, p => p
  | k + 1, i, p => wst N s k (i + 1) (updN p (drw s i % N) (low1 (p (drw s i % N))))
def wends (N : Nat) (w : Nat) (p : Nat → Nat) : Nat := if w = 0 then sg (fun r => popc (p r)) 0 N else sg (fun r => if p r = 0 then 1 else 0) 0 N
theorem wX_end {F : Nat} {tw : TW} {N w : Nat} {x1 x2 : Int32} {p : Nat → Nat} {h : HP} (hN : N ≤ 32) (hw : w < 2) (hN4 : h tw.1 4 = nI N) (hp : ∀ r, r < 32 → h 20 r = nI (p r) ∧ p r < 256) :
    ∀ (k r n a b : Nat), r + k = N → k < n → f_X6_winter_109 F tw x1 x2 (nI w) n (nI a) (nI b) (nI r) h = some (nI (if w = 0 then a + sg (fun r => popc (p r)) r k else b + sg (fun r => if p r = 0 then 1 else 0) r k), h) := by
  intro k
  induction k with
  | zero =>
    intro r n a b hr hn
    obtain ⟨n, rfl⟩ := succ_of hn
    rw [f_X6_winter_109, hN4, if_pos (by rw [e_le (by omega) (by omega)]; omega), i_eq (by omega) (by decide)]
    by_cases g : w = 0
    · rw [if_pos g, if_pos g]; rfl
    · rw [if_neg g, if_neg g]; rfl
  | succ k ih =>
    intro r n a b hr hn
    obtain ⟨n, rfl⟩ := succ_of hn
    obtain ⟨q1, q2⟩ := hp r (by omega)
    rw [f_X6_winter_109, hN4, if_neg (by rw [e_le (by omega) (by omega)]; omega), if_pos (inb_t (by omega) (by decide)), e_ix (by omega), q1, bc_spec F q2, ob_eq, q1, i_eq (by omega) (by decide), ite_n, e_add, e_add, e_add, ih (r + 1) n _ _ (by omega) (by omega), Nat.add_assoc, Nat.add_assoc]
    rfl
theorem wM_end {F : Nat} (hF : 600 ≤ F) {N w : Nat} {x1 x2 : Int32} {p : Nat → Nat} {h : HP} (hN : N ≤ 32) (hw : w < 2) (hN4 : h 40 1 = nI N) (hp : ∀ r, r < 32 → h 52 (2 + r) = nI (p r) ∧ p r < 256) :
    ∀ (k r n a b : Nat), r + k = N → k < n → f_X7_winter_135 F x1 x2 (nI w) n (nI a) (nI b) (nI r) h = some (nI (if w = 0 then a + sg (fun r => popc (p r)) r k else b + sg (fun r => if p r = 0 then 1 else 0) r k), h) := by
  intro k
  induction k with
  | zero =>
    intro r n a b hr hn
    obtain ⟨n, rfl⟩ := succ_of hn
    rw [f_X7_winter_135, hN4, if_pos (by rw [e_le (by omega) (by omega)]; omega), i_eq (by omega) (by decide)]
    by_cases g : w = 0
    · rw [if_pos g, if_pos g]; rfl
    · rw [if_neg g, if_neg g]; rfl
  | succ k ih =>
    intro r n a b hr hn
    obtain ⟨n, rfl⟩ := succ_of hn
    obtain ⟨q1, q2⟩ := hp r (by omega)
    rw [f_X7_winter_135, hN4, if_neg (by rw [e_le (by omega) (by omega)]; omega), e_add, if_pos (inb_t (by omega) (by decide)), e_ix (by omega), q1, bits_spec hF q2, ob_eq, q1, i_eq (by omega) (by decide), ite_n, e_add, e_add, e_add, ih (r + 1) n _ _ (by omega) (by omega), Nat.add_assoc, Nat.add_assoc]
    rfl
theorem wX_go {F : Nat} {tw : TW} {N s K : Nat} {x3 : Int32} (ht : tw.1 = 4 ∨ tw.1 = 9) (h2 : 2 ≤ N) (hN : N ≤ 32) (hs : s < 10000) (hK : K ≤ 60) :
    ∀ (k i n : Nat) (p : Nat → Nat) (h : HP), i + k = K → k < n → h tw.1 4 = nI N → (∀ r, r < 32 → h 20 r = nI (p r) ∧ p r < 256) →
      ∃ h', f_X6_winter_47 F tw (nI s) (nI K) x3 n (nI i) h = f_X6_winter_109 F tw (nI s) (nI K) x3 F (nI 0) (nI 0) (nI 0) h' ∧ (∀ r, r < 32 → h' 20 r = nI (wst N s k i p r) ∧ wst N s k i p r < 256) ∧ ∀ z, z ≠ 20 → h' z = h z := by
  intro k
  induction k with
  | zero =>
    intro i n p h hi hn hN4 hp
    obtain ⟨n, rfl⟩ := succ_of hn
    refine ⟨h, ?_, hp, fun _ _ => rfl⟩
    rw [f_X6_winter_47, if_pos (by rw [e_le (by omega) (by omega)]; omega)]
  | succ k ih =>
    intro i n p h hi hn hN4 hp
    obtain ⟨n, rfl⟩ := succ_of hn
    have hd := drw_lt s i
    have hm : drw s i % N < N := Nat.mod_lt _ (by omega)
    obtain ⟨q1, q2⟩ := hp (drw s i % N) (by omega)
    obtain ⟨h', f1, f2, f3⟩ := ih (i + 1) n (updN p (drw s i % N) (low1 (p (drw s i % N)))) (up h 20 (drw s i % N) (nI (low1 (p (drw s i % N))))) (by omega) (by omega) (by rw [up_c (by omega)]; exact hN4) (fun r hr => by
      unfold updN
      by_cases z : r = drw s i % N
      · rw [z, if_pos rfl, up_s]; exact ⟨rfl, low1_lt q2⟩
      · rw [if_neg z, up_n z]; exact hp r hr)
    refine ⟨h', ?_, f2, fun z hz => by rw [f3 z hz, up_c hz]⟩
    rw [f_X6_winter_47, if_neg (by rw [e_le (by omega) (by omega)]; omega), drw_X hs (by omega), ob_eq, rowBehind_n F hN4 (by omega) (by omega) (by omega), ob_eq, Nat.zero_add, if_pos (inb_t (by omega) (by decide)), e_ix (by omega), q1, low1_n, e_add, f1]
theorem wM_go {F : Nat} {N s K : Nat} {x3 : Int32} (h2 : 2 ≤ N) (hN : N ≤ 32) (hs : s < 10000) (hK : K ≤ 60) :
    ∀ (k i n : Nat) (p : Nat → Nat) (h : HP), i + k = K → k < n → h 40 1 = nI N → (∀ r, r < 32 → h 52 (2 + r) = nI (p r) ∧ p r < 256) →
      ∃ h', f_X7_winter_49 F (nI s) (nI K) x3 n (nI i) h = f_X7_winter_135 F (nI s) (nI K) x3 F (nI 0) (nI 0) (nI 0) h' ∧ (∀ r, r < 32 → h' 52 (2 + r) = nI (wst N s k i p r) ∧ wst N s k i p r < 256) ∧ ∀ z, z ≠ 52 → h' z = h z := by
  intro k
  induction k with
  | zero =>
    intro i n p h hi hn hN4 hp
    obtain ⟨n, rfl⟩ := succ_of hn
    refine ⟨h, ?_, hp, fun _ _ => rfl⟩
    rw [f_X7_winter_49, if_pos (by rw [e_le (by omega) (by omega)]; omega)]
  | succ k ih =>
    intro i n p h hi hn hN4 hp
    obtain ⟨n, rfl⟩ := succ_of hn
    have hd := drw_lt s i
    have hm : drw s i % N < N := Nat.mod_lt _ (by omega)
    obtain ⟨q1, q2⟩ := hp (drw s i % N) (by omega)
    obtain ⟨h', f1, f2, f3⟩ := ih (i + 1) n (updN p (drw s i % N) (low1 (p (drw s i % N)))) (up h 52 (2 + drw s i % N) (nI (low1 (p (drw s i % N))))) (by omega) (by omega) (by rw [up_c (by decide)]; exact hN4) (fun r hr => by
      unfold updN
      by_cases z : r = drw s i % N
      · rw [z, if_pos rfl, up_s]; exact ⟨rfl, low1_lt q2⟩
      · rw [if_neg z, up_n (by omega)]; exact hp r hr)
    refine ⟨h', ?_, f2, fun z hz => by rw [f3 z hz, up_c hz]⟩
    rw [f_X7_winter_49, if_neg (by rw [e_le (by omega) (by omega)]; omega), hN4, if_pos (by rw [Ne, e_eq (by omega) (by decide)]; omega), drw_M hs (by omega), jrem_n (by omega) (by omega) (by omega), e_add, if_pos (inb_t (by omega) (by decide)), e_ix (by omega), q1, low1_n, e_add, f1]
theorem le_n_of {x : Int32} {n : Nat} (hn : n < 2147483647) (h : nI (n + 1) ≤ x) : nI n < x := by
  have h1 : nI n < nI (n + 1) := by rw [e_lt (by omega) (by omega)]; omega
  exact Int32.lt_of_lt_of_le h1 h
theorem op_winter {F c : Nat} (hF : 600 ≤ F) (hc : c < 900000) {tw : TW} {h : HP} (i : INV c tw h) (x y z : Int32) : Step (f_X6_winter F tw x y z) (f_X7_winter F x y z) c tw h := by
  have i0 := i
  obtain ⟨hK, B, N, R, T, M, hT, hC, hMt, hS, hD, -, -, -, -, -⟩ := i
  obtain ⟨hB1, hB8, hN2, hN32, hR6, hTM⟩ := hT
  have hKc := hK.c
  have h256 := p2le hB8
  have bad : ¬ (nI 0 ≤ x ∧ x ≤ nI 9999 ∧ nI 1 ≤ y ∧ y ≤ nI 60 ∧ nI 0 ≤ z ∧ z ≤ nI 1) → Step (f_X6_winter F tw x y z) (f_X7_winter F x y z) c tw h := by
    intro hb
    refine Same.step ⟨-1, ?_, ?_⟩ i0
    · unfold f_X6_winter
      by_cases g1 : nI 0 ≤ x
      · rw [if_neg (Int32.not_lt.mpr g1)]
        by_cases g2 : x ≤ nI 9999
        · rw [if_neg (Int32.not_lt.mpr g2)]
          by_cases g3 : nI 1 ≤ y
          · rw [if_neg (Int32.not_lt.mpr g3)]
            by_cases g4 : y ≤ nI 60
            · rw [if_neg (Int32.not_lt.mpr g4)]
              by_cases g5 : nI 0 ≤ z
              · rw [if_neg (Int32.not_lt.mpr g5), if_neg (fun g6 => hb ⟨g1, g2, g3, g4, g5, g6⟩)]
              · rw [if_pos (Int32.not_le.mp g5)]
            · rw [if_pos (Int32.not_le.mp g4)]
          · rw [if_pos (Int32.not_le.mp g3)]
        · rw [if_pos (Int32.not_le.mp g2)]
      · rw [if_pos (Int32.not_le.mp g1)]
    · unfold f_X7_winter f_X7_isTwo
      rw [l64 (show 0 < 2147483648 by decide), l64 (show 1 < 2147483648 by decide), l64 (show 9999 < 2147483648 by decide), l64 (show 60 < 2147483648 by decide), in_spec, ob_eq]
      by_cases g1 : nI 0 ≤ x ∧ x ≤ nI 9999
      · rw [if_pos g1, if_neg n10, in_spec, ob_eq]
        by_cases g2 : nI 1 ≤ y ∧ y ≤ nI 60
        · rw [if_pos g2, if_neg n10, in_spec, ob_eq, if_neg (show ¬ (nI 0 ≤ z ∧ z ≤ nI 1) from fun g => hb ⟨g1.1, g1.2, g2.1, g2.2, g.1, g.2⟩), guard01 (Or.inl rfl), ob_eq, if_pos rfl]
        · rw [if_neg g2, if_pos rfl]
      · rw [if_neg g1, if_pos rfl]
  rcases cas x (n := 10000) (by decide) with ⟨s, hs, rfl⟩ | hx
  · rcases cas y (n := 61) (by decide) with ⟨K, hK60, rfl⟩ | hy
    · by_cases hK0 : K = 0
      · exact bad (fun g => absurd g.2.2.1 (by rw [e_le (by decide) (by omega)]; omega))
      rcases cas z (n := 2) (by decide) with ⟨w, hw, rfl⟩ | hz
      · clear bad
        obtain ⟨a, a1, a2, a3⟩ := toAD hB8 (show c < 1000000 by omega) hS hD
        obtain ⟨h3, p1, p2, p3⟩ := copy_n F (h := h)
        have c19 := a1.dv p2
        obtain ⟨h4, r1, r2, r3⟩ := wX_go (F := F) (tw := tw) (x3 := nI w) hKc hN2 hN32 hs (show K ≤ 60 by omega) K 0 F a.2.2.1 h3 (by omega) (by omega) (by rw [p3 tw.1 (by omega)]; exact hC.2.1) (fun r hr => ⟨c19.2.2.1 r hr, by have := a3.2.2.2 r hr; omega⟩)
        have fr4 : ∀ q, q < 19 ∨ 23 < q → h4 q = h q := fun q hq => by rw [r3 q (by omega), p3 q hq]
        obtain ⟨g1, u1, u2, u3⟩ := copies_n hF (a := 43) (b := 52) (x := 0) (y := 0) (h := h4) (by decide) (by decide) (by decide) (by decide) (by decide)
        have m52 : MD 52 g1 a := a2.cp (fun j hj => by rw [u2 j, if_pos (by omega), fr4 43 (by decide)]; congr 1; omega)
        have e40 : g1 40 = h 40 := by rw [u3 40 (by decide), fr4 40 (by decide)]
        obtain ⟨g2, v1, v2, v3⟩ := wM_go (F := F) (x3 := nI w) hN2 hN32 hs (show K ≤ 60 by omega) K 0 F a.2.2.1 g1 (by omega) (by omega) (by rw [e40]; exact hMt.2.1) (fun r hr => ⟨m52.2.2.1 r hr, by have := a3.2.2.2 r hr; omega⟩)
        refine ⟨nI (if w = 0 then 0 + sg (fun r => popc (wst N s K 0 a.2.2.1 r)) 0 N else 0 + sg (fun r => if wst N s K 0 a.2.2.1 r = 0 then 1 else 0) 0 N), h4, g2, ?_, ?_, (i0.ess (ess_tried hK (fun q hq hq2 => by rw [v3 q hq2, u3 q hq2, fr4 q hq]))).mono (Nat.le_succ c)⟩
        · unfold f_X6_winter
          rw [if_neg (by rw [e_lt (by omega) (by decide)]; omega), if_neg (by rw [e_lt (by decide) (by omega)]; omega), if_neg (by rw [e_lt (by omega) (by decide)]; omega), if_neg (by rw [e_lt (by decide) (by omega)]; omega), if_neg (by rw [e_lt (by omega) (by decide)]; omega), if_pos (by rw [e_le (by omega) (by decide)]; omega), p1, obv_eq, r1, wX_end hN32 hw (by rw [fr4 tw.1 (by omega)]; exact hC.2.1) r2 N 0 F 0 0 (by omega) (by omega)]
        · unfold f_X7_winter f_X7_isTwo
          rw [l64 (show 0 < 2147483648 by decide), l64 (show 1 < 2147483648 by decide), l64 (show 9999 < 2147483648 by decide), l64 (show 60 < 2147483648 by decide), in_spec, ob_eq, if_pos (show nI 0 ≤ nI s ∧ nI s ≤ nI 9999 from ⟨by rw [e_le (by decide) (by omega)]; omega, by rw [e_le (by omega) (by decide)]; omega⟩), if_neg n10, in_spec, ob_eq, if_pos (show nI 1 ≤ nI K ∧ nI K ≤ nI 60 from ⟨by rw [e_le (by decide) (by omega)]; omega, by rw [e_le (by omega) (by decide)]; omega⟩), if_neg n10, in_spec, ob_eq, if_pos (show nI 0 ≤ nI w ∧ nI w ≤ nI 1 from ⟨by rw [e_le (by decide) (by omega)]; omega, by rw [e_le (by omega) (by decide)]; omega⟩), guard01 (Or.inr rfl), ob_eq, if_neg n10, u1, obv_eq, v1, wM_end hF hN32 hw (by rw [v3 40 (by decide), e40]; exact hMt.2.1) v2 N 0 F 0 0 (by omega) (by omega)]
      · exact bad (fun g => by
          rcases hz with q | q
          · exact Int32.not_lt.mpr g.2.2.2.2.1 q
          · exact absurd (Int32.le_trans q g.2.2.2.2.2) (by decide))
    · exact bad (fun g => by
        rcases hy with q | q
        · exact absurd (Int32.le_trans g.2.2.1 (Int32.le_of_lt q)) (by decide)
        · exact absurd (Int32.le_trans q g.2.2.2.1) (by decide))
  · exact bad (fun g => by
      rcases hx with q | q
      · exact Int32.not_lt.mpr g.1 q
      · exact absurd (Int32.le_trans q g.2.1) (by decide))
end
section
/-! ===== letters: the class fills its rows ===== -/
def Lof (p : Nat) : Nat := if 2 ≤ popc p then popc p + 2 else 1
theorem Lof_le (p : Nat) : Lof p ≤ 10 := by
  unfold Lof
  have := popc_le p
  split <;> omega
theorem Lof_X {F p : Nat} (hp : p < 256) (h : HP) : f_X3_lettersOf F (nI p) h = some (nI (Lof p), h) := by
  have := popc_le p
  unfold f_X3_lettersOf Lof
  rw [bc_spec F hp, ob_eq, i_le (by decide) (by omega), e_add]
  by_cases g : 2 ≤ popc p
  · rw [if_pos g, if_pos g]
  · rw [if_neg g, if_neg g]
/-- w from i on is a part of l rows, m times -/
def rep (w : Nat → Nat) (i l m : Nat) : Prop := 1 ≤ l ∧ 2 ≤ m ∧ m ≤ 9 ∧ ∀ x, i ≤ x → x + l < i + m * l → w x = w (x + l)
def cand (w : Nat → Nat) (d i l m j : Nat) : Prop := 0 < d ∧ rep w i l m ∧ i + m * l ≤ j
def cval (C : Nat → Nat → Nat → Nat) (d i l m j : Nat) : Nat := 3 + C (d - 1) i (i + l) + C d (i + m * l) j
def KC (w : Nat → Nat) (N : Nat) (C : Nat → Nat → Nat → Nat) (d i : Nat) : Prop :=
  C d i i = 0 ∧ ∀ j, i < j → j ≤ N → C d i j ≤ Lof (w i) + C d (i + 1) j ∧ (∀ l m, cand w d i l m j → C d i j ≤ cval C d i l m j) ∧ (C d i j = Lof (w i) + C d (i + 1) j ∨ ∃ l m, cand w d i l m j ∧ C d i j = cval C d i l m j)
theorem KC.congr {w : Nat → Nat} {N d i : Nat} {C C' : Nat → Nat → Nat → Nat} (h : KC w N C d i) (e1 : ∀ j, i ≤ j → j ≤ N → C' (d - 1) i j = C (d - 1) i j) (e2 : ∀ i' j, i ≤ i' → i' ≤ j → j ≤ N → C' d i' j = C d i' j) (hi : i ≤ N) : KC w N C' d i := by
  have ev : ∀ l m j, cand w d i l m j → j ≤ N → cval C' d i l m j = cval C d i l m j := fun l m j hc hj => by
    obtain ⟨_, ⟨h1, h2, h3, _⟩, h4⟩ := hc
    have := Nat.mul_le_mul_right l h2
    unfold cval
    rw [e1 (i + l) (by omega) (by omega), e2 (i + m * l) j (by omega) h4 hj]
  refine ⟨by rw [e2 i i (Nat.le_refl _) (Nat.le_refl _) hi]; exact h.1, fun j hj hjN => ?_⟩
  obtain ⟨a, b, c⟩ := h.2 j hj hjN
  rw [e2 i j (Nat.le_refl _) (by omega) hjN, e2 (i + 1) j (by omega) (by omega) hjN]
  refine ⟨a, fun l m hc => by rw [ev l m j hc hjN]; exact b l m hc, ?_⟩
  rcases c with c | ⟨l, m, hc, c⟩
  · exact Or.inl c
  · exact Or.inr ⟨l, m, hc, by rw [ev l m j hc hjN]; exact c⟩
/-- only row i of table c may have changed -/
def RF (c i N : Nat) (h h' : HP) : Prop := ∀ z y, (z ≠ c ∨ y ≤ 33 * i + i ∨ 33 * i + N < y) → h' z y = h z y
theorem RF.cell {c i N : Nat} {h h' : HP} (r : RF c i N h h') {z : Nat} (hz : z ≠ c) : h' z = h z := funext fun y => r z y (Or.inl hz)
theorem RF.trans {c i N : Nat} {h h' h'' : HP} (r : RF c i N h h') (s : RF c i N h' h'') : RF c i N h h'' := fun z y q => by rw [s z y q, r z y q]
theorem RF.refl (c i N : Nat) (h : HP) : RF c i N h h := fun _ _ _ => rfl
theorem RF.up {c i N j : Nat} (h : HP) (x : Int32) (hj : i < j) (hjN : j ≤ N) : RF c i N h (up h c (33 * i + j) x) := fun z y q => by
  rw [up_at, if_neg]
  rintro ⟨rfl, rfl⟩
  omega
theorem bwp {F c i e N cost : Nat} {f : Nat → Nat} (hL : ln c = 1089) (hN : N ≤ 32) (hie : i < e) (hco : cost < 1000) (hf : ∀ j, j ≤ N → f j < 1000) :
    ∀ (k j n : Nat) (v : Nat → Nat) (h : HP), j + k = N + 1 → k < n → e ≤ j → (∀ j, e ≤ j → j ≤ N → h c (33 * e + j) = nI (f j)) → (∀ j, i < j → j ≤ N → h c (33 * i + j) = nI (v j) ∧ v j < 1000) →
      ∃ h', f_X3_beginWithPart_3 F c (nI i) (nI e) (nI cost) (nI N) n (nI j) h = some h' ∧ (∀ j', i < j' → j' ≤ N → h' c (33 * i + j') = nI (if j ≤ j' ∧ cost + f j' < v j' then cost + f j' else v j')) ∧ RF c i N h h' := by
  intro k
  induction k with
  | zero =>
    intro j n v h hj hn hej he hv
    obtain ⟨n, rfl⟩ := succ_of hn
    refine ⟨h, ?_, fun j' h1 h2 => by rw [if_neg (by omega)]; exact (hv j' h1 h2).1, RF.refl _ _ _ _⟩
    rw [f_X3_beginWithPart_3, if_pos (by rw [e_lt (by omega) (by omega)]; omega)]
  | succ k ih =>
    intro j n v h hj hn hej he hv
    obtain ⟨n, rfl⟩ := succ_of hn
    have hfj := hf j (by omega)
    have hej2 := he j hej (by omega)
    obtain ⟨hvj, hvb⟩ := hv j (by omega) (by omega)
    rw [f_X3_beginWithPart_3, if_neg (by rw [e_lt (by omega) (by omega)]; omega), e_mul, e_add, e_mul, e_add, show e * 33 + j = 33 * e + j by omega, show i * 33 + j = 33 * i + j by omega, if_pos (inb_t (by omega) (by omega)), if_pos (inb_t (by omega) (by omega)), e_ix (by omega), e_ix (by omega), hej2, hvj, e_add, i_le (by omega) (by omega), e_add]
    by_cases g : v j ≤ cost + f j
    · rw [if_pos g]
      obtain ⟨h', f1, f2, f3⟩ := ih (j + 1) n v h (by omega) (by omega) (by omega) he hv
      refine ⟨h', f1, fun j' h1 h2 => ?_, f3⟩
      rw [f2 j' h1 h2]
      by_cases z : j' = j
      · rw [z, if_neg (by omega), if_neg (by omega)]
      · by_cases y : j + 1 ≤ j' ∧ cost + f j' < v j'
        · rw [if_pos y, if_pos (by omega)]
        · rw [if_neg y, if_neg (by omega)]
    · rw [if_neg g]
      obtain ⟨h', f1, f2, f3⟩ := ih (j + 1) n (updN v j (cost + f j)) (up h c (33 * i + j) (nI (cost + f j))) (by omega) (by omega) (by omega) (fun j' h1 h2 => by rw [up_n (by omega)]; exact he j' h1 h2) (fun j' h1 h2 => by
        unfold updN
        by_cases z : j' = j
        · rw [if_pos z, z, up_s]; exact ⟨rfl, by omega⟩
        · rw [if_neg z, up_n (by omega)]; exact hv j' h1 h2)
      refine ⟨h', f1, fun j' h1 h2 => ?_, (RF.up h _ (by omega) (by omega)).trans f3⟩
      rw [f2 j' h1 h2]
      unfold updN
      by_cases z : j' = j
      · rw [z, if_neg (by omega), if_pos rfl, if_pos (by omega)]
      · rw [if_neg z]
        by_cases y : j + 1 ≤ j' ∧ cost + f j' < v j'
        · rw [if_pos y, if_pos (by omega)]
        · rw [if_neg y, if_neg (by omega)]
/-- how often a part is told -/
theorem told_n {F : Nat} (hF : 600 ≤ F) {i l N : Nat} {w : Nat → Nat} {h : HP} (hl : 1 ≤ l) (hi : i + 2 * l ≤ N) (hN : N ≤ 32) (hw : ∀ x, x < 32 → h 15 x = nI (w x) ∧ w x < 256) :
    ∃ T, 1 ≤ T ∧ T ≤ 9 ∧ (∀ m, 2 ≤ m → (m ≤ T ↔ rep w i l m ∧ i + m * l ≤ N)) ∧ f_X3_timesTold F (nI i) (nI l) 15 (nI N) h = some (nI T, h) := by
  let lim := min (N - i - l) (8 * l)
  have fin : ∀ x, x ≤ lim → (∀ y, y < x → w (i + y) = w (i + y + l)) → (x = lim ∨ w (i + x) ≠ w (i + x + l)) → 1 ≤ 1 + x / l ∧ 1 + x / l ≤ 9 ∧ (∀ m, 2 ≤ m → (m ≤ 1 + x / l ↔ rep w i l m ∧ i + m * l ≤ N)) := by
    intro x hx hy hz
    have h1 : x ≤ N - i - l := Nat.le_trans hx (Nat.min_le_left _ _)
    have h2 : x ≤ 8 * l := Nat.le_trans hx (Nat.min_le_right _ _)
    have hd : x / l ≤ 8 := by
      have := Nat.div_le_div_right (c := l) h2
      rw [Nat.mul_div_cancel _ (by omega)] at this
      exact this
    have hdm : x / l * l ≤ x := Nat.div_mul_le_self x l
    have hlast : ∀ m, (m - 1) * l ≤ x → m - 1 ≤ x / l := fun m hm => (Nat.le_div_iff_mul_le (show 0 < l by omega)).mpr hm
    generalize x / l = q at hd hdm hlast ⊢
    refine ⟨by omega, by omega, fun m hm => ⟨fun hmT => ?_, fun hr => ?_⟩⟩
    · have hm1 : (m - 1) * l ≤ q * l := Nat.mul_le_mul_right l (by omega)
      have hml : m * l = (m - 1) * l + l := by
        obtain ⟨q, rfl⟩ : ∃ q, m = q + 1 := ⟨m - 1, by omega⟩
        rw [Nat.succ_mul]; rfl
      refine ⟨⟨hl, hm, by omega, fun y hy1 hy2 => ?_⟩, by omega⟩
      have := hy (y - i) (by omega)
      rw [show i + (y - i) = y by omega] at this
      exact this
    · obtain ⟨⟨_, _, hm9, hp⟩, hN2⟩ := hr
      have hml : m * l = (m - 1) * l + l := by
        obtain ⟨q, rfl⟩ : ∃ q, m = q + 1 := ⟨m - 1, by omega⟩
        rw [Nat.succ_mul]; rfl
      have hm8 : (m - 1) * l ≤ 8 * l := Nat.mul_le_mul_right l (by omega)
      have hxm : (m - 1) * l ≤ x := by
        rcases hz with hz | hz
        · rw [hz]
          exact Nat.le_min.mpr ⟨by omega, hm8⟩
        · rcases Nat.lt_or_ge x ((m - 1) * l) with q | q
          · exact absurd (hp (i + x) (by omega) (by omega)) hz
          · exact q
      have := hlast m hxm
      omega
  have e48 : ∀ x, x < 1000 → f_X3_timesTold_48 F (nI i) (nI l) 15 (nI N) (nI x) h = some (nI (1 + x / l), h) := fun x hx => by
    unfold f_X3_timesTold_48
    rw [if_neg (by rw [e_le (by omega) (by decide)]; omega), if_pos (by rw [Ne, e_eq (by omega) (by decide)]; omega), pk_div (by rw [e31]; omega) (by omega) (by rw [e31]; omega), e_add]
  have hlim : lim ≤ 32 := Nat.le_trans (Nat.min_le_left _ _) (by omega)
  have hlim2 : lim ≤ N - i - l := Nat.min_le_left _ _
  have lp : ∀ (k x n : Nat), x + k = lim → k < n → (∀ y, y < x → w (i + y) = w (i + y + l)) → ∃ T, 1 ≤ T ∧ T ≤ 9 ∧ (∀ m, 2 ≤ m → (m ≤ T ↔ rep w i l m ∧ i + m * l ≤ N)) ∧ f_X3_timesTold_18 F (nI i) (nI l) 15 (nI N) n (nI x) (nI lim) h = some (nI T, h) := by
    intro k
    induction k with
    | zero =>
      intro x n hx hn hy
      obtain ⟨n, rfl⟩ := succ_of hn
      obtain ⟨a, b, c⟩ := fin x (by omega) hy (Or.inl (by omega))
      refine ⟨1 + x / l, a, b, c, ?_⟩
      rw [f_X3_timesTold_18, if_pos (by rw [e_le (by omega) (by omega)]; omega), e48 x (by omega)]
    | succ k ih =>
      intro x n hx hn hy
      obtain ⟨n, rfl⟩ := succ_of hn
      obtain ⟨q1, q2⟩ := hw (i + x) (by omega)
      obtain ⟨q3, q4⟩ := hw (i + x + l) (by omega)
      have e : f_X3_timesTold_18 F (nI i) (nI l) 15 (nI N) (n + 1) (nI x) (nI lim) h = if w (i + x) = w (i + x + l) then f_X3_timesTold_18 F (nI i) (nI l) 15 (nI N) n (nI (x + 1)) (nI lim) h else f_X3_timesTold_48 F (nI i) (nI l) 15 (nI N) (nI x) h := by
        rw [f_X3_timesTold_18, if_neg (by rw [e_le (by omega) (by omega)]; omega), e_add, e_add, if_pos (inb_t (show i + x < ln 15 by show i + x < 32; omega) (by decide)), if_pos (inb_t (show i + x + l < ln 15 by show i + x + l < 32; omega) (by decide)), e_ix (by omega), e_ix (by omega), q1, q3, i_eq (by omega) (by omega), e_add]
      rw [e]
      by_cases g : w (i + x) = w (i + x + l)
      · rw [if_pos g]
        exact ih (x + 1) n (by omega) (by omega) (fun y hy1 => by
          by_cases z : y = x
          · rw [z]; exact g
          · exact hy y (by omega))
      · rw [if_neg g]
        obtain ⟨a, b, c⟩ := fin x (by omega) hy (Or.inr g)
        exact ⟨1 + x / l, a, b, c, e48 x (by omega)⟩
  obtain ⟨T, t1, t2, t3, t4⟩ := lp lim 0 F (by omega) (by omega) (fun y hy => by omega)
  refine ⟨T, t1, t2, t3, ?_⟩
  unfold f_X3_timesTold
  rw [e_sub (by omega), e_sub (by omega), e_mul, min_n F (by omega) (by omega), ob_eq]
  exact t4
end
section
/-! ===== letters: a row of the class's table ===== -/
def PRl (l' m' l m : Nat) : Prop := l' < l ∨ l' = l ∧ m' < m
def RowI (w : Nat → Nat) (N : Nat) (C : Nat → Nat → Nat → Nat) (d i l m : Nat) (v : Nat → Nat) : Prop :=
  ∀ j, i < j → j ≤ N → v j ≤ Lof (w i) + C d (i + 1) j ∧ (∀ l' m', PRl l' m' l m → cand w d i l' m' j → v j ≤ cval C d i l' m' j) ∧ (v j = Lof (w i) + C d (i + 1) j ∨ ∃ l' m', cand w d i l' m' j ∧ v j = cval C d i l' m' j)
def RowD (w : Nat → Nat) (N : Nat) (C : Nat → Nat → Nat → Nat) (d i : Nat) (v : Nat → Nat) : Prop :=
  ∀ j, i < j → j ≤ N → v j ≤ Lof (w i) + C d (i + 1) j ∧ (∀ l' m', cand w d i l' m' j → v j ≤ cval C d i l' m' j) ∧ (v j = Lof (w i) + C d (i + 1) j ∨ ∃ l' m', cand w d i l' m' j ∧ v j = cval C d i l' m' j)
/-- the rows of table d behind i -/
def Beh (N : Nat) (C : Nat → Nat → Nat → Nat) (d i : Nat) (h : HP) : Prop := ∀ i' j, i < i' → i' ≤ j → j ≤ N → h (32 + d) (33 * i' + j) = nI (C d i' j) ∧ C d i' j ≤ 10 * (j - i')
theorem Beh.rf {N d i : Nat} {C : Nat → Nat → Nat → Nat} {h h' : HP} (hN : N ≤ 32) (b : Beh N C d i h) (r : RF (32 + d) i N h h') : Beh N C d i h' := fun i' j h1 h2 h3 => by
  rw [r (32 + d) (33 * i' + j) (Or.inr (Or.inr (by omega)))]
  exact b i' j h1 h2 h3
theorem fill136 {F d i N l cost T : Nat} (hF : 600 ≤ F) {w : Nat → Nat} {C : Nat → Nat → Nat → Nat} {k79 : Int32 → HP → Option HP} (hd : 0 < d) (hd3 : d ≤ 3) (hN : N ≤ 32) (hl : 1 ≤ l) (hlN : i + 2 * l ≤ N) (hT9 : T ≤ 9) (hT1 : 1 ≤ T) (hT : ∀ m, 2 ≤ m → (m ≤ T ↔ rep w i l m ∧ i + m * l ≤ N)) (hcost : cost = 3 + C (d - 1) i (i + l)) (hc : cost < 1000) :
    ∀ (k m n : Nat) (v : Nat → Nat) (h : HP), m + k = T + 1 → k < n → 2 ≤ m → Beh N C d i h → (∀ j, i < j → j ≤ N → h (32 + d) (33 * i + j) = nI (v j)) → RowI w N C d i l m v →
      ∃ h' v', f_X3_fillFrom_136 F (nI d) (nI i) 15 (nI N) k79 n (nI l) (nI cost) (nI T) (nI (i + m * l)) h = k79 (nI (l + 1)) h' ∧ RF (32 + d) i N h h' ∧ (∀ j, i < j → j ≤ N → h' (32 + d) (33 * i + j) = nI (v' j)) ∧ RowI w N C d i l (T + 1) v' := by
  have hL : ln (32 + d) = 1089 := by
    rcases (show d = 1 ∨ d = 2 ∨ d = 3 by omega) with rfl | rfl | rfl <;> rfl
  intro k
  induction k with
  | zero =>
    intro m n v h hm hn hm2 hB hv hR
    obtain ⟨n, rfl⟩ := succ_of hn
    have hml : m * l = T * l + l := by rw [show m = T + 1 by omega, Nat.succ_mul]
    have hT9l : T * l ≤ 9 * l := Nat.mul_le_mul_right l hT9
    refine ⟨h, v, ?_, RF.refl _ _ _ _, hv, by rw [show T + 1 = m by omega]; exact hR⟩
    rw [f_X3_fillFrom_136, e_mul, e_add, if_pos (by rw [e_lt (by omega) (by omega)]; omega), e_add]
  | succ k ih =>
    intro m n v h hm hn hm2 hB hv hR
    obtain ⟨n, rfl⟩ := succ_of hn
    obtain ⟨hrep, hmN⟩ := (hT m hm2).mp (by omega)
    have hT9l : T * l ≤ 9 * l := Nat.mul_le_mul_right l hT9
    have hmT : m * l ≤ T * l := Nat.mul_le_mul_right l (by omega)
    have hm2l : 2 * l ≤ m * l := Nat.mul_le_mul_right l hm2
    have hLw := Lof_le (w i)
    have hvb : ∀ j, i < j → j ≤ N → v j < 1000 := fun j h1 h2 => by
      have := (hR j h1 h2).1
      have := (hB (i + 1) j (by omega) (by omega) h2).2
      omega
    obtain ⟨h1, b1, b2, b3⟩ := bwp (F := F) (c := 32 + d) (i := i) (e := i + m * l) (N := N) (cost := cost) (f := fun j => if i + m * l ≤ j then C d (i + m * l) j else 0) hL hN (by omega) hc (fun j hj => by
      split
      · have := (hB (i + m * l) j (by omega) (by omega) hj).2; omega
      · decide) (N + 1 - (i + m * l)) (i + m * l) F v h (by omega) (by omega) (Nat.le_refl _) (fun j h1 h2 => by
        rw [if_pos h1]; exact (hB (i + m * l) j (by omega) h1 h2).1) (fun j h1 h2 => ⟨hv j h1 h2, hvb j h1 h2⟩)
    obtain ⟨h', v', f1, f2, f3, f4⟩ := ih (m + 1) n (fun j => if i + m * l ≤ j ∧ cost + (if i + m * l ≤ j then C d (i + m * l) j else 0) < v j then cost + (if i + m * l ≤ j then C d (i + m * l) j else 0) else v j) h1 (by omega) (by omega) (by omega) (hB.rf hN b3) b2 (fun j h1 h2 => by
      obtain ⟨r1, r2, r3⟩ := hR j h1 h2
      dsimp only
      by_cases g : i + m * l ≤ j
      · rw [if_pos g]
        have hcand : cand w d i l m j := ⟨hd, hrep, g⟩
        have hcv : cval C d i l m j = cost + C d (i + m * l) j := by unfold cval; rw [hcost]
        by_cases g2 : cost + C d (i + m * l) j < v j
        · rw [if_pos ⟨g, g2⟩]
          refine ⟨by omega, fun l' m' hp hc' => ?_, Or.inr ⟨l, m, hcand, hcv.symm⟩⟩
          rcases hp with hp | ⟨hp1, hp2⟩
          · have := r2 l' m' (Or.inl hp) hc'; omega
          · rcases Nat.lt_or_ge m' m with q | q
            · have := r2 l' m' (Or.inr ⟨hp1, q⟩) hc'; omega
            · have hmm : m' = m := by omega
              rw [hp1, hmm, hcv]; exact Nat.le_refl _
        · rw [if_neg (fun q => g2 q.2)]
          refine ⟨r1, fun l' m' hp hc' => ?_, r3⟩
          rcases hp with hp | ⟨hp1, hp2⟩
          · exact r2 l' m' (Or.inl hp) hc'
          · rcases Nat.lt_or_ge m' m with q | q
            · exact r2 l' m' (Or.inr ⟨hp1, q⟩) hc'
            · have hmm : m' = m := by omega
              rw [hp1, hmm, hcv]; omega
      · rw [if_neg (fun q => g q.1)]
        refine ⟨r1, fun l' m' hp hc' => ?_, r3⟩
        rcases hp with hp | ⟨hp1, hp2⟩
        · exact r2 l' m' (Or.inl hp) hc'
        · rcases Nat.lt_or_ge m' m with q | q
          · exact r2 l' m' (Or.inr ⟨hp1, q⟩) hc'
          · have hmm : m' = m := by omega
            subst hp1
            subst hmm
            exact absurd hc'.2.2 g)
    refine ⟨h', v', ?_, b3.trans f2, f3, f4⟩
    rw [f_X3_fillFrom_136, e_mul, e_add, if_neg (by rw [e_lt (by omega) (by omega)]; omega), e_ix (by omega)]
    unfold f_X3_beginWithPart
    rw [show 31 + 1 + d = 32 + d by omega, b1, obv_eq, e_add, show i + m * l + l = i + (m + 1) * l by rw [Nat.succ_mul]; omega, f1]
theorem fill79 {F d i N : Nat} (hF : 600 ≤ F) {w : Nat → Nat} {C : Nat → Nat → Nat → Nat} (hd3 : d ≤ 3) (hN : N ≤ 32) (hi : i < N) :
    ∀ (k l n : Nat) (v : Nat → Nat) (h : HP), l + k = 40 → k < n → 1 ≤ l → (∀ x, x < 32 → h 15 x = nI (w x) ∧ w x < 256) → Beh N C d i h → (0 < d → ∀ j, i ≤ j → j ≤ N → h (32 + (d - 1)) (33 * i + j) = nI (C (d - 1) i j) ∧ C (d - 1) i j ≤ 10 * (j - i)) → (∀ j, i < j → j ≤ N → h (32 + d) (33 * i + j) = nI (v j)) → RowI w N C d i l 0 v →
      ∃ h' v', f_X3_fillFrom_79 F (nI d) (nI i) 15 (nI N) n (nI l) h = some h' ∧ RF (32 + d) i N h h' ∧ (∀ j, i < j → j ≤ N → h' (32 + d) (33 * i + j) = nI (v' j)) ∧ RowD w N C d i v' := by
  have stop : ∀ (l : Nat) (v : Nat → Nat), (d = 0 ∨ N < i + 2 * l) → RowI w N C d i l 0 v → RowD w N C d i v := by
    intro l v hs hR j h1 h2
    obtain ⟨r1, r2, r3⟩ := hR j h1 h2
    refine ⟨r1, fun l' m' hc => ?_, r3⟩
    rcases Nat.lt_or_ge l' l with q | q
    · exact r2 l' m' (Or.inl q) hc
    · obtain ⟨c1, ⟨c2, c3, c4, _⟩, c5⟩ := hc
      have a1 := Nat.mul_le_mul_right l' c3
      have a2 := Nat.mul_le_mul_left 2 q
      omega
  intro k
  induction k with
  | zero =>
    intro l n v h hl hn hl1 hw hB hP hv hR
    obtain ⟨n, rfl⟩ := succ_of hn
    refine ⟨h, v, ?_, RF.refl _ _ _ _, hv, stop l v (Or.inr (by omega)) hR⟩
    rw [f_X3_fillFrom_79]
    by_cases g : d = 0
    · rw [if_pos (by rw [g]; exact Int32.le_refl _)]
    · rw [if_neg (by rw [e_le (by omega) (by decide)]; omega), e_mul, e_add, if_pos (by rw [e_lt (by omega) (by omega)]; omega)]
  | succ k ih =>
    intro l n v h hl hn hl1 hw hB hP hv hR
    obtain ⟨n, rfl⟩ := succ_of hn
    rw [f_X3_fillFrom_79]
    by_cases g : d = 0
    · refine ⟨h, v, ?_, RF.refl _ _ _ _, hv, stop l v (Or.inl g) hR⟩
      rw [if_pos (by rw [g]; exact Int32.le_refl _)]
    · rw [if_neg (by rw [e_le (by omega) (by decide)]; omega), e_mul, e_add]
      by_cases g2 : N < i + 2 * l
      · refine ⟨h, v, ?_, RF.refl _ _ _ _, hv, stop l v (Or.inr g2) hR⟩
        rw [if_pos (by rw [e_lt (by omega) (by omega)]; omega)]
      · obtain ⟨T, t1, t2, t3, t4⟩ := told_n hF hl1 (by omega) hN hw (i := i)
        obtain ⟨p1, p2⟩ := hP (by omega) (i + l) (by omega) (by omega)
        obtain ⟨h1, v1, b1, b2, b3, b4⟩ := fill136 (F := F) (cost := 3 + C (d - 1) i (i + l)) hF (k79 := f_X3_fillFrom_79 F (nI d) (nI i) 15 (nI N) n) (by omega) hd3 hN hl1 (by omega) t2 t1 t3 rfl (by omega) (T - 1) 2 F v h (by omega) (by omega) (Nat.le_refl _) hB hv (fun j h1 h2 => by
          obtain ⟨r1, r2, r3⟩ := hR j h1 h2
          refine ⟨r1, fun l' m' hp hc' => ?_, r3⟩
          rcases hp with hp | ⟨hp1, hp2⟩
          · exact r2 l' m' (Or.inl hp) hc'
          · have := hc'.2.1.2.1; omega)
        obtain ⟨h', v', f1, f2, f3, f4⟩ := ih (l + 1) n v1 h1 (by omega) (by omega) (by omega) (fun x hx => by rw [b2.cell (show 15 ≠ 32 + d by omega)]; exact hw x hx) (hB.rf hN b2) (fun hd0 j h1 h2 => by rw [b2.cell (show 32 + (d - 1) ≠ 32 + d by omega)]; exact hP hd0 j h1 h2) b3 (fun j h1 h2 => by
          obtain ⟨r1, r2, r3⟩ := b4 j h1 h2
          refine ⟨r1, fun l' m' hp hc' => ?_, r3⟩
          rcases hp with hp | ⟨hp1, hp2⟩
          · rcases Nat.lt_or_ge l' l with q | q
            · exact r2 l' m' (Or.inl q) hc'
            · have hll : l' = l := by omega
              subst hll
              have hmT : m' ≤ T := (t3 m' hc'.2.1.2.1).mpr ⟨hc'.2.1, by have := hc'.2.2; omega⟩
              exact r2 l' m' (Or.inr ⟨rfl, by omega⟩) hc'
          · omega)
        refine ⟨h', v', ?_, b2.trans f2, f3, f4⟩
        rw [if_neg (by rw [e_lt (by omega) (by omega)]; omega), e_sub (by omega), if_pos (inb_t (by omega) (by decide)), e_mul, e_add, e_add, if_pos (inb_t (by omega) (by decide)), e_ix (by omega), e_ix (by omega), t4, ob_eq, show 31 + 1 + (d - 1) = 32 + (d - 1) by omega, show i * 33 + i + l = 33 * i + (i + l) by omega, p1, e_add, b1, f1]
end
section
/-! ===== letters: the class's tables ===== -/
theorem n_m1 (k : Nat) : nI (k + 1) + (-1) = nI k := by
  rw [← e_add, addI_assoc, n1m1, Int32.add_comm, nI0_add]
theorem fill38 {F d i N x : Nat} {C : Nat → Nat → Nat → Nat} (hd3 : d ≤ 3) (hN : N ≤ 32) (hi : i < N) (hx : x ≤ 10) :
    ∀ (k j n : Nat) (h : HP), j + k = N + 1 → k < n → i < j → Beh N C d i h →
      ∃ h', f_X3_fillFrom_38 F (nI d) (nI i) 15 (nI N) n (nI x) (nI j) h = f_X3_fillFrom_79 F (nI d) (nI i) 15 (nI N) F (nI 1) h' ∧ RF (32 + d) (i) N h h' ∧ (∀ j', j' < j → h' (32 + d) (33 * i + j') = h (32 + d) (33 * i + j')) ∧ (∀ j', j ≤ j' → j' ≤ N → h' (32 + d) (33 * i + j') = nI (x + C d (i + 1) j')) := by
  intro k
  induction k with
  | zero =>
    intro j n h hj hn hij hB
    obtain ⟨n, rfl⟩ := succ_of hn
    refine ⟨h, ?_, RF.refl _ _ _ _, fun _ _ => rfl, fun j' h1 h2 => by omega⟩
    rw [f_X3_fillFrom_38, if_pos (by rw [e_lt (by omega) (by omega)]; omega)]
  | succ k ih =>
    intro j n h hj hn hij hB
    obtain ⟨n, rfl⟩ := succ_of hn
    obtain ⟨q1, q2⟩ := hB (i + 1) j (by omega) (by omega) (by omega)
    have r0 : RF (32 + d) i N h (up h (32 + d) (33 * i + j) (nI (x + C d (i + 1) j))) := RF.up h _ (by omega) (by omega)
    obtain ⟨h', f1, f2, f3, f4⟩ := ih (j + 1) n (up h (32 + d) (33 * i + j) (nI (x + C d (i + 1) j))) (by omega) (by omega) (by omega) (hB.rf hN r0)
    refine ⟨h', ?_, r0.trans f2, fun j' hj' => by rw [f3 j' (by omega), up_n (by omega)], fun j' h1 h2 => ?_⟩
    · rw [f_X3_fillFrom_38, if_neg (by rw [e_lt (by omega) (by omega)]; omega), e_add, e_mul, e_add, if_pos (inb_t (by omega) (by decide)), e_mul, e_add, if_pos (inb_t (by omega) (by decide)), e_ix (by omega), e_ix (by omega), e_ix (by omega), show 31 + 1 + d = 32 + d by omega, show (i + 1) * 33 + j = 33 * (i + 1) + j by omega, show i * 33 + j = 33 * i + j by omega, q1, e_add, e_add, f1]
    · by_cases z : j' = j
      · rw [z, f3 j (by omega), up_s]
      · exact f4 j' (by omega) h2
theorem fillFrom_n {F d i N : Nat} (hF : 600 ≤ F) {w : Nat → Nat} {C : Nat → Nat → Nat → Nat} {h : HP} (hd3 : d ≤ 3) (hN : N ≤ 32) (hi : i ≤ N) (hw : ∀ x, x < 32 → h 15 x = nI (w x) ∧ w x < 256) (hB : Beh N C d i h) (hP : 0 < d → ∀ j, i ≤ j → j ≤ N → h (32 + (d - 1)) (33 * i + j) = nI (C (d - 1) i j) ∧ C (d - 1) i j ≤ 10 * (j - i)) :
    ∃ h' v, f_X3_fillFrom F (nI d) (nI i) 15 (nI N) h = some h' ∧ (∀ z y, (z ≠ 32 + d ∨ y < 33 * i + i ∨ 33 * i + N < y) → h' z y = h z y) ∧ v i = 0 ∧ (∀ j, i ≤ j → j ≤ N → h' (32 + d) (33 * i + j) = nI (v j)) ∧ RowD w N C d i v := by
  have r0 : ∀ z y, (z ≠ 32 + d ∨ y < 33 * i + i ∨ 33 * i + N < y) → (up h (32 + d) (33 * i + i) (nI 0)) z y = h z y := fun z y q => by
    rw [up_at, if_neg]
    rintro ⟨rfl, rfl⟩
    omega
  have hB0 : Beh N C d i (up h (32 + d) (33 * i + i) (nI 0)) := fun i' j h1 h2 h3 => by
    rw [up_n (by omega)]; exact hB i' j h1 h2 h3
  have c0 : ∀ z, z ≠ 32 + d → (up h (32 + d) (33 * i + i) (nI 0)) z = h z := fun z hz => up_c hz
  unfold f_X3_fillFrom
  rw [if_pos (inb_t (by omega) (by decide)), e_mul, e_add, if_pos (inb_t (by omega) (by decide)), e_ix (by omega), e_ix (by omega), e_ix (by omega), show 31 + 1 + d = 32 + d by omega, show i * 33 + i = 33 * i + i by omega]
  by_cases g : i < N
  · rw [if_pos (by rw [e_lt (by omega) (by omega)]; exact g), if_pos (inb_t (show i < ln 15 by show i < 32; omega) (by decide)), up_c (show 15 ≠ 32 + d by omega), (hw i (by omega)).1, Lof_X (hw i (by omega)).2, ob_eq, e_add]
    obtain ⟨h1, a1, a2, a3, a4⟩ := fill38 (F := F) (x := Lof (w i)) hd3 hN g (Lof_le _) (N - i) (i + 1) F (up h (32 + d) (33 * i + i) (nI 0)) (by omega) (by omega) (by omega) hB0
    have k1 : ∀ z, z ≠ 32 + d → h1 z = h z := fun z hz => by rw [a2.cell hz, c0 z hz]
    obtain ⟨h2, v, b1, b2, b3, b4⟩ := fill79 hF hd3 hN g 39 1 F (fun j => Lof (w i) + C d (i + 1) j) h1 (by omega) (by omega) (by omega) (fun x hx => by rw [k1 15 (by omega)]; exact hw x hx) (hB0.rf hN a2) (fun hd0 j h1 h2 => by rw [k1 (32 + (d - 1)) (by omega)]; exact hP hd0 j h1 h2) (fun j h1 h2 => a4 j (by omega) h2) (fun j h1 h2 => ⟨Nat.le_refl _, fun l' m' hp hc => by
      have := hc.2.1.1
      rcases hp with hp | ⟨hp1, hp2⟩ <;> omega, Or.inl rfl⟩)
    refine ⟨h2, updN v i 0, by rw [a1, b1], fun z y q => ?_, by unfold updN; rw [if_pos rfl], fun j h1 h2 => ?_, fun j h1 h2 => ?_⟩
    · have q' : z ≠ 32 + d ∨ y ≤ 33 * i + i ∨ 33 * i + N < y := by omega
      rw [b2 z y q', a2 z y q', r0 z y q]
    · unfold updN
      by_cases z : j = i
      · rw [if_pos z, z, b2 (32 + d) (33 * i + i) (Or.inr (Or.inl (Nat.le_refl _))), a2 (32 + d) (33 * i + i) (Or.inr (Or.inl (Nat.le_refl _))), up_s]
      · rw [if_neg z]; exact b3 j (by omega) h2
    · rw [show updN v i 0 j = v j by unfold updN; rw [if_neg (by omega)]]
      exact b4 j h1 h2
  · rw [if_neg (by rw [e_lt (by omega) (by omega)]; exact g)]
    refine ⟨up h (32 + d) (33 * i + i) (nI 0), fun _ => 0, rfl, r0, rfl, fun j h1 h2 => ?_, fun j h1 h2 => by omega⟩
    rw [show j = i by omega, up_s]
/-- the tables as they stand -/
def cvl (h : HP) (d i j : Nat) : Nat := ix (h (32 + d) (33 * i + j))
def TBl (N d i0 : Nat) (h : HP) : Prop := ∀ i j, i0 ≤ i → i ≤ j → j ≤ N → h (32 + d) (33 * i + j) = nI (cvl h d i j) ∧ cvl h d i j ≤ 10 * (j - i)
theorem few28 {F d N : Nat} (hF : 600 ≤ F) {w : Nat → Nat} {k20 : Int32 → HP → Option (Int32 × HP)} (hd3 : d ≤ 3) (hN : N ≤ 32) :
    ∀ (k n : Nat) (h : HP), k ≤ N + 1 → k < n → (∀ x, x < 32 → h 15 x = nI (w x) ∧ w x < 256) → TBl N d k h → (∀ d', d' < d → TBl N d' 0 h ∧ ∀ i, i ≤ N → KC w N (cvl h) d' i) → (∀ i, k ≤ i → i ≤ N → KC w N (cvl h) d i) →
      ∃ h', f_X3_fewestLetters_28 F 15 (nI N) k20 n (nI d) (if k = 0 then (-1) else nI (k - 1)) h = k20 (nI (d + 1)) h' ∧ (∀ z, z ≠ 32 + d → h' z = h z) ∧ ∀ d', d' ≤ d → TBl N d' 0 h' ∧ ∀ i, i ≤ N → KC w N (cvl h') d' i := by
  intro k
  induction k with
  | zero =>
    intro n h hk hn hw hT hp hC
    obtain ⟨n, rfl⟩ := succ_of hn
    refine ⟨h, ?_, fun _ _ => rfl, fun d' hd' => ?_⟩
    · rw [if_pos rfl, f_X3_fewestLetters_28, if_pos m1lt0, e_add]
    · rcases Nat.lt_or_ge d' d with q | q
      · exact hp d' q
      · rw [show d' = d by omega]
        exact ⟨hT, fun i hi => hC i (Nat.zero_le _) hi⟩
  | succ k ih =>
    intro n h hk hn hw hT hp hC
    obtain ⟨n, rfl⟩ := succ_of hn
    have hB : Beh N (cvl h) d k h := fun i' j h1 h2 h3 => hT i' j h1 h2 h3
    obtain ⟨h1, v, a1, a2, a3, a4, a5⟩ := fillFrom_n hF (w := w) (C := cvl h) hd3 hN (show k ≤ N by omega) hw hB (fun hd0 j h1 h2 => (hp (d - 1) (by omega)).1 k j (Nat.zero_le _) h1 h2)
    have cz : ∀ z, z ≠ 32 + d → h1 z = h z := fun z hz => funext fun y => a2 z y (Or.inl hz)
    have hLw := Lof_le (w k)
    have hvb : ∀ j, k ≤ j → j ≤ N → v j ≤ 10 * (j - k) := fun j h1 h2 => by
      by_cases z : j = k
      · rw [z, a3]; exact Nat.zero_le _
      · have q1 := (a5 j (by omega) h2).1
        have q2 := (hT (k + 1) j (Nat.le_refl _) (by omega) h2).2
        omega
    have cv1 : ∀ j, k ≤ j → j ≤ N → cvl h1 d k j = v j := fun j h1 h2 => by
      have := hvb j h1 h2
      unfold cvl
      rw [a4 j h1 h2, e_ix (by omega)]
    have cv2 : ∀ i j, k < i → i ≤ j → j ≤ N → cvl h1 d i j = cvl h d i j := fun i j h1 h2 h3 => by
      unfold cvl
      rw [a2 (32 + d) (33 * i + j) (Or.inr (Or.inr (by omega)))]
    have cv3 : ∀ d', d' ≠ d → cvl h1 d' = cvl h d' := fun d' hd' => by
      funext i j
      unfold cvl
      rw [cz (32 + d') (by omega)]
    obtain ⟨h', f1, f2, f3⟩ := ih n h1 (by omega) (by omega) (fun x hx => by rw [cz 15 (by omega)]; exact hw x hx) (fun i j h1 h2 h3 => by
        by_cases z : i = k
        · rw [z]
          rw [z] at h2
          rw [cv1 j h2 h3]
          exact ⟨a4 j h2 h3, hvb j h2 h3⟩
        · rw [cv2 i j (by omega) h2 h3, a2 (32 + d) (33 * i + j) (Or.inr (Or.inr (by omega)))]
          exact hT i j (by omega) h2 h3)
      (fun d' hd' => by
        obtain ⟨p1, p2⟩ := hp d' hd'
        refine ⟨fun i j h1 h2 h3 => ?_, fun i hi => ?_⟩
        · rw [cv3 d' (by omega), cz (32 + d') (by omega)]; exact p1 i j h1 h2 h3
        · exact (p2 i hi).congr (fun j _ _ => by rw [cv3 (d' - 1) (by omega)]) (fun i' j _ _ _ => by rw [cv3 d' (by omega)]) hi)
      (fun i hki h2 => by
        by_cases z : i = k
        · rw [z]
          refine ⟨by rw [cv1 k (Nat.le_refl _) (by omega)]; exact a3, fun j hj hjN => ?_⟩
          obtain ⟨r1, r2, r3⟩ := a5 j hj hjN
          have ev : ∀ l m, cand w d k l m j → cval (cvl h1) d k l m j = cval (cvl h) d k l m j := fun l m hc => by
            obtain ⟨q0, ⟨q1, q2, q3, _⟩, q4⟩ := hc
            have := Nat.mul_le_mul_right l q2
            unfold cval
            rw [cv3 (d - 1) (by omega), cv2 (k + m * l) j (by omega) q4 hjN]
          rw [cv1 j (by omega) hjN, cv2 (k + 1) j (by omega) (by omega) hjN]
          refine ⟨r1, fun l m hc => by rw [ev l m hc]; exact r2 l m hc, ?_⟩
          rcases r3 with r3 | ⟨l, m, hc, r3⟩
          · exact Or.inl r3
          · exact Or.inr ⟨l, m, hc, by rw [ev l m hc]; exact r3⟩
        · exact (hC i (by omega) h2).congr (fun j q1 q2 => by
            by_cases z2 : d - 1 = d
            · rw [z2]; exact cv2 i j (by omega) q1 q2
            · rw [cv3 (d - 1) z2]) (fun i' j q1 q2 q3 => cv2 i' j (by omega) q2 q3) h2)
    refine ⟨h', ?_, fun z hz => by rw [f2 z hz, cz z hz], f3⟩
    rw [if_neg (by omega), show k + 1 - 1 = k by omega, f_X3_fewestLetters_28, if_neg (by rw [e_lt (by omega) (by decide)]; omega), a1, obv_eq]
    rw [show nI k + (-1) = (if k = 0 then (-1) else nI (k - 1)) by
      by_cases z : k = 0
      · rw [if_pos z, z]; decide
      · rw [if_neg z]
        obtain ⟨q, rfl⟩ : ∃ q, k = q + 1 := ⟨k - 1, by omega⟩
        exact n_m1 q]
    exact f1
theorem few20 {F N : Nat} (hF : 600 ≤ F) {w : Nat → Nat} (hN : N ≤ 32) :
    ∀ (k d n : Nat) (h : HP), d + k = 4 → k < n → (∀ x, x < 32 → h 15 x = nI (w x) ∧ w x < 256) → (∀ d', d' < d → TBl N d' 0 h ∧ ∀ i, i ≤ N → KC w N (cvl h) d' i) →
      ∃ h', f_X3_fewestLetters_20 F 15 (nI N) n (nI d) h = some (nI (cvl h' 3 0 N), h') ∧ (∀ z, z < 32 ∨ 35 < z → h' z = h z) ∧ ∀ d', d' < 4 → TBl N d' 0 h' ∧ ∀ i, i ≤ N → KC w N (cvl h') d' i := by
  intro k
  induction k with
  | zero =>
    intro d n h hd hn hw hp
    obtain ⟨n, rfl⟩ := succ_of hn
    refine ⟨h, ?_, fun _ _ => rfl, fun d' hd' => hp d' (by omega)⟩
    rw [f_X3_fewestLetters_20, if_pos (by rw [e_lt (by omega) (by omega)]; omega), if_pos (inb_t (by omega) (by decide)), e_ix (by omega)]
    have := ((hp 3 (by omega)).1 0 N (Nat.le_refl _) (Nat.zero_le _) (Nat.le_refl _)).1
    rw [show 33 * 0 + N = N by omega] at this
    rw [show h 35 N = nI (cvl h 3 0 N) from this]
  | succ k ih =>
    intro d n h hd hn hw hp
    obtain ⟨n, rfl⟩ := succ_of hn
    obtain ⟨h1, a1, a2, a3⟩ := few28 hF (k20 := f_X3_fewestLetters_20 F 15 (nI N) n) (show d ≤ 3 by omega) hN (N + 1) F h (Nat.le_refl _) (by omega) hw (fun i j h1 h2 h3 => by omega) hp (fun i h1 h2 => by omega)
    obtain ⟨h', f1, f2, f3⟩ := ih (d + 1) n h1 (by omega) (by omega) (fun x hx => by rw [a2 15 (by omega)]; exact hw x hx) (fun d' hd' => a3 d' (by omega))
    refine ⟨h', ?_, fun z hz => by rw [f2 z hz, a2 z (by omega)], f3⟩
    rw [f_X3_fewestLetters_20, if_neg (by rw [e_lt (by omega) (by omega)]; omega)]
    rw [if_neg (by omega), show N + 1 - 1 = N by omega] at a1
    rw [a1, f1]
theorem fewX_n {F N : Nat} (hF : 600 ≤ F) {w : Nat → Nat} {h : HP} (hN : N ≤ 32) (hw : ∀ x, x < 32 → h 15 x = nI (w x) ∧ w x < 256) :
    ∃ h' C, f_X3_fewestLetters F 15 (nI N) h = some (nI (C 3 0 N), h') ∧ (∀ z, z < 32 ∨ 35 < z → h' z = h z) ∧ (∀ d i j, d < 4 → i ≤ j → j ≤ N → C d i j ≤ 10 * (j - i)) ∧ ∀ d i, d < 4 → i ≤ N → KC w N C d i := by
  obtain ⟨h', a1, a2, a3⟩ := few20 hF hN 4 0 F h (by omega) (by omega) hw (fun d' hd' => by omega)
  refine ⟨h', cvl h', ?_, a2, fun d i j h1 h2 h3 => ((a3 d h1).1 i j (Nat.zero_le _) h2 h3).2, fun d i h1 h2 => (a3 d h1).2 i h2⟩
  unfold f_X3_fewestLetters
  rw [if_neg (by rw [e_lt (by omega) (by decide)]; omega), if_neg (by rw [e_lt (by decide) (by omega)]; omega), if_pos (by show nI N ≤ nI 32; rw [e_le (by omega) (by decide)]; exact hN), a1]
end
section
/-! ===== letters: the reference ===== -/
theorem C_one {w : Nat → Nat} {N d i : Nat} {C : Nat → Nat → Nat → Nat} (hK : ∀ d i, d < 4 → i ≤ N → KC w N C d i) (hd : d < 4) (hi : i < N) : C d i (i + 1) = Lof (w i) := by
  obtain ⟨a, b, c⟩ := (hK d i hd (by omega)).2 (i + 1) (by omega) hi
  have z : C d (i + 1) (i + 1) = 0 := (hK d (i + 1) hd hi).1
  rcases c with c | ⟨l, m, ⟨_, ⟨h1, h2, _, _⟩, h3⟩, _⟩
  · omega
  · have := Nat.mul_le_mul_right l h2
    omega
theorem C_sub {w : Nat → Nat} {N d : Nat} {C : Nat → Nat → Nat → Nat} (hK : ∀ d i, d < 4 → i ≤ N → KC w N C d i) (hd : d < 4) : ∀ (n i k j : Nat), k - i ≤ n → i ≤ k → k ≤ j → j ≤ N → C d i j ≤ C d i k + C d k j := by
  intro n
  induction n with
  | zero =>
    intro i k j h1 h2 h3 h4
    have : k = i := by omega
    rw [this]; omega
  | succ n ih =>
    intro i k j h1 h2 h3 h4
    by_cases z : k = i
    · rw [z]; omega
    · obtain ⟨a, b, c⟩ := (hK d i hd (by omega)).2 k (by omega) (by omega)
      obtain ⟨a', b', _⟩ := (hK d i hd (by omega)).2 j (by omega) h4
      rcases c with c | ⟨l, m, hc, c⟩
      · have := ih (i + 1) k j (by omega) (by omega) h3 h4
        omega
      · obtain ⟨q0, ⟨q1, q2, q3, q4⟩, q5⟩ := hc
        have q6 := Nat.mul_le_mul_right l q2
        have e1 := b' l m ⟨q0, ⟨q1, q2, q3, q4⟩, by omega⟩
        have e2 := ih (i + m * l) k j (by omega) q5 h3 h4
        unfold cval at c e1
        omega
theorem C_rep {w : Nat → Nat} {N d i l m : Nat} {C : Nat → Nat → Nat → Nat} (hK : ∀ d i, d < 4 → i ≤ N → KC w N C d i) (hd : d < 4) (h0 : 0 < d) (hr : rep w i l m) (hN : i + m * l ≤ N) : C d i (i + m * l) ≤ 3 + C (d - 1) i (i + l) := by
  have q6 := Nat.mul_le_mul_right l hr.2.1
  have q1 := hr.1
  have e := ((hK d i hd (by omega)).2 (i + m * l) (by omega) hN).2.1 l m ⟨h0, hr, Nat.le_refl _⟩
  unfold cval at e
  rw [(hK d (i + m * l) hd hN).1] at e
  exact e
theorem C_att {w : Nat → Nat} {N d i j : Nat} {C : Nat → Nat → Nat → Nat} (hK : ∀ d i, d < 4 → i ≤ N → KC w N C d i) (hd : d < 4) (hij : i + 2 ≤ j) (hj : j ≤ N) : (∃ k, i < k ∧ k < j ∧ C d i k + C d k j ≤ C d i j) ∨ ∃ l m, 0 < d ∧ rep w i l m ∧ j = i + m * l ∧ C d i j = 3 + C (d - 1) i (i + l) := by
  rcases ((hK d i hd (by omega)).2 j (by omega) hj).2.2 with c | ⟨l, m, ⟨q0, q1, q2⟩, c⟩
  · refine Or.inl ⟨i + 1, by omega, by omega, ?_⟩
    rw [C_one hK hd (by omega)]; omega
  · have q6 := Nat.mul_le_mul_right l q1.2.1
    have q7 := q1.1
    unfold cval at c
    rcases Nat.lt_or_ge (i + m * l) j with z | z
    · have := C_rep hK hd q0 q1 (by omega)
      exact Or.inl ⟨i + m * l, by omega, z, by omega⟩
    · have ez : i + m * l = j := by omega
      rw [ez, (hK d j hd hj).1] at c
      exact Or.inr ⟨l, m, q0, q1, ez.symm, c⟩
theorem isAgain_n {F : Nat} (hF : 600 ≤ F) {w : Nat → Nat} {i j l : Nat} {h : HP} (hl : 1 ≤ l) (hlj : i + l ≤ j) (hj : j ≤ 32) (hw : ∀ x, x < 32 → h 43 (2 + x) = nI (w x) ∧ w x < 256) :
    ∃ b, b ≤ 1 ∧ f_X7_isAgain F (nI i) (nI j) (nI l) h = some (nI b, h) ∧ (b = 1 ↔ ∀ x, i + l ≤ x → x < j → w x = w (x - l)) := by
  have lp : ∀ (k x n b : Nat), x + k = j → k < n → i + l ≤ x → b ≤ 1 → (b = 1 ↔ ∀ y, i + l ≤ y → y < x → w y = w (y - l)) → ∃ b', b' ≤ 1 ∧ f_X7_isAgain_8 F (nI i) (nI j) (nI l) n (nI b) (nI x) h = some (nI b', h) ∧ (b' = 1 ↔ ∀ y, i + l ≤ y → y < j → w y = w (y - l)) := by
    intro k
    induction k with
    | zero =>
      intro x n b hx hn hix hb hbx
      obtain ⟨n, rfl⟩ := succ_of hn
      refine ⟨b, hb, ?_, by rw [← show x = j by omega]; exact hbx⟩
      rw [f_X7_isAgain_8, if_pos (by rw [e_le (by omega) (by omega)]; omega), guard01]
      rcases (show b = 0 ∨ b = 1 by omega) with z | z
      · exact Or.inl (by rw [z])
      · exact Or.inr (by rw [z])
    | succ k ih =>
      intro x n b hx hn hix hb hbx
      obtain ⟨n, rfl⟩ := succ_of hn
      rw [f_X7_isAgain_8, if_neg (by rw [e_le (by omega) (by omega)]; omega), i_eq (by omega) (by decide), e_add, e_add]
      by_cases z : b = 0
      · rw [if_pos z]
        refine ih (x + 1) n 0 (by omega) (by omega) (by omega) (by decide) ⟨fun q => absurd q (by decide), fun q => ?_⟩
        have := hbx.mpr (fun y h1 h2 => q y h1 (by omega))
        omega
      · rw [if_neg z, if_pos (inb_t (by omega) (by decide)), e_sub (by omega), if_pos (inb_t (by omega) (by decide)), e_ix (by omega), e_ix (by omega), show 2 + x - l = 2 + (x - l) by omega, (hw x (by omega)).1, (hw (x - l) (by omega)).1]
        have q1 := (hw x (by omega)).2
        have q2 := (hw (x - l) (by omega)).2
        rw [i_eq (by omega) (by omega), ite_n]
        refine ih (x + 1) n (if w x = w (x - l) then 1 else 0) (by omega) (by omega) (by omega) (by split <;> decide) ⟨fun q y h1 h2 => ?_, fun q => by rw [if_pos (q x hix (by omega))]⟩
        by_cases g : w x = w (x - l)
        · by_cases y2 : y = x
          · rw [y2]; exact g
          · exact hbx.mp (by omega) y h1 (by omega)
        · rw [if_neg g] at q
          exact absurd q (by decide)
  obtain ⟨b, b1, b2, b3⟩ := lp (j - (i + l)) (i + l) F 1 (by omega) (by omega) (Nat.le_refl _) (Nat.le_refl _) ⟨fun _ y h1 h2 => by omega, fun _ => rfl⟩
  refine ⟨b, b1, ?_, b3⟩
  unfold f_X7_isAgain
  rw [e_add]
  exact b2
theorem rep_iff {w : Nat → Nat} {i l m j : Nat} (hl : 1 ≤ l) (hm : 2 ≤ m) (hm9 : m ≤ 9) (hj : j = i + m * l) : rep w i l m ↔ ∀ x, i + l ≤ x → x < j → w x = w (x - l) := by
  constructor
  · intro h x h1 h2
    have := h.2.2.2 (x - l) (by omega) (by omega)
    rw [show x - l + l = x by omega] at this
    exact this.symm
  · intro h
    refine ⟨hl, hm, hm9, fun x h1 h2 => ?_⟩
    have := h (x + l) (by omega) (by omega)
    rw [show x + l - l = x by omega] at this
    exact this.symm
theorem fw106 {F : Nat} (hF : 600 ≤ F) {w : Nat → Nat} {N d i j : Nat} {C : Nat → Nat → Nat → Nat} {h : HP} (hN : N ≤ 32) (hK : ∀ d i, d < 4 → i ≤ N → KC w N C d i) (hbd : ∀ d i j, d < 4 → i ≤ j → j ≤ N → C d i j ≤ 10 * (j - i)) (hd : d < 4) (hij : i + 2 ≤ j) (hj : j ≤ N) (hw : ∀ x, x < 32 → h 43 (2 + x) = nI (w x) ∧ w x < 256)
    (hP : 0 < d → ∀ i' j', i' < j' → j' ≤ N → h 53 ((33 * (d - 1) + i') * 33 + j') = nI (C (d - 1) i' j')) :
    ∀ (k m n v : Nat), m + k = 10 → k < n → 2 ≤ m → v ≤ 1000000 → C d i j ≤ v →
      ∃ v', f_X7_fewest_106 F (nI d) (nI i) (nI j) n (nI (j - i)) (nI v) (nI m) h = some (nI v', h) ∧ C d i j ≤ v' ∧ v' ≤ v ∧ (0 < d → ∀ m' l, m ≤ m' → m' < 10 → j = i + m' * l → rep w i l m' → v' ≤ 3 + C (d - 1) i (i + l)) := by
  intro k
  induction k with
  | zero =>
    intro m n v hm hn hm2 hv hCv
    obtain ⟨n, rfl⟩ := succ_of hn
    refine ⟨v, ?_, hCv, Nat.le_refl _, fun _ m' l h1 h2 => by omega⟩
    rw [f_X7_fewest_106, if_pos (by rw [e_le (by omega) (by omega)]; omega)]
  | succ k ih =>
    intro m n v hm hn hm2 hv hCv
    obtain ⟨n, rfl⟩ := succ_of hn
    rw [f_X7_fewest_106, if_neg (by rw [e_le (by omega) (by omega)]; omega)]
    by_cases g : d = 0
    · refine ⟨v, ?_, hCv, Nat.le_refl _, fun h0 => by omega⟩
      rw [if_pos (by rw [g]; exact Int32.le_refl _)]
    rw [if_neg (by rw [e_le (by omega) (by decide)]; omega), if_pos (by rw [Ne, e_eq (by omega) (by decide)]; omega), jrem_n (by omega) (by omega) (by omega), i_eq (by have := Nat.mod_lt (j - i) (show 0 < m by omega); omega) (by decide), pk_div (by rw [e31]; omega) (by omega) (by rw [e31]; omega), e_add]
    by_cases g2 : (j - i) % m = 0
    · rw [if_pos g2]
      obtain ⟨l, hl⟩ : ∃ l, l = (j - i) / m := ⟨_, rfl⟩
      rw [← hl]
      have hml : j = i + m * l := by
        have := Nat.div_add_mod (j - i) m
        rw [← hl, g2] at this
        omega
      have hl1 : 1 ≤ l := by
        rcases Nat.lt_or_ge 0 l with q | q
        · exact q
        · have : l = 0 := by omega
          rw [this] at hml; omega
      have hl2 : 2 * l ≤ m * l := Nat.mul_le_mul_right l hm2
      obtain ⟨b, b1, b2, b3⟩ := isAgain_n hF (i := i) (j := j) (l := l) hl1 (by omega) (by omega) hw
      rw [b2, ob_eq, i_eq (by omega) (by decide)]
      have hri := rep_iff (w := w) hl1 hm2 (show m ≤ 9 by omega) hml
      have same : ∀ m' l', m' = m → j = i + m' * l' → l' = l := fun m' l' e1 e2 => by
        rw [e1] at e2
        have : m * l' = m * l := by omega
        exact Nat.eq_of_mul_eq_mul_left (by omega) this
      by_cases z : b = 0
      · rw [if_pos z]
        obtain ⟨v', f1, f2, f3, f4⟩ := ih (m + 1) n v (by omega) (by omega) (by omega) hv hCv
        refine ⟨v', f1, f2, f3, fun h0 m' l' h1 h2 h3 h4 => ?_⟩
        rcases Nat.lt_or_ge m m' with q | q
        · exact f4 h0 m' l' q h2 h3 h4
        · have em : m' = m := by omega
          have el := same m' l' em h3
          rw [em, el] at h4
          have := b3.mpr (hri.mp h4)
          omega
      · have hr : rep w i l m := hri.mpr (b3.mp (by omega))
        have hcr := C_rep hK hd (by omega) hr (by omega)
        rw [← hml] at hcr
        have hb := hbd (d - 1) i (i + l) (by omega) (by omega) (by omega)
        rw [if_neg z]
        unfold f_X7_cell
        rw [ob_eq, e_sub (by omega), e_mul, e_add, e_mul, e_add, e_add, if_pos (inb_t (by omega) (by decide)), e_ix (by omega), hP (by omega) i (i + l) (by omega) (by omega), e_add, i_le (by omega) (by omega), ite_n]
        obtain ⟨v', f1, f2, f3, f4⟩ := ih (m + 1) n (if v ≤ 3 + C (d - 1) i (i + l) then v else 3 + C (d - 1) i (i + l)) (by omega) (by omega) (by omega) (by split <;> omega) (by split <;> omega)
        have hle : v' ≤ v ∧ v' ≤ 3 + C (d - 1) i (i + l) := by
          by_cases q : v ≤ 3 + C (d - 1) i (i + l)
          · rw [if_pos q] at f3; omega
          · rw [if_neg q] at f3; omega
        refine ⟨v', f1, f2, hle.1, fun h0 m' l' h1 h2 h3 h4 => ?_⟩
        rcases Nat.lt_or_ge m m' with q | q
        · exact f4 h0 m' l' q h2 h3 h4
        · have em : m' = m := by omega
          rw [same m' l' em h3]
          exact hle.2
    · rw [if_neg g2]
      obtain ⟨v', f1, f2, f3, f4⟩ := ih (m + 1) n v (by omega) (by omega) (by omega) hv hCv
      refine ⟨v', f1, f2, f3, fun h0 m' l' h1 h2 h3 h4 => ?_⟩
      rcases Nat.lt_or_ge m m' with q | q
      · exact f4 h0 m' l' q h2 h3 h4
      · have em : m' = m := by omega
        rw [em] at h3
        exact absurd (by rw [show j - i = m * l' by omega]; exact Nat.mul_mod_right m l') g2
theorem fw48 {F : Nat} (hF : 600 ≤ F) {w : Nat → Nat} {N d i j : Nat} {C : Nat → Nat → Nat → Nat} {h : HP} (hN : N ≤ 32) (hK : ∀ d i, d < 4 → i ≤ N → KC w N C d i) (hbd : ∀ d i j, d < 4 → i ≤ j → j ≤ N → C d i j ≤ 10 * (j - i)) (hd : d < 4) (hij : i + 2 ≤ j) (hj : j ≤ N) (hw : ∀ x, x < 32 → h 43 (2 + x) = nI (w x) ∧ w x < 256)
    (hA : ∀ i' j', i' < j' → j' ≤ N → j' - i' < j - i → h 53 ((33 * d + i') * 33 + j') = nI (C d i' j'))
    (hP : 0 < d → ∀ i' j', i' < j' → j' ≤ N → h 53 ((33 * (d - 1) + i') * 33 + j') = nI (C (d - 1) i' j')) :
    ∀ (k x n v : Nat), x + k = j → k < n → i < x → v ≤ 1000000 → C d i j ≤ v →
      ∃ v', f_X7_fewest_48 F (nI d) (nI i) (nI j) n (nI (j - i)) (nI v) (nI x) h = some (nI v', h) ∧ C d i j ≤ v' ∧ v' ≤ v ∧ (∀ y, x ≤ y → y < j → v' ≤ C d i y + C d y j) ∧ (0 < d → ∀ m' l, 2 ≤ m' → m' < 10 → j = i + m' * l → rep w i l m' → v' ≤ 3 + C (d - 1) i (i + l)) := by
  intro k
  induction k with
  | zero =>
    intro x n v hx hn hix hv hCv
    obtain ⟨n, rfl⟩ := succ_of hn
    rw [f_X7_fewest_48, if_pos (by rw [e_le (by omega) (by omega)]; omega)]
    obtain ⟨v', f1, f2, f3, f4⟩ := fw106 hF hN hK hbd hd hij hj hw hP 8 2 F v (by omega) (by omega) (by omega) hv hCv
    exact ⟨v', f1, f2, f3, fun y h1 h2 => by omega, f4⟩
  | succ k ih =>
    intro x n v hx hn hix hv hCv
    obtain ⟨n, rfl⟩ := succ_of hn
    have hs := C_sub hK hd (x - i) i x j (Nat.le_refl _) (by omega) (by omega) hj
    have b1 := hbd d i x hd (by omega) (by omega)
    have b2 := hbd d x j hd (by omega) hj
    obtain ⟨v', f1, f2, f3, f4, f5⟩ := ih (x + 1) n (if v ≤ C d i x + C d x j then v else C d i x + C d x j) (by omega) (by omega) (by omega) (by split <;> omega) (by split <;> omega)
    have hle : v' ≤ v ∧ v' ≤ C d i x + C d x j := by
      by_cases q : v ≤ C d i x + C d x j
      · rw [if_pos q] at f3; omega
      · rw [if_neg q] at f3; omega
    refine ⟨v', ?_, f2, hle.1, fun y h1 h2 => ?_, f5⟩
    · rw [f_X7_fewest_48, if_neg (by rw [e_le (by omega) (by omega)]; omega)]
      unfold f_X7_cell
      rw [ob_eq, e_mul, e_add, e_mul, e_add, if_pos (inb_t (by omega) (by decide)), ob_eq, e_add, e_mul, e_add, if_pos (inb_t (by omega) (by decide)), e_ix (by omega), e_ix (by omega), hA i x (by omega) (by omega) (by omega), hA x j (by omega) hj (by omega), e_add, i_le (by omega) (by omega), ite_n, e_add]
      exact f1
    · by_cases z : y = x
      · rw [z]; exact hle.2
      · exact f4 y (by omega) h2
theorem fewest_n {F : Nat} (hF : 600 ≤ F) {w : Nat → Nat} {N d i j : Nat} {C : Nat → Nat → Nat → Nat} {h : HP} (hN : N ≤ 32) (hK : ∀ d i, d < 4 → i ≤ N → KC w N C d i) (hbd : ∀ d i j, d < 4 → i ≤ j → j ≤ N → C d i j ≤ 10 * (j - i)) (hd : d < 4) (hij : i < j) (hj : j ≤ N) (hw : ∀ x, x < 32 → h 43 (2 + x) = nI (w x) ∧ w x < 256)
    (hA : ∀ i' j', i' < j' → j' ≤ N → j' - i' < j - i → h 53 ((33 * d + i') * 33 + j') = nI (C d i' j'))
    (hP : 0 < d → ∀ i' j', i' < j' → j' ≤ N → h 53 ((33 * (d - 1) + i') * 33 + j') = nI (C (d - 1) i' j')) :
    f_X7_fewest F (nI d) (nI i) (nI j) h = some (nI (C d i j), h) := by
  unfold f_X7_fewest
  rw [e_sub (by omega), i_eq (by omega) (by decide)]
  by_cases g : j - i = 1
  · have hp := popc_le (w i)
    rw [if_pos g, e_add, if_pos (inb_t (by omega) (by decide)), e_ix (by omega), (hw i (by omega)).1, bits_spec hF (hw i (by omega)).2, ob_eq, i_le (by decide) (by omega), e_add, show j = i + 1 by omega, C_one hK hd (by omega)]
    unfold Lof
    by_cases z : 2 ≤ popc (w i)
    · rw [if_pos z, if_pos z]
    · rw [if_neg z, if_neg z]
  · have hb := hbd d i j hd (by omega) hj
    rw [if_neg g, e_add]
    obtain ⟨v', f1, f2, f3, f4, f5⟩ := fw48 hF hN hK hbd hd (show i + 2 ≤ j by omega) hj hw hA hP (j - (i + 1)) (i + 1) F 1000000 (by omega) (by omega) (by omega) (Nat.le_refl _) (by omega)
    rw [f1]
    have : v' = C d i j := by
      rcases C_att hK hd (show i + 2 ≤ j by omega) hj with ⟨k, k1, k2, k3⟩ | ⟨l, m, q0, q1, q2, q3⟩
      · have := f4 k (by omega) k2
        omega
      · have := f5 q0 m l q1.2.1 (by have := q1.2.2.1; omega) q2 q1
        omega
    rw [this]
def FLl (N : Nat) (C : Nat → Nat → Nat → Nat) (h : HP) (d len i0 : Nat) : Prop := ∀ d' i' j', d' < 4 → i' < j' → j' ≤ N → (d' < d ∨ d' = d ∧ (j' - i' < len ∨ j' - i' = len ∧ i' < i0)) → h 53 ((33 * d' + i') * 33 + j') = nI (C d' i' j')
theorem let21 {F : Nat} (hF : 600 ≤ F) {w : Nat → Nat} {N d len : Nat} {C : Nat → Nat → Nat → Nat} {k9 : Int32 → Int32 → HP → Option (Int32 × HP)} (hN : N ≤ 32) (hK : ∀ d i, d < 4 → i ≤ N → KC w N C d i) (hbd : ∀ d i j, d < 4 → i ≤ j → j ≤ N → C d i j ≤ 10 * (j - i)) (hd : d < 4) (hl : 1 ≤ len) (hlN : len ≤ N) :
    ∀ (k i n : Nat) (h : HP), i + k = N - len + 1 → k < n → h 40 1 = nI N → (∀ x, x < 32 → h 43 (2 + x) = nI (w x) ∧ w x < 256) → FLl N C h d len i →
      ∃ h', f_X7_letters_21 F k9 n (nI d) (nI len) (nI i) h = k9 (nI d) (nI (len + 1)) h' ∧ FLl N C h' d (len + 1) 0 ∧ ∀ z, z ≠ 53 → h' z = h z := by
  intro k
  induction k with
  | zero =>
    intro i n h hi hn hN1 hw hFL
    obtain ⟨n, rfl⟩ := succ_of hn
    refine ⟨h, ?_, fun d' i' j' h1 h2 h3 h4 => hFL d' i' j' h1 h2 h3 (by omega), fun _ _ => rfl⟩
    rw [f_X7_letters_21, hN1, e_add, if_pos (by rw [e_lt (by omega) (by omega)]; omega), e_add]
  | succ k ih =>
    intro i n h hi hn hN1 hw hFL
    obtain ⟨n, rfl⟩ := succ_of hn
    obtain ⟨h', f1, f2, f3⟩ := ih (i + 1) n (up h 53 ((33 * d + i) * 33 + (i + len)) (nI (C d i (i + len)))) (by omega) (by omega) (by rw [up_c (by decide)]; exact hN1) (fun x hx => by rw [up_c (by decide)]; exact hw x hx) (fun d' i' j' h1 h2 h3 h4 => by
      rw [up_at]
      by_cases z : d' = d ∧ i' = i ∧ j' = i + len
      · obtain ⟨rfl, rfl, rfl⟩ := z
        rw [if_pos ⟨rfl, rfl⟩]
      · rw [if_neg (by omega)]
        exact hFL d' i' j' h1 h2 h3 (by omega))
    refine ⟨h', ?_, f2, fun z hz => by rw [f3 z hz, up_c hz]⟩
    rw [f_X7_letters_21, hN1, e_add, if_neg (by rw [e_lt (by omega) (by omega)]; omega)]
    unfold f_X7_cell
    rw [ob_eq, fewest_n hF hN hK hbd hd (by omega) (by omega) hw (fun i' j' h1 h2 h3 => hFL d i' j' hd h1 h2 (by omega)) (fun h0 i' j' h1 h2 => hFL (d - 1) i' j' (by omega) h1 h2 (by omega)), ob_eq, e_mul, e_add, e_mul, e_add, if_pos (inb_t (by omega) (by decide)), e_ix (by omega), e_add, f1]
theorem let9 {F : Nat} (hF : 600 ≤ F) {w : Nat → Nat} {N d : Nat} {C : Nat → Nat → Nat → Nat} {k2 : Int32 → HP → Option (Int32 × HP)} (hN : N ≤ 32) (hK : ∀ d i, d < 4 → i ≤ N → KC w N C d i) (hbd : ∀ d i j, d < 4 → i ≤ j → j ≤ N → C d i j ≤ 10 * (j - i)) (hd : d < 4) :
    ∀ (k len n : Nat) (h : HP), len + k = N + 1 → k < n → 1 ≤ len → h 40 1 = nI N → (∀ x, x < 32 → h 43 (2 + x) = nI (w x) ∧ w x < 256) → FLl N C h d len 0 →
      ∃ h', f_X7_letters_9 F k2 n (nI d) (nI len) h = k2 (nI (d + 1)) h' ∧ FLl N C h' (d + 1) 1 0 ∧ ∀ z, z ≠ 53 → h' z = h z := by
  intro k
  induction k with
  | zero =>
    intro len n h hlen hn hl hN1 hw hFL
    obtain ⟨n, rfl⟩ := succ_of hn
    refine ⟨h, ?_, fun d' i' j' h1 h2 h3 h4 => hFL d' i' j' h1 h2 h3 (by omega), fun _ _ => rfl⟩
    rw [f_X7_letters_9, hN1, if_pos (by rw [e_lt (by omega) (by omega)]; omega), e_add]
  | succ k ih =>
    intro len n h hlen hn hl hN1 hw hFL
    obtain ⟨n, rfl⟩ := succ_of hn
    obtain ⟨h1, a1, a2, a3⟩ := let21 hF (k9 := f_X7_letters_9 F k2 n) hN hK hbd hd hl (by omega) (N - len + 1) 0 F h (by omega) (by omega) hN1 hw hFL
    obtain ⟨h', f1, f2, f3⟩ := ih (len + 1) n h1 (by omega) (by omega) (by omega) (by rw [a3 40 (by decide)]; exact hN1) (fun x hx => by rw [a3 43 (by decide)]; exact hw x hx) a2
    refine ⟨h', ?_, f2, fun z hz => by rw [f3 z hz, a3 z hz]⟩
    rw [f_X7_letters_9, hN1, if_neg (by rw [e_lt (by omega) (by omega)]; omega), a1, f1]
theorem let2 {F : Nat} (hF : 600 ≤ F) {w : Nat → Nat} {N : Nat} {C : Nat → Nat → Nat → Nat} (hN1 : 1 ≤ N) (hN : N ≤ 32) (hK : ∀ d i, d < 4 → i ≤ N → KC w N C d i) (hbd : ∀ d i j, d < 4 → i ≤ j → j ≤ N → C d i j ≤ 10 * (j - i)) :
    ∀ (k d n : Nat) (h : HP), d + k = 4 → k < n → h 40 1 = nI N → (∀ x, x < 32 → h 43 (2 + x) = nI (w x) ∧ w x < 256) → FLl N C h d 1 0 →
      ∃ h', f_X7_letters_2 F n (nI d) h = some (nI (C 3 0 N), h') ∧ ∀ z, z ≠ 53 → h' z = h z := by
  intro k
  induction k with
  | zero =>
    intro d n h hd hn h40 hw hFL
    obtain ⟨n, rfl⟩ := succ_of hn
    refine ⟨h, ?_, fun _ _ => rfl⟩
    rw [f_X7_letters_2, if_pos (by rw [e_le (by omega) (by omega)]; omega), h40]
    unfold f_X7_cell
    rw [ob_eq, e_mul, e_add, e_mul, e_add, if_pos (inb_t (by omega) (by decide)), e_ix (by omega)]
    rw [hFL 3 0 N (by omega) (by omega) (Nat.le_refl _) (by omega)]
  | succ k ih =>
    intro d n h hd hn h40 hw hFL
    obtain ⟨n, rfl⟩ := succ_of hn
    obtain ⟨h1, a1, a2, a3⟩ := let9 hF (k2 := f_X7_letters_2 F n) hN hK hbd (show d < 4 by omega) N 1 F h (by omega) (by omega) (by omega) h40 hw hFL
    obtain ⟨h', f1, f2⟩ := ih (d + 1) n h1 (by omega) (by omega) (by rw [a3 40 (by decide)]; exact h40) (fun x hx => by rw [a3 43 (by decide)]; exact hw x hx) a2
    refine ⟨h', ?_, fun z hz => by rw [f2 z hz, a3 z hz]⟩
    rw [f_X7_letters_2, if_neg (by rw [e_le (by omega) (by omega)]; omega), a1, f1]
theorem op_letters {F c : Nat} (hF : 600 ≤ F) {tw : TW} {h : HP} (i : INV c tw h) : Step (f_X6_letters F tw) (f_X7_letters F) c tw h := by
  have i0 := i
  obtain ⟨hK, B, N, R, T, M, ⟨hB1, hB8, hN2, hN32, hR6, hTM⟩, hC, hM, hS, hD, -⟩ := i
  have hKc := hK.c
  have hp43 : ∀ r, r < 32 → h 43 (2 + r) = nI (pv h r) ∧ pv h r < 256 := fun r hr => ⟨(pv_of hB8 hS hr).1, (pv_of hB8 hS hr).2.2⟩
  have hp15 : ∀ r, r < 32 → h 15 r = nI (pv h r) ∧ pv h r < 256 := fun r hr => by rw [pin_of hD hr]; exact hp43 r hr
  obtain ⟨h1, C, a1, a2, a3, a4⟩ := fewX_n hF hN32 hp15
  obtain ⟨h2, b1, b2⟩ := let2 hF (show 1 ≤ N by omega) hN32 a4 a3 4 0 F h1 (by omega) (by omega) (by rw [a2 40 (by decide)]; exact hM.2.1) (fun x hx => by rw [a2 43 (by decide)]; exact hp43 x hx) (fun d' i' j' h1 h2 h3 h4 => by omega)
  have e : ∀ z, z < 32 ∨ 35 < z → z ≠ 53 → h2 z = h z := fun z h1 h2 => by rw [b2 z h2, a2 z h1]
  refine ⟨nI (C 3 0 N), h1, h2, ?_, b1, (i0.ess ⟨fun k hk => ?_, fun j hj => e _ (by omega) (by omega), by rw [e 0 (by decide) (by decide)], by rw [e 1 (by decide) (by decide)], by rw [e 39 (by decide) (by decide)], by rw [e 39 (by decide) (by decide)], by rw [e 39 (by decide) (by decide)], by rw [e 39 (by decide) (by decide)]⟩).mono (Nat.le_succ c)⟩
  · unfold f_X6_letters
    rw [hC.2.1, a1, ob_eq]
  · have : ∀ k, k ∈ essL → (k < 32 ∨ 35 < k) ∧ k ≠ 53 := by decide
    exact e k (this k hk).1 (this k hk).2
end
section
/-! ===== ringers: colourings ===== -/
theorem pig : ∀ (k u : Nat) (f : Nat → Nat), (∀ g, g < u → f g < k) → (∀ g g', g < u → g' < u → f g = f g' → g = g') → u ≤ k := by
  intro k
  induction k with
  | zero =>
    intro u f h1 h2
    rcases Nat.lt_or_ge 0 u with q | q
    · have := h1 0 q; omega
    · exact q
  | succ k ih =>
    intro u f h1 h2
    rcases Nat.lt_or_ge 0 u with q | q
    · have : u - 1 ≤ k := ih (u - 1) (fun g => if f g = k then f (u - 1) else f g) (fun g hg => by
        have a := h1 g (by omega)
        have b := h1 (u - 1) (by omega)
        by_cases z : f g = k
        · rw [if_pos z]
          have : f (u - 1) ≠ k := fun e => by
            have := h2 g (u - 1) (by omega) (by omega) (by rw [z, e])
            omega
          omega
        · rw [if_neg z]; omega) (fun g g' hg hg' e => by
        by_cases z : f g = k
        · by_cases z' : f g' = k
          · exact h2 g g' (by omega) (by omega) (by rw [z, z'])
          · rw [if_pos z, if_neg z'] at e
            have := h2 (u - 1) g' (by omega) (by omega) e
            omega
        · by_cases z' : f g' = k
          · rw [if_neg z, if_pos z'] at e
            have := h2 g (u - 1) (by omega) (by omega) e
            omega
          · rw [if_neg z, if_neg z'] at e
            exact h2 g g' (by omega) (by omega) e)
      omega
    · omega
theorem bn_1 {s i : Nat} (h : ¬ bn s i = 0) : bn s i = 1 := by have := bn_lt s i; omega
theorem eq_bits {a b : Nat} (h : ∀ i, bn a i = bn b i) : a = b := by
  apply Nat.eq_of_testBit_eq
  intro i
  have := h i
  rw [bn_tb, bn_tb] at this
  cases ha : a.testBit i <;> cases hb : b.testBit i <;> rw [ha, hb] at this <;> first | rfl | exact absurd this (by decide)
theorem bn_zero (i : Nat) : bn 0 i = 0 := by unfold bn; rw [Nat.zero_div]
theorem and_zero {a b : Nat} : a &&& b = 0 ↔ ∀ c, ¬ (bn a c = 1 ∧ bn b c = 1) := by
  constructor
  · intro h c hc
    have : bn (a &&& b) c = 1 := by rw [bn_and, hc.1, hc.2]
    rw [h, bn_zero] at this
    exact absurd this (by decide)
  · intro h
    apply eq_bits
    intro i
    rw [bn_zero, bn_and]
    by_cases z : bn a i = 1
    · have : bn b i = 0 := by
        have := bn_lt b i
        have := h i
        omega
      rw [this]; rfl
    · have : bn a i = 0 := by have := bn_lt a i; omega
      rw [this, Nat.zero_mul]
theorem bits_lt {a n : Nat} (h : ∀ i, n ≤ i → bn a i = 0) : a < 2 ^ n := by
  rcases Nat.lt_or_ge a (2 ^ n) with q | q
  · exact q
  · obtain ⟨i, h1, h2⟩ := Nat.exists_ge_and_testBit_of_ge_two_pow q
    have := h i h1
    rw [bn_tb, h2] at this
    exact absurd this (by decide)
theorem clear_I : ∀ b, b < 8 → ∀ a, a < 256 → nI a &&& (nI (2 ^ b) ^^^ (-1)) = nI (a &&& (255 ^^^ 2 ^ b)) := by decide +kernel
theorem clear_m : ∀ b, b < 8 → ∀ c, c < 8 → bn (255 ^^^ 2 ^ b) c = if c = b then 0 else 1 := by decide +kernel
theorem clear_b {a b c : Nat} (ha : a < 256) (hb : b < 8) : bn (a &&& (255 ^^^ 2 ^ b)) c = if c = b then 0 else bn a c := by
  rw [bn_and]
  rcases Nat.lt_or_ge c 8 with q | q
  · rw [clear_m b hb c q]
    split
    · rw [Nat.mul_zero]
    · rw [Nat.mul_one]
  · rw [bn_big (n := 8) ha q, Nat.zero_mul]
    split <;> rfl
theorem clear_or {a b : Nat} (ha : a < 256) (hb : b < 8) (h : bn a b = 0) : (a ||| 2 ^ b) &&& (255 ^^^ 2 ^ b) = a := by
  have h2 : 2 ^ b < 2 ^ 8 := Nat.pow_lt_pow_right (by decide) (by omega)
  apply eq_bits
  intro i
  rw [clear_b (Nat.or_lt_two_pow (n := 8) ha h2) hb]
  by_cases z : i = b
  · rw [if_pos z, z, h]
  · rw [if_neg z, bn_or, bn_pow, if_neg z]
    omega
/-- a colouring of the bells below B with k colours -/
def PrC (K : Nat → Nat → Prop) (B k : Nat) (col : Nat → Nat) : Prop := (∀ c, c < B → col c < k) ∧ ∀ c c', c < B → c' < B → K c c' → col c ≠ col c'
def Emb (b u k : Nat) (ro col st : Nat → Nat) : Prop := (∀ g, g < u → st g < k) ∧ (∀ g g', g < u → g' < u → st g = st g' → g = g') ∧ ∀ c, c < b → st (ro c) = col c
def SGp (K : Nat → Nat → Prop) (b u : Nat) (G ro : Nat → Nat) : Prop := (∀ c, c < b → ro c < u) ∧ (∀ g, g < 8 → G g < 256 ∧ ∀ c, bn (G g) c = 1 ↔ c < b ∧ ro c = g) ∧ ∀ c c', c < b → c' < b → K c c' → ro c ≠ ro c'
def PEp (K : Nat → Nat → Prop) (B : Nat) (cl : Nat → Nat) (b u f : Nat) (G ro : Nat → Nat) (h : HP) : Prop := b ≤ B ∧ u ≤ b ∧ f ≤ 8 ∧ SGp K b u G ro ∧ h 36 2 = nI B ∧ h 36 3 = nI f ∧ (∀ b, b < B → h 37 b = nI (cl b)) ∧ ∀ g, g < 8 → h 38 g = nI (G g)
def POp (K : Nat → Nat → Prop) (B f : Nat) (G : Nat → Nat) (h : HP) (cmp : Nat → Prop) (res : Option HP) : Prop := ∃ h' f', res = some h' ∧ h' 36 3 = nI f' ∧ h' 36 2 = h 36 2 ∧ (∀ g, g < 8 → h' 38 g = nI (G g)) ∧ (∀ z, z ≠ 36 → z ≠ 38 → h' z = h z) ∧ f' ≤ f ∧ (f' = f ∨ ∃ col, PrC K B f' col) ∧ cmp f'
theorem part31 {F : Nat} {K : Nat → Nat → Prop} {B b u : Nat} {cl G ro : Nat → Nat} {kr : Int32 → Int32 → HP → Option HP} (hB : B ≤ 8) (hb : b < B) (hub : u ≤ b) (hcl : ∀ b, b < B → cl b < 256 ∧ ∀ c, bn (cl b) c = 1 ↔ c < B ∧ K b c) (hsym : ∀ c c', K c c' → K c' c) (hirr : ∀ c, ¬ K c c) (hS : SGp K b u G ro)
    (hkr : ∀ (u' f' : Nat) (G' ro' : Nat → Nat) (h : HP), PEp K B cl (b + 1) u' f' G' ro' h → POp K B f' G' h (fun f'' => ∀ k col st, PrC K B k col → Emb (b + 1) u' k ro' col st → f'' ≤ k) (kr (nI (b + 1)) (nI u') h)) :
    ∀ (k g n f : Nat) (h : HP), g + k = u + 1 → k < n → PEp K B cl b u f G ro h →
      POp K B f G h (fun f' => ∀ k col st y, PrC K B k col → Emb b u k ro col st → g ≤ y → (y < u ∧ st y = col b ∨ y = u ∧ ∀ g, g < u → st g ≠ col b) → f' ≤ k) (f_X1_partFrom_31 F kr (nI b) (nI u) n (nI g) h) := by
  intro k
  induction k with
  | zero =>
    intro g n f h hg hn hP
    obtain ⟨n, rfl⟩ := succ_of hn
    obtain ⟨p1, p2, p3, p4, p5, p6, p7, p8⟩ := hP
    refine ⟨h, f, ?_, p6, rfl, p8, fun _ _ _ => rfl, Nat.le_refl _, Or.inl rfl, fun k col st y _ _ h1 h2 => by omega⟩
    rw [f_X1_partFrom_31, if_pos (by rw [e_lt (by omega) (by omega)]; omega)]
  | succ k ih =>
    intro g n f h hg hn hP
    obtain ⟨n, rfl⟩ := succ_of hn
    obtain ⟨p1, p2, p3, p4, p5, p6, p7, p8⟩ := hP
    have hg8 : g < 8 := by omega
    obtain ⟨s1, s2, s3⟩ := hS
    obtain ⟨gb, gbits⟩ := s2 g hg8
    obtain ⟨cb, cbits⟩ := hcl b hb
    have hand : nI (G g) &&& nI (cl b) = nI (G g &&& cl b) := e_and _ _
    have hlt : G g &&& cl b < 256 := Nat.lt_of_le_of_lt Nat.and_le_left gb
    rw [f_X1_partFrom_31, if_neg (by rw [e_lt (by omega) (by omega)]; omega), if_neg (by rw [e_le (by omega) (by omega)]; omega), if_pos (inb_t (by omega) (by decide)), if_pos (inb_t (by omega) (by decide)), e_ix (by omega), e_ix (by omega), p8 g hg8, p7 b hb, hand, i_eq (by omega) (by decide), e_add, e_add, e_one (by omega), e_or]
    by_cases t : G g &&& cl b = 0
    · rw [if_pos t]
      have tt := and_zero.mp t
      have gb0 : bn (G g) b = 0 := by
        have := bn_lt (G g) b
        have := mt (gbits b).mp (by omega)
        omega
      have h2b : 2 ^ b < 2 ^ 8 := Nat.pow_lt_pow_right (by decide) (by omega)
      have gor : G g ||| 2 ^ b < 256 := Nat.or_lt_two_pow (n := 8) gb h2b
      have hS' : SGp K (b + 1) (max u (g + 1)) (updN G g (G g ||| 2 ^ b)) (updN ro b g) := by
        refine ⟨fun c hc => ?_, fun g' hg' => ?_, fun c c' hc hc' hK => ?_⟩
        · unfold updN
          by_cases z : c = b
          · rw [if_pos z]; omega
          · rw [if_neg z]; have := s1 c (by omega); omega
        · unfold updN
          by_cases z : g' = g
          · rw [if_pos z]
            refine ⟨gor, fun c => ?_⟩
            rw [bn_or, bn_pow]
            have := gbits c
            have := bn_lt (G g) c
            by_cases y : c = b
            · rw [if_pos y, if_pos y]; omega
            · rw [if_neg y, if_neg y]; omega
          · rw [if_neg z]
            refine ⟨(s2 g' hg').1, fun c => ?_⟩
            have := (s2 g' hg').2 c
            by_cases y : c = b
            · rw [if_pos y]; omega
            · rw [if_neg y]; omega
        · unfold updN
          by_cases z : c = b
          · by_cases y : c' = b
            · rw [z, y] at hK; exact absurd hK (hirr b)
            · rw [if_pos z, if_neg y]
              intro e
              rw [z] at hK
              exact tt c' ⟨(gbits c').mpr ⟨by omega, e.symm⟩, (cbits c').mpr ⟨by omega, hK⟩⟩
          · by_cases y : c' = b
            · rw [if_neg z, if_pos y]
              intro e
              rw [y] at hK
              exact tt c ⟨(gbits c).mpr ⟨by omega, e⟩, (cbits c).mpr ⟨by omega, hsym _ _ hK⟩⟩
            · rw [if_neg z, if_neg y]
              exact s3 c c' (by omega) (by omega) hK
      let h1 : HP := up h 38 g (nI (G g ||| 2 ^ b))
      have f1 : ∀ z, z ≠ 38 → h1 z = h z := fun z hz => up_c hz
      obtain ⟨h2, f2, a1, a2, a3, a4, a5, a6, a7, a8⟩ := hkr (max u (g + 1)) f (updN G g (G g ||| 2 ^ b)) (updN ro b g) h1 ⟨hb, by omega, p3, hS', by rw [f1 36 (by decide)]; exact p5, by rw [f1 36 (by decide)]; exact p6, fun b' hb' => by rw [f1 37 (by decide)]; exact p7 b' hb', fun g' hg' => by
        unfold updN
        by_cases z : g' = g
        · rw [if_pos z, z]; exact up_s
        · rw [if_neg z]
          show (up h 38 g _) 38 g' = _
          rw [up_n z]; exact p8 g' hg'⟩
      have hcl2 : h2 38 g &&& (nI (2 ^ b) ^^^ (-1)) = nI (G g) := by
        rw [a4 g hg8, show updN G g (G g ||| 2 ^ b) g = G g ||| 2 ^ b by unfold updN; rw [if_pos rfl], clear_I b (by omega) _ gor, clear_or gb (by omega) gb0]
      obtain ⟨h3, f3, b1, b2, b3, b4, b5, b6, b7, b8⟩ := ih (g + 1) n f2 (up h2 38 g (nI (G g))) (by omega) (by omega) ⟨p1, p2, by omega, ⟨s1, s2, s3⟩, by rw [up_c (by decide), a3, f1 36 (by decide)]; exact p5, by rw [up_c (by decide)]; exact a2, fun b' hb' => by rw [up_c (by decide), a5 37 (by decide) (by decide), f1 37 (by decide)]; exact p7 b' hb', fun g' hg' => by
        by_cases z : g' = g
        · rw [z, up_s]
        · rw [up_n z, a4 g' hg']
          unfold updN
          rw [if_neg z]⟩
      refine ⟨h3, f3, ?_, b2, by rw [b3, up_c (by decide), a3, f1 36 (by decide)], b4, fun z z1 z2 => by rw [b5 z z1 z2, up_c z2, a5 z z1 z2, f1 z z2], by omega, ?_, fun k col st y c1 c2 c3 c4 => ?_⟩
      · rw [max_n F (by omega) (by omega), ob_eq, a1, obv_eq, hcl2, b1]
      · rcases b7 with b7 | b7
        · rw [b7]; exact a7
        · exact Or.inr b7
      · by_cases z : y = g
        · have : f2 ≤ k := by
            rcases c4 with ⟨c4, c5⟩ | ⟨c4, c5⟩
            · refine a8 k col st c1 ?_
              rw [show max u (g + 1) = u by omega]
              refine ⟨c2.1, c2.2.1, fun c hc => ?_⟩
              unfold updN
              by_cases w : c = b
              · rw [if_pos w, w, ← z]; exact c5
              · rw [if_neg w]; exact c2.2.2 c (by omega)
            · refine a8 k col (updN st u (col b)) c1 ?_
              rw [show max u (g + 1) = u + 1 by omega]
              refine ⟨fun g' hg' => ?_, fun g1 g2 h1 h2 e => ?_, fun c hc => ?_⟩
              · unfold updN
                by_cases w : g' = u
                · rw [if_pos w]; exact c1.1 b hb
                · rw [if_neg w]; exact c2.1 g' (by omega)
              · unfold updN at e
                by_cases w1 : g1 = u
                · by_cases w2 : g2 = u
                  · rw [w1, w2]
                  · rw [if_pos w1, if_neg w2] at e
                    exact absurd e.symm (c5 g2 (by omega))
                · by_cases w2 : g2 = u
                  · rw [if_neg w1, if_pos w2] at e
                    exact absurd e (c5 g1 (by omega))
                  · rw [if_neg w1, if_neg w2] at e
                    exact c2.2.1 g1 g2 (by omega) (by omega) e
              · unfold updN
                by_cases w : c = b
                · rw [if_pos w, if_pos (by omega), w]
                · rw [if_neg w]
                  have := s1 c (by omega)
                  rw [if_neg (by omega)]; exact c2.2.2 c (by omega)
          omega
        · exact b8 k col st y c1 c2 (by omega) c4
    · rw [if_neg t]
      obtain ⟨h3, f3, b1, b2, b3, b4, b5, b6, b7, b8⟩ := ih (g + 1) n f h (by omega) (by omega) ⟨p1, p2, p3, p4, p5, p6, p7, p8⟩
      refine ⟨h3, f3, b1, b2, b3, b4, b5, b6, b7, fun k col st y c1 c2 c3 c4 => ?_⟩
      by_cases z : y = g
      · exfalso
        apply t
        rw [and_zero]
        intro c ⟨d1, d2⟩
        obtain ⟨d3, d4⟩ := (gbits c).mp d1
        obtain ⟨d5, d6⟩ := (cbits c).mp d2
        rcases c4 with ⟨c4, c5⟩ | ⟨c4, c5⟩
        · have e1 := c2.2.2 c d3
          rw [d4, ← z, c5] at e1
          exact c1.2 b c hb d5 d6 e1
        · have := s1 c d3
          omega
      · exact b8 k col st y c1 c2 (by omega) c4
theorem part_n {F : Nat} (hF : 600 ≤ F) {K : Nat → Nat → Prop} {B : Nat} {cl : Nat → Nat} (hB : B ≤ 8) (hcl : ∀ b, b < B → cl b < 256 ∧ ∀ c, bn (cl b) c = 1 ↔ c < B ∧ K b c) (hsym : ∀ c c', K c c' → K c' c) (hirr : ∀ c, ¬ K c c) :
    ∀ (dd b u f : Nat) (G ro : Nat → Nat) (h : HP), B - b < dd → PEp K B cl b u f G ro h → POp K B f G h (fun f'' => ∀ k col st, PrC K B k col → Emb b u k ro col st → f'' ≤ k) (f_X1_partFrom F dd (nI b) (nI u) h) := by
  intro dd
  induction dd with
  | zero => intro b u f G ro h hd hP; omega
  | succ dd ih =>
    intro b u f G ro h hd hP
    have hP0 := hP
    obtain ⟨p1, p2, p3, p4, p5, p6, p7, p8⟩ := hP
    rw [f_X1_partFrom, p6, p5]
    by_cases g1 : u < f
    · rw [if_pos (by rw [e_lt (by omega) (by omega)]; exact g1)]
      by_cases g2 : B ≤ b
      · rw [if_pos (by rw [e_le (by omega) (by omega)]; exact g2)]
        have hbB : b = B := by omega
        subst hbB
        refine ⟨up h 36 3 (nI u), u, rfl, up_s, up_n (by decide), fun g hg => by rw [up_c (by decide)]; exact p8 g hg, fun z z1 z2 => up_c z1, by omega, Or.inr ⟨ro, p4.1, p4.2.2⟩, fun k col st c1 c2 => pig k u st c2.1 c2.2.1⟩
      · rw [if_neg (by rw [e_le (by omega) (by omega)]; exact g2), if_pos (by rw [e_lt (by omega) (by omega)]; omega)]
        obtain ⟨h', f', a1, a2, a3, a4, a5, a6, a7, a8⟩ := part31 (F := F) (kr := f_X1_partFrom F dd) hB (show b < B by omega) p2 hcl hsym hirr p4 (fun u' f' G' ro' h hP' => ih (b + 1) u' f' G' ro' h (by omega) hP') (u + 1) 0 F f h (by omega) (by omega) hP0
        refine ⟨h', f', a1, a2, a3, a4, a5, a6, a7, fun k col st c1 c2 => ?_⟩
        by_cases z : ∃ y, y < u ∧ st y = col b
        · obtain ⟨y, y1, y2⟩ := z
          exact a8 k col st y c1 c2 (Nat.zero_le _) (Or.inl ⟨y1, y2⟩)
        · exact a8 k col st u c1 c2 (Nat.zero_le _) (Or.inr ⟨rfl, fun g hg e => z ⟨g, hg, e⟩⟩)
    · rw [if_neg (by rw [e_lt (by omega) (by omega)]; exact g1)]
      refine ⟨h, f, rfl, p6, rfl, p8, fun _ _ _ => rfl, Nat.le_refl _, Or.inl rfl, fun k col st c1 c2 => ?_⟩
      have := pig k u st c2.1 c2.2.1
      omega
end
section
/-! ===== ringers: the class ===== -/
theorem fill_n {F : Nat} (hF : 600 ≤ F) {r : Nat} (x : Int32) (hL : ln r ≤ 500) (h : HP) : ∃ h', f_J7_fill_53178 F r x h = some h' ∧ (∀ j, j < ln r → h' r j = x) ∧ (∀ j, ln r ≤ j → h' r j = h r j) ∧ ∀ z, z ≠ r → h' z = h z := by
  have lp : ∀ (k i n : Nat) (h : HP), i + k = ln r → k < n → ∃ h', f_J7_fill_53178_5 F r x n (nI i) (nI (ln r)) h = some h' ∧ (∀ j, i ≤ j → j < ln r → h' r j = x) ∧ (∀ j, (j < i ∨ ln r ≤ j) → h' r j = h r j) ∧ ∀ z, z ≠ r → h' z = h z := by
    intro k
    induction k with
    | zero =>
      intro i n h hi hn
      obtain ⟨n, rfl⟩ := succ_of hn
      refine ⟨h, ?_, fun j h1 h2 => by omega, fun _ _ => rfl, fun _ _ => rfl⟩
      rw [f_J7_fill_53178_5, if_pos (by rw [e_le (by omega) (by omega)]; omega)]
    | succ k ih =>
      intro i n h hi hn
      obtain ⟨n, rfl⟩ := succ_of hn
      obtain ⟨h', f1, f2, f3, f4⟩ := ih (i + 1) n (up h r i x) (by omega) (by omega)
      refine ⟨h', ?_, fun j h1 h2 => ?_, fun j hj => by rw [f3 j (by omega), up_n (by omega)], fun z hz => by rw [f4 z hz, up_c hz]⟩
      · rw [f_J7_fill_53178_5, if_neg (by rw [e_le (by omega) (by omega)]; omega), if_pos (inb_t (by omega) (by omega)), e_ix (by omega), e_add, f1]
      · by_cases z : j = i
        · rw [z, f3 i (by omega), up_s]
        · exact f2 j (by omega) h2
  obtain ⟨h', f1, f2, f3, f4⟩ := lp (ln r) 0 F h (by omega) (by omega)
  exact ⟨h', f1, fun j hj => f2 j (Nat.zero_le _) hj, fun j hj => f3 j (Or.inr hj), f4⟩
/-- two bells that some row rings together -/
def clsh (p : Nat → Nat) (N b c : Nat) : Prop := b ≠ c ∧ ∃ r, r < N ∧ bn (p r) b = 1 ∧ bn (p r) c = 1
theorem clsh_sym {p : Nat → Nat} {N b c : Nat} (h : clsh p N b c) : clsh p N c b := by
  obtain ⟨h1, r, h2, h3, h4⟩ := h
  exact ⟨Ne.symm h1, r, h2, h4, h3⟩
/-- the clashes of the rows below r, and of row r for bells below b -/
def ClI (p : Nat → Nat) (r b0 : Nat) (cl : Nat → Nat) : Prop := ∀ b, b < 8 → cl b < 256 ∧ ∀ c, bn (cl b) c = 1 ↔ clsh p (if b < b0 then r + 1 else r) b c
theorem cl45 {F : Nat} {B r : Nat} {tw : TW} {p : Nat → Nat} {k34 : Int32 → HP → Option (Int32 × HP)} (hB : B ≤ 8) (hr : r < 32) :
    ∀ (k b n : Nat) (cl : Nat → Nat) (h : HP), b + k = B → k < n → h 36 2 = nI B → (∀ r, r < 32 → h 15 r = nI (p r) ∧ p r < 2 ^ B) → (∀ b, b < B → h 37 b = nI (cl b)) → ClI p r b cl →
      ∃ h' cl', f_X1_fewestPeople_45 F 15 tw.1 k34 n (nI r) (nI b) h = k34 (nI (r + 1)) h' ∧ (∀ b, b < B → h' 37 b = nI (cl' b)) ∧ ClI p (r + 1) 0 cl' ∧ ∀ z, z ≠ 37 → h' z = h z := by
  have h256 := p2le hB
  intro k
  induction k with
  | zero =>
    intro b n cl h hb hn h36 hp hcl hI
    obtain ⟨n, rfl⟩ := succ_of hn
    refine ⟨h, cl, ?_, hcl, fun b' hb' => ?_, fun _ _ => rfl⟩
    · rw [f_X1_fewestPeople_45, h36, if_pos (by rw [e_le (by omega) (by omega)]; omega), e_add]
    · obtain ⟨i1, i2⟩ := hI b' hb'
      refine ⟨i1, fun c => ?_⟩
      rw [if_neg (Nat.not_lt_zero _), i2 c]
      by_cases z : b' < b
      · rw [if_pos z]
      · rw [if_neg z]
        have hpr := (hp r hr).2
        have z2 : bn (p r) b' = 0 := bn_big hpr (by omega)
        unfold clsh
        refine ⟨fun ⟨q1, r', q2, q3⟩ => ⟨q1, r', by omega, q3⟩, fun ⟨q1, r', q2, q3⟩ => ⟨q1, r', ?_, q3⟩⟩
        by_cases y : r' = r
        · rw [y, z2] at q3; exact absurd q3.1 (by decide)
        · omega
  | succ k ih =>
    intro b n cl h hb hn h36 hp hcl hI
    obtain ⟨n, rfl⟩ := succ_of hn
    obtain ⟨q1, q2⟩ := hp r hr
    have hbn := bn_lt (p r) b
    rw [f_X1_fewestPeople_45, h36, if_neg (by rw [e_le (by omega) (by omega)]; omega), if_pos (inb_t (show r < ln 15 by exact hr) (by decide)), e_ix (by omega), q1, e_bit (by omega) (by omega), i_eq (by omega) (by decide), e_add]
    obtain ⟨i1, i2⟩ := hI b (by omega)
    by_cases g : bn (p r) b = 1
    · have hcp : cl b ||| (p r &&& (255 ^^^ 2 ^ b)) < 256 := Nat.or_lt_two_pow (n := 8) i1 (Nat.lt_of_le_of_lt Nat.and_le_left (by omega))
      rw [if_pos g, if_pos (inb_t (by omega) (by decide)), e_ix (by omega), hcl b (by omega), e_one (by omega), clear_I b (by omega) _ (by omega), e_or]
      obtain ⟨h', cl', f1, f2, f3, f4⟩ := ih (b + 1) n (updN cl b (cl b ||| (p r &&& (255 ^^^ 2 ^ b)))) (up h 37 b (nI (cl b ||| (p r &&& (255 ^^^ 2 ^ b))))) (by omega) (by omega) (by rw [up_c (by decide)]; exact h36) (fun r' hr' => by rw [up_c (by decide)]; exact hp r' hr') (fun b' hb' => by
        unfold updN
        by_cases z : b' = b
        · rw [if_pos z, z, up_s]
        · rw [if_neg z, up_n z]; exact hcl b' hb') (fun b' hb' => by
        unfold updN
        by_cases z : b' = b
        · rw [if_pos z, z, if_pos (by omega)]
          refine ⟨hcp, fun c => ?_⟩
          have hi := i2 c
          rw [if_neg (Nat.lt_irrefl _)] at hi
          rw [bn_or, clear_b (by omega) (by omega)]
          have hc1 := bn_lt (cl b) c
          have hc2 := bn_lt (p r) c
          unfold clsh at hi ⊢
          constructor
          · intro e
            by_cases y : c = b
            · rw [if_pos y] at e
              obtain ⟨w1, _⟩ := hi.mp (by omega)
              exact absurd y.symm w1
            · rw [if_neg y] at e
              rcases (show bn (cl b) c = 1 ∨ bn (p r) c = 1 by omega) with w | w
              · obtain ⟨w1, r', w2, w3⟩ := hi.mp w
                exact ⟨w1, r', by omega, w3⟩
              · exact ⟨Ne.symm y, r, by omega, g, w⟩
          · intro ⟨w1, r', w2, w3, w4⟩
            rw [if_neg (Ne.symm w1)]
            by_cases y : r' = r
            · rw [y] at w4; omega
            · have := hi.mpr ⟨w1, r', by omega, w3, w4⟩
              omega
        · rw [if_neg z]
          have := hI b' hb'
          by_cases y : b' < b
          · rw [if_pos y] at this; rw [if_pos (by omega)]; exact this
          · rw [if_neg y] at this; rw [if_neg (by omega)]; exact this)
      exact ⟨h', cl', f1, f2, f3, fun z hz => by rw [f4 z hz, up_c hz]⟩
    · rw [if_neg g]
      refine ih (b + 1) n cl h (by omega) (by omega) h36 hp hcl (fun b' hb' => ?_)
      obtain ⟨j1, j2⟩ := hI b' hb'
      refine ⟨j1, fun c => ?_⟩
      have hj := j2 c
      by_cases z : b' = b
      · rw [z] at hj ⊢
        rw [if_neg (Nat.lt_irrefl _)] at hj
        rw [if_pos (by omega), hj]
        unfold clsh
        refine ⟨fun ⟨w1, r', w2, w3⟩ => ⟨w1, r', by omega, w3⟩, fun ⟨w1, r', w2, w3⟩ => ⟨w1, r', ?_, w3⟩⟩
        by_cases y : r' = r
        · rw [y] at w3; exact absurd w3.1 g
        · omega
      · by_cases y : b' < b
        · rw [if_pos y] at hj; rw [if_pos (by omega)]; exact hj
        · rw [if_neg y] at hj; rw [if_neg (by omega)]; exact hj
theorem cl34 {F : Nat} (hF : 600 ≤ F) {B N : Nat} {tw : TW} {p : Nat → Nat} (ht : tw.1 = 4 ∨ tw.1 = 9) (hB : B ≤ 8) (hN : N ≤ 32) :
    ∀ (k r n : Nat) (cl : Nat → Nat) (h : HP), r + k = N → k < n → h tw.1 4 = nI N → h 36 2 = nI B → h 36 3 = nI B → (∀ g, g < 8 → h 38 g = nI 0) → (∀ r, r < 32 → h 15 r = nI (p r) ∧ p r < 2 ^ B) → (∀ b, b < B → h 37 b = nI (cl b)) → ClI p r 0 cl →
      ∃ h' f, f_X1_fewestPeople_34 F 15 tw.1 n (nI r) h = some (nI f, h') ∧ (∀ z, z ≠ 36 → z ≠ 37 → z ≠ 38 → h' z = h z) ∧ f ≤ B ∧ (f = B ∨ ∃ col, PrC (clsh p N) B f col) ∧ ∀ k col, PrC (clsh p N) B k col → f ≤ k := by
  intro k
  induction k with
  | zero =>
    intro r n cl h hr hn hN4 h36 h363 h38 hp hcl hI
    obtain ⟨n, rfl⟩ := succ_of hn
    have hrN : r = N := by omega
    subst hrN
    have h256 := p2le hB
    have hcl2 : ∀ b, b < B → cl b < 256 ∧ ∀ c, bn (cl b) c = 1 ↔ c < B ∧ clsh p r b c := fun b hb => by
      obtain ⟨i1, i2⟩ := hI b (by omega)
      refine ⟨i1, fun c => ?_⟩
      have := i2 c
      rw [if_neg (Nat.not_lt_zero _)] at this
      rw [this]
      refine ⟨fun w => ⟨?_, w⟩, fun w => w.2⟩
      obtain ⟨w1, r', w2, w3, w4⟩ := w
      rcases Nat.lt_or_ge c B with q | q
      · exact q
      · rw [bn_big (hp r' (by omega)).2 q] at w4; exact absurd w4 (by decide)
    obtain ⟨h', f, a1, a2, a3, a4, a5, a6, a7, a8⟩ := part_n hF (K := clsh p r) hB hcl2 (fun c c' => clsh_sym) (fun c hc => hc.1 rfl) 12 0 0 B (fun _ => 0) (fun _ => 0) h (by omega) ⟨Nat.zero_le _, Nat.le_refl _, hB, ⟨fun c hc => by omega, fun g hg => ⟨(show 0 < 256 by decide), fun c => ⟨fun e => by rw [bn_zero] at e; exact absurd e (by decide), fun e => absurd e.1 (Nat.not_lt_zero _)⟩⟩, fun c c' hc => by omega⟩, h36, h363, hcl, h38⟩
    refine ⟨h', f, ?_, fun z z1 z2 z3 => a5 z z1 z3, a6, a7, fun k col c1 => a8 k col (fun _ => 0) c1 ⟨fun g hg => by omega, fun g g' hg => by omega, fun c hc => by omega⟩⟩
    rw [f_X1_fewestPeople_34, hN4, if_pos (by rw [e_le (by omega) (by omega)]; omega), a1, obv_eq, a2]
  | succ k ih =>
    intro r n cl h hr hn hN4 h36 h363 h38 hp hcl hI
    obtain ⟨n, rfl⟩ := succ_of hn
    obtain ⟨h1, cl1, a1, a2, a3, a4⟩ := cl45 (F := F) (tw := tw) (k34 := f_X1_fewestPeople_34 F 15 tw.1 n) hB (show r < 32 by omega) B 0 F cl h (by omega) (by omega) h36 hp hcl hI
    obtain ⟨h', f, f1, f2, f3⟩ := ih (r + 1) n cl1 h1 (by omega) (by omega) (by rw [a4 tw.1 (by omega)]; exact hN4) (by rw [a4 36 (by decide)]; exact h36) (by rw [a4 36 (by decide)]; exact h363) (fun g hg => by rw [a4 38 (by decide)]; exact h38 g hg) (fun r' hr' => by rw [a4 15 (by decide)]; exact hp r' hr') a2 a3
    refine ⟨h', f, ?_, fun z z1 z2 z3 => by rw [f2 z z1 z2 z3, a4 z z2], f3⟩
    rw [f_X1_fewestPeople_34, hN4, if_neg (by rw [e_le (by omega) (by omega)]; omega), a1, f1]
theorem peopleX_n {F : Nat} (hF : 600 ≤ F) {B N : Nat} {tw : TW} {p : Nat → Nat} {h : HP} (ht : tw.1 = 4 ∨ tw.1 = 9) (hB : B ≤ 8) (hN : N ≤ 32) (hB0 : h tw.1 0 = nI B) (hN4 : h tw.1 4 = nI N) (hp : ∀ r, r < 32 → h 15 r = nI (p r) ∧ p r < 2 ^ B) :
    ∃ h' f, f_X1_fewestPeople F 15 tw.1 h = some (nI f, h') ∧ (∀ z, z ≠ 36 → z ≠ 37 → z ≠ 38 → h' z = h z) ∧ f ≤ B ∧ (f = B ∨ ∃ col, PrC (clsh p N) B f col) ∧ ∀ k col, PrC (clsh p N) B k col → f ≤ k := by
  let h0 : HP := up (up h 36 2 (nI B)) 36 3 (nI B)
  have f0 : ∀ z, z ≠ 36 → h0 z = h z := fun z hz => by show (up (up h 36 _ _) 36 _ _) z = _; rw [up_c hz, up_c hz]
  have e2 : h0 36 2 = nI B := by show (up (up h 36 _ _) 36 _ _) 36 2 = _; rw [up_n (by decide), up_s]
  have e3 : h0 36 3 = nI B := up_s
  obtain ⟨h1, a1, a2, -, a3⟩ := fill_n hF (r := 37) (nI 0) (by decide) h0
  obtain ⟨h2, b1, b2, -, b3⟩ := fill_n hF (r := 38) (nI 0) (by decide) h1
  have c0 : ∀ z, z ≠ 36 → z ≠ 37 → z ≠ 38 → h2 z = h z := fun z z1 z2 z3 => by rw [b3 z z3, a3 z z2, f0 z z1]
  have c36 : h2 36 = h0 36 := by rw [b3 36 (by decide), a3 36 (by decide)]
  obtain ⟨h', f, f1, f2, f3⟩ := cl34 hF (p := p) (N := N) ht hB hN N 0 F (fun _ => 0) h2 (by omega) (by omega) (by rw [c0 tw.1 (by omega) (by omega) (by omega)]; exact hN4) (by rw [c36]; exact e2) (by rw [c36]; exact e3) (fun g hg => b2 g hg) (fun r hr => by rw [c0 15 (by decide) (by decide) (by decide)]; exact hp r hr) (fun b hb => by rw [b3 37 (by decide)]; exact a2 b (by show b < 8; omega)) (fun b hb => ⟨(show 0 < 256 by decide), fun c => ⟨fun e => by rw [bn_zero] at e; exact absurd e (by decide), fun e => by
    rw [if_neg (Nat.not_lt_zero _)] at e
    obtain ⟨_, r, w, _⟩ := e
    omega⟩⟩)
  refine ⟨h', f, ?_, fun z z1 z2 z3 => by rw [f2 z z1 z2 z3, c0 z z1 z2 z3], f3⟩
  unfold f_X1_fewestPeople
  rw [hB0, up_s, show up (up h 36 2 (nI B)) 36 3 (nI B) = h0 from rfl, a1, obv_eq, b1, obv_eq, f1]
end
section
/-! ===== ringers: the reference ===== -/
theorem m1_all : (-1 : Int32) = nI 4294967295 := by decide
def sdf (s t : Nat) : Nat := s &&& (t ^^^ 4294967295)
theorem sdf_I (s t : Nat) : nI s &&& (nI t ^^^ (-1)) = nI (sdf s t) := by
  rw [m1_all, e_xor, e_and]
  rfl
theorem sdf_b {s t i : Nat} (hs : s < 256) : bn (sdf s t) i = if bn t i = 1 then 0 else bn s i := by
  unfold sdf
  rw [bn_and]
  rcases Nat.lt_or_ge i 8 with q | q
  · have e : bn (t ^^^ 4294967295) i = if bn t i = 1 then 0 else 1 := by
      rw [bn_tb, bn_tb, Nat.testBit_xor, show (4294967295 : Nat) = 2 ^ 32 - 1 from rfl, Nat.testBit_two_pow_sub_one, decide_eq_true (show i < 32 by omega)]
      cases t.testBit i <;> rfl
    rw [e]
    split
    · rw [Nat.mul_zero]
    · rw [Nat.mul_one]
  · rw [bn_big (n := 8) hs q, Nat.zero_mul]
    split <;> rfl
theorem full_b (B b : Nat) : bn (2 ^ B - 1) b = 1 ↔ b < B := by
  rw [bn_tb, Nat.testBit_two_pow_sub_one]
  by_cases h : b < B
  · rw [decide_eq_true h]; exact ⟨fun _ => h, fun _ => rfl⟩
  · rw [decide_eq_false h]; exact ⟨fun e => absurd e (by decide), fun e => absurd e h⟩
def sub (t s : Nat) : Prop := ∀ i, bn t i = 1 → bn s i = 1
theorem bn_half (a i : Nat) : bn a (i + 1) = bn (a / 2) i := by
  unfold bn
  rw [Nat.pow_succ, Nat.mul_comm, Nat.div_div_eq_div_mul]
theorem bn_lo (a : Nat) : bn a 0 = a % 2 := by
  unfold bn
  rw [Nat.pow_zero, Nat.div_one]
theorem sub_half {t s : Nat} (h : sub t s) : sub (t / 2) (s / 2) := fun i hi => by
  rw [← bn_half] at hi ⊢
  exact h (i + 1) hi
theorem and_lo (a b : Nat) : (a &&& b) % 2 = a % 2 * (b % 2) := by
  rw [← bn_lo, bn_and, bn_lo, bn_lo]
theorem and_hi (a b : Nat) : (a &&& b) / 2 = (a / 2) &&& (b / 2) := by
  apply eq_bits
  intro i
  rw [← bn_half, bn_and, bn_and, bn_half, bn_half]
theorem and_self_sub {t s : Nat} (h : sub t s) : t &&& s = t := by
  apply eq_bits
  intro i
  rw [bn_and]
  have := bn_lt t i
  by_cases z : bn t i = 1
  · rw [h i z, z]
  · rw [show bn t i = 0 by omega, Nat.zero_mul]
theorem sub_next : ∀ (n x t s : Nat), x < n → sub x s → sub t s → t < x → t ≤ (x - 1) &&& s := by
  intro n
  induction n with
  | zero => intro x t s h; omega
  | succ n ih =>
    intro x t s hn hx ht htx
    have e1 := and_lo (x - 1) s
    have e2 := and_hi (x - 1) s
    have l0 : t % 2 = 1 → s % 2 = 1 := fun e => by
      have := ht 0 (by rw [bn_lo]; exact e)
      rw [bn_lo] at this
      exact this
    by_cases z : x % 2 = 1
    · have hs : s % 2 = 1 := by
        have := hx 0 (by rw [bn_lo]; exact z)
        rw [bn_lo] at this
        exact this
      have e3 : (x - 1) / 2 = x / 2 := by omega
      rw [e3, and_self_sub (sub_half hx)] at e2
      omega
    · have e3 : (x - 1) / 2 = x / 2 - 1 := by omega
      have e4 : (x - 1) % 2 = 1 := by omega
      rw [e3] at e2
      rw [e4, Nat.one_mul] at e1
      have := ih (x / 2) (t / 2) (s / 2) (by omega) (sub_half hx) (sub_half ht) (by omega)
      omega
def ColS (K : Nat → Nat → Prop) (s k : Nat) : Prop := ∃ col : Nat → Nat, (∀ b, bn s b = 1 → col b < k) ∧ ∀ b c, bn s b = 1 → bn s c = 1 → K b c → col b ≠ col c
def opt (K : Nat → Nat → Prop) (s v : Nat) : Prop := ColS K s v ∧ ∀ k, ColS K s k → v ≤ k
def ind (K : Nat → Nat → Prop) (s : Nat) : Prop := ∀ b c, bn s b = 1 → bn s c = 1 → ¬ K b c
theorem col_up {K : Nat → Nat → Prop} {s t v : Nat} (hs : s < 256) (ht : ind K t) (hc : ColS K (sdf s t) v) : ColS K s (v + 1) := by
  obtain ⟨col, c1, c2⟩ := hc
  have key : ∀ b, bn s b = 1 → ¬ bn t b = 1 → bn (sdf s t) b = 1 := fun b h1 h2 => by rw [sdf_b hs, if_neg h2]; exact h1
  refine ⟨fun b => if bn t b = 1 then v else col b, fun b hb => ?_, fun b c hb hc hK => ?_⟩
  · dsimp only
    by_cases z : bn t b = 1
    · rw [if_pos z]; omega
    · rw [if_neg z]; have := c1 b (key b hb z); omega
  · dsimp only
    by_cases z : bn t b = 1
    · by_cases y : bn t c = 1
      · exact absurd hK (ht b c z y)
      · rw [if_pos z, if_neg y]; have := c1 c (key c hc y); omega
    · by_cases y : bn t c = 1
      · rw [if_neg z, if_pos y]; have := c1 b (key b hb z); omega
      · rw [if_neg z, if_neg y]; exact c2 b c (key b hb z) (key c hc y) hK
theorem bit_ex {s : Nat} (h : s ≠ 0) : ∃ b, bn s b = 1 := by
  apply Classical.byContradiction
  intro q
  apply h
  apply eq_bits
  intro i
  rw [bn_zero]
  have := bn_lt s i
  have : ¬ bn s i = 1 := fun e => q ⟨i, e⟩
  omega
theorem col_down {K : Nat → Nat → Prop} {s k : Nat} (hs : s < 256) (h0 : s ≠ 0) (hc : ColS K s k) : 1 ≤ k ∧ ∃ t, t ≠ 0 ∧ t < 256 ∧ sub t s ∧ ind K t ∧ ColS K (sdf s t) (k - 1) := by
  obtain ⟨col, c1, c2⟩ := hc
  obtain ⟨b0, hb0⟩ := bit_ex h0
  have hk := c1 b0 hb0
  obtain ⟨n1, n2⟩ := num_bits (fun c => if bn s c = 1 ∧ col c = col b0 then 1 else 0) (fun c => by split <;> omega) 8
  generalize sg (fun c => (if bn s c = 1 ∧ col c = col b0 then 1 else 0) * 2 ^ c) 0 8 = t at n1 n2
  have tb : ∀ c, bn t c = 1 ↔ bn s c = 1 ∧ col c = col b0 := fun c => by
    rw [n2 c]
    by_cases q : c < 8
    · rw [if_pos q]
      by_cases z : bn s c = 1 ∧ col c = col b0
      · rw [if_pos z]; exact ⟨fun _ => z, fun _ => rfl⟩
      · rw [if_neg z]; exact ⟨fun e => absurd e (by decide), fun e => absurd e z⟩
    · rw [if_neg q]
      refine ⟨fun e => absurd e (by decide), fun e => ?_⟩
      have := bn_big (n := 8) hs (show 8 ≤ c by omega)
      omega
  refine ⟨by omega, t, fun e => ?_, n1, fun i hi => ((tb i).mp hi).1, fun b c hb hc hK => ?_, fun b => if col b = k - 1 then col b0 else col b, fun b hb => ?_, fun b c hb hc hK => ?_⟩
  · have := (tb b0).mpr ⟨hb0, rfl⟩
    rw [e, bn_zero] at this
    exact absurd this (by decide)
  · obtain ⟨x1, x2⟩ := (tb b).mp hb
    obtain ⟨y1, y2⟩ := (tb c).mp hc
    exact c2 b c x1 y1 hK (by rw [x2, y2])
  · rw [sdf_b hs] at hb
    by_cases z : bn t b = 1
    · rw [if_pos z] at hb; exact absurd hb (by decide)
    · rw [if_neg z] at hb
      have h1 := c1 b hb
      have h2 : col b ≠ col b0 := fun e => z ((tb b).mpr ⟨hb, e⟩)
      dsimp only
      by_cases y : col b = k - 1
      · rw [if_pos y]; omega
      · rw [if_neg y]; omega
  · rw [sdf_b hs] at hb hc
    by_cases z : bn t b = 1
    · rw [if_pos z] at hb; exact absurd hb (by decide)
    by_cases z' : bn t c = 1
    · rw [if_pos z'] at hc; exact absurd hc (by decide)
    rw [if_neg z] at hb
    rw [if_neg z'] at hc
    have h2 : col b ≠ col b0 := fun e => z ((tb b).mpr ⟨hb, e⟩)
    have h3 : col c ≠ col b0 := fun e => z' ((tb c).mpr ⟨hc, e⟩)
    have h4 := c2 b c hb hc hK
    dsimp only
    by_cases y : col b = k - 1
    · by_cases y' : col c = k - 1
      · omega
      · rw [if_pos y, if_neg y']; exact Ne.symm h3
    · by_cases y' : col c = k - 1
      · rw [if_neg y, if_pos y']; exact h2
      · rw [if_neg y, if_neg y']; exact h4
theorem popc_two : ∀ x, x < 256 → (2 ≤ popc x ↔ ∃ b, b < 8 ∧ ∃ c, c < 8 ∧ b ≠ c ∧ bn x b = 1 ∧ bn x c = 1) := by decide +kernel
theorem areOne_n {F : Nat} (hF : 600 ≤ F) {N s : Nat} {p : Nat → Nat} {h : HP} (hN : N ≤ 32) (hs : s < 256) (h40 : h 40 1 = nI N) (hp : ∀ r, r < 32 → h 43 (2 + r) = nI (p r) ∧ p r < 256) :
    ∃ o, o ≤ 1 ∧ f_X7_areOne F (nI s) h = some (nI o, h) ∧ (o = 1 ↔ ind (clsh p N) s) := by
  have lp : ∀ (k r n o : Nat), r + k = N → k < n → o ≤ 1 → (o = 1 ↔ ∀ r', r' < r → popc (s &&& p r') < 2) → ∃ o', o' ≤ 1 ∧ f_X7_areOne_4 F (nI s) n (nI o) (nI r) h = some (nI o', h) ∧ (o' = 1 ↔ ∀ r', r' < N → popc (s &&& p r') < 2) := by
    intro k
    induction k with
    | zero =>
      intro r n o hr hn ho hor
      obtain ⟨n, rfl⟩ := succ_of hn
      refine ⟨o, ho, ?_, by rw [← show r = N by omega]; exact hor⟩
      rw [f_X7_areOne_4, h40, if_pos (by rw [e_le (by omega) (by omega)]; omega), guard01]
      rcases (show o = 0 ∨ o = 1 by omega) with z | z
      · exact Or.inl (by rw [z])
      · exact Or.inr (by rw [z])
    | succ k ih =>
      intro r n o hr hn ho hor
      obtain ⟨n, rfl⟩ := succ_of hn
      rw [f_X7_areOne_4, h40, if_neg (by rw [e_le (by omega) (by omega)]; omega), i_eq (by omega) (by decide), e_add, e_add]
      by_cases z : o = 0
      · rw [if_pos z]
        refine ih (r + 1) n 0 (by omega) (by omega) (by decide) ⟨fun q => absurd q (by decide), fun q => ?_⟩
        have := hor.mpr (fun r' hr' => q r' (by omega))
        omega
      · have hlt : s &&& p r < 256 := Nat.lt_of_le_of_lt Nat.and_le_left hs
        have hpc := popc_le (s &&& p r)
        rw [if_neg z, if_pos (inb_t (by omega) (by decide)), e_ix (by omega), (hp r (by omega)).1, e_and, bits_spec hF hlt, ob_eq, i_le (by decide) (by omega), ite_n]
        refine ih (r + 1) n (if 2 ≤ popc (s &&& p r) then 0 else 1) (by omega) (by omega) (by split <;> decide) ⟨fun q r' hr' => ?_, fun q => by rw [if_neg (by have := q r (by omega); omega)]⟩
        by_cases g : 2 ≤ popc (s &&& p r)
        · rw [if_pos g] at q; exact absurd q (by decide)
        · by_cases y : r' = r
          · rw [y]; omega
          · exact hor.mp (by omega) r' (by omega)
  obtain ⟨o, o1, o2, o3⟩ := lp N 0 F 1 (by omega) (by omega) (Nat.le_refl _) ⟨fun _ r' hr' => by omega, fun _ => rfl⟩
  refine ⟨o, o1, o2, o3.trans ⟨fun q b c hb hc hK => ?_, fun q r hr => ?_⟩⟩
  · obtain ⟨w1, r, w2, w3, w4⟩ := hK
    have hlt : s &&& p r < 256 := Nat.lt_of_le_of_lt Nat.and_le_left hs
    have hb8 : b < 8 := by
      rcases Nat.lt_or_ge b 8 with y | y
      · exact y
      · rw [bn_big (n := 8) hs y] at hb; exact absurd hb (by decide)
    have hc8 : c < 8 := by
      rcases Nat.lt_or_ge c 8 with y | y
      · exact y
      · rw [bn_big (n := 8) hs y] at hc; exact absurd hc (by decide)
    have := (popc_two _ hlt).mpr ⟨b, hb8, c, hc8, w1, by rw [bn_and, hb, w3], by rw [bn_and, hc, w4]⟩
    have := q r w2
    omega
  · have hlt : s &&& p r < 256 := Nat.lt_of_le_of_lt Nat.and_le_left hs
    rcases Nat.lt_or_ge (popc (s &&& p r)) 2 with y | y
    · exact y
    · exfalso
      obtain ⟨b, _, c, _, w1, w2, w3⟩ := (popc_two _ hlt).mp y
      rw [bn_and] at w2 w3
      have := bn_lt s b; have := bn_lt s c; have := bn_lt (p r) b; have := bn_lt (p r) c
      have a1 : bn s b = 1 := by rcases bn01 s b with e | e; (rw [e, Nat.zero_mul] at w2; omega); exact e
      have a2 : bn s c = 1 := by rcases bn01 s c with e | e; (rw [e, Nat.zero_mul] at w3; omega); exact e
      rw [a1, Nat.one_mul] at w2
      rw [a2, Nat.one_mul] at w3
      exact q b c a1 a2 ⟨w1, r, hr, w2, w3⟩
theorem sdf_lt {s t : Nat} (hs : s < 256) (ht : t ≠ 0) (hst : sub t s) : sdf s t < s := by
  have h1 : sdf s t ≤ s := Nat.and_le_left
  rcases Nat.lt_or_ge (sdf s t) s with q | q
  · exact q
  · have e : sdf s t = s := by omega
    obtain ⟨b, hb⟩ := bit_ex ht
    have h2 := hst b hb
    have h3 := sdf_b (t := t) (i := b) hs
    rw [e, if_pos hb] at h3
    omega
theorem sdf_self {s : Nat} (hs : s < 256) : sdf s s = 0 := by
  apply eq_bits
  intro i
  rw [sdf_b hs, bn_zero]
  have := bn_lt s i
  split <;> omega
theorem rg39 {F : Nat} {N s fl : Nat} {p W o : Nat → Nat} {k13 : Int32 → Int32 → HP → Option (Int32 × HP)} (hs0 : 0 < s) (hs : s < 256) (hW0 : W 0 = 0) (hW : ∀ x, x < s → opt (clsh p N) x (W x)) (hW8 : ∀ x, x < s → W x ≤ 8) (ho : ∀ x, 0 < x → x ≤ s → o x ≤ 1 ∧ (o x = 1 ↔ ind (clsh p N) x)) :
    ∀ (n t v : Nat) (h : HP), t < n → sub t s → t ≤ s → (∀ x, 0 < x → x < s → h 54 x = nI (W x)) → (∀ x, 0 < x → x ≤ s → h 55 x = nI (o x)) → h 54 s = nI v → v ≤ 1000000 → (v = 1000000 ∨ ColS (clsh p N) s v) → (∀ t', t' ≠ 0 → t' < 256 → sub t' s → t < t' → ind (clsh p N) t' → v ≤ 1 + W (sdf s t')) →
      ∃ h' v', f_X7_ringers_39 F k13 n (nI fl) (nI s) (nI t) h = k13 (nI fl) (nI (s + 1)) h' ∧ (∀ z, z ≠ 54 → h' z = h z) ∧ (∀ x, x ≠ s → h' 54 x = h 54 x) ∧ h' 54 s = nI v' ∧ v' ≤ 1000000 ∧ (v' = 1000000 ∨ ColS (clsh p N) s v') ∧ ∀ t', t' ≠ 0 → t' < 256 → sub t' s → ind (clsh p N) t' → v' ≤ 1 + W (sdf s t') := by
  intro n
  induction n with
  | zero => intro t v h ht; omega
  | succ n ih =>
    intro t v h htn hts hle h54 h55 hv hv6 hcol hall
    rw [f_X7_ringers_39]
    by_cases z : t = 0
    · refine ⟨h, v, ?_, fun _ _ => rfl, fun _ _ => rfl, hv, hv6, hcol, fun t' h1 h2 h3 h4 => hall t' h1 h2 h3 (by omega) h4⟩
      rw [if_pos (by rw [z]; exact Int32.le_refl _), e_add]
    · obtain ⟨o1, o2⟩ := ho t (by omega) hle
      have nx : ((nI t - nI 1) &&& nI s) = nI ((t - 1) &&& s) := by rw [e_sub (by omega), e_and]
      have hnt : (t - 1) &&& s ≤ t - 1 := Nat.and_le_left
      have hns : sub ((t - 1) &&& s) s := fun i hi => by
        rw [bn_and] at hi
        rcases bn01 s i with e | e
        · rw [e, Nat.mul_zero] at hi; omega
        · exact e
      have go : ∀ y, y ≤ 1000000 → (y = 1000000 ∨ ColS (clsh p N) s y) → (ind (clsh p N) t → y ≤ 1 + W (sdf s t)) →
          ∃ h' v', f_X7_ringers_78 F (f_X7_ringers_39 F k13 n) (nI fl) (nI s) (nI t) (nI y) h = k13 (nI fl) (nI (s + 1)) h' ∧ (∀ z, z ≠ 54 → h' z = h z) ∧ (∀ x, x ≠ s → h' 54 x = h 54 x) ∧ h' 54 s = nI v' ∧ v' ≤ 1000000 ∧ (v' = 1000000 ∨ ColS (clsh p N) s v') ∧ ∀ t', t' ≠ 0 → t' < 256 → sub t' s → ind (clsh p N) t' → v' ≤ 1 + W (sdf s t') := by
        intro y hy hyc hyt
        obtain ⟨h', v', f1, f2, f3, f4⟩ := ih ((t - 1) &&& s) (if v ≤ y then v else y) (up h 54 s (nI (if v ≤ y then v else y))) (by omega) hns (by omega) (fun x h1 h2 => by rw [up_n (by omega)]; exact h54 x h1 h2) (fun x h1 h2 => by rw [up_c (by decide)]; exact h55 x h1 h2) up_s (by split <;> omega) (by
          by_cases q : v ≤ y
          · rw [if_pos q]; exact hcol
          · rw [if_neg q]; exact hyc) (fun t' h1 h2 h3 h4 h5 => by
          have hmin : (if v ≤ y then v else y) ≤ v ∧ (if v ≤ y then v else y) ≤ y := by split <;> omega
          by_cases q : t' = t
          · rw [q] at h5 ⊢
            have := hyt h5
            omega
          · have hgt : t < t' := by
              rcases Nat.lt_or_ge t' t with w | w
              · have := sub_next (t + 1) t t' s (by omega) hts h3 w
                omega
              · omega
            have := hall t' h1 h2 h3 hgt h5
            omega)
        refine ⟨h', v', ?_, fun z hz => by rw [f2 z hz, up_c hz], fun x hx => by rw [f3 x hx, up_n hx], f4⟩
        unfold f_X7_ringers_78
        rw [if_pos (inb_t hs (by decide)), e_ix (by omega), hv, i_le (by omega) (by omega), ite_n, nx, f1]
      rw [if_neg (by rw [e_le (by omega) (by decide)]; omega), if_pos (inb_t (by omega) (by decide)), e_ix (by omega), h55 t (by omega) hle, i_eq (by omega) (by decide)]
      by_cases q : o t = 0
      · rw [if_pos q]
        exact go 1000000 (Nat.le_refl _) (Or.inl rfl) (fun hi => by have := o2.mpr hi; omega)
      · have hit : ind (clsh p N) t := o2.mp (by omega)
        rw [if_neg q]
        by_cases y : t = s
        · rw [if_pos (by rw [y])]
          unfold f_X7_ringers_72
          rw [e_add]
          have es : sdf s t = 0 := by rw [y]; exact sdf_self hs
          refine go (1 + 0) (by omega) (Or.inr ?_) (fun _ => by omega)
          have := hW 0 hs0
          rw [hW0] at this
          have h2 := col_up hs hit (by rw [es]; exact this.1)
          exact h2
        · have hlt := sdf_lt hs z hts
          have hne : sdf s t ≠ 0 := fun e => by
            apply y
            apply eq_bits
            intro i
            have e1 := sdf_b (t := t) (i := i) hs
            rw [e, bn_zero] at e1
            by_cases w : bn t i = 1
            · rw [w, hts i w]
            · rw [if_neg w] at e1
              have := bn_lt t i
              omega
          rw [if_neg (by rw [e_eq (by omega) (by omega)]; exact y), sdf_I, if_pos (inb_t (by omega) (by decide)), e_ix (by omega), h54 (sdf s t) (by omega) hlt]
          unfold f_X7_ringers_72
          rw [e_add]
          have h8 := hW8 (sdf s t) hlt
          refine go (1 + W (sdf s t)) (by omega) (Or.inr ?_) (fun _ => Nat.le_refl _)
          have := col_up hs hit (hW (sdf s t) hlt).1
          rw [Nat.add_comm] at this
          exact this
theorem ColS_eight {p : Nat → Nat} {N s : Nat} (hs : s < 256) : ColS (clsh p N) s 8 := by
  refine ⟨fun b => b, fun b hb => ?_, fun b c hb hc hK => hK.1⟩
  rcases Nat.lt_or_ge b 8 with q | q
  · exact q
  · rw [bn_big (n := 8) hs q] at hb; exact absurd hb (by decide)
theorem rg13 {F : Nat} (hF : 600 ≤ F) {N fl : Nat} {p : Nat → Nat} (hN : N ≤ 32) (hfl0 : 0 < fl) (hfl : fl < 256) :
    ∀ (k s n : Nat) (W o : Nat → Nat) (h : HP), s + k = fl + 1 → k < n → 0 < s → h 40 1 = nI N → (∀ r, r < 32 → h 43 (2 + r) = nI (p r) ∧ p r < 256) → W 0 = 0 → (∀ x, x < s → opt (clsh p N) x (W x)) → (∀ x, 0 < x → x < s → h 54 x = nI (W x)) → (∀ x, 0 < x → x < s → h 55 x = nI (o x) ∧ o x ≤ 1 ∧ (o x = 1 ↔ ind (clsh p N) x)) →
      ∃ h' v, f_X7_ringers_13 F n (nI fl) (nI s) h = some (nI v, h') ∧ opt (clsh p N) fl v ∧ ∀ z, z ≠ 54 → z ≠ 55 → h' z = h z := by
  intro k
  induction k with
  | zero =>
    intro s n W o h hs hn hs0 h40 hp hW0 hW h54 h55
    obtain ⟨n, rfl⟩ := succ_of hn
    refine ⟨h, W fl, ?_, hW fl (by omega), fun _ _ _ => rfl⟩
    rw [f_X7_ringers_13, if_pos (by rw [e_lt (by omega) (by omega)]; omega), if_pos (inb_t hfl (by decide)), e_ix (by omega), h54 fl hfl0 (by omega)]
  | succ k ih =>
    intro s n W o h hs hn hs0 h40 hp hW0 hW h54 h55
    obtain ⟨n, rfl⟩ := succ_of hn
    obtain ⟨os, o1, o2, o3⟩ := areOne_n hF (s := s) hN (by omega) h40 hp
    let h1 : HP := up (up h 55 s (nI os)) 54 s (nI 1000000)
    have f1 : ∀ z, z ≠ 54 → z ≠ 55 → h1 z = h z := fun z z1 z2 => by show (up (up h 55 _ _) 54 _ _) z = _; rw [up_c z1, up_c z2]
    have a54 : ∀ x, x ≠ s → h1 54 x = h 54 x := fun x hx => by show (up (up h 55 _ _) 54 _ _) 54 x = _; rw [up_n hx, up_c (by decide)]
    have a55 : ∀ x, h1 55 x = if x = s then nI os else h 55 x := fun x => by
      show (up (up h 55 _ _) 54 _ _) 55 x = _
      rw [up_c (by decide)]
      by_cases z : x = s
      · rw [if_pos z, z, up_s]
      · rw [if_neg z, up_n z]
    have hW8 : ∀ x, x < s → W x ≤ 8 := fun x hx => (hW x hx).2 8 (ColS_eight (by omega))
    obtain ⟨h2, v, b1, b2, b3, b4, b5, b6, b7⟩ := rg39 (F := F) (fl := fl) (p := p) (N := N) (W := W) (o := updN o s os) (k13 := f_X7_ringers_13 F n) hs0 (show s < 256 by omega) hW0 hW hW8 (fun x h1 h2 => by
      unfold updN
      by_cases z : x = s
      · rw [if_pos z, z]; exact ⟨o1, o3⟩
      · rw [if_neg z]; exact (h55 x h1 (by omega)).2) F s 1000000 h1 (by omega) (fun i hi => hi) (Nat.le_refl _) (fun x h1 h2 => by rw [a54 x (by omega)]; exact h54 x h1 h2) (fun x h1 h2 => by
      rw [a55 x]
      unfold updN
      by_cases z : x = s
      · rw [if_pos z, if_pos z]
      · rw [if_neg z, if_neg z]; exact (h55 x h1 (by omega)).1) up_s (Nat.le_refl _) (Or.inl rfl) (fun t' h1 h2 h3 h4 => by
        exfalso
        have e := and_self_sub h3
        have : t' ≤ s := by rw [← e]; exact Nat.and_le_right
        omega)
    have hopt : opt (clsh p N) s v := by
      have hmin : ∀ k, ColS (clsh p N) s k → v ≤ k := fun k hk => by
        obtain ⟨q1, t, q2, q3, q4, q5, q6⟩ := col_down (show s < 256 by omega) (by omega) hk
        have q7 := b7 t q2 q3 q4 q5
        have q8 := (hW (sdf s t) (sdf_lt (by omega) q2 q4)).2 (k - 1) q6
        omega
      have h8 := hmin 8 (ColS_eight (by omega))
      rcases b6 with b6 | b6
      · omega
      · exact ⟨b6, hmin⟩
    obtain ⟨h', v', c1, c2, c3⟩ := ih (s + 1) n (updN W s v) (updN o s os) h2 (by omega) (by omega) (by omega) (by rw [b2 40 (by decide), f1 40 (by decide) (by decide)]; exact h40) (fun r hr => by rw [b2 43 (by decide), f1 43 (by decide) (by decide)]; exact hp r hr) (by unfold updN; rw [if_neg (by omega)]; exact hW0) (fun x hx => by
      unfold updN
      by_cases z : x = s
      · rw [if_pos z, z]; exact hopt
      · rw [if_neg z]; exact hW x (by omega)) (fun x h1 h2 => by
      unfold updN
      by_cases z : x = s
      · rw [if_pos z, z]; exact b4
      · rw [if_neg z, b3 x z, a54 x z]; exact h54 x h1 (by omega)) (fun x h1 h2 => by
      rw [b2 55 (by decide), a55 x]
      unfold updN
      by_cases z : x = s
      · rw [if_pos z, if_pos z, z]; exact ⟨rfl, o1, o3⟩
      · rw [if_neg z, if_neg z]; exact h55 x h1 (by omega))
    refine ⟨h', v', ?_, c2, fun z z1 z2 => by rw [c3 z z1 z2, b2 z z1, f1 z z1 z2]⟩
    rw [f_X7_ringers_13, if_neg (by rw [e_lt (by omega) (by omega)]; omega), o2, ob_eq, if_pos (inb_t (by omega) (by decide)), guard01 (by rcases (show os = 0 ∨ os = 1 by omega) with z | z <;> rw [z] <;> first | exact Or.inl rfl | exact Or.inr rfl), e_ix (by omega), show up (up h 55 s (nI os)) 54 s (nI 1000000) = h1 from rfl, b1, c1]
theorem op_ringers {F c : Nat} (hF : 600 ≤ F) {tw : TW} {h : HP} (i : INV c tw h) : Step (f_X6_ringers F tw) (f_X7_ringers F) c tw h := by
  have i0 := i
  obtain ⟨hK, B, N, R, T, M, ⟨hB1, hB8, hN2, hN32, hR6, hTM⟩, hC, hM, hS, hD, -⟩ := i
  have hKc := hK.c
  have h256 := p2le hB8
  have h1p : 2 ≤ 2 ^ B := by
    have := Nat.pow_le_pow_right (show 0 < 2 by decide) hB1
    exact this
  have hp43 : ∀ r, r < 32 → h 43 (2 + r) = nI (pv h r) ∧ pv h r < 2 ^ B := fun r hr => ⟨(pv_of hB8 hS hr).1, (pv_of hB8 hS hr).2.1⟩
  have hp15 : ∀ r, r < 32 → h 15 r = nI (pv h r) ∧ pv h r < 2 ^ B := fun r hr => by rw [pin_of hD hr]; exact hp43 r hr
  obtain ⟨h1, f, a1, a2, a3, a4, a5⟩ := peopleX_n hF (N := N) hKc hB8 hN32 hC.1 hC.2.1 hp15
  obtain ⟨h2, v, b1, b2, b3⟩ := rg13 hF (fl := 2 ^ B - 1) (N := N) (p := pv h) hN32 (by omega) (by omega) (2 ^ B - 1) 1 F (fun _ => 0) (fun _ => 0) h1 (by omega) (by omega) (by decide) (by rw [a2 40 (by decide) (by decide) (by decide)]; exact hM.2.1) (fun r hr => by rw [a2 43 (by decide) (by decide) (by decide)]; exact ⟨(hp43 r hr).1, by have := (hp43 r hr).2; omega⟩) rfl (fun x hx => by
    rw [show x = 0 by omega]
    exact ⟨⟨fun _ => 0, fun b hb => by rw [bn_zero] at hb; exact absurd hb (by decide), fun b c hb => by rw [bn_zero] at hb; exact absurd hb (by decide)⟩, fun _ _ => Nat.zero_le _⟩) (fun x h1 h2 => by omega) (fun x h1 h2 => by omega)
  have e : ∀ z, z ≠ 36 → z ≠ 37 → z ≠ 38 → z ≠ 54 → z ≠ 55 → h2 z = h z := fun z z1 z2 z3 z4 z5 => by rw [b3 z z4 z5, a2 z z1 z2 z3]
  have hfv : f = v := by
    have u1 : ∃ col, PrC (clsh (pv h) N) B f col := by
      rcases a4 with a4 | a4
      · exact ⟨fun c => c, fun c hc => by rw [a4]; exact hc, fun c c' _ _ hK => hK.1⟩
      · exact a4
    obtain ⟨col, u2, u3⟩ := u1
    have u4 := b2.2 f ⟨col, fun b hb => u2 b ((full_b B b).mp hb), fun b c hb hc hK => u3 b c ((full_b B b).mp hb) ((full_b B c).mp hc) hK⟩
    obtain ⟨⟨col2, w1, w2⟩, _⟩ := b2
    have u5 := a5 v col2 ⟨fun c hc => w1 c ((full_b B c).mpr hc), fun c c' hc hc' hK => w2 c c' ((full_b B c).mpr hc) ((full_b B c').mpr hc') hK⟩
    omega
  refine ⟨nI f, h1, h2, ?_, ?_, (i0.ess ⟨fun k hk => ?_, fun j hj => e _ (by omega) (by omega) (by omega) (by omega) (by omega), by rw [e 0 (by decide) (by decide) (by decide) (by decide) (by decide)], by rw [e 1 (by decide) (by decide) (by decide) (by decide) (by decide)], by rw [e 39 (by decide) (by decide) (by decide) (by decide) (by decide)], by rw [e 39 (by decide) (by decide) (by decide) (by decide) (by decide)], by rw [e 39 (by decide) (by decide) (by decide) (by decide) (by decide)], by rw [e 39 (by decide) (by decide) (by decide) (by decide) (by decide)]⟩).mono (Nat.le_succ c)⟩
  · unfold f_X6_ringers
    rw [a1, ob_eq]
  · unfold f_X7_ringers
    rw [a2 40 (by decide) (by decide) (by decide), hM.1, e_one (by omega), e_sub (by omega), b1, hfv]
  · have : ∀ k, k ∈ essL → k ≠ 36 ∧ k ≠ 37 ∧ k ≠ 38 ∧ k ≠ 54 ∧ k ≠ 55 := by decide
    obtain ⟨q1, q2, q3, q4, q5⟩ := this k hk
    exact e k q1 q2 q3 q4 q5
end
section
/-! ===== the text: what both read ===== -/
def TXX (n : Nat) (t : Nat → Nat) (h : HP) : Prop := n ≤ 200 ∧ h 1 1 = nI n ∧ ∀ j, j < n → h 2 j = nI (t j) ∧ 32 ≤ t j ∧ t j ≤ 126
def TXM (n : Nat) (t : Nat → Nat) (g : HP) : Prop := n ≤ 200 ∧ g 39 10 = nI n ∧ ∀ j, j < n → g 46 j = nI (t j) ∧ 32 ≤ t j ∧ t j ≤ 126
def chr (n : Nat) (t : Nat → Nat) (q : Nat) : Nat := if q < n then t q else 0
def hIr (n : Nat) (t : Nat → Nat) (q : Nat) : Int32 := if q < n then nI (t q) else -1
/-- only the place has changed -/
def PFx (h h' : HP) : Prop := (∀ z, z ≠ 1 → h' z = h z) ∧ ∀ j, j ≠ 2 → h' 1 j = h 1 j
def PFm (g g' : HP) : Prop := (∀ z, z ≠ 39 → g' z = g z) ∧ ∀ j, j ≠ 14 → g' 39 j = g 39 j
theorem PFx.refl (h : HP) : PFx h h := ⟨fun _ _ => rfl, fun _ _ => rfl⟩
theorem PFm.refl (h : HP) : PFm h h := ⟨fun _ _ => rfl, fun _ _ => rfl⟩
theorem PFx.trans {h h' h'' : HP} (a : PFx h h') (b : PFx h' h'') : PFx h h'' := ⟨fun z hz => by rw [b.1 z hz, a.1 z hz], fun j hj => by rw [b.2 j hj, a.2 j hj]⟩
theorem PFm.trans {h h' h'' : HP} (a : PFm h h') (b : PFm h' h'') : PFm h h'' := ⟨fun z hz => by rw [b.1 z hz, a.1 z hz], fun j hj => by rw [b.2 j hj, a.2 j hj]⟩
theorem PFx.up (h : HP) (x : Int32) : PFx h (up h 1 2 x) := ⟨fun z hz => up_c hz, fun j hj => up_n hj⟩
theorem PFm.up (h : HP) (x : Int32) : PFm h (up h 39 14 x) := ⟨fun z hz => up_c hz, fun j hj => up_n hj⟩
theorem TXX.pf {n : Nat} {t : Nat → Nat} {h h' : HP} (x : TXX n t h) (p : PFx h h') : TXX n t h' := by
  unfold TXX
  rw [p.2 1 (by decide), p.1 2 (by decide)]
  exact x
theorem TXM.pf {n : Nat} {t : Nat → Nat} {h h' : HP} (x : TXM n t h) (p : PFm h h') : TXM n t h' := by
  unfold TXM
  rw [p.2 10 (by decide), p.1 46 (by decide)]
  exact x
theorem chr_le {n : Nat} {t : Nat → Nat} {h : HP} (x : TXX n t h) (q : Nat) : chr n t q ≤ 126 := by
  unfold chr
  split
  · exact (x.2.2 q (by assumption)).2.2
  · decide
theorem chr_lt {n : Nat} {t : Nat → Nat} {q : Nat} (h : chr n t q ≠ 0) : q < n := by
  unfold chr at h
  by_cases z : q < n
  · exact z
  · rw [if_neg z] at h; exact absurd rfl h
theorem peek_n (F : Nat) {n : Nat} {t : Nat → Nat} {h : HP} {q : Nat} (x : TXX n t h) (hq : h 1 2 = nI q) (hq2 : q < 1000) : f_X4_peek F h = some (nI (chr n t q), h) := by
  obtain ⟨x1, x2, x3⟩ := x
  unfold f_X4_peek chr
  rw [hq, x2, if_neg (by rw [e_lt (by omega) (by decide)]; omega)]
  by_cases z : q < n
  · rw [if_neg (by rw [e_le (by omega) (by omega)]; omega), if_pos (inb_t (by omega) (by decide)), e_ix (by omega), if_pos z, (x3 q z).1]
  · rw [if_pos (by rw [e_le (by omega) (by omega)]; omega), if_neg z]
theorem here_n (F : Nat) {n : Nat} {t : Nat → Nat} {g : HP} {q : Nat} (x : TXM n t g) (hq : g 39 14 = nI q) (hq2 : q < 1000) : f_X7_here F g = some (hIr n t q, g) := by
  obtain ⟨x1, x2, x3⟩ := x
  unfold f_X7_here hIr
  rw [hq, x2]
  by_cases z : q < n
  · rw [if_neg (by rw [e_le (by omega) (by omega)]; omega), if_pos (inb_t (by omega) (by decide)), e_ix (by omega), if_pos z, (x3 q z).1]
  · rw [if_pos (by rw [e_le (by omega) (by omega)]; omega), if_neg z]
theorem m1_ne {a : Nat} (h : a < 2147483648) : ¬ (-1 : Int32) = nI a := fun e => by
  have := congrArg Int32.toInt e
  rw [nI_toInt (by rw [e31]; exact h)] at this
  have e2 : (-1 : Int32).toInt = -1 := by decide
  omega
theorem hIr_eq {α : Type} {n : Nat} {t : Nat → Nat} {q a : Nat} (ht : ∀ j, j < n → t j ≤ 126) (h1 : 1 ≤ a) (h2 : a < 1000) (x y : α) : (if hIr n t q = nI a then x else y) = if chr n t q = a then x else y := by
  unfold hIr chr
  by_cases z : q < n
  · have := ht q z
    rw [if_pos z, if_pos z]
    exact i_eq (by omega) (by omega) x y
  · rw [if_neg z, if_neg z, if_neg (m1_ne (by omega)), if_neg (by omega)]
theorem hIr_in (F : Nat) {n : Nat} {t : Nat → Nat} {q a b : Nat} (ht : ∀ j, j < n → t j ≤ 126) (h1 : 1 ≤ a) (h2 : a < 1000) (h3 : b < 1000) (g : HP) : f_X7_in F (hIr n t q).toInt64 (lN a) (lN b) g = some (if a ≤ chr n t q ∧ chr n t q ≤ b then nI 1 else nI 0, g) := by
  rw [l64 (show a < 2147483648 by omega), l64 (show b < 2147483648 by omega), in_spec]
  unfold hIr chr
  by_cases z : q < n
  · have := ht q z
    rw [if_pos z, if_pos z]
    by_cases y : a ≤ t q ∧ t q ≤ b
    · rw [if_pos y, if_pos (by rw [e_le (by omega) (by omega), e_le (by omega) (by omega)]; exact y)]
    · rw [if_neg y, if_neg (by rw [e_le (by omega) (by omega), e_le (by omega) (by omega)]; exact y)]
  · rw [if_neg z, if_neg z, if_neg (fun w => m1_nle (by omega) w.1), if_neg (by omega)]
/-- the class: one letter taken -/
theorem accept_n (F : Nat) {n : Nat} {t : Nat → Nat} {h : HP} {q c : Nat} (x : TXX n t h) (hq : h 1 2 = nI q) (hq2 : q < 1000) (hc : c < 1000) : f_X4_accept F (nI c) h = if chr n t q = c then some (nI 1, up h 1 2 (nI (q + 1))) else some (nI 0, h) := by
  have := chr_le x q
  unfold f_X4_accept
  rw [peek_n F x hq hq2, ob_eq, i_eq (by omega) (by omega), hq, e_add]
theorem sub48 {c a : Nat} (hc : c < 1000) (ha : a < 1000) : (nI c - nI a < nI 0) ↔ c < a := by
  constructor
  · intro h
    rcases Nat.lt_or_ge c a with q | q
    · exact q
    · rw [e_sub q, e_lt (by omega) (by decide)] at h; omega
  · intro h
    exact Int32.not_le.mp (nsub_neg h (by omega))
def isd (c : Nat) : Prop := 48 ≤ c ∧ c ≤ 57
theorem figure_n (F : Nat) {n : Nat} {t : Nat → Nat} {h : HP} {q : Nat} (x : TXX n t h) (hq : h 1 2 = nI q) (hq2 : q < 1000) : (isd (chr n t q) ∧ f_X4_readFigure F h = some (nI (chr n t q - 48), up h 1 2 (nI (q + 1)))) ∨ (¬ isd (chr n t q) ∧ f_X4_readFigure F h = some (-1, h)) := by
  have := chr_le x q
  unfold f_X4_readFigure
  rw [peek_n F x hq hq2, ob_eq]
  by_cases z : chr n t q < 48
  · rw [if_pos ((sub48 (by omega) (by decide)).mpr z)]
    exact Or.inr ⟨fun w => by unfold isd at w; omega, rfl⟩
  · rw [if_neg (fun w => z ((sub48 (by omega) (by decide)).mp w)), e_sub (by omega)]
    by_cases y : chr n t q ≤ 57
    · rw [if_pos (by rw [e_le (by omega) (by decide)]; omega), hq, e_add]
      exact Or.inl ⟨⟨by omega, y⟩, rfl⟩
    · rw [if_neg (by rw [e_le (by omega) (by decide)]; omega)]
      exact Or.inr ⟨fun w => y w.2, rfl⟩
/-- a number of one or two figures -/
def num (n : Nat) (t : Nat → Nat) (q v q' : Nat) : Prop := isd (chr n t q) ∧ ¬ isd (chr n t q') ∧ (q' = q + 1 ∧ v = chr n t q - 48 ∨ q' = q + 2 ∧ isd (chr n t (q + 1)) ∧ v = 10 * (chr n t q - 48) + (chr n t (q + 1) - 48))
theorem num_lt {n : Nat} {t : Nat → Nat} {q v q' : Nat} (h : num n t q v q') : v < 100 ∧ q' ≤ n ∧ q < q' ∧ q' ≤ q + 2 := by
  obtain ⟨h1, h2, h3⟩ := h
  have := chr_lt (n := n) (t := t) (q := q) (by unfold isd at h1; omega)
  rcases h3 with ⟨e1, e2⟩ | ⟨e1, e2, e3⟩
  · unfold isd at h1; omega
  · have := chr_lt (n := n) (t := t) (q := q + 1) (by unfold isd at e2; omega)
    unfold isd at h1 e2; omega
theorem number_n (F : Nat) {n : Nat} {t : Nat → Nat} {h : HP} {q : Nat} (x : TXX n t h) (hq : h 1 2 = nI q) (hq2 : q < 900) : ∃ r h' q', f_X4_readNumber F h = some (r, h') ∧ h' 1 2 = nI q' ∧ PFx h h' ∧ q' ≤ q + 2 ∧ ((∃ v, num n t q v q' ∧ r = nI v) ∨ (r = -1 ∧ ∀ v q2, ¬ num n t q v q2) ∨ (isd (chr n t q') ∧ ∀ v q2, ¬ num n t q v q2)) := by
  unfold f_X4_readNumber
  rcases figure_n F x hq (by omega) with ⟨d, e⟩ | ⟨d, e⟩
  · have hd := d
    unfold isd at hd
    rw [e, ob_eq, if_pos (by rw [e_le (by decide) (by omega)]; omega)]
    have p1 := PFx.up h (nI (q + 1))
    have x1 := x.pf p1
    have hq1 : (up h 1 2 (nI (q + 1))) 1 2 = nI (q + 1) := up_s
    rcases figure_n F x1 hq1 (by omega) with ⟨d2, e2⟩ | ⟨d2, e2⟩
    · have hd2 := d2
      unfold isd at hd2
      rw [e2, ob_eq, if_pos (by rw [e_le (by decide) (by omega)]; omega), e_mul, e_add]
      refine ⟨_, _, q + 2, rfl, up_s, p1.trans (PFx.up _ _), Nat.le_refl _, ?_⟩
      by_cases d3 : isd (chr n t (q + 2))
      · refine Or.inr (Or.inr ⟨d3, fun v q2 hn => ?_⟩)
        obtain ⟨n1, n2, n3⟩ := hn
        rcases n3 with ⟨n4, _⟩ | ⟨n4, _⟩
        · rw [n4] at n2; exact n2 d2
        · rw [n4] at n2; exact n2 d3
      · refine Or.inl ⟨10 * (chr n t q - 48) + (chr n t (q + 1) - 48), ⟨d, d3, Or.inr ⟨rfl, d2, rfl⟩⟩, ?_⟩
        congr 1; omega
    · rw [e2, ob_eq, if_neg (by decide)]
      exact ⟨_, _, q + 1, rfl, up_s, p1, by omega, Or.inl ⟨chr n t q - 48, ⟨d, d2, Or.inl ⟨rfl, rfl⟩⟩, rfl⟩⟩
  · rw [e, ob_eq, if_neg (by decide)]
    exact ⟨_, _, q, rfl, hq, PFx.refl _, by omega, Or.inr (Or.inl ⟨rfl, fun v q2 hn => d hn.1⟩)⟩
end
section
/-! ===== the text: the reference's numbers ===== -/
def PFt (g g' : HP) : Prop := (∀ z, z ≠ 39 → z ≠ 49 → g' z = g z) ∧ ∀ j, j ≠ 14 → g' 39 j = g 39 j
theorem PFm.t {g g' : HP} (p : PFm g g') : PFt g g' := ⟨fun z h1 _ => p.1 z h1, p.2⟩
theorem PFt.refl (g : HP) : PFt g g := ⟨fun _ _ _ => rfl, fun _ _ => rfl⟩
theorem PFt.trans {h h' h'' : HP} (a : PFt h h') (b : PFt h' h'') : PFt h h'' := ⟨fun z hz hz2 => by rw [b.1 z hz hz2, a.1 z hz hz2], fun j hj => by rw [b.2 j hj, a.2 j hj]⟩
theorem TXM.pt {n : Nat} {t : Nat → Nat} {h h' : HP} (x : TXM n t h) (p : PFt h h') : TXM n t h' := by
  unfold TXM
  rw [p.2 10 (by decide), p.1 46 (by decide) (by decide)]
  exact x
theorem TXM.tb {n : Nat} {t : Nat → Nat} {h : HP} (x : TXM n t h) : ∀ j, j < n → t j ≤ 126 := fun j hj => (x.2.2 j hj).2.2
theorem n1n0 : ¬ nI 1 = nI 0 := by decide
theorem tk_step {F : Nat} {n : Nat} {t : Nat → Nat} {X k c q m : Nat} {x3 : Int32} {k2 : Int32 → HP → Option (Int32 × HP)} {g : HP} (x : TXM n t g) (hq : g 39 14 = nI q) (hq2 : q < 900) (hc : c < 900) (hX1 : 1 ≤ X) (hX : X ≤ 2) (hk : k < X) :
    f_X7_takes_12 F (nI X) k2 (m + 1) (nI k) x3 (nI c) g = if 48 ≤ chr n t q ∧ chr n t q ≤ 57 then f_X7_takes_12 F (nI X) k2 m (nI k) (if 2 ≤ c then x3 else nI 10 * x3 + nI (chr n t q) - nI 48) (nI (c + 1)) (up g 39 14 (nI (q + 1))) else if (1 ≤ c ∧ c ≤ 2) ∧ chr n t q = (if X - 1 ≤ k then 59 else 44) then k2 (nI (k + 1)) (up (up g 49 k x3) 39 14 (nI (q + 1))) else some (nI 0, g) := by
  have tb := x.tb
  have sep : (if (nI X - nI 1) ≤ nI k then (nI 59) else (nI 44)) = nI (if X - 1 ≤ k then 59 else 44) := by rw [e_sub hX1, i_le (by omega) (by omega), ite_n]
  rw [f_X7_takes_12, here_n F x hq (by omega), ob_eq, hIr_in F tb (by decide) (by decide) (by decide), ob_eq]
  by_cases d : 48 ≤ chr n t q ∧ chr n t q ≤ 57
  · rw [if_pos d, if_neg n1n0, if_pos d, hq, e_add, e_add]
    by_cases z : 2 ≤ c
    · rw [if_pos (by rw [e_le (by decide) (by omega)]; exact z), if_pos z]
    · have hlt : q < n := chr_lt (t := t) (by omega)
      rw [if_neg (by rw [e_le (by decide) (by omega)]; exact z), if_neg z, here_n F x hq (by omega), ob_eq, hq, e_add]
      have : hIr n t q = nI (chr n t q) := by unfold hIr chr; rw [if_pos hlt, if_pos hlt]
      rw [this]
  · rw [if_neg d, if_pos rfl, if_neg d, l64 (show 1 < 2147483648 by decide), l64 (show 2 < 2147483648 by decide), in_spec, ob_eq]
    by_cases z : 1 ≤ c ∧ c ≤ 2
    · rw [if_pos (show nI 1 ≤ nI c ∧ nI c ≤ nI 2 by rw [e_le (by decide) (by omega), e_le (by omega) (by decide)]; exact z), if_neg n1n0, here_n F x hq (by omega), ob_eq, sep, hIr_eq tb (by split <;> decide) (by split <;> decide)]
      by_cases y : chr n t q = (if X - 1 ≤ k then 59 else 44)
      · rw [if_pos y, if_pos (inb_t (show k < 2 by omega) (by decide)), if_pos (show (1 ≤ c ∧ c ≤ 2) ∧ chr n t q = (if X - 1 ≤ k then 59 else 44) from ⟨z, y⟩), e_ix (by omega), e_add, up_c (show 39 ≠ 49 by decide), hq, e_add]
      · rw [if_neg y, if_neg (fun w => y w.2)]
    · rw [if_neg (show ¬ (nI 1 ≤ nI c ∧ nI c ≤ nI 2) by rw [e_le (by decide) (by omega), e_le (by omega) (by decide)]; exact z), if_pos rfl, if_neg (fun w => z w.1)]
theorem tk_no {F : Nat} {n : Nat} {t : Nat → Nat} {X k : Nat} {k2 : Int32 → HP → Option (Int32 × HP)} (hX1 : 1 ≤ X) (hX : X ≤ 2) (hk : k < X) :
    ∀ (r q c m : Nat) (x3 : Int32) (g : HP), q + r = n + 1 → r < m → 3 ≤ c → c + r < 900 → TXM n t g → g 39 14 = nI q → ∃ g', f_X7_takes_12 F (nI X) k2 m (nI k) x3 (nI c) g = some (nI 0, g') ∧ PFm g g' := by
  intro r
  induction r with
  | zero =>
    intro q c m x3 g hr hm hc hc2 x hq
    obtain ⟨m, rfl⟩ := succ_of hm
    have := x.1
    have z : chr n t q = 0 := by unfold chr; rw [if_neg (by omega)]
    refine ⟨g, ?_, PFm.refl _⟩
    rw [tk_step x hq (by omega) (by omega) hX1 hX hk, if_neg (by omega), if_neg (by omega)]
  | succ r ih =>
    intro q c m x3 g hr hm hc hc2 x hq
    obtain ⟨m, rfl⟩ := succ_of hm
    have := x.1
    rw [tk_step x hq (by omega) (by omega) hX1 hX hk]
    by_cases d : 48 ≤ chr n t q ∧ chr n t q ≤ 57
    · rw [if_pos d]
      have p := PFm.up g (nI (q + 1))
      obtain ⟨g', e, pf⟩ := ih (q + 1) (c + 1) m _ (up g 39 14 (nI (q + 1))) (by omega) (by omega) (by omega) (by omega) (x.pf p) up_s
      exact ⟨g', e, p.trans pf⟩
    · rw [if_neg d, if_neg (by omega)]
      exact ⟨g, rfl, PFm.refl _⟩
theorem take_num {F : Nat} (hF : 600 ≤ F) {n : Nat} {t : Nat → Nat} {X k q sp : Nat} {k2 : Int32 → HP → Option (Int32 × HP)} {g : HP} (hsp : sp = if X - 1 ≤ k then 59 else 44) (hX1 : 1 ≤ X) (hX : X ≤ 2) (hk : k < X) (x : TXM n t g) (hq : g 39 14 = nI q) (hqn : q ≤ n) :
    (∃ v q' g', num n t q v q' ∧ chr n t q' = sp ∧ f_X7_takes_12 F (nI X) k2 F (nI k) (nI 0) (nI 0) g = k2 (nI (k + 1)) g' ∧ g' 49 k = nI v ∧ (∀ j, j ≠ k → g' 49 j = g 49 j) ∧ g' 39 14 = nI (q' + 1) ∧ PFt g g') ∨ ((∀ v q', ¬ (num n t q v q' ∧ chr n t q' = sp)) ∧ ∃ g', f_X7_takes_12 F (nI X) k2 F (nI k) (nI 0) (nI 0) g = some (nI 0, g') ∧ PFt g g') := by
  obtain ⟨m, rfl⟩ : ∃ m, F = m + 3 := ⟨F - 3, by omega⟩
  have hn := x.1
  have fin : ∀ (v q' : Nat) (g1 : HP), PFm g g1 → (up (up g1 49 k (nI v)) 39 14 (nI (q' + 1))) 49 k = nI v ∧ (∀ j, j ≠ k → (up (up g1 49 k (nI v)) 39 14 (nI (q' + 1))) 49 j = g 49 j) ∧ (up (up g1 49 k (nI v)) 39 14 (nI (q' + 1))) 39 14 = nI (q' + 1) ∧ PFt g (up (up g1 49 k (nI v)) 39 14 (nI (q' + 1))) := fun v q' g1 p =>
    ⟨by rw [up_c (by decide), up_s], fun j hj => by rw [up_c (by decide), up_n hj, p.1 49 (by decide)], up_s, fun z h1 h2 => by rw [up_c h1, up_c h2, p.1 z h1], fun j hj => by rw [up_n hj, up_c (by decide), p.2 j hj]⟩
  rw [tk_step x hq (by omega) (by omega) hX1 hX hk, ← hsp]
  by_cases d : 48 ≤ chr n t q ∧ chr n t q ≤ 57
  · have hqn1 : q < n := chr_lt (t := t) (by omega)
    have p1 := PFm.up g (nI (q + 1))
    rw [if_pos d, if_neg (show ¬ 2 ≤ 0 by decide), e_mul, e_add, e_sub (by omega), show 10 * 0 + chr n t q - 48 = chr n t q - 48 by omega, tk_step (x.pf p1) up_s (by omega) (by omega) hX1 hX hk, ← hsp]
    by_cases d2 : 48 ≤ chr n t (q + 1) ∧ chr n t (q + 1) ≤ 57
    · have hqn2 : q + 1 < n := chr_lt (t := t) (by omega)
      have p2 := p1.trans (PFm.up (up g 39 14 (nI (q + 1))) (nI (q + 1 + 1)))
      rw [if_pos d2, if_neg (show ¬ 2 ≤ 0 + 1 by decide), e_mul, e_add, e_sub (by omega), tk_step (x.pf p2) up_s (by omega) (by omega) hX1 hX hk, ← hsp]
      by_cases d3 : 48 ≤ chr n t (q + 1 + 1) ∧ chr n t (q + 1 + 1) ≤ 57
      · have p3 := p2.trans (PFm.up (up (up g 39 14 (nI (q + 1))) 39 14 (nI (q + 1 + 1))) (nI (q + 1 + 1 + 1)))
        have hqn3 : q + 1 + 1 < n := chr_lt (t := t) (by omega)
        rw [if_pos d3]
        obtain ⟨g', e, pf⟩ := tk_no (F := m + 3) (k2 := k2) hX1 hX hk (n + 1 - (q + 1 + 1 + 1)) (q + 1 + 1 + 1) 3 m (if 2 ≤ 0 + 1 + 1 then nI (10 * (chr n t q - 48) + chr n t (q + 1) - 48) else nI 10 * nI (10 * (chr n t q - 48) + chr n t (q + 1) - 48) + nI (chr n t (q + 1 + 1)) - nI 48) (up (up (up g 39 14 (nI (q + 1))) 39 14 (nI (q + 1 + 1))) 39 14 (nI (q + 1 + 1 + 1))) (by omega) (by omega) (by omega) (by omega) (x.pf p3) up_s
        refine Or.inr ⟨fun v q' w => ?_, g', e, (p3.trans pf).t⟩
        obtain ⟨⟨w1, w2, w3⟩, _⟩ := w
        rcases w3 with ⟨w4, _⟩ | ⟨w4, _⟩
        · rw [w4] at w2; exact w2 d2
        · rw [w4] at w2; exact w2 d3
      · rw [if_neg d3]
        by_cases y : chr n t (q + 1 + 1) = sp
        · rw [if_pos (show (1 ≤ 0 + 1 + 1 ∧ 0 + 1 + 1 ≤ 2) ∧ chr n t (q + 1 + 1) = sp from ⟨by omega, y⟩)]
          obtain ⟨a1, a2, a3, a4⟩ := fin (10 * (chr n t q - 48) + chr n t (q + 1) - 48) (q + 1 + 1) _ p2
          exact Or.inl ⟨_, q + 1 + 1, _, ⟨d, d3, Or.inr ⟨rfl, d2, by omega⟩⟩, y, rfl, a1, a2, a3, a4⟩
        · rw [if_neg (fun w => y w.2)]
          refine Or.inr ⟨fun v q' w => ?_, _, rfl, p2.t⟩
          obtain ⟨⟨w1, w2, w3⟩, w5⟩ := w
          rcases w3 with ⟨w4, _⟩ | ⟨w4, _⟩
          · rw [w4] at w2; exact w2 d2
          · rw [w4] at w5; exact y w5
    · rw [if_neg d2]
      by_cases y : chr n t (q + 1) = sp
      · rw [if_pos (show (1 ≤ 0 + 1 ∧ 0 + 1 ≤ 2) ∧ chr n t (q + 1) = sp from ⟨by omega, y⟩)]
        obtain ⟨a1, a2, a3, a4⟩ := fin (chr n t q - 48) (q + 1) _ p1
        exact Or.inl ⟨_, q + 1, _, ⟨d, d2, Or.inl ⟨rfl, rfl⟩⟩, y, rfl, a1, a2, a3, a4⟩
      · rw [if_neg (fun w => y w.2)]
        refine Or.inr ⟨fun v q' w => ?_, _, rfl, p1.t⟩
        obtain ⟨⟨w1, w2, w3⟩, w5⟩ := w
        rcases w3 with ⟨w4, _⟩ | ⟨w4, w6, _⟩
        · rw [w4] at w5; exact y w5
        · exact d2 w6
  · rw [if_neg d, if_neg (fun w => absurd w.1.1 (by decide))]
    exact Or.inr ⟨fun v q' w => d w.1.1, g, rfl, PFt.refl _⟩
end
section
/-! ===== the text: what is told so far ===== -/
/-- bells, rows, rest, tones, hammers, is there a tune, its rows, the sets -/
abbrev PSt : Type := Nat × Nat × Nat × (Nat → Nat) × (Nat → Nat) × Nat × Nat × (Nat → Nat)
def XSt (d : Nat) (h : HP) (s : PSt) : Prop := h d 0 = nI s.1 ∧ h d 4 = nI s.2.1 ∧ h d 5 = nI s.2.2.1 ∧ (∀ b, b < s.1 → h (d + 1) b = nI (s.2.2.2.1 b) ∧ h (d + 2) b = nI (s.2.2.2.2.1 b) ∧ h (d + 3) b = nI (illm s.1 s.2.2.2.1 b)) ∧ h d 6 = nI s.2.2.2.2.2.1 ∧ h d 7 = nI s.2.2.2.2.2.2.1 ∧ ∀ r, r < s.2.2.2.2.2.2.1 → h (d + 4) r = nI (s.2.2.2.2.2.2.2 r)
def MSt (g : HP) (s : PSt) : Prop := g 41 0 = nI s.1 ∧ g 41 1 = nI s.2.1 ∧ g 41 2 = nI s.2.2.1 ∧ (∀ b, b < s.1 → g 41 (3 + b) = nI (s.2.2.2.1 b) ∧ g 41 (11 + b) = nI (s.2.2.2.2.1 b)) ∧ g 39 15 = nI s.2.2.2.2.2.1 ∧ g 39 3 = nI s.2.2.2.2.2.2.1 ∧ ∀ r, r < s.2.2.2.2.2.2.1 → g 42 r = nI (s.2.2.2.2.2.2.2 r)
def POK (s : PSt) : Prop := s.1 ≤ 8 ∧ 2 ≤ s.2.1 ∧ s.2.1 ≤ 32 ∧ s.2.2.1 ≤ 6 ∧ (∀ b, b < s.1 → s.2.2.2.1 b ≤ 40 ∧ 1 ≤ s.2.2.2.2.1 b ∧ s.2.2.2.2.1 b ≤ 2) ∧ s.2.2.2.2.2.1 ≤ 1 ∧ s.2.2.2.2.2.2.1 ≤ 32 ∧ ∀ r, r < s.2.2.2.2.2.2.1 → s.2.2.2.2.2.2.2 r < 2 ^ s.1
def FXt (d : Nat) (h h' : HP) : Prop := (∀ z, z ≠ 1 → z ≠ 3 → (z < d ∨ d + 4 < z) → h' z = h z) ∧ ∀ j, j ≠ 2 → h' 1 j = h 1 j
def FMt (g g' : HP) : Prop := (∀ z, z ≠ 39 → z ≠ 41 → z ≠ 42 → z ≠ 49 → z ≠ 50 → g' z = g z) ∧ ∀ j, j ≠ 3 → j ≠ 14 → j ≠ 15 → g' 39 j = g 39 j
theorem FXt.refl (d : Nat) (h : HP) : FXt d h h := ⟨fun _ _ _ _ => rfl, fun _ _ => rfl⟩
theorem FMt.refl (h : HP) : FMt h h := ⟨fun _ _ _ _ _ _ => rfl, fun _ _ _ _ => rfl⟩
theorem FXt.trans {d : Nat} {h h' h'' : HP} (a : FXt d h h') (b : FXt d h' h'') : FXt d h h'' := ⟨fun z h1 h2 h3 => by rw [b.1 z h1 h2 h3, a.1 z h1 h2 h3], fun j hj => by rw [b.2 j hj, a.2 j hj]⟩
theorem FMt.trans {h h' h'' : HP} (a : FMt h h') (b : FMt h' h'') : FMt h h'' := ⟨fun z h1 h2 h3 h4 h5 => by rw [b.1 z h1 h2 h3 h4 h5, a.1 z h1 h2 h3 h4 h5], fun j h1 h2 h3 => by rw [b.2 j h1 h2 h3, a.2 j h1 h2 h3]⟩
theorem PFx.f {h h' : HP} (d : Nat) (p : PFx h h') : FXt d h h' := ⟨fun z h1 _ _ => p.1 z h1, p.2⟩
theorem PFm.f {h h' : HP} (p : PFm h h') : FMt h h' := ⟨fun z h1 _ _ _ _ => p.1 z h1, fun j _ h2 _ => p.2 j h2⟩
theorem PFt.f {h h' : HP} (p : PFt h h') : FMt h h' := ⟨fun z h1 _ _ h4 _ => p.1 z h1 h4, fun j _ h2 _ => p.2 j h2⟩
def TDc (d : Nat) : Prop := d = 4 ∨ d = 9
theorem TXX.f {n d : Nat} {t : Nat → Nat} {h h' : HP} (hd : TDc d) (x : TXX n t h) (p : FXt d h h') : TXX n t h' := by
  unfold TXX
  unfold TDc at hd
  rw [p.2 1 (by decide), p.1 2 (by decide) (by decide) (by omega)]
  exact x
theorem TXM.f {n : Nat} {t : Nat → Nat} {h h' : HP} (x : TXM n t h) (p : FMt h h') : TXM n t h' := by
  unfold TXM
  rw [p.2 10 (by decide) (by decide) (by decide), p.1 46 (by decide) (by decide) (by decide) (by decide) (by decide)]
  exact x
theorem XSt.pf {d : Nat} {h h' : HP} {s : PSt} (hd : TDc d) (x : XSt d h s) (p : PFx h h') : XSt d h' s := by
  unfold TDc at hd
  unfold XSt
  rw [p.1 d (by omega), p.1 (d + 1) (by omega), p.1 (d + 2) (by omega), p.1 (d + 3) (by omega), p.1 (d + 4) (by omega)]
  exact x
theorem MSt.pt {h h' : HP} {s : PSt} (x : MSt h s) (p : PFt h h') : MSt h' s := by
  unfold MSt
  rw [p.1 41 (by decide) (by decide), p.1 42 (by decide) (by decide), p.2 15 (by decide), p.2 3 (by decide)]
  exact x
theorem MSt.pf {h h' : HP} {s : PSt} (x : MSt h s) (p : PFm h h') : MSt h' s := x.pt p.t
/-! a bell comes -/
theorem ill_bits : ∀ x, x < 12 → bn 3142 x = if x = 1 ∨ x = 2 ∨ x = 6 ∨ x = 10 ∨ x = 11 then 1 else 0 := by decide +kernel
theorem ill_test (a b : Nat) : (bn 3142 ((if a ≤ b then b - a else a - b) % 12) = 1) = (ill b a = true) := by
  have e : (if a ≤ b then b - a else a - b) % 12 = tdif b a := by
    rw [tdif_symm]
    rfl
  have hlt : tdif b a < 12 := Nat.mod_lt _ (by decide)
  rw [e, ill_bits _ hlt]
  unfold ill
  apply propext
  simp only [Bool.or_eq_true, beq_iff_eq]
  by_cases z : tdif b a = 1 ∨ tdif b a = 2 ∨ tdif b a = 6 ∨ tdif b a = 10 ∨ tdif b a = 11
  · rw [if_pos z]; omega
  · rw [if_neg z]; omega
def ilv (v : Nat) (T : Nat → Nat) (c : Nat) : Nat := sg (fun c => if ill v (T c) then 2 ^ c else 0) 0 c
theorem ilv_lt (v : Nat) (T : Nat → Nat) : ∀ c, ilv v T c < 2 ^ c := by
  intro c
  induction c with
  | zero => exact Nat.zero_lt_one
  | succ c ih =>
    have e : ilv v T (c + 1) = ilv v T c + (if ill v (T c) then 2 ^ c else 0) := by
      have := sg_last (fun c => if ill v (T c) then 2 ^ c else 0) c 0
      rw [Nat.zero_add] at this
      exact this
    rw [e, Nat.pow_succ]
    split <;> omega
theorem ilv_succ (v : Nat) (T : Nat → Nat) (c : Nat) : ilv v T (c + 1) = ilv v T c + (if ill v (T c) then 2 ^ c else 0) := by
  have := sg_last (fun c => if ill v (T c) then 2 ^ c else 0) c 0
  rw [Nat.zero_add] at this
  exact this
theorem illm_ilv (B : Nat) (T : Nat → Nat) (b : Nat) : illm B T b = ilv (T b) T B := rfl
theorem or_pow {a c : Nat} (h : a < 2 ^ c) : a ||| 2 ^ c = a + 2 ^ c := by
  have := Nat.two_pow_add_eq_or_of_lt h 1
  rw [Nat.mul_one] at this
  rw [Nat.or_comm, ← this, Nat.add_comm]
theorem ilv_congr {v : Nat} {T T' : Nat → Nat} : ∀ {c : Nat}, (∀ j, j < c → T j = T' j) → ilv v T c = ilv v T' c := fun {c} h => sg_congr (fun j _ hj => by rw [h j (by omega)])
theorem bell63 {F : Nat} {d B v : Nat} {x2 : Int32} {T : Nat → Nat} (hB : B < 8) (hv : v ≤ 40) (hT : ∀ b, b < B → T b ≤ 40) :
    ∀ (k c m : Nat) (h : HP), c + k = B → k < m → h d 0 = nI B → (∀ b, b < B → h (d + 1) b = nI (T b)) → (∀ b, b < c → h (d + 3) b = nI (illm B T b + (if ill (T b) v then 2 ^ B else 0))) → (∀ b, c ≤ b → b < B → h (d + 3) b = nI (illm B T b)) → h (d + 3) B = nI (ilv v T c) →
      ∃ h', f_X5_addBell_63 F d (nI v) x2 m (nI c) h = some (nI 1, h') ∧ h' d 0 = nI (B + 1) ∧ (∀ j, j ≠ 0 → h' d j = h d j) ∧ (∀ b, b < B → h' (d + 3) b = nI (illm B T b + (if ill (T b) v then 2 ^ B else 0))) ∧ h' (d + 3) B = nI (ilv v T B) ∧ ∀ z, z ≠ d → z ≠ d + 3 → h' z = h z := by
  have h2B : 2 ^ B < 2 ^ 8 := Nat.pow_lt_pow_right (by decide) hB
  intro k
  induction k with
  | zero =>
    intro c m h hc hm h0 hT1 hI1 hI2 hI3
    obtain ⟨m, rfl⟩ := succ_of hm
    have hcB : c = B := by omega
    subst hcB
    refine ⟨up h d 0 (nI (c + 1)), ?_, up_s, fun j hj => up_n hj, fun b hb => by rw [up_c (by omega)]; exact hI1 b hb, by rw [up_c (by omega)]; exact hI3, fun z h1 _ => up_c h1⟩
    rw [f_X5_addBell_63, h0, if_pos (by rw [e_le (by omega) (by omega)]; omega), e_add]
  | succ k ih =>
    intro c m h hc hm h0 hT1 hI1 hI2 hI3
    obtain ⟨m, rfl⟩ := succ_of hm
    have hTc := hT c (by omega)
    have hlt : (if v ≤ T c then T c - v else v - T c) % 12 < 12 := Nat.mod_lt _ (by decide)
    have hab : (if v ≤ T c then T c - v else v - T c) ≤ 40 := by split <;> omega
    have hic : ilv v T c < 2 ^ c := ilv_lt v T c
    have hilm : illm B T c < 2 ^ B := by rw [illm_ilv]; exact ilv_lt _ _ _
    have h2c : 2 ^ c < 2 ^ B := Nat.pow_lt_pow_right (by decide) (by omega)
    have hbn := bn_lt 3142 ((if v ≤ T c then T c - v else v - T c) % 12)
    rw [f_X5_addBell_63, h0, if_neg (by rw [e_le (by omega) (by omega)]; omega), if_pos (inb_t (show c < 8 by omega) (by decide)), e_ix (by omega), hT1 c (by omega), abs_n F (by omega) (by omega), ob_eq, jrem_n (by omega) (by decide) (by decide), e_bit (by decide) (by omega), i_eq (by omega) (by decide), h0, e_one (by omega), e_one (by omega), hI2 c (Nat.le_refl _) (by omega), up_c (show d ≠ d + 3 by omega), h0, e_add, e_or]
    by_cases z : ill (T c) v = true
    · rw [if_pos (by rw [ill_test]; exact z), if_pos (inb_t hB (by decide)), e_ix (by omega), up_n (show B ≠ c by omega), hI3, e_or, or_pow hic, or_pow hilm]
      obtain ⟨h', f1, f2, f3, f4, f5, f6⟩ := ih (c + 1) m (up (up h (d + 3) c (nI (illm B T c + 2 ^ B))) (d + 3) B (nI (ilv v T c + 2 ^ c))) (by omega) (by omega) (by rw [up_c (by omega), up_c (by omega)]; exact h0) (fun b hb => by rw [up_c (by omega), up_c (by omega)]; exact hT1 b hb) (fun b hb => by
        rw [up_n (by omega)]
        by_cases y : b = c
        · rw [y, up_s, if_pos z]
        · rw [up_n y]; exact hI1 b (by omega)) (fun b h1 h2 => by rw [up_n (by omega), up_n (by omega)]; exact hI2 b (by omega) h2) (by rw [up_s, ilv_succ, if_pos (by rw [ill_symm]; exact z)])
      exact ⟨h', f1, f2, fun j hj => by rw [f3 j hj, up_c (by omega), up_c (by omega)], f4, f5, fun q h1 h2 => by rw [f6 q h1 h2, up_c h2, up_c h2]⟩
    · rw [if_neg (by rw [ill_test]; exact z)]
      exact ih (c + 1) m h (by omega) (by omega) h0 hT1 (fun b hb => by
        by_cases y : b = c
        · rw [y, if_neg z, Nat.add_zero]; exact hI2 c (Nat.le_refl _) (by omega)
        · exact hI1 b (by omega)) (fun b h1 h2 => hI2 b (by omega) h2) (by rw [ilv_succ, if_neg (by rw [ill_symm]; exact z), Nat.add_zero]; exact hI3)
theorem addBell_no (F : Nat) {d B : Nat} {x1 x2 : Int32} {h : HP} (h0 : h d 0 = nI B) (hB : B ≤ 8) (hb : ¬ (B < 8 ∧ nI 0 ≤ x1 ∧ x1 ≤ nI 40 ∧ nI 1 ≤ x2 ∧ x2 ≤ nI 2)) : f_X5_addBell F d x1 x2 h = some (nI 0, h) := by
  unfold f_X5_addBell
  rw [h0]
  by_cases g0 : B < 8
  · rw [if_neg (by rw [e_le (by decide) (by omega)]; omega)]
    by_cases g1 : nI 0 ≤ x1
    · rw [if_neg (Int32.not_lt.mpr g1)]
      by_cases g2 : x1 ≤ nI 40
      · rw [if_neg (Int32.not_lt.mpr g2)]
        by_cases g3 : nI 1 ≤ x2
        · rw [if_neg (Int32.not_lt.mpr g3), if_neg (fun g4 => hb ⟨g0, g1, g2, g3, g4⟩)]
        · rw [if_pos (Int32.not_le.mp g3)]
      · rw [if_pos (Int32.not_le.mp g2)]
    · rw [if_pos (Int32.not_le.mp g1)]
  · rw [if_pos (by rw [e_le (by decide) (by omega)]; omega)]
theorem addBell_n {F : Nat} (hF : 600 ≤ F) {d v w : Nat} {h : HP} {s : PSt} (x : XSt d h s) (hP : POK s) (hB : s.1 < 8) (hv : v ≤ 40) (hw1 : 1 ≤ w) (hw : w ≤ 2) :
    ∃ h', f_X5_addBell F d (nI v) (nI w) h = some (nI 1, h') ∧ XSt d h' (s.1 + 1, s.2.1, s.2.2.1, updN s.2.2.2.1 s.1 v, updN s.2.2.2.2.1 s.1 w, s.2.2.2.2.2) ∧ ∀ z, z < d ∨ d + 3 < z → h' z = h z := by
  obtain ⟨B, N, R, T, M, ht, K, ws⟩ := s
  obtain ⟨x0, x4, x5, xb, x6, x7, xr⟩ := x
  obtain ⟨p0, p1, p2, p3, p4, p5⟩ := hP
  dsimp only at x0 x4 x5 xb x6 x7 xr p0 p1 p2 p3 p4 p5 hB ⊢
  let h1 : HP := up h (d + 1) B (nI v)
  let h2 : HP := up h1 (d + 2) B (nI w)
  let h3 : HP := up h2 (d + 3) B (nI 0)
  have f1 : ∀ z, z ≠ d + 1 → h1 z = h z := fun z hz => up_c hz
  have f2 : ∀ z, z ≠ d + 2 → h2 z = h1 z := fun z hz => up_c hz
  have f3 : ∀ z, z ≠ d + 3 → h3 z = h2 z := fun z hz => up_c hz
  have e1 : h1 d 0 = nI B := by rw [f1 d (by omega)]; exact x0
  have e2 : h2 d 0 = nI B := by rw [f2 d (by omega)]; exact e1
  have e3 : h3 d = h d := by rw [f3 d (by omega), f2 d (by omega), f1 d (by omega)]
  obtain ⟨h', a1, a2, a3, a4, a5, a6⟩ := bell63 (F := F) (d := d) (x2 := nI w) (T := T) hB hv (fun b hb => (p4 b hb).1) B 0 F h3 (by omega) (by omega) (by rw [e3]; exact x0) (fun b hb => by
    rw [f3 (d + 1) (by omega), f2 (d + 1) (by omega)]
    show (up h (d + 1) B _) (d + 1) b = _
    rw [up_n (by omega)]; exact (xb b hb).1) (fun b hb => by omega) (fun b _ hb => by
    show (up h2 (d + 3) B _) (d + 3) b = _
    rw [up_n (by omega), f2 (d + 3) (by omega), f1 (d + 3) (by omega)]; exact (xb b hb).2.2) up_s
  refine ⟨h', ?_, ⟨a2, ?_, ?_, fun b hb => ⟨?_, ?_, ?_⟩, ?_, ?_, fun r hr => ?_⟩, fun z hz => ?_⟩
  · unfold f_X5_addBell
    rw [x0, if_neg (by rw [e_le (by decide) (by omega)]; omega), if_neg (by rw [e_lt (by omega) (by decide)]; omega), if_neg (by rw [e_lt (by decide) (by omega)]; omega), if_neg (by rw [e_lt (by omega) (by decide)]; omega), if_pos (by rw [e_le (by omega) (by decide)]; omega), if_pos (inb_t hB (by decide)), e_ix (by omega), show up h (d + 1) B (nI v) = h1 from rfl, e1, if_pos (inb_t hB (by decide)), e_ix (by omega), show up h1 (d + 2) B (nI w) = h2 from rfl, e2, if_pos (inb_t hB (by decide)), e_ix (by omega), show up h2 (d + 3) B (nI 0) = h3 from rfl, a1]
  · rw [a3 4 (by decide), e3]; exact x4
  · rw [a3 5 (by decide), e3]; exact x5
  · rw [a6 (d + 1) (by omega) (by omega), f3 (d + 1) (by omega), f2 (d + 1) (by omega)]
    show (up h (d + 1) B _) (d + 1) b = nI (updN T B v b)
    unfold updN
    by_cases z : b = B
    · rw [if_pos z, z, up_s]
    · rw [if_neg z, up_n z]; exact (xb b (by omega)).1
  · rw [a6 (d + 2) (by omega) (by omega), f3 (d + 2) (by omega)]
    show (up h1 (d + 2) B _) (d + 2) b = nI (updN M B w b)
    unfold updN
    by_cases z : b = B
    · rw [if_pos z, z, up_s]
    · rw [if_neg z, up_n z, f1 (d + 2) (by omega)]; exact (xb b (by omega)).2.1
  · show h' (d + 3) b = nI (illm (B + 1) (updN T B v) b)
    rw [illm_ilv, ilv_succ, show updN T B v B = v by unfold updN; rw [if_pos rfl], ilv_congr (T := updN T B v) (T' := T) (fun j hj => by unfold updN; rw [if_neg (by omega)])]
    by_cases z : b = B
    · rw [z, show updN T B v B = v by unfold updN; rw [if_pos rfl], if_neg (by rw [ill_self]; decide), Nat.add_zero]; exact a5
    · rw [show updN T B v b = T b by unfold updN; rw [if_neg z]]; exact a4 b (by omega)
  · rw [a3 6 (by decide), e3]; exact x6
  · rw [a3 7 (by decide), e3]; exact x7
  · rw [a6 (d + 4) (by omega) (by omega), f3 (d + 4) (by omega), f2 (d + 4) (by omega), f1 (d + 4) (by omega)]; exact xr r hr
  · rw [a6 z (by omega) (by omega), f3 z (by omega), f2 z (by omega), f1 z (by omega)]
end
section
/-! ===== the text: an item ===== -/
theorem num_inj {n : Nat} {t : Nat → Nat} {q v q' w q2 : Nat} (h : num n t q v q') (h2 : num n t q w q2) : v = w ∧ q' = q2 := by
  obtain ⟨a1, a2, a3⟩ := h
  obtain ⟨b1, b2, b3⟩ := h2
  rcases a3 with ⟨a4, a5⟩ | ⟨a4, a5, a6⟩
  · rcases b3 with ⟨b4, b5⟩ | ⟨b4, b5, b6⟩
    · omega
    · rw [a4] at a2; exact absurd b5 a2
  · rcases b3 with ⟨b4, b5⟩ | ⟨b4, b5, b6⟩
    · rw [b4] at b2; exact absurd a5 b2
    · omega
theorem comes_n (F : Nat) {g : HP} {s : PSt} {v w : Nat} (x : MSt g s) (hB : s.1 < 8) :
    ∃ g', f_X7_comes F (nI v) (nI w) g = some g' ∧ MSt g' (s.1 + 1, s.2.1, s.2.2.1, updN s.2.2.2.1 s.1 v, updN s.2.2.2.2.1 s.1 w, s.2.2.2.2.2) ∧ ∀ z, z ≠ 41 → g' z = g z := by
  obtain ⟨B, N, R, T, M, ht, K, ws⟩ := s
  obtain ⟨x0, x1, x2, xb, x6, x7, xr⟩ := x
  dsimp only at x0 x1 x2 xb x6 x7 xr hB ⊢
  refine ⟨_, by
    unfold f_X7_comes
    rw [x0, e_add, e_add, if_pos (inb_t (by omega) (by decide)), if_pos (inb_t (by omega) (by decide)), e_ix (by omega), e_ix (by omega)], ⟨?_, ?_, ?_, fun b hb => ⟨?_, ?_⟩, ?_, ?_, ?_⟩, fun z hz => by rw [up_c hz, up_c hz, up_c hz]⟩
  · rw [up_s, up_n (by omega), up_n (by omega), x0, e_add]
  · rw [up_n (by decide), up_n (by omega), up_n (by omega)]; exact x1
  · rw [up_n (by decide), up_n (by omega), up_n (by omega)]; exact x2
  · rw [up_n (by omega), up_n (by omega)]
    unfold updN
    dsimp only at hb ⊢
    by_cases z : b = B
    · rw [if_pos z, z, up_s]
    · rw [if_neg z, up_n (by omega)]; exact (xb b (by omega)).1
  · rw [up_n (by omega)]
    unfold updN
    dsimp only at hb ⊢
    by_cases z : b = B
    · rw [if_pos z, z, up_s]
    · rw [if_neg z, up_n (by omega), up_n (by omega)]; exact (xb b (by omega)).2
  · rw [up_c (by decide), up_c (by decide), up_c (by decide)]; exact x6
  · rw [up_c (by decide), up_c (by decide), up_c (by decide)]; exact x7
  · rw [up_c (by decide), up_c (by decide), up_c (by decide)]; exact xr
theorem POK.bell {s : PSt} {v w : Nat} (p : POK s) (hB : s.1 < 8) (hv : v ≤ 40) (h1 : 1 ≤ w) (h2 : w ≤ 2) : POK (s.1 + 1, s.2.1, s.2.2.1, updN s.2.2.2.1 s.1 v, updN s.2.2.2.2.1 s.1 w, s.2.2.2.2.2) := by
  obtain ⟨p0, p1, p2, p3, p4, p5, p6, p7⟩ := p
  refine ⟨hB, p1, p2, p3, fun b hb => ?_, p5, p6, fun r hr => ?_⟩
  · dsimp only at hb ⊢
    unfold updN
    by_cases z : b = s.1
    · rw [if_pos z, if_pos z]; exact ⟨hv, h1, h2⟩
    · rw [if_neg z, if_neg z]; exact p4 b (by omega)
  · have := p7 r hr
    dsimp only
    rw [Nat.pow_succ]; omega
theorem between12 {x : Int32} (h1 : nI 1 ≤ x) (h2 : x ≤ nI 2) : x = nI 1 ∨ x = nI 2 := by
  rcases cas x (n := 3) (by decide) with ⟨j, hj, e⟩ | h | h
  · rw [e, e_le (by decide) (by omega)] at h1
    have : j = 1 ∨ j = 2 := by omega
    rcases this with rfl | rfl
    · exact Or.inl e
    · exact Or.inr e
  · exact absurd (Int32.lt_of_lt_of_le h (Int32.le_trans (show nI 0 ≤ nI 1 by decide) h1)) Int32.lt_irrefl
  · exact absurd (Int32.le_trans h h2) (by decide)
/-- a bell, whatever the numbers are: an answer, and nothing but the tower has changed -/
theorem addBell_any {F : Nat} (hF : 600 ≤ F) {d v : Nat} {x2 : Int32} {h : HP} {s : PSt} (x : XSt d h s) (hP : POK s) (hv : v < 100) :
    ∃ r h', f_X5_addBell F d (nI v) x2 h = some (r, h') ∧ ∀ z, z < d ∨ d + 3 < z → h' z = h z := by
  by_cases z : s.1 < 8 ∧ nI 0 ≤ nI v ∧ nI v ≤ nI 40 ∧ nI 1 ≤ x2 ∧ x2 ≤ nI 2
  · obtain ⟨z1, z2, z3, z4, z5⟩ := z
    rw [e_le (by omega) (by decide)] at z3
    rcases between12 z4 z5 with e | e
    · obtain ⟨h', a, b, c⟩ := addBell_n hF x hP z1 z3 (show 1 ≤ 1 by decide) (by decide)
      exact ⟨_, h', by rw [e]; exact a, c⟩
    · obtain ⟨h', a, b, c⟩ := addBell_n hF x hP z1 z3 (show 1 ≤ 2 by decide) (by decide)
      exact ⟨_, h', by rw [e]; exact a, c⟩
  · exact ⟨_, h, addBell_no F x.1 hP.1 z, fun _ _ => rfl⟩
/-- the class: an item and the ; behind it, then K -/
def cIt (F d : Nat) (h : HP) (K : HP → Option (Int32 × HP)) : Option (Int32 × HP) :=
  ob (f_X4_readItem F d h) (fun v7 h5 =>
        if v7 = nI 0 then
          some (h 1 2, h5)
        else
          ob (f_X4_accept F (nI 59) h5) (fun v11 h9 =>
          if v11 = nI 0 then
            some (h 1 2, h9)
          else
            K h9))
def ItOk (F n : Nat) (t : Nat → Nat) (d q : Nat) (h g : HP) : Prop := ∃ h' g' q' s', (∀ K, cIt F d h K = K h') ∧ f_X7_takesItem F g = some (nI 1, g') ∧ XSt d h' s' ∧ MSt g' s' ∧ POK s' ∧ h' 1 2 = nI q' ∧ g' 39 14 = nI q' ∧ q < q' ∧ q' ≤ n ∧ FXt d h h' ∧ FMt g g'
def ItNo (F d : Nat) (h g : HP) : Prop := ∃ h' g', (∀ K, cIt F d h K = some (h 1 2, h')) ∧ f_X7_takesItem F g = some (nI 0, g') ∧ FXt d h h' ∧ FMt g g'
/-- the place moves, then K of what reading gave -/
theorem FXt.low {d : Nat} {h h' : HP} (hd : TDc d) (e : ∀ z, z < d ∨ d + 4 < z → h' z = h z) : FXt d h h' := by
  unfold TDc at hd
  exact ⟨fun z h1 h2 h3 => e z h3, fun j _ => by rw [e 1 (by omega)]⟩
theorem FMt.at41 {g g' : HP} (e : ∀ z, z ≠ 41 → g' z = g z) : FMt g g' := ⟨fun z _ h2 _ _ _ => e z h2, fun j _ _ _ => by rw [e 39 (by decide)]⟩
theorem chr_pos {n : Nat} {t : Nat → Nat} {q c : Nat} (h : chr n t q = c) (hc : c ≠ 0) : q < n := chr_lt (t := t) (by rw [h]; exact hc)
/-- the class: the ; behind an item -/
theorem end_ok {F n : Nat} {t : Nat → Nat} {d q' : Nat} {h h5 : HP} {r : Int32} (hr : r ≠ nI 0) (e : f_X4_readItem F d h = some (r, h5)) (x : TXX n t h5) (hq : h5 1 2 = nI q') (hq2 : q' < 1000) (hc : chr n t q' = 59) : ∀ K, cIt F d h K = K (up h5 1 2 (nI (q' + 1))) := by
  intro K
  unfold cIt
  rw [e, ob_eq, if_neg hr, accept_n F x hq hq2 (by decide), if_pos hc, ob_eq, if_neg n1n0]
theorem end_no {F n : Nat} {t : Nat → Nat} {d q' : Nat} {h h5 : HP} {r : Int32} (e : f_X4_readItem F d h = some (r, h5)) (x : TXX n t h5) (hq : h5 1 2 = nI q') (hq2 : q' < 1000) (hc : ¬ chr n t q' = 59) : ∀ K, cIt F d h K = some (h 1 2, h5) := by
  intro K
  unfold cIt
  by_cases hr : r = nI 0
  · rw [e, ob_eq, if_pos hr]
  · rw [e, ob_eq, if_neg hr, accept_n F x hq hq2 (by decide), if_neg hc, ob_eq, if_pos rfl]
theorem end_0 {F d : Nat} {h h5 : HP} (e : f_X4_readItem F d h = some (nI 0, h5)) : ∀ K, cIt F d h K = some (h 1 2, h5) := by
  intro K
  unfold cIt
  rw [e, ob_eq, if_pos rfl]
end
section
/-! ===== the text: items with numbers ===== -/
theorem hIr_c {n : Nat} {t : Nat → Nat} {q c : Nat} (h : chr n t q = c) (hc : c ≠ 0) : hIr n t q = nI c := by
  have := chr_pos h hc
  unfold chr at h
  unfold hIr
  rw [if_pos this] at h ⊢
  rw [h]
theorem isd59 {c : Nat} (h : isd c) : ¬ c = 59 ∧ ¬ c = 44 := by unfold isd at h; omega
theorem takes1 {F : Nat} (hF : 600 ≤ F) {n : Nat} {t : Nat → Nat} {q : Nat} {g : HP} (x : TXM n t g) (hq : g 39 14 = nI q) (hqn : q ≤ n) :
    (∃ v q' g', num n t q v q' ∧ chr n t q' = 59 ∧ f_X7_takes F (nI 1) g = some (nI 1, g') ∧ g' 49 0 = nI v ∧ g' 39 14 = nI (q' + 1) ∧ PFt g g') ∨ ((∀ v q', ¬ (num n t q v q' ∧ chr n t q' = 59)) ∧ ∃ g', f_X7_takes F (nI 1) g = some (nI 0, g') ∧ PFt g g') := by
  obtain ⟨m, rfl⟩ : ∃ m, F = m + 2 := ⟨F - 2, by omega⟩
  have e0 : f_X7_takes (m + 2) (nI 1) g = f_X7_takes_12 (m + 2) (nI 1) (f_X7_takes_2 (m + 2) (nI 1) (m + 1)) (m + 2) (nI 0) (nI 0) (nI 0) g := by
    unfold f_X7_takes
    rw [f_X7_takes_2, if_neg (by decide)]
  rw [e0]
  rcases take_num (k2 := f_X7_takes_2 (m + 2) (nI 1) (m + 1)) hF (show 59 = if 1 - 1 ≤ 0 then 59 else 44 by decide) (by decide) (by decide) (by decide) x hq hqn with ⟨v, q', g', a1, a2, a3, a4, a5, a6, a7⟩ | ⟨a1, g', a2, a3⟩
  · refine Or.inl ⟨v, q', g', a1, a2, ?_, a4, a6, a7⟩
    rw [a3, f_X7_takes_2, if_pos (by decide)]
  · exact Or.inr ⟨a1, g', a2, a3⟩
theorem takes2 {F : Nat} (hF : 600 ≤ F) {n : Nat} {t : Nat → Nat} {q : Nat} {g : HP} (x : TXM n t g) (hq : g 39 14 = nI q) (hqn : q ≤ n) :
    (∃ v q1 w q2 g', num n t q v q1 ∧ chr n t q1 = 44 ∧ num n t (q1 + 1) w q2 ∧ chr n t q2 = 59 ∧ f_X7_takes F (nI 2) g = some (nI 1, g') ∧ g' 49 0 = nI v ∧ g' 49 1 = nI w ∧ g' 39 14 = nI (q2 + 1) ∧ PFt g g') ∨ ((∀ v q1 w q2, ¬ (num n t q v q1 ∧ chr n t q1 = 44 ∧ num n t (q1 + 1) w q2 ∧ chr n t q2 = 59)) ∧ ∃ g', f_X7_takes F (nI 2) g = some (nI 0, g') ∧ PFt g g') := by
  obtain ⟨m, rfl⟩ : ∃ m, F = m + 3 := ⟨F - 3, by omega⟩
  have e0 : f_X7_takes (m + 3) (nI 2) g = f_X7_takes_12 (m + 3) (nI 2) (f_X7_takes_2 (m + 3) (nI 2) (m + 2)) (m + 3) (nI 0) (nI 0) (nI 0) g := by
    unfold f_X7_takes
    rw [f_X7_takes_2, if_neg (by decide)]
  rw [e0]
  rcases take_num (k2 := f_X7_takes_2 (m + 3) (nI 2) (m + 2)) hF (show 44 = if 2 - 1 ≤ 0 then 59 else 44 by decide) (by decide) (by decide) (by decide) x hq hqn with ⟨v, q', g', a1, a2, a3, a4, a5, a6, a7⟩ | ⟨a1, g', a2, a3⟩
  · have hq' : q' < n := chr_pos a2 (by decide)
    have e1 : f_X7_takes_2 (m + 3) (nI 2) (m + 2) (nI (0 + 1)) g' = f_X7_takes_12 (m + 3) (nI 2) (f_X7_takes_2 (m + 3) (nI 2) (m + 1)) (m + 3) (nI 1) (nI 0) (nI 0) g' := by
      rw [f_X7_takes_2, if_neg (by decide)]
    rw [a3, e1]
    rcases take_num (k2 := f_X7_takes_2 (m + 3) (nI 2) (m + 1)) hF (show 59 = if 2 - 1 ≤ 1 then 59 else 44 by decide) (by decide) (by decide) (by decide) (x.pt a7) a6 (by omega) with ⟨w, q2, g2, b1, b2, b3, b4, b5, b6, b7⟩ | ⟨b1, g2, b2, b3⟩
    · refine Or.inl ⟨v, q', w, q2, g2, a1, a2, b1, b2, ?_, by rw [b5 0 (by decide)]; exact a4, b4, b6, a7.trans b7⟩
      rw [b3, f_X7_takes_2, if_pos (by decide)]
    · refine Or.inr ⟨fun v' q1 w q2 hh => ?_, g2, b2, a7.trans b3⟩
      obtain ⟨c1, c2, c3, c4⟩ := hh
      have := (num_inj a1 c1).2
      subst this
      exact b1 w q2 ⟨c3, c4⟩
  · exact Or.inr ⟨fun v q1 w q2 hh => a1 v q1 ⟨hh.1, hh.2.1⟩, g', a2, a3⟩
theorem takesOne_n {F : Nat} (hF : 600 ≤ F) {n : Nat} {t : Nat → Nat} {q j lo hi : Nat} {g : HP} (hj : j < 19) (hlo : lo < 1000) (hhi : hi < 1000) (x : TXM n t g) (hq : g 39 14 = nI q) (hqn : q ≤ n) :
    (∃ v q' g', num n t q v q' ∧ chr n t q' = 59 ∧ (lo ≤ v ∧ v ≤ hi) ∧ f_X7_takesOne F (nI j) (nI lo) (nI hi) g = some (nI 1, up g' 41 j (nI v)) ∧ g' 39 14 = nI (q' + 1) ∧ PFt g g') ∨ ((∀ v q', ¬ (num n t q v q' ∧ chr n t q' = 59 ∧ (lo ≤ v ∧ v ≤ hi))) ∧ ∃ g', f_X7_takesOne F (nI j) (nI lo) (nI hi) g = some (nI 0, g') ∧ PFt g g') := by
  unfold f_X7_takesOne
  rcases takes1 hF x hq hqn with ⟨v, q', g', a1, a2, a3, a4, a5, a6⟩ | ⟨a1, g', a2, a3⟩
  · have hv := (num_lt a1).1
    rw [a3, ob_eq, if_neg n1n0, a4, in_spec, ob_eq]
    by_cases z : lo ≤ v ∧ v ≤ hi
    · rw [if_pos (show nI lo ≤ nI v ∧ nI v ≤ nI hi by rw [e_le (by omega) (by omega), e_le (by omega) (by omega)]; exact z), if_neg n1n0, if_pos (inb_t hj (by decide)), e_ix (by omega)]
      exact Or.inl ⟨v, q', g', a1, a2, z, by rw [a4], a5, a6⟩
    · rw [if_neg (show ¬ (nI lo ≤ nI v ∧ nI v ≤ nI hi) by rw [e_le (by omega) (by omega), e_le (by omega) (by omega)]; exact z), if_pos rfl]
      refine Or.inr ⟨fun w q2 hh => ?_, g', rfl, a6⟩
      rw [← (num_inj a1 hh.1).1] at hh
      exact z hh.2.2
  · rw [a2, ob_eq, if_pos rfl]
    exact Or.inr ⟨fun v q' hh => a1 v q' ⟨hh.1, hh.2.1⟩, g', rfl, a3⟩
theorem item_1 {F : Nat} (hF : 600 ≤ F) {n : Nat} {t : Nat → Nat} {d q c lo hi jx jm : Nat} {h g : HP} {s : PSt} (sN : Nat → PSt) (hd : TDc d) (hjm : jm < 19) (hlo : lo < 1000) (hhi : hi < 1000) (x : TXX n t h) (y : TXM n t g) (xs : XSt d h s) (ms : MSt g s) (hq : h 1 2 = nI q) (gq : g 39 14 = nI q) (hc : chr n t q = c) (hc0 : c ≠ 0)
    (eX : f_X4_readItem F d h = ob (f_X4_readNumber F (up h 1 2 (nI (q + 1)))) (fun v h => if nI lo ≤ v ∧ v ≤ nI hi then some (nI 1, up h d jx v) else some (nI 0, h)))
    (eM : f_X7_takesItem F g = ob (f_X7_takesOne F (nI jm) (nI lo) (nI hi) (up g 39 14 (nI (q + 1)))) (fun v12 h10 => if v12 = nI 0 ∨ v12 = nI 1 then some (v12, h10) else none))
    (hX : ∀ h v, XSt d h s → XSt d (up h d jx (nI v)) (sN v)) (hM : ∀ g v, MSt g s → MSt (up g 41 jm (nI v)) (sN v)) (hP : ∀ v, lo ≤ v → v ≤ hi → POK (sN v)) : ItOk F n t d q h g ∨ ItNo F d h g := by
  have hqn : q < n := chr_pos hc hc0
  have hn := x.1
  have px := PFx.up h (nI (q + 1))
  have pm := PFm.up g (nI (q + 1))
  have hd' := hd
  unfold TDc at hd'
  obtain ⟨r, h2, q', e, hq', pf, le, cases⟩ := number_n F (x.pf px) up_s (show q + 1 < 900 by omega)
  have p2 : PFx h h2 := px.trans pf
  have fx2 : FXt d h h2 := p2.f d
  have fup : ∀ w, FXt d h (up h2 d jx w) := fun w => fx2.trans (FXt.low hd (fun z hz => up_c (by omega)))
  rw [e, ob_eq] at eX
  rcases cases with ⟨v, nv, rfl⟩ | ⟨rfl, nn⟩ | ⟨dg, nn⟩
  · have hv := num_lt nv
    by_cases z : lo ≤ v ∧ v ≤ hi
    · rw [if_pos (show nI lo ≤ nI v ∧ nI v ≤ nI hi by rw [e_le (by omega) (by omega), e_le (by omega) (by omega)]; exact z)] at eX
      have x3 : TXX n t (up h2 d jx (nI v)) := x.f hd (fup _)
      have q3 : (up h2 d jx (nI v)) 1 2 = nI q' := by rw [up_c (by omega)]; exact hq'
      by_cases hc2 : chr n t q' = 59
      · rcases takesOne_n hF hjm hlo hhi (y.pf pm) up_s (show q + 1 ≤ n by omega) with ⟨v', q2, g', a1, a2, a3, a4, a5, a6⟩ | ⟨a1, _⟩
        · obtain ⟨rfl, rfl⟩ := num_inj nv a1
          have hlt := chr_pos hc2 (by decide)
          refine Or.inl ⟨_, _, q' + 1, sN v, end_ok n1n0 eX x3 q3 (by omega) hc2, ?_, ?_, hM g' v ((ms.pf pm).pt a6), hP v z.1 z.2, up_s, by rw [up_c (by decide)]; exact a5, by omega, by omega, (fup _).trans ((PFx.up _ _).f d), (pm.t.trans a6).f.trans (FMt.at41 (fun z hz => up_c hz))⟩
          · rw [eM, a4, ob_eq, if_pos (Or.inr rfl)]
          · exact (hX h2 v (xs.pf hd p2)).pf hd (PFx.up _ _)
        · exact absurd ⟨nv, hc2, z⟩ (a1 v q')
      · rcases takesOne_n hF hjm hlo hhi (y.pf pm) up_s (show q + 1 ≤ n by omega) with ⟨v', q2, g', a1, a2, a3, a4, a5, a6⟩ | ⟨a1, g', a4, a6⟩
        · obtain ⟨rfl, rfl⟩ := num_inj nv a1
          exact absurd a2 hc2
        · exact Or.inr ⟨_, g', end_no eX x3 q3 (by omega) hc2, by rw [eM, a4, ob_eq, if_pos (Or.inl rfl)], fup _, (pm.t.trans a6).f⟩
    · rw [if_neg (show ¬ (nI lo ≤ nI v ∧ nI v ≤ nI hi) by rw [e_le (by omega) (by omega), e_le (by omega) (by omega)]; exact z)] at eX
      rcases takesOne_n hF hjm hlo hhi (y.pf pm) up_s (show q + 1 ≤ n by omega) with ⟨v', q2, g', a1, a2, a3, a4, a5, a6⟩ | ⟨a1, g', a4, a6⟩
      · obtain ⟨rfl, rfl⟩ := num_inj nv a1
        exact absurd a3 z
      · exact Or.inr ⟨_, g', end_0 eX, by rw [eM, a4, ob_eq, if_pos (Or.inl rfl)], fx2, (pm.t.trans a6).f⟩
  · rw [if_neg (fun w => m1_nle (by omega) w.1)] at eX
    rcases takesOne_n hF hjm hlo hhi (y.pf pm) up_s (show q + 1 ≤ n by omega) with ⟨v', q2, g', a1, a2, a3, a4, a5, a6⟩ | ⟨a1, g', a4, a6⟩
    · exact absurd a1 (nn _ _)
    · exact Or.inr ⟨_, g', end_0 eX, by rw [eM, a4, ob_eq, if_pos (Or.inl rfl)], fx2, (pm.t.trans a6).f⟩
  · rcases takesOne_n hF hjm hlo hhi (y.pf pm) up_s (show q + 1 ≤ n by omega) with ⟨v', q2, g', a1, a2, a3, a4, a5, a6⟩ | ⟨a1, g', a4, a6⟩
    · exact absurd a1 (nn _ _)
    · by_cases z : nI lo ≤ r ∧ r ≤ nI hi
      · rw [if_pos z] at eX
        exact Or.inr ⟨_, g', end_no eX (x.f hd (fup _)) (by rw [up_c (by omega)]; exact hq') (by omega) (isd59 dg).1, by rw [eM, a4, ob_eq, if_pos (Or.inl rfl)], fup _, (pm.t.trans a6).f⟩
      · rw [if_neg z] at eX
        exact Or.inr ⟨_, g', end_0 eX, by rw [eM, a4, ob_eq, if_pos (Or.inl rfl)], fx2, (pm.t.trans a6).f⟩
theorem tell_if {α : Type} {x : Int32} {lo hi : Nat} (a b : α) : (if x < nI lo then b else if x ≤ nI hi then a else b) = if nI lo ≤ x ∧ x ≤ nI hi then a else b := by
  by_cases z : nI lo ≤ x
  · rw [if_neg (Int32.not_lt.mpr z)]
    by_cases w : x ≤ nI hi
    · rw [if_pos w, if_pos (show nI lo ≤ x ∧ x ≤ nI hi from ⟨z, w⟩)]
    · rw [if_neg w, if_neg (fun v => w v.2)]
  · rw [if_pos (Int32.not_le.mp z), if_neg (fun v => z v.1)]
theorem item_n {F : Nat} (hF : 600 ≤ F) {n : Nat} {t : Nat → Nat} {d q : Nat} {h g : HP} {s : PSt} (hd : TDc d) (x : TXX n t h) (y : TXM n t g) (xs : XSt d h s) (ms : MSt g s) (hP : POK s) (hq : h 1 2 = nI q) (gq : g 39 14 = nI q) (hc : chr n t q = 110) : ItOk F n t d q h g ∨ ItNo F d h g := by
  have hqn : q < n := chr_pos hc (by decide)
  have hn := x.1
  obtain ⟨B, N, R, T, M, ht, K, ws⟩ := s
  refine item_1 hF (lo := 2) (hi := 32) (jx := 4) (jm := 1) (fun v => (B, v, R, T, M, ht, K, ws)) hd (by decide) (by decide) (by decide) x y xs ms hq gq hc (by decide) ?_ ?_ ?_ ?_ ?_
  · unfold f_X4_readItem
    rw [peek_n F x hq (by omega), hc, ob_eq, if_neg (by decide), if_pos rfl, hq, e_add]
    congr 1
    funext v h1
    unfold f_X5_tellRows
    rw [tell_if]
    by_cases z : nI 2 ≤ v ∧ v ≤ nI 32
    · rw [if_pos z, ob_eq, if_pos (Or.inr rfl)]
    · rw [if_neg z, ob_eq, if_pos (Or.inl rfl)]
  · unfold f_X7_takesItem
    rw [here_n F y gq (by omega), hIr_c hc (by decide), ob_eq, if_neg (by decide), if_pos rfl, gq, e_add]
  · intro h v hx
    obtain ⟨x0, x4, x5, xb, x6, x7, xr⟩ := hx
    dsimp only at x0 x4 x5 xb x6 x7 xr
    exact ⟨by rw [up_n (by decide)]; exact x0, up_s, by rw [up_n (by decide)]; exact x5, fun b hb => by rw [up_c (by omega), up_c (by omega), up_c (by omega)]; exact xb b hb, by rw [up_n (by decide)]; exact x6, by rw [up_n (by decide)]; exact x7, by rw [up_c (by omega)]; exact xr⟩
  · intro g v hx
    obtain ⟨x0, x4, x5, xb, x6, x7, xr⟩ := hx
    dsimp only at x0 x4 x5 xb x6 x7 xr
    exact ⟨by rw [up_n (by decide)]; exact x0, up_s, by rw [up_n (by decide)]; exact x5, fun b hb => by rw [up_n (by omega), up_n (by omega)]; exact xb b hb, by rw [up_c (by decide)]; exact x6, by rw [up_c (by decide)]; exact x7, by rw [up_c (by decide)]; exact xr⟩
  · intro v h1 h2
    obtain ⟨p0, p1, p2, p3⟩ := hP
    exact ⟨p0, h1, h2, p3⟩
theorem item_r {F : Nat} (hF : 600 ≤ F) {n : Nat} {t : Nat → Nat} {d q : Nat} {h g : HP} {s : PSt} (hd : TDc d) (x : TXX n t h) (y : TXM n t g) (xs : XSt d h s) (ms : MSt g s) (hP : POK s) (hq : h 1 2 = nI q) (gq : g 39 14 = nI q) (hc : chr n t q = 114) : ItOk F n t d q h g ∨ ItNo F d h g := by
  have hqn : q < n := chr_pos hc (by decide)
  have hn := x.1
  obtain ⟨B, N, R, T, M, ht, K, ws⟩ := s
  refine item_1 hF (lo := 0) (hi := 6) (jx := 5) (jm := 2) (fun v => (B, N, v, T, M, ht, K, ws)) hd (by decide) (by decide) (by decide) x y xs ms hq gq hc (by decide) ?_ ?_ ?_ ?_ ?_
  · unfold f_X4_readItem
    rw [peek_n F x hq (by omega), hc, ob_eq, if_neg (by decide), if_neg (by decide), if_pos rfl, hq, e_add]
    congr 1
    funext v h1
    unfold f_X5_tellRest
    rw [tell_if]
    by_cases z : nI 0 ≤ v ∧ v ≤ nI 6
    · rw [if_pos z, ob_eq, if_pos (Or.inr rfl)]
    · rw [if_neg z, ob_eq, if_pos (Or.inl rfl)]
  · unfold f_X7_takesItem
    rw [here_n F y gq (by omega), hIr_c hc (by decide), ob_eq, if_neg (by decide), if_neg (by decide), if_pos rfl, gq, e_add]
  · intro h v hx
    obtain ⟨x0, x4, x5, xb, x6, x7, xr⟩ := hx
    dsimp only at x0 x4 x5 xb x6 x7 xr
    exact ⟨by rw [up_n (by decide)]; exact x0, by rw [up_n (by decide)]; exact x4, up_s, fun b hb => by rw [up_c (by omega), up_c (by omega), up_c (by omega)]; exact xb b hb, by rw [up_n (by decide)]; exact x6, by rw [up_n (by decide)]; exact x7, by rw [up_c (by omega)]; exact xr⟩
  · intro g v hx
    obtain ⟨x0, x4, x5, xb, x6, x7, xr⟩ := hx
    dsimp only at x0 x4 x5 xb x6 x7 xr
    exact ⟨by rw [up_n (by decide)]; exact x0, by rw [up_n (by decide)]; exact x4, up_s, fun b hb => by rw [up_n (by omega), up_n (by omega)]; exact xb b hb, by rw [up_c (by decide)]; exact x6, by rw [up_c (by decide)]; exact x7, by rw [up_c (by decide)]; exact xr⟩
  · intro v h1 h2
    obtain ⟨p0, p1, p2, p3, p4⟩ := hP
    exact ⟨p0, p1, p2, h2, p4⟩
theorem item_b {F : Nat} (hF : 600 ≤ F) {n : Nat} {t : Nat → Nat} {d q : Nat} {h g : HP} {s : PSt} (hd : TDc d) (x : TXX n t h) (y : TXM n t g) (xs : XSt d h s) (ms : MSt g s) (hP : POK s) (hq : h 1 2 = nI q) (gq : g 39 14 = nI q) (hc : chr n t q = 98) : ItOk F n t d q h g ∨ ItNo F d h g := by
  have hqn : q < n := chr_pos hc (by decide)
  have hn := x.1
  have px := PFx.up h (nI (q + 1))
  have pm := PFm.up g (nI (q + 1))
  have hd' := hd
  unfold TDc at hd'
  have hB8 := hP.1
  have eX : f_X4_readItem F d h = ob (f_X4_readBell F d (up h 1 2 (nI (q + 1)))) (fun v7 h5 => if v7 = nI 0 ∨ v7 = nI 1 then some (v7, h5) else none) := by
    unfold f_X4_readItem
    rw [peek_n F x hq (by omega), hc, ob_eq, if_pos rfl, hq, e_add]
  have eM : f_X7_takesItem F g = ob (f_X7_takesBell F (up g 39 14 (nI (q + 1)))) (fun v7 h5 => if v7 = nI 0 ∨ v7 = nI 1 then some (v7, h5) else none) := by
    unfold f_X7_takesItem
    rw [here_n F y gq (by omega), hIr_c hc (by decide), ob_eq, if_pos rfl, gq, e_add]
  -- the reference: refused when the numbers aren't there
  have mNo : (∀ v q1 w q2, ¬ (num n t (q + 1) v q1 ∧ chr n t q1 = 44 ∧ num n t (q1 + 1) w q2 ∧ chr n t q2 = 59 ∧ (s.1 < 8 ∧ v ≤ 40 ∧ 1 ≤ w ∧ w ≤ 2))) → ∃ g', f_X7_takesItem F g = some (nI 0, g') ∧ FMt g g' := by
    intro no
    unfold f_X7_takesBell at eM
    rcases takes2 hF (y.pf pm) up_s (show q + 1 ≤ n by omega) with ⟨v, q1, w, q2, g', a1, a2, a3, a4, a5, a6, a7, a8, a9⟩ | ⟨_, g', a2, a3⟩
    · have hv := num_lt a1
      have hw := num_lt a3
      have fm := (pm.t.trans a9).f
      have ms' := (ms.pf pm).pt a9
      rw [a5, ob_eq, if_neg n1n0, a6, i_lt (by decide) (by omega)] at eM
      by_cases z1 : 40 < v
      · rw [if_pos z1, ob_eq, if_pos (Or.inl rfl)] at eM
        exact ⟨g', eM, fm⟩
      · rw [if_neg z1, a7, l64 (show 1 < 2147483648 by decide), l64 (show 2 < 2147483648 by decide), in_spec, ob_eq] at eM
        by_cases z2 : 1 ≤ w ∧ w ≤ 2
        · rw [if_pos (show nI 1 ≤ nI w ∧ nI w ≤ nI 2 by rw [e_le (by decide) (by omega), e_le (by omega) (by decide)]; exact z2), if_neg n1n0, ms'.1, i_eq (by omega) (by decide)] at eM
          by_cases z3 : s.1 = 8
          · rw [if_pos z3, ob_eq, if_pos (Or.inl rfl)] at eM
            exact ⟨g', eM, fm⟩
          · exact absurd ⟨a1, a2, a3, a4, by omega, by omega, z2⟩ (no v q1 w q2)
        · rw [if_neg (show ¬ (nI 1 ≤ nI w ∧ nI w ≤ nI 2) by rw [e_le (by decide) (by omega), e_le (by omega) (by decide)]; exact z2), if_pos rfl, ob_eq, if_pos (Or.inl rfl)] at eM
          exact ⟨g', eM, fm⟩
    · rw [a2, ob_eq, if_pos rfl, ob_eq, if_pos (Or.inl rfl)] at eM
      exact ⟨g', eM, (pm.t.trans a3).f⟩
  obtain ⟨r, h2, q1, e, hq1, pf, le, cases⟩ := number_n F (x.pf px) up_s (show q + 1 < 900 by omega)
  have p2 : PFx h h2 := px.trans pf
  have x2 := x.pf p2
  unfold f_X4_readBell at eX
  rw [e, ob_eq, accept_n F x2 hq1 (by omega) (by decide)] at eX
  by_cases c1 : chr n t q1 = 44
  · have hq1n := chr_pos c1 (by decide)
    rw [if_pos c1, ob_eq, if_neg n1n0] at eX
    have p3 : PFx h (up h2 1 2 (nI (q1 + 1))) := p2.trans (PFx.up _ _)
    obtain ⟨r2, h4, q2, e4, hq2, pf4, le2, cases2⟩ := number_n F (x.pf p3) up_s (show q1 + 1 < 900 by omega)
    have p4 := p3.trans pf4
    have x4 := x.pf p4
    rw [e4, ob_eq] at eX
    rcases cases with ⟨v, nv, rfl⟩ | ⟨rfl, nn⟩ | ⟨dg, nn⟩
    · have hv := num_lt nv
      have xs4 := xs.pf hd p4
      rcases cases2 with ⟨w, nw, rfl⟩ | ⟨rfl, nn2⟩ | ⟨dg2, nn2⟩
      · have hw := num_lt nw
        by_cases z : s.1 < 8 ∧ v ≤ 40 ∧ 1 ≤ w ∧ w ≤ 2
        · obtain ⟨z1, z2, z3, z4⟩ := z
          obtain ⟨h5, a1, a2, a3⟩ := addBell_n hF xs4 hP z1 z2 z3 z4
          rw [a1, ob_eq, if_neg n1n0, ob_eq, if_pos (Or.inr rfl)] at eX
          have f5 : FXt d h h5 := (p4.f d).trans (FXt.low hd (fun z hz => a3 z (by omega)))
          have x5 := x.f hd f5
          have q5 : h5 1 2 = nI q2 := by rw [a3 1 (by omega)]; exact hq2
          by_cases c2 : chr n t q2 = 59
          · have hlt := chr_pos c2 (by decide)
            unfold f_X7_takesBell at eM
            rcases takes2 hF (y.pf pm) up_s (show q + 1 ≤ n by omega) with ⟨v', q1', w', q2', g', b1, b2, b3, b4, b5, b6, b7, b8, b9⟩ | ⟨b1, _⟩
            · obtain ⟨rfl, rfl⟩ := num_inj nv b1
              obtain ⟨rfl, rfl⟩ := num_inj nw b3
              have ms' := (ms.pf pm).pt b9
              obtain ⟨g2, d1, d2, d3⟩ := comes_n F (v := v) (w := w) ms' z1
              rw [b5, ob_eq, if_neg n1n0, b6, i_lt (by decide) (by omega), if_neg (by omega), b7, l64 (show 1 < 2147483648 by decide), l64 (show 2 < 2147483648 by decide), in_spec, ob_eq, if_pos (show nI 1 ≤ nI w ∧ nI w ≤ nI 2 by rw [e_le (by decide) (by omega), e_le (by omega) (by decide)]; exact ⟨z3, z4⟩), if_neg n1n0, ms'.1, i_eq (by omega) (by decide), if_neg (by omega), b6, b7, d1, obv_eq, ob_eq, if_pos (Or.inr rfl)] at eM
              exact Or.inl ⟨_, g2, q2 + 1, _, end_ok n1n0 eX x5 q5 (by omega) c2, eM, a2.pf hd (PFx.up _ _), d2, hP.bell z1 z2 z3 z4, up_s, by rw [d3 39 (by decide)]; exact b8, by omega, by omega, f5.trans ((PFx.up _ _).f d), (pm.t.trans b9).f.trans (FMt.at41 d3)⟩
            · exact absurd ⟨nv, c1, nw, c2⟩ (b1 v q1 w q2)
          · obtain ⟨g', m1, m2⟩ := mNo (fun v' q1' w' q2' hh => by
              obtain ⟨k1, k2, k3, k4, _⟩ := hh
              obtain ⟨rfl, rfl⟩ := num_inj nv k1
              obtain ⟨rfl, rfl⟩ := num_inj nw k3
              exact c2 k4)
            exact Or.inr ⟨_, g', end_no eX x5 q5 (by omega) c2, m1, f5, m2⟩
        · obtain ⟨g', m1, m2⟩ := mNo (fun v' q1' w' q2' hh => by
            obtain ⟨k1, k2, k3, k4, k5⟩ := hh
            obtain ⟨rfl, rfl⟩ := num_inj nv k1
            obtain ⟨rfl, rfl⟩ := num_inj nw k3
            exact z k5)
          rw [addBell_no F xs4.1 hB8 (fun zz => z ⟨zz.1, by
            have := zz.2.2.1
            rw [e_le (by omega) (by decide)] at this
            exact this, by
            have := zz.2.2.2
            rw [e_le (by decide) (by omega), e_le (by omega) (by decide)] at this
            exact this⟩), ob_eq, if_pos rfl, ob_eq, if_pos (Or.inl rfl)] at eX
          exact Or.inr ⟨_, g', end_0 eX, m1, p4.f d, m2⟩
      · obtain ⟨g', m1, m2⟩ := mNo (fun v' q1' w' q2' hh => by
          obtain ⟨k1, k2, k3, k4, k5⟩ := hh
          obtain ⟨rfl, rfl⟩ := num_inj nv k1
          exact nn2 _ _ k3)
        rw [addBell_no F xs4.1 hB8 (fun zz => m1_nle (by decide) zz.2.2.2.1), ob_eq, if_pos rfl, ob_eq, if_pos (Or.inl rfl)] at eX
        exact Or.inr ⟨_, g', end_0 eX, m1, p4.f d, m2⟩
      · obtain ⟨g', m1, m2⟩ := mNo (fun v' q1' w' q2' hh => by
          obtain ⟨k1, k2, k3, k4, k5⟩ := hh
          obtain ⟨rfl, rfl⟩ := num_inj nv k1
          exact nn2 _ _ k3)
        obtain ⟨r5, h5, a1, a3⟩ := addBell_any hF (x2 := r2) xs4 hP hv.1
        have f5 : FXt d h h5 := (p4.f d).trans (FXt.low hd (fun z hz => a3 z (by omega)))
        have q5 : h5 1 2 = nI q2 := by rw [a3 1 (by omega)]; exact hq2
        rw [a1, ob_eq] at eX
        by_cases z : r5 = nI 0
        · rw [if_pos z, ob_eq, if_pos (Or.inl rfl)] at eX
          exact Or.inr ⟨_, g', end_0 eX, m1, f5, m2⟩
        · rw [if_neg z, ob_eq, if_pos (Or.inr rfl)] at eX
          exact Or.inr ⟨_, g', end_no eX (x.f hd f5) q5 (by omega) (isd59 dg2).1, m1, f5, m2⟩
    · obtain ⟨g', m1, m2⟩ := mNo (fun v' q1' w' q2' hh => nn _ _ hh.1)
      rw [addBell_no F (xs.pf hd p4).1 hB8 (fun zz => m1_nle (by decide) zz.2.1), ob_eq, if_pos rfl, ob_eq, if_pos (Or.inl rfl)] at eX
      exact Or.inr ⟨_, g', end_0 eX, m1, p4.f d, m2⟩
    · exact absurd c1 (isd59 dg).2
  · rw [if_neg c1, ob_eq, if_pos rfl, ob_eq, if_pos (Or.inl rfl)] at eX
    obtain ⟨g', m1, m2⟩ := mNo (fun v' q1' w' q2' hh => by
      rcases cases with ⟨v, nv, rfl⟩ | ⟨rfl, nn⟩ | ⟨dg, nn⟩
      · obtain ⟨rfl, rfl⟩ := num_inj nv hh.1
        exact c1 hh.2.1
      · exact nn _ _ hh.1
      · exact nn _ _ hh.1)
    exact Or.inr ⟨_, g', end_0 eX, m1, p2.f d, m2⟩
end
section
/-! ===== the text: rows of a tune ===== -/
def sK (s : PSt) (K : Nat) (ws : Nat → Nat) : PSt := (s.1, s.2.1, s.2.2.1, s.2.2.2.1, s.2.2.2.2.1, s.2.2.2.2.2.1, K, ws)
def PRx (d : Nat) (h h' : HP) : Prop := ∀ z, z ≠ d → z ≠ d + 4 → h' z = h z
def PRm (g g' : HP) : Prop := (∀ z, z ≠ 39 → z ≠ 42 → g' z = g z) ∧ ∀ j, j ≠ 3 → g' 39 j = g 39 j
theorem PRx.refl (d : Nat) (h : HP) : PRx d h h := fun _ _ _ => rfl
theorem PRm.refl (h : HP) : PRm h h := ⟨fun _ _ _ => rfl, fun _ _ => rfl⟩
theorem PRx.trans {d : Nat} {h h' h'' : HP} (a : PRx d h h') (b : PRx d h' h'') : PRx d h h'' := fun z h1 h2 => by rw [b z h1 h2, a z h1 h2]
theorem PRm.trans {h h' h'' : HP} (a : PRm h h') (b : PRm h' h'') : PRm h h'' := ⟨fun z h1 h2 => by rw [b.1 z h1 h2, a.1 z h1 h2], fun j hj => by rw [b.2 j hj, a.2 j hj]⟩
theorem PRx.f {d : Nat} {h h' : HP} (hd : TDc d) (p : PRx d h h') : FXt d h h' := FXt.low hd (fun z hz => p z (by omega) (by omega))
theorem PRm.f {h h' : HP} (p : PRm h h') : FMt h h' := ⟨fun z h1 _ h3 _ _ => p.1 z h1 h3, fun j h1 _ _ => p.2 j h1⟩
theorem XSt.ws {d K : Nat} {ws ws' : Nat → Nat} {h : HP} {s : PSt} (x : XSt d h (sK s K ws)) (e : ∀ r, r < K → ws' r = ws r) : XSt d h (sK s K ws') := by
  obtain ⟨x0, x4, x5, xb, x6, x7, xr⟩ := x
  exact ⟨x0, x4, x5, xb, x6, x7, fun r hr => by
    have := xr r hr
    rw [this]
    exact congrArg nI (e r hr).symm⟩
theorem MSt.ws {K : Nat} {ws ws' : Nat → Nat} {h : HP} {s : PSt} (x : MSt h (sK s K ws)) (e : ∀ r, r < K → ws' r = ws r) : MSt h (sK s K ws') := by
  obtain ⟨x0, x4, x5, xb, x6, x7, xr⟩ := x
  exact ⟨x0, x4, x5, xb, x6, x7, fun r hr => by
    have := xr r hr
    rw [this]
    exact congrArg nI (e r hr).symm⟩
theorem addRow_n (F : Nat) {d K w : Nat} {ws ws' : Nat → Nat} {h : HP} {s : PSt} (x : XSt d h (sK s K ws)) (hK : K < 32) (e : ∀ r, r < K → ws' r = ws r) (eK : ws' K = w) :
    ∃ h', f_X5_addRow F d (nI w) h = some (nI 1, h') ∧ XSt d h' (sK s (K + 1) ws') ∧ PRx d h h' := by
  obtain ⟨B, N, R, T, M, ht, K0, ws0⟩ := s
  obtain ⟨x0, x4, x5, xb, x6, x7, xr⟩ := x
  dsimp only [sK] at x0 x4 x5 xb x6 x7 xr ⊢
  refine ⟨_, by
    unfold f_X5_addRow
    rw [x7, if_pos (by rw [e_lt (by omega) (by decide)]; exact hK), if_pos (inb_t hK (by decide)), e_ix (by omega), up_c (by omega), x7, e_add], ⟨?_, ?_, ?_, fun b hb => ?_, ?_, ?_, fun r hr => ?_⟩, fun z h1 h2 => by rw [up_c h1, up_c h2]⟩
  · rw [up_n (by decide), up_c (by omega)]; exact x0
  · rw [up_n (by decide), up_c (by omega)]; exact x4
  · rw [up_n (by decide), up_c (by omega)]; exact x5
  · rw [up_c (by omega), up_c (by omega), up_c (by omega), up_c (by omega), up_c (by omega), up_c (by omega)]; exact xb b hb
  · rw [up_n (by decide), up_c (by omega)]; exact x6
  · rw [up_s]
  · dsimp only at hr ⊢
    rw [up_c (by omega)]
    by_cases z : r = K
    · rw [z, up_s, eK]
    · rw [up_n z, xr r (by omega), e r (by omega)]
theorem addRow_no (F : Nat) {d K : Nat} {ws : Nat → Nat} {x1 : Int32} {h : HP} {s : PSt} (x : XSt d h (sK s K ws)) (hK : 32 ≤ K) (hK2 : K < 1000) : f_X5_addRow F d x1 h = some (nI 0, h) := by
  have x7 : h d 7 = nI K := x.2.2.2.2.2.1
  unfold f_X5_addRow
  rw [x7, if_neg (by rw [e_lt (by omega) (by decide)]; omega)]
theorem mput_n (F : Nat) {K w : Nat} {ws ws' : Nat → Nat} {g : HP} {s : PSt} (x : MSt g (sK s K ws)) (hK : K < 32) (e : ∀ r, r < K → ws' r = ws r) (eK : ws' K = w) :
    ∃ g', f_X7_put F (nI w) g = some (nI 1, g') ∧ MSt g' (sK s (K + 1) ws') ∧ PRm g g' := by
  obtain ⟨B, N, R, T, M, ht, K0, ws0⟩ := s
  obtain ⟨x0, x4, x5, xb, x6, x7, xr⟩ := x
  dsimp only [sK] at x0 x4 x5 xb x6 x7 xr ⊢
  refine ⟨_, by
    unfold f_X7_put
    rw [x7, if_neg (by rw [e_eq (by omega) (by decide)]; omega), if_pos (inb_t hK (by decide)), e_ix (by omega), up_c (by decide), x7, e_add], ⟨?_, ?_, ?_, fun b hb => ?_, ?_, ?_, fun r hr => ?_⟩, fun z h1 h2 => by rw [up_c h1, up_c h2], fun j hj => by rw [up_n hj, up_c (by decide)]⟩
  · rw [up_c (by decide), up_c (by decide)]; exact x0
  · rw [up_c (by decide), up_c (by decide)]; exact x4
  · rw [up_c (by decide), up_c (by decide)]; exact x5
  · rw [up_c (by decide), up_c (by decide)]; exact xb b hb
  · rw [up_n (by decide), up_c (by decide)]; exact x6
  · rw [up_s]
  · dsimp only at hr ⊢
    rw [up_c (by decide)]
    by_cases z : r = K
    · rw [z, up_s, eK]
    · rw [up_n z, xr r (by omega), e r (by omega)]
theorem mput_no (F : Nat) {K : Nat} {ws : Nat → Nat} {x1 : Int32} {g : HP} {s : PSt} (x : MSt g (sK s K ws)) (hK : K = 32) : f_X7_put F x1 g = some (nI 0, g) := by
  have x7 : g 39 3 = nI K := x.2.2.2.2.2.1
  unfold f_X7_put
  rw [x7, hK, if_pos rfl]
/-- rows f .. f + L - 1 again and again behind -/
def wsA (f L : Nat) (ws : Nat → Nat) (r : Nat) : Nat := if r < f + L then ws r else ws (f + (r - (f + L)) % L)
theorem wsA_per {f L : Nat} (ws : Nat → Nat) (i : Nat) : wsA f L ws (f + i) = wsA f L ws (f + L + i) := by
  unfold wsA
  rw [if_neg (show ¬ f + L + i < f + L by omega), show f + L + i - (f + L) = i by omega]
  by_cases z : i < L
  · rw [if_pos (by omega), Nat.mod_eq_of_lt z]
  · rw [if_neg (by omega), show f + i - (f + L) = i - L by omega, Nat.mod_eq_sub_mod (show i ≥ L by omega)]
theorem wsA_lo {f L : Nat} {ws : Nat → Nat} {r : Nat} (h : r < f + L) : wsA f L ws r = ws r := if_pos h
theorem again31 {F d f L T : Nat} {ws : Nat → Nat} {s : PSt} (hL : 0 < L) (hT : 1 ≤ T) (hb : f + L + L * (T - 1) ≤ 32) :
    ∀ (k i m : Nat) (h : HP), i + k = L * (T - 1) → k < m → XSt d h (sK s (f + L + i) (wsA f L ws)) → ∃ h', f_X5_tellAgain_31 F d (nI f) (nI T) m (nI L) (nI i) h = some (nI 1, h') ∧ XSt d h' (sK s (f + L + L * (T - 1)) (wsA f L ws)) ∧ PRx d h h' := by
  intro k
  induction k with
  | zero =>
    intro i m h hi hm x
    obtain ⟨m, rfl⟩ := succ_of hm
    refine ⟨h, ?_, ?_, PRx.refl _ _⟩
    · rw [f_X5_tellAgain_31, e_sub hT, e_mul, if_pos (by rw [e_le (by omega) (by omega)]; omega)]
    · rw [show L * (T - 1) = i by omega]; exact x
  | succ k ih =>
    intro i m h hi hm x
    obtain ⟨m, rfl⟩ := succ_of hm
    have xr : h (d + 4) (f + i) = nI (wsA f L ws (f + i)) := x.2.2.2.2.2.2 (f + i) (show f + i < f + L + i by omega)
    obtain ⟨h1, a1, a2, a3⟩ := addRow_n F (ws' := wsA f L ws) x (by omega) (fun _ _ => rfl) (wsA_per ws i).symm
    obtain ⟨h', b1, b2, b3⟩ := ih (i + 1) m h1 (by omega) (by omega) (by rw [← Nat.add_assoc]; exact a2)
    refine ⟨h', ?_, b2, a3.trans b3⟩
    rw [f_X5_tellAgain_31, e_sub hT, e_mul, if_neg (by rw [e_le (by omega) (by omega)]; omega), e_add, if_pos (inb_t (by omega) (by decide)), e_ix (by omega), xr, a1, ob_eq, e_add, b1]
theorem tellAgain_n {F d f L T : Nat} (hF : 600 ≤ F) {ws : Nat → Nat} {h : HP} {s : PSt} (hL : 0 < L) (hT : 1 ≤ T) (hT2 : T < 100) (hKb : f + L ≤ 32) (x : XSt d h (sK s (f + L) ws)) :
    (f + L + L * (T - 1) ≤ 32 ∧ ∃ h', f_X5_tellAgain F d (nI f) (nI T) h = some (nI 1, h') ∧ XSt d h' (sK s (f + L + L * (T - 1)) (wsA f L ws)) ∧ PRx d h h') ∨ (¬ f + L + L * (T - 1) ≤ 32 ∧ f_X5_tellAgain F d (nI f) (nI T) h = some (nI 0, h)) := by
  have x7 : h d 7 = nI (f + L) := x.2.2.2.2.2.1
  have hle : L * T ≤ 32 * 100 := Nat.mul_le_mul (by omega) (by omega)
  have hLT : L * T = L + L * (T - 1) := by
    obtain ⟨k, rfl⟩ : ∃ k, T = k + 1 := ⟨T - 1, by omega⟩
    rw [Nat.mul_succ, Nat.add_sub_cancel]; omega
  unfold f_X5_tellAgain
  rw [x7, if_neg (by rw [e_lt (by omega) (by decide)]; omega), e_sub (by omega), show f + L - f = L by omega, if_neg (by rw [e_lt (by omega) (by decide)]; omega), e_mul, e_add]
  by_cases z : f + L + L * (T - 1) ≤ 32
  · rw [if_pos (by rw [e_le (by omega) (by decide)]; omega)]
    obtain ⟨h', a1, a2, a3⟩ := again31 (F := F) (ws := ws) hL hT z (L * (T - 1)) 0 F h (by omega) (by omega) (x.ws (fun r hr => wsA_lo hr))
    exact Or.inl ⟨z, h', a1, a2, a3⟩
  · rw [if_neg (by rw [e_le (by omega) (by decide)]; omega)]
    exact Or.inr ⟨z, rfl⟩
theorem again17 {F f L a : Nat} {x2 : Int32} {k8 : Int32 → Int32 → HP → Option (Int32 × HP)} {ws : Nat → Nat} {s : PSt} (hL : 0 < L) (hK : f + L ≤ 32) (ha : a < 1000) :
    ∀ (k i m : Nat) (g : HP), i + k = L → k < m → f + L + (a * L + i) ≤ 32 → MSt g (sK s (f + L + (a * L + i)) (wsA f L ws)) →
      (f + L + (a + 1) * L ≤ 32 ∧ ∃ g', f_X7_tellsAgain_17 F (nI f) x2 k8 m (nI (f + L)) (nI (a + 1)) (nI (f + i)) g = k8 (nI (f + L)) (nI (a + 2)) g' ∧ MSt g' (sK s (f + L + (a + 1) * L) (wsA f L ws)) ∧ PRm g g') ∨ (¬ f + L + (a + 1) * L ≤ 32 ∧ ∃ g', f_X7_tellsAgain_17 F (nI f) x2 k8 m (nI (f + L)) (nI (a + 1)) (nI (f + i)) g = some (nI 0, g') ∧ PRm g g') := by
  have hs : (a + 1) * L = a * L + L := Nat.succ_mul a L
  intro k
  induction k with
  | zero =>
    intro i m g hi hm hb x
    obtain ⟨m, rfl⟩ := succ_of hm
    have hiL : i = L := by omega
    subst hiL
    refine Or.inl ⟨by omega, g, ?_, by rw [hs]; exact x, PRm.refl _⟩
    rw [f_X7_tellsAgain_17, if_pos (by rw [e_le (by omega) (by omega)]; exact Nat.le_refl _), e_add]
  | succ k ih =>
    intro i m g hi hm hb x
    obtain ⟨m, rfl⟩ := succ_of hm
    have xr : g 42 (f + i) = nI (wsA f L ws (f + i)) := x.2.2.2.2.2.2 (f + i) (show f + i < f + L + (a * L + i) by omega)
    rw [f_X7_tellsAgain_17, if_neg (by rw [e_le (by omega) (by omega)]; omega), if_pos (inb_t (by omega) (by decide)), e_ix (by omega), xr]
    by_cases z : f + L + (a * L + i) = 32
    · rw [mput_no F x z, ob_eq, if_pos rfl]
      exact Or.inr ⟨by omega, g, rfl, PRm.refl _⟩
    · have ev : wsA f L ws (f + L + (a * L + i)) = wsA f L ws (f + i) := by
        unfold wsA
        rw [if_neg (by omega), show f + L + (a * L + i) - (f + L) = a * L + i by omega, if_pos (show f + i < f + L by omega), Nat.mul_comm, Nat.mul_add_mod, Nat.mod_eq_of_lt (by omega)]
      obtain ⟨g1, a1, a2, a3⟩ := mput_n F (ws' := wsA f L ws) x (by omega) (fun _ _ => rfl) ev
      rw [a1, ob_eq, if_neg n1n0, e_add]
      rcases ih (i + 1) m g1 (by omega) (by omega) (by omega) (by rw [show f + L + (a * L + (i + 1)) = f + L + (a * L + i) + 1 by omega]; exact a2) with ⟨b0, g', b1, b2, b3⟩ | ⟨b0, g', b1, b3⟩
      · exact Or.inl ⟨b0, g', b1, b2, a3.trans b3⟩
      · exact Or.inr ⟨b0, g', b1, a3.trans b3⟩
theorem again8 {F f L T : Nat} (hF : 600 ≤ F) {ws : Nat → Nat} {s : PSt} (hL : 0 < L) (hK : f + L ≤ 32) (hT : T < 100) :
    ∀ (k a m : Nat) (g : HP), a + 1 + k = T → k < m → f + L + a * L ≤ 32 → MSt g (sK s (f + L + a * L) (wsA f L ws)) →
      (f + L + (T - 1) * L ≤ 32 ∧ ∃ g', f_X7_tellsAgain_8 F (nI f) (nI T) m (nI (f + L)) (nI (a + 1)) g = some (nI 1, g') ∧ MSt g' (sK s (f + L + (T - 1) * L) (wsA f L ws)) ∧ PRm g g') ∨ (¬ f + L + (T - 1) * L ≤ 32 ∧ ∃ g', f_X7_tellsAgain_8 F (nI f) (nI T) m (nI (f + L)) (nI (a + 1)) g = some (nI 0, g') ∧ PRm g g') := by
  intro k
  induction k with
  | zero =>
    intro a m g hi hm hb x
    obtain ⟨m, rfl⟩ := succ_of hm
    have : T - 1 = a := by omega
    rw [this]
    refine Or.inl ⟨hb, g, ?_, x, PRm.refl _⟩
    rw [f_X7_tellsAgain_8, if_pos (by rw [e_le (by omega) (by omega)]; omega)]
  | succ k ih =>
    intro a m g hi hm hb x
    obtain ⟨m, rfl⟩ := succ_of hm
    rw [f_X7_tellsAgain_8, if_neg (by rw [e_le (by omega) (by omega)]; omega)]
    rcases again17 (F := F) (x2 := nI T) (k8 := f_X7_tellsAgain_8 F (nI f) (nI T) m) (ws := ws) (s := s) hL hK (show a < 1000 by omega) L 0 F g (by omega) (by omega) hb x with ⟨b0, g1, b1, b2, b3⟩ | ⟨b0, g1, b1, b3⟩
    · rw [show f + 0 = f from rfl] at b1
      rw [b1]
      rcases ih (a + 1) m g1 (by omega) (by omega) b0 b2 with ⟨c0, g', c1, c2, c3⟩ | ⟨c0, g', c1, c3⟩
      · exact Or.inl ⟨c0, g', c1, c2, b3.trans c3⟩
      · exact Or.inr ⟨c0, g', c1, b3.trans c3⟩
    · rw [show f + 0 = f from rfl] at b1
      rw [b1]
      have : (a + 1) * L ≤ (T - 1) * L := Nat.mul_le_mul_right L (by omega)
      exact Or.inr ⟨by omega, g1, rfl, b3⟩
theorem tellsAgain_n {F f L T : Nat} (hF : 600 ≤ F) {ws : Nat → Nat} {g : HP} {s : PSt} (hL : 0 < L) (hT : 1 ≤ T) (hT2 : T < 100) (hK : f + L ≤ 32) (x : MSt g (sK s (f + L) ws)) :
    (f + L + L * (T - 1) ≤ 32 ∧ ∃ g', f_X7_tellsAgain F (nI f) (nI T) g = some (nI 1, g') ∧ MSt g' (sK s (f + L + L * (T - 1)) (wsA f L ws)) ∧ PRm g g') ∨ (¬ f + L + L * (T - 1) ≤ 32 ∧ ∃ g', f_X7_tellsAgain F (nI f) (nI T) g = some (nI 0, g') ∧ PRm g g') := by
  have x7 : g 39 3 = nI (f + L) := x.2.2.2.2.2.1
  unfold f_X7_tellsAgain
  rw [x7, Nat.mul_comm]
  exact again8 hF hL hK hT2 (T - 1) 0 F g (by omega) (by omega) (by omega) (by rw [Nat.zero_mul]; exact x.ws (fun r hr => wsA_lo (by omega)))
end
section
/-! ===== the text: chords ===== -/
theorem letter_n (F : Nat) {n : Nat} {t : Nat → Nat} {h : HP} {q B : Nat} (x : TXX n t h) (hq : h 1 2 = nI q) (hq2 : q < 1000) (hB : B ≤ 8) : f_X4_readBellLetter F (nI B) h = some (if 97 ≤ chr n t q ∧ chr n t q ≤ 96 + B then nI (chr n t q - 97) else -1, up h 1 2 (nI (q + 1))) := by
  have := chr_le x q
  unfold f_X4_readBellLetter
  rw [peek_n F x hq hq2, ob_eq, hq, e_add]
  by_cases z : chr n t q < 97
  · rw [if_pos ((sub48 (by omega) (by decide)).mpr z), if_neg (by omega)]
  · rw [if_neg (fun w => z ((sub48 (by omega) (by decide)).mp w)), e_sub (by omega), i_le (by omega) (by omega)]
    by_cases y : chr n t q ≤ 96 + B
    · rw [if_neg (by omega), if_pos (show 97 ≤ chr n t q ∧ chr n t q ≤ 96 + B by omega)]
    · rw [if_pos (by omega), if_neg (by omega)]
theorem bellHere_n (F : Nat) {n : Nat} {t : Nat → Nat} {g : HP} {q B : Nat} (y : TXM n t g) (gq : g 39 14 = nI q) (hq2 : q < 1000) (hB : B ≤ 8) (gB : g 41 0 = nI B) : f_X7_isBellHere F g = some (if 97 ≤ chr n t q ∧ chr n t q ≤ 96 + B then nI 1 else nI 0, g) := by
  unfold f_X7_isBellHere
  rw [here_n F y gq hq2, ob_eq, gB, e_add, ← l64 (show 96 + B < 2147483648 by omega), hIr_in F y.tb (by decide) (by decide) (by omega), ob_eq, if_pos (by split; exact Or.inr rfl; exact Or.inl rfl)]
def lastI (lp : Nat) : Int32 := if lp = 0 then -1 else nI (lp - 1)
theorem lastI_lt {lp b : Nat} (hl : lp ≤ 8) (hb : b < 100) : (lastI lp < nI b) = (lp ≤ b) := by
  unfold lastI
  apply propext
  by_cases z : lp = 0
  · rw [if_pos z]
    exact ⟨fun _ => by omega, fun _ => Int32.not_le.mp (m1_nle (by omega))⟩
  · rw [if_neg z, e_lt (by omega) (by omega)]
    omega
/-- the bells of a chord so far: S, of i letters, the last of them lp - 1 -/
def CH (B S i lp : Nat) : Prop := S < 2 ^ lp ∧ lp ≤ B ∧ i ≤ lp ∧ (lp = 0 ∨ 2 ^ (lp - 1) ≤ S)
theorem CH.shr {B S i lp b : Nat} (c : CH B S i lp) : (S / 2 ^ b = 0) = (lp ≤ b) := by
  obtain ⟨c1, c2, c3, c4⟩ := c
  have hp : 0 < 2 ^ b := Nat.two_pow_pos b
  apply propext
  constructor
  · intro h
    have hlt : S < 2 ^ b := by
      rcases Nat.lt_or_ge S (2 ^ b) with z | z
      · exact z
      · have := Nat.div_pos z hp; omega
    rcases c4 with z | z
    · omega
    · have : 2 ^ (lp - 1) < 2 ^ b := Nat.lt_of_le_of_lt z hlt
      have := (Nat.pow_lt_pow_iff_right (by decide)).mp this
      omega
  · intro h
    exact Nat.div_eq_of_lt (Nat.lt_of_lt_of_le c1 (Nat.pow_le_pow_right (by decide) h))
theorem set91_n (F : Nat) {n : Nat} {t : Nat → Nat} {h : HP} {q S : Nat} {x1 : Int32} (x : TXX n t h) (hq : h 1 2 = nI q) (hq2 : q < 1000) (hS : S < 256) : f_X4_readSet_91 F x1 (nI S) h = if chr n t q = 93 then (if 2 ≤ popc S then some (nI S, up h 1 2 (nI (q + 1))) else some (-1, up h 1 2 (nI (q + 1)))) else some (-1, h) := by
  have := popc_le S
  unfold f_X4_readSet_91
  rw [accept_n F x hq hq2 (by decide)]
  by_cases z : chr n t q = 93
  · rw [if_pos z, if_pos z, ob_eq, if_neg n1n0, bc_spec F hS, ob_eq, i_lt (by omega) (by decide)]
    by_cases y : 2 ≤ popc S
    · rw [if_neg (by omega), if_pos y]
    · rw [if_pos (by omega), if_neg y]
  · rw [if_neg z, if_neg z, ob_eq, if_pos rfl]
def ChOk (n B q : Nat) (cx cm : Option (Int32 × HP)) (h g : HP) : Prop := ∃ w h' g' q', 0 < w ∧ w < 2 ^ B ∧ cx = some (nI w, h') ∧ cm = some (nI w, g') ∧ PFx h h' ∧ PFm g g' ∧ h' 1 2 = nI q' ∧ g' 39 14 = nI q' ∧ q < q' ∧ q' ≤ n
def ChNo (cx cm : Option (Int32 × HP)) (h g : HP) : Prop := ∃ h' g', cx = some (-1, h') ∧ cm = some (-1, g') ∧ PFx h h' ∧ PFm g g'
theorem chord_sim {F : Nat} (hF : 600 ≤ F) {n : Nat} {t : Nat → Nat} {B : Nat} (hB : B ≤ 8) :
    ∀ (k q S i lp m m2 : Nat) (h g : HP), q + k = n → k < m → k < m2 → CH B S i lp → TXX n t h → TXM n t g → h 1 2 = nI q → g 39 14 = nI q → g 41 0 = nI B →
      ChOk n B q (f_X4_readSet_42 F (nI B) m (nI S) (nI i) h) (f_X7_chord_4 F m2 (nI S) (lastI lp) g) h g ∨ ChNo (f_X4_readSet_42 F (nI B) m (nI S) (nI i) h) (f_X7_chord_4 F m2 (nI S) (lastI lp) g) h g := by
  intro k
  induction k with
  | zero =>
    intro q S i lp m m2 h g hk hm hm2 c x y hq gq gB
    obtain ⟨m, rfl⟩ := succ_of hm
    obtain ⟨m2, rfl⟩ := succ_of hm2
    have hn := x.1
    have hc : chr n t q = 0 := by unfold chr; rw [if_neg (by omega)]
    have h8 := Nat.pow_le_pow_right (show 0 < 2 by decide) (show lp ≤ 8 from Nat.le_trans c.2.1 hB)
    have hS : S < 256 := Nat.lt_of_lt_of_le c.1 h8
    have hi : i ≤ 8 := Nat.le_trans c.2.2.1 (Nat.le_trans c.2.1 hB)
    refine Or.inr ?_
    have eM : f_X7_chord_4 F (m2 + 1) (nI S) (lastI lp) g = some (-1, g) := by
      rw [f_X7_chord_4, bellHere_n F y gq (by omega) hB gB, hc, if_neg (by omega), ob_eq, if_pos rfl, here_n F y gq (by omega), ob_eq, hIr_eq y.tb (by decide) (by decide), hc, if_neg (by decide)]
    by_cases z : i = 8
    · exact ⟨h, g, by rw [f_X4_readSet_42, if_pos (by rw [e_le (by decide) (by omega)]; omega), set91_n F x hq (by omega) hS, hc, if_neg (by decide)], eM, PFx.refl _, PFm.refl _⟩
    · exact ⟨_, g, by rw [f_X4_readSet_42, if_neg (by rw [e_le (by decide) (by omega)]; omega), peek_n F x hq (by omega), hc, ob_eq, if_neg (by decide), letter_n F x hq (by omega) hB, hc, if_neg (by omega), ob_eq, if_pos (by decide)], eM, PFx.up _ _, PFm.refl _⟩
  | succ k ih =>
    intro q S i lp m m2 h g hk hm hm2 c x y hq gq gB
    obtain ⟨m, rfl⟩ := succ_of hm
    obtain ⟨m2, rfl⟩ := succ_of hm2
    have hn := x.1
    have h8 := Nat.pow_le_pow_right (show 0 < 2 by decide) (show lp ≤ 8 from Nat.le_trans c.2.1 hB)
    have hS : S < 256 := Nat.lt_of_lt_of_le c.1 h8
    have hi : i ≤ 8 := Nat.le_trans c.2.2.1 (Nat.le_trans c.2.1 hB)
    have hlpB := c.2.1
    have hilp := c.2.2.1
    have hcl := chr_le x q
    by_cases c93 : chr n t q = 93
    · have eX : f_X4_readSet_42 F (nI B) (m + 1) (nI S) (nI i) h = f_X4_readSet_91 F (nI B) (nI S) h := by
        rw [f_X4_readSet_42, peek_n F x hq (by omega), c93, ob_eq, if_pos (show nI 93 = nI 93 from rfl)]
        split <;> rfl
      have eM : f_X7_chord_4 F (m2 + 1) (nI S) (lastI lp) g = if 2 ≤ popc S then some (nI S, up g 39 14 (nI (q + 1))) else some (-1, g) := by
        have := popc_le S
        rw [f_X7_chord_4, bellHere_n F y gq (by omega) hB gB, c93, if_neg (by omega), ob_eq, if_pos rfl, here_n F y gq (by omega), ob_eq, hIr_eq y.tb (by decide) (by decide), c93, if_pos rfl, bits_spec hF hS, ob_eq, i_le (by decide) (by omega), gq, e_add]
      rw [eX, eM, set91_n F x hq (by omega) hS, if_pos c93]
      by_cases z : 2 ≤ popc S
      · rw [if_pos z, if_pos z]
        have hS0 : 0 < S := by
          rcases Nat.eq_zero_or_pos S with e | e
          · rw [e] at z; exact absurd z (by decide)
          · exact e
        have hSB : S < 2 ^ B := Nat.lt_of_lt_of_le c.1 (Nat.pow_le_pow_right (by decide) hlpB)
        exact Or.inl ⟨S, _, _, q + 1, hS0, hSB, rfl, rfl, PFx.up _ _, PFm.up _ _, up_s, up_s, by omega, by omega⟩
      · rw [if_neg z, if_neg z]
        exact Or.inr ⟨_, _, rfl, rfl, PFx.up _ _, PFm.refl _⟩
    · by_cases bl : 97 ≤ chr n t q ∧ chr n t q ≤ 96 + B
      · have eM : f_X7_chord_4 F (m2 + 1) (nI S) (lastI lp) g = if lp ≤ chr n t q - 97 then f_X7_chord_4 F m2 (nI (S ||| 2 ^ (chr n t q - 97))) (nI (chr n t q - 97)) (up g 39 14 (nI (q + 1))) else some (-1, g) := by
          rw [f_X7_chord_4, bellHere_n F y gq (by omega) hB gB, if_pos bl, ob_eq, if_neg n1n0, here_n F y gq (by omega), ob_eq, hIr_c rfl (by omega), e_sub (by omega), gq, e_add, e_one (by omega), e_or]
          by_cases z : lp ≤ chr n t q - 97
          · rw [if_pos z, if_pos (by rw [lastI_lt (by omega) (by omega)]; exact z)]
          · rw [if_neg z, if_neg (by rw [lastI_lt (by omega) (by omega)]; exact z)]
        by_cases z8 : i = 8
        · rw [eM, if_neg (by omega), f_X4_readSet_42, if_pos (by rw [e_le (by decide) (by omega)]; omega), set91_n F x hq (by omega) hS, if_neg c93]
          exact Or.inr ⟨_, _, rfl, rfl, PFx.refl _, PFm.refl _⟩
        · have eX : f_X4_readSet_42 F (nI B) (m + 1) (nI S) (nI i) h = if lp ≤ chr n t q - 97 then f_X4_readSet_42 F (nI B) m (nI (S ||| 2 ^ (chr n t q - 97))) (nI (i + 1)) (up h 1 2 (nI (q + 1))) else some (-1, up h 1 2 (nI (q + 1))) := by
            have hSd : S / 2 ^ (chr n t q - 97) < 2147483648 := Nat.lt_of_le_of_lt (Nat.div_le_self _ _) (by omega)
            rw [f_X4_readSet_42, if_neg (by rw [e_le (by decide) (by omega)]; omega), peek_n F x hq (by omega), ob_eq, i_eq (by omega) (by decide), if_neg c93, letter_n F x hq (by omega) hB, if_pos bl, ob_eq, if_neg (by rw [e_lt (by omega) (by decide)]; omega), e_shr (by omega) (by omega), i_eq hSd (by decide), e_one (by omega), e_or, e_add]
            by_cases z : lp ≤ chr n t q - 97
            · rw [if_pos z, if_pos (by rw [c.shr]; exact z)]
            · rw [if_neg z, if_neg (by rw [c.shr]; exact z)]
          rw [eX, eM]
          by_cases z : lp ≤ chr n t q - 97
          · rw [if_pos z, if_pos z]
            have hSb : S < 2 ^ (chr n t q - 97) := Nat.lt_of_lt_of_le c.1 (Nat.pow_le_pow_right (by decide) z)
            have c' : CH B (S ||| 2 ^ (chr n t q - 97)) (i + 1) (chr n t q - 97 + 1) := by
              rw [or_pow hSb]
              refine ⟨by rw [Nat.pow_succ]; omega, by omega, by omega, Or.inr ?_⟩
              rw [Nat.add_sub_cancel]; omega
            have el : lastI (chr n t q - 97 + 1) = nI (chr n t q - 97) := by unfold lastI; rw [if_neg (by omega), Nat.add_sub_cancel]
            have px := PFx.up h (nI (q + 1))
            have pm := PFm.up g (nI (q + 1))
            rcases ih (q + 1) _ (i + 1) _ m m2 (up h 1 2 (nI (q + 1))) (up g 39 14 (nI (q + 1))) (by omega) (by omega) (by omega) c' (x.pf px) (y.pf pm) up_s up_s (by rw [up_c (by decide)]; exact gB) with ⟨w, h', g', q', a1, a2, a3, a4, a5, a6, a7, a8, a9, a10⟩ | ⟨h', g', a3, a4, a5, a6⟩
            · rw [el] at a4
              exact Or.inl ⟨w, h', g', q', a1, a2, a3, a4, px.trans a5, pm.trans a6, a7, a8, by omega, a10⟩
            · rw [el] at a4
              exact Or.inr ⟨h', g', a3, a4, px.trans a5, pm.trans a6⟩
          · rw [if_neg z, if_neg z]
            exact Or.inr ⟨_, _, rfl, rfl, PFx.up _ _, PFm.refl _⟩
      · have eM : f_X7_chord_4 F (m2 + 1) (nI S) (lastI lp) g = some (-1, g) := by
          rw [f_X7_chord_4, bellHere_n F y gq (by omega) hB gB, if_neg bl, ob_eq, if_pos rfl, here_n F y gq (by omega), ob_eq, hIr_eq y.tb (by decide) (by decide), if_neg c93]
        refine Or.inr ?_
        by_cases z8 : i = 8
        · exact ⟨h, g, by rw [f_X4_readSet_42, if_pos (by rw [e_le (by decide) (by omega)]; omega), set91_n F x hq (by omega) hS, if_neg c93], eM, PFx.refl _, PFm.refl _⟩
        · exact ⟨_, g, by rw [f_X4_readSet_42, if_neg (by rw [e_le (by decide) (by omega)]; omega), peek_n F x hq (by omega), ob_eq, i_eq (by omega) (by decide), if_neg c93, letter_n F x hq (by omega) hB, if_neg bl, ob_eq, if_pos (by decide)], eM, PFx.up _ _, PFm.refl _⟩
end
section
/-! ===== the text: a tune ===== -/
def TI (n d q o : Nat) (h g : HP) (s : PSt) : Prop := XSt d h s ∧ MSt g s ∧ POK s ∧ h 1 2 = nI q ∧ g 39 14 = nI q ∧ q ≤ n ∧ o ≤ 3 ∧ ∀ j, j < o → ∃ f, f ≤ s.2.2.2.2.2.2.1 ∧ h 3 j = nI f ∧ g 50 j = nI f
theorem XSt.c3 {d j : Nat} {v : Int32} {h : HP} {s : PSt} (hd : TDc d) (x : XSt d h s) : XSt d (up h 3 j v) s := by
  unfold TDc at hd
  unfold XSt
  rw [up_c (show d ≠ 3 by omega), up_c (show d + 1 ≠ 3 by omega), up_c (show d + 2 ≠ 3 by omega), up_c (show d + 3 ≠ 3 by omega), up_c (show d + 4 ≠ 3 by omega)]
  exact x
theorem MSt.c50 {j : Nat} {v : Int32} {h : HP} {s : PSt} (x : MSt h s) : MSt (up h 50 j v) s := by
  unfold MSt
  rw [up_c (show 41 ≠ 50 by decide), up_c (show 39 ≠ 50 by decide), up_c (show 42 ≠ 50 by decide)]
  exact x
theorem row_sim (F : Nat) {d w : Nat} {h g : HP} {s : PSt} (x : XSt d h s) (y : MSt g s) (p : POK s) (hw : w < 2 ^ s.1) :
    (∃ h' g' s', f_X5_addRow F d (nI w) h = some (nI 1, h') ∧ f_X7_put F (nI w) g = some (nI 1, g') ∧ XSt d h' s' ∧ MSt g' s' ∧ POK s' ∧ s.2.2.2.2.2.2.1 ≤ s'.2.2.2.2.2.2.1 ∧ PRx d h h' ∧ PRm g g') ∨ (f_X5_addRow F d (nI w) h = some (nI 0, h) ∧ f_X7_put F (nI w) g = some (nI 0, g)) := by
  obtain ⟨B, N, R, T, M, ht, K, ws⟩ := s
  obtain ⟨p0, p1, p2, p3, p4, p5, p6, p7⟩ := p
  dsimp only at p0 p1 p2 p3 p4 p5 p6 p7 hw ⊢
  have x' : XSt d h (sK (B, N, R, T, M, ht, K, ws) K ws) := x
  have y' : MSt g (sK (B, N, R, T, M, ht, K, ws) K ws) := y
  by_cases z : K < 32
  · have e1 : ∀ r, r < K → updN ws K w r = ws r := fun r hr => by unfold updN; rw [if_neg (by omega)]
    have e2 : updN ws K w K = w := by unfold updN; rw [if_pos rfl]
    obtain ⟨h', a1, a2, a3⟩ := addRow_n F x' z e1 e2
    obtain ⟨g', b1, b2, b3⟩ := mput_n F y' z e1 e2
    refine Or.inl ⟨h', g', _, a1, b1, a2, b2, ⟨p0, p1, p2, p3, p4, p5, z, fun r hr => ?_⟩, Nat.le_succ K, a3, b3⟩
    show updN ws K w r < 2 ^ B
    unfold updN
    by_cases zz : r = K
    · rw [if_pos zz]; exact hw
    · rw [if_neg zz]; exact p7 r (by
        have : r < K + 1 := hr
        omega)
  · exact Or.inr ⟨addRow_no F x' (by omega) (by omega), mput_no F y' (by omega)⟩
theorem POK.again {s : PSt} {f L T : Nat} (p : POK s) (hK : s.2.2.2.2.2.2.1 = f + L) (hL : 0 < L) (hb : f + L + L * (T - 1) ≤ 32) : POK (sK s (f + L + L * (T - 1)) (wsA f L s.2.2.2.2.2.2.2)) := by
  obtain ⟨p0, p1, p2, p3, p4, p5, p6, p7⟩ := p
  refine ⟨p0, p1, p2, p3, p4, p5, hb, fun r hr => ?_⟩
  show wsA f L s.2.2.2.2.2.2.2 r < 2 ^ s.1
  unfold wsA
  by_cases z : r < f + L
  · rw [if_pos z]; exact p7 r (by omega)
  · rw [if_neg z]
    have := Nat.mod_lt (r - (f + L)) hL
    exact p7 _ (by omega)
/-- a part more: both go on, or both refuse -/
def TGo (F n : Nat) (t : Nat → Nat) (d q o i m m2 : Nat) (h g : HP) : Prop := ∃ h1 g1 o1 q1 s1, f_X4_readTune_18 F d (m + 1) (nI o) (nI i) h = f_X4_readTune_18 F d m (nI o1) (nI (i + 1)) h1 ∧ f_X7_takesTune_16 F (m2 + 1) (nI o) g = f_X7_takesTune_16 F m2 (nI o1) g1 ∧ TI n d q1 o1 h1 g1 s1 ∧ q < q1 ∧ FXt d h h1 ∧ FMt g g1
def TNo (cx cm : Option (Int32 × HP)) (d : Nat) (h g : HP) : Prop := ∃ h1 g1, cx = some (nI 0, h1) ∧ cm = some (nI 0, g1) ∧ FXt d h h1 ∧ FMt g g1
theorem tx_eq {F : Nat} {n : Nat} {t : Nat → Nat} {d q i m : Nat} {x2 : Int32} {h : HP} (x : TXX n t h) (hq : h 1 2 = nI q) (hq2 : q < 900) (hi : i < 200) (hc : ¬ chr n t q = 59) : f_X4_readTune_18 F d (m + 1) x2 (nI i) h = if chr n t q = 40 then (if x2 < (nI 3) then if inb x2 3 then f_X4_readTune_18 F d m (x2 + (nI 1)) (nI (i + 1)) (up (up h 1 2 (nI (q + 1))) 3 (ix x2) ((up h 1 2 (nI (q + 1))) d 7)) else none else some ((nI 0), up h 1 2 (nI (q + 1)))) else if chr n t q = 41 then
          (ob (f_X4_readFigure F (up h 1 2 (nI (q + 1)))) (fun v25 h23 =>
            if x2 < (nI 1) then
              some ((nI 0), h23)
            else
              if v25 < (nI 2) then
                some ((nI 0), h23)
              else
                if inb (x2 - (nI 1)) 3 then
                  ob (f_X5_tellAgain F d (h23 3 (ix (x2 - (nI 1)))) v25 h23) (fun v31 h29 =>
                  if v31 = nI 0 then
                    some ((nI 0), h29)
                  else
                    f_X4_readTune_18 F d m (x2 + (-1)) (nI (i + 1)) h29)
                else none))
          else
            ob (f_X4_readSet F (h d 0) h) (fun v17 h15 =>
            if v17 < nI 0 then
              some ((nI 0), h15)
            else
              ob (f_X5_addRow F d v17 h15) (fun v21 h19 =>
              if v21 = nI 0 then
                some ((nI 0), h19)
              else
                f_X4_readTune_18 F d m x2 (nI (i + 1)) h19)) := by
  have := chr_le x q
  rw [f_X4_readTune_18, if_neg (by rw [e_le (by decide) (by omega)]; omega), peek_n F x hq (by omega), ob_eq, i_eq (by omega) (by decide), if_neg hc, accept_n F x hq (by omega) (by decide), e_add]
  by_cases z : chr n t q = 40
  · rw [if_pos z, if_pos z, ob_eq, if_neg n1n0]
  · rw [if_neg z, if_neg z, ob_eq, if_pos rfl, accept_n F x hq (by omega) (by decide)]
    by_cases y : chr n t q = 41
    · rw [if_pos y, if_pos y, ob_eq, if_neg n1n0]
    · rw [if_neg y, if_neg y, ob_eq, if_pos rfl]
theorem tm_eq {F : Nat} {n : Nat} {t : Nat → Nat} {q B m : Nat} {x1 : Int32} {g : HP} (y : TXM n t g) (gq : g 39 14 = nI q) (hq2 : q < 900) (hB : B ≤ 8) (gB : g 41 0 = nI B) (hc : ¬ chr n t q = 59) : f_X7_takesTune_16 F (m + 1) x1 g = if 97 ≤ chr n t q ∧ chr n t q ≤ 96 + B then (ob (f_X7_put F (nI (2 ^ (chr n t q - 97))) (up g 39 14 (nI (q + 1)))) (fun v32 h30 =>
        f_X7_takesTune_263 F (f_X7_takesTune_16 F m) x1 v32 h30)) else if chr n t q = 46 then (ob (f_X7_put F (nI 0) (up g 39 14 (nI (q + 1)))) (fun v29 h27 =>
          f_X7_takesTune_263 F (f_X7_takesTune_16 F m) x1 v29 h27)) else if chr n t q = 91 then
            (ob (f_X7_chord F (up g 39 14 (nI (q + 1)))) (fun v22 h20 =>
            if v22 ≤ nI 0 then
              f_X7_takesTune_128 F (f_X7_takesTune_16 F m) x1 h20
            else
              ob (f_X7_put F v22 h20) (fun v26 h24 =>
              f_X7_takesTune_263 F (f_X7_takesTune_16 F m) x1 (if v26 = nI 0 then (nI 0) else (nI 1)) h24)))
          else
            if chr n t q = 40 then
              if (nI 3) ≤ x1 then
                some (nI 0, g)
              else
                if inb x1 3 then
                  f_X7_takesTune_16 F m (x1 + (nI 1)) (up (up g 39 14 (nI (q + 1))) 50 (ix x1) ((up g 39 14 (nI (q + 1))) 39 3))
                else none
            else
              if chr n t q = 41 then f_X7_takesTune_172 F (f_X7_takesTune_16 F m) x1 (nI 41) (nI 0) g else some (nI 0, g) := by
  rw [f_X7_takesTune_16, here_n F y gq (by omega), ob_eq, hIr_eq y.tb (by decide) (by decide), if_neg hc, here_n F y gq (by omega), ob_eq, bellHere_n F y gq (by omega) hB gB, ob_eq, gq, e_add]
  by_cases bl : 97 ≤ chr n t q ∧ chr n t q ≤ 96 + B
  · rw [if_pos bl, if_pos bl, if_neg n1n0, hIr_c rfl (by omega), e_sub (by omega), e_one (by omega)]
  · rw [if_neg bl, if_neg bl, if_pos rfl, hIr_eq y.tb (by decide) (by decide), hIr_eq y.tb (by decide) (by decide), hIr_eq y.tb (by decide) (by decide)]
    by_cases z1 : chr n t q = 46
    · rw [if_pos z1, if_pos z1]
    · rw [if_neg z1, if_neg z1]
      by_cases z2 : chr n t q = 91
      · rw [if_pos z2, if_pos z2]
      · rw [if_neg z2, if_neg z2]
        by_cases z3 : chr n t q = 40
        · rw [if_pos z3, if_pos z3]
          by_cases z5 : nI 3 ≤ x1
          · rw [if_pos z5, if_pos z5]
            unfold f_X7_takesTune_172 f_X7_takesTune_263
            rw [if_pos rfl, hIr_eq y.tb (by decide) (by decide), if_neg (by omega)]
          · rw [if_neg z5, if_neg z5]
            unfold f_X7_takesTune_263
            rw [if_neg n1n0]
        · rw [if_neg z3, if_neg z3]
          by_cases z4 : chr n t q = 41
          · rw [if_pos z4, hIr_c z4 (by decide)]
          · rw [if_neg z4]
            unfold f_X7_takesTune_172 f_X7_takesTune_263
            rw [if_pos rfl, hIr_eq y.tb (by decide) (by decide), if_neg z4]
/-- a row comes, behind what told it -/
theorem row_go {F n : Nat} {t : Nat → Nat} {d q q1 o i m m2 w : Nat} {h g hr gr : HP} {s : PSt} (hd : TDc d) (p : TI n d q o h g s) (px : PFx h hr) (pm : PFm g gr) (hq1 : hr 1 2 = nI q1) (gq1 : gr 39 14 = nI q1) (hlt : q < q1) (hle : q1 ≤ n) (hw : w < 2 ^ s.1)
    (eX : f_X4_readTune_18 F d (m + 1) (nI o) (nI i) h = ob (f_X5_addRow F d (nI w) hr) (fun v21 h19 => if v21 = nI 0 then some ((nI 0), h19) else f_X4_readTune_18 F d m (nI o) (nI (i + 1)) h19))
    (eM : ∀ v32 h30, f_X7_put F (nI w) gr = some (v32, h30) → v32 = nI 0 ∨ v32 = nI 1 → f_X7_takesTune_16 F (m2 + 1) (nI o) g = f_X7_takesTune_263 F (f_X7_takesTune_16 F m2) (nI o) v32 h30) :
    TGo F n t d q o i m m2 h g ∨ TNo (f_X4_readTune_18 F d (m + 1) (nI o) (nI i) h) (f_X7_takesTune_16 F (m2 + 1) (nI o) g) d h g := by
  obtain ⟨p1, p2, p3, p4, p5, p6, p7, p8⟩ := p
  have hd' := hd
  unfold TDc at hd'
  unfold f_X7_takesTune_263 at eM
  rcases row_sim F (p1.pf hd px) (p2.pf pm) p3 hw with ⟨h', g', s', a1, a2, a3, a4, a5, a6, a7, a8⟩ | ⟨a1, a2⟩
  · refine Or.inl ⟨h', g', o, q1, s', by rw [eX, a1, ob_eq, if_neg n1n0], by rw [eM _ _ a2 (Or.inr rfl), if_neg n1n0], ⟨a3, a4, a5, by rw [a7 1 (by omega) (by omega)]; exact hq1, by rw [a8.2 14 (by decide)]; exact gq1, hle, p7, fun j hj => ?_⟩, hlt, (px.f d).trans (a7.f hd), pm.f.trans a8.f⟩
    obtain ⟨f, f1, f2, f3⟩ := p8 j hj
    exact ⟨f, Nat.le_trans f1 a6, by rw [a7 3 (by omega) (by omega), px.1 3 (by decide)]; exact f2, by rw [a8.1 50 (by decide) (by decide), pm.1 50 (by decide)]; exact f3⟩
  · exact Or.inr ⟨hr, gr, by rw [eX, a1, ob_eq, if_pos rfl], by rw [eM _ _ a2 (Or.inl rfl), if_pos rfl], px.f d, pm.f⟩
end
section
/-! ===== the text: a tune, part by part ===== -/
theorem FXt.c3 (d j : Nat) (v : Int32) (h : HP) : FXt d h (up h 3 j v) := ⟨fun z _ h2 _ => up_c h2, fun j _ => by rw [up_c (by decide)]⟩
theorem FMt.c50 (j : Nat) (v : Int32) (g : HP) : FMt g (up g 50 j v) := ⟨fun z _ _ _ _ h5 => up_c h5, fun j _ _ _ => by rw [up_c (by decide)]⟩
theorem nI_dec {o : Nat} (h : 1 ≤ o) : nI o + (-1) = nI (o - 1) := by
  have : nI o - nI 1 = nI (o - 1) := e_sub h
  rw [← this]
  apply Int32.toBitVec_inj.mp
  simp only [Int32.toBitVec_add, Int32.toBitVec_sub]
  rw [BitVec.sub_eq_add_neg]
  rfl
theorem tune_step {F : Nat} (hF : 600 ≤ F) {n : Nat} {t : Nat → Nat} {d q o i m m2 : Nat} {h g : HP} {s : PSt} (hd : TDc d) (x : TXX n t h) (y : TXM n t g) (p : TI n d q o h g s) (hi : i < 200) (hc : ¬ chr n t q = 59) :
    TGo F n t d q o i m m2 h g ∨ TNo (f_X4_readTune_18 F d (m + 1) (nI o) (nI i) h) (f_X7_takesTune_16 F (m2 + 1) (nI o) g) d h g := by
  have p' := p
  obtain ⟨p1, p2, p3, hq, gq, p6, p7, p8⟩ := p'
  have hn := x.1
  have hd' := hd
  unfold TDc at hd'
  have hB := p3.1
  have hK := p3.2.2.2.2.2.2.1
  have hcl := chr_le x q
  have hdB : h d 0 = nI s.1 := p1.1
  have hd7 : h d 7 = nI s.2.2.2.2.2.2.1 := p1.2.2.2.2.2.1
  have gB : g 41 0 = nI s.1 := p2.1
  have g3 : g 39 3 = nI s.2.2.2.2.2.2.1 := p2.2.2.2.2.2.1
  have px := PFx.up h (nI (q + 1))
  have pm := PFm.up g (nI (q + 1))
  have ex := tx_eq (F := F) (d := d) (m := m) (x2 := nI o) x hq (by omega) hi hc
  have em := tm_eq (F := F) (m := m2) (x1 := nI o) y gq (by omega) hB gB hc
  by_cases c40 : chr n t q = 40
  · have hqn : q < n := chr_pos c40 (by decide)
    rw [if_pos c40] at ex
    rw [if_neg (by omega), if_neg (by omega), if_neg (by omega), if_pos c40] at em
    by_cases z : o < 3
    · rw [if_pos (by rw [e_lt (by omega) (by decide)]; exact z), if_pos (inb_t z (by decide)), e_ix (by omega), e_add, up_c (show d ≠ 1 by omega), hd7] at ex
      rw [if_neg (by rw [e_le (by decide) (by omega)]; omega), if_pos (inb_t z (by decide)), e_ix (by omega), e_add, up_n (show 3 ≠ 14 by decide), g3] at em
      refine Or.inl ⟨_, _, o + 1, q + 1, s, ex, em, ⟨(p1.pf hd px).c3 hd, (p2.pf pm).c50, p3, by rw [up_c (by decide), up_s], by rw [up_c (by decide), up_s], by omega, by omega, fun j hj => ?_⟩, by omega, (px.f d).trans (FXt.c3 _ _ _ _), pm.f.trans (FMt.c50 _ _ _)⟩
      by_cases zz : j = o
      · rw [zz]; exact ⟨_, Nat.le_refl _, up_s, up_s⟩
      · obtain ⟨f, f1, f2, f3⟩ := p8 j (by omega)
        exact ⟨f, f1, by rw [up_n zz, up_c (by decide)]; exact f2, by rw [up_n zz, up_c (by decide)]; exact f3⟩
    · rw [if_neg (by rw [e_lt (by omega) (by decide)]; exact z)] at ex
      rw [if_pos (by rw [e_le (by decide) (by omega)]; omega)] at em
      exact Or.inr ⟨_, _, ex, em, px.f d, FMt.refl _⟩
  · rw [if_neg c40] at ex
    by_cases c41 : chr n t q = 41
    · have hqn : q < n := chr_pos c41 (by decide)
      rw [if_pos c41] at ex
      rw [if_neg (by omega), if_neg (by omega), if_neg (by omega), if_neg c40, if_pos c41] at em
      unfold f_X7_takesTune_172 f_X7_takesTune_261 f_X7_takesTune_262 f_X7_takesTune_263 at em
      rw [if_pos rfl] at em
      by_cases zo : o = 0
      · rw [if_pos (by rw [e_le (by omega) (by decide)]; omega), if_pos rfl] at em
        rcases figure_n F (x.pf px) up_s (show q + 1 < 1000 by omega) with ⟨dg, e⟩ | ⟨dg, e⟩
        · rw [e, ob_eq, if_pos (by rw [e_lt (by omega) (by decide)]; omega)] at ex
          exact Or.inr ⟨_, _, ex, em, (px.trans (PFx.up _ _)).f d, FMt.refl _⟩
        · rw [e, ob_eq, if_pos (by rw [e_lt (by omega) (by decide)]; omega)] at ex
          exact Or.inr ⟨_, _, ex, em, px.f d, FMt.refl _⟩
      · have pm2 := pm.trans (PFm.up (up g 39 14 (nI (q + 1))) (nI (q + 2)))
        obtain ⟨f, f1, f2, f3⟩ := p8 (o - 1) (by omega)
        rw [if_neg (by rw [e_le (by omega) (by decide)]; omega), gq, e_add, here_n F (y.pf pm) up_s (by omega), ob_eq, up_s, e_add] at em
        have eIn : f_X7_in F ((hIr n t (q + 1) - nI 48).toInt64) (lN 2) (lN 9) (up (up g 39 14 (nI (q + 1))) 39 14 (nI (q + 1 + 1))) = some (if 50 ≤ chr n t (q + 1) ∧ chr n t (q + 1) ≤ 57 then nI 1 else nI 0, up (up g 39 14 (nI (q + 1))) 39 14 (nI (q + 1 + 1))) := by
          have hcl1 := chr_le x (q + 1)
          rw [l64 (show 2 < 2147483648 by decide), l64 (show 9 < 2147483648 by decide), in_spec]
          by_cases z : 48 ≤ chr n t (q + 1)
          · rw [hIr_c rfl (by omega), e_sub z]
            by_cases zz : 50 ≤ chr n t (q + 1) ∧ chr n t (q + 1) ≤ 57
            · rw [if_pos zz, if_pos (by rw [e_le (by decide) (by omega), e_le (by omega) (by decide)]; omega)]
            · rw [if_neg zz, if_neg (by rw [e_le (by decide) (by omega), e_le (by omega) (by decide)]; omega)]
          · rw [if_neg (show ¬ (50 ≤ chr n t (q + 1) ∧ chr n t (q + 1) ≤ 57) by omega), if_neg]
            intro w
            by_cases z0 : chr n t (q + 1) = 0
            · have hnn : ¬ q + 1 < n := fun w2 => by
                have := (y.2.2 (q + 1) w2).2.1
                unfold chr at z0
                rw [if_pos w2] at z0
                omega
              have : hIr n t (q + 1) = -1 := by unfold hIr; rw [if_neg hnn]
              rw [this] at w
              exact absurd w.1 (by decide)
            · rw [hIr_c rfl z0] at w
              have := (sub48 (c := chr n t (q + 1)) (a := 48) (by omega) (by decide)).mpr (by omega)
              exact absurd (Int32.lt_of_lt_of_le this (Int32.le_trans (show nI 0 ≤ nI 2 by decide) w.1)) Int32.lt_irrefl
        rw [eIn, ob_eq, nI_dec (by omega), if_pos (show nI 0 = nI 0 from rfl), if_pos (inb_t (show o - 1 < 3 by omega) (by decide)), e_ix (by omega)] at em
        have fk : (up (up g 39 14 (nI (q + 1))) 39 14 (nI (q + 1 + 1))) 50 (o - 1) = nI f := by rw [up_c (by decide), up_c (by decide)]; exact f3
        have k3 : (up (up g 39 14 (nI (q + 1))) 39 14 (nI (q + 1 + 1))) 39 3 = nI s.2.2.2.2.2.2.1 := by rw [up_n (by decide), up_n (by decide)]; exact g3
        rw [fk, k3, i_le (by omega) (by omega)] at em
        rcases figure_n F (x.pf px) up_s (show q + 1 < 1000 by omega) with ⟨dg, e⟩ | ⟨dg, e⟩
        · have hdg := dg
          unfold isd at hdg
          have px2 := px.trans (PFx.up (up h 1 2 (nI (q + 1))) (nI (q + 1 + 1)))
          have hq1n : q + 1 < n := chr_lt (t := t) (by omega)
          rw [e, ob_eq, if_neg (by rw [e_lt (by omega) (by decide)]; omega), i_lt (by omega) (by decide)] at ex
          by_cases z2 : chr n t (q + 1) - 48 < 2
          · rw [if_pos z2] at ex
            rw [if_neg (show ¬ (50 ≤ chr n t (q + 1) ∧ chr n t (q + 1) ≤ 57) by omega), if_pos rfl] at em
            exact Or.inr ⟨_, _, ex, em, px2.f d, pm2.f⟩
          · have fx : (up (up h 1 2 (nI (q + 1))) 1 2 (nI (q + 1 + 1))) 3 (o - 1) = nI f := by rw [up_c (by decide), up_c (by decide)]; exact f2
            rw [if_neg z2, e_sub (show 1 ≤ o by omega), if_pos (inb_t (by omega) (by decide)), e_ix (by omega), fx, nI_dec (by omega)] at ex
            rw [if_pos (show 50 ≤ chr n t (q + 1) ∧ chr n t (q + 1) ≤ 57 by omega), if_neg n1n0, hIr_c rfl (by omega), e_sub (by omega)] at em
            obtain ⟨B, N, R, T, M, ht, K, ws⟩ := s
            dsimp only at f1 em hK
            have xs2 := p1.pf hd px2
            have ms2 := p2.pf pm2
            by_cases z3 : K ≤ f
            · have hfK : f = K := by omega
              rw [if_pos z3] at em
              have x7 : (up (up h 1 2 (nI (q + 1))) 1 2 (nI (q + 1 + 1))) d 7 = nI K := xs2.2.2.2.2.2.1
              have e0 : f_X5_tellAgain F d (nI f) (nI (chr n t (q + 1) - 48)) (up (up h 1 2 (nI (q + 1))) 1 2 (nI (q + 1 + 1))) = some (nI 0, up (up h 1 2 (nI (q + 1))) 1 2 (nI (q + 1 + 1))) := by
                unfold f_X5_tellAgain
                rw [x7, if_neg (by rw [e_lt (by omega) (by decide)]; omega), e_sub (by omega), if_pos (by rw [e_lt (by omega) (by decide)]; omega)]
              rw [e0, ob_eq, if_pos rfl] at ex
              exact Or.inr ⟨_, _, ex, em, px2.f d, pm2.f⟩
            · obtain ⟨L, rfl⟩ : ∃ L, K = f + L := ⟨K - f, by omega⟩
              have hL : 0 < L := by omega
              rw [if_neg z3] at em
              have xs3 : XSt d (up (up h 1 2 (nI (q + 1))) 1 2 (nI (q + 1 + 1))) (sK (B, N, R, T, M, ht, f + L, ws) (f + L) ws) := xs2
              have ms3 : MSt (up (up g 39 14 (nI (q + 1))) 39 14 (nI (q + 1 + 1))) (sK (B, N, R, T, M, ht, f + L, ws) (f + L) ws) := ms2
              rcases tellAgain_n hF (T := chr n t (q + 1) - 48) hL (by omega) (by omega) hK xs3 with ⟨a0, h', a1, a2, a3⟩ | ⟨a0, a1⟩
              · rcases tellsAgain_n hF (T := chr n t (q + 1) - 48) hL (by omega) (by omega) hK ms3 with ⟨b0, g', b1, b2, b3⟩ | ⟨b0, _⟩
                · rw [a1, ob_eq, if_neg n1n0] at ex
                  rw [b1, ob_eq, if_neg n1n0, if_neg n1n0] at em
                  refine Or.inl ⟨h', g', o - 1, q + 2, _, ex, em, ⟨a2, b2, p3.again rfl hL a0, by rw [a3 1 (by omega) (by omega), up_s], by rw [b3.2 14 (by decide), up_s], by omega, by omega, fun j hj => ?_⟩, by omega, (px2.f d).trans (a3.f hd), pm2.f.trans b3.f⟩
                  obtain ⟨fj, j1, j2, j3⟩ := p8 j (by omega)
                  exact ⟨fj, Nat.le_trans j1 (Nat.le_add_right _ _), by rw [a3 3 (by omega) (by omega), px2.1 3 (by decide)]; exact j2, by rw [b3.1 50 (by decide) (by decide), pm2.1 50 (by decide)]; exact j3⟩
                · exact absurd a0 b0
              · rcases tellsAgain_n hF (T := chr n t (q + 1) - 48) hL (by omega) (by omega) hK ms3 with ⟨b0, _⟩ | ⟨b0, g', b1, b3⟩
                · exact absurd b0 a0
                · rw [a1, ob_eq, if_pos rfl] at ex
                  rw [b1, ob_eq, if_pos rfl, if_pos rfl] at em
                  exact Or.inr ⟨_, _, ex, em, px2.f d, pm2.f.trans b3.f⟩
        · rw [e, ob_eq, if_neg (by rw [e_lt (by omega) (by decide)]; omega), if_pos (by decide)] at ex
          rw [if_neg (show ¬ (50 ≤ chr n t (q + 1) ∧ chr n t (q + 1) ≤ 57) from fun w => dg ⟨by omega, w.2⟩), if_pos rfl] at em
          exact Or.inr ⟨_, _, ex, em, px.f d, pm2.f⟩
    · rw [if_neg c41, hdB] at ex
      unfold f_X4_readSet at ex
      rw [accept_n F x hq (by omega) (by decide)] at ex
      by_cases c46 : chr n t q = 46
      · have hqn : q < n := chr_pos c46 (by decide)
        rw [if_pos c46, ob_eq, if_neg n1n0, ob_eq, if_neg (by decide)] at ex
        rw [if_neg (by omega), if_pos c46] at em
        exact row_go hd p px pm up_s up_s (by omega) (by omega) (Nat.two_pow_pos _) ex (fun v g' e _ => by rw [em, e, ob_eq])
      · rw [if_neg c46, ob_eq, if_pos rfl, accept_n F x hq (by omega) (by decide)] at ex
        by_cases c91 : chr n t q = 91
        · have hqn : q < n := chr_pos c91 (by decide)
          rw [if_pos c91, ob_eq, if_neg n1n0] at ex
          rw [if_neg (by omega), if_neg c46, if_pos c91] at em
          unfold f_X7_chord f_X7_takesTune_128 f_X7_takesTune_129 f_X7_takesTune_263 at em
          have c0 : CH s.1 0 0 0 := ⟨by decide, Nat.zero_le _, Nat.le_refl _, Or.inl rfl⟩
          rcases chord_sim hF hB (n - (q + 1)) (q + 1) 0 0 0 F F (up h 1 2 (nI (q + 1))) (up g 39 14 (nI (q + 1))) (by omega) (by omega) (by omega) c0 (x.pf px) (y.pf pm) up_s up_s (by rw [up_c (by decide)]; exact gB) with ⟨w, h', g', q', a1, a2, a3, a4, a5, a6, a7, a8, a9, a10⟩ | ⟨h', g', a3, a4, a5, a6⟩
          · have h256 := p2le hB
            rw [a3, ob_eq, if_neg (by rw [e_lt (by omega) (by decide)]; omega)] at ex
            rw [show (-1 : Int32) = lastI 0 from rfl, a4, ob_eq, if_neg (by rw [e_le (by omega) (by decide)]; omega)] at em
            refine row_go hd p (px.trans a5) (pm.trans a6) a7 a8 (by omega) a10 a2 ex (fun v g' e h01 => ?_)
            unfold f_X7_takesTune_263
            rw [em, e, ob_eq]
            rcases h01 with rfl | rfl
            · rw [if_pos rfl]
            · rw [if_neg n1n0]
          · rw [a3, ob_eq, if_pos (by decide)] at ex
            rw [show (-1 : Int32) = lastI 0 from rfl, a4, ob_eq, if_pos (by decide), if_pos rfl] at em
            exact Or.inr ⟨_, _, ex, em, (px.trans a5).f d, (pm.trans a6).f⟩
        · rw [if_neg c91, ob_eq, if_pos rfl, letter_n F x hq (by omega) hB] at ex
          by_cases bl : 97 ≤ chr n t q ∧ chr n t q ≤ 96 + s.1
          · have hqn : q < n := chr_lt (t := t) (by omega)
            rw [if_pos bl, ob_eq, if_pos (by rw [e_le (by decide) (by omega)]; omega), e_one (by omega), ob_eq] at ex
            have h256 := p2le hB
            have hw : 2 ^ (chr n t q - 97) < 2 ^ s.1 := Nat.pow_lt_pow_right (by decide) (by omega)
            rw [if_neg (by rw [e_lt (by omega) (by decide)]; exact Nat.not_lt_zero _)] at ex
            rw [if_pos bl] at em
            exact row_go hd p px pm up_s up_s (by omega) (by omega) hw ex (fun v g' e _ => by rw [em, e, ob_eq])
          · rw [if_neg bl, ob_eq, if_neg (by decide), ob_eq, if_pos (by decide)] at ex
            rw [if_neg bl, if_neg c46, if_neg c91, if_neg c40, if_neg c41] at em
            exact Or.inr ⟨_, _, ex, em, px.f d, FMt.refl _⟩
end
section
/-! ===== the text: all items ===== -/
def TOk (n : Nat) (t : Nat → Nat) (cx cm : Option (Int32 × HP)) (d q : Nat) (h g : HP) : Prop := ∃ h' g' q' s', cx = some (nI 1, h') ∧ cm = some (nI 1, g') ∧ XSt d h' s' ∧ MSt g' s' ∧ POK s' ∧ h' 1 2 = nI q' ∧ chr n t q' = 59 ∧ g' 39 14 = nI (q' + 1) ∧ q ≤ q' ∧ FXt d h h' ∧ FMt g g'
theorem tune_loop {F : Nat} (hF : 600 ≤ F) {n : Nat} {t : Nat → Nat} {d : Nat} (hd : TDc d) :
    ∀ (k q o i m m2 : Nat) (h g : HP) (s : PSt), n ≤ q + k → k < m → k < m2 → i + 1 ≤ q → TXX n t h → TXM n t g → TI n d q o h g s →
      TOk n t (f_X4_readTune_18 F d m (nI o) (nI i) h) (f_X7_takesTune_16 F m2 (nI o) g) d q h g ∨ TNo (f_X4_readTune_18 F d m (nI o) (nI i) h) (f_X7_takesTune_16 F m2 (nI o) g) d h g := by
  intro k
  induction k with
  | zero =>
    intro q o i m m2 h g s hk hm hm2 hi x y p
    obtain ⟨m, rfl⟩ := succ_of hm
    obtain ⟨m2, rfl⟩ := succ_of hm2
    have hn := x.1
    have hqn := p.2.2.2.2.2.1
    have hc : chr n t q = 0 := by unfold chr; rw [if_neg (by omega)]
    rcases tune_step hF (m := m) (m2 := m2) hd x y p (show i < 200 by omega) (by omega) with ⟨h1, g1, o1, q1, s1, a1, a2, a3, a4, a5, a6⟩ | a
    · have := a3.2.2.2.2.2.1
      omega
    · exact Or.inr a
  | succ k ih =>
    intro q o i m m2 h g s hk hm hm2 hi x y p
    obtain ⟨m, rfl⟩ := succ_of hm
    obtain ⟨m2, rfl⟩ := succ_of hm2
    have hn := x.1
    have hqn := p.2.2.2.2.2.1
    by_cases hc : chr n t q = 59
    · obtain ⟨p1, p2, p3, hq, gq, p6, p7, p8⟩ := p
      have hK := p3.2.2.2.2.2.2.1
      have hd7 : h d 7 = nI s.2.2.2.2.2.2.1 := p1.2.2.2.2.2.1
      have g3 : g 39 3 = nI s.2.2.2.2.2.2.1 := p2.2.2.2.2.2.1
      have pm := PFm.up g (nI (q + 1))
      have ex : f_X4_readTune_18 F d (m + 1) (nI o) (nI i) h = if o = 0 then (if s.2.2.2.2.2.2.1 ≤ 0 then some (nI 0, h) else some (nI 1, h)) else some (nI 0, h) := by
        rw [f_X4_readTune_18, if_neg (by rw [e_le (by decide) (by omega)]; omega), peek_n F x hq (by omega), hc, ob_eq, if_pos rfl]
        unfold f_X4_readTune_149
        rw [hd7, i_eq (by omega) (by decide), i_le (by omega) (by decide)]
      have em : f_X7_takesTune_16 F (m2 + 1) (nI o) g = if o = 0 then (if s.2.2.2.2.2.2.1 ≤ 0 then some (nI 0, up g 39 14 (nI (q + 1))) else some (nI 1, up g 39 14 (nI (q + 1)))) else some (nI 0, up g 39 14 (nI (q + 1))) := by
        rw [f_X7_takesTune_16, here_n F y gq (by omega), hIr_c hc (by decide), ob_eq, if_pos rfl, gq, e_add, up_n (show 3 ≠ 14 by decide), g3, i_eq (by omega) (by decide), i_le (by omega) (by decide)]
      rw [ex, em]
      by_cases z : o = 0
      · rw [if_pos z, if_pos z]
        by_cases z2 : s.2.2.2.2.2.2.1 ≤ 0
        · rw [if_pos z2, if_pos z2]
          exact Or.inr ⟨_, _, rfl, rfl, FXt.refl _ _, pm.f⟩
        · rw [if_neg z2, if_neg z2]
          exact Or.inl ⟨h, _, q, s, rfl, rfl, p1, p2.pf pm, p3, hq, hc, up_s, Nat.le_refl _, FXt.refl _ _, pm.f⟩
      · rw [if_neg z, if_neg z]
        exact Or.inr ⟨_, _, rfl, rfl, FXt.refl _ _, pm.f⟩
    · rcases tune_step hF (m := m) (m2 := m2) hd x y p (show i < 200 by omega) hc with ⟨h1, g1, o1, q1, s1, a1, a2, a3, a4, a5, a6⟩ | a
      · rw [a1, a2]
        rcases ih q1 o1 (i + 1) m m2 h1 g1 s1 (by omega) (by omega) (by omega) (by omega) (x.f hd a5) (y.f a6) a3 with ⟨h', g', q', s', b1, b2, b3, b4, b5, b6, b7, b8, b9, b10, b11⟩ | ⟨h', g', b1, b2, b3, b4⟩
        · exact Or.inl ⟨h', g', q', s', b1, b2, b3, b4, b5, b6, b7, b8, by omega, a5.trans b10, a6.trans b11⟩
        · exact Or.inr ⟨h', g', b1, b2, a5.trans b3, a6.trans b4⟩
      · exact Or.inr a
theorem item_t {F : Nat} (hF : 600 ≤ F) {n : Nat} {t : Nat → Nat} {d q : Nat} {h g : HP} {s : PSt} (hd : TDc d) (x : TXX n t h) (y : TXM n t g) (xs : XSt d h s) (ms : MSt g s) (hP : POK s) (hq : h 1 2 = nI q) (gq : g 39 14 = nI q) (hc : chr n t q = 116) : ItOk F n t d q h g ∨ ItNo F d h g := by
  have hqn : q < n := chr_pos hc (by decide)
  have hn := x.1
  have px := PFx.up h (nI (q + 1))
  have pm := PFm.up g (nI (q + 1))
  have hd' := hd
  unfold TDc at hd'
  have eX : f_X4_readItem F d h = ob (f_X4_readTune F d (up h 1 2 (nI (q + 1)))) (fun v7 h5 => if v7 = nI 0 ∨ v7 = nI 1 then some (v7, h5) else none) := by
    unfold f_X4_readItem
    rw [peek_n F x hq (by omega), hc, ob_eq, if_neg (by decide), if_neg (by decide), if_neg (by decide), if_pos rfl, hq, e_add]
  have eM : f_X7_takesItem F g = ob (f_X7_takesTune F (up g 39 14 (nI (q + 1)))) (fun v7 h5 => if v7 = nI 0 ∨ v7 = nI 1 then some (v7, h5) else none) := by
    unfold f_X7_takesItem
    rw [here_n F y gq (by omega), hIr_c hc (by decide), ob_eq, if_neg (by decide), if_neg (by decide), if_neg (by decide), if_pos rfl, gq, e_add]
  obtain ⟨B, N, R, T, M, ht, K, ws⟩ := s
  have p5 : ht ≤ 1 := hP.2.2.2.2.2.1
  have xs1 := xs.pf hd px
  have ms1 := ms.pf pm
  have x6 : (up h 1 2 (nI (q + 1))) d 6 = nI ht := xs1.2.2.2.2.1
  have m6 : (up g 39 14 (nI (q + 1))) 39 15 = nI ht := ms1.2.2.2.2.1
  unfold f_X4_readTune at eX
  unfold f_X7_takesTune at eM
  rw [x6, i_eq (by omega) (by decide)] at eX
  rw [m6, i_eq (by omega) (by decide)] at eM
  by_cases z : ht = 0
  · rw [if_pos z] at eX eM
    have fx : FXt d h (up (up h 1 2 (nI (q + 1))) d 6 (nI 1)) := (px.f d).trans (FXt.low hd (fun z hz => up_c (by omega)))
    have fm : FMt g (up (up g 39 14 (nI (q + 1))) 39 15 (nI 1)) := pm.f.trans ⟨fun z h1 _ _ _ _ => up_c h1, fun j _ _ h3 => up_n h3⟩
    have xs2 : XSt d (up (up h 1 2 (nI (q + 1))) d 6 (nI 1)) (B, N, R, T, M, 1, K, ws) := by
      obtain ⟨x0, x4, x5, xb, _, x7, xr⟩ := xs1
      dsimp only at x0 x4 x5 xb x7 xr
      exact ⟨by rw [up_n (by decide)]; exact x0, by rw [up_n (by decide)]; exact x4, by rw [up_n (by decide)]; exact x5, fun b hb => by rw [up_c (show d + 1 ≠ d by omega), up_c (show d + 2 ≠ d by omega), up_c (show d + 3 ≠ d by omega)]; exact xb b hb, up_s, by rw [up_n (by decide)]; exact x7, by rw [up_c (by omega)]; exact xr⟩
    have ms2 : MSt (up (up g 39 14 (nI (q + 1))) 39 15 (nI 1)) (B, N, R, T, M, 1, K, ws) := by
      obtain ⟨x0, x4, x5, xb, _, x7, xr⟩ := ms1
      dsimp only at x0 x4 x5 xb x7 xr
      exact ⟨by rw [up_c (by decide)]; exact x0, by rw [up_c (by decide)]; exact x4, by rw [up_c (by decide)]; exact x5, fun b hb => by rw [up_c (by decide)]; exact xb b hb, up_s, by rw [up_n (by decide)]; exact x7, by rw [up_c (by decide)]; exact xr⟩
    have hP2 : POK (B, N, R, T, M, 1, K, ws) := by
      obtain ⟨p0, p1, p2, p3, p4, _, p6, p7⟩ := hP
      exact ⟨p0, p1, p2, p3, p4, Nat.le_refl 1, p6, p7⟩
    rcases tune_loop hF hd (n - (q + 1)) (q + 1) 0 0 F F _ _ _ (by omega) (by omega) (by omega) (by omega) (x.f hd fx) (y.f fm) ⟨xs2, ms2, hP2, by rw [up_c (by omega), up_s], by rw [up_n (by decide), up_s], by omega, by omega, fun j hj => absurd hj (Nat.not_lt_zero _)⟩ with ⟨h', g', q', s', b1, b2, b3, b4, b5, b6, b7, b8, b9, b10, b11⟩ | ⟨h', g', b1, b2, b3, b4⟩
    · have hlt := chr_pos b7 (by decide)
      rw [b1, ob_eq, if_pos (Or.inr rfl)] at eX
      rw [b2, ob_eq, if_pos (Or.inr rfl)] at eM
      have fx' := fx.trans b10
      exact Or.inl ⟨_, g', q' + 1, s', end_ok n1n0 eX (x.f hd fx') b6 (by omega) b7, eM, b3.pf hd (PFx.up _ _), b4, b5, up_s, b8, by omega, by omega, fx'.trans ((PFx.up _ _).f d), fm.trans b11⟩
    · rw [b1, ob_eq, if_pos (Or.inl rfl)] at eX
      rw [b2, ob_eq, if_pos (Or.inl rfl)] at eM
      exact Or.inr ⟨h', g', end_0 eX, eM, fx.trans b3, fm.trans b4⟩
  · rw [if_neg z, ob_eq, if_pos (Or.inl rfl)] at eX eM
    exact Or.inr ⟨_, _, end_0 eX, eM, px.f d, pm.f⟩
theorem item_any {F : Nat} (hF : 600 ≤ F) {n : Nat} {t : Nat → Nat} {d q : Nat} {h g : HP} {s : PSt} (hd : TDc d) (x : TXX n t h) (y : TXM n t g) (xs : XSt d h s) (ms : MSt g s) (hP : POK s) (hq : h 1 2 = nI q) (gq : g 39 14 = nI q) (hqn : q < n) : ItOk F n t d q h g ∨ ItNo F d h g := by
  have hn := x.1
  have hcl := chr_le x q
  by_cases c1 : chr n t q = 98
  · exact item_b hF hd x y xs ms hP hq gq c1
  by_cases c2 : chr n t q = 110
  · exact item_n hF hd x y xs ms hP hq gq c2
  by_cases c3 : chr n t q = 114
  · exact item_r hF hd x y xs ms hP hq gq c3
  by_cases c4 : chr n t q = 116
  · exact item_t hF hd x y xs ms hP hq gq c4
  have eX : f_X4_readItem F d h = some (nI 0, up h 1 2 (nI (q + 1))) := by
    unfold f_X4_readItem
    rw [peek_n F x hq (by omega), ob_eq, i_eq (by omega) (by decide), i_eq (by omega) (by decide), i_eq (by omega) (by decide), i_eq (by omega) (by decide), if_neg c1, if_neg c2, if_neg c3, if_neg c4, hq, e_add]
  have eM : f_X7_takesItem F g = some (nI 0, up g 39 14 (nI (q + 1))) := by
    unfold f_X7_takesItem
    rw [here_n F y gq (by omega), ob_eq, hIr_eq y.tb (by decide) (by decide), hIr_eq y.tb (by decide) (by decide), hIr_eq y.tb (by decide) (by decide), hIr_eq y.tb (by decide) (by decide), if_neg c1, if_neg c2, if_neg c3, if_neg c4, gq, e_add]
  exact Or.inr ⟨_, _, end_0 eX, eM, (PFx.up _ _).f d, (PFm.up _ _).f⟩
def RdOk (cx cm : Option (Int32 × HP)) (d : Nat) (h g : HP) : Prop := ∃ h' g' s', cx = some (-4, h') ∧ cm = some (-4, g') ∧ XSt d h' s' ∧ MSt g' s' ∧ POK s' ∧ FXt d h h' ∧ FMt g g'
def RdNo (cx cm : Option (Int32 × HP)) (d : Nat) (h g : HP) : Prop := ∃ r h' g', r < 200 ∧ cx = some (nI r, h') ∧ cm = some (nI r, g') ∧ FXt d h h' ∧ FMt g g'
theorem read_loop {F : Nat} (hF : 600 ≤ F) {n : Nat} {t : Nat → Nat} {d : Nat} (hd : TDc d) :
    ∀ (k q i m m2 : Nat) (h g : HP) (s : PSt), n ≤ q + k → k < m → k < m2 → i ≤ q → q ≤ n → TXX n t h → TXM n t g → XSt d h s → MSt g s → POK s → h 1 2 = nI q → g 39 14 = nI q →
      RdOk (f_X4_readInto_11 F d m (nI i) h) (f_X7_fault_9 F m2 g) d h g ∨ RdNo (f_X4_readInto_11 F d m (nI i) h) (f_X7_fault_9 F m2 g) d h g := by
  intro k
  induction k with
  | zero =>
    intro q i m m2 h g s hk hm hm2 hi hqn x y xs ms hP hq gq
    obtain ⟨m, rfl⟩ := succ_of hm
    obtain ⟨m2, rfl⟩ := succ_of hm2
    have hn := x.1
    have e1 : f_X4_readInto_11 F d (m + 1) (nI i) h = some (-4, h) := by
      rw [f_X4_readInto_11, x.2.1, hq, if_pos (show nI n ≤ nI q by rw [e_le (by omega) (by omega)]; omega)]
      split <;> rfl
    have e2 : f_X7_fault_9 F (m2 + 1) g = some (-4, g) := by
      rw [f_X7_fault_9, y.2.1, gq, if_pos (show nI n ≤ nI q by rw [e_le (by omega) (by omega)]; omega)]
    exact Or.inl ⟨h, g, s, e1, e2, xs, ms, hP, FXt.refl _ _, FMt.refl _⟩
  | succ k ih =>
    intro q i m m2 h g s hk hm hm2 hi hqn x y xs ms hP hq gq
    obtain ⟨m, rfl⟩ := succ_of hm
    obtain ⟨m2, rfl⟩ := succ_of hm2
    have hn := x.1
    by_cases z : q < n
    · have e1 : f_X4_readInto_11 F d (m + 1) (nI i) h = cIt F d h (fun h9 => f_X4_readInto_11 F d m (nI (i + 1)) h9) := by
        rw [f_X4_readInto_11, x.2.1, if_neg (show ¬ nI 200 ≤ nI i by rw [e_le (by omega) (by omega)]; omega), hq, if_neg (show ¬ nI n ≤ nI q by rw [e_le (by omega) (by omega)]; omega), e_add]
        unfold cIt
        rw [hq]
      have e2 : f_X7_fault_9 F (m2 + 1) g = ob (f_X7_takesItem F g) (fun v6 h4 => if v6 = nI 0 then some (nI q, h4) else f_X7_fault_9 F m2 h4) := by
        rw [f_X7_fault_9, y.2.1, gq, if_neg (show ¬ nI n ≤ nI q by rw [e_le (by omega) (by omega)]; omega)]
      rw [e1, e2]
      rcases item_any hF hd x y xs ms hP hq gq z with ⟨h', g', q', s', a1, a2, a3, a4, a5, a6, a7, a8, a9, a10, a11⟩ | ⟨h', g', a1, a2, a3, a4⟩
      · rw [a1, a2, ob_eq, if_neg n1n0]
        rcases ih q' (i + 1) m m2 h' g' s' (by omega) (by omega) (by omega) (by omega) a9 (x.f hd a10) (y.f a11) a3 a4 a5 a6 a7 with ⟨h2, g2, s2, b1, b2, b3, b4, b5, b6, b7⟩ | ⟨r, h2, g2, b0, b1, b2, b3, b4⟩
        · exact Or.inl ⟨h2, g2, s2, b1, b2, b3, b4, b5, a10.trans b6, a11.trans b7⟩
        · exact Or.inr ⟨r, h2, g2, b0, b1, b2, a10.trans b3, a11.trans b4⟩
      · rw [a1, a2, ob_eq, if_pos rfl, hq]
        exact Or.inr ⟨q, h', g', by omega, rfl, rfl, a3, a4⟩
    · exact ih q i (m + 1) (m2 + 1) h g s (by omega) (by omega) (by omega) hi hqn x y xs ms hP hq gq
theorem clean_loop (F : Nat) : ∀ (k i m : Nat) (g : HP), i + k = 19 → k < m → ∃ g', f_X7_clean_2 F m (nI i) g = some g' ∧ g' 41 1 = nI 16 ∧ g' 41 2 = nI 1 ∧ g' 39 3 = nI 0 ∧ g' 39 15 = nI 0 ∧ (0 < i → g' 41 0 = g 41 0) ∧ (i = 0 → g' 41 0 = nI 0) ∧ FMt g g' := by
  intro k
  induction k with
  | zero =>
    intro i m g hi hm
    obtain ⟨m, rfl⟩ := succ_of hm
    refine ⟨_, by rw [f_X7_clean_2, if_pos (by rw [e_le (by decide) (by omega)]; omega)], ?_, ?_, ?_, ?_, fun _ => ?_, fun _ => by omega, ?_⟩
    · rw [up_c (by decide), up_c (by decide), up_n (by decide), up_s]
    · rw [up_c (by decide), up_c (by decide), up_s]
    · rw [up_n (by decide), up_s]
    · rw [up_s]
    · rw [up_c (by decide), up_c (by decide), up_n (by decide), up_n (by decide)]
    · exact ⟨fun z h1 h2 _ _ _ => by rw [up_c h1, up_c h1, up_c h2, up_c h2], fun j h1 _ h3 => by rw [up_n h3, up_n h1, up_c (by decide), up_c (by decide)]⟩
  | succ k ih =>
    intro i m g hi hm
    obtain ⟨m, rfl⟩ := succ_of hm
    obtain ⟨g', a1, a2, a3, a4, a5, a6, a7, a8⟩ := ih (i + 1) m (up g 41 i (nI 0)) (by omega) (by omega)
    refine ⟨g', by rw [f_X7_clean_2, if_neg (by rw [e_le (by decide) (by omega)]; omega), if_pos (inb_t (by omega) (by decide)), e_ix (by omega), e_add, a1], a2, a3, a4, a5, fun h0 => ?_, fun h0 => ?_, ?_⟩
    · rw [a6 (by omega), up_n (by omega)]
    · rw [a6 (by omega), h0, up_s]
    · exact FMt.trans ⟨fun z _ h2 _ _ _ => up_c h2, fun j _ _ _ => by rw [up_c (by decide)]⟩ a8
theorem read_sim {F : Nat} (hF : 600 ≤ F) {n : Nat} {t : Nat → Nat} {d : Nat} {h g : HP} (hd : TDc d) (x : TXX n t h) (y : TXM n t g) :
    RdOk (f_X4_readInto F d h) (f_X7_fault F g) d h g ∨ RdNo (f_X4_readInto F d h) (f_X7_fault F g) d h g := by
  have hn := x.1
  have hd' := hd
  unfold TDc at hd'
  obtain ⟨g1, a1, a2, a3, a4, a5, _, a7, a8⟩ := clean_loop F 19 0 F g (by omega) (by omega)
  unfold f_X4_readInto f_X5_clear f_X7_fault f_X7_clean
  rw [obv_eq, a1, obv_eq]
  have pm := PFm.up g1 (nI 0)
  have fm := a8.trans pm.f
  have fx : FXt d h (up (up (up (up (up (up h d 0 (nI 0)) d 4 (nI 16)) d 5 (nI 1)) d 6 (nI 0)) d 7 (nI 0)) 1 2 (nI 0)) := ⟨fun z h1 _ h3 => by rw [up_c h1, up_c (by omega), up_c (by omega), up_c (by omega), up_c (by omega), up_c (by omega)], fun j hj => by rw [up_n hj, up_c (by omega), up_c (by omega), up_c (by omega), up_c (by omega), up_c (by omega)]⟩
  have hx : XSt d (up (up (up (up (up (up h d 0 (nI 0)) d 4 (nI 16)) d 5 (nI 1)) d 6 (nI 0)) d 7 (nI 0)) 1 2 (nI 0)) (0, 16, 1, fun _ => 0, fun _ => 0, 0, 0, fun _ => 0) := by
    refine ⟨?_, ?_, ?_, fun b hb => absurd hb (Nat.not_lt_zero _), ?_, ?_, fun b hb => absurd hb (Nat.not_lt_zero _)⟩
    · rw [up_c (by omega), up_n (by decide), up_n (by decide), up_n (by decide), up_n (by decide), up_s]
    · rw [up_c (by omega), up_n (by decide), up_n (by decide), up_n (by decide), up_s]
    · rw [up_c (by omega), up_n (by decide), up_n (by decide), up_s]
    · rw [up_c (by omega), up_n (by decide), up_s]
    · rw [up_c (by omega), up_s]
  have hm : MSt (up g1 39 14 (nI 0)) (0, 16, 1, fun _ => 0, fun _ => 0, 0, 0, fun _ => 0) := by
    refine MSt.pf ?_ pm
    exact ⟨a7 rfl, a2, a3, fun b hb => absurd hb (Nat.not_lt_zero _), a5, a4, fun b hb => absurd hb (Nat.not_lt_zero _)⟩
  have hP : POK (0, 16, 1, fun _ => 0, fun _ => 0, 0, 0, fun _ => 0) := ⟨by decide, by decide, by decide, by decide, fun b hb => absurd hb (Nat.not_lt_zero _), by decide, by decide, fun b hb => absurd hb (Nat.not_lt_zero _)⟩
  rcases read_loop hF hd n 0 0 F F _ _ _ (by omega) (by omega) (by omega) (Nat.le_refl _) (Nat.zero_le _) (x.f hd fx) (y.f fm) hx hm hP up_s up_s with ⟨h2, g2, s2, b1, b2, b3, b4, b5, b6, b7⟩ | ⟨r, h2, g2, b0, b1, b2, b3, b4⟩
  · exact Or.inl ⟨h2, g2, s2, b1, b2, b3, b4, b5, fx.trans b6, fm.trans b7⟩
  · exact Or.inr ⟨r, h2, g2, b0, b1, b2, fx.trans b3, fm.trans b4⟩
end
section
/-! ===== fault, lay ===== -/
theorem layTold_n {F : Nat} (hF : 600 ≤ F) {tw : TW} {h : HP} {s : PSt} (hd : TDc tw.2) (x : XSt tw.2 h s) (p : POK s) :
    ∃ h', f_X6_layTold F tw h = some h' ∧ (∀ j, j < 66 → dv h' 14 j = if j = 0 then nI s.2.1 else if 2 ≤ j ∧ j < 34 ∧ j - 2 < s.2.2.2.2.2.2.1 then nI (s.2.2.2.2.2.2.2 (j - 2)) else nI 0) ∧ (∀ r, r < 32 → h' 28 r = nI 0) ∧ h' 0 9 = nI 0 ∧ h' 24 3 = nI 0 ∧ h' 26 3 = nI 0 ∧ (∀ j, j ≠ 3 → h' 24 j = h 24 j) ∧ (∀ j, j ≠ 3 → h' 26 j = h 26 j) ∧ (∀ j, j ≠ 9 → h' 0 j = h 0 j) ∧ ∀ z, z ≠ 0 → z ≠ 24 → z ≠ 26 → z ≠ 28 → (z < 14 ∨ 18 < z) → h' z = h z := by
  obtain ⟨B, N, R, T, M, ht, K, ws⟩ := s
  obtain ⟨x0, x4, x5, xb, x6, x7, xr⟩ := x
  obtain ⟨p0, p1, p2, p3, p4, p5, p6, p7⟩ := p
  dsimp only at x0 x4 x5 xb x6 x7 xr p0 p1 p2 p3 p4 p5 p6 p7 ⊢
  have hd' := hd
  unfold TDc at hd'
  obtain ⟨h1, a1, a2, _, a3⟩ := fill_n hF (r := 15) (nI 0) (by decide) h
  have hc7 : h1 tw.2 7 = nI K := by rw [a3 tw.2 (by omega)]; exact x7
  obtain ⟨h4, b1, b2, _, b3⟩ := fill_n hF (r := 16) (nI 0) (by decide) (cpy h1 (tw.2 + 4) (nI 0) 15 (nI 0) (nI K))
  obtain ⟨h6, c1, c2, _, c3⟩ := fill_n hF (r := 17) (nI 0) (by decide) h4
  obtain ⟨h8, d1, d2, _, d3⟩ := fill_n hF (r := 18) (nI 0) (by decide) h6
  have f8 : ∀ z, z < 14 ∨ 18 < z → h8 z = h z := fun z hz => by
    rw [d3 z (by omega), c3 z (by omega), b3 z (by omega), cpy_c (by omega), a3 z (by omega)]
  have f814 : h8 14 = h 14 := by rw [d3 14 (by decide), c3 14 (by decide), b3 14 (by decide), cpy_c (by decide), a3 14 (by decide)]
  have h84 : h8 tw.2 4 = nI N := by rw [f8 tw.2 (by omega)]; exact x4
  have eS : f_X0_startWith F 14 tw.2 h = some (up (up h8 14 4 (nI N)) 14 5 (nI 0)) := by
    unfold f_X0_startWith
    rw [a1, obv_eq, hc7, if_pos (cpb_t (by omega) (by omega) (by decide) (by decide)), b1, obv_eq, c1, obv_eq, d1, obv_eq, h84]
  obtain ⟨h10, e1, e2, _, e3⟩ := fill_n hF (r := 28) (nI 0) (by decide) (up (up h8 14 4 (nI N)) 14 5 (nI 0))
  refine ⟨up (up (up h10 0 9 (nI 0)) 24 3 (nI 0)) 26 3 (nI 0), ?_, ?_, ?_, ?_, ?_, ?_, ?_, ?_, ?_, ?_⟩
  · unfold f_X6_layTold f_X2_clear
    rw [eS, obv_eq, e1, obv_eq, obv_eq, obv_eq]
  · refine dv_of ?_ ?_ (fun r hr => ?_) (fun r hr => ?_) (fun r hr => ?_) (fun r hr => ?_)
    · rw [up_c (by decide), up_c (by decide), up_c (by decide), e3 14 (by decide), up_n (by decide), up_s, if_pos rfl]
    · rw [up_c (by decide), up_c (by decide), up_c (by decide), e3 14 (by decide), up_s, if_neg (by decide), if_neg (by omega)]
    · rw [up_c (by decide), up_c (by decide), up_c (by decide), e3 15 (by decide), up_c (by decide), up_c (by decide), d3 15 (by decide), c3 15 (by decide), b3 15 (by decide), cpA h1 (tw.2 + 4) 0 15 0 K r (by omega) (by omega) (by omega), if_neg (show ¬ 2 + r = 0 by omega), show 2 + r - 2 = r by omega]
      by_cases z : r < K
      · rw [if_pos (show 0 ≤ r ∧ r < 0 + K by omega), if_pos (show 2 ≤ 2 + r ∧ 2 + r < 34 ∧ r < K by omega), show 0 + (r - 0) = r by omega, a3 (tw.2 + 4) (by omega)]
        exact xr r z
      · rw [if_neg (show ¬ (0 ≤ r ∧ r < 0 + K) by omega), if_neg (show ¬ (2 ≤ 2 + r ∧ 2 + r < 34 ∧ r < K) by omega), a2 r (by rw [show ln 15 = 32 from rfl]; exact hr)]
    · rw [up_c (by decide), up_c (by decide), up_c (by decide), e3 16 (by decide), up_c (by decide), up_c (by decide), d3 16 (by decide), c3 16 (by decide), b2 r (by rw [show ln 16 = 16 from rfl]; exact hr), if_neg (by omega), if_neg (by omega)]
    · rw [up_c (by decide), up_c (by decide), up_c (by decide), e3 17 (by decide), up_c (by decide), up_c (by decide), d3 17 (by decide), c2 r (by rw [show ln 17 = 8 from rfl]; exact hr), if_neg (by omega), if_neg (by omega)]
    · rw [up_c (by decide), up_c (by decide), up_c (by decide), e3 18 (by decide), up_c (by decide), up_c (by decide), d2 r (by rw [show ln 18 = 8 from rfl]; exact hr), if_neg (by omega), if_neg (by omega)]
  · intro r hr
    rw [up_c (by decide), up_c (by decide), up_c (by decide)]
    exact e2 r (by rw [show ln 28 = 32 from rfl]; exact hr)
  · rw [up_c (by decide), up_c (by decide), up_s]
  · rw [up_c (by decide), up_s]
  · rw [up_s]
  · intro j hj
    rw [up_c (by decide), up_n hj, up_c (by decide), e3 24 (by decide), up_c (by decide), up_c (by decide), f8 24 (by decide)]
  · intro j hj
    rw [up_n hj, up_c (by decide), up_c (by decide), e3 26 (by decide), up_c (by decide), up_c (by decide), f8 26 (by decide)]
  · intro j hj
    rw [up_c (by decide), up_c (by decide), up_n hj, e3 0 (by decide), up_c (by decide), up_c (by decide), f8 0 (by decide)]
  · intro z z0 z24 z26 z28 zz
    rw [up_c z26, up_c z24, up_c z0, e3 z z28, up_c (by omega), up_c (by omega), f8 z zz]
theorem begins79 (F : Nat) {K : Nat} (hK : K ≤ 32) : ∀ (k i m : Nat) (g : HP), i + k = 32 → k < m → g 39 3 = nI K → ∃ g', f_X7_begins_79 F m (nI i) g = some g' ∧ (∀ r, i ≤ r → r < 32 → g' 43 (2 + r) = (if r < K then g 42 r else nI 0) ∧ g' 47 r = nI 0) ∧ (∀ j, j < 2 + i ∨ 34 ≤ j → g' 43 j = g 43 j) ∧ (∀ r, r < i → g' 47 r = g 47 r) ∧ g' 39 13 = nI 0 ∧ g' 39 6 = nI 0 ∧ g' 39 8 = nI 0 ∧ (∀ j, j ≠ 13 → j ≠ 6 → j ≠ 8 → g' 39 j = g 39 j) ∧ ∀ z, z ≠ 39 → z ≠ 43 → z ≠ 47 → g' z = g z := by
  intro k
  induction k with
  | zero =>
    intro i m g hi hm h3
    obtain ⟨m, rfl⟩ := succ_of hm
    refine ⟨_, by rw [f_X7_begins_79, if_pos (by rw [e_le (by decide) (by omega)]; omega)], fun r h1 h2 => by omega, fun j _ => by rw [up_c (by decide), up_c (by decide), up_c (by decide)], fun r _ => by rw [up_c (by decide), up_c (by decide), up_c (by decide)], by rw [up_n (by decide), up_n (by decide), up_s], by rw [up_n (by decide), up_s], up_s, fun j h1 h2 h3 => by rw [up_n h3, up_n h2, up_n h1], fun z h1 h2 h3 => by rw [up_c h1, up_c h1, up_c h1]⟩
  | succ k ih =>
    intro i m g hi hm h3
    obtain ⟨m, rfl⟩ := succ_of hm
    have e : f_X7_begins_79 F (m + 1) (nI i) g = f_X7_begins_79 F m (nI (i + 1)) (up (up g 43 (2 + i) (if i < K then g 42 i else nI 0)) 47 i (nI 0)) := by
      rw [f_X7_begins_79, if_neg (by rw [e_le (by decide) (by omega)]; omega), h3, e_add, if_pos (inb_t (by omega) (by decide)), if_pos (inb_t (by omega) (by decide)), if_pos (inb_t (by omega) (by decide)), if_pos (inb_t (by omega) (by decide)), e_ix (by omega), e_ix (by omega), e_add, i_le (by omega) (by omega)]
      by_cases z : i < K
      · rw [if_neg (by omega), if_pos z]
      · rw [if_pos (by omega), if_neg z]
    obtain ⟨g', a1, a2, a3, a4, a5, a6, a7, a8, a9⟩ := ih (i + 1) m (up (up g 43 (2 + i) (if i < K then g 42 i else nI 0)) 47 i (nI 0)) (by omega) (by omega) (by rw [up_c (by decide), up_c (by decide)]; exact h3)
    refine ⟨g', by rw [e]; exact a1, fun r h1 h2 => ?_, fun j hj => ?_, fun r hr => ?_, a5, a6, a7, fun j h1 h2 h3 => ?_, fun z h1 h2 h3 => ?_⟩
    · by_cases z : r = i
      · subst z
        exact ⟨by rw [a3 (2 + r) (by omega), up_c (by decide), up_s], by rw [a4 r (by omega), up_s]⟩
      · obtain ⟨b1, b2⟩ := a2 r (by omega) h2
        exact ⟨by rw [b1, up_c (by decide), up_c (by decide)], b2⟩
    · rw [a3 j (by omega), up_c (by decide), up_n (by omega)]
    · rw [a4 r (by omega), up_n (by omega), up_c (by decide)]
    · rw [a8 j h1 h2 h3, up_c (by decide), up_c (by decide)]
    · rw [a9 z h1 h2 h3, up_c h3, up_c h2]
theorem begins28 (F : Nat) : ∀ (k i m : Nat) (g : HP), i + k = 66 → k < m → ∃ g', f_X7_begins_28 F m (nI i) g = f_X7_begins_79 F F (nI 0) (up g' 43 0 (g 40 1)) ∧ (∀ j, i ≤ j → j < 66 → g' 43 j = if j < 34 then nI 0 else if 50 ≤ j then nI 0 else -1000) ∧ (∀ j, j < i → g' 43 j = g 43 j) ∧ ∀ z, z ≠ 43 → g' z = g z := by
  intro k
  induction k with
  | zero =>
    intro i m g hi hm
    obtain ⟨m, rfl⟩ := succ_of hm
    exact ⟨g, by rw [f_X7_begins_28, if_pos (by rw [e_le (by decide) (by omega)]; omega)], fun j h1 h2 => by omega, fun _ _ => rfl, fun _ _ => rfl⟩
  | succ k ih =>
    intro i m g hi hm
    obtain ⟨m, rfl⟩ := succ_of hm
    have e : f_X7_begins_28 F (m + 1) (nI i) g = f_X7_begins_28 F m (nI (i + 1)) (up g 43 i (if i < 34 then nI 0 else if 50 ≤ i then nI 0 else -1000)) := by
      rw [f_X7_begins_28, if_neg (by rw [e_le (by decide) (by omega)]; omega), if_pos (inb_t (by omega) (by decide)), e_ix (by omega), e_add, i_lt (by omega) (by decide), i_le (by decide) (by omega)]
    obtain ⟨g', a1, a2, a3, a4⟩ := ih (i + 1) m (up g 43 i (if i < 34 then nI 0 else if 50 ≤ i then nI 0 else -1000)) (by omega) (by omega)
    refine ⟨g', by rw [e, a1, up_c (show 40 ≠ 43 by decide)], fun j h1 h2 => ?_, fun j hj => by rw [a3 j (by omega), up_n (by omega)], fun z hz => by rw [a4 z hz, up_c hz]⟩
    by_cases z : j = i
    · subst z
      rw [a3 j (by omega), up_s]
    · exact a2 j (by omega) h2
theorem begins2 (F : Nat) : ∀ (k i m : Nat) (g : HP), i + k = 19 → k < m → ∃ g', f_X7_begins_2 F m (nI i) g = f_X7_begins_28 F F (nI 0) g' ∧ (∀ j, i ≤ j → j < 19 → g' 40 j = g 41 j) ∧ (∀ j, j < i → g' 40 j = g 40 j) ∧ ∀ z, z ≠ 40 → g' z = g z := by
  intro k
  induction k with
  | zero =>
    intro i m g hi hm
    obtain ⟨m, rfl⟩ := succ_of hm
    exact ⟨g, by rw [f_X7_begins_2, if_pos (by rw [e_le (by decide) (by omega)]; omega)], fun j h1 h2 => by omega, fun _ _ => rfl, fun _ _ => rfl⟩
  | succ k ih =>
    intro i m g hi hm
    obtain ⟨m, rfl⟩ := succ_of hm
    obtain ⟨g', a1, a2, a3, a4⟩ := ih (i + 1) m (up g 40 i (g 41 i)) (by omega) (by omega)
    refine ⟨g', by rw [f_X7_begins_2, if_neg (by rw [e_le (by decide) (by omega)]; omega), if_pos (inb_t (by omega) (by decide)), e_ix (by omega), e_add, a1], fun j h1 h2 => ?_, fun j hj => by rw [a3 j (by omega), up_n (by omega)], fun z hz => by rw [a4 z hz, up_c hz]⟩
    by_cases z : j = i
    · subst z
      rw [a3 j (by omega), up_s]
    · rw [a2 j (by omega) h2, up_c (by decide)]
theorem begins_n {F : Nat} (hF : 600 ≤ F) {K : Nat} {g : HP} (hK : K ≤ 32) (h3 : g 39 3 = nI K) : ∃ g', f_X7_begins F g = some g' ∧ (∀ j, j < 19 → g' 40 j = g 41 j) ∧ g' 43 0 = g 41 1 ∧ g' 43 1 = nI 0 ∧ (∀ r, r < 32 → g' 43 (2 + r) = (if r < K then g 42 r else nI 0) ∧ g' 47 r = nI 0) ∧ (∀ j, 34 ≤ j → j < 50 → g' 43 j = -1000) ∧ (∀ j, 50 ≤ j → j < 66 → g' 43 j = nI 0) ∧ g' 39 13 = nI 0 ∧ g' 39 6 = nI 0 ∧ g' 39 8 = nI 0 ∧ (∀ j, j ≠ 13 → j ≠ 6 → j ≠ 8 → g' 39 j = g 39 j) ∧ ∀ z, z ≠ 39 → z ≠ 40 → z ≠ 43 → z ≠ 47 → g' z = g z := by
  obtain ⟨g1, a1, a2, _, a4⟩ := begins2 F 19 0 F g (by omega) (by omega)
  obtain ⟨g2, b1, b2, _, b4⟩ := begins28 F 66 0 F g1 (by omega) (by omega)
  obtain ⟨g3, c1, c2, c3, _, c5, c6, c7, c8, c9⟩ := begins79 F hK 32 0 F (up g2 43 0 (g1 40 1)) (by omega) (by omega) (by rw [up_c (by decide), b4 39 (by decide), a4 39 (by decide)]; exact h3)
  refine ⟨g3, by unfold f_X7_begins; rw [a1, b1, c1], fun j hj => ?_, ?_, ?_, fun r hr => ?_, fun j h1 h2 => ?_, fun j h1 h2 => ?_, c5, c6, c7, fun j h1 h2 h3 => ?_, fun z h1 h2 h3 h4 => ?_⟩
  · rw [c9 40 (by decide) (by decide) (by decide), up_c (by decide), b4 40 (by decide), a2 j (Nat.zero_le _) hj]
  · rw [c3 0 (by omega), up_s, a2 1 (by decide) (by decide)]
  · rw [c3 1 (by omega), up_n (by decide), b2 1 (by decide) (by decide), if_pos (by decide)]
  · obtain ⟨k1, k2⟩ := c2 r (Nat.zero_le _) hr
    exact ⟨by rw [k1, up_c (by decide), b4 42 (by decide), a4 42 (by decide)], k2⟩
  · rw [c3 j (by omega), up_n (by omega), b2 j (Nat.zero_le _) (by omega), if_neg (by omega), if_neg (by omega)]
  · rw [c3 j (by omega), up_n (by omega), b2 j (Nat.zero_le _) (by omega), if_neg (by omega), if_pos h1]
  · rw [c8 j h1 h2 h3, up_c (by decide), b4 39 (by decide), a4 39 (by decide)]
  · rw [c9 z h1 h3 h4, up_c h3, b4 z h3, a4 z h2]
theorem ess_read {tw : TW} {h h1 h2 : HP} (hK : TWK tw) (fx : FXt tw.2 h h1) (fm : FMt h1 h2) : Ess tw h h2 := by
  have hk : tw.1 = 4 ∧ tw.2 = 9 ∨ tw.1 = 9 ∧ tw.2 = 4 := by rcases hK with rfl | rfl; exact Or.inl ⟨rfl, rfl⟩; exact Or.inr ⟨rfl, rfl⟩
  have key : ∀ z, z ≠ 1 → z ≠ 3 → (z < tw.2 ∨ tw.2 + 4 < z) → z ≠ 39 → z ≠ 41 → z ≠ 42 → z ≠ 49 → z ≠ 50 → h2 z = h z := fun z a b c d e f g i => by rw [fm.1 z d e f g i, fx.1 z a b c]
  refine ⟨fun k hk2 => ?_, fun j hj => ?_, ?_, ?_, ?_, ?_, ?_, ?_⟩
  · have : k = 2 ∨ 14 ≤ k ∧ k ≤ 18 ∨ 24 ≤ k ∧ k ≤ 29 ∨ k = 40 ∨ 43 ≤ k ∧ k ≤ 48 := by
      revert k; decide
    exact key k (by omega) (by omega) (by omega) (by omega) (by omega) (by omega) (by omega) (by omega)
  · exact key _ (by omega) (by omega) (by omega) (by omega) (by omega) (by omega) (by omega) (by omega)
  · rw [key 0 (by omega) (by omega) (by omega) (by omega) (by omega) (by omega) (by omega) (by omega)]
  · rw [fm.1 1 (by decide) (by decide) (by decide) (by decide) (by decide), fx.2 1 (by decide)]
  · rw [fm.2 6 (by decide) (by decide) (by decide), fx.1 39 (by decide) (by decide) (by omega)]
  · rw [fm.2 8 (by decide) (by decide) (by decide), fx.1 39 (by decide) (by decide) (by omega)]
  · rw [fm.2 10 (by decide) (by decide) (by decide), fx.1 39 (by decide) (by decide) (by omega)]
  · rw [fm.2 13 (by decide) (by decide) (by decide), fx.1 39 (by decide) (by decide) (by omega)]
theorem TX.both {h : HP} (x : TX h) : ∃ n t, TXX n t h ∧ TXM n t h := by
  obtain ⟨n, hn, h1, h2, h3⟩ := x
  have key : ∀ j, j < n → h 46 j = nI (ix (h 46 j)) ∧ 32 ≤ ix (h 46 j) ∧ ix (h 46 j) ≤ 126 := fun j hj => by
    obtain ⟨c, c1, c2, e⟩ := (h3 j hj).2
    rw [e, e_ix (by omega)]
    exact ⟨rfl, c1, c2⟩
  exact ⟨n, fun j => ix (h 46 j), ⟨hn, h1, fun j hj => ⟨by rw [(h3 j hj).1]; exact (key j hj).1, (key j hj).2⟩⟩, ⟨hn, h2, key⟩⟩
theorem INV.tx {c : Nat} {tw : TW} {h : HP} (i : INV c tw h) : TX h := by
  obtain ⟨_, B, N, R, T, M, _, _, _, _, _, _, _, _, _, h10⟩ := i
  exact h10
theorem TXM.fx {n d : Nat} {t : Nat → Nat} {h h' : HP} (hd : TDc d) (y : TXM n t h) (p : FXt d h h') : TXM n t h' := by
  unfold TDc at hd
  unfold TXM
  rw [p.1 39 (by decide) (by decide) (by omega), p.1 46 (by decide) (by decide) (by omega)]
  exact y
theorem op_fault {F c : Nat} (hF : 600 ≤ F) {tw : TW} {h : HP} (i : INV c tw h) : Step (f_X6_fault F tw) (f_X7_fault F) c tw h := by
  have hK := i.1
  have hd : TDc tw.2 := by rcases hK with e | e; rw [e]; exact Or.inr rfl; rw [e]; exact Or.inl rfl
  obtain ⟨n, t, x, y⟩ := i.tx.both
  have fin : ∀ r h1 h2, f_X4_readInto F tw.2 h = some (r, h1) → f_X7_fault F h1 = some (r, h2) → FXt tw.2 h h1 → FMt h1 h2 → Step (f_X6_fault F tw) (f_X7_fault F) c tw h := fun r h1 h2 e1 e2 fx fm =>
    ⟨r, h1, h2, by unfold f_X6_fault; rw [e1, ob_eq], e2, (i.ess (ess_read hK fx fm)).mono (by omega)⟩
  rcases read_sim hF hd x y with ⟨h1, _, _, e1, _, _, _, _, fx, _⟩ | ⟨r, h1, _, hr, e1, _, fx, _⟩
  · rcases read_sim hF hd x (y.fx hd fx) with ⟨h1', h2, _, e1', e2, _, _, _, _, fm⟩ | ⟨r, h1', h2, hr, e1', e2, _, fm⟩
    · exact fin _ h1 h2 e1 e2 fx fm
    · rw [e1] at e1'
      exact absurd (congrArg Prod.fst (Option.some.inj e1')).symm (m4_ne (by omega))
  · rcases read_sim hF hd x (y.fx hd fx) with ⟨h1', h2, _, e1', e2, _, _, _, _, fm⟩ | ⟨r', h1', h2, hr', e1', e2, _, fm⟩
    · rw [e1] at e1'
      exact absurd (congrArg Prod.fst (Option.some.inj e1')) (m4_ne (by omega))
    · rw [e1] at e1'
      have er : nI r = nI r' := congrArg Prod.fst (Option.some.inj e1')
      exact fin _ h1 h2 e1 (by rw [er]; exact e2) fx fm
end
section
/-! ===== lay ===== -/
def LStep (F c : Nat) (tw : TW) (h : HP) : Prop := ∃ r tw' h1 h2, f_X6_lay F tw h = some (r, tw', h1) ∧ f_X7_lay F h1 = some (r, h2) ∧ INV (c + 1) tw' h2
theorem XSt.inj {d : Nat} {h : HP} {s s' : PSt} (x : XSt d h s) (x' : XSt d h s') (p : POK s) (p' : POK s') : s.1 = s'.1 ∧ s.2.1 = s'.2.1 ∧ s.2.2.2.2.2.2.1 = s'.2.2.2.2.2.2.1 := by
  have h0 := x.1
  rw [x'.1] at h0
  have h4 := x.2.1
  rw [x'.2.1] at h4
  have h7 := x.2.2.2.2.2.1
  rw [x'.2.2.2.2.2.1] at h7
  have a1 := p.1
  have a2 := p'.1
  have b1 := p.2.2.1
  have b2 := p'.2.2.1
  have c1 := p.2.2.2.2.2.2.1
  have c2 := p'.2.2.2.2.2.2.1
  rw [e_eq (by omega) (by omega)] at h0 h4 h7
  exact ⟨h0.symm, h4.symm, h7.symm⟩
theorem canBe_n (F : Nat) {d : Nat} {h : HP} {s : PSt} (x : XSt d h s) (p : POK s) : f_X5_canBeLaid F d h = if s.1 = 0 ∨ s.2.1 < s.2.2.2.2.2.2.1 then some (nI 0, h) else some (nI 1, h) := by
  have h0 := x.1
  have h4 := x.2.1
  have h7 : h d 7 = nI s.2.2.2.2.2.2.1 := x.2.2.2.2.2.1
  have a1 := p.1
  have b1 := p.2.2.1
  have c1 := p.2.2.2.2.2.2.1
  unfold f_X5_canBeLaid
  rw [h0, h4, h7, i_le (by omega) (by decide), i_lt (by omega) (by omega)]
  by_cases z : s.1 = 0
  · rw [if_pos (by omega), if_pos (Or.inl z)]
  · rw [if_neg (by omega)]
    by_cases w : s.2.1 < s.2.2.2.2.2.2.1
    · rw [if_pos w, if_pos (Or.inr w)]
    · rw [if_neg w, if_neg (by omega)]
theorem mlay_no {F : Nat} {g g' : HP} {r : Int32} (e : f_X7_fault F g = some (r, g')) (hr : ¬ r = -4) : f_X7_lay F g = some (-2, g') := by
  unfold f_X7_lay
  rw [e, ob_eq, if_neg hr]
theorem op_lay {F c : Nat} (hF : 600 ≤ F) {tw : TW} {h : HP} (i : INV c tw h) : LStep F c tw h := by
  have hK := i.1
  have hk : tw.1 = 4 ∧ tw.2 = 9 ∨ tw.1 = 9 ∧ tw.2 = 4 := by rcases hK with rfl | rfl; exact Or.inl ⟨rfl, rfl⟩; exact Or.inr ⟨rfl, rfl⟩
  have hd : TDc tw.2 := by unfold TDc; omega
  obtain ⟨n, t, x, y⟩ := i.tx.both
  rcases read_sim hF hd x y with ⟨h1, _, s, e1, _, xs, _, hP, fx, _⟩ | ⟨r, h1, _, hr, e1, _, fx, _⟩
  · by_cases z : s.1 = 0 ∨ s.2.1 < s.2.2.2.2.2.2.1
    · have eX : f_X6_lay F tw h = some (-2, tw, h1) := by
        unfold f_X6_lay
        rw [e1, ob_eq, if_pos rfl, canBe_n F xs hP, if_pos z, ob_eq, if_pos rfl]
      rcases read_sim hF hd x (y.fx hd fx) with ⟨h1', h2, s2, e1', e2, xs2, ms2, hP2, _, fm⟩ | ⟨r, h1', h2, hr, e1', e2, _, fm⟩
      · rw [e1] at e1'
        have eh : h1 = h1' := congrArg Prod.snd (Option.some.inj e1')
        subst eh
        obtain ⟨j1, j2, j3⟩ := xs.inj xs2 hP hP2
        rw [j1, j2, j3] at z
        have a1 := hP2.1
        have b1 := hP2.2.2.1
        have c1 := hP2.2.2.2.2.2.2.1
        have m0 : h2 41 0 = nI s2.1 := ms2.1
        have m1 : h2 41 1 = nI s2.2.1 := ms2.2.1
        have m3 : h2 39 3 = nI s2.2.2.2.2.2.2.1 := ms2.2.2.2.2.2.1
        refine ⟨-2, tw, h1, h2, eX, ?_, (i.ess (ess_read hK fx fm)).mono (by omega)⟩
        unfold f_X7_lay
        rw [e2, ob_eq, if_pos rfl, m0, m1, m3, i_eq (by omega) (by decide), i_le (by omega) (by omega)]
        by_cases w : s2.1 = 0
        · rw [if_pos w]
        · rw [if_neg w, if_neg (by omega)]
      · rw [e1] at e1'
        exact absurd (congrArg Prod.fst (Option.some.inj e1')).symm (m4_ne (by omega))
    · obtain ⟨h9, l1, _, _, _, _, _, _, _, _, l9⟩ := layTold_n hF (F := F) hd xs hP
      have y9 : TXM n t h9 := by
        have y1 := y.fx hd fx
        unfold TXM
        rw [l9 39 (by decide) (by decide) (by decide) (by decide) (by decide), l9 46 (by decide) (by decide) (by decide) (by decide) (by decide)]
        exact y1
      rcases read_sim hF hd x y9 with ⟨h1', g1, s2, e1', e2, xs2, ms2, hP2, _, fm⟩ | ⟨r, h1', h2, hr, e1', e2, _, fm⟩
      · rw [e1] at e1'
        have eh : h1 = h1' := congrArg Prod.snd (Option.some.inj e1')
        subst eh
        obtain ⟨j1, j2, j3⟩ := xs.inj xs2 hP hP2
        rw [j1, j2, j3] at z
        have eX : f_X6_lay F tw h = some (h9 tw.2 7, (tw.2, tw.1), h9) := by
          unfold f_X6_lay
          rw [e1, ob_eq, if_pos rfl, canBe_n F xs2 hP2, if_neg z, ob_eq, if_neg n1n0, l1, obv_eq]
        obtain ⟨h9', l1', l2, l3, l09, l4, l5, l6, l7, l8, _⟩ := layTold_n hF (F := F) hd xs2 hP2
        rw [l1] at l1'
        have eh9 : h9 = h9' := Option.some.inj l1'
        subst eh9
        obtain ⟨B, N, R, T, M, ht, K, ws⟩ := s2
        obtain ⟨x0, x4, x5, xb, x6, x7, xr⟩ := xs2
        obtain ⟨y0, y1, y2, yb, y6, y7, yr⟩ := ms2
        obtain ⟨p0, p1, p2, p3, p4, p5, p6, p7⟩ := hP2
        dsimp only at x0 x4 x5 xb x6 x7 xr y0 y1 y2 yb y6 y7 yr p0 p1 p2 p3 p4 p5 p6 p7 z l2
        obtain ⟨g2, b1, b2, b3, b4, b5, b6, b7, b8, b9, b10, b11, b12⟩ := begins_n hF p6 y7
        have eM : f_X7_lay F h9 = some (g2 39 3, g2) := by
          unfold f_X7_lay
          rw [e2, ob_eq, if_pos rfl, y0, i_eq (by omega) (by decide), if_neg (by omega), y7, y1, i_le (by omega) (by omega), if_pos (by omega), b1, obv_eq]
        have r7 : h9 tw.2 7 = nI K := by rw [l9 tw.2 (by omega) (by omega) (by omega) (by omega) (by omega)]; exact x7
        have r3 : g2 39 3 = nI K := by rw [b11 3 (by decide) (by decide) (by decide)]; exact y7
        -- from the class's end to the end
        have fz : ∀ q, q ≠ 39 → q ≠ 40 → q ≠ 41 → q ≠ 42 → q ≠ 43 → q ≠ 47 → q ≠ 49 → q ≠ 50 → g2 q = h9 q := fun q k1 k2 k3 k4 k5 k6 k7 k8 => by rw [b12 q k1 k2 k5 k6, fm.1 q k1 k3 k4 k7 k8]
        have fd : ∀ j, j < 5 → g2 (tw.2 + j) = h1 (tw.2 + j) := fun j hj => by
          rw [fz _ (by omega) (by omega) (by omega) (by omega) (by omega) (by omega) (by omega) (by omega), l9 _ (by omega) (by omega) (by omega) (by omega) (by omega)]
        have f1 : ∀ q, q ≠ 0 → q ≠ 1 → q ≠ 3 → (q < 4 ∨ 13 < q) → (q < 14 ∨ 18 < q) → q ≠ 24 → q ≠ 26 → q ≠ 28 → q ≠ 39 → q ≠ 40 → q ≠ 41 → q ≠ 42 → q ≠ 43 → q ≠ 47 → q ≠ 49 → q ≠ 50 → g2 q = h q := fun q k0 k1 k3 k4 k14 k24 k26 k28 k39 k40 k41 k42 k43 k47 k49 k50 => by
          rw [fz q k39 k40 k41 k42 k43 k47 k49 k50, l9 q k0 k24 k26 k28 k14, fx.1 q k1 k3 (by omega)]
        obtain ⟨_, B0, N0, R0, T0, M0, _, _, _, _, _, ⟨k1, hU, _⟩, ⟨k2, hKp, _⟩, _, _, hX⟩ := i
        have h24 : h1 24 = h 24 := fx.1 24 (by decide) (by decide) (by omega)
        have h26 : h1 26 = h 26 := fx.1 26 (by decide) (by decide) (by omega)
        have dvg : dv g2 14 = dv h9 14 := dv_re (fun k h1 h2 => fz k (by omega) (by omega) (by omega) (by omega) (by omega) (by omega) (by omega) (by omega))
        refine ⟨nI K, (tw.2, tw.1), h9, g2, by rw [eX, r7], by rw [eM, r3], ?_, B, N, R, T, M, ?_, ?_, ?_, ?_, ?_, ⟨0, ?_, b9⟩, ⟨0, ?_, b10⟩, ?_, ?_, ?_⟩
        · rcases hK with e | e
          · rw [e]; exact Or.inr rfl
          · rw [e]; exact Or.inl rfl
        · exact ⟨by omega, p0, p1, p2, p3, p4⟩
        · refine CTw.re ?_ (fun j hj => fd j (by omega))
          exact ⟨x0, x4, x5, xb⟩
        · refine ⟨by rw [b2 0 (by decide)]; exact y0, by rw [b2 1 (by decide)]; exact y1, by rw [b2 2 (by decide)]; exact y2, fun b hb => ⟨by rw [b2 (3 + b) (by omega)]; exact (yb b hb).1, by rw [b2 (11 + b) (by omega)]; exact (yb b hb).2⟩⟩
        · refine ⟨⟨N, Nat.le_refl _, by rw [b3]; exact y1⟩, ⟨0, Nat.zero_le _, b4, fun j hj => Or.inl (b6 (34 + j) (by omega) (by omega))⟩, fun r hr => ?_⟩
          rw [(b5 r hr).1]
          by_cases w : r < K
          · rw [if_pos w]; exact ⟨ws r, p7 r w, yr r w⟩
          · rw [if_neg w]; exact ⟨0, Nat.two_pow_pos _, rfl⟩
        · rw [dvg]
          refine ⟨fun j hj hh => ?_, fun j hj => Or.inl ⟨b6 (34 + j) (by omega) (by omega), by rw [l2 (34 + j) (by omega), if_neg (by omega), if_neg (by omega)]⟩⟩
          rw [l2 j hj]
          by_cases w0 : j = 0
          · rw [if_pos w0, w0, b3]; exact y1.symm
          · rw [if_neg w0]
            by_cases w1 : j = 1
            · rw [if_neg (by omega), w1, b4]
            · by_cases w2 : j < 34
              · obtain ⟨r, rfl⟩ : ∃ r, j = 2 + r := ⟨j - 2, by omega⟩
                rw [(b5 r (by omega)).1, show 2 + r - 2 = r by omega]
                by_cases w : r < K
                · rw [if_pos (show 2 ≤ 2 + r ∧ 2 + r < 34 ∧ r < K by omega), if_pos w]; exact (yr r w).symm
                · rw [if_neg (show ¬ (2 ≤ 2 + r ∧ 2 + r < 34 ∧ r < K) by omega), if_neg w]
              · rw [if_neg (by omega), b7 j (by omega) hj]
        · obtain ⟨q1, q2, q3, nx, q4, q5, q6⟩ := hU
          have g24 : g2 24 = h9 24 := fz 24 (by decide) (by decide) (by decide) (by decide) (by decide) (by decide) (by decide) (by decide)
          exact ⟨Nat.zero_le _, by rw [g24, l6 0 (by decide), h24]; exact q2, by rw [g24]; exact l4, nx, q4, by rw [g24, l6 2 (by decide), h24]; exact q5, fun i hi => absurd hi (Nat.not_lt_zero _)⟩
        · obtain ⟨q1, q2, q3, nx, q4, q5, q6⟩ := hKp
          have g26 : g2 26 = h9 26 := fz 26 (by decide) (by decide) (by decide) (by decide) (by decide) (by decide) (by decide) (by decide)
          exact ⟨Nat.zero_le _, by rw [g26, l7 0 (by decide), h26]; exact q2, by rw [g26]; exact l5, nx, q4, by rw [g26, l7 2 (by decide), h26]; exact q5, fun i hi => absurd hi (Nat.not_lt_zero _)⟩
        · intro r hr
          rw [fz 28 (by decide) (by decide) (by decide) (by decide) (by decide) (by decide) (by decide) (by decide), (b5 r hr).2, l3 r hr]
          exact ⟨rfl, 0, Nat.two_pow_pos _, rfl⟩
        · refine ⟨0, Nat.zero_le _, ?_, b8, fun i hi => absurd hi (Nat.not_lt_zero _)⟩
          rw [fz 0 (by decide) (by decide) (by decide) (by decide) (by decide) (by decide) (by decide) (by decide)]
          exact l09
        · refine hX.re ?_ ?_ ?_ ?_
          · rw [fz 1 (by decide) (by decide) (by decide) (by decide) (by decide) (by decide) (by decide) (by decide), l9 1 (by decide) (by decide) (by decide) (by decide) (by decide), fx.2 1 (by decide)]
          · rw [b11 10 (by decide) (by decide) (by decide), fm.2 10 (by decide) (by decide) (by decide), l9 39 (by decide) (by decide) (by decide) (by decide) (by decide), fx.1 39 (by decide) (by decide) (by omega)]
          · exact f1 2 (by decide) (by decide) (by decide) (by decide) (by decide) (by decide) (by decide) (by decide) (by decide) (by decide) (by decide) (by decide) (by decide) (by decide) (by decide) (by decide)
          · exact f1 46 (by decide) (by decide) (by decide) (by decide) (by decide) (by decide) (by decide) (by decide) (by decide) (by decide) (by decide) (by decide) (by decide) (by decide) (by decide) (by decide)
      · rw [e1] at e1'
        exact absurd (congrArg Prod.fst (Option.some.inj e1')).symm (m4_ne (by omega))
  · have eX : f_X6_lay F tw h = some (-2, tw, h1) := by
      unfold f_X6_lay
      rw [e1, ob_eq, if_neg (m4_ne (by omega))]
    rcases read_sim hF hd x (y.fx hd fx) with ⟨h1', h2, _, e1', e2, _, _, _, _, fm⟩ | ⟨r', h1', h2, hr', e1', e2, _, fm⟩
    · rw [e1] at e1'
      exact absurd (congrArg Prod.fst (Option.some.inj e1')) (m4_ne (by omega))
    · exact ⟨-2, tw, h1, h2, eX, mlay_no e2 (m4_ne (by omega)), (i.ess (ess_read hK fx fm)).mono (by omega)⟩
end
section
/-! ===== the law's loop ===== -/
theorem law_go {F L : Nat} {xs : Nat → Int32} (hF : 600 ≤ F) (hL : L ≤ 2048) : ∀ (k i m : Nat) (tw : TW) (h : HP), L < i + 4 * k + 4 → k < m → i ≤ L → INV i tw h → ∃ h', f_L_law_18 F xs L m (nI i) tw h = some h' := by
  intro k
  induction k with
  | zero =>
    intro i m tw h hk hm hi inv
    obtain ⟨m, rfl⟩ := succ_of hm
    refine ⟨h, ?_⟩
    rw [f_L_law_18, if_pos]
    by_cases z : L < 4
    · exact Int32.lt_of_lt_of_le ((sub48 (by omega) (by decide)).mpr z) (by rw [e_le (by decide) (by omega)]; omega)
    · rw [e_sub (by omega), e_lt (by omega) (by omega)]; omega
  | succ k ih =>
    intro i m tw h hk hm hi inv
    obtain ⟨m, rfl⟩ := succ_of hm
    have hc : i < 900000 := by omega
    by_cases hz : (nI L - nI 4) < nI i
    · exact ⟨h, by rw [f_L_law_18, if_pos hz]⟩
    have hiL : i + 4 ≤ L := by
      by_cases z : L < 4
      · exact absurd (Int32.lt_of_lt_of_le ((sub48 (by omega) (by decide)).mpr z) (by rw [e_le (by decide) (by omega)]; omega)) hz
      · rw [e_sub (by omega), e_lt (by omega) (by omega)] at hz; omega
    have go : ∀ tw' h', INV (i + 1) tw' h' → ∃ h'', f_L_law_18 F xs L m (nI (i + 4)) tw' h' = some h'' := fun tw' h' iv => ih (i + 4) m tw' h' (by omega) (by omega) (by omega) (iv.mono (by omega))
    rw [f_L_law_18, if_neg hz, if_pos (inb_t (by omega) (by omega)), e_ix (show i < 2147483648 by omega)]
    generalize (xs i &&& nI 31) = v
    by_cases z0 : v = nI 0
    · obtain ⟨r, h1, h2, a1, a2, a3⟩ := op_write (F := F) inv (xs (ix (nI (i + 1))))
      rw [if_pos z0, e_add, e_add, if_pos (inb_t (show i + 1 < L by omega) (by omega)), a1, ob_eq, a2, ob_eq, if_pos rfl]
      exact go tw h2 a3
    rw [if_neg z0]
    by_cases z1 : v = nI 1
    · obtain ⟨r, h1, h2, a1, a2, a3⟩ := op_wipe (F := F) inv 
      rw [if_pos z1, e_add, a1, ob_eq, a2, ob_eq, if_pos rfl]
      exact go tw h2 a3
    rw [if_neg z1]
    by_cases z2 : v = nI 2
    · obtain ⟨r, h1, h2, a1, a2, a3⟩ := op_fault hF inv 
      rw [if_pos z2, e_add, a1, ob_eq, a2, ob_eq, if_pos rfl]
      exact go tw h2 a3
    rw [if_neg z2]
    by_cases z3 : v = nI 3
    · obtain ⟨r, tw', h1, h2, a1, a2, a3⟩ := op_lay hF inv
      rw [if_pos z3, a1, ob3_eq, a2, ob_eq, if_pos rfl, e_add]
      exact go tw' h2 a3
    rw [if_neg z3]
    by_cases z4 : v = nI 4
    · obtain ⟨r, h1, h2, a1, a2, a3⟩ := Same.step (op_bell hF inv (xs (ix (nI (i + 1)))) (xs (ix (nI (i + 2))))) inv
      rw [if_pos z4, e_add, e_add, e_add, if_pos (inb_t (show i + 1 < L by omega) (by omega)), if_pos (inb_t (show i + 2 < L by omega) (by omega)), a1, ob_eq, a2, ob_eq, if_pos rfl]
      exact go tw h2 a3
    rw [if_neg z4]
    by_cases z5 : v = nI 5
    · obtain ⟨r, h1, h2, a1, a2, a3⟩ := Same.step (op_pins (F := F) inv (xs (ix (nI (i + 1))))) inv
      rw [if_pos z5, e_add, e_add, if_pos (inb_t (show i + 1 < L by omega) (by omega)), a1, ob_eq, a2, ob_eq, if_pos rfl]
      exact go tw h2 a3
    rw [if_neg z5]
    by_cases z6 : v = nI 6
    · obtain ⟨r, h1, h2, a1, a2, a3⟩ := op_turn hF hc inv 
      rw [if_pos z6, e_add, a1, ob_eq, a2, ob_eq, if_pos rfl]
      exact go tw h2 a3
    rw [if_neg z6]
    by_cases z7 : v = nI 7
    · obtain ⟨r, h1, h2, a1, a2, a3⟩ := op_turnBack hF hc inv 
      rw [if_pos z7, e_add, a1, ob_eq, a2, ob_eq, if_pos rfl]
      exact go tw h2 a3
    rw [if_neg z7]
    by_cases z8 : v = nI 8
    · obtain ⟨r, h1, h2, a1, a2, a3⟩ := op_pin hF hc inv (xs (ix (nI (i + 1)))) (xs (ix (nI (i + 2)))) (if (xs (ix (nI (i + 3)))) = nI 0 then nI 0 else nI 1)
      rw [if_pos z8, e_add, e_add, e_add, e_add, if_pos (inb_t (show i + 1 < L by omega) (by omega)), if_pos (inb_t (show i + 2 < L by omega) (by omega)), if_pos (inb_t (show i + 3 < L by omega) (by omega)), a1, ob_eq, a2, ob_eq, if_pos rfl]
      exact go tw h2 a3
    rw [if_neg z8]
    by_cases z9 : v = nI 9
    · obtain ⟨r, h1, h2, a1, a2, a3⟩ := op_shift hF hc inv (xs (ix (nI (i + 1))))
      rw [if_pos z9, e_add, e_add, if_pos (inb_t (show i + 1 < L by omega) (by omega)), a1, ob_eq, a2, ob_eq, if_pos rfl]
      exact go tw h2 a3
    rw [if_neg z9]
    by_cases z10 : v = nI 10
    · obtain ⟨r, h1, h2, a1, a2, a3⟩ := op_undo hF inv 
      rw [if_pos z10, e_add, a1, ob_eq, a2, ob_eq, if_pos rfl]
      exact go tw h2 a3
    rw [if_neg z10]
    by_cases z11 : v = nI 11
    · obtain ⟨r, h1, h2, a1, a2, a3⟩ := op_whole hF hc inv (xs (ix (nI (i + 1))))
      rw [if_pos z11, e_add, e_add, if_pos (inb_t (show i + 1 < L by omega) (by omega)), a1, ob_eq, a2, ob_eq, if_pos rfl]
      exact go tw h2 a3
    rw [if_neg z11]
    by_cases z12 : v = nI 12
    · obtain ⟨r, h1, h2, a1, a2, a3⟩ := Same.step (op_silence hF inv ) inv
      rw [if_pos z12, e_add, a1, ob_eq, a2, ob_eq, if_pos rfl]
      exact go tw h2 a3
    rw [if_neg z12]
    by_cases z13 : v = nI 13
    · obtain ⟨r, h1, h2, a1, a2, a3⟩ := Same.step (op_again hF inv ) inv
      rw [if_pos z13, e_add, a1, ob_eq, a2, ob_eq, if_pos rfl]
      exact go tw h2 a3
    rw [if_neg z13]
    by_cases z14 : v = nI 14
    · obtain ⟨r, h1, h2, a1, a2, a3⟩ := Same.step (op_harsh hF inv ) inv
      rw [if_pos z14, e_add, a1, ob_eq, a2, ob_eq, if_pos rfl]
      exact go tw h2 a3
    rw [if_neg z14]
    by_cases z15 : v = nI 15
    · obtain ⟨r, h1, h2, a1, a2, a3⟩ := Same.step (op_canon hF inv (xs (ix (nI (i + 1))))) inv
      rw [if_pos z15, e_add, e_add, if_pos (inb_t (show i + 1 < L by omega) (by omega)), a1, ob_eq, a2, ob_eq, if_pos rfl]
      exact go tw h2 a3
    rw [if_neg z15]
    by_cases z16 : v = nI 16
    · obtain ⟨r, h1, h2, a1, a2, a3⟩ := op_want (F := F) inv (xs (ix (nI (i + 1)))) (xs (ix (nI (i + 2))))
      rw [if_pos z16, e_add, e_add, e_add, if_pos (inb_t (show i + 1 < L by omega) (by omega)), if_pos (inb_t (show i + 2 < L by omega) (by omega)), a1, ob_eq, a2, ob_eq, if_pos rfl]
      exact go tw h2 a3
    rw [if_neg z16]
    by_cases z17 : v = nI 17
    · obtain ⟨r, h1, h2, a1, a2, a3⟩ := Same.step (op_changes hF inv (xs (ix (nI (i + 1))))) inv
      rw [if_pos z17, e_add, e_add, if_pos (inb_t (show i + 1 < L by omega) (by omega)), a1, ob_eq, a2, ob_eq, if_pos rfl]
      exact go tw h2 a3
    rw [if_neg z17]
    by_cases z18 : v = nI 18
    · obtain ⟨r, h1, h2, a1, a2, a3⟩ := op_letters hF inv 
      rw [if_pos z18, e_add, a1, ob_eq, a2, ob_eq, if_pos rfl]
      exact go tw h2 a3
    rw [if_neg z18]
    by_cases z19 : v = nI 19
    · obtain ⟨r, h1, h2, a1, a2, a3⟩ := op_ringers hF inv 
      rw [if_pos z19, e_add, a1, ob_eq, a2, ob_eq, if_pos rfl]
      exact go tw h2 a3
    rw [if_neg z19]
    by_cases z20 : v = nI 20
    · obtain ⟨r, h1, h2, a1, a2, a3⟩ := op_hear (F := F) inv (xs (ix (nI (i + 1))))
      rw [if_pos z20, e_add, e_add, if_pos (inb_t (show i + 1 < L by omega) (by omega)), a1, ob_eq, a2, ob_eq, if_pos rfl]
      exact go tw h2 a3
    rw [if_neg z20]
    by_cases z21 : v = nI 21
    · obtain ⟨r, h1, h2, a1, a2, a3⟩ := op_forget (F := F) inv 
      rw [if_pos z21, e_add, a1, ob_eq, a2, ob_eq, if_pos rfl]
      exact go tw h2 a3
    rw [if_neg z21]
    by_cases z22 : v = nI 22
    · obtain ⟨r, h1, h2, a1, a2, a3⟩ := Same.step (op_stood hF inv ) inv
      rw [if_pos z22, e_add, a1, ob_eq, a2, ob_eq, if_pos rfl]
      exact go tw h2 a3
    rw [if_neg z22]
    by_cases z23 : v = nI 23
    · obtain ⟨r, h1, h2, a1, a2, a3⟩ := Same.step (op_octaves hF inv ) inv
      rw [if_pos z23, e_add, a1, ob_eq, a2, ob_eq, if_pos rfl]
      exact go tw h2 a3
    rw [if_neg z23]
    by_cases z24 : v = nI 24
    · obtain ⟨r, h1, h2, a1, a2, a3⟩ := Same.step (op_melody hF inv (xs (ix (nI (i + 1))))) inv
      rw [if_pos z24, e_add, e_add, if_pos (inb_t (show i + 1 < L by omega) (by omega)), a1, ob_eq, a2, ob_eq, if_pos rfl]
      exact go tw h2 a3
    rw [if_neg z24]
    by_cases z25 : v = nI 25
    · obtain ⟨r, h1, h2, a1, a2, a3⟩ := op_winter hF hc inv (xs (ix (nI (i + 1)))) (xs (ix (nI (i + 2)))) (xs (ix (nI (i + 3))))
      rw [if_pos z25, e_add, e_add, e_add, e_add, if_pos (inb_t (show i + 1 < L by omega) (by omega)), if_pos (inb_t (show i + 2 < L by omega) (by omega)), if_pos (inb_t (show i + 3 < L by omega) (by omega)), a1, ob_eq, a2, ob_eq, if_pos rfl]
      exact go tw h2 a3
    rw [if_neg z25]
    by_cases z26 : v = nI 26
    · obtain ⟨r, h1, h2, a1, a2, a3⟩ := op_keep hF inv 
      rw [if_pos z26, e_add, a1, ob_eq, a2, ob_eq, if_pos rfl]
      exact go tw h2 a3
    rw [if_neg z26]
    by_cases z27 : v = nI 27
    · obtain ⟨r, h1, h2, a1, a2, a3⟩ := op_back hF inv 
      rw [if_pos z27, e_add, a1, ob_eq, a2, ob_eq, if_pos rfl]
      exact go tw h2 a3
    rw [if_neg z27]
    by_cases z28 : v = nI 28
    · obtain ⟨r, h1, h2, a1, a2, a3⟩ := Same.step (op_count hF inv (xs (ix (nI (i + 1))))) inv
      rw [if_pos z28, e_add, e_add, if_pos (inb_t (show i + 1 < L by omega) (by omega)), a1, ob_eq, a2, ob_eq, if_pos rfl]
      exact go tw h2 a3
    rw [if_neg z28]
    rw [e_add]
    exact go tw h (inv.mono (by omega))
end
