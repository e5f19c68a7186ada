def f_J7_fill_53178_5 (F : Nat) (r0 : Nat) (x1 : Int32) : Nat → Int32 → Int32 → HP → Option (HP)
  | 0, _, _, _ => none
  | n + 1, x2, x3, h =>
    if x3 ≤ x2 then
      some h
    else
      if inb x2 (ln r0) then
        f_J7_fill_53178_5 F r0 x1 n (x2 + (nI 1)) x3 (up h r0 (ix x2) x1)
      else none
def f_J7_fill_53178 (F : Nat) (r0 : Nat) (x1 : Int32) (h : HP) : Option (HP) :=
  f_J7_fill_53178_5 F r0 x1 F (nI 0) (nI (ln r0)) h
def f_X0_startWith (F : Nat) (r0 : Nat) (r1 : Nat) (h : HP) : Option (HP) :=
  obv (f_J7_fill_53178 F (r0 + 1) (nI 0) h) (fun h1 =>
  if cpb (nI 0) (nI 0) (h1 r1 7) 32 32 then
    obv (f_J7_fill_53178 F (r0 + 2) (nI 0) (cpy h1 (r1 + 4) (nI 0) (r0 + 1) (nI 0) (h1 r1 7))) (fun h4 =>
    obv (f_J7_fill_53178 F (r0 + 3) (nI 0) h4) (fun h6 =>
    obv (f_J7_fill_53178 F (r0 + 4) (nI 0) h6) (fun h8 =>
    some (up (up h8 r0 4 (h8 r1 4)) r0 5 (nI 0)))))
  else none)
def f_X0_strike_7 (F : Nat) (r0 : Nat) (x1 : Int32) (r2 : Nat) : Nat → Int32 → Int32 → HP → Option (Int32 × HP)
  | 0, _, _, _ => none
  | n + 1, x3, x4, h =>
    if inb x1 8 then
      if (x3 + (h (r2 + 2) (ix x1))) ≤ x4 then
        some ((nI 0), h)
      else
        if inb x4 16 then
          if (h r0 5) < (h (r0 + 2) (ix x4)) then
            f_X0_strike_7 F r0 x1 r2 n x3 (x4 + (nI 1)) h
          else
            some ((nI 1), up h (r0 + 2) (ix x4) (((h r0 5) + (h r2 5)) + (nI 1)))
        else none
    else none
def f_X0_strike (F : Nat) (r0 : Nat) (x1 : Int32) (r2 : Nat) (h : HP) : Option (Int32 × HP) :=
  f_X0_strike_7 F r0 x1 r2 F (x1 * (nI 2)) (x1 * (nI 2)) h
def f_X0_ringRow_32 (F : Nat) (r0 : Nat) (x1 : Int32) (r2 : Nat) : Nat → Int32 → Int32 → HP → Option (Int32 × HP)
  | 0, _, _, _ => none
  | n + 1, x3, x4, h =>
    if (h r2 0) ≤ x4 then
      some (x3, h)
    else
      if inb x1 32 then
        if ((jshr (h (r0 + 1) (ix x1)) x4) &&& (nI 1)) = nI 0 then
          f_X0_ringRow_32 F r0 x1 r2 n x3 (x4 + (nI 1)) h
        else
          ob (f_X0_strike F r0 x4 r2 h) (fun v8 h6 =>
          if v8 = nI 0 then
            if inb x4 8 then
              f_X0_ringRow_32 F r0 x1 r2 n x3 (x4 + (nI 1)) (up h6 (r0 + 4) (ix x4) ((h6 (r0 + 4) (ix x4)) + (nI 1)))
            else none
          else
            if inb x4 8 then
              f_X0_ringRow_32 F r0 x1 r2 n (x3 ||| (jshl (nI 1) x4)) (x4 + (nI 1)) (up h6 (r0 + 3) (ix x4) ((h6 (r0 + 3) (ix x4)) + (nI 1)))
            else none)
      else none
def f_X0_ringRow (F : Nat) (r0 : Nat) (x1 : Int32) (r2 : Nat) (h : HP) : Option (Int32 × HP) :=
  if x1 < nI 0 then
    some ((nI 0), h)
  else
    if x1 < (nI 32) then
      f_X0_ringRow_32 F r0 x1 r2 F (nI 0) (nI 0) (up (up h r0 4 x1) r0 5 (((up h r0 4 x1) r0 5) + (nI 1)))
    else
      some ((nI 0), h)
def f_X0_turnOn (F : Nat) (r0 : Nat) (r1 : Nat) (h : HP) : Option (Int32 × HP) :=
  ob (f_X0_ringRow F r0 (if (h r0 4) < ((h r1 4) - (nI 1)) then (h r0 4) + (nI 1) else (nI 0)) r1 h) (fun v3 h1 =>
  some (v3, h1))
def f_X0_turnOff (F : Nat) (r0 : Nat) (r1 : Nat) (h : HP) : Option (Int32 × HP) :=
  ob (f_X0_ringRow F r0 (if nI 0 < (h r0 4) then (h r0 4) - (nI 1) else (h r1 4) - (nI 1)) r1 h) (fun v3 h1 =>
  some (v3, h1))
def f_X0_copy (F : Nat) (r0 : Nat) (r1 : Nat) (h : HP) : Option (HP) :=
  if cpb (nI 0) (nI 0) (nI 32) 32 32 then
    if cpb (nI 0) (nI 0) (nI 16) 16 16 then
      if cpb (nI 0) (nI 0) (nI 8) 8 8 then
        if cpb (nI 0) (nI 0) (nI 8) 8 8 then
          some (up (up (cpy (cpy (cpy (cpy h (r1 + 1) (nI 0) (r0 + 1) (nI 0) (nI 32)) (r1 + 2) (nI 0) (r0 + 2) (nI 0) (nI 16)) (r1 + 3) (nI 0) (r0 + 3) (nI 0) (nI 8)) (r1 + 4) (nI 0) (r0 + 4) (nI 0) (nI 8)) r0 4 ((cpy (cpy (cpy (cpy h (r1 + 1) (nI 0) (r0 + 1) (nI 0) (nI 32)) (r1 + 2) (nI 0) (r0 + 2) (nI 0) (nI 16)) (r1 + 3) (nI 0) (r0 + 3) (nI 0) (nI 8)) (r1 + 4) (nI 0) (r0 + 4) (nI 0) (nI 8)) r1 4)) r0 5 ((up (cpy (cpy (cpy (cpy h (r1 + 1) (nI 0) (r0 + 1) (nI 0) (nI 32)) (r1 + 2) (nI 0) (r0 + 2) (nI 0) (nI 16)) (r1 + 3) (nI 0) (r0 + 3) (nI 0) (nI 8)) (r1 + 4) (nI 0) (r0 + 4) (nI 0) (nI 8)) r0 4 ((cpy (cpy (cpy (cpy h (r1 + 1) (nI 0) (r0 + 1) (nI 0) (nI 32)) (r1 + 2) (nI 0) (r0 + 2) (nI 0) (nI 16)) (r1 + 3) (nI 0) (r0 + 3) (nI 0) (nI 8)) (r1 + 4) (nI 0) (r0 + 4) (nI 0) (nI 8)) r1 4)) r1 5))
        else none
      else none
    else none
  else none
def f_X0_saveTo (F : Nat) (r0 : Nat) (r1 : Nat) (x2 : Int32) (h : HP) : Option (HP) :=
  if x2 < nI 0 then
    some h
  else
    if (x2 + (nI 66)) ≤ (nI (ln r1)) then
      if inb x2 (ln r1) then
        if inb (x2 + (nI 1)) (ln r1) then
          if cpb (nI 0) ((x2 + (nI 1)) + (nI 1)) (nI 32) 32 (ln r1) then
            if cpb (nI 0) (((x2 + (nI 1)) + (nI 1)) + (nI 32)) (nI 16) 16 (ln r1) then
              if cpb (nI 0) ((((x2 + (nI 1)) + (nI 1)) + (nI 32)) + (nI 16)) (nI 8) 8 (ln r1) then
                if cpb (nI 0) (((((x2 + (nI 1)) + (nI 1)) + (nI 32)) + (nI 16)) + (nI 8)) (nI 8) 8 (ln r1) then
                  some (cpy (cpy (cpy (cpy (up (up h r1 (ix x2) (h r0 4)) r1 (ix (x2 + (nI 1))) ((up h r1 (ix x2) (h r0 4)) r0 5)) (r0 + 1) (nI 0) r1 ((x2 + (nI 1)) + (nI 1)) (nI 32)) (r0 + 2) (nI 0) r1 (((x2 + (nI 1)) + (nI 1)) + (nI 32)) (nI 16)) (r0 + 3) (nI 0) r1 ((((x2 + (nI 1)) + (nI 1)) + (nI 32)) + (nI 16)) (nI 8)) (r0 + 4) (nI 0) r1 (((((x2 + (nI 1)) + (nI 1)) + (nI 32)) + (nI 16)) + (nI 8)) (nI 8))
                else none
              else none
            else none
          else none
        else none
      else none
    else
      some h
def f_X0_loadFrom (F : Nat) (r0 : Nat) (r1 : Nat) (x2 : Int32) (h : HP) : Option (HP) :=
  if x2 < nI 0 then
    some h
  else
    if (x2 + (nI 66)) ≤ (nI (ln r1)) then
      if inb x2 (ln r1) then
        if inb (x2 + (nI 1)) (ln r1) then
          if cpb ((x2 + (nI 1)) + (nI 1)) (nI 0) (nI 32) (ln r1) 32 then
            if cpb (((x2 + (nI 1)) + (nI 1)) + (nI 32)) (nI 0) (nI 16) (ln r1) 16 then
              if cpb ((((x2 + (nI 1)) + (nI 1)) + (nI 32)) + (nI 16)) (nI 0) (nI 8) (ln r1) 8 then
                if cpb (((((x2 + (nI 1)) + (nI 1)) + (nI 32)) + (nI 16)) + (nI 8)) (nI 0) (nI 8) (ln r1) 8 then
                  some (cpy (cpy (cpy (cpy (up (up h r0 4 (h r1 (ix x2))) r0 5 ((up h r0 4 (h r1 (ix x2))) r1 (ix (x2 + (nI 1))))) r1 ((x2 + (nI 1)) + (nI 1)) (r0 + 1) (nI 0) (nI 32)) r1 (((x2 + (nI 1)) + (nI 1)) + (nI 32)) (r0 + 2) (nI 0) (nI 16)) r1 ((((x2 + (nI 1)) + (nI 1)) + (nI 32)) + (nI 16)) (r0 + 3) (nI 0) (nI 8)) r1 (((((x2 + (nI 1)) + (nI 1)) + (nI 32)) + (nI 16)) + (nI 8)) (r0 + 4) (nI 0) (nI 8))
                else none
              else none
            else none
          else none
        else none
      else none
    else
      some h
def f_J9_max_7cf53 (F : Nat) (x0 : Int32) (x1 : Int32) (h : HP) : Option (Int32 × HP) :=
  if x0 < x1 then
    some (x1, h)
  else
    some (x0, h)
def f_X1_partFrom_31 (F : Nat) (kr : Int32 → Int32 → HP → Option HP) (x1 : Int32) (x2 : Int32) : Nat → Int32 → HP → Option (HP)
  | 0, _, _ => none
  | n + 1, x3, h =>
    if x2 < x3 then
      some h
    else
      if (nI 8) ≤ x3 then
        some h
      else
        if inb x3 8 then
          if inb x1 8 then
            if ((h 38 (ix x3)) &&& (h 37 (ix x1))) = nI 0 then
              ob (f_J9_max_7cf53 F x2 (x3 + (nI 1)) (up h 38 (ix x3) ((h 38 (ix x3)) ||| (jshl (nI 1) x1)))) (fun v11 h9 =>
              obv (kr (x1 + (nI 1)) v11 h9) (fun h12 =>
              f_X1_partFrom_31 F kr x1 x2 n (x3 + (nI 1)) (up h12 38 (ix x3) ((h12 38 (ix x3)) &&& ((jshl (nI 1) x1) ^^^ (-1))))))
            else
              f_X1_partFrom_31 F kr x1 x2 n (x3 + (nI 1)) h
          else none
        else none
def f_X1_partFrom (F : Nat) : Nat → Int32 → Int32 → HP → Option HP
  | 0, _, _, _ => none
  | dd + 1, x1, x2, h =>
    if x2 < (h 36 3) then
      if (h 36 2) ≤ x1 then
        some (up h 36 3 x2)
      else
        if x1 < (nI 8) then
          f_X1_partFrom_31 F (f_X1_partFrom F dd) x1 x2 F (nI 0) h
        else
          some (up h 36 3 x2)
    else
      some h
def f_X1_fewestPeople_45 (F : Nat) (r1 : Nat) (r2 : Nat) (k_34 : Int32 → HP → Option (Int32 × HP)) : Nat → Int32 → Int32 → HP → Option (Int32 × HP)
  | 0, _, _, _ => none
  | n + 1, x3, x4, h =>
    if (h 36 2) ≤ x4 then
      k_34 (x3 + (nI 1)) h
    else
      if inb x3 (ln r1) then
        if ((jshr (h r1 (ix x3)) x4) &&& (nI 1)) = (nI 1) then
          if inb x4 8 then
            f_X1_fewestPeople_45 F r1 r2 k_34 n x3 (x4 + (nI 1)) (up h 37 (ix x4) ((h 37 (ix x4)) ||| ((h r1 (ix x3)) &&& ((jshl (nI 1) x4) ^^^ (-1)))))
          else none
        else
          f_X1_fewestPeople_45 F r1 r2 k_34 n x3 (x4 + (nI 1)) h
      else none
def f_X1_fewestPeople_34 (F : Nat) (r1 : Nat) (r2 : Nat) : Nat → Int32 → HP → Option (Int32 × HP)
  | 0, _, _ => none
  | n + 1, x3, h =>
    if (h r2 4) ≤ x3 then
      obv (f_X1_partFrom F 12 (nI 0) (nI 0) h) (fun h6 =>
      some (h6 36 3, h6))
    else
      f_X1_fewestPeople_45 F r1 r2 (f_X1_fewestPeople_34 F r1 r2 n) F x3 (nI 0) h
def f_X1_fewestPeople (F : Nat) (r1 : Nat) (r2 : Nat) (h : HP) : Option (Int32 × HP) :=
  obv (f_J7_fill_53178 F 37 (nI 0) (up (up h 36 2 (h r2 0)) 36 3 ((up h 36 2 (h r2 0)) 36 2))) (fun h1 =>
  obv (f_J7_fill_53178 F 38 (nI 0) h1) (fun h3 =>
  f_X1_fewestPeople_34 F r1 r2 F (nI 0) h3))
def f_X2_clear (F : Nat) (r0 : Nat) (h : HP) : Option (HP) :=
  some (up h r0 3 (nI 0))
def f_J9_min_7cf53 (F : Nat) (x0 : Int32) (x1 : Int32) (h : HP) : Option (Int32 × HP) :=
  if x1 < x0 then
    some (x1, h)
  else
    some (x0, h)
def f_X2_put (F : Nat) (r0 : Nat) (r1 : Nat) (h : HP) : Option (HP) :=
  obv (f_X0_saveTo F r1 (r0 + 1) ((h r0 2) * (nI 66)) h) (fun h1 =>
  ob (f_J9_min_7cf53 F (((up h1 r0 2 (if (h1 r0 0) ≤ ((h1 r0 2) + (nI 1)) then (nI 0) else (h1 r0 2) + (nI 1))) r0 3) + (nI 1)) ((up h1 r0 2 (if (h1 r0 0) ≤ ((h1 r0 2) + (nI 1)) then (nI 0) else (h1 r0 2) + (nI 1))) r0 0) (up h1 r0 2 (if (h1 r0 0) ≤ ((h1 r0 2) + (nI 1)) then (nI 0) else (h1 r0 2) + (nI 1)))) (fun v5 h3 =>
  some (up h3 r0 3 v5)))
def f_X2_takeInto (F : Nat) (r0 : Nat) (r1 : Nat) (h : HP) : Option (Int32 × HP) :=
  if (nI 1) ≤ (h r0 3) then
    obv (f_X0_loadFrom F r1 (r0 + 1) (((up (up h r0 3 ((h r0 3) - (nI 1))) r0 2 (if ((up h r0 3 ((h r0 3) - (nI 1))) r0 2) ≤ nI 0 then ((up h r0 3 ((h r0 3) - (nI 1))) r0 0) - (nI 1) else ((up h r0 3 ((h r0 3) - (nI 1))) r0 2) - (nI 1))) r0 2) * (nI 66)) (up (up h r0 3 ((h r0 3) - (nI 1))) r0 2 (if ((up h r0 3 ((h r0 3) - (nI 1))) r0 2) ≤ nI 0 then ((up h r0 3 ((h r0 3) - (nI 1))) r0 0) - (nI 1) else ((up h r0 3 ((h r0 3) - (nI 1))) r0 2) - (nI 1)))) (fun h2 =>
    some ((nI 1), h2))
  else
    some ((nI 0), h)
def f_J6_bitCount_0f7a4 (F : Nat) (x0 : Int32) (h : HP) : Option (Int32 × HP) :=
  some ((((((((x0 - ((jushr x0 (nI 1)) &&& (nI 1431655765))) &&& (nI 858993459)) + ((jushr (x0 - ((jushr x0 (nI 1)) &&& (nI 1431655765))) (nI 2)) &&& (nI 858993459))) + (jushr (((x0 - ((jushr x0 (nI 1)) &&& (nI 1431655765))) &&& (nI 858993459)) + ((jushr (x0 - ((jushr x0 (nI 1)) &&& (nI 1431655765))) (nI 2)) &&& (nI 858993459))) (nI 4))) &&& (nI 252645135)) + (jushr (((((x0 - ((jushr x0 (nI 1)) &&& (nI 1431655765))) &&& (nI 858993459)) + ((jushr (x0 - ((jushr x0 (nI 1)) &&& (nI 1431655765))) (nI 2)) &&& (nI 858993459))) + (jushr (((x0 - ((jushr x0 (nI 1)) &&& (nI 1431655765))) &&& (nI 858993459)) + ((jushr (x0 - ((jushr x0 (nI 1)) &&& (nI 1431655765))) (nI 2)) &&& (nI 858993459))) (nI 4))) &&& (nI 252645135)) (nI 8))) + (jushr ((((((x0 - ((jushr x0 (nI 1)) &&& (nI 1431655765))) &&& (nI 858993459)) + ((jushr (x0 - ((jushr x0 (nI 1)) &&& (nI 1431655765))) (nI 2)) &&& (nI 858993459))) + (jushr (((x0 - ((jushr x0 (nI 1)) &&& (nI 1431655765))) &&& (nI 858993459)) + ((jushr (x0 - ((jushr x0 (nI 1)) &&& (nI 1431655765))) (nI 2)) &&& (nI 858993459))) (nI 4))) &&& (nI 252645135)) + (jushr (((((x0 - ((jushr x0 (nI 1)) &&& (nI 1431655765))) &&& (nI 858993459)) + ((jushr (x0 - ((jushr x0 (nI 1)) &&& (nI 1431655765))) (nI 2)) &&& (nI 858993459))) + (jushr (((x0 - ((jushr x0 (nI 1)) &&& (nI 1431655765))) &&& (nI 858993459)) + ((jushr (x0 - ((jushr x0 (nI 1)) &&& (nI 1431655765))) (nI 2)) &&& (nI 858993459))) (nI 4))) &&& (nI 252645135)) (nI 8))) (nI 16))) &&& (nI 63), h)
def f_X3_lettersOf (F : Nat) (x0 : Int32) (h : HP) : Option (Int32 × HP) :=
  ob (f_J6_bitCount_0f7a4 F x0 h) (fun v3 h1 =>
  if (nI 2) ≤ v3 then
    some (v3 + (nI 2), h1)
  else
    some ((nI 1), h1))
def f_X3_timesTold_48 (F : Nat) (x1 : Int32) (x2 : Int32) (r3 : Nat) (x4 : Int32) (x5 : Int32) (h : HP) : Option (Int32 × HP) :=
  if x2 ≤ nI 0 then
    some ((nI 1), h)
  else
    if x2 ≠ (nI 0) then
      some ((nI 1) + (x5 / x2), h)
    else none
def f_X3_timesTold_18 (F : Nat) (x1 : Int32) (x2 : Int32) (r3 : Nat) (x4 : Int32) : Nat → Int32 → Int32 → HP → Option (Int32 × HP)
  | 0, _, _, _ => none
  | n + 1, x5, x6, h =>
    if x6 ≤ x5 then
      f_X3_timesTold_48 F x1 x2 r3 x4 x5 h
    else
      if inb (x1 + x5) (ln r3) then
        if inb ((x1 + x5) + x2) (ln r3) then
          if (h r3 (ix (x1 + x5))) = (h r3 (ix ((x1 + x5) + x2))) then
            f_X3_timesTold_18 F x1 x2 r3 x4 n (x5 + (nI 1)) x6 h
          else
            f_X3_timesTold_48 F x1 x2 r3 x4 x5 h
        else none
      else none
def f_X3_timesTold (F : Nat) (x1 : Int32) (x2 : Int32) (r3 : Nat) (x4 : Int32) (h : HP) : Option (Int32 × HP) :=
  ob (f_J9_min_7cf53 F ((x4 - x1) - x2) ((nI 8) * x2) h) (fun v3 h1 =>
  f_X3_timesTold_18 F x1 x2 r3 x4 F (nI 0) v3 h1)
def f_X3_beginWithPart_3 (F : Nat) (r1 : Nat) (x2 : Int32) (x3 : Int32) (x4 : Int32) (x5 : Int32) : Nat → Int32 → HP → Option (HP)
  | 0, _, _ => none
  | n + 1, x6, h =>
    if x5 < x6 then
      some h
    else
      if inb ((x3 * (nI 33)) + x6) (ln r1) then
        if inb ((x2 * (nI 33)) + x6) (ln r1) then
          if (h r1 (ix ((x2 * (nI 33)) + x6))) ≤ (x4 + (h r1 (ix ((x3 * (nI 33)) + x6)))) then
            f_X3_beginWithPart_3 F r1 x2 x3 x4 x5 n (x6 + (nI 1)) h
          else
            f_X3_beginWithPart_3 F r1 x2 x3 x4 x5 n (x6 + (nI 1)) (up h r1 (ix ((x2 * (nI 33)) + x6)) (x4 + (h r1 (ix ((x3 * (nI 33)) + x6)))))
        else none
      else none
def f_X3_beginWithPart (F : Nat) (r1 : Nat) (x2 : Int32) (x3 : Int32) (x4 : Int32) (x5 : Int32) (h : HP) : Option (HP) :=
  f_X3_beginWithPart_3 F r1 x2 x3 x4 x5 F x3 h
def f_X3_fillFrom_136 (F : Nat) (x1 : Int32) (x2 : Int32) (r3 : Nat) (x4 : Int32) (k_79 : Int32 → HP → Option (HP)) : Nat → Int32 → Int32 → Int32 → Int32 → HP → Option (HP)
  | 0, _, _, _, _, _ => none
  | n + 1, x7, x8, x9, x10, h =>
    if (x2 + (x9 * x7)) < x10 then
      k_79 (x7 + (nI 1)) h
    else
      obv (f_X3_beginWithPart F (31 + 1 + (ix x1)) x2 x10 x8 x4 h) (fun h19 =>
      f_X3_fillFrom_136 F x1 x2 r3 x4 k_79 n x7 x8 x9 (x10 + x7) h19)
def f_X3_fillFrom_79 (F : Nat) (x1 : Int32) (x2 : Int32) (r3 : Nat) (x4 : Int32) : Nat → Int32 → HP → Option (HP)
  | 0, _, _ => none
  | n + 1, x7, h =>
    if x1 ≤ nI 0 then
      some h
    else
      if x4 < (x2 + ((nI 2) * x7)) then
        some h
      else
        if inb (x1 - (nI 1)) 4 then
          if inb (((x2 * (nI 33)) + x2) + x7) 1089 then
            ob (f_X3_timesTold F x2 x7 r3 x4 h) (fun v17 h15 =>
            f_X3_fillFrom_136 F x1 x2 r3 x4 (f_X3_fillFrom_79 F x1 x2 r3 x4 n) F x7 ((nI 3) + (h (31 + 1 + (ix (x1 - (nI 1)))) (ix (((x2 * (nI 33)) + x2) + x7)))) v17 (x2 + ((nI 2) * x7)) h15)
          else none
        else none
def f_X3_fillFrom_38 (F : Nat) (x1 : Int32) (x2 : Int32) (r3 : Nat) (x4 : Int32) : Nat → Int32 → Int32 → HP → Option (HP)
  | 0, _, _, _ => none
  | n + 1, x6, x7, h =>
    if x4 < x7 then
      f_X3_fillFrom_79 F x1 x2 r3 x4 F (nI 1) h
    else
      if inb (((x2 + (nI 1)) * (nI 33)) + x7) 1089 then
        if inb ((x2 * (nI 33)) + x7) 1089 then
          f_X3_fillFrom_38 F x1 x2 r3 x4 n x6 (x7 + (nI 1)) (up h (31 + 1 + (ix x1)) (ix ((x2 * (nI 33)) + x7)) (x6 + (h (31 + 1 + (ix x1)) (ix (((x2 + (nI 1)) * (nI 33)) + x7)))))
        else none
      else none
def f_X3_fillFrom (F : Nat) (x1 : Int32) (x2 : Int32) (r3 : Nat) (x4 : Int32) (h : HP) : Option (HP) :=
  if inb x1 4 then
    if inb ((x2 * (nI 33)) + x2) 1089 then
      if x2 < x4 then
        if inb x2 (ln r3) then
          ob (f_X3_lettersOf F ((up h (31 + 1 + (ix x1)) (ix ((x2 * (nI 33)) + x2)) (nI 0)) r3 (ix x2)) (up h (31 + 1 + (ix x1)) (ix ((x2 * (nI 33)) + x2)) (nI 0))) (fun v7 h5 =>
          f_X3_fillFrom_38 F x1 x2 r3 x4 F v7 (x2 + (nI 1)) h5)
        else none
      else
        some (up h (31 + 1 + (ix x1)) (ix ((x2 * (nI 33)) + x2)) (nI 0))
    else none
  else none
def f_X3_fewestLetters_28 (F : Nat) (r1 : Nat) (x2 : Int32) (k_20 : Int32 → HP → Option (Int32 × HP)) : Nat → Int32 → Int32 → HP → Option (Int32 × HP)
  | 0, _, _, _ => none
  | n + 1, x3, x4, h =>
    if x4 < nI 0 then
      k_20 (x3 + (nI 1)) h
    else
      obv (f_X3_fillFrom F x3 x4 r1 x2 h) (fun h7 =>
      f_X3_fewestLetters_28 F r1 x2 k_20 n x3 (x4 + (-1)) h7)
def f_X3_fewestLetters_20 (F : Nat) (r1 : Nat) (x2 : Int32) : Nat → Int32 → HP → Option (Int32 × HP)
  | 0, _, _ => none
  | n + 1, x3, h =>
    if (nI 3) < x3 then
      if inb x2 1089 then
        some (h 35 (ix x2), h)
      else none
    else
      f_X3_fewestLetters_28 F r1 x2 (f_X3_fewestLetters_20 F r1 x2 n) F x3 x2 h
def f_X3_fewestLetters (F : Nat) (r1 : Nat) (x2 : Int32) (h : HP) : Option (Int32 × HP) :=
  if x2 < nI 0 then
    some ((nI 0), h)
  else
    if (nI 32) < x2 then
      some ((nI 0), h)
    else
      if x2 ≤ (nI (ln r1)) then
        f_X3_fewestLetters_20 F r1 x2 F (nI 0) h
      else
        some ((nI 0), h)
def f_X4_append (F : Nat) (x1 : Int32) (h : HP) : Option (Int32 × HP) :=
  if (h 1 1) < (nI 200) then
    if inb (h 1 1) 200 then
      some ((nI 1), up (up h 2 (ix (h 1 1)) x1) 1 1 (((up h 2 (ix (h 1 1)) x1) 1 1) + (nI 1)))
    else none
  else
    some ((nI 0), h)
def f_X4_clear (F : Nat)  (h : HP) : Option (HP) :=
  some (up h 1 1 (nI 0))
def f_X5_clear (F : Nat) (r0 : Nat) (h : HP) : Option (HP) :=
  some (up (up (up (up (up h r0 0 (nI 0)) r0 4 (nI 16)) r0 5 (nI 1)) r0 6 (nI 0)) r0 7 (nI 0))
def f_X4_peek (F : Nat)  (h : HP) : Option (Int32 × HP) :=
  if (h 1 2) < nI 0 then
    some ((nI 0), h)
  else
    if (h 1 1) ≤ (h 1 2) then
      some ((nI 0), h)
    else
      if inb (h 1 2) 200 then
        some (h 2 (ix (h 1 2)), h)
      else none
def f_X4_readFigure (F : Nat)  (h : HP) : Option (Int32 × HP) :=
  ob (f_X4_peek F h) (fun v3 h1 =>
  if (v3 - (nI 48)) < nI 0 then
    some ((-1), h1)
  else
    if (v3 - (nI 48)) ≤ (nI 9) then
      some (v3 - (nI 48), up h1 1 2 ((h1 1 2) + (nI 1)))
    else
      some ((-1), h1))
def f_X4_readNumber (F : Nat)  (h : HP) : Option (Int32 × HP) :=
  ob (f_X4_readFigure F h) (fun v3 h1 =>
  if nI 0 ≤ v3 then
    ob (f_X4_readFigure F h1) (fun v7 h5 =>
    if nI 0 ≤ v7 then
      some ((v3 * (nI 10)) + v7, h5)
    else
      some (v3, h5))
  else
    some ((-1), h1))
def f_X4_accept (F : Nat) (x1 : Int32) (h : HP) : Option (Int32 × HP) :=
  ob (f_X4_peek F h) (fun v3 h1 =>
  if v3 = x1 then
    some ((nI 1), up h1 1 2 ((h1 1 2) + (nI 1)))
  else
    some ((nI 0), h1))
def f_J9_abs_0f7a4 (F : Nat) (x0 : Int32) (h : HP) : Option (Int32 × HP) :=
  if nI 0 ≤ x0 then
    some (x0, h)
  else
    some (-x0, h)
def f_X5_addBell_63 (F : Nat) (r0 : Nat) (x1 : Int32) (x2 : Int32) : Nat → Int32 → HP → Option (Int32 × HP)
  | 0, _, _ => none
  | n + 1, x3, h =>
    if (h r0 0) ≤ x3 then
      some ((nI 1), up h r0 0 ((h r0 0) + (nI 1)))
    else
      if inb x3 8 then
        ob (f_J9_abs_0f7a4 F ((h (r0 + 1) (ix x3)) - x1) h) (fun v13 h11 =>
        if ((jshr (nI 3142) (jrem v13 (nI 12))) &&& (nI 1)) = (nI 1) then
          if inb ((up h11 (r0 + 3) (ix x3) ((h11 (r0 + 3) (ix x3)) ||| (jshl (nI 1) (h11 r0 0)))) r0 0) 8 then
            f_X5_addBell_63 F r0 x1 x2 n (x3 + (nI 1)) (up (up h11 (r0 + 3) (ix x3) ((h11 (r0 + 3) (ix x3)) ||| (jshl (nI 1) (h11 r0 0)))) (r0 + 3) (ix ((up h11 (r0 + 3) (ix x3) ((h11 (r0 + 3) (ix x3)) ||| (jshl (nI 1) (h11 r0 0)))) r0 0)) (((up h11 (r0 + 3) (ix x3) ((h11 (r0 + 3) (ix x3)) ||| (jshl (nI 1) (h11 r0 0)))) (r0 + 3) (ix ((up h11 (r0 + 3) (ix x3) ((h11 (r0 + 3) (ix x3)) ||| (jshl (nI 1) (h11 r0 0)))) r0 0))) ||| (jshl (nI 1) x3)))
          else none
        else
          f_X5_addBell_63 F r0 x1 x2 n (x3 + (nI 1)) h11)
      else none
def f_X5_addBell (F : Nat) (r0 : Nat) (x1 : Int32) (x2 : Int32) (h : HP) : Option (Int32 × HP) :=
  if (nI 8) ≤ (h r0 0) then
    some ((nI 0), h)
  else
    if x1 < nI 0 then
      some ((nI 0), h)
    else
      if (nI 40) < x1 then
        some ((nI 0), h)
      else
        if x2 < (nI 1) then
          some ((nI 0), h)
        else
          if x2 ≤ (nI 2) then
            if inb (h r0 0) 8 then
              if inb ((up h (r0 + 1) (ix (h r0 0)) x1) r0 0) 8 then
                if inb ((up (up h (r0 + 1) (ix (h r0 0)) x1) (r0 + 2) (ix ((up h (r0 + 1) (ix (h r0 0)) x1) r0 0)) x2) r0 0) 8 then
                  f_X5_addBell_63 F r0 x1 x2 F (nI 0) (up (up (up h (r0 + 1) (ix (h r0 0)) x1) (r0 + 2) (ix ((up h (r0 + 1) (ix (h r0 0)) x1) r0 0)) x2) (r0 + 3) (ix ((up (up h (r0 + 1) (ix (h r0 0)) x1) (r0 + 2) (ix ((up h (r0 + 1) (ix (h r0 0)) x1) r0 0)) x2) r0 0)) (nI 0))
                else none
              else none
            else none
          else
            some ((nI 0), h)
def f_X4_readBell (F : Nat) (r1 : Nat) (h : HP) : Option (Int32 × HP) :=
  ob (f_X4_readNumber F h) (fun v3 h1 =>
  ob (f_X4_accept F (nI 44) h1) (fun v6 h4 =>
  if v6 = nI 0 then
    some ((nI 0), h4)
  else
    ob (f_X4_readNumber F h4) (fun v10 h8 =>
    ob (f_X5_addBell F r1 v3 v10 h8) (fun v13 h11 =>
    if v13 = nI 0 then
      some ((nI 0), h11)
    else
      some ((nI 1), h11)))))
def f_X5_tellRows (F : Nat) (r0 : Nat) (x1 : Int32) (h : HP) : Option (Int32 × HP) :=
  if x1 < (nI 2) then
    some ((nI 0), h)
  else
    if x1 ≤ (nI 32) then
      some ((nI 1), up h r0 4 x1)
    else
      some ((nI 0), h)
def f_X5_tellRest (F : Nat) (r0 : Nat) (x1 : Int32) (h : HP) : Option (Int32 × HP) :=
  if x1 < nI 0 then
    some ((nI 0), h)
  else
    if x1 ≤ (nI 6) then
      some ((nI 1), up h r0 5 x1)
    else
      some ((nI 0), h)
def f_X5_addRow (F : Nat) (r0 : Nat) (x1 : Int32) (h : HP) : Option (Int32 × HP) :=
  if (h r0 7) < (nI 32) then
    if inb (h r0 7) 32 then
      some ((nI 1), up (up h (r0 + 4) (ix (h r0 7)) x1) r0 7 (((up h (r0 + 4) (ix (h r0 7)) x1) r0 7) + (nI 1)))
    else none
  else
    some ((nI 0), h)
def f_X5_tellAgain_31 (F : Nat) (r0 : Nat) (x1 : Int32) (x2 : Int32) : Nat → Int32 → Int32 → HP → Option (Int32 × HP)
  | 0, _, _, _ => none
  | n + 1, x3, x4, h =>
    if (x3 * (x2 - (nI 1))) ≤ x4 then
      some ((nI 1), h)
    else
      if inb (x1 + x4) 32 then
        ob (f_X5_addRow F r0 (h (r0 + 4) (ix (x1 + x4))) h) (fun v8 h6 =>
        f_X5_tellAgain_31 F r0 x1 x2 n x3 (x4 + (nI 1)) h6)
      else none
def f_X5_tellAgain (F : Nat) (r0 : Nat) (x1 : Int32) (x2 : Int32) (h : HP) : Option (Int32 × HP) :=
  if x1 < nI 0 then
    some ((nI 0), h)
  else
    if ((h r0 7) - x1) < (nI 1) then
      some ((nI 0), h)
    else
      if (x1 + (((h r0 7) - x1) * x2)) ≤ (nI 32) then
        f_X5_tellAgain_31 F r0 x1 x2 F ((h r0 7) - x1) (nI 0) h
      else
        some ((nI 0), h)
def f_X4_readBellLetter (F : Nat) (x1 : Int32) (h : HP) : Option (Int32 × HP) :=
  ob (f_X4_peek F h) (fun v3 h1 =>
  if (v3 - (nI 97)) < nI 0 then
    some ((-1), up h1 1 2 ((h1 1 2) + (nI 1)))
  else
    if x1 ≤ (v3 - (nI 97)) then
      some ((-1), up h1 1 2 ((h1 1 2) + (nI 1)))
    else
      some (v3 - (nI 97), up h1 1 2 ((h1 1 2) + (nI 1))))
def f_X4_readSet_91 (F : Nat) (x1 : Int32) (x2 : Int32) (h : HP) : Option (Int32 × HP) :=
  ob (f_X4_accept F (nI 93) h) (fun v25 h23 =>
  if v25 = nI 0 then
    some ((-1), h23)
  else
    ob (f_J6_bitCount_0f7a4 F x2 h23) (fun v29 h27 =>
    if v29 < (nI 2) then
      some ((-1), h27)
    else
      some (x2, h27)))
def f_X4_readSet_42 (F : Nat) (x1 : Int32) : Nat → Int32 → Int32 → HP → Option (Int32 × HP)
  | 0, _, _, _ => none
  | n + 1, x2, x3, h =>
    if (nI 8) ≤ x3 then
      f_X4_readSet_91 F x1 x2 h
    else
      ob (f_X4_peek F h) (fun v16 h14 =>
      if v16 = (nI 93) then
        f_X4_readSet_91 F x1 x2 h14
      else
        ob (f_X4_readBellLetter F x1 h14) (fun v20 h18 =>
        if v20 < nI 0 then
          some ((-1), h18)
        else
          if (jshr x2 v20) = nI 0 then
            f_X4_readSet_42 F x1 n (x2 ||| (jshl (nI 1) v20)) (x3 + (nI 1)) h18
          else
            some ((-1), h18)))
def f_X4_readSet (F : Nat) (x1 : Int32) (h : HP) : Option (Int32 × HP) :=
  ob (f_X4_accept F (nI 46) h) (fun v3 h1 =>
  if v3 = nI 0 then
    ob (f_X4_accept F (nI 91) h1) (fun v7 h5 =>
    if v7 = nI 0 then
      ob (f_X4_readBellLetter F x1 h5) (fun v11 h9 =>
      if nI 0 ≤ v11 then
        some (jshl (nI 1) v11, h9)
      else
        some ((-1), h9))
    else
      f_X4_readSet_42 F x1 F (nI 0) (nI 0) h5)
  else
    some ((nI 0), h1))
def f_X4_readTune_149 (F : Nat) (r1 : Nat) (x2 : Int32) (h : HP) : Option (Int32 × HP) :=
  if x2 = nI 0 then
    if (h r1 7) ≤ nI 0 then
      some ((nI 0), h)
    else
      some ((nI 1), h)
  else
    some ((nI 0), h)
def f_X4_readTune_18 (F : Nat) (r1 : Nat) : Nat → Int32 → Int32 → HP → Option (Int32 × HP)
  | 0, _, _, _ => none
  | n + 1, x2, x3, h =>
    if (nI 200) ≤ x3 then
      f_X4_readTune_149 F r1 x2 h
    else
      ob (f_X4_peek F h) (fun v5 h3 =>
      if v5 = (nI 59) then
        f_X4_readTune_149 F r1 x2 h3
      else
        ob (f_X4_accept F (nI 40) h3) (fun v9 h7 =>
        if v9 = nI 0 then
          ob (f_X4_accept F (nI 41) h7) (fun v13 h11 =>
          if v13 = nI 0 then
            ob (f_X4_readSet F (h11 r1 0) h11) (fun v17 h15 =>
            if v17 < nI 0 then
              some ((nI 0), h15)
            else
              ob (f_X5_addRow F r1 v17 h15) (fun v21 h19 =>
              if v21 = nI 0 then
                some ((nI 0), h19)
              else
                f_X4_readTune_18 F r1 n x2 (x3 + (nI 1)) h19))
          else
            ob (f_X4_readFigure F h11) (fun v25 h23 =>
            if x2 < (nI 1) then
              some ((nI 0), h23)
            else
              if v25 < (nI 2) then
                some ((nI 0), h23)
              else
                if inb (x2 - (nI 1)) 3 then
                  ob (f_X5_tellAgain F r1 (h23 3 (ix (x2 - (nI 1)))) v25 h23) (fun v31 h29 =>
                  if v31 = nI 0 then
                    some ((nI 0), h29)
                  else
                    f_X4_readTune_18 F r1 n (x2 + (-1)) (x3 + (nI 1)) h29)
                else none))
        else
          if x2 < (nI 3) then
            if inb x2 3 then
              f_X4_readTune_18 F r1 n (x2 + (nI 1)) (x3 + (nI 1)) (up h7 3 (ix x2) (h7 r1 7))
            else none
          else
            some ((nI 0), h7)))
def f_X4_readTune (F : Nat) (r1 : Nat) (h : HP) : Option (Int32 × HP) :=
  if (h r1 6) = nI 0 then
    f_X4_readTune_18 F r1 F (nI 0) (nI 0) (up h r1 6 (nI 1))
  else
    some ((nI 0), h)
def f_X4_readItem (F : Nat) (r1 : Nat) (h : HP) : Option (Int32 × HP) :=
  ob (f_X4_peek F h) (fun v3 h1 =>
  if v3 = nI 98 then
    ob (f_X4_readBell F r1 (up h1 1 2 ((h1 1 2) + (nI 1)))) (fun v7 h5 =>
    if v7 = nI 0 ∨ v7 = nI 1 then
      some (v7, h5)
    else none)
  else if v3 = nI 110 then
    ob (f_X4_readNumber F (up h1 1 2 ((h1 1 2) + (nI 1)))) (fun v12 h10 =>
    ob (f_X5_tellRows F r1 v12 h10) (fun v15 h13 =>
    if v15 = nI 0 ∨ v15 = nI 1 then
      some (v15, h13)
    else none))
  else if v3 = nI 114 then
    ob (f_X4_readNumber F (up h1 1 2 ((h1 1 2) + (nI 1)))) (fun v20 h18 =>
    ob (f_X5_tellRest F r1 v20 h18) (fun v23 h21 =>
    if v23 = nI 0 ∨ v23 = nI 1 then
      some (v23, h21)
    else none))
  else if v3 = nI 116 then
    ob (f_X4_readTune F r1 (up h1 1 2 ((h1 1 2) + (nI 1)))) (fun v28 h26 =>
    if v28 = nI 0 ∨ v28 = nI 1 then
      some (v28, h26)
    else none)
  else 
    some ((nI 0), up h1 1 2 ((h1 1 2) + (nI 1))))
def f_X4_readInto_11 (F : Nat) (r1 : Nat) : Nat → Int32 → HP → Option (Int32 × HP)
  | 0, _, _ => none
  | n + 1, x2, h =>
    if (nI 200) ≤ x2 then
      some ((-4), h)
    else
      if (h 1 1) ≤ (h 1 2) then
        some ((-4), h)
      else
        ob (f_X4_readItem F r1 h) (fun v7 h5 =>
        if v7 = nI 0 then
          some (h 1 2, h5)
        else
          ob (f_X4_accept F (nI 59) h5) (fun v11 h9 =>
          if v11 = nI 0 then
            some (h 1 2, h9)
          else
            f_X4_readInto_11 F r1 n (x2 + (nI 1)) h9))
def f_X4_readInto (F : Nat) (r1 : Nat) (h : HP) : Option (Int32 × HP) :=
  obv (f_X5_clear F r1 h) (fun h1 =>
  f_X4_readInto_11 F r1 F (nI 0) (up h1 1 2 (nI 0)))
def f_X5_canBeLaid (F : Nat) (r0 : Nat) (h : HP) : Option (Int32 × HP) :=
  if (h r0 0) ≤ nI 0 then
    some ((nI 0), h)
  else
    if (h r0 4) < (h r0 7) then
      some ((nI 0), h)
    else
      some ((nI 1), h)
def f_X5_everyBell (F : Nat) (r0 : Nat) (h : HP) : Option (Int32 × HP) :=
  some ((jshl (nI 1) (h r0 0)) - (nI 1), h)
def f_J9_floorMod_7cf53 (F : Nat) (x0 : Int32) (x1 : Int32) (h : HP) : Option (Int32 × HP) :=
  if x1 ≠ (nI 0) then
    if nI 0 ≤ (x0 ^^^ x1) then
      some (jrem x0 x1, h)
    else
      if (jrem x0 x1) = nI 0 then
        some (jrem x0 x1, h)
      else
        some ((jrem x0 x1) + x1, h)
  else none
def f_X5_rowBehind (F : Nat) (r0 : Nat) (x1 : Int32) (x2 : Int32) (h : HP) : Option (Int32 × HP) :=
  if (h r0 4) ≤ nI 0 then
    some ((nI 0), h)
  else
    ob (f_J9_floorMod_7cf53 F (x1 + x2) (h r0 4) h) (fun v4 h2 =>
    some (v4, h2))
def f_X5_highestTone_5 (F : Nat) (r0 : Nat) (x1 : Int32) : Nat → Int32 → Int32 → HP → Option (Int32 × HP)
  | 0, _, _, _ => none
  | n + 1, x2, x3, h =>
    if (h r0 0) ≤ x3 then
      some (x2, h)
    else
      if ((jshr x1 x3) &&& (nI 1)) = (nI 1) then
        if inb x3 8 then
          ob (f_J9_max_7cf53 F x2 (h (r0 + 1) (ix x3)) h) (fun v6 h4 =>
          f_X5_highestTone_5 F r0 x1 n v6 (x3 + (nI 1)) h4)
        else none
      else
        f_X5_highestTone_5 F r0 x1 n x2 (x3 + (nI 1)) h
def f_X5_highestTone (F : Nat) (r0 : Nat) (x1 : Int32) (h : HP) : Option (Int32 × HP) :=
  f_X5_highestTone_5 F r0 x1 F (-4) (nI 0) h
def f_X6_write (F : Nat) (tw : TW) (x1 : Int32) (h : HP) : Option (Int32 × HP) :=
  if x1 < (nI 32) then
    some ((-1), h)
  else
    if x1 ≤ (nI 126) then
      ob (f_X4_append F x1 h) (fun v5 h3 =>
      if v5 = nI 0 then
        some ((-3), h3)
      else
        some (h3 1 1, h3))
    else
      some ((-1), h)
def f_X6_wipe (F : Nat) (tw : TW)  (h : HP) : Option (Int32 × HP) :=
  obv (f_X4_clear F h) (fun h1 =>
  some (h 1 1, h1))
def f_X6_fault (F : Nat) (tw : TW)  (h : HP) : Option (Int32 × HP) :=
  ob (f_X4_readInto F tw.2 h) (fun v3 h1 =>
  some (v3, h1))
def f_X6_layTold (F : Nat) (tw : TW)  (h : HP) : Option (HP) :=
  obv (f_X0_startWith F 14 tw.2 h) (fun h1 =>
  obv (f_J7_fill_53178 F 28 (nI 0) h1) (fun h3 =>
  obv (f_X2_clear F 24 (up h3 0 9 (nI 0))) (fun h5 =>
  obv (f_X2_clear F 26 h5) (fun h7 =>
  some h7))))
def f_X6_lay (F : Nat) (tw : TW)  (h : HP) : Option (Int32 × TW × HP) :=
  ob (f_X4_readInto F tw.2 h) (fun v3 h1 =>
  if v3 = (-4) then
    ob (f_X5_canBeLaid F tw.2 h1) (fun v7 h5 =>
    if v7 = nI 0 then
      some ((-2), tw, h5)
    else
      obv (f_X6_layTold F tw h5) (fun h9 =>
      some (h9 tw.2 7, (tw.2, tw.1), h9)))
  else
    some ((-2), tw, h1))
def f_X6_isBell (F : Nat) (tw : TW) (x1 : Int32) (h : HP) : Option (Int32 × HP) :=
  if x1 < nI 0 then
    some ((nI 0), h)
  else
    if (h tw.1 0) ≤ x1 then
      some ((nI 0), h)
    else
      some ((nI 1), h)
def f_X6_pinsOfBell_4 (F : Nat) (tw : TW) (x1 : Int32) : Nat → Int32 → Int32 → HP → Option (Int32 × HP)
  | 0, _, _, _ => none
  | n + 1, x2, x3, h =>
    if (h tw.1 4) ≤ x3 then
      some (x2, h)
    else
      if inb x3 32 then
        f_X6_pinsOfBell_4 F tw x1 n (x2 + ((jshr (h 15 (ix x3)) x1) &&& (nI 1))) (x3 + (nI 1)) h
      else none
def f_X6_pinsOfBell (F : Nat) (tw : TW) (x1 : Int32) (h : HP) : Option (Int32 × HP) :=
  f_X6_pinsOfBell_4 F tw x1 F (nI 0) (nI 0) h
def f_X6_bell (F : Nat) (tw : TW) (x1 : Int32) (x2 : Int32) (h : HP) : Option (Int32 × HP) :=
  ob (f_X6_isBell F tw x1 h) (fun v3 h1 =>
  if v3 = nI 0 then
    some ((-1), h1)
  else
    if x2 = nI 0 then
      if inb x1 8 then
        some (h1 (tw.1 + 1) (ix x1), h1)
      else none
    else if x2 = nI 1 then
      if inb x1 8 then
        some (h1 (tw.1 + 2) (ix x1), h1)
      else none
    else if x2 = nI 2 then
      ob (f_X6_pinsOfBell F tw x1 h1) (fun v12 h10 =>
      some (v12, h10))
    else if x2 = nI 3 then
      if inb x1 8 then
        some (h1 17 (ix x1), h1)
      else none
    else if x2 = nI 4 then
      if inb x1 8 then
        some (h1 18 (ix x1), h1)
      else none
    else 
      some ((-1), h1))
def f_X6_isRow (F : Nat) (tw : TW) (x1 : Int32) (h : HP) : Option (Int32 × HP) :=
  if x1 < nI 0 then
    some ((nI 0), h)
  else
    if (h tw.1 4) ≤ x1 then
      some ((nI 0), h)
    else
      some ((nI 1), h)
def f_X6_pins (F : Nat) (tw : TW) (x1 : Int32) (h : HP) : Option (Int32 × HP) :=
  ob (f_X6_isRow F tw x1 h) (fun v3 h1 =>
  if v3 = nI 0 then
    some ((-1), h1)
  else
    if inb x1 32 then
      some (h1 15 (ix x1), h1)
    else none)
def f_X6_isSet (F : Nat) (tw : TW) (x1 : Int32) (h : HP) : Option (Int32 × HP) :=
  if x1 < nI 0 then
    some ((nI 0), h)
  else
    ob (f_X5_everyBell F tw.1 h) (fun v4 h2 =>
    if v4 < x1 then
      some ((nI 0), h2)
    else
      some ((nI 1), h2))
def f_X6_turn (F : Nat) (tw : TW)  (h : HP) : Option (Int32 × HP) :=
  obv (f_X2_put F 24 14 h) (fun h1 =>
  ob (f_X0_turnOn F 14 tw.1 h1) (fun v5 h3 =>
  some (v5, h3)))
def f_X6_turnBack (F : Nat) (tw : TW)  (h : HP) : Option (Int32 × HP) :=
  obv (f_X2_put F 24 14 h) (fun h1 =>
  ob (f_X0_turnOff F 14 tw.1 h1) (fun v5 h3 =>
  some (v5, h3)))
def f_X6_pin (F : Nat) (tw : TW) (x1 : Int32) (x2 : Int32) (x3 : Int32) (h : HP) : Option (Int32 × HP) :=
  ob (f_X6_isRow F tw x1 h) (fun v3 h1 =>
  if v3 = nI 0 then
    some ((-1), h1)
  else
    ob (f_X6_isBell F tw x2 h1) (fun v7 h5 =>
    if v7 = nI 0 then
      some ((-1), h5)
    else
      if inb x1 32 then
        if (if ((jshr (h5 15 (ix x1)) x2) &&& (nI 1)) = (nI 1) then (nI 1) else (nI 0)) = x3 then
          some ((-2), h5)
        else
          obv (f_X2_put F 24 14 h5) (fun h11 =>
          ob (f_J6_bitCount_0f7a4 F ((up h11 15 (ix x1) ((h11 15 (ix x1)) ^^^ (jshl (nI 1) x2))) 15 (ix x1)) (up h11 15 (ix x1) ((h11 15 (ix x1)) ^^^ (jshl (nI 1) x2)))) (fun v15 h13 =>
          some (v15, h13)))
      else none))
def f_X6_shift_23 (F : Nat) (tw : TW) (x1 : Int32) : Nat → Int32 → HP → Option (Int32 × HP)
  | 0, _, _ => none
  | n + 1, x2, h =>
    if (h tw.1 4) ≤ x2 then
      if cpb (nI 0) (nI 0) (h tw.1 4) 32 32 then
        some ((cpy h 20 (nI 0) 15 (nI 0) (h tw.1 4)) 15 0, cpy h 20 (nI 0) 15 (nI 0) (h tw.1 4))
      else none
    else
      ob (f_X5_rowBehind F tw.1 x2 x1 h) (fun v11 h9 =>
      if inb x2 32 then
        if inb v11 32 then
          f_X6_shift_23 F tw x1 n (x2 + (nI 1)) (up h9 20 (ix v11) (h9 15 (ix x2)))
        else none
      else none)
def f_X6_shift (F : Nat) (tw : TW) (x1 : Int32) (h : HP) : Option (Int32 × HP) :=
  ob (f_X6_isRow F tw x1 h) (fun v3 h1 =>
  if v3 = nI 0 then
    some ((-1), h1)
  else
    obv (f_X2_put F 24 14 h1) (fun h5 =>
    f_X6_shift_23 F tw x1 F (nI 0) h5))
def f_X6_undo (F : Nat) (tw : TW)  (h : HP) : Option (Int32 × HP) :=
  ob (f_X2_takeInto F 24 14 h) (fun v3 h1 =>
  if v3 = nI 0 then
    some ((-2), h1)
  else
    some (h1 24 3, h1))
def f_X6_ringsInATurn_4 (F : Nat) (tw : TW) (r1 : Nat) : Nat → Int32 → Int32 → HP → Option (Int32 × HP)
  | 0, _, _, _ => none
  | n + 1, x2, x3, h =>
    if (h tw.1 4) ≤ x3 then
      some (x2, h)
    else
      ob (f_X0_turnOn F r1 tw.1 h) (fun v4 h2 =>
      ob (f_J6_bitCount_0f7a4 F v4 h2) (fun v7 h5 =>
      f_X6_ringsInATurn_4 F tw r1 n (x2 + v7) (x3 + (nI 1)) h5))
def f_X6_ringsInATurn (F : Nat) (tw : TW) (r1 : Nat) (h : HP) : Option (Int32 × HP) :=
  f_X6_ringsInATurn_4 F tw r1 F (nI 0) (nI 0) h
def f_X6_allPins_4 (F : Nat) (tw : TW)  : Nat → Int32 → Int32 → HP → Option (Int32 × HP)
  | 0, _, _, _ => none
  | n + 1, x1, x2, h =>
    if (h tw.1 4) ≤ x2 then
      some (x1, h)
    else
      if inb x2 32 then
        ob (f_J6_bitCount_0f7a4 F (h 15 (ix x2)) h) (fun v5 h3 =>
        f_X6_allPins_4 F tw n (x1 + v5) (x2 + (nI 1)) h3)
      else none
def f_X6_allPins (F : Nat) (tw : TW)  (h : HP) : Option (Int32 × HP) :=
  f_X6_allPins_4 F tw F (nI 0) (nI 0) h
def f_X6_whole_50 (F : Nat) (tw : TW) (x1 : Int32)  (h : HP) : Option (Int32 × HP) :=
  ob (f_X6_ringsInATurn F tw 19 h) (fun v8 h6 =>
  if x1 = nI 0 then
    some (v8, h6)
  else
    ob (f_X6_allPins F tw h6) (fun v12 h10 =>
    some (v12 - v8, h10)))
def f_X6_whole_29 (F : Nat) (tw : TW) (x1 : Int32) : Nat → Int32 → HP → Option (Int32 × HP)
  | 0, _, _ => none
  | n + 1, x2, h =>
    if (nI 8) ≤ x2 then
      f_X6_whole_50 F tw x1  h
    else
      ob (f_X6_ringsInATurn F tw 19 h) (fun v16 h14 =>
      f_X6_whole_29 F tw x1 n (x2 + (nI 1)) h14)
def f_X6_whole (F : Nat) (tw : TW) (x1 : Int32) (h : HP) : Option (Int32 × HP) :=
  if x1 < nI 0 then
    some ((-1), h)
  else
    if x1 ≤ (nI 2) then
      obv (f_X0_copy F 19 14 h) (fun h3 =>
      if x1 = (nI 2) then
        f_X6_whole_29 F tw x1 F (nI 0) h3
      else
        f_X6_whole_50 F tw x1  h3)
    else
      some ((-1), h)
def f_X6_silence_6 (F : Nat) (tw : TW)  : Nat → Int32 → Int32 → Int32 → HP → Option (Int32 × HP)
  | 0, _, _, _, _ => none
  | n + 1, x1, x2, x3, h =>
    if ((nI 2) * (h tw.1 4)) ≤ x3 then
      ob (f_J9_min_7cf53 F x1 (h tw.1 4) h) (fun v4 h2 =>
      some (v4, h2))
    else
      ob (f_X5_rowBehind F tw.1 (nI 0) x3 h) (fun v7 h5 =>
      if inb v7 32 then
        ob (f_J9_max_7cf53 F x1 (if (h5 15 (ix v7)) = nI 0 then x2 + (nI 1) else (nI 0)) h5) (fun v11 h9 =>
        f_X6_silence_6 F tw n v11 (if (h5 15 (ix v7)) = nI 0 then x2 + (nI 1) else (nI 0)) (x3 + (nI 1)) h9)
      else none)
def f_X6_silence (F : Nat) (tw : TW)  (h : HP) : Option (Int32 × HP) :=
  f_X6_silence_6 F tw F (nI 0) (nI 0) (nI 0) h
def f_X6_comesAgainAfter_2 (F : Nat) (tw : TW) (x1 : Int32) : Nat → Int32 → HP → Option (Int32 × HP)
  | 0, _, _ => none
  | n + 1, x2, h =>
    if (h tw.1 4) ≤ x2 then
      some ((nI 1), h)
    else
      if inb x2 32 then
        ob (f_X5_rowBehind F tw.1 x2 x1 h) (fun v5 h3 =>
        if inb v5 32 then
          if (h 15 (ix x2)) = (h3 15 (ix v5)) then
            f_X6_comesAgainAfter_2 F tw x1 n (x2 + (nI 1)) h3
          else
            some ((nI 0), h3)
        else none)
      else none
def f_X6_comesAgainAfter (F : Nat) (tw : TW) (x1 : Int32) (h : HP) : Option (Int32 × HP) :=
  f_X6_comesAgainAfter_2 F tw x1 F (nI 0) h
def f_X6_again_2 (F : Nat) (tw : TW)  : Nat → Int32 → HP → Option (Int32 × HP)
  | 0, _, _ => none
  | n + 1, x1, h =>
    if (h tw.1 4) ≤ x1 then
      some (h tw.1 4, h)
    else
      ob (f_X6_comesAgainAfter F tw x1 h) (fun v4 h2 =>
      if v4 = nI 0 then
        f_X6_again_2 F tw n (x1 + (nI 1)) h2
      else
        some (x1, h2))
def f_X6_again (F : Nat) (tw : TW)  (h : HP) : Option (Int32 × HP) :=
  f_X6_again_2 F tw F (nI 1) h
def f_X6_illTwos_37 (F : Nat) (tw : TW) (x1 : Int32) (k_4 : Int32 → Int32 → HP → Option (Int32 × HP)) : Nat → Int32 → Int32 → Int32 → Int32 → HP → Option (Int32 × HP)
  | 0, _, _, _, _, _ => none
  | n + 1, x2, x3, x4, x5, h =>
    if (h tw.1 0) ≤ x5 then
      k_4 x2 (x3 + (nI 1)) h
    else
      if x4 = nI 0 then
        k_4 x2 (x3 + (nI 1)) h
      else
        if inb x3 32 then
          if ((jshr (h 15 (ix x3)) x5) &&& (nI 1)) = (nI 1) then
            if inb x5 8 then
              ob (f_J6_bitCount_0f7a4 F ((h (tw.1 + 3) (ix x5)) &&& x4) h) (fun v13 h11 =>
              f_X6_illTwos_37 F tw x1 k_4 n (x2 + v13) x3 x4 (x5 + (nI 1)) h11)
            else none
          else
            f_X6_illTwos_37 F tw x1 k_4 n x2 x3 x4 (x5 + (nI 1)) h
        else none
def f_X6_illTwos_4 (F : Nat) (tw : TW) (x1 : Int32) : Nat → Int32 → Int32 → HP → Option (Int32 × HP)
  | 0, _, _, _ => none
  | n + 1, x2, x3, h =>
    if (h tw.1 4) ≤ x3 then
      some (x2, h)
    else
      ob (f_X5_rowBehind F tw.1 x3 x1 h) (fun v4 h2 =>
      if inb v4 32 then
        f_X6_illTwos_37 F tw x1 (f_X6_illTwos_4 F tw x1 n) F x2 x3 (h2 15 (ix v4)) (nI 0) h2
      else none)
def f_X6_illTwos (F : Nat) (tw : TW) (x1 : Int32) (h : HP) : Option (Int32 × HP) :=
  f_X6_illTwos_4 F tw x1 F (nI 0) (nI 0) h
def f_X6_harsh (F : Nat) (tw : TW)  (h : HP) : Option (Int32 × HP) :=
  ob (f_X6_illTwos F tw (nI 0) h) (fun v3 h1 =>
  some (v3 / (nI 2), h1))
def f_X6_canon_22 (F : Nat) (tw : TW) (x1 : Int32) : Nat → Int32 → Int32 → Int32 → HP → Option (Int32 × HP)
  | 0, _, _, _, _ => none
  | n + 1, x2, x3, x4, h =>
    if (h tw.1 4) ≤ x4 then
      if x1 = nI 0 then
        some (x2, h)
      else
        some (x3, h)
    else
      ob (f_X6_illTwos F tw x4 h) (fun v10 h8 =>
      f_X6_canon_22 F tw x1 n (if x3 ≤ v10 then x2 else x4) (if x3 ≤ v10 then x3 else v10) (x4 + (nI 1)) h8)
def f_X6_canon (F : Nat) (tw : TW) (x1 : Int32) (h : HP) : Option (Int32 × HP) :=
  if x1 < nI 0 then
    some ((-1), h)
  else
    if x1 ≤ (nI 1) then
      ob (f_X6_illTwos F tw (nI 1) h) (fun v5 h3 =>
      f_X6_canon_22 F tw x1 F (nI 1) v5 (nI 2) h3)
    else
      some ((-1), h)
def f_X6_want (F : Nat) (tw : TW) (x1 : Int32) (x2 : Int32) (h : HP) : Option (Int32 × HP) :=
  ob (f_X6_isRow F tw x1 h) (fun v3 h1 =>
  if v3 = nI 0 then
    some ((-1), h1)
  else
    ob (f_X6_isSet F tw x2 h1) (fun v7 h5 =>
    if v7 = nI 0 then
      some ((-1), h5)
    else
      if inb x1 32 then
        some (h5 28 (ix x1), up h5 28 (ix x1) x2)
      else none))
def f_X6_changesIfShifted_4 (F : Nat) (tw : TW) (x1 : Int32) : Nat → Int32 → Int32 → HP → Option (Int32 × HP)
  | 0, _, _, _ => none
  | n + 1, x2, x3, h =>
    if (h tw.1 4) ≤ x3 then
      some (x2, h)
    else
      if inb x3 32 then
        ob (f_X5_rowBehind F tw.1 x3 x1 h) (fun v5 h3 =>
        if inb v5 32 then
          ob (f_J6_bitCount_0f7a4 F ((h 15 (ix x3)) ^^^ (h3 28 (ix v5))) h3) (fun v9 h7 =>
          f_X6_changesIfShifted_4 F tw x1 n (x2 + v9) (x3 + (nI 1)) h7)
        else none)
      else none
def f_X6_changesIfShifted (F : Nat) (tw : TW) (x1 : Int32) (h : HP) : Option (Int32 × HP) :=
  f_X6_changesIfShifted_4 F tw x1 F (nI 0) (nI 0) h
def f_X6_changes_22 (F : Nat) (tw : TW) (x1 : Int32) : Nat → Int32 → Int32 → Int32 → HP → Option (Int32 × HP)
  | 0, _, _, _, _ => none
  | n + 1, x2, x3, x4, h =>
    if (h tw.1 4) ≤ x4 then
      if x1 = nI 0 then
        some (x3, h)
      else
        some (x2, h)
    else
      ob (f_X6_changesIfShifted F tw x4 h) (fun v10 h8 =>
      f_X6_changes_22 F tw x1 n (if x3 ≤ v10 then x2 else x4) (if x3 ≤ v10 then x3 else v10) (x4 + (nI 1)) h8)
def f_X6_changes (F : Nat) (tw : TW) (x1 : Int32) (h : HP) : Option (Int32 × HP) :=
  if x1 < nI 0 then
    some ((-1), h)
  else
    if x1 ≤ (nI 1) then
      ob (f_X6_changesIfShifted F tw (nI 0) h) (fun v5 h3 =>
      f_X6_changes_22 F tw x1 F (nI 0) v5 (nI 1) h3)
    else
      some ((-1), h)
def f_X6_letters (F : Nat) (tw : TW)  (h : HP) : Option (Int32 × HP) :=
  ob (f_X3_fewestLetters F 15 (h tw.1 4) h) (fun v3 h1 =>
  some (v3, h1))
def f_X6_ringers (F : Nat) (tw : TW)  (h : HP) : Option (Int32 × HP) :=
  ob (f_X1_fewestPeople F 15 tw.1 h) (fun v3 h1 =>
  some (v3, h1))
def f_X6_hear (F : Nat) (tw : TW) (x1 : Int32) (h : HP) : Option (Int32 × HP) :=
  ob (f_X6_isSet F tw x1 h) (fun v3 h1 =>
  if v3 = nI 0 then
    some ((-1), h1)
  else
    if (h1 0 9) < (nI 8) then
      if inb (h1 0 9) 8 then
        some ((up (up h1 29 (ix (h1 0 9)) x1) 0 9 (((up h1 29 (ix (h1 0 9)) x1) 0 9) + (nI 1))) 0 9, up (up h1 29 (ix (h1 0 9)) x1) 0 9 (((up h1 29 (ix (h1 0 9)) x1) 0 9) + (nI 1)))
      else none
    else
      some ((-3), h1))
def f_X6_forget (F : Nat) (tw : TW)  (h : HP) : Option (Int32 × HP) :=
  some (h 0 9, up h 0 9 (nI 0))
def f_X6_isHeardFrom_2 (F : Nat) (tw : TW) (x1 : Int32) : Nat → Int32 → HP → Option (Int32 × HP)
  | 0, _, _ => none
  | n + 1, x2, h =>
    if (h 0 9) ≤ x2 then
      some ((nI 1), h)
    else
      ob (f_X5_rowBehind F tw.1 x1 x2 h) (fun v4 h2 =>
      if inb v4 32 then
        if inb x2 8 then
          if (h2 15 (ix v4)) = (h2 29 (ix x2)) then
            f_X6_isHeardFrom_2 F tw x1 n (x2 + (nI 1)) h2
          else
            some ((nI 0), h2)
        else none
      else none)
def f_X6_isHeardFrom (F : Nat) (tw : TW) (x1 : Int32) (h : HP) : Option (Int32 × HP) :=
  f_X6_isHeardFrom_2 F tw x1 F (nI 0) h
def f_X6_stood_4 (F : Nat) (tw : TW)  : Nat → Int32 → Int32 → HP → Option (Int32 × HP)
  | 0, _, _, _ => none
  | n + 1, x1, x2, h =>
    if (h tw.1 4) ≤ x2 then
      some (x1, h)
    else
      ob (f_X6_isHeardFrom F tw x2 h) (fun v4 h2 =>
      f_X6_stood_4 F tw n (if v4 = nI 0 then x1 else x1 ||| (jshl (nI 1) x2)) (x2 + (nI 1)) h2)
def f_X6_stood (F : Nat) (tw : TW)  (h : HP) : Option (Int32 × HP) :=
  f_X6_stood_4 F tw F (nI 0) (nI 0) h
def f_X6_octaves_6 (F : Nat) (tw : TW)  : Nat → Int32 → Int32 → Int32 → HP → Option (Int32 × HP)
  | 0, _, _, _, _ => none
  | n + 1, x1, x2, x3, h =>
    if (h tw.1 0) ≤ x3 then
      ob (f_J6_bitCount_0f7a4 F x2 h) (fun v4 h2 =>
      some (v4, h2))
    else
      if inb x3 8 then
        f_X6_octaves_6 F tw n (x1 ||| (jshl (nI 1) (jrem (h (tw.1 + 1) (ix x3)) (nI 12)))) (x2 ||| (x1 &&& (jshl (nI 1) (jrem (h (tw.1 + 1) (ix x3)) (nI 12))))) (x3 + (nI 1)) h
      else none
def f_X6_octaves (F : Nat) (tw : TW)  (h : HP) : Option (Int32 × HP) :=
  f_X6_octaves_6 F tw F (nI 0) (nI 0) (nI 0) h
def f_X6_melody_115 (F : Nat) (tw : TW) (x1 : Int32) (k_25 : Int32 → Int32 → Int32 → Int32 → Int32 → HP → Option (Int32 × HP)) (x2 : Int32) (x3 : Int32) (x4 : Int32) (x5 : Int32) (x6 : Int32) (x7 : Int32) (h : HP) : Option (Int32 × HP) :=
  k_25 x2 x3 x4 (if x7 = (-4) then x5 else x7) (x6 + (nI 1)) h
def f_X6_melody_25 (F : Nat) (tw : TW) (x1 : Int32) : Nat → Int32 → Int32 → Int32 → Int32 → Int32 → HP → Option (Int32 × HP)
  | 0, _, _, _, _, _, _ => none
  | n + 1, x2, x3, x4, x5, x6, h =>
    if (h tw.1 4) ≤ x6 then
      if x1 = nI 0 then
        some (x2, h)
      else
        if x1 = (nI 1) then
          some (x3, h)
        else
          some (x4, h)
    else
      if inb x6 32 then
        ob (f_X5_highestTone F tw.1 (h 15 (ix x6)) h) (fun v9 h7 =>
        if v9 = (-4) then
          f_X6_melody_115 F tw x1 (f_X6_melody_25 F tw x1 n) x2 x3 x4 x5 x6 v9 h7
        else
          if x5 = (-4) then
            f_X6_melody_115 F tw x1 (f_X6_melody_25 F tw x1 n) x2 x3 x4 x5 x6 v9 h7
          else
            ob (f_J9_abs_0f7a4 F (v9 - x5) h7) (fun v14 h12 =>
            ob (f_J9_max_7cf53 F x4 v14 h12) (fun v17 h15 =>
            f_X6_melody_115 F tw x1 (f_X6_melody_25 F tw x1 n) (x2 + (if v9 ≤ x5 then (nI 0) else (nI 1))) (x3 + (if x5 ≤ v9 then (nI 0) else (nI 1))) v17 x5 x6 v9 h15)))
      else none
def f_X6_melody (F : Nat) (tw : TW) (x1 : Int32) (h : HP) : Option (Int32 × HP) :=
  if x1 < nI 0 then
    some ((-1), h)
  else
    if x1 ≤ (nI 2) then
      f_X6_melody_25 F tw x1 F (nI 0) (nI 0) (nI 0) (-4) (nI 0) h
    else
      some ((-1), h)
def f_X6_draw (F : Nat) (x0 : Int32) (x1 : Int32) (h : HP) : Option (Int32 × HP) :=
  some (((jlrem (((((lN 7919) * x0.toInt64) + ((lN 6151) * x1.toInt64)) + (lN 1)) * ((((lN 7919) * x0.toInt64) + ((lN 6151) * x1.toInt64)) + (lN 1))) (lN 65521)) / (lN 8)).toInt32, h)
def f_X6_winter_109 (F : Nat) (tw : TW) (x1 : Int32) (x2 : Int32) (x3 : Int32) : Nat → Int32 → Int32 → Int32 → HP → Option (Int32 × HP)
  | 0, _, _, _, _ => none
  | n + 1, x4, x5, x6, h =>
    if (h tw.1 4) ≤ x6 then
      if x3 = nI 0 then
        some (x4, h)
      else
        some (x5, h)
    else
      if inb x6 32 then
        ob (f_J6_bitCount_0f7a4 F (h 20 (ix x6)) h) (fun v22 h20 =>
        f_X6_winter_109 F tw x1 x2 x3 n (x4 + v22) (x5 + (if (h20 20 (ix x6)) = nI 0 then (nI 1) else (nI 0))) (x6 + (nI 1)) h20)
      else none
def f_X6_winter_47 (F : Nat) (tw : TW) (x1 : Int32) (x2 : Int32) (x3 : Int32) : Nat → Int32 → HP → Option (Int32 × HP)
  | 0, _, _ => none
  | n + 1, x4, h =>
    if x2 ≤ x4 then
      f_X6_winter_109 F tw x1 x2 x3 F (nI 0) (nI 0) (nI 0) h
    else
      ob (f_X6_draw F x1 x4 h) (fun v12 h10 =>
      ob (f_X5_rowBehind F tw.1 (nI 0) v12 h10) (fun v15 h13 =>
      if inb v15 32 then
        f_X6_winter_47 F tw x1 x2 x3 n (x4 + (nI 1)) (up h13 20 (ix v15) ((h13 20 (ix v15)) &&& ((h13 20 (ix v15)) - (nI 1))))
      else none))
def f_X6_winter (F : Nat) (tw : TW) (x1 : Int32) (x2 : Int32) (x3 : Int32) (h : HP) : Option (Int32 × HP) :=
  if x1 < nI 0 then
    some ((-1), h)
  else
    if (nI 9999) < x1 then
      some ((-1), h)
    else
      if x2 < (nI 1) then
        some ((-1), h)
      else
        if (nI 60) < x2 then
          some ((-1), h)
        else
          if x3 < nI 0 then
            some ((-1), h)
          else
            if x3 ≤ (nI 1) then
              obv (f_X0_copy F 19 14 h) (fun h7 =>
              f_X6_winter_47 F tw x1 x2 x3 F (nI 0) h7)
            else
              some ((-1), h)
def f_X6_keep (F : Nat) (tw : TW)  (h : HP) : Option (Int32 × HP) :=
  if (h 26 3) < (nI 2) then
    obv (f_X2_put F 26 14 h) (fun h2 =>
    some (h2 26 3, h2))
  else
    some ((-3), h)
def f_X6_back (F : Nat) (tw : TW)  (h : HP) : Option (Int32 × HP) :=
  ob (f_X2_takeInto F 26 14 h) (fun v3 h1 =>
  if v3 = nI 0 then
    some ((-2), h1)
  else
    obv (f_X2_clear F 24 h1) (fun h5 =>
    some (h5 26 3, h5)))
def f_X6_count (F : Nat) (tw : TW) (x1 : Int32) (h : HP) : Option (Int32 × HP) :=
  if x1 = nI 0 then
    some (h tw.1 0, h)
  else if x1 = nI 1 then
    some (h tw.1 4, h)
  else if x1 = nI 2 then
    some (h tw.1 5, h)
  else if x1 = nI 3 then
    ob (f_X6_allPins F tw h) (fun v7 h5 =>
    some (v7, h5))
  else if x1 = nI 4 then
    some (h 14 5, h)
  else if x1 = nI 5 then
    some (h 14 4, h)
  else if x1 = nI 6 then
    some (h 0 9, h)
  else if x1 = nI 7 then
    some (h 24 3, h)
  else if x1 = nI 8 then
    some (h 26 3, h)
  else if x1 = nI 9 then
    some (h 1 1, h)
  else 
    some ((-1), h)
def f_X7_in (F : Nat) (x0 : Int64) (x2 : Int64) (x4 : Int64) (h : HP) : Option (Int32 × HP) :=
  if (lg_cmp x0 x2) < nI 0 then
    some ((nI 0), h)
  else
    if nI 0 < (lg_cmp x0 x4) then
      some ((nI 0), h)
    else
      some ((nI 1), h)
def f_X7_isTwo (F : Nat) (x0 : Int32) (h : HP) : Option (Int32 × HP) :=
  ob (f_X7_in F x0.toInt64 (lN 0) (lN 1) h) (fun v3 h1 =>
  if v3 = nI 0 ∨ v3 = nI 1 then
    some (v3, h1)
  else none)
def f_X7_has (F : Nat) (x0 : Int32) (x1 : Int32) (h : HP) : Option (Int32 × HP) :=
  if ((jshr x0 x1) &&& (nI 1)) = (nI 1) then
    some ((nI 1), h)
  else
    some ((nI 0), h)
def f_X7_bits_4 (F : Nat) (x0 : Int32) : Nat → Int32 → Int32 → HP → Option (Int32 × HP)
  | 0, _, _, _ => none
  | n + 1, x1, x2, h =>
    if x2 = nI 0 then
      some (x1, h)
    else
      f_X7_bits_4 F x0 n (x1 + (nI 1)) (x2 &&& (x2 - (nI 1))) h
def f_X7_bits (F : Nat) (x0 : Int32) (h : HP) : Option (Int32 × HP) :=
  f_X7_bits_4 F x0 F (nI 0) x0 h
def f_X7_write (F : Nat) (x1 : Int32) (h : HP) : Option (Int32 × HP) :=
  ob (f_X7_in F x1.toInt64 (lN 32) (lN 126) h) (fun v3 h1 =>
  if v3 = nI 0 then
    some ((-1), h1)
  else
    if (h1 39 10) = (nI 200) then
      some ((-3), h1)
    else
      if inb (h1 39 10) 200 then
        some ((up (up h1 46 (ix (h1 39 10)) x1) 39 10 (((up h1 46 (ix (h1 39 10)) x1) 39 10) + (nI 1))) 39 10, up (up h1 46 (ix (h1 39 10)) x1) 39 10 (((up h1 46 (ix (h1 39 10)) x1) 39 10) + (nI 1)))
      else none)
def f_X7_wipe (F : Nat)  (h : HP) : Option (Int32 × HP) :=
  some (h 39 10, up h 39 10 (nI 0))
def f_X7_clean_2 (F : Nat)  : Nat → Int32 → HP → Option (HP)
  | 0, _, _ => none
  | n + 1, x1, h =>
    if (nI 19) ≤ x1 then
      some (up (up (up (up h 41 1 (nI 16)) 41 2 (nI 1)) 39 3 (nI 0)) 39 15 (nI 0))
    else
      if inb x1 19 then
        f_X7_clean_2 F n (x1 + (nI 1)) (up h 41 (ix x1) (nI 0))
      else none
def f_X7_clean (F : Nat)  (h : HP) : Option (HP) :=
  f_X7_clean_2 F F (nI 0) h
def f_X7_comes (F : Nat) (x1 : Int32) (x2 : Int32) (h : HP) : Option (HP) :=
  if inb ((nI 3) + (h 41 0)) 19 then
    if inb ((nI 11) + (h 41 0)) 19 then
      some (up (up (up h 41 (ix ((nI 3) + (h 41 0))) x1) 41 (ix ((nI 11) + (h 41 0))) x2) 41 0 (((up (up h 41 (ix ((nI 3) + (h 41 0))) x1) 41 (ix ((nI 11) + (h 41 0))) x2) 41 0) + (nI 1)))
    else none
  else none
def f_X7_put (F : Nat) (x1 : Int32) (h : HP) : Option (Int32 × HP) :=
  if (h 39 3) = (nI 32) then
    some ((nI 0), h)
  else
    if inb (h 39 3) 32 then
      some ((nI 1), up (up h 42 (ix (h 39 3)) x1) 39 3 (((up h 42 (ix (h 39 3)) x1) 39 3) + (nI 1)))
    else none
def f_X7_here (F : Nat)  (h : HP) : Option (Int32 × HP) :=
  if (h 39 10) ≤ (h 39 14) then
    some ((-1), h)
  else
    if inb (h 39 14) 200 then
      some (h 46 (ix (h 39 14)), h)
    else none
def f_X7_takes_12 (F : Nat) (x1 : Int32) (k_2 : Int32 → HP → Option (Int32 × HP)) : Nat → Int32 → Int32 → Int32 → HP → Option (Int32 × HP)
  | 0, _, _, _, _ => none
  | n + 1, x2, x3, x4, h =>
    ob (f_X7_here F h) (fun v4 h2 =>
    ob (f_X7_in F v4.toInt64 (lN 48) (lN 57) h2) (fun v7 h5 =>
    if v7 = nI 0 then
      ob (f_X7_in F x4.toInt64 (lN 1) (lN 2) h5) (fun v11 h9 =>
      if v11 = nI 0 then
        some ((nI 0), h9)
      else
        ob (f_X7_here F h9) (fun v15 h13 =>
        if v15 = (if (x1 - (nI 1)) ≤ x2 then (nI 59) else (nI 44)) then
          if inb x2 2 then
            k_2 (x2 + (nI 1)) (up (up h13 49 (ix x2) x3) 39 14 (((up h13 49 (ix x2) x3) 39 14) + (nI 1)))
          else none
        else
          some ((nI 0), h13)))
    else
      if (nI 2) ≤ x4 then
        f_X7_takes_12 F x1 k_2 n x2 x3 (x4 + (nI 1)) (up h5 39 14 ((h5 39 14) + (nI 1)))
      else
        ob (f_X7_here F h5) (fun v21 h19 =>
        f_X7_takes_12 F x1 k_2 n x2 ((((nI 10) * x3) + v21) - (nI 48)) (x4 + (nI 1)) (up h19 39 14 ((h19 39 14) + (nI 1))))))
def f_X7_takes_2 (F : Nat) (x1 : Int32) : Nat → Int32 → HP → Option (Int32 × HP)
  | 0, _, _ => none
  | n + 1, x2, h =>
    if x1 ≤ x2 then
      some ((nI 1), h)
    else
      f_X7_takes_12 F x1 (f_X7_takes_2 F x1 n) F x2 (nI 0) (nI 0) h
def f_X7_takes (F : Nat) (x1 : Int32) (h : HP) : Option (Int32 × HP) :=
  f_X7_takes_2 F x1 F (nI 0) h
def f_X7_takesBell (F : Nat)  (h : HP) : Option (Int32 × HP) :=
  ob (f_X7_takes F (nI 2) h) (fun v3 h1 =>
  if v3 = nI 0 then
    some ((nI 0), h1)
  else
    if (nI 40) < (h1 49 0) then
      some ((nI 0), h1)
    else
      ob (f_X7_in F ((h1 49 1).toInt64) (lN 1) (lN 2) h1) (fun v8 h6 =>
      if v8 = nI 0 then
        some ((nI 0), h6)
      else
        if (h6 41 0) = (nI 8) then
          some ((nI 0), h6)
        else
          obv (f_X7_comes F (h6 49 0) (h6 49 1) h6) (fun h11 =>
          some ((nI 1), h11))))
def f_X7_takesOne (F : Nat) (x1 : Int32) (x2 : Int32) (x3 : Int32) (h : HP) : Option (Int32 × HP) :=
  ob (f_X7_takes F (nI 1) h) (fun v3 h1 =>
  if v3 = nI 0 then
    some ((nI 0), h1)
  else
    ob (f_X7_in F ((h1 49 0).toInt64) x2.toInt64 x3.toInt64 h1) (fun v7 h5 =>
    if v7 = nI 0 then
      some ((nI 0), h5)
    else
      if inb x1 19 then
        some ((nI 1), up h5 41 (ix x1) (h5 49 0))
      else none))
def f_X7_isBellHere (F : Nat)  (h : HP) : Option (Int32 × HP) :=
  ob (f_X7_here F h) (fun v3 h1 =>
  ob (f_X7_in F v3.toInt64 (lN 97) (((nI 96) + (h1 41 0)).toInt64) h1) (fun v6 h4 =>
  if v6 = nI 0 ∨ v6 = nI 1 then
    some (v6, h4)
  else none))
def f_X7_chord_4 (F : Nat)  : Nat → Int32 → Int32 → HP → Option (Int32 × HP)
  | 0, _, _, _ => none
  | n + 1, x1, x2, h =>
    ob (f_X7_isBellHere F h) (fun v3 h1 =>
    if v3 = nI 0 then
      ob (f_X7_here F h1) (fun v7 h5 =>
      if v7 = (nI 93) then
        ob (f_X7_bits F x1 h5) (fun v11 h9 =>
        if (nI 2) ≤ v11 then
          some (x1, up h9 39 14 ((h9 39 14) + (nI 1)))
        else
          some ((-1), h9))
      else
        some ((-1), h5))
    else
      ob (f_X7_here F h1) (fun v15 h13 =>
      if x2 < (v15 - (nI 97)) then
        f_X7_chord_4 F n (x1 ||| (jshl (nI 1) (v15 - (nI 97)))) (v15 - (nI 97)) (up h13 39 14 ((h13 39 14) + (nI 1)))
      else
        some ((-1), h13)))
def f_X7_chord (F : Nat)  (h : HP) : Option (Int32 × HP) :=
  f_X7_chord_4 F F (nI 0) (-1) h
def f_X7_tellsAgain_17 (F : Nat) (x1 : Int32) (x2 : Int32) (k_8 : Int32 → Int32 → HP → Option (Int32 × HP)) : Nat → Int32 → Int32 → Int32 → HP → Option (Int32 × HP)
  | 0, _, _, _, _ => none
  | n + 1, x3, x4, x5, h =>
    if x3 ≤ x5 then
      k_8 x3 (x4 + (nI 1)) h
    else
      if inb x5 32 then
        ob (f_X7_put F (h 42 (ix x5)) h) (fun v6 h4 =>
        if v6 = nI 0 then
          some ((nI 0), h4)
        else
          f_X7_tellsAgain_17 F x1 x2 k_8 n x3 x4 (x5 + (nI 1)) h4)
      else none
def f_X7_tellsAgain_8 (F : Nat) (x1 : Int32) (x2 : Int32) : Nat → Int32 → Int32 → HP → Option (Int32 × HP)
  | 0, _, _, _ => none
  | n + 1, x3, x4, h =>
    if x2 ≤ x4 then
      some ((nI 1), h)
    else
      f_X7_tellsAgain_17 F x1 x2 (f_X7_tellsAgain_8 F x1 x2 n) F x3 x4 x1 h
def f_X7_tellsAgain (F : Nat) (x1 : Int32) (x2 : Int32) (h : HP) : Option (Int32 × HP) :=
  f_X7_tellsAgain_8 F x1 x2 F (h 39 3) (nI 1) h
def f_X7_takesTune_263 (F : Nat)  (k_16 : Int32 → HP → Option (Int32 × HP)) (x1 : Int32) (x3 : Int32) (h : HP) : Option (Int32 × HP) :=
  if x3 = nI 0 then
    some ((nI 0), h)
  else
    k_16 x1 h
def f_X7_takesTune_129 (F : Nat)  (k_16 : Int32 → HP → Option (Int32 × HP)) (x1 : Int32) (s0 : Int32) (h : HP) : Option (Int32 × HP) :=
  f_X7_takesTune_263 F k_16 x1 s0 h
def f_X7_takesTune_128 (F : Nat)  (k_16 : Int32 → HP → Option (Int32 × HP)) (x1 : Int32) (h : HP) : Option (Int32 × HP) :=
  f_X7_takesTune_129 F k_16 x1 (nI 0) h
def f_X7_takesTune_262 (F : Nat)  (k_16 : Int32 → HP → Option (Int32 × HP)) (x1 : Int32) (s0 : Int32) (h : HP) : Option (Int32 × HP) :=
  f_X7_takesTune_263 F k_16 x1 s0 h
def f_X7_takesTune_261 (F : Nat)  (k_16 : Int32 → HP → Option (Int32 × HP)) (x1 : Int32) (h : HP) : Option (Int32 × HP) :=
  f_X7_takesTune_262 F k_16 x1 (nI 0) h
def f_X7_takesTune_172 (F : Nat)  (k_16 : Int32 → HP → Option (Int32 × HP)) (x1 : Int32) (x2 : Int32) (x3 : Int32) (h : HP) : Option (Int32 × HP) :=
  if x2 = (nI 41) then
    if x1 ≤ nI 0 then
      f_X7_takesTune_263 F k_16 x1 x3 h
    else
      ob (f_X7_here F (up h 39 14 ((h 39 14) + (nI 1)))) (fun v37 h35 =>
      ob (f_X7_in F ((v37 - (nI 48)).toInt64) (lN 2) (lN 9) (up h35 39 14 ((h35 39 14) + (nI 1)))) (fun v40 h38 =>
      if v40 = nI 0 then
        f_X7_takesTune_261 F k_16 (x1 + (-1)) h38
      else
        if inb (x1 + (-1)) 3 then
          if (h38 39 3) ≤ (h38 50 (ix (x1 + (-1)))) then
            f_X7_takesTune_261 F k_16 (x1 + (-1)) h38
          else
            ob (f_X7_tellsAgain F (h38 50 (ix (x1 + (-1)))) (v37 - (nI 48)) h38) (fun v46 h44 =>
            f_X7_takesTune_263 F k_16 (x1 + (-1)) (if v46 = nI 0 then (nI 0) else (nI 1)) h44)
        else none))
  else
    f_X7_takesTune_263 F k_16 x1 x3 h
def f_X7_takesTune_16 (F : Nat)  : Nat → Int32 → HP → Option (Int32 × HP)
  | 0, _, _ => none
  | n + 1, x1, h =>
    ob (f_X7_here F h) (fun v4 h2 =>
    if v4 = (nI 59) then
      if x1 = nI 0 then
        if ((up h2 39 14 ((h2 39 14) + (nI 1))) 39 3) ≤ nI 0 then
          some ((nI 0), up h2 39 14 ((h2 39 14) + (nI 1)))
        else
          some ((nI 1), up h2 39 14 ((h2 39 14) + (nI 1)))
      else
        some ((nI 0), up h2 39 14 ((h2 39 14) + (nI 1)))
    else
      ob (f_X7_here F h2) (fun v10 h8 =>
      ob (f_X7_isBellHere F h8) (fun v13 h11 =>
      if v13 = nI 0 then
        if v10 = (nI 46) then
          ob (f_X7_put F (nI 0) (up h11 39 14 ((h11 39 14) + (nI 1)))) (fun v29 h27 =>
          f_X7_takesTune_263 F (f_X7_takesTune_16 F n) x1 v29 h27)
        else
          if v10 = (nI 91) then
            ob (f_X7_chord F (up h11 39 14 ((h11 39 14) + (nI 1)))) (fun v22 h20 =>
            if v22 ≤ nI 0 then
              f_X7_takesTune_128 F (f_X7_takesTune_16 F n) x1 h20
            else
              ob (f_X7_put F v22 h20) (fun v26 h24 =>
              f_X7_takesTune_263 F (f_X7_takesTune_16 F n) x1 (if v26 = nI 0 then (nI 0) else (nI 1)) h24))
          else
            if v10 = (nI 40) then
              if (nI 3) ≤ x1 then
                f_X7_takesTune_172 F (f_X7_takesTune_16 F n) x1 v10 (nI 0) h11
              else
                if inb x1 3 then
                  f_X7_takesTune_263 F (f_X7_takesTune_16 F n) (x1 + (nI 1)) (nI 1) (up (up h11 39 14 ((h11 39 14) + (nI 1))) 50 (ix x1) ((up h11 39 14 ((h11 39 14) + (nI 1))) 39 3))
                else none
            else
              f_X7_takesTune_172 F (f_X7_takesTune_16 F n) x1 v10 (nI 0) h11
      else
        ob (f_X7_put F (jshl (nI 1) (v10 - (nI 97))) (up h11 39 14 ((h11 39 14) + (nI 1)))) (fun v32 h30 =>
        f_X7_takesTune_263 F (f_X7_takesTune_16 F n) x1 v32 h30))))
def f_X7_takesTune (F : Nat)  (h : HP) : Option (Int32 × HP) :=
  if (h 39 15) = nI 0 then
    f_X7_takesTune_16 F F (nI 0) (up h 39 15 (nI 1))
  else
    some ((nI 0), h)
def f_X7_takesItem (F : Nat)  (h : HP) : Option (Int32 × HP) :=
  ob (f_X7_here F h) (fun v3 h1 =>
  if v3 = nI 98 then
    ob (f_X7_takesBell F (up h1 39 14 ((h1 39 14) + (nI 1)))) (fun v7 h5 =>
    if v7 = nI 0 ∨ v7 = nI 1 then
      some (v7, h5)
    else none)
  else if v3 = nI 110 then
    ob (f_X7_takesOne F (nI 1) (nI 2) (nI 32) (up h1 39 14 ((h1 39 14) + (nI 1)))) (fun v12 h10 =>
    if v12 = nI 0 ∨ v12 = nI 1 then
      some (v12, h10)
    else none)
  else if v3 = nI 114 then
    ob (f_X7_takesOne F (nI 2) (nI 0) (nI 6) (up h1 39 14 ((h1 39 14) + (nI 1)))) (fun v17 h15 =>
    if v17 = nI 0 ∨ v17 = nI 1 then
      some (v17, h15)
    else none)
  else if v3 = nI 116 then
    ob (f_X7_takesTune F (up h1 39 14 ((h1 39 14) + (nI 1)))) (fun v22 h20 =>
    if v22 = nI 0 ∨ v22 = nI 1 then
      some (v22, h20)
    else none)
  else 
    some ((nI 0), up h1 39 14 ((h1 39 14) + (nI 1))))
def f_X7_fault_9 (F : Nat)  : Nat → HP → Option (Int32 × HP)
  | 0, _ => none
  | n + 1, h =>
    if (h 39 10) ≤ (h 39 14) then
      some ((-4), h)
    else
      ob (f_X7_takesItem F h) (fun v6 h4 =>
      if v6 = nI 0 then
        some (h 39 14, h4)
      else
        f_X7_fault_9 F n  h4)
def f_X7_fault (F : Nat)  (h : HP) : Option (Int32 × HP) :=
  obv (f_X7_clean F h) (fun h1 =>
  f_X7_fault_9 F F  (up h1 39 14 (nI 0)))
def f_X7_begins_79 (F : Nat)  : Nat → Int32 → HP → Option (HP)
  | 0, _, _ => none
  | n + 1, x1, h =>
    if (nI 32) ≤ x1 then
      some (up (up (up h 39 13 (nI 0)) 39 6 (nI 0)) 39 8 (nI 0))
    else
      if (h 39 3) ≤ x1 then
        if inb ((nI 2) + x1) 66 then
          if inb x1 32 then
            f_X7_begins_79 F n (x1 + (nI 1)) (up (up h 43 (ix ((nI 2) + x1)) (nI 0)) 47 (ix x1) (nI 0))
          else none
        else none
      else
        if inb x1 32 then
          if inb ((nI 2) + x1) 66 then
            f_X7_begins_79 F n (x1 + (nI 1)) (up (up h 43 (ix ((nI 2) + x1)) (h 42 (ix x1))) 47 (ix x1) (nI 0))
          else none
        else none
def f_X7_begins_28 (F : Nat)  : Nat → Int32 → HP → Option (HP)
  | 0, _, _ => none
  | n + 1, x1, h =>
    if (nI 66) ≤ x1 then
      f_X7_begins_79 F F (nI 0) (up h 43 0 (h 40 1))
    else
      if inb x1 66 then
        f_X7_begins_28 F n (x1 + (nI 1)) (up h 43 (ix x1) (if x1 < (nI 34) then (nI 0) else (if (nI 50) ≤ x1 then (nI 0) else (-1000))))
      else none
def f_X7_begins_2 (F : Nat)  : Nat → Int32 → HP → Option (HP)
  | 0, _, _ => none
  | n + 1, x1, h =>
    if (nI 19) ≤ x1 then
      f_X7_begins_28 F F (nI 0) h
    else
      if inb x1 19 then
        f_X7_begins_2 F n (x1 + (nI 1)) (up h 40 (ix x1) (h 41 (ix x1)))
      else none
def f_X7_begins (F : Nat)  (h : HP) : Option (HP) :=
  f_X7_begins_2 F F (nI 0) h
def f_X7_lay (F : Nat)  (h : HP) : Option (Int32 × HP) :=
  ob (f_X7_fault F h) (fun v3 h1 =>
  if v3 = (-4) then
    if (h1 41 0) = nI 0 then
      some ((-2), h1)
    else
      if (h1 39 3) ≤ (h1 41 1) then
        obv (f_X7_begins F h1) (fun h7 =>
        some (h7 39 3, h7))
      else
        some ((-2), h1)
  else
    some ((-2), h1))
def f_X7_isBell (F : Nat) (x1 : Int32) (h : HP) : Option (Int32 × HP) :=
  ob (f_X7_in F x1.toInt64 (lN 0) (((h 40 0) - (nI 1)).toInt64) h) (fun v3 h1 =>
  if v3 = nI 0 ∨ v3 = nI 1 then
    some (v3, h1)
  else none)
def f_X7_isRow (F : Nat) (x1 : Int32) (h : HP) : Option (Int32 × HP) :=
  ob (f_X7_in F x1.toInt64 (lN 0) (((h 40 1) - (nI 1)).toInt64) h) (fun v3 h1 =>
  if v3 = nI 0 ∨ v3 = nI 1 then
    some (v3, h1)
  else none)
def f_X7_isSet (F : Nat) (x1 : Int32) (h : HP) : Option (Int32 × HP) :=
  ob (f_X7_in F x1.toInt64 (lN 0) (((jshl (nI 1) (h 40 0)) - (nI 1)).toInt64) h) (fun v3 h1 =>
  if v3 = nI 0 ∨ v3 = nI 1 then
    some (v3, h1)
  else none)
def f_X7_rings_46 (F : Nat) (r1 : Nat) (x2 : Int32) (k_5 : Int32 → Int32 → HP → Option (Int32 × HP)) : Nat → Int32 → Int32 → Int32 → Int32 → HP → Option (Int32 × HP)
  | 0, _, _, _, _, _ => none
  | n + 1, x3, x4, x5, x6, h =>
    if x6 < nI 0 then
      if nI 0 ≤ x5 then
        if inb (nI 1) (ln r1) then
          if inb (((nI 34) + ((nI 2) * x4)) + x5) (ln r1) then
            if inb ((nI 50) + x4) (ln r1) then
              k_5 (x3 ||| (jshl (nI 1) x4)) (x4 + (nI 1)) (up (up h r1 (ix (((nI 34) + ((nI 2) * x4)) + x5)) (h r1 1)) r1 (ix ((nI 50) + x4)) (((up h r1 (ix (((nI 34) + ((nI 2) * x4)) + x5)) (h r1 1)) r1 (ix ((nI 50) + x4))) + (nI 1)))
            else none
          else none
        else none
      else
        if inb ((nI 58) + x4) (ln r1) then
          k_5 x3 (x4 + (nI 1)) (up h r1 (ix ((nI 58) + x4)) ((h r1 (ix ((nI 58) + x4))) + (nI 1)))
        else none
    else
      if inb (nI 1) (ln r1) then
        if inb (((nI 34) + ((nI 2) * x4)) + x6) (ln r1) then
          f_X7_rings_46 F r1 x2 k_5 n x3 x4 (if ((h r1 1) - (h r1 (ix (((nI 34) + ((nI 2) * x4)) + x6)))) ≤ (h 40 2) then x5 else x6) (x6 + (-1)) h
        else none
      else none
def f_X7_rings_5 (F : Nat) (r1 : Nat) (x2 : Int32) : Nat → Int32 → Int32 → HP → Option (Int32 × HP)
  | 0, _, _, _ => none
  | n + 1, x3, x4, h =>
    if (h 40 0) ≤ x4 then
      if inb (nI 1) (ln r1) then
        if inb (nI 0) (ln r1) then
          some (x3, up (up h r1 1 ((h r1 1) + (nI 1))) r1 0 x2)
        else none
      else none
    else
      if inb ((nI 2) + x2) (ln r1) then
        ob (f_X7_has F (h r1 (ix ((nI 2) + x2))) x4 h) (fun v7 h5 =>
        if v7 = nI 0 then
          f_X7_rings_5 F r1 x2 n x3 (x4 + (nI 1)) h5
        else
          if inb ((nI 11) + x4) 19 then
            f_X7_rings_46 F r1 x2 (f_X7_rings_5 F r1 x2 n) F x3 x4 (-1) ((h5 40 (ix ((nI 11) + x4))) - (nI 1)) h5
          else none)
      else none
def f_X7_rings (F : Nat) (r1 : Nat) (x2 : Int32) (h : HP) : Option (Int32 × HP) :=
  f_X7_rings_5 F r1 x2 F (nI 0) (nI 0) h
def f_X7_comesNext (F : Nat) (r1 : Nat) (h : HP) : Option (Int32 × HP) :=
  if inb (nI 0) (ln r1) then
    ob (f_X7_rings F r1 (if (h r1 0) < ((h 40 1) - (nI 1)) then (h r1 0) + (nI 1) else (nI 0)) h) (fun v4 h2 =>
    some (v4, h2))
  else none
def f_X7_bell_15 (F : Nat) (x1 : Int32) (x2 : Int32) : Nat → Int32 → Int32 → HP → Option (Int32 × HP)
  | 0, _, _, _ => none
  | n + 1, x3, x4, h =>
    if (h 40 1) ≤ x4 then
      if x2 = nI 0 then
        if inb ((nI 3) + x1) 19 then
          some (h 40 (ix ((nI 3) + x1)), h)
        else none
      else if x2 = nI 1 then
        if inb ((nI 11) + x1) 19 then
          some (h 40 (ix ((nI 11) + x1)), h)
        else none
      else if x2 = nI 2 then
        some (x3, h)
      else if x2 = nI 3 then
        if inb ((nI 50) + x1) 66 then
          some (h 43 (ix ((nI 50) + x1)), h)
        else none
      else if x2 = nI 4 then
        if inb ((nI 58) + x1) 66 then
          some (h 43 (ix ((nI 58) + x1)), h)
        else none
      else 
        some ((-1), h)
    else
      if inb ((nI 2) + x4) 66 then
        ob (f_X7_has F (h 43 (ix ((nI 2) + x4))) x1 h) (fun v18 h16 =>
        f_X7_bell_15 F x1 x2 n (x3 + (if v18 = nI 0 then (nI 0) else (nI 1))) (x4 + (nI 1)) h16)
      else none
def f_X7_bell (F : Nat) (x1 : Int32) (x2 : Int32) (h : HP) : Option (Int32 × HP) :=
  ob (f_X7_isBell F x1 h) (fun v3 h1 =>
  if v3 = nI 0 then
    some ((-1), h1)
  else
    f_X7_bell_15 F x1 x2 F (nI 0) (nI 0) h1)
def f_X7_pins (F : Nat) (x1 : Int32) (h : HP) : Option (Int32 × HP) :=
  ob (f_X7_isRow F x1 h) (fun v3 h1 =>
  if v3 = nI 0 then
    some ((-1), h1)
  else
    if inb ((nI 2) + x1) 66 then
      some (h1 43 (ix ((nI 2) + x1)), h1)
    else none)
def f_X7_copies_3 (F : Nat) (r0 : Nat) (x1 : Int32) (r2 : Nat) (x3 : Int32) : Nat → Int32 → HP → Option (HP)
  | 0, _, _ => none
  | n + 1, x4, h =>
    if (nI 66) ≤ x4 then
      some h
    else
      if inb (x1 + x4) (ln r0) then
        if inb (x3 + x4) (ln r2) then
          f_X7_copies_3 F r0 x1 r2 x3 n (x4 + (nI 1)) (up h r2 (ix (x3 + x4)) (h r0 (ix (x1 + x4))))
        else none
      else none
def f_X7_copies (F : Nat) (r0 : Nat) (x1 : Int32) (r2 : Nat) (x3 : Int32) (h : HP) : Option (HP) :=
  f_X7_copies_3 F r0 x1 r2 x3 F (nI 0) h
def f_X7_remember_49 (F : Nat)   (h : HP) : Option (HP) :=
  obv (f_X7_copies F 43 (nI 0) 44 ((nI 66) * (h 39 6)) h) (fun h2 =>
  some (up h2 39 6 ((h2 39 6) + (nI 1))))
def f_X7_remember_11 (F : Nat)  : Nat → Int32 → HP → Option (HP)
  | 0, _, _ => none
  | n + 1, x1, h =>
    if (nI 462) ≤ x1 then
      f_X7_remember_49 F  (up h 39 6 ((h 39 6) - (nI 1)))
    else
      if inb (x1 + (nI 66)) 528 then
        if inb x1 528 then
          f_X7_remember_11 F n (x1 + (nI 1)) (up h 44 (ix x1) (h 44 (ix (x1 + (nI 66)))))
        else none
      else none
def f_X7_remember (F : Nat)  (h : HP) : Option (HP) :=
  if (h 39 6) = (nI 8) then
    f_X7_remember_11 F F (nI 0) h
  else
    f_X7_remember_49 F  h
def f_X7_turn (F : Nat)  (h : HP) : Option (Int32 × HP) :=
  obv (f_X7_remember F h) (fun h1 =>
  ob (f_X7_comesNext F 43 h1) (fun v5 h3 =>
  some (v5, h3)))
def f_X7_turnBack (F : Nat)  (h : HP) : Option (Int32 × HP) :=
  obv (f_X7_remember F h) (fun h1 =>
  ob (f_X7_rings F 43 (if (h1 43 0) = nI 0 then (h1 40 1) - (nI 1) else (h1 43 0) - (nI 1)) h1) (fun v5 h3 =>
  some (v5, h3)))
def f_X7_pin (F : Nat) (x1 : Int32) (x2 : Int32) (x3 : Int32) (h : HP) : Option (Int32 × HP) :=
  ob (f_X7_isRow F x1 h) (fun v3 h1 =>
  if v3 = nI 0 then
    some ((-1), h1)
  else
    ob (f_X7_isBell F x2 h1) (fun v7 h5 =>
    if v7 = nI 0 then
      some ((-1), h5)
    else
      if inb ((nI 2) + x1) 66 then
        ob (f_X7_has F (h5 43 (ix ((nI 2) + x1))) x2 h5) (fun v12 h10 =>
        if v12 = x3 then
          some ((-2), h10)
        else
          obv (f_X7_remember F h10) (fun h14 =>
          ob (f_X7_bits F ((up h14 43 (ix ((nI 2) + x1)) ((h14 43 (ix ((nI 2) + x1))) ^^^ (jshl (nI 1) x2))) 43 (ix ((nI 2) + x1))) (up h14 43 (ix ((nI 2) + x1)) ((h14 43 (ix ((nI 2) + x1))) ^^^ (jshl (nI 1) x2)))) (fun v18 h16 =>
          some (v18, h16))))
      else none))
def f_X7_shifted (F : Nat) (x1 : Int32) (x2 : Int32) (h : HP) : Option (Int32 × HP) :=
  if (h 40 1) ≠ (nI 0) then
    if inb ((nI 2) + (jrem ((x1 - x2) + (h 40 1)) (h 40 1))) 66 then
      some (h 43 (ix ((nI 2) + (jrem ((x1 - x2) + (h 40 1)) (h 40 1)))), h)
    else none
  else none
def f_X7_shift_46 (F : Nat) (x1 : Int32) : Nat → Int32 → HP → Option (Int32 × HP)
  | 0, _, _ => none
  | n + 1, x2, h =>
    if (h 40 1) ≤ x2 then
      some (h 43 2, h)
    else
      if inb x2 32 then
        if inb ((nI 2) + x2) 66 then
          f_X7_shift_46 F x1 n (x2 + (nI 1)) (up h 43 (ix ((nI 2) + x2)) (h 51 (ix x2)))
        else none
      else none
def f_X7_shift_16 (F : Nat) (x1 : Int32) : Nat → Int32 → HP → Option (Int32 × HP)
  | 0, _, _ => none
  | n + 1, x2, h =>
    if (h 40 1) ≤ x2 then
      f_X7_shift_46 F x1 F (nI 0) h
    else
      ob (f_X7_shifted F x2 x1 h) (fun v10 h8 =>
      if inb x2 32 then
        f_X7_shift_16 F x1 n (x2 + (nI 1)) (up h8 51 (ix x2) v10)
      else none)
def f_X7_shift (F : Nat) (x1 : Int32) (h : HP) : Option (Int32 × HP) :=
  ob (f_X7_isRow F x1 h) (fun v3 h1 =>
  if v3 = nI 0 then
    some ((-1), h1)
  else
    obv (f_X7_remember F h1) (fun h5 =>
    f_X7_shift_16 F x1 F (nI 0) h5))
def f_X7_undo (F : Nat)  (h : HP) : Option (Int32 × HP) :=
  if (h 39 6) = nI 0 then
    some ((-2), h)
  else
    obv (f_X7_copies F 44 ((nI 66) * ((up h 39 6 ((h 39 6) - (nI 1))) 39 6)) 43 (nI 0) (up h 39 6 ((h 39 6) - (nI 1)))) (fun h2 =>
    some (h2 39 6, h2))
def f_X7_sumOf_4 (F : Nat) (x1 : Int32) : Nat → Int32 → Int32 → HP → Option (Int32 × HP)
  | 0, _, _, _ => none
  | n + 1, x2, x3, h =>
    if (h 40 0) ≤ x3 then
      some (x2, h)
    else
      if inb (x1 + x3) 66 then
        f_X7_sumOf_4 F x1 n (x2 + (h 52 (ix (x1 + x3)))) (x3 + (nI 1)) h
      else none
def f_X7_sumOf (F : Nat) (x1 : Int32) (h : HP) : Option (Int32 × HP) :=
  f_X7_sumOf_4 F x1 F (nI 0) (nI 0) h
def f_X7_go_2 (F : Nat) (x1 : Int32) : Nat → Int32 → HP → Option (HP)
  | 0, _, _ => none
  | n + 1, x2, h =>
    if x1 ≤ x2 then
      some h
    else
      ob (f_X7_comesNext F 52 h) (fun v4 h2 =>
      f_X7_go_2 F x1 n (x2 + (nI 1)) h2)
def f_X7_go (F : Nat) (x1 : Int32) (h : HP) : Option (HP) :=
  f_X7_go_2 F x1 F (nI 0) h
def f_X7_whole (F : Nat) (x1 : Int32) (h : HP) : Option (Int32 × HP) :=
  ob (f_X7_in F x1.toInt64 (lN 0) (lN 2) h) (fun v3 h1 =>
  if v3 = nI 0 then
    some ((-1), h1)
  else
    obv (f_X7_copies F 43 (nI 0) 52 (nI 0) h1) (fun h5 =>
    obv (f_X7_go F (if x1 = (nI 2) then (nI 8) * (h5 40 1) else (nI 0)) h5) (fun h7 =>
    ob (f_X7_sumOf F (if x1 = nI 0 then (nI 50) else (nI 58)) h7) (fun v11 h9 =>
    obv (f_X7_go F (h9 40 1) h9) (fun h12 =>
    ob (f_X7_sumOf F (if x1 = nI 0 then (nI 50) else (nI 58)) h12) (fun v16 h14 =>
    some (v16 - v11, h14)))))))
def f_X7_silence_6 (F : Nat)  : Nat → Int32 → Int32 → Int32 → HP → Option (Int32 × HP)
  | 0, _, _, _, _ => none
  | n + 1, x1, x2, x3, h =>
    if ((nI 2) * (h 40 1)) ≤ x3 then
      if x1 ≤ (h 40 1) then
        some (x1, h)
      else
        some (h 40 1, h)
    else
      if (h 40 1) ≠ (nI 0) then
        if inb ((nI 2) + (jrem x3 (h 40 1))) 66 then
          f_X7_silence_6 F n (if (if (h 43 (ix ((nI 2) + (jrem x3 (h 40 1))))) = nI 0 then x2 + (nI 1) else (nI 0)) ≤ x1 then x1 else (if (h 43 (ix ((nI 2) + (jrem x3 (h 40 1))))) = nI 0 then x2 + (nI 1) else (nI 0))) (if (h 43 (ix ((nI 2) + (jrem x3 (h 40 1))))) = nI 0 then x2 + (nI 1) else (nI 0)) (x3 + (nI 1)) h
        else none
      else none
def f_X7_silence (F : Nat)  (h : HP) : Option (Int32 × HP) :=
  f_X7_silence_6 F F (nI 0) (nI 0) (nI 0) h
def f_X7_comesAgain_4 (F : Nat) (x1 : Int32) : Nat → Int32 → Int32 → HP → Option (Int32 × HP)
  | 0, _, _, _ => none
  | n + 1, x2, x3, h =>
    if (h 40 1) ≤ x3 then
      if x2 = nI 0 ∨ x2 = nI 1 then
        some (x2, h)
      else none
    else
      if x2 = nI 0 then
        f_X7_comesAgain_4 F x1 n (nI 0) (x3 + (nI 1)) h
      else
        if (h 40 1) ≠ (nI 0) then
          ob (f_X7_shifted F x3 (jrem x1 (h 40 1)) h) (fun v7 h5 =>
          if inb ((nI 2) + x3) 66 then
            f_X7_comesAgain_4 F x1 n (if v7 = (h5 43 (ix ((nI 2) + x3))) then (nI 1) else (nI 0)) (x3 + (nI 1)) h5
          else none)
        else none
def f_X7_comesAgain (F : Nat) (x1 : Int32) (h : HP) : Option (Int32 × HP) :=
  f_X7_comesAgain_4 F x1 F (nI 1) (nI 0) h
def f_X7_again_2 (F : Nat)  : Nat → Int32 → HP → Option (Int32 × HP)
  | 0, _, _ => none
  | n + 1, x1, h =>
    ob (f_X7_comesAgain F x1 h) (fun v3 h1 =>
    if v3 = nI 0 then
      f_X7_again_2 F n (x1 + (nI 1)) h1
    else
      some (x1, h1))
def f_X7_again (F : Nat)  (h : HP) : Option (Int32 × HP) :=
  f_X7_again_2 F F (nI 1) h
def f_X7_isIll (F : Nat) (x1 : Int32) (x2 : Int32) (h : HP) : Option (Int32 × HP) :=
  if inb ((nI 3) + x1) 19 then
    if inb ((nI 3) + x2) 19 then
      if (jrem (if nI 0 ≤ ((h 40 (ix ((nI 3) + x1))) - (h 40 (ix ((nI 3) + x2)))) then (h 40 (ix ((nI 3) + x1))) - (h 40 (ix ((nI 3) + x2))) else -((h 40 (ix ((nI 3) + x1))) - (h 40 (ix ((nI 3) + x2))))) (nI 12)) = (nI 1) then
        some ((nI 1), h)
      else
        if (jrem (if nI 0 ≤ ((h 40 (ix ((nI 3) + x1))) - (h 40 (ix ((nI 3) + x2)))) then (h 40 (ix ((nI 3) + x1))) - (h 40 (ix ((nI 3) + x2))) else -((h 40 (ix ((nI 3) + x1))) - (h 40 (ix ((nI 3) + x2))))) (nI 12)) = (nI 2) then
          some ((nI 1), h)
        else
          if (jrem (if nI 0 ≤ ((h 40 (ix ((nI 3) + x1))) - (h 40 (ix ((nI 3) + x2)))) then (h 40 (ix ((nI 3) + x1))) - (h 40 (ix ((nI 3) + x2))) else -((h 40 (ix ((nI 3) + x1))) - (h 40 (ix ((nI 3) + x2))))) (nI 12)) = (nI 6) then
            some ((nI 1), h)
          else
            if (jrem (if nI 0 ≤ ((h 40 (ix ((nI 3) + x1))) - (h 40 (ix ((nI 3) + x2)))) then (h 40 (ix ((nI 3) + x1))) - (h 40 (ix ((nI 3) + x2))) else -((h 40 (ix ((nI 3) + x1))) - (h 40 (ix ((nI 3) + x2))))) (nI 12)) = (nI 10) then
              some ((nI 1), h)
            else
              if (jrem (if nI 0 ≤ ((h 40 (ix ((nI 3) + x1))) - (h 40 (ix ((nI 3) + x2)))) then (h 40 (ix ((nI 3) + x1))) - (h 40 (ix ((nI 3) + x2))) else -((h 40 (ix ((nI 3) + x1))) - (h 40 (ix ((nI 3) + x2))))) (nI 12)) = (nI 11) then
                some ((nI 1), h)
              else
                some ((nI 0), h)
    else none
  else none
def f_X7_illOf_19 (F : Nat) (x1 : Int32) (x2 : Int32) (k_5 : Int32 → Int32 → HP → Option (Int32 × HP)) : Nat → Int32 → Int32 → Int32 → HP → Option (Int32 × HP)
  | 0, _, _, _, _ => none
  | n + 1, x3, x4, x5, h =>
    if (h 40 0) ≤ x5 then
      k_5 x3 (x4 + (nI 1)) h
    else
      ob (f_X7_has F x1 x4 h) (fun v5 h3 =>
      if v5 = nI 0 then
        f_X7_illOf_19 F x1 x2 k_5 n (x3 + (nI 0)) x4 (x5 + (nI 1)) h3
      else
        ob (f_X7_has F x2 x5 h3) (fun v9 h7 =>
        if v9 = nI 0 then
          f_X7_illOf_19 F x1 x2 k_5 n (x3 + (nI 0)) x4 (x5 + (nI 1)) h7
        else
          ob (f_X7_isIll F x4 x5 h7) (fun v13 h11 =>
          f_X7_illOf_19 F x1 x2 k_5 n (x3 + (if v13 = nI 0 then (nI 0) else (nI 1))) x4 (x5 + (nI 1)) h11)))
def f_X7_illOf_5 (F : Nat) (x1 : Int32) (x2 : Int32) : Nat → Int32 → Int32 → HP → Option (Int32 × HP)
  | 0, _, _, _ => none
  | n + 1, x3, x4, h =>
    if (h 40 0) ≤ x4 then
      some (x3, h)
    else
      f_X7_illOf_19 F x1 x2 (f_X7_illOf_5 F x1 x2 n) F x3 x4 (nI 0) h
def f_X7_illOf (F : Nat) (x1 : Int32) (x2 : Int32) (h : HP) : Option (Int32 × HP) :=
  f_X7_illOf_5 F x1 x2 F (nI 0) (nI 0) h
def f_X7_harsh_4 (F : Nat)  : Nat → Int32 → Int32 → HP → Option (Int32 × HP)
  | 0, _, _, _ => none
  | n + 1, x1, x2, h =>
    if (h 40 1) ≤ x2 then
      some (x1, h)
    else
      if inb ((nI 2) + x2) 66 then
        ob (f_X7_illOf F (h 43 (ix ((nI 2) + x2))) (h 43 (ix ((nI 2) + x2))) h) (fun v5 h3 =>
        f_X7_harsh_4 F n (x1 + (v5 / (nI 2))) (x2 + (nI 1)) h3)
      else none
def f_X7_harsh (F : Nat)  (h : HP) : Option (Int32 × HP) :=
  f_X7_harsh_4 F F (nI 0) (nI 0) h
def f_X7_canon_34 (F : Nat) (x1 : Int32) (k_17 : Int32 → Int32 → Int32 → HP → Option (Int32 × HP)) : Nat → Int32 → Int32 → Int32 → Int32 → Int32 → HP → Option (Int32 × HP)
  | 0, _, _, _, _, _, _ => none
  | n + 1, x2, x3, x4, x5, x6, h =>
    if (h 40 1) ≤ x6 then
      k_17 (if x3 ≤ x5 then x2 else x4) (if x3 ≤ x5 then x3 else x5) (x4 + (nI 1)) h
    else
      if inb ((nI 2) + x6) 66 then
        ob (f_X7_shifted F x6 x4 h) (fun v11 h9 =>
        ob (f_X7_illOf F (h 43 (ix ((nI 2) + x6))) v11 h9) (fun v14 h12 =>
        f_X7_canon_34 F x1 k_17 n x2 x3 x4 (x5 + v14) (x6 + (nI 1)) h12))
      else none
def f_X7_canon_17 (F : Nat) (x1 : Int32) : Nat → Int32 → Int32 → Int32 → HP → Option (Int32 × HP)
  | 0, _, _, _, _ => none
  | n + 1, x2, x3, x4, h =>
    if (h 40 1) ≤ x4 then
      if x1 = nI 0 then
        some (x2, h)
      else
        some (x3, h)
    else
      f_X7_canon_34 F x1 (f_X7_canon_17 F x1 n) F x2 x3 x4 (nI 0) (nI 0) h
def f_X7_canon (F : Nat) (x1 : Int32) (h : HP) : Option (Int32 × HP) :=
  ob (f_X7_isTwo F x1 h) (fun v3 h1 =>
  if v3 = nI 0 then
    some ((-1), h1)
  else
    f_X7_canon_17 F x1 F (nI 0) (nI 1000000) (nI 1) h1)
def f_X7_want (F : Nat) (x1 : Int32) (x2 : Int32) (h : HP) : Option (Int32 × HP) :=
  ob (f_X7_isRow F x1 h) (fun v3 h1 =>
  if v3 = nI 0 then
    some ((-1), h1)
  else
    ob (f_X7_isSet F x2 h1) (fun v7 h5 =>
    if v7 = nI 0 then
      some ((-1), h5)
    else
      if inb x1 32 then
        some (h5 47 (ix x1), up h5 47 (ix x1) x2)
      else none))
def f_X7_changes_34 (F : Nat) (x1 : Int32) (k_17 : Int32 → Int32 → Int32 → HP → Option (Int32 × HP)) : Nat → Int32 → Int32 → Int32 → Int32 → Int32 → HP → Option (Int32 × HP)
  | 0, _, _, _, _, _, _ => none
  | n + 1, x2, x3, x4, x5, x6, h =>
    if (h 40 1) ≤ x6 then
      k_17 (if x3 ≤ x5 then x2 else x4) (if x3 ≤ x5 then x3 else x5) (x4 + (nI 1)) h
    else
      ob (f_X7_shifted F x6 x4 h) (fun v10 h8 =>
      if inb x6 32 then
        ob (f_X7_bits F (v10 ^^^ (h8 47 (ix x6))) h8) (fun v14 h12 =>
        f_X7_changes_34 F x1 k_17 n x2 x3 x4 (x5 + v14) (x6 + (nI 1)) h12)
      else none)
def f_X7_changes_17 (F : Nat) (x1 : Int32) : Nat → Int32 → Int32 → Int32 → HP → Option (Int32 × HP)
  | 0, _, _, _, _ => none
  | n + 1, x2, x3, x4, h =>
    if (h 40 1) ≤ x4 then
      if x1 = nI 0 then
        some (x3, h)
      else
        some (x2, h)
    else
      f_X7_changes_34 F x1 (f_X7_changes_17 F x1 n) F x2 x3 x4 (nI 0) (nI 0) h
def f_X7_changes (F : Nat) (x1 : Int32) (h : HP) : Option (Int32 × HP) :=
  ob (f_X7_isTwo F x1 h) (fun v3 h1 =>
  if v3 = nI 0 then
    some ((-1), h1)
  else
    f_X7_changes_17 F x1 F (nI 0) (nI 1000000) (nI 0) h1)
def f_X7_cell (F : Nat) (x0 : Int32) (x1 : Int32) (x2 : Int32) (h : HP) : Option (Int32 × HP) :=
  some (((((nI 33) * x0) + x1) * (nI 33)) + x2, h)
def f_X7_isAgain_8 (F : Nat) (x1 : Int32) (x2 : Int32) (x3 : Int32) : Nat → Int32 → Int32 → HP → Option (Int32 × HP)
  | 0, _, _, _ => none
  | n + 1, x4, x5, h =>
    if x2 ≤ x5 then
      if x4 = nI 0 ∨ x4 = nI 1 then
        some (x4, h)
      else none
    else
      if x4 = nI 0 then
        f_X7_isAgain_8 F x1 x2 x3 n (nI 0) (x5 + (nI 1)) h
      else
        if inb ((nI 2) + x5) 66 then
          if inb (((nI 2) + x5) - x3) 66 then
            f_X7_isAgain_8 F x1 x2 x3 n (if (h 43 (ix ((nI 2) + x5))) = (h 43 (ix (((nI 2) + x5) - x3))) then (nI 1) else (nI 0)) (x5 + (nI 1)) h
          else none
        else none
def f_X7_isAgain (F : Nat) (x1 : Int32) (x2 : Int32) (x3 : Int32) (h : HP) : Option (Int32 × HP) :=
  f_X7_isAgain_8 F x1 x2 x3 F (nI 1) (x1 + x3) h
def f_X7_fewest_106 (F : Nat) (x1 : Int32) (x2 : Int32) (x3 : Int32) : Nat → Int32 → Int32 → Int32 → HP → Option (Int32 × HP)
  | 0, _, _, _, _ => none
  | n + 1, x4, x5, x6, h =>
    if (nI 10) ≤ x6 then
      some (x5, h)
    else
      if x1 ≤ nI 0 then
        some (x5, h)
      else
        if x6 ≠ (nI 0) then
          if (jrem x4 x6) = nI 0 then
            ob (f_X7_isAgain F x2 x3 (x4 / x6) h) (fun v22 h20 =>
            if v22 = nI 0 then
              f_X7_fewest_106 F x1 x2 x3 n x4 x5 (x6 + (nI 1)) h20
            else
              ob (f_X7_cell F (x1 - (nI 1)) x2 (x2 + (x4 / x6)) h20) (fun v26 h24 =>
              if inb v26 4356 then
                f_X7_fewest_106 F x1 x2 x3 n x4 (if x5 ≤ ((nI 3) + (h24 53 (ix v26))) then x5 else (nI 3) + (h24 53 (ix v26))) (x6 + (nI 1)) h24
              else none))
          else
            f_X7_fewest_106 F x1 x2 x3 n x4 x5 (x6 + (nI 1)) h
        else none
def f_X7_fewest_48 (F : Nat) (x1 : Int32) (x2 : Int32) (x3 : Int32) : Nat → Int32 → Int32 → Int32 → HP → Option (Int32 × HP)
  | 0, _, _, _, _ => none
  | n + 1, x4, x5, x6, h =>
    if x3 ≤ x6 then
      f_X7_fewest_106 F x1 x2 x3 F x4 x5 (nI 2) h
    else
      ob (f_X7_cell F x1 x2 x6 h) (fun v10 h8 =>
      if inb v10 4356 then
        ob (f_X7_cell F x1 x6 x3 h8) (fun v14 h12 =>
        if inb v14 4356 then
          f_X7_fewest_48 F x1 x2 x3 n x4 (if x5 ≤ ((h8 53 (ix v10)) + (h12 53 (ix v14))) then x5 else (h8 53 (ix v10)) + (h12 53 (ix v14))) (x6 + (nI 1)) h12
        else none)
      else none)
def f_X7_fewest (F : Nat) (x1 : Int32) (x2 : Int32) (x3 : Int32) (h : HP) : Option (Int32 × HP) :=
  if (x3 - x2) = (nI 1) then
    if inb ((nI 2) + x2) 66 then
      ob (f_X7_bits F (h 43 (ix ((nI 2) + x2))) h) (fun v5 h3 =>
      if (nI 2) ≤ v5 then
        some (v5 + (nI 2), h3)
      else
        some ((nI 1), h3))
    else none
  else
    f_X7_fewest_48 F x1 x2 x3 F (x3 - x2) (nI 1000000) (x2 + (nI 1)) h
def f_X7_letters_21 (F : Nat)  (k_9 : Int32 → Int32 → HP → Option (Int32 × HP)) : Nat → Int32 → Int32 → Int32 → HP → Option (Int32 × HP)
  | 0, _, _, _, _ => none
  | n + 1, x1, x2, x3, h =>
    if (h 40 1) < (x3 + x2) then
      k_9 x1 (x2 + (nI 1)) h
    else
      ob (f_X7_cell F x1 x3 (x3 + x2) h) (fun v10 h8 =>
      ob (f_X7_fewest F x1 x3 (x3 + x2) h8) (fun v13 h11 =>
      if inb v10 4356 then
        f_X7_letters_21 F k_9 n x1 x2 (x3 + (nI 1)) (up h11 53 (ix v10) v13)
      else none))
def f_X7_letters_9 (F : Nat)  (k_2 : Int32 → HP → Option (Int32 × HP)) : Nat → Int32 → Int32 → HP → Option (Int32 × HP)
  | 0, _, _, _ => none
  | n + 1, x1, x2, h =>
    if (h 40 1) < x2 then
      k_2 (x1 + (nI 1)) h
    else
      f_X7_letters_21 F (f_X7_letters_9 F k_2 n) F x1 x2 (nI 0) h
def f_X7_letters_2 (F : Nat)  : Nat → Int32 → HP → Option (Int32 × HP)
  | 0, _, _ => none
  | n + 1, x1, h =>
    if (nI 4) ≤ x1 then
      ob (f_X7_cell F (nI 3) (nI 0) (h 40 1) h) (fun v4 h2 =>
      if inb v4 4356 then
        some (h2 53 (ix v4), h2)
      else none)
    else
      f_X7_letters_9 F (f_X7_letters_2 F n) F x1 (nI 1) h
def f_X7_letters (F : Nat)  (h : HP) : Option (Int32 × HP) :=
  f_X7_letters_2 F F (nI 0) h
def f_X7_areOne_4 (F : Nat) (x1 : Int32) : Nat → Int32 → Int32 → HP → Option (Int32 × HP)
  | 0, _, _, _ => none
  | n + 1, x2, x3, h =>
    if (h 40 1) ≤ x3 then
      if x2 = nI 0 ∨ x2 = nI 1 then
        some (x2, h)
      else none
    else
      if x2 = nI 0 then
        f_X7_areOne_4 F x1 n (nI 0) (x3 + (nI 1)) h
      else
        if inb ((nI 2) + x3) 66 then
          ob (f_X7_bits F (x1 &&& (h 43 (ix ((nI 2) + x3)))) h) (fun v7 h5 =>
          f_X7_areOne_4 F x1 n (if (nI 2) ≤ v7 then (nI 0) else (nI 1)) (x3 + (nI 1)) h5)
        else none
def f_X7_areOne (F : Nat) (x1 : Int32) (h : HP) : Option (Int32 × HP) :=
  f_X7_areOne_4 F x1 F (nI 1) (nI 0) h
def f_X7_ringers_78 (F : Nat)  (k_39 : Int32 → Int32 → Int32 → HP → Option (Int32 × HP)) (x1 : Int32) (x2 : Int32) (x3 : Int32) (s0 : Int32) (h : HP) : Option (Int32 × HP) :=
  if inb x2 256 then
    k_39 x1 x2 ((x3 - (nI 1)) &&& x2) (up h 54 (ix x2) (if (h 54 (ix x2)) ≤ s0 then h 54 (ix x2) else s0))
  else none
def f_X7_ringers_72 (F : Nat)  (k_39 : Int32 → Int32 → Int32 → HP → Option (Int32 × HP)) (x1 : Int32) (x2 : Int32) (x3 : Int32) (s0 : Int32) (s1 : Int32) (h : HP) : Option (Int32 × HP) :=
  f_X7_ringers_78 F k_39 x1 x2 x3 (s0 + s1) h
def f_X7_ringers_39 (F : Nat)  (k_13 : Int32 → Int32 → HP → Option (Int32 × HP)) : Nat → Int32 → Int32 → Int32 → HP → Option (Int32 × HP)
  | 0, _, _, _, _ => none
  | n + 1, x1, x2, x3, h =>
    if x3 ≤ nI 0 then
      k_13 x1 (x2 + (nI 1)) h
    else
      if inb x3 256 then
        if (h 55 (ix x3)) = nI 0 then
          f_X7_ringers_78 F (f_X7_ringers_39 F k_13 n) x1 x2 x3 (nI 1000000) h
        else
          if x3 = x2 then
            f_X7_ringers_72 F (f_X7_ringers_39 F k_13 n) x1 x2 x3 (nI 1) (nI 0) h
          else
            if inb (x2 &&& (x3 ^^^ (-1))) 256 then
              f_X7_ringers_72 F (f_X7_ringers_39 F k_13 n) x1 x2 x3 (nI 1) (h 54 (ix (x2 &&& (x3 ^^^ (-1))))) h
            else none
      else none
def f_X7_ringers_13 (F : Nat)  : Nat → Int32 → Int32 → HP → Option (Int32 × HP)
  | 0, _, _, _ => none
  | n + 1, x1, x2, h =>
    if x1 < x2 then
      if inb x1 256 then
        some (h 54 (ix x1), h)
      else none
    else
      ob (f_X7_areOne F x2 h) (fun v5 h3 =>
      if inb x2 256 then
        if v5 = nI 0 ∨ v5 = nI 1 then
          f_X7_ringers_39 F (f_X7_ringers_13 F n) F x1 x2 x2 (up (up h3 55 (ix x2) v5) 54 (ix x2) (nI 1000000))
        else none
      else none)
def f_X7_ringers (F : Nat)  (h : HP) : Option (Int32 × HP) :=
  f_X7_ringers_13 F F ((jshl (nI 1) (h 40 0)) - (nI 1)) (nI 1) h
def f_X7_hear (F : Nat) (x1 : Int32) (h : HP) : Option (Int32 × HP) :=
  ob (f_X7_isSet F x1 h) (fun v3 h1 =>
  if v3 = nI 0 then
    some ((-1), h1)
  else
    if (h1 39 13) = (nI 8) then
      some ((-3), h1)
    else
      if inb (h1 39 13) 8 then
        some ((up (up h1 48 (ix (h1 39 13)) x1) 39 13 (((up h1 48 (ix (h1 39 13)) x1) 39 13) + (nI 1))) 39 13, up (up h1 48 (ix (h1 39 13)) x1) 39 13 (((up h1 48 (ix (h1 39 13)) x1) 39 13) + (nI 1)))
      else none)
def f_X7_forget (F : Nat)  (h : HP) : Option (Int32 × HP) :=
  some (h 39 13, up h 39 13 (nI 0))
def f_X7_stood_19 (F : Nat)  (k_4 : Int32 → Int32 → HP → Option (Int32 × HP)) : Nat → Int32 → Int32 → Int32 → Int32 → HP → Option (Int32 × HP)
  | 0, _, _, _, _, _ => none
  | n + 1, x1, x2, x3, x4, h =>
    if (h 39 13) ≤ x4 then
      k_4 (x1 ||| (if x3 = nI 0 then (nI 0) else jshl (nI 1) x2)) (x2 + (nI 1)) h
    else
      if x3 = nI 0 then
        f_X7_stood_19 F k_4 n x1 x2 (nI 0) (x4 + (nI 1)) h
      else
        if (h 40 1) ≠ (nI 0) then
          if inb ((nI 2) + (jrem (x2 + x4) (h 40 1))) 66 then
            if inb x4 8 then
              f_X7_stood_19 F k_4 n x1 x2 (if (h 43 (ix ((nI 2) + (jrem (x2 + x4) (h 40 1))))) = (h 48 (ix x4)) then (nI 1) else (nI 0)) (x4 + (nI 1)) h
            else none
          else none
        else none
def f_X7_stood_4 (F : Nat)  : Nat → Int32 → Int32 → HP → Option (Int32 × HP)
  | 0, _, _, _ => none
  | n + 1, x1, x2, h =>
    if (h 40 1) ≤ x2 then
      some (x1, h)
    else
      f_X7_stood_19 F (f_X7_stood_4 F n) F x1 x2 (nI 1) (nI 0) h
def f_X7_stood (F : Nat)  (h : HP) : Option (Int32 × HP) :=
  f_X7_stood_4 F F (nI 0) (nI 0) h
def f_X7_octaves_15 (F : Nat)  (k_4 : Int32 → Int32 → HP → Option (Int32 × HP)) : Nat → Int32 → Int32 → Int32 → Int32 → HP → Option (Int32 × HP)
  | 0, _, _, _, _, _ => none
  | n + 1, x1, x2, x3, x4, h =>
    if (h 40 0) ≤ x4 then
      k_4 (x1 + (if x3 ≤ (nI 1) then (nI 0) else (nI 1))) (x2 + (nI 1)) h
    else
      if inb ((nI 3) + x4) 19 then
        f_X7_octaves_15 F k_4 n x1 x2 (x3 + (if (jrem (h 40 (ix ((nI 3) + x4))) (nI 12)) = x2 then (nI 1) else (nI 0))) (x4 + (nI 1)) h
      else none
def f_X7_octaves_4 (F : Nat)  : Nat → Int32 → Int32 → HP → Option (Int32 × HP)
  | 0, _, _, _ => none
  | n + 1, x1, x2, h =>
    if (nI 12) ≤ x2 then
      some (x1, h)
    else
      f_X7_octaves_15 F (f_X7_octaves_4 F n) F x1 x2 (nI 0) (nI 0) h
def f_X7_octaves (F : Nat)  (h : HP) : Option (Int32 × HP) :=
  f_X7_octaves_4 F F (nI 0) (nI 0) h
def f_X7_melody_44 (F : Nat) (x1 : Int32) (k_27 : Int32 → Int32 → Int32 → Int32 → Int32 → HP → Option (Int32 × HP)) : Nat → Int32 → Int32 → Int32 → Int32 → Int32 → Int32 → Int32 → HP → Option (Int32 × HP)
  | 0, _, _, _, _, _, _, _, _ => none
  | n + 1, x2, x3, x4, x5, x6, x7, x8, h =>
    if (h 40 0) ≤ x8 then
      if x7 < nI 0 then
        k_27 x2 x3 x4 x5 (x6 + (nI 1)) h
      else
        k_27 (x2 + (if (if nI 0 ≤ x5 then x7 - x5 else (nI 0)) ≤ nI 0 then (nI 0) else (nI 1))) (x3 + (if nI 0 ≤ (if nI 0 ≤ x5 then x7 - x5 else (nI 0)) then (nI 0) else (nI 1))) (if (if nI 0 ≤ (if nI 0 ≤ x5 then x7 - x5 else (nI 0)) then (if nI 0 ≤ x5 then x7 - x5 else (nI 0)) else -(if nI 0 ≤ x5 then x7 - x5 else (nI 0))) ≤ x4 then x4 else (if nI 0 ≤ (if nI 0 ≤ x5 then x7 - x5 else (nI 0)) then (if nI 0 ≤ x5 then x7 - x5 else (nI 0)) else -(if nI 0 ≤ x5 then x7 - x5 else (nI 0)))) x7 (x6 + (nI 1)) h
    else
      if inb ((nI 2) + x6) 66 then
        ob (f_X7_has F (h 43 (ix ((nI 2) + x6))) x8 h) (fun v13 h11 =>
        if v13 = nI 0 then
          f_X7_melody_44 F x1 k_27 n x2 x3 x4 x5 x6 x7 (x8 + (nI 1)) h11
        else
          if inb ((nI 3) + x8) 19 then
            f_X7_melody_44 F x1 k_27 n x2 x3 x4 x5 x6 (if (h11 40 (ix ((nI 3) + x8))) ≤ x7 then x7 else h11 40 (ix ((nI 3) + x8))) (x8 + (nI 1)) h11
          else none)
      else none
def f_X7_melody_27 (F : Nat) (x1 : Int32) : Nat → Int32 → Int32 → Int32 → Int32 → Int32 → HP → Option (Int32 × HP)
  | 0, _, _, _, _, _, _ => none
  | n + 1, x2, x3, x4, x5, x6, h =>
    if (h 40 1) ≤ x6 then
      if x1 = nI 0 then
        some (x2, h)
      else
        if x1 = (nI 1) then
          some (x3, h)
        else
          some (x4, h)
    else
      f_X7_melody_44 F x1 (f_X7_melody_27 F x1 n) F x2 x3 x4 x5 x6 (-1) (nI 0) h
def f_X7_melody (F : Nat) (x1 : Int32) (h : HP) : Option (Int32 × HP) :=
  ob (f_X7_in F x1.toInt64 (lN 0) (lN 2) h) (fun v3 h1 =>
  if v3 = nI 0 then
    some ((-1), h1)
  else
    f_X7_melody_27 F x1 F (nI 0) (nI 0) (nI 0) (-1) (nI 0) h1)
def f_X7_winter_135 (F : Nat) (x1 : Int32) (x2 : Int32) (x3 : Int32) : Nat → Int32 → Int32 → Int32 → HP → Option (Int32 × HP)
  | 0, _, _, _, _ => none
  | n + 1, x4, x5, x6, h =>
    if (h 40 1) ≤ x6 then
      if x3 = nI 0 then
        some (x4, h)
      else
        some (x5, h)
    else
      if inb ((nI 2) + x6) 66 then
        ob (f_X7_bits F (h 52 (ix ((nI 2) + x6))) h) (fun v23 h21 =>
        f_X7_winter_135 F x1 x2 x3 n (x4 + v23) (x5 + (if (h21 52 (ix ((nI 2) + x6))) = nI 0 then (nI 1) else (nI 0))) (x6 + (nI 1)) h21)
      else none
def f_X7_winter_49 (F : Nat) (x1 : Int32) (x2 : Int32) (x3 : Int32) : Nat → Int32 → HP → Option (Int32 × HP)
  | 0, _, _ => none
  | n + 1, x4, h =>
    if x2 ≤ x4 then
      f_X7_winter_135 F x1 x2 x3 F (nI 0) (nI 0) (nI 0) h
    else
      if (h 40 1) ≠ (nI 0) then
        if inb ((nI 2) + (jrem (((jlrem (((((lN 7919) * x1.toInt64) + ((lN 6151) * x4.toInt64)) + (lN 1)) * ((((lN 7919) * x1.toInt64) + ((lN 6151) * x4.toInt64)) + (lN 1))) (lN 65521)).toInt32) / (nI 8)) (h 40 1))) 66 then
          f_X7_winter_49 F x1 x2 x3 n (x4 + (nI 1)) (up h 52 (ix ((nI 2) + (jrem (((jlrem (((((lN 7919) * x1.toInt64) + ((lN 6151) * x4.toInt64)) + (lN 1)) * ((((lN 7919) * x1.toInt64) + ((lN 6151) * x4.toInt64)) + (lN 1))) (lN 65521)).toInt32) / (nI 8)) (h 40 1)))) ((h 52 (ix ((nI 2) + (jrem (((jlrem (((((lN 7919) * x1.toInt64) + ((lN 6151) * x4.toInt64)) + (lN 1)) * ((((lN 7919) * x1.toInt64) + ((lN 6151) * x4.toInt64)) + (lN 1))) (lN 65521)).toInt32) / (nI 8)) (h 40 1))))) &&& ((h 52 (ix ((nI 2) + (jrem (((jlrem (((((lN 7919) * x1.toInt64) + ((lN 6151) * x4.toInt64)) + (lN 1)) * ((((lN 7919) * x1.toInt64) + ((lN 6151) * x4.toInt64)) + (lN 1))) (lN 65521)).toInt32) / (nI 8)) (h 40 1))))) - (nI 1))))
        else none
      else none
def f_X7_winter (F : Nat) (x1 : Int32) (x2 : Int32) (x3 : Int32) (h : HP) : Option (Int32 × HP) :=
  ob (f_X7_in F x1.toInt64 (lN 0) (lN 9999) h) (fun v3 h1 =>
  if v3 = nI 0 then
    some ((-1), h1)
  else
    ob (f_X7_in F x2.toInt64 (lN 1) (lN 60) h1) (fun v7 h5 =>
    if v7 = nI 0 then
      some ((-1), h5)
    else
      ob (f_X7_isTwo F x3 h5) (fun v11 h9 =>
      if v11 = nI 0 then
        some ((-1), h9)
      else
        obv (f_X7_copies F 43 (nI 0) 52 (nI 0) h9) (fun h13 =>
        f_X7_winter_49 F x1 x2 x3 F (nI 0) h13))))
def f_X7_keep (F : Nat)  (h : HP) : Option (Int32 × HP) :=
  if (h 39 8) = (nI 2) then
    some ((-3), h)
  else
    obv (f_X7_copies F 43 (nI 0) 45 ((nI 66) * (h 39 8)) h) (fun h2 =>
    some ((up h2 39 8 ((h2 39 8) + (nI 1))) 39 8, up h2 39 8 ((h2 39 8) + (nI 1))))
def f_X7_back (F : Nat)  (h : HP) : Option (Int32 × HP) :=
  if (h 39 8) = nI 0 then
    some ((-2), h)
  else
    obv (f_X7_copies F 45 ((nI 66) * ((up h 39 8 ((h 39 8) - (nI 1))) 39 8)) 43 (nI 0) (up h 39 8 ((h 39 8) - (nI 1)))) (fun h2 =>
    some ((up h2 39 6 (nI 0)) 39 8, up h2 39 6 (nI 0)))
def f_X7_count_4 (F : Nat) (x1 : Int32) : Nat → Int32 → Int32 → HP → Option (Int32 × HP)
  | 0, _, _, _ => none
  | n + 1, x2, x3, h =>
    if (h 40 1) ≤ x3 then
      if x1 = nI 0 then
        if inb x1 19 then
          some (h 40 (ix x1), h)
        else none
      else if x1 = nI 1 then
        if inb x1 19 then
          some (h 40 (ix x1), h)
        else none
      else if x1 = nI 2 then
        if inb x1 19 then
          some (h 40 (ix x1), h)
        else none
      else if x1 = nI 3 then
        some (x2, h)
      else if x1 = nI 4 then
        some (h 43 1, h)
      else if x1 = nI 5 then
        some (h 43 0, h)
      else if x1 = nI 6 then
        some (h 39 13, h)
      else if x1 = nI 7 then
        some (h 39 6, h)
      else if x1 = nI 8 then
        some (h 39 8, h)
      else if x1 = nI 9 then
        some (h 39 10, h)
      else 
        some ((-1), h)
    else
      if inb ((nI 2) + x3) 66 then
        ob (f_X7_bits F (h 43 (ix ((nI 2) + x3))) h) (fun v18 h16 =>
        f_X7_count_4 F x1 n (x2 + v18) (x3 + (nI 1)) h16)
      else none
def f_X7_count (F : Nat) (x1 : Int32) (h : HP) : Option (Int32 × HP) :=
  f_X7_count_4 F x1 F (nI 0) (nI 0) h
