/-! the methods as functions: written by gen/emit.py -/
set_option maxRecDepth 100000 in
def R_parting_80 (k49 : Int32 → Int32 → Int32 → Int32 → Int32 → Mem → Option (Int32 × Mem)) (x1 : Int32) (x2 : Int32) (x3 : Int32) (x4 : Int32) (x5 : Int32) (m : Mem) : Option (Int32 × Mem) :=
  vb (x5 + 1 : Int32) fun v1 =>
  k49 x1 x2 x3 x4 v1 m
set_option maxRecDepth 100000 in
def R_parting_160 (k119 : Int32 → Int32 → Int32 → Int32 → Int32 → Int32 → Mem → Option (Int32 × Mem)) (k130 : Int32 → Int32 → Int32 → Int32 → Int32 → Int32 → Int32 → Mem → Option (Int32 × Mem)) (x2 : Int32) (x3 : Int32) (x4 : Int32) (x5 : Int32) (x6 : Int32) (x8 : Int32) (x9 : Int32) (m : Mem) : Option (Int32 × Mem) :=
  vb (x9 + 1 : Int32) fun v1 =>
  k130 x2 x3 x4 x5 x6 x8 v1 m
set_option maxRecDepth 100000 in
def R_parting_221 (k119 : Int32 → Int32 → Int32 → Int32 → Int32 → Int32 → Mem → Option (Int32 × Mem)) (k182 : Int32 → Int32 → Int32 → Int32 → Int32 → Int32 → Int32 → Int32 → Mem → Option (Int32 × Mem)) (x2 : Int32) (x3 : Int32) (x4 : Int32) (x5 : Int32) (x6 : Int32) (x8 : Int32) (x10 : Int32) (s0 : Int32) (m : Mem) : Option (Int32 × Mem) :=
  vb (x10 + 1 : Int32) fun v1 =>
  k182 x2 x3 x4 x5 x6 x8 s0 v1 m
set_option maxRecDepth 100000 in
def R_parting_319 (k119 : Int32 → Int32 → Int32 → Int32 → Int32 → Int32 → Mem → Option (Int32 × Mem)) (x2 : Int32) (x3 : Int32) (x4 : Int32) (x5 : Int32) (x6 : Int32) (m : Mem) : Option (Int32 × Mem) :=
  bn (R_nextParting x4 m) fun r1 m2 =>
  k119 x2 x3 x4 x5 x6 r1 m2
set_option maxRecDepth 100000 in
def R_parting_273 (k119 : Int32 → Int32 → Int32 → Int32 → Int32 → Int32 → Mem → Option (Int32 × Mem)) : Nat → Int32 → Int32 → Int32 → Int32 → Int32 → Int32 → Mem → Option (Int32 × Mem)
  | 0, _, _, _, _, _, _, _ => none
  | n + 1, x2, x3, x4, x5, x6, x10, m =>
  if x4 ≤ x10 then (
    R_parting_319 k119 x2 x3 x4 x5 x6 m)
  else (
    gd (inb x10 7) <|
    gd (inb x10 7) <|
    vb (wI m 80 (ix x10) (aI m 78 (ix x10))) fun m6 =>
    gd (inb x10 7) <|
    gd (inb (aI m6 78 (ix x10)) 7) <|
    gd (inb x10 7) <|
    vb (wI m6 81 (ix x10) (aI m6 79 (ix (aI m6 78 (ix x10))))) fun m12 =>
    vb (x10 + 1 : Int32) fun v13 =>
    R_parting_273 k119 n x2 x3 x4 x5 x6 v13 m12)
set_option maxRecDepth 100000 in
def R_parting_262 (k119 : Int32 → Int32 → Int32 → Int32 → Int32 → Int32 → Mem → Option (Int32 × Mem)) (x2 : Int32) (x3 : Int32) (x4 : Int32) (x8 : Int32) (x9 : Int32) (m : Mem) : Option (Int32 × Mem) :=
  R_parting_273 k119 FU x2 x3 x4 x9 x8 0 m
set_option maxRecDepth 100000 in
def R_parting_229 (k119 : Int32 → Int32 → Int32 → Int32 → Int32 → Int32 → Mem → Option (Int32 × Mem)) (x2 : Int32) (x3 : Int32) (x4 : Int32) (x5 : Int32) (x6 : Int32) (x8 : Int32) (x9 : Int32) (m : Mem) : Option (Int32 × Mem) :=
  if x9 = (-1) then (
    R_parting_319 k119 x2 x3 x4 x5 x6 m)
  else (
    if x5 = (-1) then (
      R_parting_262 k119 x2 x3 x4 x8 x9 m)
    else (
      if x9 < x5 then (
        R_parting_262 k119 x2 x3 x4 x8 x9 m)
      else (
        if x9 = x5 then (
          if x6 ≤ x8 then (
            R_parting_319 k119 x2 x3 x4 x5 x6 m)
          else (
            R_parting_262 k119 x2 x3 x4 x8 x9 m))
        else (
          R_parting_319 k119 x2 x3 x4 x5 x6 m))))
set_option maxRecDepth 100000 in
def R_parting_182 (k119 : Int32 → Int32 → Int32 → Int32 → Int32 → Int32 → Mem → Option (Int32 × Mem)) : Nat → Int32 → Int32 → Int32 → Int32 → Int32 → Int32 → Int32 → Int32 → Mem → Option (Int32 × Mem)
  | 0, _, _, _, _, _, _, _, _, _ => none
  | n + 1, x2, x3, x4, x5, x6, x8, x9, x10, m =>
  if x8 ≤ x10 then (
    R_parting_229 k119 x2 x3 x4 x5 x6 x8 x9 m)
  else (
    if x9 = (-1) then (
      R_parting_229 k119 x2 x3 x4 x5 x6 x8 x9 m)
    else (
      bn (R_changes x10 x4 x3 m) fun r3 m4 =>
      if r3 = (-1) then (
        R_parting_221 k119 (fun z0 z1 z2 z3 z4 z5 z6 z7 z8 => R_parting_182 k119 n z0 z1 z2 z3 z4 z5 z6 z7 z8) x2 x3 x4 x5 x6 x8 x10 (-1) m4)
      else (
        R_parting_221 k119 (fun z0 z1 z2 z3 z4 z5 z6 z7 z8 => R_parting_182 k119 n z0 z1 z2 z3 z4 z5 z6 z7 z8) x2 x3 x4 x5 x6 x8 x10 (x9 + r3) m4)))
set_option maxRecDepth 100000 in
def R_parting_177 (k119 : Int32 → Int32 → Int32 → Int32 → Int32 → Int32 → Mem → Option (Int32 × Mem)) (x2 : Int32) (x3 : Int32) (x4 : Int32) (x5 : Int32) (x6 : Int32) (x8 : Int32) (s0 : Int32) (m : Mem) : Option (Int32 × Mem) :=
  R_parting_182 k119 FU x2 x3 x4 x5 x6 x8 s0 0 m
set_option maxRecDepth 100000 in
def R_parting_166 (k119 : Int32 → Int32 → Int32 → Int32 → Int32 → Int32 → Mem → Option (Int32 × Mem)) (x2 : Int32) (x3 : Int32) (x4 : Int32) (x5 : Int32) (x6 : Int32) (x8 : Int32) (m : Mem) : Option (Int32 × Mem) :=
  if x8 ≤ x2 then (
    R_parting_177 k119 x2 x3 x4 x5 x6 x8 0 m)
  else (
    R_parting_177 k119 x2 x3 x4 x5 x6 x8 (-1) m)
set_option maxRecDepth 100000 in
def R_parting_130 (k119 : Int32 → Int32 → Int32 → Int32 → Int32 → Int32 → Mem → Option (Int32 × Mem)) : Nat → Int32 → Int32 → Int32 → Int32 → Int32 → Int32 → Int32 → Mem → Option (Int32 × Mem)
  | 0, _, _, _, _, _, _, _, _ => none
  | n + 1, x2, x3, x4, x5, x6, x8, x9, m =>
  if x4 ≤ x9 then (
    R_parting_166 k119 x2 x3 x4 x5 x6 x8 m)
  else (
    gd (inb x9 7) <|
    if (aI m 78 (ix x9)) < x8 then (
      R_parting_160 k119 (fun z0 z1 z2 z3 z4 z5 z6 z7 => R_parting_130 k119 n z0 z1 z2 z3 z4 z5 z6 z7) x2 x3 x4 x5 x6 x8 x9 m)
    else (
      gd (inb x9 7) <|
      vb ((aI m 78 (ix x9)) + 1 : Int32) fun v5 =>
      R_parting_160 k119 (fun z0 z1 z2 z3 z4 z5 z6 z7 => R_parting_130 k119 n z0 z1 z2 z3 z4 z5 z6 z7) x2 x3 x4 x5 x6 v5 x9 m))
set_option maxRecDepth 100000 in
def R_parting_417 (x5 : Int32) (m : Mem) : Option (Int32 × Mem) :=
  vb (sI m 1651 0 1) fun m2 =>
  some (x5, m2)
set_option maxRecDepth 100000 in
def R_parting_366 : Nat → Int32 → Int32 → Int32 → Mem → Option (Int32 × Mem)
  | 0, _, _, _, _ => none
  | n + 1, x4, x5, x8, m =>
  if x4 ≤ x8 then (
    R_parting_417 x5 m)
  else (
    gd (inb x8 7) <|
    gd (inb x8 7) <|
    gd (inb (aI m 77 (ix x8)) 16) <|
    vb (wI m 75 (ix (aI m 77 (ix x8))) (aI m 80 (ix x8))) fun m7 =>
    gd (inb x8 7) <|
    gd (inb x8 7) <|
    gd (inb (aI m7 77 (ix x8)) 16) <|
    vb (wI m7 76 (ix (aI m7 77 (ix x8))) (aI m7 81 (ix x8))) fun m13 =>
    vb (x8 + 1 : Int32) fun v14 =>
    R_parting_366 n x4 x5 v14 m13)
set_option maxRecDepth 100000 in
def R_parting_363 (x4 : Int32) (x5 : Int32) (m : Mem) : Option (Int32 × Mem) :=
  R_parting_366 FU x4 x5 0 m
set_option maxRecDepth 100000 in
def R_parting_342 : Nat → Int32 → Int32 → Int32 → Mem → Option (Int32 × Mem)
  | 0, _, _, _, _ => none
  | n + 1, x4, x5, x8, m =>
  if 16 ≤ x8 then (
    R_parting_363 x4 x5 m)
  else (
    gd (inb x8 16) <|
    vb (wI m 75 (ix x8) (-1)) fun m5 =>
    vb (x8 + 1 : Int32) fun v6 =>
    R_parting_342 n x4 x5 v6 m5)
set_option maxRecDepth 100000 in
def R_parting_330 (x4 : Int32) (x5 : Int32) (m : Mem) : Option (Int32 × Mem) :=
  if x5 = (-1) then (
    some ((-2), m))
  else (
    R_parting_342 FU x4 x5 0 m)
set_option maxRecDepth 100000 in
def R_parting_119 : Nat → Int32 → Int32 → Int32 → Int32 → Int32 → Int32 → Mem → Option (Int32 × Mem)
  | 0, _, _, _, _, _, _, _ => none
  | n + 1, x2, x3, x4, x5, x6, x7, m =>
  if x7 = 0 then (
    R_parting_330 x4 x5 m)
  else (
    R_parting_130 (fun z0 z1 z2 z3 z4 z5 z6 => R_parting_119 n z0 z1 z2 z3 z4 z5 z6) FU x2 x3 x4 x5 x6 0 0 m)
set_option maxRecDepth 100000 in
def R_parting_116 (x2 : Int32) (x3 : Int32) (x4 : Int32) (x5 : Int32) (x6 : Int32) (m : Mem) : Option (Int32 × Mem) :=
  R_parting_119 FU x2 x3 x4 x5 x6 1 m
set_option maxRecDepth 100000 in
def R_parting_95 : Nat → Int32 → Int32 → Int32 → Int32 → Int32 → Int32 → Mem → Option (Int32 × Mem)
  | 0, _, _, _, _, _, _, _ => none
  | n + 1, x2, x3, x4, x5, x6, x7, m =>
  if x4 ≤ x7 then (
    R_parting_116 x2 x3 x4 x5 x6 m)
  else (
    gd (inb x7 7) <|
    vb (wI m 78 (ix x7) 0) fun m5 =>
    vb (x7 + 1 : Int32) fun v6 =>
    R_parting_95 n x2 x3 x4 x5 x6 v6 m5)
set_option maxRecDepth 100000 in
def R_parting_86 (x2 : Int32) (x3 : Int32) (x4 : Int32) (m : Mem) : Option (Int32 × Mem) :=
  R_parting_95 FU x2 x3 x4 (-1) 0 0 m
set_option maxRecDepth 100000 in
def R_parting_49 : Nat → Int32 → Int32 → Int32 → Int32 → Int32 → Mem → Option (Int32 × Mem)
  | 0, _, _, _, _, _, _ => none
  | n + 1, x1, x2, x3, x4, x5, m =>
  if 16 ≤ x5 then (
    R_parting_86 x2 x3 x4 m)
  else (
    if ((x1 >>> (x5 &&& 31)) &&& 1) = 0 then (
      R_parting_80 (fun z0 z1 z2 z3 z4 z5 => R_parting_49 n z0 z1 z2 z3 z4 z5) x1 x2 x3 x4 x5 m)
    else (
      gd (inb x4 7) <|
      vb (wI m 77 (ix x4) x5) fun m6 =>
      vb (x4 + 1 : Int32) fun v7 =>
      R_parting_80 (fun z0 z1 z2 z3 z4 z5 => R_parting_49 n z0 z1 z2 z3 z4 z5) x1 x2 x3 v7 x5 m6))
set_option maxRecDepth 100000 in
def R_parting (x1 : Int32) (x2 : Int32) (x3 : Int32) (m : Mem) : Option (Int32 × Mem) :=
  bp (R_in x1 1 65535) fun r1 =>
  if r1 = 0 then (
    some ((-1), m))
  else (
    bp (R_bits x1) fun r3 =>
    if 7 < r3 then (
      some ((-1), m))
    else (
      bp (R_in x2 1 7) fun r5 =>
      if r5 = 0 then (
        some ((-1), m))
      else (
        bp (R_in x3 0 999) fun r7 =>
        if r7 = 0 then (
          some ((-1), m))
        else (
          R_parting_49 FU x1 x2 x3 0 0 m))))
set_option maxRecDepth 100000 in
def R_part (x1 : Int32) (x2 : Int32) (m : Mem) : Option (Int32 × Mem) :=
  if (mI m 1651 0) = 0 then (
    some ((-1), m))
  else (
    bp (R_in x1 0 15) fun r2 =>
    if r2 = 0 then (
      some ((-1), m))
    else (
      gd (inb x1 16) <|
      if (aI m 75 (ix x1)) = (-1) then (
        some ((-1), m))
      else (
        bp (R_in x2 0 1) fun r6 =>
        if r6 = 0 then (
          some ((-1), m))
        else (
          if x2 = 0 then (
            gd (inb x1 16) <|
            some (aI m 75 (ix x1), m))
          else (
            gd (inb x1 16) <|
            some (aI m 76 (ix x1), m))))))
set_option maxRecDepth 100000 in
def R_count (x1 : Int32) (m : Mem) : Option (Int32 × Mem) :=
  if x1 = 0 then (
    some (mI m 1591 0, m))
  else   if x1 = 1 then (
    some (mI m 1592 0, m))
  else   if x1 = 2 then (
    some (mI m 1595 0, m))
  else   if x1 = 3 then (
    some (mI m 1601 0, m))
  else   if x1 = 4 then (
    some (mI m 1554 0, m))
  else   if x1 = 5 then (
    some (mI m 1584 0, m))
  else   if x1 = 6 then (
    some (mI m 1538 0, m))
  else (
    some ((-1), m))
