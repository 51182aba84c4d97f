/-! the methods as functions: written by gen/emit.py -/
set_option maxRecDepth 100000 in
def R_halves_211 (k31 : Int32 → Int32 → Int32 → Int32 → Int32 → Int32 → Mem → Option (Int32 × Mem)) (k54 : Int32 → Int32 → Int32 → Int32 → Int32 → Int32 → Int32 → Mem → Option (Int32 × Mem)) (x1 : Int32) (x2 : Int32) (x3 : Int32) (x4 : Int32) (x5 : Int32) (x6 : Int32) (x7 : Int32) (m : Mem) : Option (Int32 × Mem) :=
  vb (x7 + 1 : Int32) fun v1 =>
  k54 x1 x2 x3 x4 x5 x6 v1 m
set_option maxRecDepth 100000 in
def R_halves_201 (k31 : Int32 → Int32 → Int32 → Int32 → Int32 → Int32 → Mem → Option (Int32 × Mem)) (k54 : Int32 → Int32 → Int32 → Int32 → Int32 → Int32 → Int32 → Mem → Option (Int32 × Mem)) (x1 : Int32) (x2 : Int32) (x3 : Int32) (x4 : Int32) (x5 : Int32) (x6 : Int32) (x7 : Int32) (s0 : Int32) (m : Mem) : Option (Int32 × Mem) :=
  if s0 = 0 then (
    R_halves_211 k31 k54 x1 x2 x3 x4 x5 x6 x7 m)
  else (
    vb (x5 + 1 : Int32) fun v2 =>
    R_halves_211 k31 k54 x1 x2 x3 x4 v2 x6 x7 m)
set_option maxRecDepth 100000 in
def R_halves_135 (k31 : Int32 → Int32 → Int32 → Int32 → Int32 → Int32 → Mem → Option (Int32 × Mem)) (k54 : Int32 → Int32 → Int32 → Int32 → Int32 → Int32 → Int32 → Mem → Option (Int32 × Mem)) (x1 : Int32) (x2 : Int32) (x3 : Int32) (x4 : Int32) (x5 : Int32) (x6 : Int32) (x7 : Int32) (m : Mem) : Option (Int32 × Mem) :=
  R_halves_201 k31 k54 x1 x2 x3 x4 x5 x6 x7 0 m
set_option maxRecDepth 100000 in
def R_halves_200 (k31 : Int32 → Int32 → Int32 → Int32 → Int32 → Int32 → Mem → Option (Int32 × Mem)) (k54 : Int32 → Int32 → Int32 → Int32 → Int32 → Int32 → Int32 → Mem → Option (Int32 × Mem)) (x1 : Int32) (x2 : Int32) (x3 : Int32) (x4 : Int32) (x5 : Int32) (x6 : Int32) (x7 : Int32) (m : Mem) : Option (Int32 × Mem) :=
  R_halves_201 k31 k54 x1 x2 x3 x4 x5 x6 x7 0 m
set_option maxRecDepth 100000 in
def R_halves_217 (k31 : Int32 → Int32 → Int32 → Int32 → Int32 → Int32 → Mem → Option (Int32 × Mem)) (x1 : Int32) (x2 : Int32) (x3 : Int32) (x4 : Int32) (x5 : Int32) (x6 : Int32) (m : Mem) : Option (Int32 × Mem) :=
  vb (x6 + 1 : Int32) fun v1 =>
  k31 x1 x2 x3 x4 x5 v1 m
set_option maxRecDepth 100000 in
def R_halves_54 (k31 : Int32 → Int32 → Int32 → Int32 → Int32 → Int32 → Mem → Option (Int32 × Mem)) : Nat → Int32 → Int32 → Int32 → Int32 → Int32 → Int32 → Int32 → Mem → Option (Int32 × Mem)
  | 0, _, _, _, _, _, _, _, _ => none
  | n + 1, x1, x2, x3, x4, x5, x6, x7, m =>
  if 48 ≤ x7 then (
    R_halves_217 k31 x1 x2 x3 x4 x5 x6 m)
  else (
    gd (inb x7 48) <|
    bp (R_isTask (aI m 60 (ix x7))) fun r3 =>
    if x4 = 0 then (
      R_halves_201 k31 (fun z0 z1 z2 z3 z4 z5 z6 z7 => R_halves_54 k31 n z0 z1 z2 z3 z4 z5 z6 z7) x1 x2 x3 x4 x5 x6 x7 r3 m)
    else (
      if x4 = 1 then (
        gd (inb x7 48) <|
        if (aI m 60 (ix x7)) = (-2) then (
          R_halves_201 k31 (fun z0 z1 z2 z3 z4 z5 z6 z7 => R_halves_54 k31 n z0 z1 z2 z3 z4 z5 z6 z7) x1 x2 x3 x4 x5 x6 x7 1 m)
        else (
          R_halves_201 k31 (fun z0 z1 z2 z3 z4 z5 z6 z7 => R_halves_54 k31 n z0 z1 z2 z3 z4 z5 z6 z7) x1 x2 x3 x4 x5 x6 x7 0 m))
      else (
        if x4 = 2 then (
          if r3 = 0 then (
            R_halves_135 k31 (fun z0 z1 z2 z3 z4 z5 z6 z7 => R_halves_54 k31 n z0 z1 z2 z3 z4 z5 z6 z7) x1 x2 x3 x4 x5 x6 x7 m)
          else (
            gd (inb x7 48) <|
            if (aI m 62 (ix x7)) = (-1) then (
              R_halves_201 k31 (fun z0 z1 z2 z3 z4 z5 z6 z7 => R_halves_54 k31 n z0 z1 z2 z3 z4 z5 z6 z7) x1 x2 x3 x4 x5 x6 x7 1 m)
            else (
              R_halves_135 k31 (fun z0 z1 z2 z3 z4 z5 z6 z7 => R_halves_54 k31 n z0 z1 z2 z3 z4 z5 z6 z7) x1 x2 x3 x4 x5 x6 x7 m)))
        else (
          if x4 = 3 then (
            gd (inb x7 48) <|
            if (aI m 62 (ix x7)) = (-2) then (
              R_halves_201 k31 (fun z0 z1 z2 z3 z4 z5 z6 z7 => R_halves_54 k31 n z0 z1 z2 z3 z4 z5 z6 z7) x1 x2 x3 x4 x5 x6 x7 1 m)
            else (
              R_halves_201 k31 (fun z0 z1 z2 z3 z4 z5 z6 z7 => R_halves_54 k31 n z0 z1 z2 z3 z4 z5 z6 z7) x1 x2 x3 x4 x5 x6 x7 0 m))
          else (
            gd (inb x7 48) <|
            if (aI m 62 (ix x7)) < 0 then (
              R_halves_200 k31 (fun z0 z1 z2 z3 z4 z5 z6 z7 => R_halves_54 k31 n z0 z1 z2 z3 z4 z5 z6 z7) x1 x2 x3 x4 x5 x6 x7 m)
            else (
              gd (inb x7 48) <|
              if (aI m 63 (ix x7)) = (-1) then (
                bn (R_payerOf x7 m) fun r19 m20 =>
                if r19 = (-1) then (
                  R_halves_201 k31 (fun z0 z1 z2 z3 z4 z5 z6 z7 => R_halves_54 k31 n z0 z1 z2 z3 z4 z5 z6 z7) x1 x2 x3 x4 x5 x6 x7 1 m20)
                else (
                  R_halves_200 k31 (fun z0 z1 z2 z3 z4 z5 z6 z7 => R_halves_54 k31 n z0 z1 z2 z3 z4 z5 z6 z7) x1 x2 x3 x4 x5 x6 x7 m20))
              else (
                R_halves_200 k31 (fun z0 z1 z2 z3 z4 z5 z6 z7 => R_halves_54 k31 n z0 z1 z2 z3 z4 z5 z6 z7) x1 x2 x3 x4 x5 x6 x7 m)))))))
set_option maxRecDepth 100000 in
def R_halves_31 : Nat → Int32 → Int32 → Int32 → Int32 → Int32 → Int32 → Mem → Option (Int32 × Mem)
  | 0, _, _, _, _, _, _, _ => none
  | n + 1, x1, x2, x3, x4, x5, x6, m =>
  if ((7 * x2) + 7) ≤ x6 then (
    some (x5, m))
  else (
    bn (R_looks x1 x6 x3 m) fun _ m3 =>
    R_halves_54 (fun z0 z1 z2 z3 z4 z5 z6 => R_halves_31 n z0 z1 z2 z3 z4 z5 z6) FU x1 x2 x3 x4 x5 x6 0 m3)
set_option maxRecDepth 100000 in
def R_halves (x1 : Int32) (x2 : Int32) (x3 : Int32) (x4 : Int32) (m : Mem) : Option (Int32 × Mem) :=
  bn (R_isWeek x1 x2 x3 m) fun r1 m2 =>
  if r1 = 0 then (
    some ((-1), m2))
  else (
    bp (R_in x4 0 4) fun r6 =>
    if r6 = 0 then (
      some ((-1), m2))
    else (
      vb (7 * x2 : Int32) fun v8 =>
      R_halves_31 FU x1 x2 x3 x4 0 v8 m2))
set_option maxRecDepth 100000 in
def R_owedOf_65 (k12 : Int32 → Int32 → Int32 → Int64 → Int32 → Mem → Option (Int64 × Mem)) (x1 : Int32) (x2 : Int32) (x3 : Int32) (x4 : Int64) (x6 : Int32) (m : Mem) : Option (Int64 × Mem) :=
  vb (x6 + 1 : Int32) fun v1 =>
  k12 x1 x2 x3 x4 v1 m
set_option maxRecDepth 100000 in
def R_owedOf_12 : Nat → Int32 → Int32 → Int32 → Int64 → Int32 → Mem → Option (Int64 × Mem)
  | 0, _, _, _, _, _, _ => none
  | n + 1, x1, x2, x3, x4, x6, m =>
  if x3 ≤ x6 then (
    some (x4, m))
  else (
    gd (inb x6 160) <|
    if (aI m 44 (ix x6)) = 9 then (
      gd (inb x6 160) <|
      if (aI m 45 (ix x6)) = x1 then (
        gd (inb x6 160) <|
        if (aI m 46 (ix x6)) = x2 then (
          gd (inb x6 160) <|
          vb (x4 - (Int32.toInt64 (aI m 48 (ix x6))) : Int64) fun v9 =>
          R_owedOf_65 (fun z0 z1 z2 z3 z4 z5 => R_owedOf_12 n z0 z1 z2 z3 z4 z5) x1 x2 x3 v9 x6 m)
        else (
          R_owedOf_65 (fun z0 z1 z2 z3 z4 z5 => R_owedOf_12 n z0 z1 z2 z3 z4 z5) x1 x2 x3 x4 x6 m))
      else (
        R_owedOf_65 (fun z0 z1 z2 z3 z4 z5 => R_owedOf_12 n z0 z1 z2 z3 z4 z5) x1 x2 x3 x4 x6 m))
    else (
      R_owedOf_65 (fun z0 z1 z2 z3 z4 z5 => R_owedOf_12 n z0 z1 z2 z3 z4 z5) x1 x2 x3 x4 x6 m))
set_option maxRecDepth 100000 in
def R_owedOf (x1 : Int32) (x2 : Int32) (x3 : Int32) (m : Mem) : Option (Int64 × Mem) :=
  bn (R_payOf x1 x2 x3 m) fun r1 m2 =>
  R_owedOf_12 FU x1 x2 x3 r1 0 m2
set_option maxRecDepth 100000 in
def R_owed (x1 : Int32) (x2 : Int32) (x3 : Int32) (m : Mem) : Option (Int32 × Mem) :=
  bn (R_isWeek x1 x2 x3 m) fun r1 m2 =>
  if r1 = 0 then (
    some (0, m2))
  else (
    bn (R_owedOf x1 x2 x3 m2) fun r6 m7 =>
    some (Int64.toInt32 r6, m7))
set_option maxRecDepth 100000 in
def R_shorted_21 (m : Mem) : Option (Int64 × Mem) :=
  some ((-1), m)
set_option maxRecDepth 100000 in
def R_shorted_67 (k31 : Int32 → Int32 → Int32 → Int32 → Int64 → Int32 → Mem → Option (Int64 × Mem)) (x1 : Int32) (x3 : Int32) (x4 : Int32) (x5 : Int32) (x6 : Int64) (x8 : Int32) (m : Mem) : Option (Int64 × Mem) :=
  vb (x8 + 1 : Int32) fun v1 =>
  k31 x1 x3 x4 x5 x6 v1 m
set_option maxRecDepth 100000 in
def R_shorted_60 (k31 : Int32 → Int32 → Int32 → Int32 → Int64 → Int32 → Mem → Option (Int64 × Mem)) (x1 : Int32) (x3 : Int32) (x4 : Int32) (x5 : Int32) (x6 : Int64) (x8 : Int32) (x9 : Int64) (m : Mem) : Option (Int64 × Mem) :=
  vb (x6 + x9 : Int64) fun v1 =>
  R_shorted_67 k31 x1 x3 x4 x5 v1 x8 m
set_option maxRecDepth 100000 in
def R_shorted_73 (x6 : Int64) (m : Mem) : Option (Int64 × Mem) :=
  if 0 ≤ (lg_cmp x6 0) then (
    some (x6, m))
  else (
    some (0, m))
set_option maxRecDepth 100000 in
def R_shorted_31 : Nat → Int32 → Int32 → Int32 → Int32 → Int64 → Int32 → Mem → Option (Int64 × Mem)
  | 0, _, _, _, _, _, _, _ => none
  | n + 1, x1, x3, x4, x5, x6, x8, m =>
  if x3 < x8 then (
    R_shorted_73 x6 m)
  else (
    bn (R_owedOf x1 x8 x5 m) fun r2 m3 =>
    if 0 < (lg_cmp r2 0) then (
      R_shorted_60 (fun z0 z1 z2 z3 z4 z5 z6 => R_shorted_31 n z0 z1 z2 z3 z4 z5 z6) x1 x3 x4 x5 x6 x8 r2 m3)
    else (
      if x4 = 0 then (
        R_shorted_67 (fun z0 z1 z2 z3 z4 z5 z6 => R_shorted_31 n z0 z1 z2 z3 z4 z5 z6) x1 x3 x4 x5 x6 x8 m3)
      else (
        R_shorted_60 (fun z0 z1 z2 z3 z4 z5 z6 => R_shorted_31 n z0 z1 z2 z3 z4 z5 z6) x1 x3 x4 x5 x6 x8 r2 m3)))
set_option maxRecDepth 100000 in
def R_shorted (x1 : Int32) (x2 : Int32) (x3 : Int32) (x4 : Int32) (x5 : Int32) (m : Mem) : Option (Int64 × Mem) :=
  bn (R_isWeek x1 x2 x5 m) fun r1 m2 =>
  if r1 = 0 then (
    R_shorted_21 m2)
  else (
    bp (R_in x3 x2 19) fun r6 =>
    if r6 = 0 then (
      R_shorted_21 m2)
    else (
      R_shorted_31 FU x1 x3 x4 x5 0 x2 m2))
set_option maxRecDepth 100000 in
def R_tried_97 (m : Mem) : Option (Int64 × Mem) :=
  some ((-1), m)
set_option maxRecDepth 100000 in
def R_tried_168 (k132 : Int32 → Int32 → Int32 → Int32 → Int64 → Int32 → Mem → Option (Int64 × Mem)) (k145 : Int32 → Int32 → Int32 → Int32 → Int64 → Int32 → Int32 → Mem → Option (Int64 × Mem)) (x1 : Int32) (x5 : Int32) (x6 : Int32) (x7 : Int32) (x8 : Int64) (x10 : Int32) (x11 : Int32) (m : Mem) : Option (Int64 × Mem) :=
  bn (R_payOf x10 x11 x7 m) fun r1 m2 =>
  vb (x8 + r1 : Int64) fun v5 =>
  vb (x11 + 1 : Int32) fun v6 =>
  k145 x1 x5 x6 x7 v5 x10 v6 m2
set_option maxRecDepth 100000 in
def R_tried_189 (k132 : Int32 → Int32 → Int32 → Int32 → Int64 → Int32 → Mem → Option (Int64 × Mem)) (x1 : Int32) (x5 : Int32) (x6 : Int32) (x7 : Int32) (x8 : Int64) (x10 : Int32) (m : Mem) : Option (Int64 × Mem) :=
  vb (x10 + 1 : Int32) fun v1 =>
  k132 x1 x5 x6 x7 x8 v1 m
set_option maxRecDepth 100000 in
def R_tried_145 (k132 : Int32 → Int32 → Int32 → Int32 → Int64 → Int32 → Mem → Option (Int64 × Mem)) : Nat → Int32 → Int32 → Int32 → Int32 → Int64 → Int32 → Int32 → Mem → Option (Int64 × Mem)
  | 0, _, _, _, _, _, _, _, _ => none
  | n + 1, x1, x5, x6, x7, x8, x10, x11, m =>
  if x6 < x11 then (
    R_tried_189 k132 x1 x5 x6 x7 x8 x10 m)
  else (
    if x1 = (-1) then (
      R_tried_168 k132 (fun z0 z1 z2 z3 z4 z5 z6 z7 => R_tried_145 k132 n z0 z1 z2 z3 z4 z5 z6 z7) x1 x5 x6 x7 x8 x10 x11 m)
    else (
      gd (inb x10 10) <|
      if (aI m 39 (ix x10)) = x1 then (
        R_tried_168 k132 (fun z0 z1 z2 z3 z4 z5 z6 z7 => R_tried_145 k132 n z0 z1 z2 z3 z4 z5 z6 z7) x1 x5 x6 x7 x8 x10 x11 m)
      else (
        R_tried_189 k132 x1 x5 x6 x7 x8 x10 m)))
set_option maxRecDepth 100000 in
def R_tried_195 (x8 : Int64) (m : Mem) : Option (Int64 × Mem) :=
  vb (sI m 1622 0 (-1)) fun m2 =>
  bn (R_changed m2) fun _ m4 =>
  some (x8, m4)
set_option maxRecDepth 100000 in
def R_tried_132 : Nat → Int32 → Int32 → Int32 → Int32 → Int64 → Int32 → Mem → Option (Int64 × Mem)
  | 0, _, _, _, _, _, _, _ => none
  | n + 1, x1, x5, x6, x7, x8, x10, m =>
  if (mI m 1595 0) ≤ x10 then (
    R_tried_195 x8 m)
  else (
    R_tried_145 (fun z0 z1 z2 z3 z4 z5 z6 => R_tried_132 n z0 z1 z2 z3 z4 z5 z6) FU x1 x5 x6 x7 x8 x10 x5 m)
set_option maxRecDepth 100000 in
def R_tried_13 (x1 : Int32) (x2 : Int32) (x3 : Int32) (x4 : Int32) (x5 : Int32) (x6 : Int32) (x7 : Int32) (m : Mem) : Option (Int64 × Mem) :=
  bn (R_textAt x2 m) fun r1 m2 =>
  if r1 = (-1) then (
    R_tried_97 m2)
  else (
    gd (inb x2 160) <|
    if (aI m2 44 (ix x2)) = 0 then (
      if x7 ≤ x2 then (
        R_tried_97 m2)
      else (
        bp (R_in x3 0 ((mI m2 1584 0) - 1)) fun r9 =>
        if r9 = 0 then (
          R_tried_97 m2)
        else (
          bp (R_in x4 (-9999) 9999) fun r11 =>
          if r11 = 0 then (
            R_tried_97 m2)
          else (
            bp (R_in x5 0 19) fun r13 =>
            if r13 = 0 then (
              R_tried_97 m2)
            else (
              bp (R_in x6 x5 19) fun r15 =>
              if r15 = 0 then (
                R_tried_97 m2)
              else (
                bn (R_isKnown x7 m2) fun r17 m18 =>
                if r17 = 0 then (
                  R_tried_97 m18)
                else (
                  gd (inb x2 160) <|
                  vb (sI m18 1622 0 (aI m18 45 (ix x2))) fun m24 =>
                  vb (sI m24 1623 0 x3) fun m26 =>
                  vb (sI m26 1624 0 x4) fun m28 =>
                  bn (R_changed m28) fun _ m30 =>
                  R_tried_132 FU x1 x5 x6 x7 0 0 m30)))))))
    else (
      R_tried_97 m2))
set_option maxRecDepth 100000 in
def R_tried (x1 : Int32) (x2 : Int32) (x3 : Int32) (x4 : Int32) (x5 : Int32) (x6 : Int32) (x7 : Int32) (m : Mem) : Option (Int64 × Mem) :=
  if x1 = (-1) then (
    R_tried_13 x1 x2 x3 x4 x5 x6 x7 m)
  else (
    bn (R_isFirm x1 m) fun r2 m3 =>
    if r2 = 0 then (
      R_tried_97 m3)
    else (
      R_tried_13 x1 x2 x3 x4 x5 x6 x7 m3))
set_option maxRecDepth 100000 in
def R_turned_58 (x3 : Int32) (x4 : Int32) (m : Mem) : Option (Int32 × Mem) :=
  some ((20 * x3) + x4, m)
set_option maxRecDepth 100000 in
def R_turned_72 (k20 : Int32 → Int32 → Int32 → Mem → Option (Int32 × Mem)) (x1 : Int32) (x2 : Int32) (x3 : Int32) (m : Mem) : Option (Int32 × Mem) :=
  vb (x3 + 1 : Int32) fun v1 =>
  k20 x1 x2 v1 m
set_option maxRecDepth 100000 in
def R_turned_31 (k20 : Int32 → Int32 → Int32 → Mem → Option (Int32 × Mem)) : Nat → Int32 → Int32 → Int32 → Int32 → Mem → Option (Int32 × Mem)
  | 0, _, _, _, _, _ => none
  | n + 1, x1, x2, x3, x4, m =>
  if 20 ≤ x4 then (
    R_turned_72 k20 x1 x2 x3 m)
  else (
    bn (R_payOf x3 x4 x1 m) fun r2 m3 =>
    bn (R_payOf x3 x4 x2 m3) fun r6 m7 =>
    if (lg_cmp r2 r6) = 0 then (
      vb (x4 + 1 : Int32) fun v11 =>
      R_turned_31 k20 n x1 x2 x3 v11 m7)
    else (
      R_turned_58 x3 x4 m7))
set_option maxRecDepth 100000 in
def R_turned_20 : Nat → Int32 → Int32 → Int32 → Mem → Option (Int32 × Mem)
  | 0, _, _, _, _ => none
  | n + 1, x1, x2, x3, m =>
  if (mI m 1595 0) ≤ x3 then (
    some ((-1), m))
  else (
    R_turned_31 (fun z0 z1 z2 z3 => R_turned_20 n z0 z1 z2 z3) FU x1 x2 x3 0 m)
set_option maxRecDepth 100000 in
def R_turned (x1 : Int32) (x2 : Int32) (m : Mem) : Option (Int32 × Mem) :=
  bn (R_isKnown x1 m) fun r1 m2 =>
  if r1 = 0 then (
    some ((-1), m2))
  else (
    bn (R_isKnown x2 m2) fun r6 m7 =>
    if r6 = 0 then (
      some ((-1), m7))
    else (
      R_turned_20 FU x1 x2 0 m7))
set_option maxRecDepth 100000 in
def R_value (x1 : Int32) (x2 : Int32) (m : Mem) : Option (Int32 × Mem) :=
  bp (R_in x1 0 15) fun r1 =>
  if r1 = 0 then (
    some (0, m))
  else (
    bp (R_in x2 0 999) fun r3 =>
    if r3 = 0 then (
      some (0, m))
    else (
      gd (inb x1 16) <|
      vb (wI m 73 (ix x1) x2) fun m8 =>
      some (1, m8)))
set_option maxRecDepth 100000 in
def R_apart (x1 : Int32) (x2 : Int32) (x3 : Int32) (m : Mem) : Option (Int32 × Mem) :=
  bp (R_in x1 0 15) fun r1 =>
  if r1 = 0 then (
    some (0, m))
  else (
    bp (R_in x2 0 15) fun r3 =>
    if r3 = 0 then (
      some (0, m))
    else (
      if x1 = x2 then (
        some (0, m))
      else (
        gd (inb ((16 * x1) + x2) 256) <|
        gz x3 <|
        vb (wI m 74 (ix ((16 * x1) + x2)) x3) fun m10 =>
        gd (inb ((16 * x2) + x1) 256) <|
        gz x3 <|
        vb (wI m10 74 (ix ((16 * x2) + x1)) x3) fun m15 =>
        some (1, m15))))
set_option maxRecDepth 100000 in
def R_changes_136 (k14 : Int32 → Int32 → Int32 → Int32 → Int32 → Int32 → Int32 → Mem → Option (Int32 × Mem)) (x1 : Int32) (x2 : Int32) (x3 : Int32) (x4 : Int32) (x5 : Int32) (x6 : Int32) (x7 : Int32) (m : Mem) : Option (Int32 × Mem) :=
  vb (x7 + 1 : Int32) fun v1 =>
  k14 x1 x2 x3 x4 x5 x6 v1 m
set_option maxRecDepth 100000 in
def R_changes_130 (k14 : Int32 → Int32 → Int32 → Int32 → Int32 → Int32 → Int32 → Mem → Option (Int32 × Mem)) (k84 : Int32 → Int32 → Int32 → Int32 → Int32 → Int32 → Int32 → Int32 → Mem → Option (Int32 × Mem)) (x1 : Int32) (x2 : Int32) (x3 : Int32) (x4 : Int32) (x5 : Int32) (x6 : Int32) (x7 : Int32) (x9 : Int32) (m : Mem) : Option (Int32 × Mem) :=
  vb (x9 + 1 : Int32) fun v1 =>
  k84 x1 x2 x3 x4 x5 x6 x7 v1 m
set_option maxRecDepth 100000 in
def R_changes_84 (k14 : Int32 → Int32 → Int32 → Int32 → Int32 → Int32 → Int32 → Mem → Option (Int32 × Mem)) : Nat → Int32 → Int32 → Int32 → Int32 → Int32 → Int32 → Int32 → Int32 → Mem → Option (Int32 × Mem)
  | 0, _, _, _, _, _, _, _, _, _ => none
  | n + 1, x1, x2, x3, x4, x5, x6, x7, x9, m =>
  if x7 ≤ x9 then (
    R_changes_136 k14 x1 x2 x3 x4 x5 x6 x7 m)
  else (
    gd (inb x9 7) <|
    if (aI m 78 (ix x9)) = x1 then (
      gd (inb x9 7) <|
      gd (inb x7 7) <|
      gd (inb ((16 * (aI m 77 (ix x9))) + (aI m 77 (ix x7))) 256) <|
      if (aI m 74 (ix ((16 * (aI m 77 (ix x9))) + (aI m 77 (ix x7))))) = 0 then (
        R_changes_130 k14 (fun z0 z1 z2 z3 z4 z5 z6 z7 z8 => R_changes_84 k14 n z0 z1 z2 z3 z4 z5 z6 z7 z8) x1 x2 x3 x4 x5 x6 x7 x9 m)
      else (
        some ((-1), m)))
    else (
      R_changes_130 k14 (fun z0 z1 z2 z3 z4 z5 z6 z7 z8 => R_changes_84 k14 n z0 z1 z2 z3 z4 z5 z6 z7 z8) x1 x2 x3 x4 x5 x6 x7 x9 m))
set_option maxRecDepth 100000 in
def R_changes_81 (k14 : Int32 → Int32 → Int32 → Int32 → Int32 → Int32 → Int32 → Mem → Option (Int32 × Mem)) (x1 : Int32) (x2 : Int32) (x3 : Int32) (x4 : Int32) (x5 : Int32) (x6 : Int32) (x7 : Int32) (m : Mem) : Option (Int32 × Mem) :=
  R_changes_84 k14 FU x1 x2 x3 x4 x5 x6 x7 0 m
set_option maxRecDepth 100000 in
def R_changes_66 (k14 : Int32 → Int32 → Int32 → Int32 → Int32 → Int32 → Int32 → Mem → Option (Int32 × Mem)) (x1 : Int32) (x2 : Int32) (x3 : Int32) (x4 : Int32) (x5 : Int32) (x6 : Int32) (x7 : Int32) (x8 : Int32) (m : Mem) : Option (Int32 × Mem) :=
  if x5 ≤ (x8 + x3) then (
    R_changes_81 k14 x1 x2 x3 x4 x5 x6 x7 m)
  else (
    vb (x8 + x3 : Int32) fun v2 =>
    R_changes_81 k14 x1 x2 x3 x4 v2 x6 x7 m)
set_option maxRecDepth 100000 in
def R_changes_300 (k165 : Int32 → Int32 → Int32 → Int32 → Int32 → Int32 → Int32 → Mem → Option (Int32 × Mem)) (x1 : Int32) (x2 : Int32) (x4 : Int32) (x5 : Int32) (x6 : Int32) (x7 : Int32) (x8 : Int32) (m : Mem) : Option (Int32 × Mem) :=
  vb (x8 + 1 : Int32) fun v1 =>
  k165 x1 x2 x4 x5 x6 x7 v1 m
set_option maxRecDepth 100000 in
def R_changes_254 (k165 : Int32 → Int32 → Int32 → Int32 → Int32 → Int32 → Int32 → Mem → Option (Int32 × Mem)) (k217 : Int32 → Int32 → Int32 → Int32 → Int32 → Int32 → Int32 → Int32 → Int32 → Int32 → Mem → Option (Int32 × Mem)) (x1 : Int32) (x2 : Int32) (x4 : Int32) (x5 : Int32) (x6 : Int32) (x7 : Int32) (x8 : Int32) (x9 : Int32) (x10 : Int32) (x11 : Int32) (m : Mem) : Option (Int32 × Mem) :=
  vb (x11 + 1 : Int32) fun v1 =>
  k217 x1 x2 x4 x5 x6 x7 x8 x9 x10 v1 m
set_option maxRecDepth 100000 in
def R_changes_288 (k165 : Int32 → Int32 → Int32 → Int32 → Int32 → Int32 → Int32 → Mem → Option (Int32 × Mem)) (x1 : Int32) (x2 : Int32) (x4 : Int32) (x5 : Int32) (x6 : Int32) (x8 : Int32) (x9 : Int32) (x10 : Int32) (m : Mem) : Option (Int32 × Mem) :=
  gd (inb x1 7) <|
  vb (wI m 79 (ix x1) x9) fun m4 =>
  R_changes_300 k165 x1 x2 x4 x5 x6 x10 x8 m4
set_option maxRecDepth 100000 in
def R_changes_260 (k165 : Int32 → Int32 → Int32 → Int32 → Int32 → Int32 → Int32 → Mem → Option (Int32 × Mem)) (x1 : Int32) (x2 : Int32) (x4 : Int32) (x5 : Int32) (x6 : Int32) (x7 : Int32) (x8 : Int32) (x9 : Int32) (x10 : Int32) (m : Mem) : Option (Int32 × Mem) :=
  if x10 < x7 then (
    R_changes_300 k165 x1 x2 x4 x5 x6 x7 x8 m)
  else (
    if x10 = x7 then (
      gd (inb x1 7) <|
      if x9 < (aI m 79 (ix x1)) then (
        R_changes_288 k165 x1 x2 x4 x5 x6 x8 x9 x10 m)
      else (
        R_changes_300 k165 x1 x2 x4 x5 x6 x7 x8 m))
    else (
      R_changes_288 k165 x1 x2 x4 x5 x6 x8 x9 x10 m))
set_option maxRecDepth 100000 in
def R_changes_217 (k165 : Int32 → Int32 → Int32 → Int32 → Int32 → Int32 → Int32 → Mem → Option (Int32 × Mem)) : Nat → Int32 → Int32 → Int32 → Int32 → Int32 → Int32 → Int32 → Int32 → Int32 → Int32 → Mem → Option (Int32 × Mem)
  | 0, _, _, _, _, _, _, _, _, _, _, _ => none
  | n + 1, x1, x2, x4, x5, x6, x7, x8, x9, x10, x11, m =>
  if x2 ≤ x11 then (
    R_changes_260 k165 x1 x2 x4 x5 x6 x7 x8 x9 x10 m)
  else (
    gd (inb x11 7) <|
    if (aI m 78 (ix x11)) = x1 then (
      gd (inb x11 7) <|
      gd (inb (aI m 77 (ix x11)) 16) <|
      if (aI m 73 (ix (aI m 77 (ix x11)))) = x9 then (
        vb (x10 + 1 : Int32) fun v7 =>
        R_changes_254 k165 (fun z0 z1 z2 z3 z4 z5 z6 z7 z8 z9 z10 => R_changes_217 k165 n z0 z1 z2 z3 z4 z5 z6 z7 z8 z9 z10) x1 x2 x4 x5 x6 x7 x8 x9 v7 x11 m)
      else (
        R_changes_254 k165 (fun z0 z1 z2 z3 z4 z5 z6 z7 z8 z9 z10 => R_changes_217 k165 n z0 z1 z2 z3 z4 z5 z6 z7 z8 z9 z10) x1 x2 x4 x5 x6 x7 x8 x9 x10 x11 m))
    else (
      R_changes_254 k165 (fun z0 z1 z2 z3 z4 z5 z6 z7 z8 z9 z10 => R_changes_217 k165 n z0 z1 z2 z3 z4 z5 z6 z7 z8 z9 z10) x1 x2 x4 x5 x6 x7 x8 x9 x10 x11 m))
set_option maxRecDepth 100000 in
def R_changes_306 (x6 : Int32) (x7 : Int32) (m : Mem) : Option (Int32 × Mem) :=
  some (x6 - x7, m)
set_option maxRecDepth 100000 in
def R_changes_165 : Nat → Int32 → Int32 → Int32 → Int32 → Int32 → Int32 → Int32 → Mem → Option (Int32 × Mem)
  | 0, _, _, _, _, _, _, _, _ => none
  | n + 1, x1, x2, x4, x5, x6, x7, x8, m =>
  if x2 ≤ x8 then (
    R_changes_306 x6 x7 m)
  else (
    gd (inb x8 7) <|
    gd (inb (aI m 77 (ix x8)) 16) <|
    vb (aI m 73 (ix (aI m 77 (ix x8))) : Int32) fun v4 =>
    gd (inb x8 7) <|
    if (aI m 78 (ix x8)) = x1 then (
      bp (R_in v4 x4 x5) fun r7 =>
      if r7 = 0 then (
        R_changes_300 (fun z0 z1 z2 z3 z4 z5 z6 z7 => R_changes_165 n z0 z1 z2 z3 z4 z5 z6 z7) x1 x2 x4 x5 x6 x7 x8 m)
      else (
        R_changes_217 (fun z0 z1 z2 z3 z4 z5 z6 z7 => R_changes_165 n z0 z1 z2 z3 z4 z5 z6 z7) FU x1 x2 x4 x5 x6 x7 x8 v4 0 0 m))
    else (
      R_changes_300 (fun z0 z1 z2 z3 z4 z5 z6 z7 => R_changes_165 n z0 z1 z2 z3 z4 z5 z6 z7) x1 x2 x4 x5 x6 x7 x8 m))
set_option maxRecDepth 100000 in
def R_changes_142 (x1 : Int32) (x2 : Int32) (x4 : Int32) (x5 : Int32) (x6 : Int32) (m : Mem) : Option (Int32 × Mem) :=
  if x4 ≤ x5 then (
    gd (inb x1 7) <|
    vb (wI m 79 (ix x1) x4) fun m5 =>
    R_changes_165 FU x1 x2 x4 x5 x6 0 0 m5)
  else (
    some ((-1), m))
set_option maxRecDepth 100000 in
def R_changes_14 : Nat → Int32 → Int32 → Int32 → Int32 → Int32 → Int32 → Int32 → Mem → Option (Int32 × Mem)
  | 0, _, _, _, _, _, _, _, _ => none
  | n + 1, x1, x2, x3, x4, x5, x6, x7, m =>
  if x2 ≤ x7 then (
    R_changes_142 x1 x2 x4 x5 x6 m)
  else (
    gd (inb x7 7) <|
    if (aI m 78 (ix x7)) = x1 then (
      gd (inb x7 7) <|
      gd (inb (aI m 77 (ix x7)) 16) <|
      vb (aI m 73 (ix (aI m 77 (ix x7))) : Int32) fun v6 =>
      vb (x6 + 1 : Int32) fun v7 =>
      if (v6 - x3) ≤ x4 then (
        R_changes_66 (fun z0 z1 z2 z3 z4 z5 z6 z7 => R_changes_14 n z0 z1 z2 z3 z4 z5 z6 z7) x1 x2 x3 x4 x5 v7 x7 v6 m)
      else (
        vb (v6 - x3 : Int32) fun v9 =>
        R_changes_66 (fun z0 z1 z2 z3 z4 z5 z6 z7 => R_changes_14 n z0 z1 z2 z3 z4 z5 z6 z7) x1 x2 x3 v9 x5 v7 x7 v6 m))
    else (
      R_changes_136 (fun z0 z1 z2 z3 z4 z5 z6 z7 => R_changes_14 n z0 z1 z2 z3 z4 z5 z6 z7) x1 x2 x3 x4 x5 x6 x7 m))
set_option maxRecDepth 100000 in
def R_changes (x1 : Int32) (x2 : Int32) (x3 : Int32) (m : Mem) : Option (Int32 × Mem) :=
  R_changes_14 FU x1 x2 x3 0 9999 0 0 m
set_option maxRecDepth 100000 in
def R_nextParting_40 (k4 : Int32 → Int32 → Mem → Option (Int32 × Mem)) (k13 : Int32 → Int32 → Int32 → Int32 → Mem → Option (Int32 × Mem)) (x1 : Int32) (x2 : Int32) (x3 : Int32) (x4 : Int32) (m : Mem) : Option (Int32 × Mem) :=
  vb (x4 + 1 : Int32) fun v1 =>
  k13 x1 x2 x3 v1 m
set_option maxRecDepth 100000 in
def R_nextParting_71 : Nat → Int32 → Int32 → Mem → Option (Int32 × Mem)
  | 0, _, _, _ => none
  | n + 1, x1, x4, m =>
  if x1 ≤ x4 then (
    some (1, m))
  else (
    gd (inb x4 7) <|
    vb (wI m 78 (ix x4) 0) fun m5 =>
    vb (x4 + 1 : Int32) fun v6 =>
    R_nextParting_71 n x1 v6 m5)
set_option maxRecDepth 100000 in
def R_nextParting_56 (x1 : Int32) (x2 : Int32) (m : Mem) : Option (Int32 × Mem) :=
  gd (inb x2 7) <|
  gd (inb x2 7) <|
  vb (wI m 78 (ix x2) ((aI m 78 (ix x2)) + 1)) fun m5 =>
  vb (x2 + 1 : Int32) fun v6 =>
  R_nextParting_71 FU x1 v6 m5
set_option maxRecDepth 100000 in
def R_nextParting_46 (k4 : Int32 → Int32 → Mem → Option (Int32 × Mem)) (x1 : Int32) (x2 : Int32) (x3 : Int32) (m : Mem) : Option (Int32 × Mem) :=
  gd (inb x2 7) <|
  if x3 ≤ (aI m 78 (ix x2)) then (
    vb (x2 + (-1) : Int32) fun v3 =>
    k4 x1 v3 m)
  else (
    R_nextParting_56 x1 x2 m)
set_option maxRecDepth 100000 in
def R_nextParting_13 (k4 : Int32 → Int32 → Mem → Option (Int32 × Mem)) : Nat → Int32 → Int32 → Int32 → Int32 → Mem → Option (Int32 × Mem)
  | 0, _, _, _, _, _ => none
  | n + 1, x1, x2, x3, x4, m =>
  if x2 ≤ x4 then (
    R_nextParting_46 k4 x1 x2 x3 m)
  else (
    gd (inb x4 7) <|
    if (aI m 78 (ix x4)) < x3 then (
      R_nextParting_40 k4 (fun z0 z1 z2 z3 z4 => R_nextParting_13 k4 n z0 z1 z2 z3 z4) x1 x2 x3 x4 m)
    else (
      gd (inb x4 7) <|
      vb ((aI m 78 (ix x4)) + 1 : Int32) fun v5 =>
      R_nextParting_40 k4 (fun z0 z1 z2 z3 z4 => R_nextParting_13 k4 n z0 z1 z2 z3 z4) x1 x2 v5 x4 m))
set_option maxRecDepth 100000 in
def R_nextParting_4 : Nat → Int32 → Int32 → Mem → Option (Int32 × Mem)
  | 0, _, _, _ => none
  | n + 1, x1, x2, m =>
  if x2 ≤ 0 then (
    some (0, m))
  else (
    R_nextParting_13 (fun z0 z1 z2 => R_nextParting_4 n z0 z1 z2) FU x1 x2 0 0 m)
set_option maxRecDepth 100000 in
def R_nextParting (x1 : Int32) (m : Mem) : Option (Int32 × Mem) :=
  vb (x1 - 1 : Int32) fun v1 =>
  R_nextParting_4 FU x1 v1 m
set_option maxRecDepth 100000 in
def R_parting_80 (k49 : Int32 → Int32 → Int32 → Int32 → Int32 → Mem → Option (Int32 × Mem)) (x1 : Int32) (x2 : Int32) (x3 : Int32) (x4 : Int32) (x5 : Int32) (m : Mem) : Option (Int32 × Mem) :=
  vb (x5 + 1 : Int32) fun v1 =>
  k49 x1 x2 x3 x4 v1 m
set_option maxRecDepth 100000 in
def R_parting_160 (k119 : Int32 → Int32 → Int32 → Int32 → Int32 → Int32 → Mem → Option (Int32 × Mem)) (k130 : Int32 → Int32 → Int32 → Int32 → Int32 → Int32 → Int32 → Mem → Option (Int32 × Mem)) (x2 : Int32) (x3 : Int32) (x4 : Int32) (x5 : Int32) (x6 : Int32) (x8 : Int32) (x9 : Int32) (m : Mem) : Option (Int32 × Mem) :=
  vb (x9 + 1 : Int32) fun v1 =>
  k130 x2 x3 x4 x5 x6 x8 v1 m
set_option maxRecDepth 100000 in
def R_parting_221 (k119 : Int32 → Int32 → Int32 → Int32 → Int32 → Int32 → Mem → Option (Int32 × Mem)) (k182 : Int32 → Int32 → Int32 → Int32 → Int32 → Int32 → Int32 → Int32 → Mem → Option (Int32 × Mem)) (x2 : Int32) (x3 : Int32) (x4 : Int32) (x5 : Int32) (x6 : Int32) (x8 : Int32) (x10 : Int32) (s0 : Int32) (m : Mem) : Option (Int32 × Mem) :=
  vb (x10 + 1 : Int32) fun v1 =>
  k182 x2 x3 x4 x5 x6 x8 s0 v1 m
set_option maxRecDepth 100000 in
def R_parting_319 (k119 : Int32 → Int32 → Int32 → Int32 → Int32 → Int32 → Mem → Option (Int32 × Mem)) (x2 : Int32) (x3 : Int32) (x4 : Int32) (x5 : Int32) (x6 : Int32) (m : Mem) : Option (Int32 × Mem) :=
  bn (R_nextParting x4 m) fun r1 m2 =>
  k119 x2 x3 x4 x5 x6 r1 m2
set_option maxRecDepth 100000 in
def R_parting_273 (k119 : Int32 → Int32 → Int32 → Int32 → Int32 → Int32 → Mem → Option (Int32 × Mem)) : Nat → Int32 → Int32 → Int32 → Int32 → Int32 → Int32 → Mem → Option (Int32 × Mem)
  | 0, _, _, _, _, _, _, _ => none
  | n + 1, x2, x3, x4, x5, x6, x10, m =>
  if x4 ≤ x10 then (
    R_parting_319 k119 x2 x3 x4 x5 x6 m)
  else (
    gd (inb x10 7) <|
    gd (inb x10 7) <|
    vb (wI m 80 (ix x10) (aI m 78 (ix x10))) fun m6 =>
    gd (inb x10 7) <|
    gd (inb (aI m6 78 (ix x10)) 7) <|
    gd (inb x10 7) <|
    vb (wI m6 81 (ix x10) (aI m6 79 (ix (aI m6 78 (ix x10))))) fun m12 =>
    vb (x10 + 1 : Int32) fun v13 =>
    R_parting_273 k119 n x2 x3 x4 x5 x6 v13 m12)
set_option maxRecDepth 100000 in
def R_parting_262 (k119 : Int32 → Int32 → Int32 → Int32 → Int32 → Int32 → Mem → Option (Int32 × Mem)) (x2 : Int32) (x3 : Int32) (x4 : Int32) (x8 : Int32) (x9 : Int32) (m : Mem) : Option (Int32 × Mem) :=
  R_parting_273 k119 FU x2 x3 x4 x9 x8 0 m
set_option maxRecDepth 100000 in
def R_parting_229 (k119 : Int32 → Int32 → Int32 → Int32 → Int32 → Int32 → Mem → Option (Int32 × Mem)) (x2 : Int32) (x3 : Int32) (x4 : Int32) (x5 : Int32) (x6 : Int32) (x8 : Int32) (x9 : Int32) (m : Mem) : Option (Int32 × Mem) :=
  if x9 = (-1) then (
    R_parting_319 k119 x2 x3 x4 x5 x6 m)
  else (
    if x5 = (-1) then (
      R_parting_262 k119 x2 x3 x4 x8 x9 m)
    else (
      if x9 < x5 then (
        R_parting_262 k119 x2 x3 x4 x8 x9 m)
      else (
        if x9 = x5 then (
          if x6 ≤ x8 then (
            R_parting_319 k119 x2 x3 x4 x5 x6 m)
          else (
            R_parting_262 k119 x2 x3 x4 x8 x9 m))
        else (
          R_parting_319 k119 x2 x3 x4 x5 x6 m))))
set_option maxRecDepth 100000 in
def R_parting_182 (k119 : Int32 → Int32 → Int32 → Int32 → Int32 → Int32 → Mem → Option (Int32 × Mem)) : Nat → Int32 → Int32 → Int32 → Int32 → Int32 → Int32 → Int32 → Int32 → Mem → Option (Int32 × Mem)
  | 0, _, _, _, _, _, _, _, _, _ => none
  | n + 1, x2, x3, x4, x5, x6, x8, x9, x10, m =>
  if x8 ≤ x10 then (
    R_parting_229 k119 x2 x3 x4 x5 x6 x8 x9 m)
  else (
    if x9 = (-1) then (
      R_parting_229 k119 x2 x3 x4 x5 x6 x8 x9 m)
    else (
      bn (R_changes x10 x4 x3 m) fun r3 m4 =>
      if r3 = (-1) then (
        R_parting_221 k119 (fun z0 z1 z2 z3 z4 z5 z6 z7 z8 => R_parting_182 k119 n z0 z1 z2 z3 z4 z5 z6 z7 z8) x2 x3 x4 x5 x6 x8 x10 (-1) m4)
      else (
        R_parting_221 k119 (fun z0 z1 z2 z3 z4 z5 z6 z7 z8 => R_parting_182 k119 n z0 z1 z2 z3 z4 z5 z6 z7 z8) x2 x3 x4 x5 x6 x8 x10 (x9 + r3) m4)))
set_option maxRecDepth 100000 in
def R_parting_177 (k119 : Int32 → Int32 → Int32 → Int32 → Int32 → Int32 → Mem → Option (Int32 × Mem)) (x2 : Int32) (x3 : Int32) (x4 : Int32) (x5 : Int32) (x6 : Int32) (x8 : Int32) (s0 : Int32) (m : Mem) : Option (Int32 × Mem) :=
  R_parting_182 k119 FU x2 x3 x4 x5 x6 x8 s0 0 m
set_option maxRecDepth 100000 in
def R_parting_166 (k119 : Int32 → Int32 → Int32 → Int32 → Int32 → Int32 → Mem → Option (Int32 × Mem)) (x2 : Int32) (x3 : Int32) (x4 : Int32) (x5 : Int32) (x6 : Int32) (x8 : Int32) (m : Mem) : Option (Int32 × Mem) :=
  if x8 ≤ x2 then (
    R_parting_177 k119 x2 x3 x4 x5 x6 x8 0 m)
  else (
    R_parting_177 k119 x2 x3 x4 x5 x6 x8 (-1) m)
set_option maxRecDepth 100000 in
def R_parting_130 (k119 : Int32 → Int32 → Int32 → Int32 → Int32 → Int32 → Mem → Option (Int32 × Mem)) : Nat → Int32 → Int32 → Int32 → Int32 → Int32 → Int32 → Int32 → Mem → Option (Int32 × Mem)
  | 0, _, _, _, _, _, _, _, _ => none
  | n + 1, x2, x3, x4, x5, x6, x8, x9, m =>
  if x4 ≤ x9 then (
    R_parting_166 k119 x2 x3 x4 x5 x6 x8 m)
  else (
    gd (inb x9 7) <|
    if (aI m 78 (ix x9)) < x8 then (
      R_parting_160 k119 (fun z0 z1 z2 z3 z4 z5 z6 z7 => R_parting_130 k119 n z0 z1 z2 z3 z4 z5 z6 z7) x2 x3 x4 x5 x6 x8 x9 m)
    else (
      gd (inb x9 7) <|
      vb ((aI m 78 (ix x9)) + 1 : Int32) fun v5 =>
      R_parting_160 k119 (fun z0 z1 z2 z3 z4 z5 z6 z7 => R_parting_130 k119 n z0 z1 z2 z3 z4 z5 z6 z7) x2 x3 x4 x5 x6 v5 x9 m))
set_option maxRecDepth 100000 in
def R_parting_417 (x5 : Int32) (m : Mem) : Option (Int32 × Mem) :=
  vb (sI m 1651 0 1) fun m2 =>
  some (x5, m2)
set_option maxRecDepth 100000 in
def R_parting_366 : Nat → Int32 → Int32 → Int32 → Mem → Option (Int32 × Mem)
  | 0, _, _, _, _ => none
  | n + 1, x4, x5, x8, m =>
  if x4 ≤ x8 then (
    R_parting_417 x5 m)
  else (
    gd (inb x8 7) <|
    gd (inb x8 7) <|
    gd (inb (aI m 77 (ix x8)) 16) <|
    vb (wI m 75 (ix (aI m 77 (ix x8))) (aI m 80 (ix x8))) fun m7 =>
    gd (inb x8 7) <|
    gd (inb x8 7) <|
    gd (inb (aI m7 77 (ix x8)) 16) <|
    vb (wI m7 76 (ix (aI m7 77 (ix x8))) (aI m7 81 (ix x8))) fun m13 =>
    vb (x8 + 1 : Int32) fun v14 =>
    R_parting_366 n x4 x5 v14 m13)
set_option maxRecDepth 100000 in
def R_parting_363 (x4 : Int32) (x5 : Int32) (m : Mem) : Option (Int32 × Mem) :=
  R_parting_366 FU x4 x5 0 m
set_option maxRecDepth 100000 in
def R_parting_342 : Nat → Int32 → Int32 → Int32 → Mem → Option (Int32 × Mem)
  | 0, _, _, _, _ => none
  | n + 1, x4, x5, x8, m =>
  if 16 ≤ x8 then (
    R_parting_363 x4 x5 m)
  else (
    gd (inb x8 16) <|
    vb (wI m 75 (ix x8) (-1)) fun m5 =>
    vb (x8 + 1 : Int32) fun v6 =>
    R_parting_342 n x4 x5 v6 m5)
set_option maxRecDepth 100000 in
def R_parting_330 (x4 : Int32) (x5 : Int32) (m : Mem) : Option (Int32 × Mem) :=
  if x5 = (-1) then (
    some ((-2), m))
  else (
    R_parting_342 FU x4 x5 0 m)
set_option maxRecDepth 100000 in
def R_parting_119 : Nat → Int32 → Int32 → Int32 → Int32 → Int32 → Int32 → Mem → Option (Int32 × Mem)
  | 0, _, _, _, _, _, _, _ => none
  | n + 1, x2, x3, x4, x5, x6, x7, m =>
  if x7 = 0 then (
    R_parting_330 x4 x5 m)
  else (
    R_parting_130 (fun z0 z1 z2 z3 z4 z5 z6 => R_parting_119 n z0 z1 z2 z3 z4 z5 z6) FU x2 x3 x4 x5 x6 0 0 m)
set_option maxRecDepth 100000 in
def R_parting_116 (x2 : Int32) (x3 : Int32) (x4 : Int32) (x5 : Int32) (x6 : Int32) (m : Mem) : Option (Int32 × Mem) :=
  R_parting_119 FU x2 x3 x4 x5 x6 1 m
set_option maxRecDepth 100000 in
def R_parting_95 : Nat → Int32 → Int32 → Int32 → Int32 → Int32 → Int32 → Mem → Option (Int32 × Mem)
  | 0, _, _, _, _, _, _, _ => none
  | n + 1, x2, x3, x4, x5, x6, x7, m =>
  if x4 ≤ x7 then (
    R_parting_116 x2 x3 x4 x5 x6 m)
  else (
    gd (inb x7 7) <|
    vb (wI m 78 (ix x7) 0) fun m5 =>
    vb (x7 + 1 : Int32) fun v6 =>
    R_parting_95 n x2 x3 x4 x5 x6 v6 m5)
set_option maxRecDepth 100000 in
def R_parting_86 (x2 : Int32) (x3 : Int32) (x4 : Int32) (m : Mem) : Option (Int32 × Mem) :=
  R_parting_95 FU x2 x3 x4 (-1) 0 0 m
set_option maxRecDepth 100000 in
def R_parting_49 : Nat → Int32 → Int32 → Int32 → Int32 → Int32 → Mem → Option (Int32 × Mem)
  | 0, _, _, _, _, _, _ => none
  | n + 1, x1, x2, x3, x4, x5, m =>
  if 16 ≤ x5 then (
    R_parting_86 x2 x3 x4 m)
  else (
    if ((x1 >>> (x5 &&& 31)) &&& 1) = 0 then (
      R_parting_80 (fun z0 z1 z2 z3 z4 z5 => R_parting_49 n z0 z1 z2 z3 z4 z5) x1 x2 x3 x4 x5 m)
    else (
      gd (inb x4 7) <|
      vb (wI m 77 (ix x4) x5) fun m6 =>
      vb (x4 + 1 : Int32) fun v7 =>
      R_parting_80 (fun z0 z1 z2 z3 z4 z5 => R_parting_49 n z0 z1 z2 z3 z4 z5) x1 x2 x3 v7 x5 m6))
set_option maxRecDepth 100000 in
def R_parting (x1 : Int32) (x2 : Int32) (x3 : Int32) (m : Mem) : Option (Int32 × Mem) :=
  bp (R_in x1 1 65535) fun r1 =>
  if r1 = 0 then (
    some ((-1), m))
  else (
    bp (R_bits x1) fun r3 =>
    if 7 < r3 then (
      some ((-1), m))
    else (
      bp (R_in x2 1 7) fun r5 =>
      if r5 = 0 then (
        some ((-1), m))
      else (
        bp (R_in x3 0 999) fun r7 =>
        if r7 = 0 then (
          some ((-1), m))
        else (
          R_parting_49 FU x1 x2 x3 0 0 m))))
set_option maxRecDepth 100000 in
def R_part (x1 : Int32) (x2 : Int32) (m : Mem) : Option (Int32 × Mem) :=
  if (mI m 1651 0) = 0 then (
    some ((-1), m))
  else (
    bp (R_in x1 0 15) fun r2 =>
    if r2 = 0 then (
      some ((-1), m))
    else (
      gd (inb x1 16) <|
      if (aI m 75 (ix x1)) = (-1) then (
        some ((-1), m))
      else (
        bp (R_in x2 0 1) fun r6 =>
        if r6 = 0 then (
          some ((-1), m))
        else (
          if x2 = 0 then (
            gd (inb x1 16) <|
            some (aI m 75 (ix x1), m))
          else (
            gd (inb x1 16) <|
            some (aI m 76 (ix x1), m))))))
set_option maxRecDepth 100000 in
def R_count (x1 : Int32) (m : Mem) : Option (Int32 × Mem) :=
  if x1 = 0 then (
    some (mI m 1591 0, m))
  else   if x1 = 1 then (
    some (mI m 1592 0, m))
  else   if x1 = 2 then (
    some (mI m 1595 0, m))
  else   if x1 = 3 then (
    some (mI m 1601 0, m))
  else   if x1 = 4 then (
    some (mI m 1554 0, m))
  else   if x1 = 5 then (
    some (mI m 1584 0, m))
  else   if x1 = 6 then (
    some (mI m 1538 0, m))
  else (
    some ((-1), m))
