/-! the methods as functions: written by gen/emit.py -/
set_option maxRecDepth 100000 in
def R_textAt (x1 : Int32) (m : Mem) : Option (Int32 × Mem) :=
  if x1 < 0 then (
    some ((-1), m))
  else (
    if (mI m 1601 0) ≤ x1 then (
      some ((-1), m))
    else (
      gd (inb x1 160) <|
      if 4 ≤ (aI m 44 (ix x1)) then (
        some ((-1), m))
      else (
        gd (inb x1 160) <|
        some (aI m 45 (ix x1), m))))
set_option maxRecDepth 100000 in
def R_tells (x1 : Int32) (x2 : Int32) (x3 : Int32) (x4 : Int32) (m : Mem) : Option (Int32 × Mem) :=
  if (mI m 1601 0) = 160 then (
    some ((-1), m))
  else (
    bn (R_textAt x2 m) fun r2 m3 =>
    if r2 = (-1) then (
      some ((-1), m3))
    else (
      gd (inb x2 160) <|
      if (aI m3 44 (ix x2)) = 0 then (
        bp (R_in x3 0 ((mI m3 1584 0) - 1)) fun r9 =>
        if r9 = 0 then (
          some ((-1), m3))
        else (
          bp (R_in x4 0 9999) fun r11 =>
          if r11 = 0 then (
            some ((-1), m3))
          else (
            bn (R_fact x1 x2 x3 0 x4 m3) fun r13 m14 =>
            some (r13, m14))))
      else (
        some ((-1), m3))))
set_option maxRecDepth 100000 in
def R_log (x1 : Int32) (x2 : Int32) (x3 : Int32) (m : Mem) : Option (Int32 × Mem) :=
  bn (R_tells 7 x1 x2 x3 m) fun r1 m2 =>
  some (r1, m2)
set_option maxRecDepth 100000 in
def R_answer (x1 : Int32) (x2 : Int32) (x3 : Int32) (m : Mem) : Option (Int32 × Mem) :=
  bn (R_tells 8 x1 x2 x3 m) fun r1 m2 =>
  some (r1, m2)
set_option maxRecDepth 100000 in
def R_paid (x1 : Int32) (x2 : Int32) (x3 : Int32) (m : Mem) : Option (Int32 × Mem) :=
  if (mI m 1601 0) = 160 then (
    some ((-1), m))
  else (
    bn (R_isPerson x1 m) fun r2 m3 =>
    if r2 = 0 then (
      some ((-1), m3))
    else (
      bp (R_in x2 0 19) fun r7 =>
      if r7 = 0 then (
        some ((-1), m3))
      else (
        bp (R_in x3 (-99999) 99999) fun r9 =>
        if r9 = 0 then (
          some ((-1), m3))
        else (
          bn (R_fact 9 x1 x2 0 x3 m3) fun r11 m12 =>
          some (r11, m12)))))
set_option maxRecDepth 100000 in
def R_stay (x1 : Int32) (x2 : Int32) (x3 : Int32) (m : Mem) : Option (Int32 × Mem) :=
  if (mI m 1601 0) = 160 then (
    some ((-1), m))
  else (
    bn (R_textAt x1 m) fun r2 m3 =>
    if r2 = (-1) then (
      some ((-1), m3))
    else (
      if x2 < 0 then (
        some ((-1), m3))
      else (
        if x3 ≤ x2 then (
          some ((-1), m3))
        else (
          if x3 ≤ 140 then (
            bn (R_fact 10 x1 x2 x3 0 m3) fun r10 m11 =>
            some (r10, m11))
          else (
            some ((-1), m3))))))
set_option maxRecDepth 100000 in
def R_isKnown (x1 : Int32) (m : Mem) : Option (Int32 × Mem) :=
  if x1 < 0 then (
    some (0, m))
  else (
    if (mI m 1601 0) < x1 then (
      some (0, m))
    else (
      some (1, m)))
set_option maxRecDepth 100000 in
def R_priceOf_64 (x6 : Int32) (m : Mem) : Option (Int32 × Mem) :=
  gd (inb x6 160) <|
  some (aI m 48 (ix x6), m)
set_option maxRecDepth 100000 in
def R_priceOf_72 (k3 : Int32 → Int32 → Int32 → Int32 → Mem → Option (Int32 × Mem)) (k14 : Int32 → Int32 → Int32 → Int32 → Int32 → Mem → Option (Int32 × Mem)) (x1 : Int32) (x3 : Int32) (x4 : Int32) (x5 : Int32) (x6 : Int32) (m : Mem) : Option (Int32 × Mem) :=
  vb (x6 + (-1) : Int32) fun v1 =>
  k14 x1 x3 x4 x5 v1 m
set_option maxRecDepth 100000 in
def R_priceOf_78 (k3 : Int32 → Int32 → Int32 → Int32 → Mem → Option (Int32 × Mem)) (x1 : Int32) (x3 : Int32) (x4 : Int32) (x5 : Int32) (m : Mem) : Option (Int32 × Mem) :=
  vb (x5 + (-1) : Int32) fun v1 =>
  k3 x1 x3 x4 v1 m
set_option maxRecDepth 100000 in
def R_priceOf_14 (k3 : Int32 → Int32 → Int32 → Int32 → Mem → Option (Int32 × Mem)) : Nat → Int32 → Int32 → Int32 → Int32 → Int32 → Mem → Option (Int32 × Mem)
  | 0, _, _, _, _, _, _ => none
  | n + 1, x1, x3, x4, x5, x6, m =>
  if x6 < 0 then (
    R_priceOf_78 k3 x1 x3 x4 x5 m)
  else (
    gd (inb x6 160) <|
    if (aI m 44 (ix x6)) = 4 then (
      gd (inb x6 160) <|
      if (aI m 45 (ix x6)) = x1 then (
        gd (inb x6 160) <|
        if (aI m 46 (ix x6)) = x5 then (
          gd (inb x6 160) <|
          if (aI m 47 (ix x6)) = x3 then (
            R_priceOf_64 x6 m)
          else (
            R_priceOf_72 k3 (fun z0 z1 z2 z3 z4 z5 => R_priceOf_14 k3 n z0 z1 z2 z3 z4 z5) x1 x3 x4 x5 x6 m))
        else (
          R_priceOf_72 k3 (fun z0 z1 z2 z3 z4 z5 => R_priceOf_14 k3 n z0 z1 z2 z3 z4 z5) x1 x3 x4 x5 x6 m))
      else (
        R_priceOf_72 k3 (fun z0 z1 z2 z3 z4 z5 => R_priceOf_14 k3 n z0 z1 z2 z3 z4 z5) x1 x3 x4 x5 x6 m))
    else (
      R_priceOf_72 k3 (fun z0 z1 z2 z3 z4 z5 => R_priceOf_14 k3 n z0 z1 z2 z3 z4 z5) x1 x3 x4 x5 x6 m))
set_option maxRecDepth 100000 in
def R_priceOf_3 : Nat → Int32 → Int32 → Int32 → Int32 → Mem → Option (Int32 × Mem)
  | 0, _, _, _, _, _ => none
  | n + 1, x1, x3, x4, x5, m =>
  if x5 < 0 then (
    some (0, m))
  else (
    vb (x4 - 1 : Int32) fun v2 =>
    R_priceOf_14 (fun z0 z1 z2 z3 z4 => R_priceOf_3 n z0 z1 z2 z3 z4) FU x1 x3 x4 x5 v2 m)
set_option maxRecDepth 100000 in
def R_priceOf (x1 : Int32) (x2 : Int32) (x3 : Int32) (x4 : Int32) (m : Mem) : Option (Int32 × Mem) :=
  R_priceOf_3 FU x1 x3 x4 x2 m
set_option maxRecDepth 100000 in
def R_priced (x1 : Int32) (x2 : Int32) (x3 : Int32) (x4 : Int32) (m : Mem) : Option (Int32 × Mem) :=
  bn (R_isTown x1 m) fun r1 m2 =>
  if r1 = 0 then (
    some ((-1), m2))
  else (
    bp (R_in x2 0 3) fun r6 =>
    if r6 = 0 then (
      some ((-1), m2))
    else (
      bp (R_in x3 0 3) fun r8 =>
      if r8 = 0 then (
        some ((-1), m2))
      else (
        bn (R_isKnown x4 m2) fun r10 m11 =>
        if r10 = 0 then (
          some ((-1), m11))
        else (
          bn (R_priceOf x1 x2 x3 x4 m11) fun r15 m16 =>
          some (r15, m16)))))
set_option maxRecDepth 100000 in
def R_leastOf_6 : Nat → Int32 → Int32 → Int32 → Int32 → Int32 → Mem → Option (Int32 × Mem)
  | 0, _, _, _, _, _, _ => none
  | n + 1, x1, x2, x3, x4, x5, m =>
  if 4 ≤ x5 then (
    some (x4, m))
  else (
    gd (inb x5 4) <|
    bn (R_priceOf x1 x2 x5 x3 m) fun r3 m4 =>
    vb (x4 + ((aI m 43 (ix x5)) * r3) : Int32) fun v7 =>
    vb (x5 + 1 : Int32) fun v8 =>
    R_leastOf_6 n x1 x2 x3 v7 v8 m4)
set_option maxRecDepth 100000 in
def R_leastOf (x1 : Int32) (x2 : Int32) (x3 : Int32) (m : Mem) : Option (Int32 × Mem) :=
  R_leastOf_6 FU x1 x2 x3 0 0 m
set_option maxRecDepth 100000 in
def R_least (x1 : Int32) (x2 : Int32) (x3 : Int32) (m : Mem) : Option (Int32 × Mem) :=
  bn (R_isTown x1 m) fun r1 m2 =>
  if r1 = 0 then (
    some ((-1), m2))
  else (
    bp (R_in x2 0 3) fun r6 =>
    if r6 = 0 then (
      some ((-1), m2))
    else (
      bn (R_isKnown x3 m2) fun r8 m9 =>
      if r8 = 0 then (
        some ((-1), m9))
      else (
        bn (R_leastOf x1 x2 x3 m9) fun r13 m14 =>
        some (r13, m14))))
set_option maxRecDepth 100000 in
def R_kind (x1 : Int32) (m : Mem) : Option (Int32 × Mem) :=
  if x1 < 0 then (
    some ((-1), m))
  else (
    if (mI m 1601 0) ≤ x1 then (
      some ((-1), m))
    else (
      gd (inb x1 160) <|
      some (aI m 44 (ix x1), m)))
set_option maxRecDepth 100000 in
def R_award (x1 : Int32) (m : Mem) : Option (Int32 × Mem) :=
  bn (R_textAt x1 m) fun r1 m2 =>
  if r1 = (-1) then (
    some ((-1), m2))
  else (
    gd (inb r1 25) <|
    gd (inb (aI m2 13 (ix r1)) 25) <|
    some (aI m2 12 (ix (aI m2 13 (ix r1))), m2))
set_option maxRecDepth 100000 in
def R_isAsked (x1 : Int32) (x2 : Int32) (x3 : Int32) (x4 : Int32) (m : Mem) : Option (Int32 × Mem) :=
  bn (R_textAt x1 m) fun r1 m2 =>
  if r1 = (-1) then (
    some (0, m2))
  else (
    bp (R_in x2 0 139) fun r6 =>
    if r6 = 0 then (
      some (0, m2))
    else (
      bn (R_isFirm x3 m2) fun r8 m9 =>
      if r8 = 0 then (
        some (0, m9))
      else (
        bn (R_isKnown x4 m9) fun r13 m14 =>
        if r13 = 0 then (
          some (0, m14))
        else (
          if x4 ≤ x1 then (
            some (0, m14))
          else (
            some (1, m14))))))
set_option maxRecDepth 100000 in
def R_isIn_112 (k53 : Int32 → Int32 → Int32 → Int32 → Mem → Option (Int32 × Mem)) (x1 : Int32) (x2 : Int32) (x4 : Int32) (x5 : Int32) (m : Mem) : Option (Int32 × Mem) :=
  vb (x5 + 1 : Int32) fun v1 =>
  k53 x1 x2 x4 v1 m
set_option maxRecDepth 100000 in
def R_isIn_53 : Nat → Int32 → Int32 → Int32 → Int32 → Mem → Option (Int32 × Mem)
  | 0, _, _, _, _, _ => none
  | n + 1, x1, x2, x4, x5, m =>
  if x4 ≤ x5 then (
    some (1, m))
  else (
    gd (inb x5 160) <|
    if (aI m 44 (ix x5)) = 10 then (
      gd (inb x5 160) <|
      gd (inb x1 25) <|
      if (aI m 45 (ix x5)) = (aI m 12 (ix x1)) then (
        gd (inb x5 160) <|
        if x2 < (aI m 46 (ix x5)) then (
          R_isIn_112 (fun z0 z1 z2 z3 z4 => R_isIn_53 n z0 z1 z2 z3 z4) x1 x2 x4 x5 m)
        else (
          gd (inb x5 160) <|
          if (aI m 47 (ix x5)) ≤ x2 then (
            R_isIn_112 (fun z0 z1 z2 z3 z4 => R_isIn_53 n z0 z1 z2 z3 z4) x1 x2 x4 x5 m)
          else (
            some (0, m))))
      else (
        R_isIn_112 (fun z0 z1 z2 z3 z4 => R_isIn_53 n z0 z1 z2 z3 z4) x1 x2 x4 x5 m))
    else (
      R_isIn_112 (fun z0 z1 z2 z3 z4 => R_isIn_53 n z0 z1 z2 z3 z4) x1 x2 x4 x5 m))
set_option maxRecDepth 100000 in
def R_isIn_43 (x1 : Int32) (x2 : Int32) (x4 : Int32) (m : Mem) : Option (Int32 × Mem) :=
  gd (inb x1 25) <|
  vb ((aI m 12 (ix x1)) + 1 : Int32) fun v2 =>
  R_isIn_53 FU x1 x2 x4 v2 m
set_option maxRecDepth 100000 in
def R_isIn (x1 : Int32) (x2 : Int32) (x3 : Int32) (x4 : Int32) (m : Mem) : Option (Int32 × Mem) :=
  gd (inb x1 25) <|
  if x4 ≤ (aI m 12 (ix x1)) then (
    some (0, m))
  else (
    gd (inb x1 25) <|
    if x2 < (aI m 11 (ix x1)) then (
      some (0, m))
    else (
      gd (inb x1 25) <|
      if (aI m 10 (ix x1)) = (-1) then (
        R_isIn_43 x1 x2 x4 m)
      else (
        gd (inb x1 25) <|
        if (aI m 10 (ix x1)) = x3 then (
          R_isIn_43 x1 x2 x4 m)
        else (
          some (0, m)))))
set_option maxRecDepth 100000 in
def R_force (x1 : Int32) (x2 : Int32) (x3 : Int32) (x4 : Int32) (m : Mem) : Option (Int32 × Mem) :=
  bn (R_isAsked x1 x2 x3 x4 m) fun r1 m2 =>
  if r1 = 0 then (
    some ((-1), m2))
  else (
    gd (inb x1 160) <|
    bn (R_isIn (aI m2 45 (ix x1)) x2 x3 x4 m2) fun r7 m8 =>
    if r7 = 0 then (
      some (0, m8))
    else (
      some (1, m8)))
set_option maxRecDepth 100000 in
def R_rowOf_5 : Nat → Int32 → Int32 → Int32 → Mem → Option (Int32 × Mem)
  | 0, _, _, _, _ => none
  | n + 1, x1, x2, x3, m =>
  gd (inb x1 24) <|
  if ((64 * x1) + (aI m 53 (ix x1))) ≤ x3 then (
    some ((-1), m))
  else (
    gd (inb x3 1536) <|
    gd (inb (aI m 54 (ix x3)) 750) <|
    if (aI m 16 (ix (aI m 54 (ix x3)))) = x2 then (
      some (x3, m))
    else (
      vb (x3 + 1 : Int32) fun v6 =>
      R_rowOf_5 n x1 x2 v6 m))
set_option maxRecDepth 100000 in
def R_rowOf (x1 : Int32) (x2 : Int32) (m : Mem) : Option (Int32 × Mem) :=
  vb (64 * x1 : Int32) fun v1 =>
  R_rowOf_5 FU x1 x2 v1 m
set_option maxRecDepth 100000 in
def R_goes_53 (x1 : Int32) (m : Mem) : Option (Unit × Mem) :=
  gd (inb x1 24) <|
  gd (inb x1 24) <|
  vb (wI m 53 (ix x1) ((aI m 53 (ix x1)) - 1)) fun m5 =>
  some ((), m5)
set_option maxRecDepth 100000 in
def R_goes_2 : Nat → Int32 → Int32 → Mem → Option (Unit × Mem)
  | 0, _, _, _ => none
  | n + 1, x1, x3, m =>
  gd (inb x1 24) <|
  if ((64 * x1) + (aI m 53 (ix x1))) ≤ (x3 + 1) then (
    R_goes_53 x1 m)
  else (
    gd (inb (x3 + 1) 1536) <|
    gd (inb x3 1536) <|
    vb (wI m 54 (ix x3) (aI m 54 (ix (x3 + 1)))) fun m7 =>
    gd (inb (x3 + 1) 1536) <|
    gd (inb x3 1536) <|
    vb (wI m7 55 (ix x3) (aI m7 55 (ix (x3 + 1)))) fun m12 =>
    vb (x3 + 1 : Int32) fun v13 =>
    R_goes_2 n x1 v13 m12)
set_option maxRecDepth 100000 in
def R_goes (x1 : Int32) (x2 : Int32) (m : Mem) : Option (Unit × Mem) :=
  R_goes_2 FU x1 x2 m
set_option maxRecDepth 100000 in
def R_termOf_164 (k10 : Int32 → Int32 → Int32 → Mem → Option (Int32 × Mem)) (x2 : Int32) (x3 : Int32) (x4 : Int32) (m : Mem) : Option (Int32 × Mem) :=
  vb (x4 + 1 : Int32) fun v1 =>
  k10 x2 x3 v1 m
set_option maxRecDepth 100000 in
def R_termOf_63 (k10 : Int32 → Int32 → Int32 → Mem → Option (Int32 × Mem)) (x2 : Int32) (x3 : Int32) (x4 : Int32) (s0 : Int32) (s1 : Int32) (m : Mem) : Option (Int32 × Mem) :=
  gd (inb s1 500) <|
  vb (wI m 51 (ix s1) s0) fun m4 =>
  vb (x3 + 1 : Int32) fun v5 =>
  R_termOf_164 k10 x2 v5 x4 m4
set_option maxRecDepth 100000 in
def R_termOf_102 (m : Mem) : Option (Int32 × Mem) :=
  vb (sI m 1610 0 1) fun m2 =>
  some (0, m2)
set_option maxRecDepth 100000 in
def R_termOf_163 (k10 : Int32 → Int32 → Int32 → Mem → Option (Int32 × Mem)) (x2 : Int32) (x3 : Int32) (x4 : Int32) (s0 : Int32) (s1 : Int32) (m : Mem) : Option (Int32 × Mem) :=
  gd (inb s1 500) <|
  vb (wI m 51 (ix s1) s0) fun m4 =>
  R_termOf_164 k10 x2 x3 x4 m4
set_option maxRecDepth 100000 in
def R_termOf_109 (k10 : Int32 → Int32 → Int32 → Mem → Option (Int32 × Mem)) (x2 : Int32) (x3 : Int32) (x4 : Int32) (x5 : Int32) (x6 : Int32) (x7 : Int32) (m : Mem) : Option (Int32 × Mem) :=
  if x5 = 2 then (
    R_termOf_163 k10 x2 x3 x4 (x6 + x7) (x3 - 1) m)
  else (
    if x5 = 3 then (
      R_termOf_163 k10 x2 x3 x4 (x6 - x7) (x3 - 1) m)
    else (
      if x5 = 4 then (
        R_termOf_163 k10 x2 x3 x4 (x6 * x7) (x3 - 1) m)
      else (
        gn x7 <|
        R_termOf_163 k10 x2 x3 x4 (x6 / x7) (x3 - 1) m)))
set_option maxRecDepth 100000 in
def R_termOf_170 (m : Mem) : Option (Int32 × Mem) :=
  gd (inb 0 500) <|
  some (aI m 51 (ix 0), m)
set_option maxRecDepth 100000 in
def R_termOf_10 : Nat → Int32 → Int32 → Int32 → Mem → Option (Int32 × Mem)
  | 0, _, _, _, _ => none
  | n + 1, x2, x3, x4, m =>
  if x2 ≤ x4 then (
    R_termOf_170 m)
  else (
    gd (inb x4 12500) <|
    vb (aI m 33 (ix x4) : Int32) fun v3 =>
    if 2 ≤ v3 then (
      vb (x3 + (-1) : Int32) fun v5 =>
      gd (inb (v5 - 1) 500) <|
      vb (aI m 51 (ix (v5 - 1)) : Int32) fun v7 =>
      gd (inb v5 500) <|
      vb (aI m 51 (ix v5) : Int32) fun v9 =>
      if v3 = 5 then (
        if v9 = 0 then (
          R_termOf_102 m)
        else (
          R_termOf_109 (fun z0 z1 z2 z3 => R_termOf_10 n z0 z1 z2 z3) x2 v5 x4 v3 v7 v9 m))
      else (
        R_termOf_109 (fun z0 z1 z2 z3 => R_termOf_10 n z0 z1 z2 z3) x2 v5 x4 v3 v7 v9 m))
    else (
      if v3 = 0 then (
        gd (inb x4 12500) <|
        R_termOf_63 (fun z0 z1 z2 z3 => R_termOf_10 n z0 z1 z2 z3) x2 x3 x4 (aI m 34 (ix x4)) x3 m)
      else (
        gd (inb x4 12500) <|
        gd (inb (aI m 34 (ix x4)) 12) <|
        R_termOf_63 (fun z0 z1 z2 z3 => R_termOf_10 n z0 z1 z2 z3) x2 x3 x4 (aI m 50 (ix (aI m 34 (ix x4)))) x3 m)))
set_option maxRecDepth 100000 in
def R_termOf (x1 : Int32) (x2 : Int32) (m : Mem) : Option (Int32 × Mem) :=
  vb (sI m 1610 0 0) fun m2 =>
  R_termOf_10 FU x2 0 x1 m2
set_option maxRecDepth 100000 in
def R_isAmbit_119 (k9 : Int32 → Int32 → Int32 → Int32 → Int32 → Int32 → Int32 → Mem → Option (Int32 × Mem)) (x1 : Int32) (x2 : Int32) (x3 : Int32) (x4 : Int32) (x5 : Int32) (x6 : Int32) (x7 : Int32) (m : Mem) : Option (Int32 × Mem) :=
  vb (x7 + 1 : Int32) fun v1 =>
  k9 x1 x2 x3 x4 x5 x6 v1 m
set_option maxRecDepth 100000 in
def R_isAmbit_51 (k9 : Int32 → Int32 → Int32 → Int32 → Int32 → Int32 → Int32 → Mem → Option (Int32 × Mem)) (x1 : Int32) (x2 : Int32) (x3 : Int32) (x4 : Int32) (x5 : Int32) (x6 : Int32) (x7 : Int32) (m : Mem) : Option (Int32 × Mem) :=
  gd (inb x7 160) <|
  gd (inb x1 25) <|
  if (aI m 45 (ix x7)) = (aI m 12 (ix x1)) then (
    gd (inb x7 160) <|
    gd (inb x3 750) <|
    if (aI m 46 (ix x7)) = (aI m 16 (ix x3)) then (
      gd (inb x7 160) <|
      if (aI m 44 (ix x7)) = 7 then (
        gd (inb x7 160) <|
        vb (aI m 48 (ix x7) : Int32) fun v10 =>
        R_isAmbit_119 k9 x1 x2 x3 x4 v10 x6 x7 m)
      else (
        gd (inb x7 160) <|
        vb (aI m 48 (ix x7) : Int32) fun v12 =>
        R_isAmbit_119 k9 x1 x2 x3 x4 x5 v12 x7 m))
    else (
      R_isAmbit_119 k9 x1 x2 x3 x4 x5 x6 x7 m))
  else (
    R_isAmbit_119 k9 x1 x2 x3 x4 x5 x6 x7 m)
set_option maxRecDepth 100000 in
def R_isAmbit_173 (x5 : Int32) (x6 : Int32) (x7 : Int32) (x8 : Int32) (s0 : Int32) (m : Mem) : Option (Int32 × Mem) :=
  if x5 = (-1) then (
    some (0, m))
  else (
    if x6 = (-1) then (
      some (0, m))
    else (
      bp (R_in x7 x8 s0) fun r3 =>
      if r3 = 0 then (
        some (0, m))
      else (
        some (1, m))))
set_option maxRecDepth 100000 in
def R_isAmbit_157 (x5 : Int32) (x6 : Int32) (x7 : Int32) (s0 : Int32) (m : Mem) : Option (Int32 × Mem) :=
  if x6 ≤ x5 then (
    R_isAmbit_173 x5 x6 x7 s0 x5 m)
  else (
    R_isAmbit_173 x5 x6 x7 s0 x6 m)
set_option maxRecDepth 100000 in
def R_isAmbit_125 (x3 : Int32) (x5 : Int32) (x6 : Int32) (m : Mem) : Option (Int32 × Mem) :=
  gd (inb x3 750) <|
  gd (inb x3 750) <|
  bn (R_termOf (aI m 21 (ix x3)) (aI m 22 (ix x3)) m) fun r3 m4 =>
  if x6 ≤ x5 then (
    R_isAmbit_157 x5 x6 r3 x6 m4)
  else (
    R_isAmbit_157 x5 x6 r3 x5 m4)
set_option maxRecDepth 100000 in
def R_isAmbit_9 : Nat → Int32 → Int32 → Int32 → Int32 → Int32 → Int32 → Int32 → Mem → Option (Int32 × Mem)
  | 0, _, _, _, _, _, _, _, _ => none
  | n + 1, x1, x2, x3, x4, x5, x6, x7, m =>
  gd (inb x2 25) <|
  if (aI m 12 (ix x2)) ≤ x7 then (
    R_isAmbit_125 x3 x5 x6 m)
  else (
    if x4 ≤ x7 then (
      R_isAmbit_125 x3 x5 x6 m)
    else (
      gd (inb x7 160) <|
      if (aI m 44 (ix x7)) = 7 then (
        R_isAmbit_51 (fun z0 z1 z2 z3 z4 z5 z6 z7 => R_isAmbit_9 n z0 z1 z2 z3 z4 z5 z6 z7) x1 x2 x3 x4 x5 x6 x7 m)
      else (
        gd (inb x7 160) <|
        if (aI m 44 (ix x7)) = 8 then (
          R_isAmbit_51 (fun z0 z1 z2 z3 z4 z5 z6 z7 => R_isAmbit_9 n z0 z1 z2 z3 z4 z5 z6 z7) x1 x2 x3 x4 x5 x6 x7 m)
        else (
          R_isAmbit_119 (fun z0 z1 z2 z3 z4 z5 z6 z7 => R_isAmbit_9 n z0 z1 z2 z3 z4 z5 z6 z7) x1 x2 x3 x4 x5 x6 x7 m))))
set_option maxRecDepth 100000 in
def R_isAmbit (x1 : Int32) (x2 : Int32) (x3 : Int32) (x4 : Int32) (m : Mem) : Option (Int32 × Mem) :=
  R_isAmbit_9 FU x1 x2 x3 x4 (-1) (-1) 0 m
set_option maxRecDepth 100000 in
def R_adds_260 (k6 : Int32 → Int32 → Int32 → Int32 → Mem → Option (Unit × Mem)) (x1 : Int32) (x2 : Int32) (x3 : Int32) (x4 : Int32) (m : Mem) : Option (Unit × Mem) :=
  vb (x4 + 1 : Int32) fun v1 =>
  k6 x1 x2 x3 v1 m
set_option maxRecDepth 100000 in
def R_adds_214 (k6 : Int32 → Int32 → Int32 → Int32 → Mem → Option (Unit × Mem)) (x1 : Int32) (x2 : Int32) (x3 : Int32) (x4 : Int32) (m : Mem) : Option (Unit × Mem) :=
  gd (inb x4 720) <|
  vb (wI m 58 (ix x4) 2) fun m4 =>
  R_adds_260 k6 x1 x2 x3 x4 m4
set_option maxRecDepth 100000 in
def R_adds_113 (k6 : Int32 → Int32 → Int32 → Int32 → Mem → Option (Unit × Mem)) (x1 : Int32) (x2 : Int32) (x3 : Int32) (x4 : Int32) (x5 : Int32) (m : Mem) : Option (Unit × Mem) :=
  gd (inb x5 1536) <|
  vb (wI m 54 (ix x5) x4) fun m4 =>
  gd (inb x5 1536) <|
  vb (wI m4 55 (ix x5) (-1)) fun m8 =>
  R_adds_260 k6 x1 x2 x3 x4 m8
set_option maxRecDepth 100000 in
def R_adds_6 : Nat → Int32 → Int32 → Int32 → Int32 → Mem → Option (Unit × Mem)
  | 0, _, _, _, _, _ => none
  | n + 1, x1, x2, x3, x4, m =>
  gd (inb x2 25) <|
  if ((30 * x2) + (aI m 14 (ix x2))) ≤ x4 then (
    some ((), m))
  else (
    gd (inb x4 750) <|
    bn (R_rowOf x1 (aI m 16 (ix x4)) m) fun r4 m5 =>
    gd (inb x4 750) <|
    if (aI m5 15 (ix x4)) = 2 then (
      if r4 = (-1) then (
        gd (inb x1 24) <|
        vb ((64 * x1) + (aI m5 53 (ix x1)) : Int32) fun v12 =>
        gd (inb x1 24) <|
        gd (inb x1 24) <|
        vb (wI m5 53 (ix x1) ((aI m5 53 (ix x1)) + 1)) fun m17 =>
        R_adds_113 (fun z0 z1 z2 z3 z4 => R_adds_6 n z0 z1 z2 z3 z4) x1 x2 x3 x4 v12 m17)
      else (
        R_adds_113 (fun z0 z1 z2 z3 z4 => R_adds_6 n z0 z1 z2 z3 z4) x1 x2 x3 x4 r4 m5))
    else     if (aI m5 15 (ix x4)) = 3 then (
      gd (inb x4 750) <|
      gd (inb x1 24) <|
      vb (wI m5 56 (ix x1) (aI m5 17 (ix x4))) fun m23 =>
      R_adds_260 (fun z0 z1 z2 z3 z4 => R_adds_6 n z0 z1 z2 z3 z4) x1 x2 x3 x4 m23)
    else     if (aI m5 15 (ix x4)) = 4 then (
      if r4 = (-1) then (
        gd (inb x1 24) <|
        vb ((64 * x1) + (aI m5 53 (ix x1)) : Int32) fun v27 =>
        gd (inb x1 24) <|
        gd (inb x1 24) <|
        vb (wI m5 53 (ix x1) ((aI m5 53 (ix x1)) + 1)) fun m32 =>
        R_adds_113 (fun z0 z1 z2 z3 z4 => R_adds_6 n z0 z1 z2 z3 z4) x1 x2 x3 x4 v27 m32)
      else (
        R_adds_113 (fun z0 z1 z2 z3 z4 => R_adds_6 n z0 z1 z2 z3 z4) x1 x2 x3 x4 r4 m5))
    else     if (aI m5 15 (ix x4)) = 5 then (
      if r4 = (-1) then (
        gd (inb x1 24) <|
        vb ((64 * x1) + (aI m5 53 (ix x1)) : Int32) fun v36 =>
        gd (inb x1 24) <|
        gd (inb x1 24) <|
        vb (wI m5 53 (ix x1) ((aI m5 53 (ix x1)) + 1)) fun m41 =>
        R_adds_113 (fun z0 z1 z2 z3 z4 => R_adds_6 n z0 z1 z2 z3 z4) x1 x2 x3 x4 v36 m41)
      else (
        R_adds_113 (fun z0 z1 z2 z3 z4 => R_adds_6 n z0 z1 z2 z3 z4) x1 x2 x3 x4 r4 m5))
    else     if (aI m5 15 (ix x4)) = 6 then (
      gd (inb x4 750) <|
      gd (inb x1 24) <|
      vb (wI m5 57 (ix x1) (aI m5 17 (ix x4))) fun m47 =>
      R_adds_260 (fun z0 z1 z2 z3 z4 => R_adds_6 n z0 z1 z2 z3 z4) x1 x2 x3 x4 m47)
    else     if (aI m5 15 (ix x4)) = 7 then (
      if r4 = (-1) then (
        gd (inb x4 720) <|
        vb (wI m5 58 (ix x4) 2) fun m53 =>
        R_adds_260 (fun z0 z1 z2 z3 z4 => R_adds_6 n z0 z1 z2 z3 z4) x1 x2 x3 x4 m53)
      else (
        bn (R_goes x1 r4 m5) fun _ m55 =>
        R_adds_260 (fun z0 z1 z2 z3 z4 => R_adds_6 n z0 z1 z2 z3 z4) x1 x2 x3 x4 m55))
    else     if (aI m5 15 (ix x4)) = 8 then (
      if r4 = (-1) then (
        R_adds_214 (fun z0 z1 z2 z3 z4 => R_adds_6 n z0 z1 z2 z3 z4) x1 x2 x3 x4 m5)
      else (
        gd (inb r4 1536) <|
        gd (inb (aI m5 54 (ix r4)) 750) <|
        if (aI m5 15 (ix (aI m5 54 (ix r4)))) = 2 then (
          bn (R_isAmbit x1 x2 x4 x3 m5) fun r63 m64 =>
          if r63 = 0 then (
            gd (inb x4 720) <|
            vb (wI m64 58 (ix x4) 3) fun m71 =>
            R_adds_260 (fun z0 z1 z2 z3 z4 => R_adds_6 n z0 z1 z2 z3 z4) x1 x2 x3 x4 m71)
          else (
            gd (inb r4 1536) <|
            vb (wI m64 55 (ix r4) x4) fun m75 =>
            R_adds_260 (fun z0 z1 z2 z3 z4 => R_adds_6 n z0 z1 z2 z3 z4) x1 x2 x3 x4 m75))
        else (
          R_adds_214 (fun z0 z1 z2 z3 z4 => R_adds_6 n z0 z1 z2 z3 z4) x1 x2 x3 x4 m5)))
    else (
      R_adds_260 (fun z0 z1 z2 z3 z4 => R_adds_6 n z0 z1 z2 z3 z4) x1 x2 x3 x4 m5))
set_option maxRecDepth 100000 in
def R_adds (x1 : Int32) (x2 : Int32) (x3 : Int32) (m : Mem) : Option (Unit × Mem) :=
  vb (30 * x2 : Int32) fun v1 =>
  R_adds_6 FU x1 x2 x3 v1 m
set_option maxRecDepth 100000 in
def R_stands_24 (x1 : Int32) (x2 : Int32) (x3 : Int32) (m : Mem) : Option (Unit × Mem) :=
  gd (inb x2 8) <|
  bn (R_leastOf (aI m 37 (ix x2)) (x1 / 35) x3 m) fun r2 m3 =>
  gd (inb 0 12) <|
  vb (wI m3 50 (ix 0) r2) fun m9 =>
  gd (inb x2 8) <|
  gd (inb 2 12) <|
  vb (wI m9 50 (ix 2) (aI m9 38 (ix x2))) fun m14 =>
  gd (inb x2 8) <|
  gd (inb 3 12) <|
  vb (wI m14 50 (ix 3) (aI m14 37 (ix x2))) fun m19 =>
  gd (inb 4 12) <|
  vb (wI m19 50 (ix 4) x2) fun m23 =>
  some ((), m23)
set_option maxRecDepth 100000 in
def R_stands_3 : Nat → Int32 → Int32 → Int32 → Int32 → Mem → Option (Unit × Mem)
  | 0, _, _, _, _, _ => none
  | n + 1, x1, x2, x3, x4, m =>
  if 12 ≤ x4 then (
    R_stands_24 x1 x2 x3 m)
  else (
    gd (inb x4 12) <|
    vb (wI m 50 (ix x4) 0) fun m5 =>
    vb (x4 + 1 : Int32) fun v6 =>
    R_stands_3 n x1 x2 x3 v6 m5)
set_option maxRecDepth 100000 in
def R_stands (x1 : Int32) (x2 : Int32) (x3 : Int32) (m : Mem) : Option (Unit × Mem) :=
  R_stands_3 FU x1 x2 x3 0 m
set_option maxRecDepth 100000 in
def R_builds_138 (k43 : Int32 → Int32 → Int32 → Int32 → Mem → Option (Unit × Mem)) (k99 : Int32 → Int32 → Int32 → Int32 → Int32 → Mem → Option (Unit × Mem)) (x1 : Int32) (x2 : Int32) (x3 : Int32) (x4 : Int32) (x5 : Int32) (s0 : Int32) (s1 : Int32) (m : Mem) : Option (Unit × Mem) :=
  gd (inb s1 720) <|
  vb (wI m 58 (ix s1) s0) fun m4 =>
  vb (x5 + 1 : Int32) fun v5 =>
  k99 x1 x2 x3 x4 v5 m4
set_option maxRecDepth 100000 in
def R_builds_185 (k43 : Int32 → Int32 → Int32 → Int32 → Mem → Option (Unit × Mem)) (x1 : Int32) (x2 : Int32) (x3 : Int32) (x4 : Int32) (m : Mem) : Option (Unit × Mem) :=
  vb (x4 + 1 : Int32) fun v1 =>
  k43 x1 x2 x3 v1 m
set_option maxRecDepth 100000 in
def R_builds_176 (k43 : Int32 → Int32 → Int32 → Int32 → Mem → Option (Unit × Mem)) (x1 : Int32) (x2 : Int32) (x3 : Int32) (x4 : Int32) (m : Mem) : Option (Unit × Mem) :=
  bn (R_adds x4 x4 x3 m) fun _ m2 =>
  R_builds_185 k43 x1 x2 x3 x4 m2
set_option maxRecDepth 100000 in
def R_builds_145 (k43 : Int32 → Int32 → Int32 → Int32 → Mem → Option (Unit × Mem)) (x1 : Int32) (x2 : Int32) (x3 : Int32) (x4 : Int32) (m : Mem) : Option (Unit × Mem) :=
  gd (inb x4 24) <|
  if (aI m 52 (ix x4)) = 0 then (
    R_builds_185 k43 x1 x2 x3 x4 m)
  else (
    gd (inb x4 25) <|
    if (aI m 8 (ix x4)) = 0 then (
      R_builds_176 k43 x1 x2 x3 x4 m)
    else (
      gd (inb x4 25) <|
      if (aI m 8 (ix x4)) = 3 then (
        R_builds_176 k43 x1 x2 x3 x4 m)
      else (
        R_builds_185 k43 x1 x2 x3 x4 m)))
set_option maxRecDepth 100000 in
def R_builds_99 (k43 : Int32 → Int32 → Int32 → Int32 → Mem → Option (Unit × Mem)) : Nat → Int32 → Int32 → Int32 → Int32 → Int32 → Mem → Option (Unit × Mem)
  | 0, _, _, _, _, _, _ => none
  | n + 1, x1, x2, x3, x4, x5, m =>
  gd (inb x4 25) <|
  if ((30 * x4) + (aI m 14 (ix x4))) ≤ x5 then (
    R_builds_145 k43 x1 x2 x3 x4 m)
  else (
    gd (inb x4 24) <|
    if (aI m 52 (ix x4)) = 0 then (
      R_builds_138 k43 (fun z0 z1 z2 z3 z4 z5 => R_builds_99 k43 n z0 z1 z2 z3 z4 z5) x1 x2 x3 x4 x5 1 x5 m)
    else (
      R_builds_138 k43 (fun z0 z1 z2 z3 z4 z5 => R_builds_99 k43 n z0 z1 z2 z3 z4 z5) x1 x2 x3 x4 x5 0 x5 m))
set_option maxRecDepth 100000 in
def R_builds_337 (k194 : Int32 → Int32 → Int32 → Int32 → Mem → Option (Unit × Mem)) (k203 : Int32 → Int32 → Int32 → Int32 → Int32 → Mem → Option (Unit × Mem)) (x1 : Int32) (x2 : Int32) (x3 : Int32) (x4 : Int32) (x5 : Int32) (m : Mem) : Option (Unit × Mem) :=
  vb (x5 + 1 : Int32) fun v1 =>
  k203 x1 x2 x3 x4 v1 m
set_option maxRecDepth 100000 in
def R_builds_313 (k194 : Int32 → Int32 → Int32 → Int32 → Mem → Option (Unit × Mem)) (k203 : Int32 → Int32 → Int32 → Int32 → Int32 → Mem → Option (Unit × Mem)) (x1 : Int32) (x2 : Int32) (x3 : Int32) (x4 : Int32) (x5 : Int32) (m : Mem) : Option (Unit × Mem) :=
  R_builds_337 k194 k203 x1 x2 x3 x4 x5 m
set_option maxRecDepth 100000 in
def R_builds_281 (k194 : Int32 → Int32 → Int32 → Int32 → Mem → Option (Unit × Mem)) (k203 : Int32 → Int32 → Int32 → Int32 → Int32 → Mem → Option (Unit × Mem)) : Nat → Int32 → Int32 → Int32 → Int32 → Int32 → Int32 → Mem → Option (Unit × Mem)
  | 0, _, _, _, _, _, _, _ => none
  | n + 1, x1, x2, x3, x4, x5, x6, m =>
  gd (inb x5 25) <|
  if ((30 * x5) + (aI m 14 (ix x5))) ≤ x6 then (
    R_builds_313 k194 k203 x1 x2 x3 x4 x5 m)
  else (
    gd (inb x6 720) <|
    vb (wI m 58 (ix x6) 1) fun m6 =>
    vb (x6 + 1 : Int32) fun v7 =>
    R_builds_281 k194 k203 n x1 x2 x3 x4 x5 v7 m6)
set_option maxRecDepth 100000 in
def R_builds_259 (k194 : Int32 → Int32 → Int32 → Int32 → Mem → Option (Unit × Mem)) (k203 : Int32 → Int32 → Int32 → Int32 → Int32 → Mem → Option (Unit × Mem)) (x1 : Int32) (x2 : Int32) (x3 : Int32) (x4 : Int32) (x5 : Int32) (m : Mem) : Option (Unit × Mem) :=
  gd (inb x5 25) <|
  gd (inb (aI m 13 (ix x5)) 24) <|
  if (aI m 52 (ix (aI m 13 (ix x5)))) = 0 then (
    vb (30 * x5 : Int32) fun v4 =>
    R_builds_281 k194 k203 FU x1 x2 x3 x4 x5 v4 m)
  else (
    bn (R_stands x1 x2 x3 m) fun _ m6 =>
    gd (inb x5 25) <|
    bn (R_adds (aI m6 13 (ix x5)) x5 x3 m6) fun _ m11 =>
    R_builds_337 k194 k203 x1 x2 x3 x4 x5 m11)
set_option maxRecDepth 100000 in
def R_builds_343 (k194 : Int32 → Int32 → Int32 → Int32 → Mem → Option (Unit × Mem)) (x1 : Int32) (x2 : Int32) (x3 : Int32) (x4 : Int32) (m : Mem) : Option (Unit × Mem) :=
  vb (x4 + 1 : Int32) fun v1 =>
  k194 x1 x2 x3 v1 m
set_option maxRecDepth 100000 in
def R_builds_203 (k194 : Int32 → Int32 → Int32 → Int32 → Mem → Option (Unit × Mem)) : Nat → Int32 → Int32 → Int32 → Int32 → Int32 → Mem → Option (Unit × Mem)
  | 0, _, _, _, _, _, _ => none
  | n + 1, x1, x2, x3, x4, x5, m =>
  if (mI m 1554 0) ≤ x5 then (
    R_builds_343 k194 x1 x2 x3 x4 m)
  else (
    gd (inb x5 24) <|
    if (aI m 52 (ix x5)) = 0 then (
      R_builds_337 k194 (fun z0 z1 z2 z3 z4 z5 => R_builds_203 k194 n z0 z1 z2 z3 z4 z5) x1 x2 x3 x4 x5 m)
    else (
      gd (inb x5 25) <|
      if (aI m 11 (ix x5)) = x4 then (
        gd (inb x5 25) <|
        if (aI m 8 (ix x5)) = 1 then (
          R_builds_259 k194 (fun z0 z1 z2 z3 z4 z5 => R_builds_203 k194 n z0 z1 z2 z3 z4 z5) x1 x2 x3 x4 x5 m)
        else (
          gd (inb x5 25) <|
          if (aI m 8 (ix x5)) = 2 then (
            R_builds_259 k194 (fun z0 z1 z2 z3 z4 z5 => R_builds_203 k194 n z0 z1 z2 z3 z4 z5) x1 x2 x3 x4 x5 m)
          else (
            R_builds_337 k194 (fun z0 z1 z2 z3 z4 z5 => R_builds_203 k194 n z0 z1 z2 z3 z4 z5) x1 x2 x3 x4 x5 m)))
      else (
        R_builds_337 k194 (fun z0 z1 z2 z3 z4 z5 => R_builds_203 k194 n z0 z1 z2 z3 z4 z5) x1 x2 x3 x4 x5 m)))
set_option maxRecDepth 100000 in
def R_builds_194 : Nat → Int32 → Int32 → Int32 → Int32 → Mem → Option (Unit × Mem)
  | 0, _, _, _, _, _ => none
  | n + 1, x1, x2, x3, x4, m =>
  if x1 < x4 then (
    some ((), m))
  else (
    R_builds_203 (fun z0 z1 z2 z3 z4 => R_builds_194 n z0 z1 z2 z3 z4) FU x1 x2 x3 x4 0 m)
set_option maxRecDepth 100000 in
def R_builds_191 (x1 : Int32) (x2 : Int32) (x3 : Int32) (m : Mem) : Option (Unit × Mem) :=
  R_builds_194 FU x1 x2 x3 0 m
set_option maxRecDepth 100000 in
def R_builds_43 : Nat → Int32 → Int32 → Int32 → Int32 → Mem → Option (Unit × Mem)
  | 0, _, _, _, _, _ => none
  | n + 1, x1, x2, x3, x4, m =>
  if (mI m 1554 0) ≤ x4 then (
    R_builds_191 x1 x2 x3 m)
  else (
    bn (R_isIn x4 x1 x2 x3 m) fun r2 m3 =>
    gd (inb x4 24) <|
    gz r2 <|
    vb (wI m3 52 (ix x4) r2) fun m10 =>
    gd (inb x4 24) <|
    vb (wI m10 53 (ix x4) 0) fun m14 =>
    gd (inb x4 24) <|
    vb (wI m14 56 (ix x4) 0) fun m18 =>
    gd (inb x4 24) <|
    vb (wI m18 57 (ix x4) 1) fun m22 =>
    vb (30 * x4 : Int32) fun v23 =>
    R_builds_99 (fun z0 z1 z2 z3 z4 => R_builds_43 n z0 z1 z2 z3 z4) FU x1 x2 x3 x4 v23 m22)
set_option maxRecDepth 100000 in
def R_builds_25 (x1 : Int32) (x2 : Int32) (x3 : Int32) (m : Mem) : Option (Unit × Mem) :=
  vb (sI m 1612 0 x1) fun m2 =>
  vb (sI m2 1613 0 x2) fun m4 =>
  vb (sI m4 1614 0 x3) fun m6 =>
  R_builds_43 FU x1 x2 x3 0 m6
set_option maxRecDepth 100000 in
def R_builds (x1 : Int32) (x2 : Int32) (x3 : Int32) (m : Mem) : Option (Unit × Mem) :=
  if (mI m 1612 0) = x1 then (
    if (mI m 1613 0) = x2 then (
      if (mI m 1614 0) = x3 then (
        some ((), m))
      else (
        R_builds_25 x1 x2 x3 m))
    else (
      R_builds_25 x1 x2 x3 m))
  else (
    R_builds_25 x1 x2 x3 m)
set_option maxRecDepth 100000 in
def R_fate (x1 : Int32) (x2 : Int32) (x3 : Int32) (x4 : Int32) (x5 : Int32) (m : Mem) : Option (Int32 × Mem) :=
  bn (R_isAsked x1 x3 x4 x5 m) fun r1 m2 =>
  if r1 = 0 then (
    some ((-1), m2))
  else (
    gd (inb x1 160) <|
    gd (inb (aI m2 45 (ix x1)) 25) <|
    bp (R_in x2 0 ((aI m2 14 (ix (aI m2 45 (ix x1)))) - 1)) fun r8 =>
    if r8 = 0 then (
      some ((-1), m2))
    else (
      bn (R_builds x3 x4 x5 m2) fun _ m11 =>
      gd (inb x1 160) <|
      gd (inb ((30 * (aI m11 45 (ix x1))) + x2) 720) <|
      some (aI m11 58 (ix ((30 * (aI m11 45 (ix x1))) + x2)), m11)))
set_option maxRecDepth 100000 in
def R_isWhole_33 (x1 : Int32) (x2 : Int32) (x3 : Int32) (x4 : Int32) (m : Mem) : Option (Int32 × Mem) :=
  bn (R_builds x2 x3 x4 m) fun _ m2 =>
  gd (inb x1 160) <|
  gd (inb (aI m2 45 (ix x1)) 24) <|
  gz (aI m2 52 (ix (aI m2 45 (ix x1)))) <|
  some (aI m2 52 (ix (aI m2 45 (ix x1))), m2)
set_option maxRecDepth 100000 in
def R_isWhole (x1 : Int32) (x2 : Int32) (x3 : Int32) (x4 : Int32) (m : Mem) : Option (Int32 × Mem) :=
  bn (R_isAsked x1 x2 x3 x4 m) fun r1 m2 =>
  if r1 = 0 then (
    some (0, m2))
  else (
    gd (inb x1 160) <|
    if (aI m2 44 (ix x1)) = 0 then (
      R_isWhole_33 x1 x2 x3 x4 m2)
    else (
      gd (inb x1 160) <|
      if (aI m2 44 (ix x1)) = 3 then (
        R_isWhole_33 x1 x2 x3 x4 m2)
      else (
        some (0, m2))))
set_option maxRecDepth 100000 in
def R_item (x1 : Int32) (x2 : Int32) (x3 : Int32) (x4 : Int32) (x5 : Int32) (x6 : Int32) (m : Mem) : Option (Int32 × Mem) :=
  bn (R_isWhole x1 x2 x3 x5 m) fun r1 m2 =>
  if r1 = 0 then (
    some ((-1), m2))
  else (
    gd (inb x1 160) <|
    gd (inb (aI m2 45 (ix x1)) 24) <|
    bp (R_in x4 0 ((aI m2 53 (ix (aI m2 45 (ix x1)))) - 1)) fun r8 =>
    if r8 = 0 then (
      some ((-1), m2))
    else (
      gd (inb x1 160) <|
      gd (inb ((64 * (aI m2 45 (ix x1))) + x4) 1536) <|
      vb (aI m2 54 (ix ((64 * (aI m2 45 (ix x1))) + x4)) : Int32) fun v12 =>
      if x6 = 0 then (
        gd (inb v12 750) <|
        if (aI m2 15 (ix v12)) = 2 then (
          some (0, m2))
        else (
          gd (inb v12 750) <|
          some ((aI m2 15 (ix v12)) - 3, m2)))
      else       if x6 = 1 then (
        gd (inb v12 750) <|
        some (aI m2 16 (ix v12), m2))
      else       if x6 = 2 then (
        gd (inb (v12 / 30) 25) <|
        some (aI m2 12 (ix (v12 / 30)), m2))
      else (
        some ((-1), m2))))
set_option maxRecDepth 100000 in
def R_isCome_2 : Nat → Int32 → Int32 → Mem → Option (Int32 × Mem)
  | 0, _, _, _ => none
  | n + 1, x1, x2, m =>
  if (mI m 1625 0) ≤ x2 then (
    some (0, m))
  else (
    gd (inb x2 1536) <|
    if (aI m 59 (ix x2)) = x1 then (
      some (1, m))
    else (
      vb (x2 + 1 : Int32) fun v4 =>
      R_isCome_2 n x1 v4 m))
set_option maxRecDepth 100000 in
def R_isCome (x1 : Int32) (m : Mem) : Option (Int32 × Mem) :=
  R_isCome_2 FU x1 0 m
set_option maxRecDepth 100000 in
def R_marginOf_79 (x3 : Int32) (m : Mem) : Option (Int32 × Mem) :=
  some (x3 + (mI m 1624 0), m)
set_option maxRecDepth 100000 in
def R_marginOf_96 (x2 : Int32) (x3 : Int32) (m : Mem) : Option (Int32 × Mem) :=
  gd (inb x2 1536) <|
  gd (inb (aI m 55 (ix x2)) 750) <|
  gd (inb x2 1536) <|
  gd (inb (aI m 55 (ix x2)) 750) <|
  bn (R_termOf (aI m 21 (ix (aI m 55 (ix x2)))) (aI m 22 (ix (aI m 55 (ix x2)))) m) fun r5 m6 =>
  some (x3 + r5, m6)
set_option maxRecDepth 100000 in
def R_marginOf_214 (k9 : Int32 → Int32 → Mem → Option (Int32 × Mem)) (k164 : Int32 → Int32 → Int32 → Int32 → Mem → Option (Int32 × Mem)) (x3 : Int32) (x5 : Int32) (x6 : Int32) (x7 : Int32) (m : Mem) : Option (Int32 × Mem) :=
  vb (x7 + 1 : Int32) fun v1 =>
  k164 x3 x5 x6 v1 m
set_option maxRecDepth 100000 in
def R_marginOf_266 (k9 : Int32 → Int32 → Mem → Option (Int32 × Mem)) (x2 : Int32) (x3 : Int32) (m : Mem) : Option (Int32 × Mem) :=
  k9 x2 x3 m
set_option maxRecDepth 100000 in
def R_marginOf_243 (k9 : Int32 → Int32 → Mem → Option (Int32 × Mem)) (x3 : Int32) (s0 : Int32) (m : Mem) : Option (Int32 × Mem) :=
  if s0 = (-1) then (
    R_marginOf_266 k9 s0 x3 m)
  else (
    gd (inb s0 1536) <|
    gd (inb (aI m 54 (ix s0)) 750) <|
    if (aI m 15 (ix (aI m 54 (ix s0)))) = 2 then (
      R_marginOf_266 k9 s0 x3 m)
    else (
      R_marginOf_266 k9 (-1) x3 m))
set_option maxRecDepth 100000 in
def R_marginOf_220 (k9 : Int32 → Int32 → Mem → Option (Int32 × Mem)) (x3 : Int32) (x5 : Int32) (x6 : Int32) (m : Mem) : Option (Int32 × Mem) :=
  if x6 = (-1) then (
    R_marginOf_243 k9 x3 (-1) m)
  else (
    gd (inb x5 750) <|
    bn (R_rowOf x6 (aI m 20 (ix x5)) m) fun r3 m4 =>
    R_marginOf_243 k9 x3 r3 m4)
set_option maxRecDepth 100000 in
def R_marginOf_164 (k9 : Int32 → Int32 → Mem → Option (Int32 × Mem)) : Nat → Int32 → Int32 → Int32 → Int32 → Mem → Option (Int32 × Mem)
  | 0, _, _, _, _, _ => none
  | n + 1, x3, x5, x6, x7, m =>
  if (mI m 1554 0) ≤ x7 then (
    R_marginOf_220 k9 x3 x5 x6 m)
  else (
    gd (inb x7 25) <|
    if (aI m 8 (ix x7)) = 0 then (
      gd (inb x7 24) <|
      if (aI m 52 (ix x7)) = 0 then (
        R_marginOf_214 k9 (fun z0 z1 z2 z3 z4 => R_marginOf_164 k9 n z0 z1 z2 z3 z4) x3 x5 x6 x7 m)
      else (
        gd (inb x7 25) <|
        gd (inb x5 750) <|
        if (aI m 9 (ix x7)) = (aI m 19 (ix x5)) then (
          R_marginOf_214 k9 (fun z0 z1 z2 z3 z4 => R_marginOf_164 k9 n z0 z1 z2 z3 z4) x3 x5 x7 x7 m)
        else (
          R_marginOf_214 k9 (fun z0 z1 z2 z3 z4 => R_marginOf_164 k9 n z0 z1 z2 z3 z4) x3 x5 x6 x7 m)))
    else (
      R_marginOf_214 k9 (fun z0 z1 z2 z3 z4 => R_marginOf_164 k9 n z0 z1 z2 z3 z4) x3 x5 x6 x7 m))
set_option maxRecDepth 100000 in
def R_marginOf_86 (k9 : Int32 → Int32 → Mem → Option (Int32 × Mem)) (x2 : Int32) (x3 : Int32) (x5 : Int32) (m : Mem) : Option (Int32 × Mem) :=
  gd (inb x2 1536) <|
  if (aI m 55 (ix x2)) = (-1) then (
    gd (inb x5 750) <|
    gd (inb x5 750) <|
    bn (R_termOf (aI m 21 (ix x5)) (aI m 22 (ix x5)) m) fun r5 m6 =>
    vb (x3 + r5 : Int32) fun v9 =>
    gd (inb x5 750) <|
    if (aI m6 18 (ix x5)) = 0 then (
      some (v9, m6))
    else (
      R_marginOf_164 k9 FU v9 x5 (-1) 0 m6))
  else (
    R_marginOf_96 x2 x3 m)
set_option maxRecDepth 100000 in
def R_marginOf_9 : Nat → Int32 → Int32 → Mem → Option (Int32 × Mem)
  | 0, _, _, _ => none
  | n + 1, x2, x3, m =>
  if x2 = (-1) then (
    some (x3, m))
  else (
    bn (R_isCome x2 m) fun r2 m3 =>
    if r2 = 0 then (
      gd (inb (mI m3 1625 0) 1536) <|
      vb (wI m3 59 (ix (mI m3 1625 0)) x2) fun m10 =>
      vb (sI m10 1625 0 ((mI m10 1625 0) + 1)) fun m12 =>
      vb (x2 / 64 : Int32) fun v13 =>
      gd (inb x2 1536) <|
      vb (aI m12 54 (ix x2) : Int32) fun v15 =>
      if v13 = (mI m12 1622 0) then (
        gd (inb v15 750) <|
        if (aI m12 16 (ix v15)) = (mI m12 1623 0) then (
          R_marginOf_79 x3 m12)
        else (
          R_marginOf_86 (fun z0 z1 z2 => R_marginOf_9 n z0 z1 z2) x2 x3 v15 m12))
      else (
        R_marginOf_86 (fun z0 z1 z2 => R_marginOf_9 n z0 z1 z2) x2 x3 v15 m12))
    else (
      some (x3, m3)))
set_option maxRecDepth 100000 in
def R_marginOf (x1 : Int32) (m : Mem) : Option (Int32 × Mem) :=
  vb (sI m 1625 0 0) fun m2 =>
  R_marginOf_9 FU x1 0 m2
set_option maxRecDepth 100000 in
def R_held (x0 : Int32) (x1 : Int32) (x2 : Int32) : Option (Int32) :=
  if x1 ≤ x0 then (
    if x0 ≤ x2 then (
      some (x0))
    else (
      some (x2)))
  else (
    some (x1))
set_option maxRecDepth 100000 in
def R_heldMargin (x1 : Int32) (x2 : Int32) (m : Mem) : Option (Int32 × Mem) :=
  bn (R_stands (mI m 1612 0) (mI m 1613 0) (mI m 1614 0) m) fun _ m2 =>
  gd (inb 1 12) <|
  vb (wI m2 50 (ix 1) x2) fun m8 =>
  bn (R_marginOf x1 m8) fun r9 m10 =>
  bp (R_held r9 (-9999) 9999) fun r13 =>
  some (r13, m10)
set_option maxRecDepth 100000 in
def R_margin_56 (m : Mem) : Option (Int32 × Mem) :=
  some ((-1000000), m)
set_option maxRecDepth 100000 in
def R_margin (x1 : Int32) (x2 : Int32) (x3 : Int32) (x4 : Int32) (x5 : Int32) (m : Mem) : Option (Int32 × Mem) :=
  bn (R_isWhole x1 x3 x4 x5 m) fun r1 m2 =>
  if r1 = 0 then (
    some ((-1000000), m2))
  else (
    gd (inb x1 160) <|
    bn (R_rowOf (aI m2 45 (ix x1)) x2 m2) fun r7 m8 =>
    if r7 = (-1) then (
      R_margin_56 m8)
    else (
      if x2 < 0 then (
        R_margin_56 m8)
      else (
        gd (inb r7 1536) <|
        gd (inb (aI m8 54 (ix r7)) 750) <|
        if (aI m8 15 (ix (aI m8 54 (ix r7)))) = 2 then (
          bn (R_heldMargin r7 0 m8) fun r16 m17 =>
          some (r16, m17))
        else (
          R_margin_56 m8))))
set_option maxRecDepth 100000 in
def R_rowFact_47 (k5 : Int32 → Int32 → Int32 → Mem → Option (Int32 × Mem)) (x1 : Int32) (x2 : Int32) (x4 : Int32) (m : Mem) : Option (Int32 × Mem) :=
  vb (x4 + (-1) : Int32) fun v1 =>
  k5 x1 x2 v1 m
set_option maxRecDepth 100000 in
def R_rowFact_5 : Nat → Int32 → Int32 → Int32 → Mem → Option (Int32 × Mem)
  | 0, _, _, _, _ => none
  | n + 1, x1, x2, x4, m =>
  if x4 < 0 then (
    some ((-1), m))
  else (
    gd (inb x4 160) <|
    if (aI m 44 (ix x4)) = 6 then (
      gd (inb x4 160) <|
      if (aI m 45 (ix x4)) = x1 then (
        gd (inb x4 160) <|
        if (aI m 46 (ix x4)) = x2 then (
          some (x4, m))
        else (
          R_rowFact_47 (fun z0 z1 z2 z3 => R_rowFact_5 n z0 z1 z2 z3) x1 x2 x4 m))
      else (
        R_rowFact_47 (fun z0 z1 z2 z3 => R_rowFact_5 n z0 z1 z2 z3) x1 x2 x4 m))
    else (
      R_rowFact_47 (fun z0 z1 z2 z3 => R_rowFact_5 n z0 z1 z2 z3) x1 x2 x4 m))
set_option maxRecDepth 100000 in
def R_rowFact (x1 : Int32) (x2 : Int32) (x3 : Int32) (m : Mem) : Option (Int32 × Mem) :=
  vb (x3 - 1 : Int32) fun v1 =>
  R_rowFact_5 FU x1 x2 v1 m
set_option maxRecDepth 100000 in
def R_doneIn (x1 : Int32) (x2 : Int32) (m : Mem) : Option (Int32 × Mem) :=
  if x1 = (-1) then (
    some ((-1), m))
  else (
    gd (inb x1 160) <|
    if x2 < (aI m 48 (ix x1)) then (
      gd (inb ((48 * x1) + x2) 7680) <|
      some (aI m 49 (ix ((48 * x1) + x2)), m))
    else (
      some ((-2), m)))
set_option maxRecDepth 100000 in
def R_did (x1 : Int32) (x2 : Int32) (x3 : Int32) (x4 : Int32) (m : Mem) : Option (Int32 × Mem) :=
  bn (R_isPerson x1 m) fun r1 m2 =>
  if r1 = 0 then (
    some ((-3), m2))
  else (
    bp (R_in x2 0 139) fun r6 =>
    if r6 = 0 then (
      some ((-3), m2))
    else (
      bp (R_in x3 0 47) fun r8 =>
      if r8 = 0 then (
        some ((-3), m2))
      else (
        bn (R_isKnown x4 m2) fun r10 m11 =>
        if r10 = 0 then (
          some ((-3), m11))
        else (
          bn (R_rowFact x1 x2 x4 m11) fun r15 m16 =>
          bn (R_doneIn r15 x3 m16) fun r19 m20 =>
          some (r19, m20)))))
set_option maxRecDepth 100000 in
def R_isHalf (x1 : Int32) (x2 : Int32) (x3 : Int32) (x4 : Int32) (m : Mem) : Option (Int32 × Mem) :=
  bn (R_isPerson x1 m) fun r1 m2 =>
  if r1 = 0 then (
    some (0, m2))
  else (
    bp (R_in x2 0 139) fun r6 =>
    if r6 = 0 then (
      some (0, m2))
    else (
      bp (R_in x3 0 47) fun r8 =>
      if r8 = 0 then (
        some (0, m2))
      else (
        bn (R_isKnown x4 m2) fun r10 m11 =>
        if r10 = 0 then (
          some (0, m11))
        else (
          some (1, m11)))))
set_option maxRecDepth 100000 in
def R_wetOf_43 (x4 : Int32) (m : Mem) : Option (Int32 × Mem) :=
  gd (inb x4 160) <|
  some (aI m 48 (ix x4), m)
set_option maxRecDepth 100000 in
def R_wetOf_51 (k5 : Int32 → Int32 → Int32 → Mem → Option (Int32 × Mem)) (x1 : Int32) (x2 : Int32) (x4 : Int32) (m : Mem) : Option (Int32 × Mem) :=
  vb (x4 + (-1) : Int32) fun v1 =>
  k5 x1 x2 v1 m
set_option maxRecDepth 100000 in
def R_wetOf_5 : Nat → Int32 → Int32 → Int32 → Mem → Option (Int32 × Mem)
  | 0, _, _, _, _ => none
  | n + 1, x1, x2, x4, m =>
  if x4 < 0 then (
    some (0, m))
  else (
    gd (inb x4 160) <|
    if (aI m 44 (ix x4)) = 5 then (
      gd (inb x4 160) <|
      if (aI m 45 (ix x4)) = x1 then (
        gd (inb x4 160) <|
        if (aI m 46 (ix x4)) = x2 then (
          R_wetOf_43 x4 m)
        else (
          R_wetOf_51 (fun z0 z1 z2 z3 => R_wetOf_5 n z0 z1 z2 z3) x1 x2 x4 m))
      else (
        R_wetOf_51 (fun z0 z1 z2 z3 => R_wetOf_5 n z0 z1 z2 z3) x1 x2 x4 m))
    else (
      R_wetOf_51 (fun z0 z1 z2 z3 => R_wetOf_5 n z0 z1 z2 z3) x1 x2 x4 m))
set_option maxRecDepth 100000 in
def R_wetOf (x1 : Int32) (x2 : Int32) (x3 : Int32) (m : Mem) : Option (Int32 × Mem) :=
  vb (x3 - 1 : Int32) fun v1 =>
  R_wetOf_5 FU x1 x2 v1 m
set_option maxRecDepth 100000 in
def R_isTask (x0 : Int32) : Option (Int32) :=
  if x0 < 0 then (
    some (0))
  else (
    if 16 ≤ x0 then (
      some (0))
    else (
      some (1)))
set_option maxRecDepth 100000 in
def R_tasksOf_39 (k15 : Int32 → Int32 → Int32 → Mem → Option (Int32 × Mem)) (x4 : Int32) (x5 : Int32) (x6 : Int32) (m : Mem) : Option (Int32 × Mem) :=
  vb (x6 + 1 : Int32) fun v1 =>
  k15 x4 x5 v1 m
set_option maxRecDepth 100000 in
def R_tasksOf_15 : Nat → Int32 → Int32 → Int32 → Mem → Option (Int32 × Mem)
  | 0, _, _, _, _ => none
  | n + 1, x4, x5, x6, m =>
  if 48 ≤ x6 then (
    some (x5, m))
  else (
    bn (R_doneIn x4 x6 m) fun r2 m3 =>
    bp (R_isTask r2) fun r6 =>
    if r6 = 0 then (
      R_tasksOf_39 (fun z0 z1 z2 z3 => R_tasksOf_15 n z0 z1 z2 z3) x4 x5 x6 m3)
    else (
      vb (x5 + 1 : Int32) fun v8 =>
      R_tasksOf_39 (fun z0 z1 z2 z3 => R_tasksOf_15 n z0 z1 z2 z3) x4 v8 x6 m3))
set_option maxRecDepth 100000 in
def R_tasksOf (x1 : Int32) (x2 : Int32) (x3 : Int32) (m : Mem) : Option (Int32 × Mem) :=
  bn (R_rowFact x1 x2 x3 m) fun r1 m2 =>
  R_tasksOf_15 FU r1 0 0 m2
set_option maxRecDepth 100000 in
def R_asks (x1 : Int32) (x2 : Int32) (m : Mem) : Option (Unit × Mem) :=
  bn (R_stands (mI m 1612 0) (mI m 1613 0) (mI m 1614 0) m) fun _ m2 =>
  gd (inb x1 10) <|
  gd (inb 1 12) <|
  vb (wI m2 50 (ix 1) (aI m2 41 (ix x1))) fun m9 =>
  gd (inb x2 48) <|
  gd (inb 5 12) <|
  vb (wI m9 50 (ix 5) (aI m9 60 (ix x2))) fun m14 =>
  gd (inb 6 12) <|
  vb (wI m14 50 (ix 6) ((mI m14 1612 0) - (mI m14 1612 0) / 7 * 7)) fun m18 =>
  gd (inb 7 12) <|
  vb (wI m18 50 (ix 7) x2) fun m22 =>
  gd (inb x2 48) <|
  gd (inb 8 12) <|
  vb (wI m22 50 (ix 8) (aI m22 61 (ix x2))) fun m27 =>
  gd (inb x2 48) <|
  gd (inb 9 12) <|
  vb (wI m27 50 (ix 9) ((mI m27 1638 0) + (aI m27 61 (ix x2)))) fun m32 =>
  gd (inb 10 12) <|
  vb (wI m32 50 (ix 10) (mI m32 1639 0)) fun m36 =>
  gd (inb x1 10) <|
  vb (sI m36 1611 0 (aI m36 40 (ix x1))) fun m39 =>
  some ((), m39)
set_option maxRecDepth 100000 in
def R_isTrue_199 (x1 : Int32) (x2 : Int32) (m : Mem) : Option (Int32 × Mem) :=
  gd (inb x1 5000) <|
  if x2 = (aI m 28 (ix x1)) then (
    some (0, m))
  else (
    some (1, m))
set_option maxRecDepth 100000 in
def R_isTrue_37 (x1 : Int32) (s0 : Int32) (m : Mem) : Option (Int32 × Mem) :=
  R_isTrue_199 x1 s0 m
set_option maxRecDepth 100000 in
def R_isTrue_198 (x1 : Int32) (s0 : Int32) (m : Mem) : Option (Int32 × Mem) :=
  R_isTrue_199 x1 s0 m
set_option maxRecDepth 100000 in
def R_isTrue_197 (x1 : Int32) (m : Mem) : Option (Int32 × Mem) :=
  R_isTrue_198 x1 0 m
set_option maxRecDepth 100000 in
def R_isTrue_183 (x1 : Int32) (x4 : Int32) (s0 : Int32) (m : Mem) : Option (Int32 × Mem) :=
  if s0 = 0 then (
    R_isTrue_197 x1 m)
  else (
    if x4 = 0 then (
      R_isTrue_198 x1 1 m)
    else (
      R_isTrue_197 x1 m))
set_option maxRecDepth 100000 in
def R_isTrue_99 (x1 : Int32) (x3 : Int32) (x5 : Int32) (s0 : Int32) (m : Mem) : Option (Int32 × Mem) :=
  gd (inb x1 5000) <|
  if (aI m 27 (ix x1)) = 0 then (
    if x3 = x5 then (
      R_isTrue_183 x1 s0 1 m)
    else (
      R_isTrue_183 x1 s0 0 m))
  else (
    gd (inb x1 5000) <|
    if (aI m 27 (ix x1)) = 1 then (
      if x3 = x5 then (
        R_isTrue_183 x1 s0 0 m)
      else (
        R_isTrue_183 x1 s0 1 m))
    else (
      gd (inb x1 5000) <|
      if (aI m 27 (ix x1)) = 2 then (
        if x5 ≤ x3 then (
          R_isTrue_183 x1 s0 0 m)
        else (
          R_isTrue_183 x1 s0 1 m))
      else (
        if x5 < x3 then (
          R_isTrue_183 x1 s0 0 m)
        else (
          R_isTrue_183 x1 s0 1 m))))
set_option maxRecDepth 100000 in
def R_isTrue_94 (x1 : Int32) (x3 : Int32) (x5 : Int32) (m : Mem) : Option (Int32 × Mem) :=
  R_isTrue_99 x1 x3 x5 1 m
set_option maxRecDepth 100000 in
def R_isTrue (x1 : Int32) (m : Mem) : Option (Int32 × Mem) :=
  gd (inb x1 5000) <|
  if (aI m 27 (ix x1)) = 4 then (
    gd (inb x1 5000) <|
    gd (inb (aI m 30 (ix x1)) 12500) <|
    if (((mI m 1611 0) >>> ((aI m 34 (ix (aI m 30 (ix x1)))) &&& 31)) &&& 1) = 1 then (
      R_isTrue_37 x1 1 m)
    else (
      R_isTrue_37 x1 0 m))
  else (
    gd (inb x1 5000) <|
    gd (inb x1 5000) <|
    bn (R_termOf (aI m 30 (ix x1)) (aI m 31 (ix x1)) m) fun r8 m9 =>
    vb (mI m9 1610 0 : Int32) fun v12 =>
    gd (inb x1 5000) <|
    gd (inb x1 5000) <|
    bn (R_termOf (aI m9 31 (ix x1)) (aI m9 32 (ix x1)) m9) fun r15 m16 =>
    if v12 = 0 then (
      if (mI m16 1610 0) = 0 then (
        R_isTrue_99 x1 r8 r15 0 m16)
      else (
        R_isTrue_94 x1 r8 r15 m16))
    else (
      R_isTrue_94 x1 r8 r15 m16))
set_option maxRecDepth 100000 in
def R_holds_79 (k26 : Int32 → Int32 → Int32 → Mem → Option (Int32 × Mem)) (x1 : Int32) (x3 : Int32) (s0 : Int32) (m : Mem) : Option (Int32 × Mem) :=
  vb (x3 + 1 : Int32) fun v1 =>
  k26 x1 s0 v1 m
set_option maxRecDepth 100000 in
def R_holds_78 (k26 : Int32 → Int32 → Int32 → Mem → Option (Int32 × Mem)) (x1 : Int32) (x3 : Int32) (m : Mem) : Option (Int32 × Mem) :=
  R_holds_79 k26 x1 x3 0 m
set_option maxRecDepth 100000 in
def R_holds_62 (k26 : Int32 → Int32 → Int32 → Mem → Option (Int32 × Mem)) (x1 : Int32) (x2 : Int32) (x3 : Int32) (m : Mem) : Option (Int32 × Mem) :=
  if x2 = 0 then (
    R_holds_78 k26 x1 x3 m)
  else (
    bn (R_isTrue x3 m) fun r2 m3 =>
    if r2 = 0 then (
      R_holds_78 k26 x1 x3 m3)
    else (
      R_holds_79 k26 x1 x3 1 m3))
set_option maxRecDepth 100000 in
def R_holds_51 (k26 : Int32 → Int32 → Int32 → Mem → Option (Int32 × Mem)) (x1 : Int32) (x2 : Int32) (x3 : Int32) (m : Mem) : Option (Int32 × Mem) :=
  gd (inb x3 5000) <|
  if (aI m 29 (ix x3)) = 0 then (
    R_holds_62 k26 x1 x2 x3 m)
  else (
    R_holds_62 k26 x1 1 x3 m)
set_option maxRecDepth 100000 in
def R_holds_26 : Nat → Int32 → Int32 → Int32 → Mem → Option (Int32 × Mem)
  | 0, _, _, _, _ => none
  | n + 1, x1, x2, x3, m =>
  gd (inb x1 750) <|
  if (aI m 24 (ix x1)) ≤ x3 then (
    gz x2 <|
    some (x2, m))
  else (
    gd (inb x3 5000) <|
    if (aI m 29 (ix x3)) = 0 then (
      R_holds_51 (fun z0 z1 z2 z3 => R_holds_26 n z0 z1 z2 z3) x1 x2 x3 m)
    else (
      if x2 = 0 then (
        R_holds_51 (fun z0 z1 z2 z3 => R_holds_26 n z0 z1 z2 z3) x1 x2 x3 m)
      else (
        some (1, m))))
set_option maxRecDepth 100000 in
def R_holds (x1 : Int32) (m : Mem) : Option (Int32 × Mem) :=
  gd (inb x1 750) <|
  gd (inb x1 750) <|
  if (aI m 23 (ix x1)) = (aI m 24 (ix x1)) then (
    some (1, m))
  else (
    gd (inb x1 750) <|
    vb (aI m 23 (ix x1) : Int32) fun v5 =>
    R_holds_26 FU x1 0 v5 m)
set_option maxRecDepth 100000 in
def R_isBinding_39 (k5 : Int32 → Int32 → Mem → Option (Int32 × Mem)) (x1 : Int32) (x2 : Int32) (m : Mem) : Option (Int32 × Mem) :=
  vb (x2 + 1 : Int32) fun v1 =>
  k5 x1 v1 m
set_option maxRecDepth 100000 in
def R_isBinding_5 : Nat → Int32 → Int32 → Mem → Option (Int32 × Mem)
  | 0, _, _, _ => none
  | n + 1, x1, x2, m =>
  gd (inb x1 25) <|
  if ((30 * x1) + (aI m 14 (ix x1))) ≤ x2 then (
    some (0, m))
  else (
    gd (inb x2 750) <|
    if (aI m 15 (ix x2)) = 0 then (
      bn (R_holds x2 m) fun r5 m6 =>
      if r5 = 0 then (
        R_isBinding_39 (fun z0 z1 z2 => R_isBinding_5 n z0 z1 z2) x1 x2 m6)
      else (
        some (1, m6)))
    else (
      R_isBinding_39 (fun z0 z1 z2 => R_isBinding_5 n z0 z1 z2) x1 x2 m))
set_option maxRecDepth 100000 in
def R_isBinding (x1 : Int32) (m : Mem) : Option (Int32 × Mem) :=
  vb (30 * x1 : Int32) fun v1 =>
  R_isBinding_5 FU x1 v1 m
set_option maxRecDepth 100000 in
def R_isUnder_80 (k2 : Int32 → Int32 → Mem → Option (Int32 × Mem)) (x1 : Int32) (x2 : Int32) (m : Mem) : Option (Int32 × Mem) :=
  vb (x2 + 1 : Int32) fun v1 =>
  k2 x1 v1 m
set_option maxRecDepth 100000 in
def R_isUnder_74 (k2 : Int32 → Int32 → Mem → Option (Int32 × Mem)) (k32 : Int32 → Int32 → Int32 → Mem → Option (Int32 × Mem)) (x1 : Int32) (x2 : Int32) (x3 : Int32) (m : Mem) : Option (Int32 × Mem) :=
  vb (x3 + 1 : Int32) fun v1 =>
  k32 x1 x2 v1 m
set_option maxRecDepth 100000 in
def R_isUnder_32 (k2 : Int32 → Int32 → Mem → Option (Int32 × Mem)) : Nat → Int32 → Int32 → Int32 → Mem → Option (Int32 × Mem)
  | 0, _, _, _, _ => none
  | n + 1, x1, x2, x3, m =>
  gd (inb x2 25) <|
  if ((30 * x2) + (aI m 14 (ix x2))) ≤ x3 then (
    R_isUnder_80 k2 x1 x2 m)
  else (
    gd (inb x3 750) <|
    if (aI m 15 (ix x3)) = 1 then (
      gd (inb x3 750) <|
      gd (inb x1 25) <|
      if (aI m 16 (ix x3)) = (aI m 9 (ix x1)) then (
        some (1, m))
      else (
        R_isUnder_74 k2 (fun z0 z1 z2 z3 => R_isUnder_32 k2 n z0 z1 z2 z3) x1 x2 x3 m))
    else (
      R_isUnder_74 k2 (fun z0 z1 z2 z3 => R_isUnder_32 k2 n z0 z1 z2 z3) x1 x2 x3 m))
set_option maxRecDepth 100000 in
def R_isUnder_2 : Nat → Int32 → Int32 → Mem → Option (Int32 × Mem)
  | 0, _, _, _ => none
  | n + 1, x1, x2, m =>
  if (mI m 1554 0) ≤ x2 then (
    some (0, m))
  else (
    if x2 = x1 then (
      R_isUnder_80 (fun z0 z1 z2 => R_isUnder_2 n z0 z1 z2) x1 x2 m)
    else (
      gd (inb x2 24) <|
      if (aI m 68 (ix x2)) = 0 then (
        R_isUnder_80 (fun z0 z1 z2 => R_isUnder_2 n z0 z1 z2) x1 x2 m)
      else (
        vb (30 * x2 : Int32) fun v5 =>
        R_isUnder_32 (fun z0 z1 z2 => R_isUnder_2 n z0 z1 z2) FU x1 x2 v5 m)))
set_option maxRecDepth 100000 in
def R_isUnder (x1 : Int32) (m : Mem) : Option (Int32 × Mem) :=
  R_isUnder_2 FU x1 0 m
set_option maxRecDepth 100000 in
def R_boundBy_61 (k4 : Int32 → Int32 → Mem → Option (Int32 × Mem)) (x1 : Int32) (x2 : Int32) (m : Mem) : Option (Int32 × Mem) :=
  vb (x2 + 1 : Int32) fun v1 =>
  k4 x1 v1 m
set_option maxRecDepth 100000 in
def R_boundBy_48 (k4 : Int32 → Int32 → Mem → Option (Int32 × Mem)) (x1 : Int32) (x2 : Int32) (s0 : Int32) (s1 : Int32) (m : Mem) : Option (Int32 × Mem) :=
  gd (inb s1 24) <|
  gz s0 <|
  vb (wI m 68 (ix s1) s0) fun m5 =>
  gd (inb x2 24) <|
  if (aI m5 68 (ix x2)) = 0 then (
    R_boundBy_61 k4 x1 x2 m5)
  else (
    vb (x1 + 1 : Int32) fun v8 =>
    R_boundBy_61 k4 v8 x2 m5)
set_option maxRecDepth 100000 in
def R_boundBy_47 (k4 : Int32 → Int32 → Mem → Option (Int32 × Mem)) (x1 : Int32) (x2 : Int32) (s0 : Int32) (m : Mem) : Option (Int32 × Mem) :=
  R_boundBy_48 k4 x1 x2 0 s0 m
set_option maxRecDepth 100000 in
def R_boundBy_117 (k80 : Int32 → Int32 → Int32 → Mem → Option (Int32 × Mem)) (x2 : Int32) (x3 : Int32) (x4 : Int32) (m : Mem) : Option (Int32 × Mem) :=
  vb (x4 + 1 : Int32) fun v1 =>
  k80 x2 x3 v1 m
set_option maxRecDepth 100000 in
def R_boundBy_123 (x2 : Int32) (x3 : Int32) (m : Mem) : Option (Int32 × Mem) :=
  if x2 = 1 then (
    some (x3, m))
  else (
    some ((-2), m))
set_option maxRecDepth 100000 in
def R_boundBy_80 : Nat → Int32 → Int32 → Int32 → Mem → Option (Int32 × Mem)
  | 0, _, _, _, _ => none
  | n + 1, x2, x3, x4, m =>
  if (mI m 1554 0) ≤ x4 then (
    R_boundBy_123 x2 x3 m)
  else (
    gd (inb x4 24) <|
    if (aI m 68 (ix x4)) = 0 then (
      R_boundBy_117 (fun z0 z1 z2 z3 => R_boundBy_80 n z0 z1 z2 z3) x2 x3 x4 m)
    else (
      bn (R_isUnder x4 m) fun r4 m5 =>
      if r4 = 0 then (
        vb (x2 + 1 : Int32) fun v9 =>
        R_boundBy_117 (fun z0 z1 z2 z3 => R_boundBy_80 n z0 z1 z2 z3) v9 x4 x4 m5)
      else (
        R_boundBy_117 (fun z0 z1 z2 z3 => R_boundBy_80 n z0 z1 z2 z3) x2 x3 x4 m5)))
set_option maxRecDepth 100000 in
def R_boundBy_67 (x1 : Int32) (m : Mem) : Option (Int32 × Mem) :=
  if x1 = 0 then (
    some ((-1), m))
  else (
    R_boundBy_80 FU 0 (-1) 0 m)
set_option maxRecDepth 100000 in
def R_boundBy_4 : Nat → Int32 → Int32 → Mem → Option (Int32 × Mem)
  | 0, _, _, _ => none
  | n + 1, x1, x2, m =>
  if (mI m 1554 0) ≤ x2 then (
    R_boundBy_67 x1 m)
  else (
    gd (inb x2 25) <|
    if (aI m 8 (ix x2)) = 0 then (
      gd (inb x2 24) <|
      if (aI m 52 (ix x2)) = 0 then (
        R_boundBy_47 (fun z0 z1 z2 => R_boundBy_4 n z0 z1 z2) x1 x2 x2 m)
      else (
        bn (R_isBinding x2 m) fun r6 m7 =>
        if r6 = 0 then (
          R_boundBy_47 (fun z0 z1 z2 => R_boundBy_4 n z0 z1 z2) x1 x2 x2 m7)
        else (
          R_boundBy_48 (fun z0 z1 z2 => R_boundBy_4 n z0 z1 z2) x1 x2 1 x2 m7)))
    else (
      R_boundBy_47 (fun z0 z1 z2 => R_boundBy_4 n z0 z1 z2) x1 x2 x2 m))
set_option maxRecDepth 100000 in
def R_boundBy (m : Mem) : Option (Int32 × Mem) :=
  R_boundBy_4 FU 0 0 m
set_option maxRecDepth 100000 in
def R_agreeOf_74 (k4 : Int32 → Int32 → Int32 → Mem → Option (Int32 × Mem)) (x1 : Int32) (x2 : Int32) (x3 : Int32) (m : Mem) : Option (Int32 × Mem) :=
  vb (x3 + 1 : Int32) fun v1 =>
  k4 x1 x2 v1 m
set_option maxRecDepth 100000 in
def R_agreeOf_72 (k4 : Int32 → Int32 → Int32 → Mem → Option (Int32 × Mem)) (x1 : Int32) (x3 : Int32) (m : Mem) : Option (Int32 × Mem) :=
  R_agreeOf_74 k4 x1 x3 x3 m
set_option maxRecDepth 100000 in
def R_agreeOf_4 : Nat → Int32 → Int32 → Int32 → Mem → Option (Int32 × Mem)
  | 0, _, _, _, _ => none
  | n + 1, x1, x2, x3, m =>
  if (mI m 1554 0) ≤ x3 then (
    some (x2, m))
  else (
    gd (inb x3 25) <|
    if (aI m 8 (ix x3)) = 3 then (
      gd (inb x3 25) <|
      if (aI m 13 (ix x3)) = x1 then (
        gd (inb x3 24) <|
        if (aI m 52 (ix x3)) = 0 then (
          R_agreeOf_74 (fun z0 z1 z2 z3 => R_agreeOf_4 n z0 z1 z2 z3) x1 x2 x3 m)
        else (
          bn (R_isBinding x3 m) fun r8 m9 =>
          if r8 = 0 then (
            R_agreeOf_74 (fun z0 z1 z2 z3 => R_agreeOf_4 n z0 z1 z2 z3) x1 x2 x3 m9)
          else (
            if x2 = (-1) then (
              R_agreeOf_72 (fun z0 z1 z2 z3 => R_agreeOf_4 n z0 z1 z2 z3) x1 x3 m9)
            else (
              gd (inb x3 25) <|
              gd (inb x2 25) <|
              if (aI m9 11 (ix x3)) < (aI m9 11 (ix x2)) then (
                R_agreeOf_74 (fun z0 z1 z2 z3 => R_agreeOf_4 n z0 z1 z2 z3) x1 x2 x3 m9)
              else (
                R_agreeOf_72 (fun z0 z1 z2 z3 => R_agreeOf_4 n z0 z1 z2 z3) x1 x3 m9)))))
      else (
        R_agreeOf_74 (fun z0 z1 z2 z3 => R_agreeOf_4 n z0 z1 z2 z3) x1 x2 x3 m))
    else (
      R_agreeOf_74 (fun z0 z1 z2 z3 => R_agreeOf_4 n z0 z1 z2 z3) x1 x2 x3 m))
set_option maxRecDepth 100000 in
def R_agreeOf (x1 : Int32) (m : Mem) : Option (Int32 × Mem) :=
  R_agreeOf_4 FU x1 (-1) 0 m
set_option maxRecDepth 100000 in
def R_eachOf_56 (k5 : Int32 → Int32 → Int32 → Mem → Option (Int32 × Mem)) (x1 : Int32) (x2 : Int32) (x3 : Int32) (m : Mem) : Option (Int32 × Mem) :=
  vb (x3 + 1 : Int32) fun v1 =>
  k5 x1 x2 v1 m
set_option maxRecDepth 100000 in
def R_eachOf_5 : Nat → Int32 → Int32 → Int32 → Mem → Option (Int32 × Mem)
  | 0, _, _, _, _ => none
  | n + 1, x1, x2, x3, m =>
  gd (inb x1 24) <|
  if ((64 * x1) + (aI m 53 (ix x1))) ≤ x3 then (
    some ((-1), m))
  else (
    gd (inb x3 1536) <|
    gd (inb (aI m 54 (ix x3)) 750) <|
    if (aI m 15 (ix (aI m 54 (ix x3)))) = 2 then (
      gd (inb x3 1536) <|
      gd (inb (aI m 54 (ix x3)) 750) <|
      if (((aI m 17 (ix (aI m 54 (ix x3)))) >>> (x2 &&& 31)) &&& 1) = 1 then (
        some (x3, m))
      else (
        R_eachOf_56 (fun z0 z1 z2 z3 => R_eachOf_5 n z0 z1 z2 z3) x1 x2 x3 m))
    else (
      R_eachOf_56 (fun z0 z1 z2 z3 => R_eachOf_5 n z0 z1 z2 z3) x1 x2 x3 m))
set_option maxRecDepth 100000 in
def R_eachOf (x1 : Int32) (x2 : Int32) (m : Mem) : Option (Int32 × Mem) :=
  vb (64 * x1 : Int32) fun v1 =>
  R_eachOf_5 FU x1 x2 v1 m
set_option maxRecDepth 100000 in
def R_classes_133 (k42 : Int32 → Int32 → Int32 → Int32 → Int32 → Mem → Option (Unit × Mem)) (x1 : Int32) (x2 : Int32) (x3 : Int32) (x4 : Int32) (x5 : Int32) (m : Mem) : Option (Unit × Mem) :=
  vb (x5 + 1 : Int32) fun v1 =>
  k42 x1 x2 x3 x4 v1 m
set_option maxRecDepth 100000 in
def R_classes_116 (k42 : Int32 → Int32 → Int32 → Int32 → Int32 → Mem → Option (Unit × Mem)) (x1 : Int32) (x2 : Int32) (x3 : Int32) (x4 : Int32) (x5 : Int32) (x6 : Int32) (m : Mem) : Option (Unit × Mem) :=
  if x6 = (-1) then (
    R_classes_133 k42 x1 x2 x3 x4 x5 m)
  else (
    gd (inb x6 1536) <|
    gd (inb x6 1536) <|
    vb (wI m 69 (ix x6) ((aI m 69 (ix x6)) + 1)) fun m6 =>
    R_classes_133 k42 x1 x2 x3 x4 x5 m6)
set_option maxRecDepth 100000 in
def R_classes_70 (k42 : Int32 → Int32 → Int32 → Int32 → Int32 → Mem → Option (Unit × Mem)) (x1 : Int32) (x2 : Int32) (x3 : Int32) (x4 : Int32) (x5 : Int32) (s0 : Int32) (m : Mem) : Option (Unit × Mem) :=
  if s0 = x1 then (
    gd (inb x5 48) <|
    bn (R_eachOf x1 (aI m 60 (ix x5)) m) fun r3 m4 =>
    if x2 = 0 then (
      gd (inb x5 48) <|
      vb (wI m4 63 (ix x5) r3) fun m11 =>
      R_classes_116 k42 x1 x2 x3 x4 x5 r3 m11)
    else (
      gd (inb x5 48) <|
      vb (wI m4 65 (ix x5) r3) fun m15 =>
      R_classes_116 k42 x1 x2 x3 x4 x5 r3 m15))
  else (
    R_classes_133 k42 x1 x2 x3 x4 x5 m)
set_option maxRecDepth 100000 in
def R_classes_286 (k158 : Int32 → Int32 → Int32 → Int32 → Int32 → Int32 → Mem → Option (Unit × Mem)) (x1 : Int32) (x2 : Int32) (x3 : Int32) (x4 : Int32) (x5 : Int32) (x6 : Int32) (m : Mem) : Option (Unit × Mem) :=
  vb (x6 + 1 : Int32) fun v1 =>
  k158 x1 x2 x3 x4 x5 v1 m
set_option maxRecDepth 100000 in
def R_classes_268 (k158 : Int32 → Int32 → Int32 → Int32 → Int32 → Int32 → Mem → Option (Unit × Mem)) (x1 : Int32) (x2 : Int32) (x3 : Int32) (x4 : Int32) (x5 : Int32) (x6 : Int32) (x7 : Int32) (s0 : Int32) (m : Mem) : Option (Unit × Mem) :=
  if s0 = 0 then (
    R_classes_286 k158 x1 x2 x3 x4 x5 x6 m)
  else (
    R_classes_286 k158 x1 x2 x3 x6 x7 x6 m)
set_option maxRecDepth 100000 in
def R_classes_263 (k158 : Int32 → Int32 → Int32 → Int32 → Int32 → Int32 → Mem → Option (Unit × Mem)) (x1 : Int32) (x2 : Int32) (x3 : Int32) (x4 : Int32) (x5 : Int32) (x6 : Int32) (x7 : Int32) (m : Mem) : Option (Unit × Mem) :=
  R_classes_268 k158 x1 x2 x3 x4 x5 x6 x7 1 m
set_option maxRecDepth 100000 in
def R_classes_267 (k158 : Int32 → Int32 → Int32 → Int32 → Int32 → Int32 → Mem → Option (Unit × Mem)) (x1 : Int32) (x2 : Int32) (x3 : Int32) (x4 : Int32) (x5 : Int32) (x6 : Int32) (x7 : Int32) (m : Mem) : Option (Unit × Mem) :=
  R_classes_268 k158 x1 x2 x3 x4 x5 x6 x7 0 m
set_option maxRecDepth 100000 in
def R_classes_256 (k158 : Int32 → Int32 → Int32 → Int32 → Int32 → Int32 → Mem → Option (Unit × Mem)) (x1 : Int32) (x2 : Int32) (x3 : Int32) (x4 : Int32) (x5 : Int32) (x6 : Int32) (x7 : Int32) (m : Mem) : Option (Unit × Mem) :=
  if x7 ≤ x5 then (
    R_classes_267 k158 x1 x2 x3 x4 x5 x6 x7 m)
  else (
    R_classes_263 k158 x1 x2 x3 x4 x5 x6 x7 m)
set_option maxRecDepth 100000 in
def R_classes_229 (k158 : Int32 → Int32 → Int32 → Int32 → Int32 → Int32 → Mem → Option (Unit × Mem)) (x1 : Int32) (x2 : Int32) (x3 : Int32) (x4 : Int32) (x5 : Int32) (x6 : Int32) (x7 : Int32) (m : Mem) : Option (Unit × Mem) :=
  gd (inb x1 24) <|
  if (aI m 56 (ix x1)) = 2 then (
    R_classes_256 k158 x1 x2 x3 x4 x5 x6 x7 m)
  else (
    gd (inb x6 1536) <|
    gd (inb x4 1536) <|
    if (aI m 69 (ix x6)) = (aI m 69 (ix x4)) then (
      R_classes_256 k158 x1 x2 x3 x4 x5 x6 x7 m)
    else (
      R_classes_267 k158 x1 x2 x3 x4 x5 x6 x7 m))
set_option maxRecDepth 100000 in
def R_classes_378 (k295 : Int32 → Int32 → Int32 → Int32 → Mem → Option (Unit × Mem)) (x1 : Int32) (x2 : Int32) (x4 : Int32) (x6 : Int32) (m : Mem) : Option (Unit × Mem) :=
  vb (x6 + 1 : Int32) fun v1 =>
  k295 x1 x2 x4 v1 m
set_option maxRecDepth 100000 in
def R_classes_354 (k295 : Int32 → Int32 → Int32 → Int32 → Mem → Option (Unit × Mem)) (x1 : Int32) (x2 : Int32) (x4 : Int32) (x6 : Int32) (m : Mem) : Option (Unit × Mem) :=
  if x2 = 0 then (
    gd (inb x6 48) <|
    if (aI m 63 (ix x6)) = (-1) then (
      R_classes_378 k295 x1 x2 x4 x6 m)
    else (
      gd (inb x6 48) <|
      vb (wI m 63 (ix x6) x4) fun m7 =>
      R_classes_378 k295 x1 x2 x4 x6 m7))
  else (
    R_classes_378 k295 x1 x2 x4 x6 m)
set_option maxRecDepth 100000 in
def R_classes_323 (k295 : Int32 → Int32 → Int32 → Int32 → Mem → Option (Unit × Mem)) (x1 : Int32) (x2 : Int32) (x4 : Int32) (x6 : Int32) (s0 : Int32) (m : Mem) : Option (Unit × Mem) :=
  if s0 = x1 then (
    if x2 = 0 then (
      R_classes_354 k295 x1 x2 x4 x6 m)
    else (
      gd (inb x6 48) <|
      if (aI m 65 (ix x6)) = (-1) then (
        R_classes_354 k295 x1 x2 x4 x6 m)
      else (
        gd (inb x6 48) <|
        vb (wI m 65 (ix x6) x4) fun m8 =>
        R_classes_354 k295 x1 x2 x4 x6 m8)))
  else (
    R_classes_378 k295 x1 x2 x4 x6 m)
set_option maxRecDepth 100000 in
def R_classes_295 : Nat → Int32 → Int32 → Int32 → Int32 → Mem → Option (Unit × Mem)
  | 0, _, _, _, _, _ => none
  | n + 1, x1, x2, x4, x6, m =>
  if 48 ≤ x6 then (
    some ((), m))
  else (
    if x2 = 0 then (
      gd (inb x6 48) <|
      R_classes_323 (fun z0 z1 z2 z3 z4 => R_classes_295 n z0 z1 z2 z3 z4) x1 x2 x4 x6 (aI m 62 (ix x6)) m)
    else (
      gd (inb x6 48) <|
      R_classes_323 (fun z0 z1 z2 z3 z4 => R_classes_295 n z0 z1 z2 z3 z4) x1 x2 x4 x6 (aI m 64 (ix x6)) m))
set_option maxRecDepth 100000 in
def R_classes_292 (x1 : Int32) (x2 : Int32) (x4 : Int32) (m : Mem) : Option (Unit × Mem) :=
  R_classes_295 FU x1 x2 x4 0 m
set_option maxRecDepth 100000 in
def R_classes_158 : Nat → Int32 → Int32 → Int32 → Int32 → Int32 → Int32 → Mem → Option (Unit × Mem)
  | 0, _, _, _, _, _, _, _ => none
  | n + 1, x1, x2, x3, x4, x5, x6, m =>
  gd (inb x1 24) <|
  if ((64 * x1) + (aI m 53 (ix x1))) ≤ x6 then (
    R_classes_292 x1 x2 x4 m)
  else (
    gd (inb x6 1536) <|
    if (aI m 69 (ix x6)) = 0 then (
      R_classes_286 (fun z0 z1 z2 z3 z4 z5 z6 => R_classes_158 n z0 z1 z2 z3 z4 z5 z6) x1 x2 x3 x4 x5 x6 m)
    else (
      bn (R_heldMargin x6 x3 m) fun r5 m6 =>
      if x4 = (-1) then (
        R_classes_263 (fun z0 z1 z2 z3 z4 z5 z6 => R_classes_158 n z0 z1 z2 z3 z4 z5 z6) x1 x2 x3 x4 x5 x6 r5 m6)
      else (
        gd (inb x1 24) <|
        if (aI m6 56 (ix x1)) = 1 then (
          gd (inb x6 1536) <|
          gd (inb x4 1536) <|
          if (aI m6 69 (ix x4)) < (aI m6 69 (ix x6)) then (
            R_classes_263 (fun z0 z1 z2 z3 z4 z5 z6 => R_classes_158 n z0 z1 z2 z3 z4 z5 z6) x1 x2 x3 x4 x5 x6 r5 m6)
          else (
            R_classes_229 (fun z0 z1 z2 z3 z4 z5 z6 => R_classes_158 n z0 z1 z2 z3 z4 z5 z6) x1 x2 x3 x4 x5 x6 r5 m6))
        else (
          R_classes_229 (fun z0 z1 z2 z3 z4 z5 z6 => R_classes_158 n z0 z1 z2 z3 z4 z5 z6) x1 x2 x3 x4 x5 x6 r5 m6))))
set_option maxRecDepth 100000 in
def R_classes_139 (x1 : Int32) (x2 : Int32) (x3 : Int32) (x4 : Int32) (m : Mem) : Option (Unit × Mem) :=
  gd (inb x1 24) <|
  if (aI m 56 (ix x1)) = 0 then (
    some ((), m))
  else (
    vb (64 * x1 : Int32) fun v3 =>
    R_classes_158 FU x1 x2 x3 x4 0 v3 m)
set_option maxRecDepth 100000 in
def R_classes_42 : Nat → Int32 → Int32 → Int32 → Int32 → Int32 → Mem → Option (Unit × Mem)
  | 0, _, _, _, _, _, _ => none
  | n + 1, x1, x2, x3, x4, x5, m =>
  if 48 ≤ x5 then (
    R_classes_139 x1 x2 x3 x4 m)
  else (
    if x2 = 0 then (
      gd (inb x5 48) <|
      R_classes_70 (fun z0 z1 z2 z3 z4 z5 => R_classes_42 n z0 z1 z2 z3 z4 z5) x1 x2 x3 x4 x5 (aI m 62 (ix x5)) m)
    else (
      gd (inb x5 48) <|
      R_classes_70 (fun z0 z1 z2 z3 z4 z5 => R_classes_42 n z0 z1 z2 z3 z4 z5) x1 x2 x3 x4 x5 (aI m 64 (ix x5)) m))
set_option maxRecDepth 100000 in
def R_classes_36 (x1 : Int32) (x2 : Int32) (x3 : Int32) (m : Mem) : Option (Unit × Mem) :=
  R_classes_42 FU x1 x2 x3 (-1) 0 m
set_option maxRecDepth 100000 in
def R_classes_6 : Nat → Int32 → Int32 → Int32 → Int32 → Mem → Option (Unit × Mem)
  | 0, _, _, _, _, _ => none
  | n + 1, x1, x2, x3, x4, m =>
  gd (inb x1 24) <|
  if ((64 * x1) + (aI m 53 (ix x1))) ≤ x4 then (
    R_classes_36 x1 x2 x3 m)
  else (
    gd (inb x4 1536) <|
    vb (wI m 69 (ix x4) 0) fun m6 =>
    vb (x4 + 1 : Int32) fun v7 =>
    R_classes_6 n x1 x2 x3 v7 m6)
set_option maxRecDepth 100000 in
def R_classes (x1 : Int32) (x2 : Int32) (x3 : Int32) (m : Mem) : Option (Unit × Mem) :=
  vb (64 * x1 : Int32) fun v1 =>
  R_classes_6 FU x1 x2 x3 v1 m
set_option maxRecDepth 100000 in
def R_isBarred_54 (k2 : Int32 → Int32 → Mem → Option (Int32 × Mem)) (x1 : Int32) (x2 : Int32) (m : Mem) : Option (Int32 × Mem) :=
  vb (x2 + 1 : Int32) fun v1 =>
  k2 x1 v1 m
set_option maxRecDepth 100000 in
def R_isBarred_12 (k2 : Int32 → Int32 → Mem → Option (Int32 × Mem)) : Nat → Int32 → Int32 → Int32 → Mem → Option (Int32 × Mem)
  | 0, _, _, _, _ => none
  | n + 1, x1, x2, x3, m =>
  gd (inb x2 64) <|
  gd (inb (aI m 71 (ix x2)) 750) <|
  if (aI m 25 (ix (aI m 71 (ix x2)))) ≤ x3 then (
    R_isBarred_54 k2 x1 x2 m)
  else (
    gd (inb x2 64) <|
    gd (inb ((4 * (aI m 71 (ix x2))) + x3) 3000) <|
    if (aI m 26 (ix ((4 * (aI m 71 (ix x2))) + x3))) = x1 then (
      some (1, m))
    else (
      vb (x3 + 1 : Int32) fun v7 =>
      R_isBarred_12 k2 n x1 x2 v7 m))
set_option maxRecDepth 100000 in
def R_isBarred_2 : Nat → Int32 → Int32 → Mem → Option (Int32 × Mem)
  | 0, _, _, _ => none
  | n + 1, x1, x2, m =>
  if (mI m 1643 0) ≤ x2 then (
    some (0, m))
  else (
    R_isBarred_12 (fun z0 z1 z2 => R_isBarred_2 n z0 z1 z2) FU x1 x2 0 m)
set_option maxRecDepth 100000 in
def R_isBarred (x1 : Int32) (m : Mem) : Option (Int32 × Mem) :=
  R_isBarred_2 FU x1 0 m
set_option maxRecDepth 100000 in
def R_worthBy_249 (k87 : Int32 → Int32 → Int32 → Int32 → Mem → Option (Int32 × Mem)) (x3 : Int32) (x6 : Int32) (x7 : Int32) (x8 : Int32) (m : Mem) : Option (Int32 × Mem) :=
  vb (x8 + 1 : Int32) fun v1 =>
  k87 x3 x6 x7 v1 m
set_option maxRecDepth 100000 in
def R_worthBy_212 (k87 : Int32 → Int32 → Int32 → Int32 → Mem → Option (Int32 × Mem)) (x3 : Int32) (x6 : Int32) (x7 : Int32) (x8 : Int32) (x9 : Int32) (m : Mem) : Option (Int32 × Mem) :=
  gd (inb (mI m 1643 0) 64) <|
  vb (wI m 71 (ix (mI m 1643 0)) x9) fun m4 =>
  gd (inb x9 750) <|
  gd (inb (mI m4 1643 0) 64) <|
  vb (wI m4 70 (ix (mI m4 1643 0)) (aI m4 16 (ix x9))) fun m9 =>
  vb (sI m9 1643 0 ((mI m9 1643 0) + 1)) fun m11 =>
  R_worthBy_249 k87 x3 x6 x7 x8 m11
set_option maxRecDepth 100000 in
def R_worthBy_255 (x6 : Int32) (x7 : Int32) (m : Mem) : Option (Int32 × Mem) :=
  bp (R_held x6 0 1000) fun r1 =>
  bp (R_held x7 0 9999) fun r2 =>
  some (((mI m 1642 0) * r1) + (200 * r2), m)
set_option maxRecDepth 100000 in
def R_worthBy_87 : Nat → Int32 → Int32 → Int32 → Int32 → Mem → Option (Int32 × Mem)
  | 0, _, _, _, _, _ => none
  | n + 1, x3, x6, x7, x8, m =>
  gd (inb x3 24) <|
  if ((64 * x3) + (aI m 53 (ix x3))) ≤ x8 then (
    R_worthBy_255 x6 x7 m)
  else (
    gd (inb x8 1536) <|
    vb (aI m 54 (ix x8) : Int32) fun v4 =>
    gd (inb v4 750) <|
    if (aI m 15 (ix v4)) = 2 then (
      R_worthBy_249 (fun z0 z1 z2 z3 z4 => R_worthBy_87 n z0 z1 z2 z3 z4) x3 x6 x7 x8 m)
    else (
      gd (inb v4 750) <|
      bn (R_isBarred (aI m 16 (ix v4)) m) fun r8 m9 =>
      if r8 = 0 then (
        bn (R_holds v4 m9) fun r13 m14 =>
        if r13 = 0 then (
          R_worthBy_249 (fun z0 z1 z2 z3 z4 => R_worthBy_87 n z0 z1 z2 z3 z4) x3 x6 x7 x8 m14)
        else (
          gd (inb v4 750) <|
          gd (inb v4 750) <|
          bn (R_termOf (aI m14 21 (ix v4)) (aI m14 22 (ix v4)) m14) fun r20 m21 =>
          gd (inb v4 750) <|
          if (aI m21 15 (ix v4)) = 4 then (
            bp (R_held r20 (-100) 400) fun r26 =>
            vb (x6 + r26 : Int32) fun v27 =>
            R_worthBy_212 (fun z0 z1 z2 z3 z4 => R_worthBy_87 n z0 z1 z2 z3 z4) x3 v27 x7 x8 v4 m21)
          else (
            bp (R_held r20 0 999) fun r28 =>
            vb (x7 + r28 : Int32) fun v29 =>
            R_worthBy_212 (fun z0 z1 z2 z3 z4 => R_worthBy_87 n z0 z1 z2 z3 z4) x3 x6 v29 x8 v4 m21)))
      else (
        R_worthBy_249 (fun z0 z1 z2 z3 z4 => R_worthBy_87 n z0 z1 z2 z3 z4) x3 x6 x7 x8 m9)))
set_option maxRecDepth 100000 in
def R_worthBy_63 (x3 : Int32) (m : Mem) : Option (Int32 × Mem) :=
  gd (inb 11 12) <|
  vb (wI m 50 (ix 11) (mI m 1642 0)) fun m4 =>
  vb (64 * x3 : Int32) fun v5 =>
  R_worthBy_87 FU x3 100 0 v5 m4
set_option maxRecDepth 100000 in
def R_worthBy (x1 : Int32) (x2 : Int32) (x3 : Int32) (x4 : Int32) (m : Mem) : Option (Int32 × Mem) :=
  vb (sI m 1643 0 0) fun m2 =>
  vb (sI m2 1642 0 0) fun m4 =>
  if x4 = (-1) then (
    some (0, m4))
  else (
    gd (inb x1 10) <|
    bn (R_heldMargin x4 (aI m4 41 (ix x1)) m4) fun r7 m8 =>
    bn (R_asks x1 x2 m8) fun _ m12 =>
    gd (inb 0 12) <|
    vb (sI m12 1642 0 ((aI m12 50 (ix 0)) + r7)) fun m17 =>
    if 0 ≤ (mI m17 1642 0) then (
      R_worthBy_63 x3 m17)
    else (
      vb (sI m17 1642 0 0) fun m20 =>
      R_worthBy_63 x3 m20))
set_option maxRecDepth 100000 in
def R_looks_269 (k125 : Int32 → Int32 → Int32 → Int32 → Mem → Option (Unit × Mem)) (x1 : Int32) (x4 : Int32) (x5 : Int32) (x6 : Int32) (m : Mem) : Option (Unit × Mem) :=
  vb (x6 + 1 : Int32) fun v1 =>
  k125 x1 x4 x5 v1 m
set_option maxRecDepth 100000 in
def R_looks_346 (k278 : Int32 → Int32 → Mem → Option (Unit × Mem)) (x1 : Int32) (x6 : Int32) (m : Mem) : Option (Unit × Mem) :=
  vb (x6 + 1 : Int32) fun v1 =>
  k278 x1 v1 m
set_option maxRecDepth 100000 in
def R_looks_337 (k278 : Int32 → Int32 → Mem → Option (Unit × Mem)) (x1 : Int32) (x6 : Int32) (s0 : Int32) (s1 : Int32) (m : Mem) : Option (Unit × Mem) :=
  gd (inb x1 10) <|
  bn (R_classes s1 s0 (aI m 41 (ix x1)) m) fun _ m3 =>
  R_looks_346 k278 x1 x6 m3
set_option maxRecDepth 100000 in
def R_looks_318 (k278 : Int32 → Int32 → Mem → Option (Unit × Mem)) (x1 : Int32) (x6 : Int32) (m : Mem) : Option (Unit × Mem) :=
  gd (inb x6 25) <|
  if (aI m 8 (ix x6)) = 3 then (
    R_looks_337 k278 x1 x6 1 x6 m)
  else (
    R_looks_337 k278 x1 x6 0 x6 m)
set_option maxRecDepth 100000 in
def R_looks_442 (k355 : Int32 → Int32 → Mem → Option (Unit × Mem)) (x1 : Int32) (x6 : Int32) (m : Mem) : Option (Unit × Mem) :=
  vb (x6 + 1 : Int32) fun v1 =>
  k355 x1 v1 m
set_option maxRecDepth 100000 in
def R_looks_355 : Nat → Int32 → Int32 → Mem → Option (Unit × Mem)
  | 0, _, _, _ => none
  | n + 1, x1, x6, m =>
  if 48 ≤ x6 then (
    some ((), m))
  else (
    gd (inb x6 48) <|
    if 0 ≤ (aI m 62 (ix x6)) then (
      gd (inb x6 48) <|
      gd (inb x6 48) <|
      bn (R_worthBy x1 x6 (aI m 62 (ix x6)) (aI m 63 (ix x6)) m) fun r6 m7 =>
      gd (inb x6 48) <|
      vb (wI m7 66 (ix x6) r6) fun m13 =>
      gd (inb x6 48) <|
      if (aI m13 64 (ix x6)) = (-1) then (
        R_looks_442 (fun z0 z1 z2 => R_looks_355 n z0 z1 z2) x1 x6 m13)
      else (
        gd (inb x6 48) <|
        gd (inb x6 48) <|
        bn (R_worthBy x1 x6 (aI m13 64 (ix x6)) (aI m13 65 (ix x6)) m13) fun r18 m19 =>
        gd (inb x6 48) <|
        vb (wI m19 67 (ix x6) r18) fun m25 =>
        R_looks_442 (fun z0 z1 z2 => R_looks_355 n z0 z1 z2) x1 x6 m25))
    else (
      R_looks_442 (fun z0 z1 z2 => R_looks_355 n z0 z1 z2) x1 x6 m))
set_option maxRecDepth 100000 in
def R_looks_352 (x1 : Int32) (m : Mem) : Option (Unit × Mem) :=
  R_looks_355 FU x1 0 m
set_option maxRecDepth 100000 in
def R_looks_278 : Nat → Int32 → Int32 → Mem → Option (Unit × Mem)
  | 0, _, _, _ => none
  | n + 1, x1, x6, m =>
  if (mI m 1554 0) ≤ x6 then (
    R_looks_352 x1 m)
  else (
    gd (inb x6 24) <|
    if (aI m 52 (ix x6)) = 0 then (
      R_looks_346 (fun z0 z1 z2 => R_looks_278 n z0 z1 z2) x1 x6 m)
    else (
      gd (inb x6 25) <|
      if (aI m 8 (ix x6)) = 0 then (
        R_looks_318 (fun z0 z1 z2 => R_looks_278 n z0 z1 z2) x1 x6 m)
      else (
        gd (inb x6 25) <|
        if (aI m 8 (ix x6)) = 3 then (
          R_looks_318 (fun z0 z1 z2 => R_looks_278 n z0 z1 z2) x1 x6 m)
        else (
          R_looks_346 (fun z0 z1 z2 => R_looks_278 n z0 z1 z2) x1 x6 m))))
set_option maxRecDepth 100000 in
def R_looks_275 (x1 : Int32) (m : Mem) : Option (Unit × Mem) :=
  R_looks_278 FU x1 0 m
set_option maxRecDepth 100000 in
def R_looks_125 : Nat → Int32 → Int32 → Int32 → Int32 → Mem → Option (Unit × Mem)
  | 0, _, _, _, _, _ => none
  | n + 1, x1, x4, x5, x6, m =>
  if 48 ≤ x6 then (
    R_looks_275 x1 m)
  else (
    bn (R_doneIn x4 x6 m) fun r2 m3 =>
    gd (inb x6 48) <|
    vb (wI m3 60 (ix x6) r2) fun m9 =>
    gd (inb x6 48) <|
    vb (wI m9 61 (ix x6) x5) fun m13 =>
    gd (inb x6 48) <|
    vb (wI m13 62 (ix x6) (-1)) fun m17 =>
    gd (inb x6 48) <|
    vb (wI m17 64 (ix x6) (-1)) fun m21 =>
    gd (inb x6 48) <|
    vb (wI m21 63 (ix x6) (-1)) fun m25 =>
    gd (inb x6 48) <|
    vb (wI m25 65 (ix x6) (-1)) fun m29 =>
    gd (inb x6 48) <|
    vb (wI m29 66 (ix x6) 0) fun m33 =>
    gd (inb x6 48) <|
    vb (wI m33 67 (ix x6) 0) fun m37 =>
    gd (inb x6 48) <|
    bp (R_isTask (aI m37 60 (ix x6))) fun r39 =>
    if r39 = 0 then (
      R_looks_269 (fun z0 z1 z2 z3 z4 => R_looks_125 n z0 z1 z2 z3 z4) x1 x4 x5 x6 m37)
    else (
      vb (x5 + 1 : Int32) fun v41 =>
      bn (R_asks x1 x6 m37) fun _ m43 =>
      bn (R_boundBy m43) fun r46 m47 =>
      gd (inb x6 48) <|
      vb (wI m47 62 (ix x6) r46) fun m53 =>
      gd (inb x6 48) <|
      if (aI m53 62 (ix x6)) < 0 then (
        R_looks_269 (fun z0 z1 z2 z3 z4 => R_looks_125 n z0 z1 z2 z3 z4) x1 x4 v41 x6 m53)
      else (
        gd (inb x6 48) <|
        bn (R_agreeOf (aI m53 62 (ix x6)) m53) fun r57 m58 =>
        gd (inb x6 48) <|
        vb (wI m58 64 (ix x6) r57) fun m64 =>
        R_looks_269 (fun z0 z1 z2 z3 z4 => R_looks_125 n z0 z1 z2 z3 z4) x1 x4 v41 x6 m64)))
set_option maxRecDepth 100000 in
def R_looks_119 (x1 : Int32) (x4 : Int32) (m : Mem) : Option (Unit × Mem) :=
  R_looks_125 FU x1 x4 0 0 m
set_option maxRecDepth 100000 in
def R_looks_90 : Nat → Int32 → Int32 → Int32 → Int32 → Int32 → Mem → Option (Unit × Mem)
  | 0, _, _, _, _, _, _ => none
  | n + 1, x1, x2, x3, x4, x5, m =>
  if x2 ≤ x5 then (
    R_looks_119 x1 x4 m)
  else (
    bn (R_tasksOf x1 x5 x3 m) fun r2 m3 =>
    vb (sI m3 1638 0 ((mI m 1638 0) + r2)) fun m7 =>
    vb (x5 + 1 : Int32) fun v8 =>
    R_looks_90 n x1 x2 x3 x4 v8 m7)
set_option maxRecDepth 100000 in
def R_looks_37 (x1 : Int32) (x2 : Int32) (x3 : Int32) (m : Mem) : Option (Unit × Mem) :=
  vb (sI m 1627 0 x2) fun m2 =>
  vb (sI m2 1628 0 x1) fun m4 =>
  vb (sI m4 1629 0 x3) fun m6 =>
  bn (R_rowFact x1 x2 x3 m6) fun r7 m8 =>
  gd (inb x1 10) <|
  bn (R_wetOf (aI m8 39 (ix x1)) x2 x3 m8) fun r12 m13 =>
  vb (sI m13 1639 0 r12) fun m17 =>
  vb (sI m17 1638 0 0) fun m19 =>
  vb (x2 - (x2 - x2 / 7 * 7) : Int32) fun v20 =>
  R_looks_90 FU x1 x2 x3 r7 v20 m19
set_option maxRecDepth 100000 in
def R_looks (x1 : Int32) (x2 : Int32) (x3 : Int32) (m : Mem) : Option (Unit × Mem) :=
  gd (inb x1 10) <|
  bn (R_builds x2 (aI m 39 (ix x1)) x3 m) fun _ m3 =>
  if (mI m3 1627 0) = x2 then (
    if (mI m3 1628 0) = x1 then (
      if (mI m3 1629 0) = x3 then (
        some ((), m3))
      else (
        R_looks_37 x1 x2 x3 m3))
    else (
      R_looks_37 x1 x2 x3 m3))
  else (
    R_looks_37 x1 x2 x3 m3)
set_option maxRecDepth 100000 in
def R_bound (x1 : Int32) (x2 : Int32) (x3 : Int32) (x4 : Int32) (m : Mem) : Option (Int32 × Mem) :=
  bn (R_isHalf x1 x2 x3 x4 m) fun r1 m2 =>
  if r1 = 0 then (
    some ((-1), m2))
  else (
    bn (R_looks x1 x2 x4 m2) fun _ m7 =>
    gd (inb x3 48) <|
    if 0 ≤ (aI m7 62 (ix x3)) then (
      gd (inb x3 48) <|
      gd (inb (aI m7 62 (ix x3)) 25) <|
      some (aI m7 12 (ix (aI m7 62 (ix x3))), m7))
    else (
      gd (inb x3 48) <|
      some (aI m7 62 (ix x3), m7)))
set_option maxRecDepth 100000 in
def R_classed (x1 : Int32) (x2 : Int32) (x3 : Int32) (x4 : Int32) (m : Mem) : Option (Int32 × Mem) :=
  bn (R_isHalf x1 x2 x3 x4 m) fun r1 m2 =>
  if r1 = 0 then (
    some ((-1), m2))
  else (
    bn (R_looks x1 x2 x4 m2) fun _ m7 =>
    gd (inb x3 48) <|
    if (aI m7 62 (ix x3)) < 0 then (
      some ((-1), m7))
    else (
      gd (inb x3 48) <|
      if (aI m7 63 (ix x3)) = (-1) then (
        some ((-1), m7))
      else (
        gd (inb x3 48) <|
        gd (inb (aI m7 63 (ix x3)) 1536) <|
        gd (inb (aI m7 54 (ix (aI m7 63 (ix x3)))) 750) <|
        some (aI m7 16 (ix (aI m7 54 (ix (aI m7 63 (ix x3))))), m7))))
set_option maxRecDepth 100000 in
def R_bits_4 : Nat → Int32 → Int32 → Int32 → Option (Int32)
  | 0, _, _, _ => none
  | n + 1, x0, x1, x2 =>
  if 16 ≤ x2 then (
    some (x1))
  else (
    vb (x1 + ((x0 >>> (x2 &&& 31)) &&& 1) : Int32) fun v2 =>
    vb (x2 + 1 : Int32) fun v3 =>
    R_bits_4 n x0 v2 v3)
set_option maxRecDepth 100000 in
def R_bits (x0 : Int32) : Option (Int32) :=
  R_bits_4 FU x0 0 0
set_option maxRecDepth 100000 in
def R_nearest_179 (k60 : Int32 → Int32 → Int32 → Int32 → Int32 → Mem → Option (Int32 × Mem)) (x3 : Int32) (x5 : Int32) (x6 : Int32) (x7 : Int32) (x8 : Int32) (m : Mem) : Option (Int32 × Mem) :=
  vb (x8 + 1 : Int32) fun v1 =>
  k60 x3 x5 x6 x7 v1 m
set_option maxRecDepth 100000 in
def R_nearest_173 (k60 : Int32 → Int32 → Int32 → Int32 → Int32 → Mem → Option (Int32 × Mem)) (k104 : Int32 → Int32 → Int32 → Int32 → Int32 → Int32 → Int32 → Mem → Option (Int32 × Mem)) (x3 : Int32) (x5 : Int32) (x6 : Int32) (x7 : Int32) (x8 : Int32) (x9 : Int32) (x10 : Int32) (m : Mem) : Option (Int32 × Mem) :=
  vb (x10 + 1 : Int32) fun v1 =>
  k104 x3 x5 x6 x7 x8 x9 v1 m
set_option maxRecDepth 100000 in
def R_nearest_153 (k60 : Int32 → Int32 → Int32 → Int32 → Int32 → Mem → Option (Int32 × Mem)) (k104 : Int32 → Int32 → Int32 → Int32 → Int32 → Int32 → Int32 → Mem → Option (Int32 × Mem)) (x3 : Int32) (x5 : Int32) (x6 : Int32) (x7 : Int32) (x8 : Int32) (x9 : Int32) (x10 : Int32) (s0 : Int32) (m : Mem) : Option (Int32 × Mem) :=
  if x7 < s0 then (
    R_nearest_173 k60 k104 x3 x5 x9 s0 x8 x9 x10 m)
  else (
    R_nearest_173 k60 k104 x3 x5 x6 x7 x8 x9 x10 m)
set_option maxRecDepth 100000 in
def R_nearest_104 (k60 : Int32 → Int32 → Int32 → Int32 → Int32 → Mem → Option (Int32 × Mem)) : Nat → Int32 → Int32 → Int32 → Int32 → Int32 → Int32 → Int32 → Mem → Option (Int32 × Mem)
  | 0, _, _, _, _, _, _, _, _ => none
  | n + 1, x3, x5, x6, x7, x8, x9, x10, m =>
  if 16 ≤ x10 then (
    R_nearest_179 k60 x3 x5 x6 x7 x8 m)
  else (
    gd (inb x9 750) <|
    if (((aI m 17 (ix x9)) >>> (x10 &&& 31)) &&& 1) = 1 then (
      gd (inb x10 16) <|
      gd (inb x3 48) <|
      gd (inb (aI m 60 (ix x3)) 16) <|
      bp (R_bits ((aI m 42 (ix x10)) &&& (aI m 42 (ix (aI m 60 (ix x3)))))) fun r7 =>
      R_nearest_153 k60 (fun z0 z1 z2 z3 z4 z5 z6 z7 => R_nearest_104 k60 n z0 z1 z2 z3 z4 z5 z6 z7) x3 x5 x6 x7 x8 x9 x10 r7 m)
    else (
      R_nearest_153 k60 (fun z0 z1 z2 z3 z4 z5 z6 z7 => R_nearest_104 k60 n z0 z1 z2 z3 z4 z5 z6 z7) x3 x5 x6 x7 x8 x9 x10 0 m))
set_option maxRecDepth 100000 in
def R_nearest_185 (x6 : Int32) (m : Mem) : Option (Int32 × Mem) :=
  if x6 = (-1) then (
    some ((-1), m))
  else (
    gd (inb x6 750) <|
    some (aI m 16 (ix x6), m))
set_option maxRecDepth 100000 in
def R_nearest_60 : Nat → Int32 → Int32 → Int32 → Int32 → Int32 → Mem → Option (Int32 × Mem)
  | 0, _, _, _, _, _, _ => none
  | n + 1, x3, x5, x6, x7, x8, m =>
  gd (inb x5 24) <|
  if ((64 * x5) + (aI m 53 (ix x5))) ≤ x8 then (
    R_nearest_185 x6 m)
  else (
    gd (inb x8 1536) <|
    vb (aI m 54 (ix x8) : Int32) fun v4 =>
    gd (inb v4 750) <|
    if (aI m 15 (ix v4)) = 2 then (
      R_nearest_104 (fun z0 z1 z2 z3 z4 z5 => R_nearest_60 n z0 z1 z2 z3 z4 z5) FU x3 x5 x6 x7 x8 v4 0 m)
    else (
      R_nearest_179 (fun z0 z1 z2 z3 z4 z5 => R_nearest_60 n z0 z1 z2 z3 z4 z5) x3 x5 x6 x7 x8 m))
set_option maxRecDepth 100000 in
def R_nearest (x1 : Int32) (x2 : Int32) (x3 : Int32) (x4 : Int32) (m : Mem) : Option (Int32 × Mem) :=
  bn (R_isHalf x1 x2 x3 x4 m) fun r1 m2 =>
  if r1 = 0 then (
    some ((-1), m2))
  else (
    bn (R_looks x1 x2 x4 m2) fun _ m7 =>
    gd (inb x3 48) <|
    vb (aI m7 62 (ix x3) : Int32) fun v11 =>
    if v11 < 0 then (
      some ((-1), m7))
    else (
      gd (inb x3 48) <|
      if (aI m7 63 (ix x3)) = (-1) then (
        vb (64 * v11 : Int32) fun v15 =>
        R_nearest_60 FU x3 v11 (-1) 0 v15 m7)
      else (
        some ((-1), m7))))
set_option maxRecDepth 100000 in
def R_payerOf_29 (x1 : Int32) (m : Mem) : Option (Int32 × Mem) :=
  gd (inb x1 48) <|
  gd (inb x1 48) <|
  if (aI m 67 (ix x1)) ≤ (aI m 66 (ix x1)) then (
    gd (inb x1 48) <|
    some (aI m 62 (ix x1), m))
  else (
    gd (inb x1 48) <|
    some (aI m 64 (ix x1), m))
set_option maxRecDepth 100000 in
def R_payerOf (x1 : Int32) (m : Mem) : Option (Int32 × Mem) :=
  gd (inb x1 48) <|
  if (aI m 62 (ix x1)) < 0 then (
    some ((-1), m))
  else (
    gd (inb x1 48) <|
    if 0 < (aI m 66 (ix x1)) then (
      R_payerOf_29 x1 m)
    else (
      gd (inb x1 48) <|
      if 0 < (aI m 67 (ix x1)) then (
        R_payerOf_29 x1 m)
      else (
        some ((-1), m))))
set_option maxRecDepth 100000 in
def R_payer (x1 : Int32) (x2 : Int32) (x3 : Int32) (x4 : Int32) (m : Mem) : Option (Int32 × Mem) :=
  bn (R_isHalf x1 x2 x3 x4 m) fun r1 m2 =>
  if r1 = 0 then (
    some ((-1), m2))
  else (
    bn (R_looks x1 x2 x4 m2) fun _ m7 =>
    bn (R_payerOf x3 m7) fun r10 m11 =>
    if r10 = (-1) then (
      some ((-1), m11))
    else (
      gd (inb r10 25) <|
      some (aI m11 12 (ix r10), m11)))
set_option maxRecDepth 100000 in
def R_again_81 (s0 : Int32) (s1 : Int32) (s2 : Int32) (s3 : Int32) (m : Mem) : Option (Int32 × Mem) :=
  bn (R_worthBy s3 s2 s1 s0 m) fun r1 m2 =>
  if r1 ≤ 0 then (
    some (0, m2))
  else (
    some (1, m2))
set_option maxRecDepth 100000 in
def R_again (x1 : Int32) (x2 : Int32) (x3 : Int32) (x4 : Int32) (m : Mem) : Option (Int32 × Mem) :=
  bn (R_isHalf x1 x2 x3 x4 m) fun r1 m2 =>
  if r1 = 0 then (
    some (0, m2))
  else (
    bn (R_looks x1 x2 x4 m2) fun _ m7 =>
    bn (R_payerOf x3 m7) fun r10 m11 =>
    if r10 = (-1) then (
      some (0, m11))
    else (
      gd (inb x1 10) <|
      bn (R_builds x2 (aI m11 39 (ix x1)) x4 m11) fun _ m17 =>
      gd (inb x3 48) <|
      if r10 = (aI m17 62 (ix x3)) then (
        gd (inb x3 48) <|
        R_again_81 (aI m17 63 (ix x3)) r10 x3 x1 m17)
      else (
        gd (inb x3 48) <|
        R_again_81 (aI m17 65 (ix x3)) r10 x3 x1 m17)))
set_option maxRecDepth 100000 in
def R_rate (x1 : Int32) (x2 : Int32) (x3 : Int32) (x4 : Int32) (m : Mem) : Option (Int32 × Mem) :=
  bn (R_again x1 x2 x3 x4 m) fun r1 m2 =>
  if r1 = 0 then (
    some ((-1), m2))
  else (
    some (mI m2 1642 0, m2))
set_option maxRecDepth 100000 in
def R_counted (x1 : Int32) (x2 : Int32) (x3 : Int32) (x4 : Int32) (x5 : Int32) (m : Mem) : Option (Int32 × Mem) :=
  bn (R_again x1 x2 x3 x5 m) fun r1 m2 =>
  if r1 = 0 then (
    some ((-1), m2))
  else (
    bp (R_in x4 0 ((mI m2 1643 0) - 1)) fun r6 =>
    if r6 = 0 then (
      some ((-1), m2))
    else (
      gd (inb x4 64) <|
      some (aI m2 70 (ix x4), m2)))
set_option maxRecDepth 100000 in
def R_worthOf (x1 : Int32) (m : Mem) : Option (Int32 × Mem) :=
  gd (inb x1 48) <|
  gd (inb x1 48) <|
  if (aI m 67 (ix x1)) ≤ (aI m 66 (ix x1)) then (
    gd (inb x1 48) <|
    some (aI m 66 (ix x1), m))
  else (
    gd (inb x1 48) <|
    some (aI m 67 (ix x1), m))
set_option maxRecDepth 100000 in
def R_worth (x1 : Int32) (x2 : Int32) (x3 : Int32) (x4 : Int32) (m : Mem) : Option (Int32 × Mem) :=
  bn (R_isHalf x1 x2 x3 x4 m) fun r1 m2 =>
  if r1 = 0 then (
    some (0, m2))
  else (
    bn (R_looks x1 x2 x4 m2) fun _ m7 =>
    bn (R_worthOf x3 m7) fun r10 m11 =>
    some (r10, m11))
set_option maxRecDepth 100000 in
def R_isWeek (x1 : Int32) (x2 : Int32) (x3 : Int32) (m : Mem) : Option (Int32 × Mem) :=
  bn (R_isPerson x1 m) fun r1 m2 =>
  if r1 = 0 then (
    some (0, m2))
  else (
    bp (R_in x2 0 19) fun r6 =>
    if r6 = 0 then (
      some (0, m2))
    else (
      bn (R_isKnown x3 m2) fun r8 m9 =>
      if r8 = 0 then (
        some (0, m9))
      else (
        some (1, m9))))
set_option maxRecDepth 100000 in
def R_payOf_94 (k32 : Int32 → Int32 → Int32 → Int32 → Mem → Option (Int64 × Mem)) (k55 : Int32 → Int32 → Int32 → Int32 → Int32 → Mem → Option (Int64 × Mem)) (x1 : Int32) (x2 : Int32) (x3 : Int32) (x4 : Int32) (x5 : Int32) (m : Mem) : Option (Int64 × Mem) :=
  vb (x5 + 1 : Int32) fun v1 =>
  k55 x1 x2 x3 x4 v1 m
set_option maxRecDepth 100000 in
def R_payOf_100 (k32 : Int32 → Int32 → Int32 → Int32 → Mem → Option (Int64 × Mem)) (x1 : Int32) (x2 : Int32) (x3 : Int32) (x4 : Int32) (m : Mem) : Option (Int64 × Mem) :=
  vb (x4 + 1 : Int32) fun v1 =>
  k32 x1 x2 x3 v1 m
set_option maxRecDepth 100000 in
def R_payOf_55 (k32 : Int32 → Int32 → Int32 → Int32 → Mem → Option (Int64 × Mem)) : Nat → Int32 → Int32 → Int32 → Int32 → Int32 → Mem → Option (Int64 × Mem)
  | 0, _, _, _, _, _, _ => none
  | n + 1, x1, x2, x3, x4, x5, m =>
  if 48 ≤ x5 then (
    R_payOf_100 k32 x1 x2 x3 x4 m)
  else (
    gd (inb x5 48) <|
    if (aI m 62 (ix x5)) < 0 then (
      R_payOf_94 k32 (fun z0 z1 z2 z3 z4 z5 => R_payOf_55 k32 n z0 z1 z2 z3 z4 z5) x1 x2 x3 x4 x5 m)
    else (
      gd (inb x5 48) <|
      gd (inb (aI m 62 (ix x5)) 24) <|
      bn (R_worthOf x5 m) fun r6 m7 =>
      gd (inb (aI m 62 (ix x5)) 24) <|
      vb (wL m7 72 (ix (aI m 62 (ix x5))) ((aL m 72 (ix (aI m 62 (ix x5)))) + (Int32.toInt64 r6))) fun m13 =>
      R_payOf_94 k32 (fun z0 z1 z2 z3 z4 z5 => R_payOf_55 k32 n z0 z1 z2 z3 z4 z5) x1 x2 x3 x4 x5 m13))
set_option maxRecDepth 100000 in
def R_payOf_209 (k130 : Int64 → Int32 → Mem → Option (Int64 × Mem)) (x4 : Int64) (x6 : Int32) (m : Mem) : Option (Int64 × Mem) :=
  vb (x6 + 1 : Int32) fun v1 =>
  k130 x4 v1 m
set_option maxRecDepth 100000 in
def R_payOf_174 (k130 : Int64 → Int32 → Mem → Option (Int64 × Mem)) (x4 : Int64) (x6 : Int32) (s0 : Int64) (m : Mem) : Option (Int64 × Mem) :=
  gd (inb x6 24) <|
  gnl (400 * s0) <|
  vb (x4 + ((((2 * (aL m 72 (ix x6))) + (200 * s0)) / (400 * s0)) * s0) : Int64) fun v3 =>
  R_payOf_209 k130 v3 x6 m
set_option maxRecDepth 100000 in
def R_payOf_130 : Nat → Int64 → Int32 → Mem → Option (Int64 × Mem)
  | 0, _, _, _ => none
  | n + 1, x4, x6, m =>
  if (mI m 1554 0) ≤ x6 then (
    some (x4, m))
  else (
    gd (inb x6 25) <|
    if (aI m 8 (ix x6)) = 0 then (
      gd (inb x6 24) <|
      if (aI m 52 (ix x6)) = 0 then (
        R_payOf_174 (fun z0 z1 z2 => R_payOf_130 n z0 z1 z2) x4 x6 1 m)
      else (
        gd (inb x6 24) <|
        R_payOf_174 (fun z0 z1 z2 => R_payOf_130 n z0 z1 z2) x4 x6 (Int32.toInt64 (aI m 57 (ix x6))) m))
    else (
      R_payOf_209 (fun z0 z1 z2 => R_payOf_130 n z0 z1 z2) x4 x6 m))
set_option maxRecDepth 100000 in
def R_payOf_106 (x1 : Int32) (x2 : Int32) (x3 : Int32) (m : Mem) : Option (Int64 × Mem) :=
  gd (inb x1 10) <|
  bn (R_builds ((7 * x2) + 6) (aI m 39 (ix x1)) x3 m) fun _ m3 =>
  R_payOf_130 FU 0 0 m3
set_option maxRecDepth 100000 in
def R_payOf_32 : Nat → Int32 → Int32 → Int32 → Int32 → Mem → Option (Int64 × Mem)
  | 0, _, _, _, _, _ => none
  | n + 1, x1, x2, x3, x4, m =>
  if ((7 * x2) + 7) ≤ x4 then (
    R_payOf_106 x1 x2 x3 m)
  else (
    bn (R_looks x1 x4 x3 m) fun _ m3 =>
    R_payOf_55 (fun z0 z1 z2 z3 z4 => R_payOf_32 n z0 z1 z2 z3 z4) FU x1 x2 x3 x4 0 m3)
set_option maxRecDepth 100000 in
def R_payOf_26 (x1 : Int32) (x2 : Int32) (x3 : Int32) (m : Mem) : Option (Int64 × Mem) :=
  vb (7 * x2 : Int32) fun v1 =>
  R_payOf_32 FU x1 x2 x3 v1 m
set_option maxRecDepth 100000 in
def R_payOf_3 : Nat → Int32 → Int32 → Int32 → Int32 → Mem → Option (Int64 × Mem)
  | 0, _, _, _, _, _ => none
  | n + 1, x1, x2, x3, x4, m =>
  if (mI m 1554 0) ≤ x4 then (
    R_payOf_26 x1 x2 x3 m)
  else (
    gd (inb x4 24) <|
    vb (wL m 72 (ix x4) 0) fun m5 =>
    vb (x4 + 1 : Int32) fun v6 =>
    R_payOf_3 n x1 x2 x3 v6 m5)
set_option maxRecDepth 100000 in
def R_payOf (x1 : Int32) (x2 : Int32) (x3 : Int32) (m : Mem) : Option (Int64 × Mem) :=
  R_payOf_3 FU x1 x2 x3 0 m
set_option maxRecDepth 100000 in
def R_pay (x1 : Int32) (x2 : Int32) (x3 : Int32) (m : Mem) : Option (Int32 × Mem) :=
  bn (R_isWeek x1 x2 x3 m) fun r1 m2 =>
  if r1 = 0 then (
    some ((-1), m2))
  else (
    bn (R_payOf x1 x2 x3 m2) fun r6 m7 =>
    some (Int64.toInt32 r6, m7))
set_option maxRecDepth 100000 in
def R_halves_211 (k31 : Int32 → Int32 → Int32 → Int32 → Int32 → Int32 → Mem → Option (Int32 × Mem)) (k54 : Int32 → Int32 → Int32 → Int32 → Int32 → Int32 → Int32 → Mem → Option (Int32 × Mem)) (x1 : Int32) (x2 : Int32) (x3 : Int32) (x4 : Int32) (x5 : Int32) (x6 : Int32) (x7 : Int32) (m : Mem) : Option (Int32 × Mem) :=
  vb (x7 + 1 : Int32) fun v1 =>
  k54 x1 x2 x3 x4 x5 x6 v1 m
set_option maxRecDepth 100000 in
def R_halves_201 (k31 : Int32 → Int32 → Int32 → Int32 → Int32 → Int32 → Mem → Option (Int32 × Mem)) (k54 : Int32 → Int32 → Int32 → Int32 → Int32 → Int32 → Int32 → Mem → Option (Int32 × Mem)) (x1 : Int32) (x2 : Int32) (x3 : Int32) (x4 : Int32) (x5 : Int32) (x6 : Int32) (x7 : Int32) (s0 : Int32) (m : Mem) : Option (Int32 × Mem) :=
  if s0 = 0 then (
    R_halves_211 k31 k54 x1 x2 x3 x4 x5 x6 x7 m)
  else (
    vb (x5 + 1 : Int32) fun v2 =>
    R_halves_211 k31 k54 x1 x2 x3 x4 v2 x6 x7 m)
set_option maxRecDepth 100000 in
def R_halves_135 (k31 : Int32 → Int32 → Int32 → Int32 → Int32 → Int32 → Mem → Option (Int32 × Mem)) (k54 : Int32 → Int32 → Int32 → Int32 → Int32 → Int32 → Int32 → Mem → Option (Int32 × Mem)) (x1 : Int32) (x2 : Int32) (x3 : Int32) (x4 : Int32) (x5 : Int32) (x6 : Int32) (x7 : Int32) (m : Mem) : Option (Int32 × Mem) :=
  R_halves_201 k31 k54 x1 x2 x3 x4 x5 x6 x7 0 m
set_option maxRecDepth 100000 in
def R_halves_200 (k31 : Int32 → Int32 → Int32 → Int32 → Int32 → Int32 → Mem → Option (Int32 × Mem)) (k54 : Int32 → Int32 → Int32 → Int32 → Int32 → Int32 → Int32 → Mem → Option (Int32 × Mem)) (x1 : Int32) (x2 : Int32) (x3 : Int32) (x4 : Int32) (x5 : Int32) (x6 : Int32) (x7 : Int32) (m : Mem) : Option (Int32 × Mem) :=
  R_halves_201 k31 k54 x1 x2 x3 x4 x5 x6 x7 0 m
set_option maxRecDepth 100000 in
def R_halves_217 (k31 : Int32 → Int32 → Int32 → Int32 → Int32 → Int32 → Mem → Option (Int32 × Mem)) (x1 : Int32) (x2 : Int32) (x3 : Int32) (x4 : Int32) (x5 : Int32) (x6 : Int32) (m : Mem) : Option (Int32 × Mem) :=
  vb (x6 + 1 : Int32) fun v1 =>
  k31 x1 x2 x3 x4 x5 v1 m
set_option maxRecDepth 100000 in
def R_halves_54 (k31 : Int32 → Int32 → Int32 → Int32 → Int32 → Int32 → Mem → Option (Int32 × Mem)) : Nat → Int32 → Int32 → Int32 → Int32 → Int32 → Int32 → Int32 → Mem → Option (Int32 × Mem)
  | 0, _, _, _, _, _, _, _, _ => none
  | n + 1, x1, x2, x3, x4, x5, x6, x7, m =>
  if 48 ≤ x7 then (
    R_halves_217 k31 x1 x2 x3 x4 x5 x6 m)
  else (
    gd (inb x7 48) <|
    bp (R_isTask (aI m 60 (ix x7))) fun r3 =>
    if x4 = 0 then (
      R_halves_201 k31 (fun z0 z1 z2 z3 z4 z5 z6 z7 => R_halves_54 k31 n z0 z1 z2 z3 z4 z5 z6 z7) x1 x2 x3 x4 x5 x6 x7 r3 m)
    else (
      if x4 = 1 then (
        gd (inb x7 48) <|
        if (aI m 60 (ix x7)) = (-2) then (
          R_halves_201 k31 (fun z0 z1 z2 z3 z4 z5 z6 z7 => R_halves_54 k31 n z0 z1 z2 z3 z4 z5 z6 z7) x1 x2 x3 x4 x5 x6 x7 1 m)
        else (
          R_halves_201 k31 (fun z0 z1 z2 z3 z4 z5 z6 z7 => R_halves_54 k31 n z0 z1 z2 z3 z4 z5 z6 z7) x1 x2 x3 x4 x5 x6 x7 0 m))
      else (
        if x4 = 2 then (
          if r3 = 0 then (
            R_halves_135 k31 (fun z0 z1 z2 z3 z4 z5 z6 z7 => R_halves_54 k31 n z0 z1 z2 z3 z4 z5 z6 z7) x1 x2 x3 x4 x5 x6 x7 m)
          else (
            gd (inb x7 48) <|
            if (aI m 62 (ix x7)) = (-1) then (
              R_halves_201 k31 (fun z0 z1 z2 z3 z4 z5 z6 z7 => R_halves_54 k31 n z0 z1 z2 z3 z4 z5 z6 z7) x1 x2 x3 x4 x5 x6 x7 1 m)
            else (
              R_halves_135 k31 (fun z0 z1 z2 z3 z4 z5 z6 z7 => R_halves_54 k31 n z0 z1 z2 z3 z4 z5 z6 z7) x1 x2 x3 x4 x5 x6 x7 m)))
        else (
          if x4 = 3 then (
            gd (inb x7 48) <|
            if (aI m 62 (ix x7)) = (-2) then (
              R_halves_201 k31 (fun z0 z1 z2 z3 z4 z5 z6 z7 => R_halves_54 k31 n z0 z1 z2 z3 z4 z5 z6 z7) x1 x2 x3 x4 x5 x6 x7 1 m)
            else (
              R_halves_201 k31 (fun z0 z1 z2 z3 z4 z5 z6 z7 => R_halves_54 k31 n z0 z1 z2 z3 z4 z5 z6 z7) x1 x2 x3 x4 x5 x6 x7 0 m))
          else (
            gd (inb x7 48) <|
            if (aI m 62 (ix x7)) < 0 then (
              R_halves_200 k31 (fun z0 z1 z2 z3 z4 z5 z6 z7 => R_halves_54 k31 n z0 z1 z2 z3 z4 z5 z6 z7) x1 x2 x3 x4 x5 x6 x7 m)
            else (
              gd (inb x7 48) <|
              if (aI m 63 (ix x7)) = (-1) then (
                bn (R_payerOf x7 m) fun r19 m20 =>
                if r19 = (-1) then (
                  R_halves_201 k31 (fun z0 z1 z2 z3 z4 z5 z6 z7 => R_halves_54 k31 n z0 z1 z2 z3 z4 z5 z6 z7) x1 x2 x3 x4 x5 x6 x7 1 m20)
                else (
                  R_halves_200 k31 (fun z0 z1 z2 z3 z4 z5 z6 z7 => R_halves_54 k31 n z0 z1 z2 z3 z4 z5 z6 z7) x1 x2 x3 x4 x5 x6 x7 m20))
              else (
                R_halves_200 k31 (fun z0 z1 z2 z3 z4 z5 z6 z7 => R_halves_54 k31 n z0 z1 z2 z3 z4 z5 z6 z7) x1 x2 x3 x4 x5 x6 x7 m)))))))
set_option maxRecDepth 100000 in
def R_halves_31 : Nat → Int32 → Int32 → Int32 → Int32 → Int32 → Int32 → Mem → Option (Int32 × Mem)
  | 0, _, _, _, _, _, _, _ => none
  | n + 1, x1, x2, x3, x4, x5, x6, m =>
  if ((7 * x2) + 7) ≤ x6 then (
    some (x5, m))
  else (
    bn (R_looks x1 x6 x3 m) fun _ m3 =>
    R_halves_54 (fun z0 z1 z2 z3 z4 z5 z6 => R_halves_31 n z0 z1 z2 z3 z4 z5 z6) FU x1 x2 x3 x4 x5 x6 0 m3)
set_option maxRecDepth 100000 in
def R_halves (x1 : Int32) (x2 : Int32) (x3 : Int32) (x4 : Int32) (m : Mem) : Option (Int32 × Mem) :=
  bn (R_isWeek x1 x2 x3 m) fun r1 m2 =>
  if r1 = 0 then (
    some ((-1), m2))
  else (
    bp (R_in x4 0 4) fun r6 =>
    if r6 = 0 then (
      some ((-1), m2))
    else (
      vb (7 * x2 : Int32) fun v8 =>
      R_halves_31 FU x1 x2 x3 x4 0 v8 m2))
set_option maxRecDepth 100000 in
def R_owedOf_65 (k12 : Int32 → Int32 → Int32 → Int64 → Int32 → Mem → Option (Int64 × Mem)) (x1 : Int32) (x2 : Int32) (x3 : Int32) (x4 : Int64) (x6 : Int32) (m : Mem) : Option (Int64 × Mem) :=
  vb (x6 + 1 : Int32) fun v1 =>
  k12 x1 x2 x3 x4 v1 m
set_option maxRecDepth 100000 in
def R_owedOf_12 : Nat → Int32 → Int32 → Int32 → Int64 → Int32 → Mem → Option (Int64 × Mem)
  | 0, _, _, _, _, _, _ => none
  | n + 1, x1, x2, x3, x4, x6, m =>
  if x3 ≤ x6 then (
    some (x4, m))
  else (
    gd (inb x6 160) <|
    if (aI m 44 (ix x6)) = 9 then (
      gd (inb x6 160) <|
      if (aI m 45 (ix x6)) = x1 then (
        gd (inb x6 160) <|
        if (aI m 46 (ix x6)) = x2 then (
          gd (inb x6 160) <|
          vb (x4 - (Int32.toInt64 (aI m 48 (ix x6))) : Int64) fun v9 =>
          R_owedOf_65 (fun z0 z1 z2 z3 z4 z5 => R_owedOf_12 n z0 z1 z2 z3 z4 z5) x1 x2 x3 v9 x6 m)
        else (
          R_owedOf_65 (fun z0 z1 z2 z3 z4 z5 => R_owedOf_12 n z0 z1 z2 z3 z4 z5) x1 x2 x3 x4 x6 m))
      else (
        R_owedOf_65 (fun z0 z1 z2 z3 z4 z5 => R_owedOf_12 n z0 z1 z2 z3 z4 z5) x1 x2 x3 x4 x6 m))
    else (
      R_owedOf_65 (fun z0 z1 z2 z3 z4 z5 => R_owedOf_12 n z0 z1 z2 z3 z4 z5) x1 x2 x3 x4 x6 m))
set_option maxRecDepth 100000 in
def R_owedOf (x1 : Int32) (x2 : Int32) (x3 : Int32) (m : Mem) : Option (Int64 × Mem) :=
  bn (R_payOf x1 x2 x3 m) fun r1 m2 =>
  R_owedOf_12 FU x1 x2 x3 r1 0 m2
set_option maxRecDepth 100000 in
def R_owed (x1 : Int32) (x2 : Int32) (x3 : Int32) (m : Mem) : Option (Int32 × Mem) :=
  bn (R_isWeek x1 x2 x3 m) fun r1 m2 =>
  if r1 = 0 then (
    some (0, m2))
  else (
    bn (R_owedOf x1 x2 x3 m2) fun r6 m7 =>
    some (Int64.toInt32 r6, m7))
set_option maxRecDepth 100000 in
def R_shorted_21 (m : Mem) : Option (Int64 × Mem) :=
  some ((-1), m)
set_option maxRecDepth 100000 in
def R_shorted_67 (k31 : Int32 → Int32 → Int32 → Int32 → Int64 → Int32 → Mem → Option (Int64 × Mem)) (x1 : Int32) (x3 : Int32) (x4 : Int32) (x5 : Int32) (x6 : Int64) (x8 : Int32) (m : Mem) : Option (Int64 × Mem) :=
  vb (x8 + 1 : Int32) fun v1 =>
  k31 x1 x3 x4 x5 x6 v1 m
set_option maxRecDepth 100000 in
def R_shorted_60 (k31 : Int32 → Int32 → Int32 → Int32 → Int64 → Int32 → Mem → Option (Int64 × Mem)) (x1 : Int32) (x3 : Int32) (x4 : Int32) (x5 : Int32) (x6 : Int64) (x8 : Int32) (x9 : Int64) (m : Mem) : Option (Int64 × Mem) :=
  vb (x6 + x9 : Int64) fun v1 =>
  R_shorted_67 k31 x1 x3 x4 x5 v1 x8 m
set_option maxRecDepth 100000 in
def R_shorted_73 (x6 : Int64) (m : Mem) : Option (Int64 × Mem) :=
  if 0 ≤ (lg_cmp x6 0) then (
    some (x6, m))
  else (
    some (0, m))
set_option maxRecDepth 100000 in
def R_shorted_31 : Nat → Int32 → Int32 → Int32 → Int32 → Int64 → Int32 → Mem → Option (Int64 × Mem)
  | 0, _, _, _, _, _, _, _ => none
  | n + 1, x1, x3, x4, x5, x6, x8, m =>
  if x3 < x8 then (
    R_shorted_73 x6 m)
  else (
    bn (R_owedOf x1 x8 x5 m) fun r2 m3 =>
    if 0 < (lg_cmp r2 0) then (
      R_shorted_60 (fun z0 z1 z2 z3 z4 z5 z6 => R_shorted_31 n z0 z1 z2 z3 z4 z5 z6) x1 x3 x4 x5 x6 x8 r2 m3)
    else (
      if x4 = 0 then (
        R_shorted_67 (fun z0 z1 z2 z3 z4 z5 z6 => R_shorted_31 n z0 z1 z2 z3 z4 z5 z6) x1 x3 x4 x5 x6 x8 m3)
      else (
        R_shorted_60 (fun z0 z1 z2 z3 z4 z5 z6 => R_shorted_31 n z0 z1 z2 z3 z4 z5 z6) x1 x3 x4 x5 x6 x8 r2 m3)))
set_option maxRecDepth 100000 in
def R_shorted (x1 : Int32) (x2 : Int32) (x3 : Int32) (x4 : Int32) (x5 : Int32) (m : Mem) : Option (Int64 × Mem) :=
  bn (R_isWeek x1 x2 x5 m) fun r1 m2 =>
  if r1 = 0 then (
    R_shorted_21 m2)
  else (
    bp (R_in x3 x2 19) fun r6 =>
    if r6 = 0 then (
      R_shorted_21 m2)
    else (
      R_shorted_31 FU x1 x3 x4 x5 0 x2 m2))
set_option maxRecDepth 100000 in
def R_tried_97 (m : Mem) : Option (Int64 × Mem) :=
  some ((-1), m)
set_option maxRecDepth 100000 in
def R_tried_168 (k132 : Int32 → Int32 → Int32 → Int32 → Int64 → Int32 → Mem → Option (Int64 × Mem)) (k145 : Int32 → Int32 → Int32 → Int32 → Int64 → Int32 → Int32 → Mem → Option (Int64 × Mem)) (x1 : Int32) (x5 : Int32) (x6 : Int32) (x7 : Int32) (x8 : Int64) (x10 : Int32) (x11 : Int32) (m : Mem) : Option (Int64 × Mem) :=
  bn (R_payOf x10 x11 x7 m) fun r1 m2 =>
  vb (x8 + r1 : Int64) fun v5 =>
  vb (x11 + 1 : Int32) fun v6 =>
  k145 x1 x5 x6 x7 v5 x10 v6 m2
set_option maxRecDepth 100000 in
def R_tried_189 (k132 : Int32 → Int32 → Int32 → Int32 → Int64 → Int32 → Mem → Option (Int64 × Mem)) (x1 : Int32) (x5 : Int32) (x6 : Int32) (x7 : Int32) (x8 : Int64) (x10 : Int32) (m : Mem) : Option (Int64 × Mem) :=
  vb (x10 + 1 : Int32) fun v1 =>
  k132 x1 x5 x6 x7 x8 v1 m
set_option maxRecDepth 100000 in
def R_tried_145 (k132 : Int32 → Int32 → Int32 → Int32 → Int64 → Int32 → Mem → Option (Int64 × Mem)) : Nat → Int32 → Int32 → Int32 → Int32 → Int64 → Int32 → Int32 → Mem → Option (Int64 × Mem)
  | 0, _, _, _, _, _, _, _, _ => none
  | n + 1, x1, x5, x6, x7, x8, x10, x11, m =>
  if x6 < x11 then (
    R_tried_189 k132 x1 x5 x6 x7 x8 x10 m)
  else (
    if x1 = (-1) then (
      R_tried_168 k132 (fun z0 z1 z2 z3 z4 z5 z6 z7 => R_tried_145 k132 n z0 z1 z2 z3 z4 z5 z6 z7) x1 x5 x6 x7 x8 x10 x11 m)
    else (
      gd (inb x10 10) <|
      if (aI m 39 (ix x10)) = x1 then (
        R_tried_168 k132 (fun z0 z1 z2 z3 z4 z5 z6 z7 => R_tried_145 k132 n z0 z1 z2 z3 z4 z5 z6 z7) x1 x5 x6 x7 x8 x10 x11 m)
      else (
        R_tried_189 k132 x1 x5 x6 x7 x8 x10 m)))
set_option maxRecDepth 100000 in
def R_tried_195 (x8 : Int64) (m : Mem) : Option (Int64 × Mem) :=
  vb (sI m 1622 0 (-1)) fun m2 =>
  bn (R_changed m2) fun _ m4 =>
  some (x8, m4)
set_option maxRecDepth 100000 in
def R_tried_132 : Nat → Int32 → Int32 → Int32 → Int32 → Int64 → Int32 → Mem → Option (Int64 × Mem)
  | 0, _, _, _, _, _, _, _ => none
  | n + 1, x1, x5, x6, x7, x8, x10, m =>
  if (mI m 1595 0) ≤ x10 then (
    R_tried_195 x8 m)
  else (
    R_tried_145 (fun z0 z1 z2 z3 z4 z5 z6 => R_tried_132 n z0 z1 z2 z3 z4 z5 z6) FU x1 x5 x6 x7 x8 x10 x5 m)
set_option maxRecDepth 100000 in
def R_tried_13 (x1 : Int32) (x2 : Int32) (x3 : Int32) (x4 : Int32) (x5 : Int32) (x6 : Int32) (x7 : Int32) (m : Mem) : Option (Int64 × Mem) :=
  bn (R_textAt x2 m) fun r1 m2 =>
  if r1 = (-1) then (
    R_tried_97 m2)
  else (
    gd (inb x2 160) <|
    if (aI m2 44 (ix x2)) = 0 then (
      if x7 ≤ x2 then (
        R_tried_97 m2)
      else (
        bp (R_in x3 0 ((mI m2 1584 0) - 1)) fun r9 =>
        if r9 = 0 then (
          R_tried_97 m2)
        else (
          bp (R_in x4 (-9999) 9999) fun r11 =>
          if r11 = 0 then (
            R_tried_97 m2)
          else (
            bp (R_in x5 0 19) fun r13 =>
            if r13 = 0 then (
              R_tried_97 m2)
            else (
              bp (R_in x6 x5 19) fun r15 =>
              if r15 = 0 then (
                R_tried_97 m2)
              else (
                bn (R_isKnown x7 m2) fun r17 m18 =>
                if r17 = 0 then (
                  R_tried_97 m18)
                else (
                  gd (inb x2 160) <|
                  vb (sI m18 1622 0 (aI m18 45 (ix x2))) fun m24 =>
                  vb (sI m24 1623 0 x3) fun m26 =>
                  vb (sI m26 1624 0 x4) fun m28 =>
                  bn (R_changed m28) fun _ m30 =>
                  R_tried_132 FU x1 x5 x6 x7 0 0 m30)))))))
    else (
      R_tried_97 m2))
set_option maxRecDepth 100000 in
def R_tried (x1 : Int32) (x2 : Int32) (x3 : Int32) (x4 : Int32) (x5 : Int32) (x6 : Int32) (x7 : Int32) (m : Mem) : Option (Int64 × Mem) :=
  if x1 = (-1) then (
    R_tried_13 x1 x2 x3 x4 x5 x6 x7 m)
  else (
    bn (R_isFirm x1 m) fun r2 m3 =>
    if r2 = 0 then (
      R_tried_97 m3)
    else (
      R_tried_13 x1 x2 x3 x4 x5 x6 x7 m3))
set_option maxRecDepth 100000 in
def R_turned_58 (x3 : Int32) (x4 : Int32) (m : Mem) : Option (Int32 × Mem) :=
  some ((20 * x3) + x4, m)
set_option maxRecDepth 100000 in
def R_turned_72 (k20 : Int32 → Int32 → Int32 → Mem → Option (Int32 × Mem)) (x1 : Int32) (x2 : Int32) (x3 : Int32) (m : Mem) : Option (Int32 × Mem) :=
  vb (x3 + 1 : Int32) fun v1 =>
  k20 x1 x2 v1 m
set_option maxRecDepth 100000 in
def R_turned_31 (k20 : Int32 → Int32 → Int32 → Mem → Option (Int32 × Mem)) : Nat → Int32 → Int32 → Int32 → Int32 → Mem → Option (Int32 × Mem)
  | 0, _, _, _, _, _ => none
  | n + 1, x1, x2, x3, x4, m =>
  if 20 ≤ x4 then (
    R_turned_72 k20 x1 x2 x3 m)
  else (
    bn (R_payOf x3 x4 x1 m) fun r2 m3 =>
    bn (R_payOf x3 x4 x2 m3) fun r6 m7 =>
    if (lg_cmp r2 r6) = 0 then (
      vb (x4 + 1 : Int32) fun v11 =>
      R_turned_31 k20 n x1 x2 x3 v11 m7)
    else (
      R_turned_58 x3 x4 m7))
set_option maxRecDepth 100000 in
def R_turned_20 : Nat → Int32 → Int32 → Int32 → Mem → Option (Int32 × Mem)
  | 0, _, _, _, _ => none
  | n + 1, x1, x2, x3, m =>
  if (mI m 1595 0) ≤ x3 then (
    some ((-1), m))
  else (
    R_turned_31 (fun z0 z1 z2 z3 => R_turned_20 n z0 z1 z2 z3) FU x1 x2 x3 0 m)
set_option maxRecDepth 100000 in
def R_turned (x1 : Int32) (x2 : Int32) (m : Mem) : Option (Int32 × Mem) :=
  bn (R_isKnown x1 m) fun r1 m2 =>
  if r1 = 0 then (
    some ((-1), m2))
  else (
    bn (R_isKnown x2 m2) fun r6 m7 =>
    if r6 = 0 then (
      some ((-1), m7))
    else (
      R_turned_20 FU x1 x2 0 m7))
set_option maxRecDepth 100000 in
def R_value (x1 : Int32) (x2 : Int32) (m : Mem) : Option (Int32 × Mem) :=
  bp (R_in x1 0 15) fun r1 =>
  if r1 = 0 then (
    some (0, m))
  else (
    bp (R_in x2 0 999) fun r3 =>
    if r3 = 0 then (
      some (0, m))
    else (
      gd (inb x1 16) <|
      vb (wI m 73 (ix x1) x2) fun m8 =>
      some (1, m8)))
set_option maxRecDepth 100000 in
def R_apart (x1 : Int32) (x2 : Int32) (x3 : Int32) (m : Mem) : Option (Int32 × Mem) :=
  bp (R_in x1 0 15) fun r1 =>
  if r1 = 0 then (
    some (0, m))
  else (
    bp (R_in x2 0 15) fun r3 =>
    if r3 = 0 then (
      some (0, m))
    else (
      if x1 = x2 then (
        some (0, m))
      else (
        gd (inb ((16 * x1) + x2) 256) <|
        gz x3 <|
        vb (wI m 74 (ix ((16 * x1) + x2)) x3) fun m10 =>
        gd (inb ((16 * x2) + x1) 256) <|
        gz x3 <|
        vb (wI m10 74 (ix ((16 * x2) + x1)) x3) fun m15 =>
        some (1, m15))))
set_option maxRecDepth 100000 in
def R_changes_136 (k14 : Int32 → Int32 → Int32 → Int32 → Int32 → Int32 → Int32 → Mem → Option (Int32 × Mem)) (x1 : Int32) (x2 : Int32) (x3 : Int32) (x4 : Int32) (x5 : Int32) (x6 : Int32) (x7 : Int32) (m : Mem) : Option (Int32 × Mem) :=
  vb (x7 + 1 : Int32) fun v1 =>
  k14 x1 x2 x3 x4 x5 x6 v1 m
set_option maxRecDepth 100000 in
def R_changes_130 (k14 : Int32 → Int32 → Int32 → Int32 → Int32 → Int32 → Int32 → Mem → Option (Int32 × Mem)) (k84 : Int32 → Int32 → Int32 → Int32 → Int32 → Int32 → Int32 → Int32 → Mem → Option (Int32 × Mem)) (x1 : Int32) (x2 : Int32) (x3 : Int32) (x4 : Int32) (x5 : Int32) (x6 : Int32) (x7 : Int32) (x9 : Int32) (m : Mem) : Option (Int32 × Mem) :=
  vb (x9 + 1 : Int32) fun v1 =>
  k84 x1 x2 x3 x4 x5 x6 x7 v1 m
set_option maxRecDepth 100000 in
def R_changes_84 (k14 : Int32 → Int32 → Int32 → Int32 → Int32 → Int32 → Int32 → Mem → Option (Int32 × Mem)) : Nat → Int32 → Int32 → Int32 → Int32 → Int32 → Int32 → Int32 → Int32 → Mem → Option (Int32 × Mem)
  | 0, _, _, _, _, _, _, _, _, _ => none
  | n + 1, x1, x2, x3, x4, x5, x6, x7, x9, m =>
  if x7 ≤ x9 then (
    R_changes_136 k14 x1 x2 x3 x4 x5 x6 x7 m)
  else (
    gd (inb x9 7) <|
    if (aI m 78 (ix x9)) = x1 then (
      gd (inb x9 7) <|
      gd (inb x7 7) <|
      gd (inb ((16 * (aI m 77 (ix x9))) + (aI m 77 (ix x7))) 256) <|
      if (aI m 74 (ix ((16 * (aI m 77 (ix x9))) + (aI m 77 (ix x7))))) = 0 then (
        R_changes_130 k14 (fun z0 z1 z2 z3 z4 z5 z6 z7 z8 => R_changes_84 k14 n z0 z1 z2 z3 z4 z5 z6 z7 z8) x1 x2 x3 x4 x5 x6 x7 x9 m)
      else (
        some ((-1), m)))
    else (
      R_changes_130 k14 (fun z0 z1 z2 z3 z4 z5 z6 z7 z8 => R_changes_84 k14 n z0 z1 z2 z3 z4 z5 z6 z7 z8) x1 x2 x3 x4 x5 x6 x7 x9 m))
set_option maxRecDepth 100000 in
def R_changes_81 (k14 : Int32 → Int32 → Int32 → Int32 → Int32 → Int32 → Int32 → Mem → Option (Int32 × Mem)) (x1 : Int32) (x2 : Int32) (x3 : Int32) (x4 : Int32) (x5 : Int32) (x6 : Int32) (x7 : Int32) (m : Mem) : Option (Int32 × Mem) :=
  R_changes_84 k14 FU x1 x2 x3 x4 x5 x6 x7 0 m
set_option maxRecDepth 100000 in
def R_changes_66 (k14 : Int32 → Int32 → Int32 → Int32 → Int32 → Int32 → Int32 → Mem → Option (Int32 × Mem)) (x1 : Int32) (x2 : Int32) (x3 : Int32) (x4 : Int32) (x5 : Int32) (x6 : Int32) (x7 : Int32) (x8 : Int32) (m : Mem) : Option (Int32 × Mem) :=
  if x5 ≤ (x8 + x3) then (
    R_changes_81 k14 x1 x2 x3 x4 x5 x6 x7 m)
  else (
    vb (x8 + x3 : Int32) fun v2 =>
    R_changes_81 k14 x1 x2 x3 x4 v2 x6 x7 m)
set_option maxRecDepth 100000 in
def R_changes_300 (k165 : Int32 → Int32 → Int32 → Int32 → Int32 → Int32 → Int32 → Mem → Option (Int32 × Mem)) (x1 : Int32) (x2 : Int32) (x4 : Int32) (x5 : Int32) (x6 : Int32) (x7 : Int32) (x8 : Int32) (m : Mem) : Option (Int32 × Mem) :=
  vb (x8 + 1 : Int32) fun v1 =>
  k165 x1 x2 x4 x5 x6 x7 v1 m
set_option maxRecDepth 100000 in
def R_changes_254 (k165 : Int32 → Int32 → Int32 → Int32 → Int32 → Int32 → Int32 → Mem → Option (Int32 × Mem)) (k217 : Int32 → Int32 → Int32 → Int32 → Int32 → Int32 → Int32 → Int32 → Int32 → Int32 → Mem → Option (Int32 × Mem)) (x1 : Int32) (x2 : Int32) (x4 : Int32) (x5 : Int32) (x6 : Int32) (x7 : Int32) (x8 : Int32) (x9 : Int32) (x10 : Int32) (x11 : Int32) (m : Mem) : Option (Int32 × Mem) :=
  vb (x11 + 1 : Int32) fun v1 =>
  k217 x1 x2 x4 x5 x6 x7 x8 x9 x10 v1 m
set_option maxRecDepth 100000 in
def R_changes_288 (k165 : Int32 → Int32 → Int32 → Int32 → Int32 → Int32 → Int32 → Mem → Option (Int32 × Mem)) (x1 : Int32) (x2 : Int32) (x4 : Int32) (x5 : Int32) (x6 : Int32) (x8 : Int32) (x9 : Int32) (x10 : Int32) (m : Mem) : Option (Int32 × Mem) :=
  gd (inb x1 7) <|
  vb (wI m 79 (ix x1) x9) fun m4 =>
  R_changes_300 k165 x1 x2 x4 x5 x6 x10 x8 m4
set_option maxRecDepth 100000 in
def R_changes_260 (k165 : Int32 → Int32 → Int32 → Int32 → Int32 → Int32 → Int32 → Mem → Option (Int32 × Mem)) (x1 : Int32) (x2 : Int32) (x4 : Int32) (x5 : Int32) (x6 : Int32) (x7 : Int32) (x8 : Int32) (x9 : Int32) (x10 : Int32) (m : Mem) : Option (Int32 × Mem) :=
  if x10 < x7 then (
    R_changes_300 k165 x1 x2 x4 x5 x6 x7 x8 m)
  else (
    if x10 = x7 then (
      gd (inb x1 7) <|
      if x9 < (aI m 79 (ix x1)) then (
        R_changes_288 k165 x1 x2 x4 x5 x6 x8 x9 x10 m)
      else (
        R_changes_300 k165 x1 x2 x4 x5 x6 x7 x8 m))
    else (
      R_changes_288 k165 x1 x2 x4 x5 x6 x8 x9 x10 m))
set_option maxRecDepth 100000 in
def R_changes_217 (k165 : Int32 → Int32 → Int32 → Int32 → Int32 → Int32 → Int32 → Mem → Option (Int32 × Mem)) : Nat → Int32 → Int32 → Int32 → Int32 → Int32 → Int32 → Int32 → Int32 → Int32 → Int32 → Mem → Option (Int32 × Mem)
  | 0, _, _, _, _, _, _, _, _, _, _, _ => none
  | n + 1, x1, x2, x4, x5, x6, x7, x8, x9, x10, x11, m =>
  if x2 ≤ x11 then (
    R_changes_260 k165 x1 x2 x4 x5 x6 x7 x8 x9 x10 m)
  else (
    gd (inb x11 7) <|
    if (aI m 78 (ix x11)) = x1 then (
      gd (inb x11 7) <|
      gd (inb (aI m 77 (ix x11)) 16) <|
      if (aI m 73 (ix (aI m 77 (ix x11)))) = x9 then (
        vb (x10 + 1 : Int32) fun v7 =>
        R_changes_254 k165 (fun z0 z1 z2 z3 z4 z5 z6 z7 z8 z9 z10 => R_changes_217 k165 n z0 z1 z2 z3 z4 z5 z6 z7 z8 z9 z10) x1 x2 x4 x5 x6 x7 x8 x9 v7 x11 m)
      else (
        R_changes_254 k165 (fun z0 z1 z2 z3 z4 z5 z6 z7 z8 z9 z10 => R_changes_217 k165 n z0 z1 z2 z3 z4 z5 z6 z7 z8 z9 z10) x1 x2 x4 x5 x6 x7 x8 x9 x10 x11 m))
    else (
      R_changes_254 k165 (fun z0 z1 z2 z3 z4 z5 z6 z7 z8 z9 z10 => R_changes_217 k165 n z0 z1 z2 z3 z4 z5 z6 z7 z8 z9 z10) x1 x2 x4 x5 x6 x7 x8 x9 x10 x11 m))
set_option maxRecDepth 100000 in
def R_changes_306 (x6 : Int32) (x7 : Int32) (m : Mem) : Option (Int32 × Mem) :=
  some (x6 - x7, m)
set_option maxRecDepth 100000 in
def R_changes_165 : Nat → Int32 → Int32 → Int32 → Int32 → Int32 → Int32 → Int32 → Mem → Option (Int32 × Mem)
  | 0, _, _, _, _, _, _, _, _ => none
  | n + 1, x1, x2, x4, x5, x6, x7, x8, m =>
  if x2 ≤ x8 then (
    R_changes_306 x6 x7 m)
  else (
    gd (inb x8 7) <|
    gd (inb (aI m 77 (ix x8)) 16) <|
    vb (aI m 73 (ix (aI m 77 (ix x8))) : Int32) fun v4 =>
    gd (inb x8 7) <|
    if (aI m 78 (ix x8)) = x1 then (
      bp (R_in v4 x4 x5) fun r7 =>
      if r7 = 0 then (
        R_changes_300 (fun z0 z1 z2 z3 z4 z5 z6 z7 => R_changes_165 n z0 z1 z2 z3 z4 z5 z6 z7) x1 x2 x4 x5 x6 x7 x8 m)
      else (
        R_changes_217 (fun z0 z1 z2 z3 z4 z5 z6 z7 => R_changes_165 n z0 z1 z2 z3 z4 z5 z6 z7) FU x1 x2 x4 x5 x6 x7 x8 v4 0 0 m))
    else (
      R_changes_300 (fun z0 z1 z2 z3 z4 z5 z6 z7 => R_changes_165 n z0 z1 z2 z3 z4 z5 z6 z7) x1 x2 x4 x5 x6 x7 x8 m))
set_option maxRecDepth 100000 in
def R_changes_142 (x1 : Int32) (x2 : Int32) (x4 : Int32) (x5 : Int32) (x6 : Int32) (m : Mem) : Option (Int32 × Mem) :=
  if x4 ≤ x5 then (
    gd (inb x1 7) <|
    vb (wI m 79 (ix x1) x4) fun m5 =>
    R_changes_165 FU x1 x2 x4 x5 x6 0 0 m5)
  else (
    some ((-1), m))
set_option maxRecDepth 100000 in
def R_changes_14 : Nat → Int32 → Int32 → Int32 → Int32 → Int32 → Int32 → Int32 → Mem → Option (Int32 × Mem)
  | 0, _, _, _, _, _, _, _, _ => none
  | n + 1, x1, x2, x3, x4, x5, x6, x7, m =>
  if x2 ≤ x7 then (
    R_changes_142 x1 x2 x4 x5 x6 m)
  else (
    gd (inb x7 7) <|
    if (aI m 78 (ix x7)) = x1 then (
      gd (inb x7 7) <|
      gd (inb (aI m 77 (ix x7)) 16) <|
      vb (aI m 73 (ix (aI m 77 (ix x7))) : Int32) fun v6 =>
      vb (x6 + 1 : Int32) fun v7 =>
      if (v6 - x3) ≤ x4 then (
        R_changes_66 (fun z0 z1 z2 z3 z4 z5 z6 z7 => R_changes_14 n z0 z1 z2 z3 z4 z5 z6 z7) x1 x2 x3 x4 x5 v7 x7 v6 m)
      else (
        vb (v6 - x3 : Int32) fun v9 =>
        R_changes_66 (fun z0 z1 z2 z3 z4 z5 z6 z7 => R_changes_14 n z0 z1 z2 z3 z4 z5 z6 z7) x1 x2 x3 v9 x5 v7 x7 v6 m))
    else (
      R_changes_136 (fun z0 z1 z2 z3 z4 z5 z6 z7 => R_changes_14 n z0 z1 z2 z3 z4 z5 z6 z7) x1 x2 x3 x4 x5 x6 x7 m))
set_option maxRecDepth 100000 in
def R_changes (x1 : Int32) (x2 : Int32) (x3 : Int32) (m : Mem) : Option (Int32 × Mem) :=
  R_changes_14 FU x1 x2 x3 0 9999 0 0 m
set_option maxRecDepth 100000 in
def R_nextParting_40 (k4 : Int32 → Int32 → Mem → Option (Int32 × Mem)) (k13 : Int32 → Int32 → Int32 → Int32 → Mem → Option (Int32 × Mem)) (x1 : Int32) (x2 : Int32) (x3 : Int32) (x4 : Int32) (m : Mem) : Option (Int32 × Mem) :=
  vb (x4 + 1 : Int32) fun v1 =>
  k13 x1 x2 x3 v1 m
set_option maxRecDepth 100000 in
def R_nextParting_71 : Nat → Int32 → Int32 → Mem → Option (Int32 × Mem)
  | 0, _, _, _ => none
  | n + 1, x1, x4, m =>
  if x1 ≤ x4 then (
    some (1, m))
  else (
    gd (inb x4 7) <|
    vb (wI m 78 (ix x4) 0) fun m5 =>
    vb (x4 + 1 : Int32) fun v6 =>
    R_nextParting_71 n x1 v6 m5)
set_option maxRecDepth 100000 in
def R_nextParting_56 (x1 : Int32) (x2 : Int32) (m : Mem) : Option (Int32 × Mem) :=
  gd (inb x2 7) <|
  gd (inb x2 7) <|
  vb (wI m 78 (ix x2) ((aI m 78 (ix x2)) + 1)) fun m5 =>
  vb (x2 + 1 : Int32) fun v6 =>
  R_nextParting_71 FU x1 v6 m5
set_option maxRecDepth 100000 in
def R_nextParting_46 (k4 : Int32 → Int32 → Mem → Option (Int32 × Mem)) (x1 : Int32) (x2 : Int32) (x3 : Int32) (m : Mem) : Option (Int32 × Mem) :=
  gd (inb x2 7) <|
  if x3 ≤ (aI m 78 (ix x2)) then (
    vb (x2 + (-1) : Int32) fun v3 =>
    k4 x1 v3 m)
  else (
    R_nextParting_56 x1 x2 m)
set_option maxRecDepth 100000 in
def R_nextParting_13 (k4 : Int32 → Int32 → Mem → Option (Int32 × Mem)) : Nat → Int32 → Int32 → Int32 → Int32 → Mem → Option (Int32 × Mem)
  | 0, _, _, _, _, _ => none
  | n + 1, x1, x2, x3, x4, m =>
  if x2 ≤ x4 then (
    R_nextParting_46 k4 x1 x2 x3 m)
  else (
    gd (inb x4 7) <|
    if (aI m 78 (ix x4)) < x3 then (
      R_nextParting_40 k4 (fun z0 z1 z2 z3 z4 => R_nextParting_13 k4 n z0 z1 z2 z3 z4) x1 x2 x3 x4 m)
    else (
      gd (inb x4 7) <|
      vb ((aI m 78 (ix x4)) + 1 : Int32) fun v5 =>
      R_nextParting_40 k4 (fun z0 z1 z2 z3 z4 => R_nextParting_13 k4 n z0 z1 z2 z3 z4) x1 x2 v5 x4 m))
set_option maxRecDepth 100000 in
def R_nextParting_4 : Nat → Int32 → Int32 → Mem → Option (Int32 × Mem)
  | 0, _, _, _ => none
  | n + 1, x1, x2, m =>
  if x2 ≤ 0 then (
    some (0, m))
  else (
    R_nextParting_13 (fun z0 z1 z2 => R_nextParting_4 n z0 z1 z2) FU x1 x2 0 0 m)
set_option maxRecDepth 100000 in
def R_nextParting (x1 : Int32) (m : Mem) : Option (Int32 × Mem) :=
  vb (x1 - 1 : Int32) fun v1 =>
  R_nextParting_4 FU x1 v1 m
