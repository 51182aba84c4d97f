/-! the methods as functions: written by gen/emit.py -/
set_option maxRecDepth 100000 in
def P_Reckoning_bind_88 (k9 : Int32 → Int32 → Int32 → Mem → Option (Unit × Mem)) (x1 : Int32) (x3 : Int32) (s0 : Int32) (s1 : Int32) (m : Mem) : Option (Unit × Mem) :=
  vb (s1 + s0 : Int32) fun v1 =>
  vb (x3 + 1 : Int32) fun v2 =>
  k9 x1 v1 v2 m
set_option maxRecDepth 100000 in
def P_Reckoning_bind_87 (k9 : Int32 → Int32 → Int32 → Mem → Option (Unit × Mem)) (x1 : Int32) (x3 : Int32) (s0 : Int32) (m : Mem) : Option (Unit × Mem) :=
  P_Reckoning_bind_88 k9 x1 x3 0 s0 m
set_option maxRecDepth 100000 in
def P_Reckoning_bind_63 (k9 : Int32 → Int32 → Int32 → Mem → Option (Unit × Mem)) (x1 : Int32) (x2 : Int32) (x3 : Int32) (x4 : Option Nat) (s0 : Int32) (s1 : Option Nat) (m : Mem) : Option (Unit × Mem) :=
  gs s1 fun a1 =>
  gt m a1 11 <|
  gz s0 <|
  vb (sI m 1295 a1 s0) fun m4 =>
  gs x4 fun a6 =>
  gt m4 a6 11 <|
  if (mI m4 1295 a6) = 0 then (
    P_Reckoning_bind_87 k9 x1 x3 x2 m4)
  else (
    if (mI m4 1280 a6) = 0 then (
      P_Reckoning_bind_88 k9 x1 x3 1 x2 m4)
    else (
      P_Reckoning_bind_87 k9 x1 x3 x2 m4))
set_option maxRecDepth 100000 in
def P_Reckoning_bind_62 (k9 : Int32 → Int32 → Int32 → Mem → Option (Unit × Mem)) (x1 : Int32) (x2 : Int32) (x3 : Int32) (x4 : Option Nat) (s0 : Option Nat) (m : Mem) : Option (Unit × Mem) :=
  P_Reckoning_bind_63 k9 x1 x2 x3 x4 0 s0 m
set_option maxRecDepth 100000 in
def P_Reckoning_bind_164 (k109 : Int32 → Option Nat → Int32 → Int32 → Mem → Option (Unit × Mem)) (x1 : Int32) (x3 : Option Nat) (x4 : Int32) (x5 : Int32) (m : Mem) : Option (Unit × Mem) :=
  vb (x5 + 1 : Int32) fun v1 =>
  k109 x1 x3 x4 v1 m
set_option maxRecDepth 100000 in
def P_Reckoning_bind_240 (s0 : Option Nat) (s1 : Int32) (m : Mem) : Option (Unit × Mem) :=
  gd (inb s1 48) <|
  go m s0 11 <|
  vb (wR m 35 (ix s1) s0) fun m5 =>
  some ((), m5)
set_option maxRecDepth 100000 in
def P_Reckoning_bind_211 (x1 : Int32) (s0 : Option Nat) (s1 : Int32) (m : Mem) : Option (Unit × Mem) :=
  gd (inb s1 48) <|
  go m s0 11 <|
  vb (wR m 33 (ix s1) s0) fun m5 =>
  gd (inb x1 48) <|
  if (aR m5 33 (ix x1)) = none then (
    P_Reckoning_bind_240 none x1 m5)
  else (
    gd (inb x1 48) <|
    bn (P_Reckoning_lastAgree (aR m5 33 (ix x1)) m5) fun r9 m10 =>
    P_Reckoning_bind_240 r9 x1 m10)
set_option maxRecDepth 100000 in
def P_Reckoning_bind_194 (x1 : Int32) (x3 : Option Nat) (x4 : Int32) (s0 : Int32) (s1 : Int32) (m : Mem) : Option (Unit × Mem) :=
  gd (inb s1 48) <|
  vb (wI m 32 (ix s1) s0) fun m4 =>
  if x4 = 1 then (
    P_Reckoning_bind_211 x1 x3 x1 m4)
  else (
    P_Reckoning_bind_211 x1 none x1 m4)
set_option maxRecDepth 100000 in
def P_Reckoning_bind_192 (x1 : Int32) (x3 : Option Nat) (x4 : Int32) (s0 : Int32) (m : Mem) : Option (Unit × Mem) :=
  P_Reckoning_bind_194 x1 x3 x4 (-2) s0 m
set_option maxRecDepth 100000 in
def P_Reckoning_bind_170 (x1 : Int32) (x3 : Option Nat) (x4 : Int32) (m : Mem) : Option (Unit × Mem) :=
  if x4 = 1 then (
    if x3 = none then (
      P_Reckoning_bind_192 x1 x3 x4 x1 m)
    else (
      gs x3 fun a3 =>
      gt m a3 11 <|
      P_Reckoning_bind_194 x1 (some a3) x4 (mI m 1281 a3) x1 m))
  else (
    P_Reckoning_bind_192 x1 x3 x4 x1 m)
set_option maxRecDepth 100000 in
def P_Reckoning_bind_109 : Nat → Int32 → Option Nat → Int32 → Int32 → Mem → Option (Unit × Mem)
  | 0, _, _, _, _, _ => none
  | n + 1, x1, x3, x4, x5, m =>
  if (mI m 515 13) ≤ x5 then (
    P_Reckoning_bind_170 x1 x3 x4 m)
  else (
    gd (inb x5 24) <|
    gs (aR m 15 (ix x5)) fun a3 =>
    gt m a3 11 <|
    if (mI m 1280 a3) = 0 then (
      if (mI m 1295 a3) = 0 then (
        P_Reckoning_bind_164 (fun z0 z1 z2 z3 z4 => P_Reckoning_bind_109 n z0 z1 z2 z3 z4) x1 x3 x4 x5 m)
      else (
        bn (P_Reckoning_isOutdone (some a3) m) fun r8 m9 =>
        if r8 = 0 then (
          vb (x4 + 1 : Int32) fun v13 =>
          P_Reckoning_bind_164 (fun z0 z1 z2 z3 z4 => P_Reckoning_bind_109 n z0 z1 z2 z3 z4) x1 (some a3) v13 x5 m9)
        else (
          P_Reckoning_bind_164 (fun z0 z1 z2 z3 z4 => P_Reckoning_bind_109 n z0 z1 z2 z3 z4) x1 x3 x4 x5 m9)))
    else (
      P_Reckoning_bind_164 (fun z0 z1 z2 z3 z4 => P_Reckoning_bind_109 n z0 z1 z2 z3 z4) x1 x3 x4 x5 m))
set_option maxRecDepth 100000 in
def P_Reckoning_bind_96 (x1 : Int32) (x2 : Int32) (m : Mem) : Option (Unit × Mem) :=
  if x2 = 0 then (
    some ((), m))
  else (
    P_Reckoning_bind_109 FU x1 none 0 0 m)
set_option maxRecDepth 100000 in
def P_Reckoning_bind_9 : Nat → Int32 → Int32 → Int32 → Mem → Option (Unit × Mem)
  | 0, _, _, _, _ => none
  | n + 1, x1, x2, x3, m =>
  if (mI m 515 13) ≤ x3 then (
    P_Reckoning_bind_96 x1 x2 m)
  else (
    gd (inb x3 24) <|
    gs (aR m 15 (ix x3)) fun a3 =>
    gt m a3 11 <|
    bn (P_Text_changesAward a3 m) fun r6 m7 =>
    if r6 = 0 then (
      gt m7 a3 11 <|
      if (mI m7 1287 a3) = 0 then (
        P_Reckoning_bind_62 (fun z0 z1 z2 z3 => P_Reckoning_bind_9 n z0 z1 z2 z3) x1 x2 x3 (some a3) (some a3) m7)
      else (
        bn (P_Reckoning_someBindsHolds (some a3) m7) fun r12 m13 =>
        if r12 = 0 then (
          P_Reckoning_bind_62 (fun z0 z1 z2 z3 => P_Reckoning_bind_9 n z0 z1 z2 z3) x1 x2 x3 (some a3) (some a3) m13)
        else (
          P_Reckoning_bind_63 (fun z0 z1 z2 z3 => P_Reckoning_bind_9 n z0 z1 z2 z3) x1 x2 x3 (some a3) 1 (some a3) m13)))
    else (
      P_Reckoning_bind_62 (fun z0 z1 z2 z3 => P_Reckoning_bind_9 n z0 z1 z2 z3) x1 x2 x3 (some a3) (some a3) m7))
set_option maxRecDepth 100000 in
def P_Reckoning_bind (x1 : Int32) (m : Mem) : Option (Unit × Mem) :=
  bn (P_Reckoning_lookAt x1 m) fun _ m2 =>
  P_Reckoning_bind_9 FU x1 0 0 m2
set_option maxRecDepth 100000 in
def P_Text_firstClass_43 (k2 : Nat → Int32 → Int32 → Mem → Option (Int32 × Mem)) (a0 : Nat) (x1 : Int32) (x2 : Int32) (m : Mem) : Option (Int32 × Mem) :=
  vb (x2 + 1 : Int32) fun v1 =>
  k2 a0 x1 v1 m
set_option maxRecDepth 100000 in
def P_Text_firstClass_2 : Nat → Nat → Int32 → Int32 → Mem → Option (Int32 × Mem)
  | 0, _, _, _, _ => none
  | n + 1, a0, x1, x2, m =>
  if (mI m 1292 a0) ≤ x2 then (
    some ((-1), m))
  else (
    gs (mR m 1288 a0) fun a2 =>
    gt m a2 36 <|
    gd (inb x2 (mN m a2)) <|
    gs (aR m a2 (ix x2)) fun a6 =>
    gt m a6 3 <|
    if (mI m 256 a6) = 34 then (
      gs (mR m 1288 a0) fun a10 =>
      gt m a10 36 <|
      gd (inb x2 (mN m a10)) <|
      gs (aR m a10 (ix x2)) fun a14 =>
      gt m a14 3 <|
      if (((mI m 259 a14) >>> (x1 &&& 31)) &&& 1) = 1 then (
        some (x2, m))
      else (
        P_Text_firstClass_43 (fun z0 z1 z2 z3 => P_Text_firstClass_2 n z0 z1 z2 z3) a0 x1 x2 m))
    else (
      P_Text_firstClass_43 (fun z0 z1 z2 z3 => P_Text_firstClass_2 n z0 z1 z2 z3) a0 x1 x2 m))
set_option maxRecDepth 100000 in
def P_Text_firstClass (a0 : Nat) (x1 : Int32) (m : Mem) : Option (Int32 × Mem) :=
  P_Text_firstClass_2 FU a0 x1 0 m
set_option maxRecDepth 100000 in
def P_Reckoning_chosenClass_49 (k15 : Option Nat → Option Nat → Option Nat → Option Nat → Int32 → Mem → Option (Int32 × Mem)) (x1 : Option Nat) (x2 : Option Nat) (x3 : Option Nat) (x4 : Option Nat) (x5 : Int32) (m : Mem) : Option (Int32 × Mem) :=
  vb (x5 + 1 : Int32) fun v1 =>
  k15 x1 x2 x3 x4 v1 m
set_option maxRecDepth 100000 in
def P_Reckoning_chosenClass_149 (k67 : Option Nat → Option Nat → Int32 → Int32 → Int32 → Int32 → Mem → Option (Int32 × Mem)) (x1 : Option Nat) (x4 : Option Nat) (x5 : Int32) (x6 : Int32) (x7 : Int32) (x8 : Int32) (m : Mem) : Option (Int32 × Mem) :=
  vb (x8 + 1 : Int32) fun v1 =>
  k67 x1 x4 x5 x6 x7 v1 m
set_option maxRecDepth 100000 in
def P_Reckoning_chosenClass_137 (k67 : Option Nat → Option Nat → Int32 → Int32 → Int32 → Int32 → Mem → Option (Int32 × Mem)) (x1 : Option Nat) (x4 : Option Nat) (x8 : Int32) (x9 : Int32) (x10 : Int32) (m : Mem) : Option (Int32 × Mem) :=
  P_Reckoning_chosenClass_149 k67 x1 x4 x8 x9 x10 x8 m
set_option maxRecDepth 100000 in
def P_Reckoning_chosenClass_102 (k67 : Option Nat → Option Nat → Int32 → Int32 → Int32 → Int32 → Mem → Option (Int32 × Mem)) (x1 : Option Nat) (x4 : Option Nat) (x5 : Int32) (x6 : Int32) (x7 : Int32) (x8 : Int32) (s0 : Int32) (m : Mem) : Option (Int32 × Mem) :=
  bn (P_Scene_marginOf x1 x8 m) fun r1 m2 =>
  if x6 < s0 then (
    P_Reckoning_chosenClass_137 k67 x1 x4 x8 s0 r1 m2)
  else (
    if s0 = x6 then (
      if r1 ≤ x7 then (
        P_Reckoning_chosenClass_149 k67 x1 x4 x5 x6 x7 x8 m2)
      else (
        P_Reckoning_chosenClass_137 k67 x1 x4 x8 s0 r1 m2))
    else (
      P_Reckoning_chosenClass_149 k67 x1 x4 x5 x6 x7 x8 m2))
set_option maxRecDepth 100000 in
def P_Reckoning_chosenClass_67 : Nat → Option Nat → Option Nat → Int32 → Int32 → Int32 → Int32 → Mem → Option (Int32 × Mem)
  | 0, _, _, _, _, _, _, _ => none
  | n + 1, x1, x4, x5, x6, x7, x8, m =>
  gs x1 fun a1 =>
  gt m a1 11 <|
  if (mI m 1292 a1) ≤ x8 then (
    some (x5, m))
  else (
    gs x4 fun a4 =>
    gt m a4 32 <|
    gd (inb x8 (mN m a4)) <|
    if (aI m a4 (ix x8)) ≤ 0 then (
      P_Reckoning_chosenClass_149 (fun z0 z1 z2 z3 z4 z5 z6 => P_Reckoning_chosenClass_67 n z0 z1 z2 z3 z4 z5 z6) (some a1) (some a4) x5 x6 x7 x8 m)
    else (
      if (mI m 1293 a1) = 52 then (
        gd (inb x8 (mN m a4)) <|
        P_Reckoning_chosenClass_102 (fun z0 z1 z2 z3 z4 z5 z6 => P_Reckoning_chosenClass_67 n z0 z1 z2 z3 z4 z5 z6) (some a1) (some a4) x5 x6 x7 x8 (aI m a4 (ix x8)) m)
      else (
        P_Reckoning_chosenClass_102 (fun z0 z1 z2 z3 z4 z5 z6 => P_Reckoning_chosenClass_67 n z0 z1 z2 z3 z4 z5 z6) (some a1) (some a4) x5 x6 x7 x8 1 m)))
set_option maxRecDepth 100000 in
def P_Reckoning_chosenClass_55 (x1 : Option Nat) (x4 : Option Nat) (m : Mem) : Option (Int32 × Mem) :=
  P_Reckoning_chosenClass_67 FU x1 x4 (-1) 0 0 0 m
set_option maxRecDepth 100000 in
def P_Reckoning_chosenClass_15 : Nat → Option Nat → Option Nat → Option Nat → Option Nat → Int32 → Mem → Option (Int32 × Mem)
  | 0, _, _, _, _, _, _ => none
  | n + 1, x1, x2, x3, x4, x5, m =>
  if 48 ≤ x5 then (
    P_Reckoning_chosenClass_55 x1 x4 m)
  else (
    gs x2 fun a2 =>
    gt m a2 37 <|
    gd (inb x5 (mN m a2)) <|
    if (aR m a2 (ix x5)) = x1 then (
      gs x3 fun a6 =>
      gt m a6 32 <|
      gd (inb x5 (mN m a6)) <|
      if (aI m a6 (ix x5)) = (-1) then (
        P_Reckoning_chosenClass_49 (fun z0 z1 z2 z3 z4 z5 => P_Reckoning_chosenClass_15 n z0 z1 z2 z3 z4 z5) x1 (some a2) (some a6) x4 x5 m)
      else (
        gs x4 fun a10 =>
        gd (inb x5 (mN m a6)) <|
        gt m a10 32 <|
        gd (inb (aI m a6 (ix x5)) (mN m a10)) <|
        gd (inb (aI m a6 (ix x5)) (mN m a10)) <|
        vb (wI m a10 (ix (aI m a6 (ix x5))) ((aI m a10 (ix (aI m a6 (ix x5)))) + 1)) fun m15 =>
        P_Reckoning_chosenClass_49 (fun z0 z1 z2 z3 z4 z5 => P_Reckoning_chosenClass_15 n z0 z1 z2 z3 z4 z5) x1 (some a2) (some a6) (some a10) x5 m15))
    else (
      P_Reckoning_chosenClass_49 (fun z0 z1 z2 z3 z4 z5 => P_Reckoning_chosenClass_15 n z0 z1 z2 z3 z4 z5) x1 (some a2) x3 x4 x5 m))
set_option maxRecDepth 100000 in
def P_Reckoning_chosenClass (x1 : Option Nat) (x2 : Option Nat) (x3 : Option Nat) (m : Mem) : Option (Int32 × Mem) :=
  gs x1 fun a1 =>
  gt m a1 11 <|
  bn (J_fill (mR m 1291 a1) 0 m) fun _ m4 =>
  P_Reckoning_chosenClass_15 FU (some a1) x2 x3 (mR m 1291 a1) 0 m4
set_option maxRecDepth 100000 in
def P_Reckoning_findClasses_32 (k2 : Option Nat → Option Nat → Int32 → Mem → Option (Unit × Mem)) (x1 : Option Nat) (x2 : Option Nat) (x3 : Int32) (s0 : Int32) (s1 : Int32) (s2 : Option Nat) (m : Mem) : Option (Unit × Mem) :=
  gs s2 fun a1 =>
  gt m a1 32 <|
  gd (inb s1 (mN m a1)) <|
  vb (wI m a1 (ix s1) s0) fun m4 =>
  vb (x3 + 1 : Int32) fun v6 =>
  k2 x1 x2 v6 m4
set_option maxRecDepth 100000 in
def P_Reckoning_findClasses_124 (k41 : Option Nat → Option Nat → Int32 → Mem → Option (Unit × Mem)) (k94 : Option Nat → Option Nat → Int32 → Option Nat → Int32 → Int32 → Mem → Option (Unit × Mem)) (x1 : Option Nat) (x2 : Option Nat) (x3 : Int32) (x4 : Option Nat) (x5 : Int32) (x6 : Int32) (m : Mem) : Option (Unit × Mem) :=
  vb (x6 + 1 : Int32) fun v1 =>
  k94 x1 x2 x3 x4 x5 v1 m
set_option maxRecDepth 100000 in
def P_Reckoning_findClasses_130 (k41 : Option Nat → Option Nat → Int32 → Mem → Option (Unit × Mem)) (x1 : Option Nat) (x2 : Option Nat) (x3 : Int32) (m : Mem) : Option (Unit × Mem) :=
  vb (x3 + 1 : Int32) fun v1 =>
  k41 x1 x2 v1 m
set_option maxRecDepth 100000 in
def P_Reckoning_findClasses_94 (k41 : Option Nat → Option Nat → Int32 → Mem → Option (Unit × Mem)) : Nat → Option Nat → Option Nat → Int32 → Option Nat → Int32 → Int32 → Mem → Option (Unit × Mem)
  | 0, _, _, _, _, _, _, _ => none
  | n + 1, x1, x2, x3, x4, x5, x6, m =>
  if 48 ≤ x6 then (
    P_Reckoning_findClasses_130 k41 x1 x2 x3 m)
  else (
    gs x1 fun a2 =>
    gt m a2 37 <|
    gd (inb x6 (mN m a2)) <|
    if (aR m a2 (ix x6)) = x4 then (
      gs x2 fun a6 =>
      gt m a6 32 <|
      gd (inb x6 (mN m a6)) <|
      if (aI m a6 (ix x6)) = (-1) then (
        P_Reckoning_findClasses_124 k41 (fun z0 z1 z2 z3 z4 z5 z6 => P_Reckoning_findClasses_94 k41 n z0 z1 z2 z3 z4 z5 z6) (some a2) (some a6) x3 x4 x5 x6 m)
      else (
        gd (inb x6 (mN m a6)) <|
        vb (wI m a6 (ix x6) x5) fun m11 =>
        P_Reckoning_findClasses_124 k41 (fun z0 z1 z2 z3 z4 z5 z6 => P_Reckoning_findClasses_94 k41 n z0 z1 z2 z3 z4 z5 z6) (some a2) (some a6) x3 x4 x5 x6 m11))
    else (
      P_Reckoning_findClasses_124 k41 (fun z0 z1 z2 z3 z4 z5 z6 => P_Reckoning_findClasses_94 k41 n z0 z1 z2 z3 z4 z5 z6) (some a2) x2 x3 x4 x5 x6 m))
set_option maxRecDepth 100000 in
def P_Reckoning_findClasses_41 : Nat → Option Nat → Option Nat → Int32 → Mem → Option (Unit × Mem)
  | 0, _, _, _, _ => none
  | n + 1, x1, x2, x3, m =>
  if (mI m 515 13) ≤ x3 then (
    some ((), m))
  else (
    gd (inb x3 24) <|
    gs (aR m 15 (ix x3)) fun a3 =>
    gt m a3 11 <|
    if (mI m 1287 a3) = 0 then (
      P_Reckoning_findClasses_130 (fun z0 z1 z2 z3 => P_Reckoning_findClasses_41 n z0 z1 z2 z3) x1 x2 x3 m)
    else (
      if (mI m 1293 a3) = 51 then (
        P_Reckoning_findClasses_130 (fun z0 z1 z2 z3 => P_Reckoning_findClasses_41 n z0 z1 z2 z3) x1 x2 x3 m)
      else (
        bn (P_Reckoning_chosenClass (some a3) x1 x2 m) fun r8 m9 =>
        P_Reckoning_findClasses_94 (fun z0 z1 z2 z3 => P_Reckoning_findClasses_41 n z0 z1 z2 z3) FU x1 x2 x3 (some a3) r8 0 m9)))
set_option maxRecDepth 100000 in
def P_Reckoning_findClasses_39 (x1 : Option Nat) (x2 : Option Nat) (m : Mem) : Option (Unit × Mem) :=
  P_Reckoning_findClasses_41 FU x1 x2 0 m
set_option maxRecDepth 100000 in
def P_Reckoning_findClasses_2 : Nat → Option Nat → Option Nat → Int32 → Mem → Option (Unit × Mem)
  | 0, _, _, _, _ => none
  | n + 1, x1, x2, x3, m =>
  if 48 ≤ x3 then (
    P_Reckoning_findClasses_39 x1 x2 m)
  else (
    gs x1 fun a2 =>
    gt m a2 37 <|
    gd (inb x3 (mN m a2)) <|
    if (aR m a2 (ix x3)) = none then (
      P_Reckoning_findClasses_32 (fun z0 z1 z2 z3 => P_Reckoning_findClasses_2 n z0 z1 z2 z3) (some a2) x2 x3 (-1) x3 x2 m)
    else (
      gd (inb x3 (mN m a2)) <|
      gs (aR m a2 (ix x3)) fun a7 =>
      gd (inb x3 48) <|
      gt m a7 11 <|
      bn (P_Text_firstClass a7 (aI m 30 (ix x3)) m) fun r11 m12 =>
      P_Reckoning_findClasses_32 (fun z0 z1 z2 z3 => P_Reckoning_findClasses_2 n z0 z1 z2 z3) (some a2) x2 x3 r11 x3 x2 m12))
set_option maxRecDepth 100000 in
def P_Reckoning_findClasses (x1 : Option Nat) (x2 : Option Nat) (m : Mem) : Option (Unit × Mem) :=
  P_Reckoning_findClasses_2 FU x1 x2 0 m
set_option maxRecDepth 100000 in
def P_Scene_basket (m : Mem) : Option (Int32 × Mem) :=
  gd (inb 0 12) <|
  some (aI m 27 (ix 0), m)
set_option maxRecDepth 100000 in
def P_Reckoning_worthBy_244 (k70 : Option Nat → Int32 → Int32 → Int64 → Int32 → Mem → Option (Int32 × Mem)) (x1 : Option Nat) (x4 : Int32) (x5 : Int32) (x6 : Int64) (x8 : Int32) (m : Mem) : Option (Int32 × Mem) :=
  vb (x8 + 1 : Int32) fun v1 =>
  k70 x1 x4 x5 x6 v1 m
set_option maxRecDepth 100000 in
def P_Reckoning_worthBy_207 (k70 : Option Nat → Int32 → Int32 → Int64 → Int32 → Mem → Option (Int32 × Mem)) (x1 : Option Nat) (x4 : Int32) (x6 : Int64) (x8 : Int32) (x9 : Option Nat) (s0 : Int32) (s1 : Int32) (m : Mem) : Option (Int32 × Mem) :=
  vb (s1 + s0 : Int32) fun v1 =>
  gs x9 fun a2 =>
  gt m a2 3 <|
  vb (x6 ||| (mL m 264 a2) : Int64) fun v4 =>
  gd (inb (mI m 1043 28) 60) <|
  vb (wI m 40 (ix (mI m 1043 28)) (mI m 258 a2)) fun m8 =>
  vb (sI m8 1043 28 ((mI m8 1043 28) + 1)) fun m11 =>
  P_Reckoning_worthBy_244 k70 x1 x4 v1 v4 x8 m11
set_option maxRecDepth 100000 in
def P_Reckoning_worthBy_179 (k70 : Option Nat → Int32 → Int32 → Int64 → Int32 → Mem → Option (Int32 × Mem)) (x1 : Option Nat) (x5 : Int32) (x6 : Int64) (x8 : Int32) (x9 : Option Nat) (x10 : Int32) (s0 : Int32) (s1 : Int32) (m : Mem) : Option (Int32 × Mem) :=
  vb (s1 + s0 : Int32) fun v1 =>
  gs x9 fun a2 =>
  gt m a2 3 <|
  if (mI m 256 a2) = 37 then (
    bp (P_held x10 0 999) fun r5 =>
    P_Reckoning_worthBy_207 k70 x1 v1 x6 x8 (some a2) r5 x5 m)
  else (
    P_Reckoning_worthBy_207 k70 x1 v1 x6 x8 (some a2) 0 x5 m)
set_option maxRecDepth 100000 in
def P_Reckoning_worthBy_131 (k70 : Option Nat → Int32 → Int32 → Int64 → Int32 → Mem → Option (Int32 × Mem)) (x1 : Option Nat) (x4 : Int32) (x5 : Int32) (x6 : Int64) (x8 : Int32) (x9 : Option Nat) (m : Mem) : Option (Int32 × Mem) :=
  gs x9 fun a1 =>
  gt m a1 3 <|
  bn (P_Formula_result (mR m 262 a1) (some 39) 0 m) fun r3 m4 =>
  gt m4 a1 3 <|
  if (mI m4 256 a1) = 36 then (
    bp (P_held r3 (-100) 400) fun r9 =>
    P_Reckoning_worthBy_179 k70 x1 x5 x6 x8 (some a1) r3 r9 x4 m4)
  else (
    P_Reckoning_worthBy_179 k70 x1 x5 x6 x8 (some a1) r3 0 x4 m4)
set_option maxRecDepth 100000 in
def P_Reckoning_worthBy_250 (x4 : Int32) (x5 : Int32) (m : Mem) : Option (Int32 × Mem) :=
  bp (P_held x4 0 1000) fun r1 =>
  some (((mI m 1041 28) * r1) + (200 * (jmin x5 9999)), m)
set_option maxRecDepth 100000 in
def P_Reckoning_worthBy_70 : Nat → Option Nat → Int32 → Int32 → Int64 → Int32 → Mem → Option (Int32 × Mem)
  | 0, _, _, _, _, _, _ => none
  | n + 1, x1, x4, x5, x6, x8, m =>
  gs x1 fun a1 =>
  gt m a1 11 <|
  if (mI m 1292 a1) ≤ x8 then (
    P_Reckoning_worthBy_250 x4 x5 m)
  else (
    gs (mR m 1288 a1) fun a4 =>
    gt m a4 36 <|
    gd (inb x8 (mN m a4)) <|
    gs (aR m a4 (ix x8)) fun a8 =>
    gt m a8 3 <|
    if (mI m 256 a8) = 34 then (
      P_Reckoning_worthBy_244 (fun z0 z1 z2 z3 z4 z5 => P_Reckoning_worthBy_70 n z0 z1 z2 z3 z4 z5) (some a1) x4 x5 x6 x8 m)
    else (
      if (lg_cmp ((x6 >>> (Int32.toInt64 (mI m 258 a8) &&& 63)) &&& 1) 0) = 0 then (
        gs (mR m 263 a8) fun a13 =>
        gt m a13 32 <|
        if (Int32.ofNat (mN m a13)) = 0 then (
          P_Reckoning_worthBy_131 (fun z0 z1 z2 z3 z4 z5 => P_Reckoning_worthBy_70 n z0 z1 z2 z3 z4 z5) (some a1) x4 x5 x6 x8 (some a8) m)
        else (
          bn (P_Reckoning_holds (some a8) m) fun r17 m18 =>
          if r17 = 0 then (
            P_Reckoning_worthBy_244 (fun z0 z1 z2 z3 z4 z5 => P_Reckoning_worthBy_70 n z0 z1 z2 z3 z4 z5) (some a1) x4 x5 x6 x8 m18)
          else (
            P_Reckoning_worthBy_131 (fun z0 z1 z2 z3 z4 z5 => P_Reckoning_worthBy_70 n z0 z1 z2 z3 z4 z5) (some a1) x4 x5 x6 x8 (some a8) m18)))
      else (
        P_Reckoning_worthBy_244 (fun z0 z1 z2 z3 z4 z5 => P_Reckoning_worthBy_70 n z0 z1 z2 z3 z4 z5) (some a1) x4 x5 x6 x8 m)))
set_option maxRecDepth 100000 in
def P_Reckoning_worthBy (x1 : Option Nat) (x2 : Int32) (x3 : Int32) (m : Mem) : Option (Int32 × Mem) :=
  vb (sI m 1043 28 0) fun m2 =>
  if x1 = none then (
    some (0, m2))
  else (
    if x2 = (-1) then (
      some (0, m2))
    else (
      bn (P_Reckoning_lookAt x3 m2) fun _ m6 =>
      bn (P_Scene_basket m6) fun r9 m10 =>
      bn (P_Scene_marginOf x1 x2 m10) fun r13 m14 =>
      vb (sI m14 1041 28 (jmax 0 (r9 + r13))) fun m18 =>
      gd (inb 11 12) <|
      vb (wI m18 39 (ix 11) (mI m18 1041 28)) fun m22 =>
      P_Reckoning_worthBy_70 FU x1 100 0 0 0 m22))
set_option maxRecDepth 100000 in
def P_Reckoning_findPayer_81 (s0 : Option Nat) (s1 : Int32) (m : Mem) : Option (Unit × Mem) :=
  gd (inb s1 48) <|
  go m s0 11 <|
  vb (wR m 37 (ix s1) s0) fun m5 =>
  some ((), m5)
set_option maxRecDepth 100000 in
def P_Reckoning_findPayer (x1 : Int32) (m : Mem) : Option (Unit × Mem) :=
  gd (inb x1 48) <|
  gd (inb x1 48) <|
  bn (P_Reckoning_worthBy (aR m 33 (ix x1)) (aI m 34 (ix x1)) x1 m) fun r3 m4 =>
  gd (inb x1 48) <|
  gd (inb x1 48) <|
  bn (P_Reckoning_worthBy (aR m4 35 (ix x1)) (aI m4 36 (ix x1)) x1 m4) fun r9 m10 =>
  gd (inb x1 48) <|
  vb (wI m10 38 (ix x1) (jmax r3 r9)) fun m16 =>
  gd (inb x1 48) <|
  if (aI m16 38 (ix x1)) ≤ 0 then (
    some ((), m16))
  else (
    if r9 ≤ r3 then (
      gd (inb x1 48) <|
      P_Reckoning_findPayer_81 (aR m16 33 (ix x1)) x1 m16)
    else (
      gd (inb x1 48) <|
      P_Reckoning_findPayer_81 (aR m16 35 (ix x1)) x1 m16))
set_option maxRecDepth 100000 in
def P_Reckoning_reckon_168 (k142 : Int32 → Mem → Option (Unit × Mem)) (x4 : Int32) (m : Mem) : Option (Unit × Mem) :=
  vb (x4 + 1 : Int32) fun v1 =>
  k142 v1 m
set_option maxRecDepth 100000 in
def P_Reckoning_reckon_224 (k201 : Int32 → Mem → Option (Unit × Mem)) (x4 : Int32) (m : Mem) : Option (Unit × Mem) :=
  vb (x4 + 1 : Int32) fun v1 =>
  k201 v1 m
set_option maxRecDepth 100000 in
def P_Reckoning_reckon_201 : Nat → Int32 → Mem → Option (Unit × Mem)
  | 0, _, _ => none
  | n + 1, x4, m =>
  if 48 ≤ x4 then (
    some ((), m))
  else (
    gd (inb x4 48) <|
    if (aR m 33 (ix x4)) = none then (
      P_Reckoning_reckon_224 (fun z0 z1 => P_Reckoning_reckon_201 n z0 z1) x4 m)
    else (
      bn (P_Reckoning_findPayer x4 m) fun _ m5 =>
      P_Reckoning_reckon_224 (fun z0 z1 => P_Reckoning_reckon_201 n z0 z1) x4 m5))
set_option maxRecDepth 100000 in
def P_Reckoning_reckon_174 (m : Mem) : Option (Unit × Mem) :=
  bn (P_Reckoning_findClasses (some 33) (some 34) m) fun _ m2 =>
  bn (P_Reckoning_findClasses (some 35) (some 36) m2) fun _ m6 =>
  P_Reckoning_reckon_201 FU 0 m6
set_option maxRecDepth 100000 in
def P_Reckoning_reckon_142 : Nat → Int32 → Mem → Option (Unit × Mem)
  | 0, _, _ => none
  | n + 1, x4, m =>
  if 48 ≤ x4 then (
    P_Reckoning_reckon_174 m)
  else (
    gd (inb x4 48) <|
    bp (P_isTask (aI m 30 (ix x4))) fun r3 =>
    if r3 = 0 then (
      P_Reckoning_reckon_168 (fun z0 z1 => P_Reckoning_reckon_142 n z0 z1) x4 m)
    else (
      bn (P_Reckoning_bind x4 m) fun _ m6 =>
      P_Reckoning_reckon_168 (fun z0 z1 => P_Reckoning_reckon_142 n z0 z1) x4 m6))
set_option maxRecDepth 100000 in
def P_Reckoning_reckon_32 (x1 : Int32) (m : Mem) : Option (Unit × Mem) :=
  bn (P_Reckoning_takeTasks x1 m) fun _ m2 =>
  bn (P_Reckoning_tasksOn x1 m2) fun r5 m6 =>
  if r5 = 0 then (
    some ((), m6))
  else (
    gd (inb (mI m6 1026 28) 10) <|
    vb (aI m6 8 (ix (mI m6 1026 28)) : Int32) fun v11 =>
    vb (((mI m6 1027 28) * 7) + x1 : Int32) fun v12 =>
    gd (inb (mI m6 1026 28) 10) <|
    bn (P_Scene_open v11 v12 (mI m6 1028 28) (aI m6 10 (ix (mI m6 1026 28))) m6) fun _ m15 =>
    bn (P_Scene_copyVars (some 39) m15) fun _ m19 =>
    gd (inb 6 12) <|
    vb (wI m19 39 (ix 6) x1) fun m25 =>
    bn (P_Ledger_lastWet v11 v12 (mI m25 1028 28) m25) fun r26 m27 =>
    gd (inb 10 12) <|
    vb (wI m27 39 (ix 10) r26) fun m33 =>
    P_Reckoning_reckon_142 FU 0 m33)
set_option maxRecDepth 100000 in
def P_Reckoning_reckon_7 : Nat → Int32 → Int32 → Mem → Option (Unit × Mem)
  | 0, _, _, _ => none
  | n + 1, x1, x2, m =>
  if x1 ≤ x2 then (
    P_Reckoning_reckon_32 x1 m)
  else (
    bn (P_Reckoning_tasksOn x2 m) fun r2 m3 =>
    vb (sI m3 1032 28 ((mI m 1032 28) + r2)) fun m7 =>
    vb (x2 + 1 : Int32) fun v8 =>
    P_Reckoning_reckon_7 n x1 v8 m7)
set_option maxRecDepth 100000 in
def P_Reckoning_reckon (x1 : Int32) (m : Mem) : Option (Unit × Mem) :=
  vb (sI m 1032 28 0) fun m2 =>
  P_Reckoning_reckon_7 FU x1 0 m2
set_option maxRecDepth 100000 in
def P_reckoned (x1 : Int32) (x2 : Int32) (x3 : Int32) (x4 : Int32) (m : Mem) : Option (Int32 × Mem) :=
  bn (P_isHalfOf x1 x2 x3 x4 m) fun r1 m2 =>
  if r1 = 0 then (
    some (0, m2))
  else (
    bn (P_Reckoning_load x1 (x2 / 7) x4 m2) fun _ m7 =>
    bn (P_Reckoning_reckon (x2 - x2 / 7 * 7) m7) fun _ m11 =>
    some (1, m11))
set_option maxRecDepth 100000 in
def P_bound (x1 : Int32) (x2 : Int32) (x3 : Int32) (x4 : Int32) (m : Mem) : Option (Int32 × Mem) :=
  bn (P_reckoned x1 x2 x3 x4 m) fun r1 m2 =>
  if r1 = 0 then (
    some ((-1), m2))
  else (
    gd (inb x3 48) <|
    some (aI m2 32 (ix x3), m2))
set_option maxRecDepth 100000 in
def P_classed (x1 : Int32) (x2 : Int32) (x3 : Int32) (x4 : Int32) (m : Mem) : Option (Int32 × Mem) :=
  bn (P_reckoned x1 x2 x3 x4 m) fun r1 m2 =>
  if r1 = 0 then (
    some ((-1), m2))
  else (
    gd (inb x3 48) <|
    gd (inb x3 48) <|
    vb (aI m2 34 (ix x3) : Int32) fun v8 =>
    if (aR m2 33 (ix x3)) = none then (
      some ((-1), m2))
    else (
      if v8 = (-1) then (
        some ((-1), m2))
      else (
        gs (aR m2 33 (ix x3)) fun a11 =>
        gt m2 a11 11 <|
        gs (mR m2 1288 a11) fun a14 =>
        gt m2 a14 36 <|
        gd (inb v8 (mN m2 a14)) <|
        gs (aR m2 a14 (ix v8)) fun a18 =>
        gt m2 a18 3 <|
        some (mI m2 258 a18, m2))))
set_option maxRecDepth 100000 in
def J_bitCount (x0 : Int32) : Option (Int32) :=
  vb (x0 - (((Int32.toUInt32 x0 >>> (Int32.toUInt32 1 &&& Int32.toUInt32 31)).toInt32) &&& 1431655765) : Int32) fun v1 =>
  vb ((v1 &&& 858993459) + (((Int32.toUInt32 v1 >>> (Int32.toUInt32 2 &&& Int32.toUInt32 31)).toInt32) &&& 858993459) : Int32) fun v2 =>
  vb ((v2 + ((Int32.toUInt32 v2 >>> (Int32.toUInt32 4 &&& Int32.toUInt32 31)).toInt32)) &&& 252645135 : Int32) fun v3 =>
  vb (v3 + ((Int32.toUInt32 v3 >>> (Int32.toUInt32 8 &&& Int32.toUInt32 31)).toInt32) : Int32) fun v4 =>
  vb (v4 + ((Int32.toUInt32 v4 >>> (Int32.toUInt32 16 &&& Int32.toUInt32 31)).toInt32) : Int32) fun v5 =>
  some (v5 &&& 63)
set_option maxRecDepth 100000 in
def P_Text_nearestClass_119 (k8 : Nat → Int32 → Option Nat → Int32 → Int32 → Int32 → Mem → Option (Int32 × Mem)) (k20 : Nat → Int32 → Option Nat → Int32 → Int32 → Int32 → Int32 → Mem → Option (Int32 × Mem)) (a0 : Nat) (x1 : Int32) (x2 : Option Nat) (x3 : Int32) (x4 : Int32) (x5 : Int32) (x6 : Int32) (m : Mem) : Option (Int32 × Mem) :=
  vb (x6 + 1 : Int32) fun v1 =>
  k20 a0 x1 x2 x3 x4 x5 v1 m
set_option maxRecDepth 100000 in
def P_Text_nearestClass_95 (k8 : Nat → Int32 → Option Nat → Int32 → Int32 → Int32 → Mem → Option (Int32 × Mem)) (k20 : Nat → Int32 → Option Nat → Int32 → Int32 → Int32 → Int32 → Mem → Option (Int32 × Mem)) (a0 : Nat) (x1 : Int32) (x2 : Option Nat) (x3 : Int32) (x4 : Int32) (x5 : Int32) (x6 : Int32) (s0 : Int32) (m : Mem) : Option (Int32 × Mem) :=
  if s0 ≤ x4 then (
    P_Text_nearestClass_119 k8 k20 a0 x1 x2 x3 x4 x5 x6 m)
  else (
    gs (mR m 1288 a0) fun a2 =>
    gt m a2 36 <|
    gd (inb x5 (mN m a2)) <|
    gs (aR m a2 (ix x5)) fun a6 =>
    gt m a6 3 <|
    vb (mI m 258 a6 : Int32) fun v9 =>
    P_Text_nearestClass_119 k8 k20 a0 x1 x2 v9 s0 x5 x6 m)
set_option maxRecDepth 100000 in
def P_Text_nearestClass_94 (k8 : Nat → Int32 → Option Nat → Int32 → Int32 → Int32 → Mem → Option (Int32 × Mem)) (k20 : Nat → Int32 → Option Nat → Int32 → Int32 → Int32 → Int32 → Mem → Option (Int32 × Mem)) (a0 : Nat) (x1 : Int32) (x2 : Option Nat) (x3 : Int32) (x4 : Int32) (x5 : Int32) (x6 : Int32) (m : Mem) : Option (Int32 × Mem) :=
  P_Text_nearestClass_95 k8 k20 a0 x1 x2 x3 x4 x5 x6 0 m
set_option maxRecDepth 100000 in
def P_Text_nearestClass_66 (k8 : Nat → Int32 → Option Nat → Int32 → Int32 → Int32 → Mem → Option (Int32 × Mem)) (k20 : Nat → Int32 → Option Nat → Int32 → Int32 → Int32 → Int32 → Mem → Option (Int32 × Mem)) (a0 : Nat) (x1 : Int32) (x2 : Option Nat) (x3 : Int32) (x4 : Int32) (x5 : Int32) (x6 : Int32) (s0 : Int32) (m : Mem) : Option (Int32 × Mem) :=
  if s0 = 0 then (
    P_Text_nearestClass_94 k8 k20 a0 x1 x2 x3 x4 x5 x6 m)
  else (
    bp (P_isTask x1) fun r2 =>
    if r2 = 0 then (
      P_Text_nearestClass_94 k8 k20 a0 x1 x2 x3 x4 x5 x6 m)
    else (
      gs x2 fun a4 =>
      gt m a4 32 <|
      gd (inb x1 (mN m a4)) <|
      gd (inb x6 (mN m a4)) <|
      bp (J_bitCount ((aI m a4 (ix x1)) &&& (aI m a4 (ix x6)))) fun r8 =>
      P_Text_nearestClass_95 k8 k20 a0 x1 (some a4) x3 x4 x5 x6 r8 m))
set_option maxRecDepth 100000 in
def P_Text_nearestClass_65 (k8 : Nat → Int32 → Option Nat → Int32 → Int32 → Int32 → Mem → Option (Int32 × Mem)) (k20 : Nat → Int32 → Option Nat → Int32 → Int32 → Int32 → Int32 → Mem → Option (Int32 × Mem)) (a0 : Nat) (x1 : Int32) (x2 : Option Nat) (x3 : Int32) (x4 : Int32) (x5 : Int32) (x6 : Int32) (m : Mem) : Option (Int32 × Mem) :=
  P_Text_nearestClass_66 k8 k20 a0 x1 x2 x3 x4 x5 x6 0 m
set_option maxRecDepth 100000 in
def P_Text_nearestClass_125 (k8 : Nat → Int32 → Option Nat → Int32 → Int32 → Int32 → Mem → Option (Int32 × Mem)) (a0 : Nat) (x1 : Int32) (x2 : Option Nat) (x3 : Int32) (x4 : Int32) (x5 : Int32) (m : Mem) : Option (Int32 × Mem) :=
  vb (x5 + 1 : Int32) fun v1 =>
  k8 a0 x1 x2 x3 x4 v1 m
set_option maxRecDepth 100000 in
def P_Text_nearestClass_20 (k8 : Nat → Int32 → Option Nat → Int32 → Int32 → Int32 → Mem → Option (Int32 × Mem)) : Nat → Nat → Int32 → Option Nat → Int32 → Int32 → Int32 → Int32 → Mem → Option (Int32 × Mem)
  | 0, _, _, _, _, _, _, _, _ => none
  | n + 1, a0, x1, x2, x3, x4, x5, x6, m =>
  gs x2 fun a1 =>
  gt m a1 32 <|
  if (Int32.ofNat (mN m a1)) ≤ x6 then (
    P_Text_nearestClass_125 k8 a0 x1 (some a1) x3 x4 x5 m)
  else (
    gs (mR m 1288 a0) fun a4 =>
    gt m a4 36 <|
    gd (inb x5 (mN m a4)) <|
    gs (aR m a4 (ix x5)) fun a8 =>
    gt m a8 3 <|
    if (mI m 256 a8) = 34 then (
      gs (mR m 1288 a0) fun a12 =>
      gt m a12 36 <|
      gd (inb x5 (mN m a12)) <|
      gs (aR m a12 (ix x5)) fun a16 =>
      gt m a16 3 <|
      if (((mI m 259 a16) >>> (x6 &&& 31)) &&& 1) = 1 then (
        P_Text_nearestClass_66 k8 (fun z0 z1 z2 z3 z4 z5 z6 z7 => P_Text_nearestClass_20 k8 n z0 z1 z2 z3 z4 z5 z6 z7) a0 x1 (some a1) x3 x4 x5 x6 1 m)
      else (
        P_Text_nearestClass_65 k8 (fun z0 z1 z2 z3 z4 z5 z6 z7 => P_Text_nearestClass_20 k8 n z0 z1 z2 z3 z4 z5 z6 z7) a0 x1 (some a1) x3 x4 x5 x6 m))
    else (
      P_Text_nearestClass_65 k8 (fun z0 z1 z2 z3 z4 z5 z6 z7 => P_Text_nearestClass_20 k8 n z0 z1 z2 z3 z4 z5 z6 z7) a0 x1 (some a1) x3 x4 x5 x6 m))
set_option maxRecDepth 100000 in
def P_Text_nearestClass_8 : Nat → Nat → Int32 → Option Nat → Int32 → Int32 → Int32 → Mem → Option (Int32 × Mem)
  | 0, _, _, _, _, _, _, _ => none
  | n + 1, a0, x1, x2, x3, x4, x5, m =>
  if (mI m 1292 a0) ≤ x5 then (
    some (x3, m))
  else (
    P_Text_nearestClass_20 (fun z0 z1 z2 z3 z4 z5 z6 => P_Text_nearestClass_8 n z0 z1 z2 z3 z4 z5 z6) FU a0 x1 x2 x3 x4 x5 0 m)
set_option maxRecDepth 100000 in
def P_Text_nearestClass (a0 : Nat) (x1 : Int32) (x2 : Option Nat) (m : Mem) : Option (Int32 × Mem) :=
  P_Text_nearestClass_8 FU a0 x1 x2 (-1) 0 0 m
set_option maxRecDepth 100000 in
def P_nearest (x1 : Int32) (x2 : Int32) (x3 : Int32) (x4 : Int32) (m : Mem) : Option (Int32 × Mem) :=
  bn (P_reckoned x1 x2 x3 x4 m) fun r1 m2 =>
  if r1 = 0 then (
    some ((-1), m2))
  else (
    gd (inb x3 48) <|
    if (aR m2 33 (ix x3)) = none then (
      some ((-1), m2))
    else (
      gd (inb x3 48) <|
      if (aI m2 34 (ix x3)) = (-1) then (
        gs (aR m2 33 (ix x3)) fun a10 =>
        gd (inb x3 48) <|
        gt m2 a10 11 <|
        bn (P_Text_nearestClass a10 (aI m2 30 (ix x3)) (some 11) m2) fun r14 m15 =>
        some (r14, m15))
      else (
        some ((-1), m2))))
set_option maxRecDepth 100000 in
def P_payer (x1 : Int32) (x2 : Int32) (x3 : Int32) (x4 : Int32) (m : Mem) : Option (Int32 × Mem) :=
  bn (P_reckoned x1 x2 x3 x4 m) fun r1 m2 =>
  if r1 = 0 then (
    some ((-1), m2))
  else (
    gd (inb x3 48) <|
    if (aR m2 37 (ix x3)) = none then (
      some ((-1), m2))
    else (
      gs (aR m2 37 (ix x3)) fun a8 =>
      gt m2 a8 11 <|
      some (mI m2 1281 a8, m2)))
set_option maxRecDepth 100000 in
def P_Reckoning_repeat_47 (x1 : Int32) (s0 : Int32) (s1 : Option Nat) (m : Mem) : Option (Unit × Mem) :=
  bn (P_Reckoning_worthBy s1 s0 x1 m) fun r1 m2 =>
  some ((), m2)
set_option maxRecDepth 100000 in
def P_Reckoning_repeat_20 (x1 : Int32) (s0 : Int32) (m : Mem) : Option (Unit × Mem) :=
  gd (inb x1 48) <|
  if s0 = 0 then (
    gd (inb x1 48) <|
    P_Reckoning_repeat_47 x1 (aI m 36 (ix x1)) (aR m 37 (ix x1)) m)
  else (
    gd (inb x1 48) <|
    P_Reckoning_repeat_47 x1 (aI m 34 (ix x1)) (aR m 37 (ix x1)) m)
set_option maxRecDepth 100000 in
def P_Reckoning_repeat (x1 : Int32) (m : Mem) : Option (Unit × Mem) :=
  gd (inb x1 48) <|
  gd (inb x1 48) <|
  if (aR m 37 (ix x1)) = (aR m 33 (ix x1)) then (
    P_Reckoning_repeat_20 x1 1 m)
  else (
    P_Reckoning_repeat_20 x1 0 m)
set_option maxRecDepth 100000 in
def P_rate (x1 : Int32) (x2 : Int32) (x3 : Int32) (x4 : Int32) (m : Mem) : Option (Int32 × Mem) :=
  bn (P_reckoned x1 x2 x3 x4 m) fun r1 m2 =>
  if r1 = 0 then (
    some ((-1), m2))
  else (
    gd (inb x3 48) <|
    if (aR m2 37 (ix x3)) = none then (
      some ((-1), m2))
    else (
      bn (P_Reckoning_repeat x3 m2) fun _ m9 =>
      some (mI m9 1041 28, m9)))
set_option maxRecDepth 100000 in
def P_counted (x1 : Int32) (x2 : Int32) (x3 : Int32) (x4 : Int32) (x5 : Int32) (m : Mem) : Option (Int32 × Mem) :=
  bn (P_reckoned x1 x2 x3 x5 m) fun r1 m2 =>
  if r1 = 0 then (
    some ((-1), m2))
  else (
    gd (inb x3 48) <|
    if (aR m2 37 (ix x3)) = none then (
      some ((-1), m2))
    else (
      bn (P_Reckoning_repeat x3 m2) fun _ m9 =>
      bp (P_within x4 0 ((mI m9 1043 28) - 1)) fun r12 =>
      if r12 = 0 then (
        some ((-1), m9))
      else (
        gd (inb x4 60) <|
        some (aI m9 40 (ix x4), m9))))
set_option maxRecDepth 100000 in
def P_worth (x1 : Int32) (x2 : Int32) (x3 : Int32) (x4 : Int32) (m : Mem) : Option (Int32 × Mem) :=
  bn (P_reckoned x1 x2 x3 x4 m) fun r1 m2 =>
  if r1 = 0 then (
    some (0, m2))
  else (
    gd (inb x3 48) <|
    some (aI m2 38 (ix x3), m2))
set_option maxRecDepth 100000 in
def P_isWeekOf (x1 : Int32) (x2 : Int32) (x3 : Int32) (m : Mem) : Option (Int32 × Mem) :=
  bn (P_Land_hasPerson x1 m) fun r1 m2 =>
  if r1 = 0 then (
    some (0, m2))
  else (
    bp (P_isWeek x2) fun r6 =>
    if r6 = 0 then (
      some (0, m2))
    else (
      bn (P_Ledger_canKnow x3 m2) fun r8 m9 =>
      if r8 = 0 then (
        some (0, m9))
      else (
        some (1, m9))))
set_option maxRecDepth 100000 in
def P_Reckoning_addUp_38 (k2 : Int32 → Mem → Option (Unit × Mem)) (x1 : Int32) (m : Mem) : Option (Unit × Mem) :=
  vb (x1 + 1 : Int32) fun v1 =>
  k2 v1 m
set_option maxRecDepth 100000 in
def P_Reckoning_addUp_2 : Nat → Int32 → Mem → Option (Unit × Mem)
  | 0, _, _ => none
  | n + 1, x1, m =>
  if 48 ≤ x1 then (
    some ((), m))
  else (
    gd (inb x1 48) <|
    if (aR m 33 (ix x1)) = none then (
      P_Reckoning_addUp_38 (fun z0 z1 => P_Reckoning_addUp_2 n z0 z1) x1 m)
    else (
      gd (inb x1 48) <|
      gs (aR m 33 (ix x1)) fun a5 =>
      gt m a5 11 <|
      gd (inb x1 48) <|
      vb (sL m 1296 a5 ((mL m 1296 a5) + (Int32.toInt64 (aI m 38 (ix x1))))) fun m9 =>
      P_Reckoning_addUp_38 (fun z0 z1 => P_Reckoning_addUp_2 n z0 z1) x1 m9))
set_option maxRecDepth 100000 in
def P_Reckoning_addUp (m : Mem) : Option (Unit × Mem) :=
  P_Reckoning_addUp_2 FU 0 m
set_option maxRecDepth 100000 in
def P_Reckoning_rounded_95 (k43 : Int64 → Int32 → Mem → Option (Int32 × Mem)) (x1 : Int64) (x3 : Int32) (x4 : Option Nat) (s0 : Int64) (m : Mem) : Option (Int32 × Mem) :=
  gs x4 fun a1 =>
  gt m a1 11 <|
  gnl (s0 * 200) <|
  vb (x1 + ((((mL m 1296 a1) + ((s0 * 200) / 2)) / (s0 * 200)) * s0) : Int64) fun v4 =>
  vb (x3 + 1 : Int32) fun v5 =>
  k43 v4 v5 m
set_option maxRecDepth 100000 in
def P_Reckoning_rounded_94 (k43 : Int64 → Int32 → Mem → Option (Int32 × Mem)) (x1 : Int64) (x3 : Int32) (x4 : Option Nat) (m : Mem) : Option (Int32 × Mem) :=
  P_Reckoning_rounded_95 k43 x1 x3 x4 1 m
set_option maxRecDepth 100000 in
def P_Reckoning_rounded_132 (x1 : Int64) (m : Mem) : Option (Int32 × Mem) :=
  some (Int64.toInt32 x1, m)
set_option maxRecDepth 100000 in
def P_Reckoning_rounded_43 : Nat → Int64 → Int32 → Mem → Option (Int32 × Mem)
  | 0, _, _, _ => none
  | n + 1, x1, x3, m =>
  if (mI m 515 13) ≤ x3 then (
    P_Reckoning_rounded_132 x1 m)
  else (
    gd (inb x3 24) <|
    gs (aR m 15 (ix x3)) fun a3 =>
    gt m a3 11 <|
    if (mI m 1287 a3) = 0 then (
      P_Reckoning_rounded_94 (fun z0 z1 z2 => P_Reckoning_rounded_43 n z0 z1 z2) x1 x3 (some a3) m)
    else (
      if (mI m 1280 a3) = 0 then (
        P_Reckoning_rounded_95 (fun z0 z1 z2 => P_Reckoning_rounded_43 n z0 z1 z2) x1 x3 (some a3) (Int32.toInt64 (jmax 1 (mI m 1294 a3))) m)
      else (
        P_Reckoning_rounded_94 (fun z0 z1 z2 => P_Reckoning_rounded_43 n z0 z1 z2) x1 x3 (some a3) m)))
set_option maxRecDepth 100000 in
def P_Reckoning_rounded (m : Mem) : Option (Int32 × Mem) :=
  gd (inb (mI m 1026 28) 10) <|
  bn (P_Scene_open (aI m 8 (ix (mI m 1026 28))) ((((mI m 1027 28) * 7) + 7) - 1) (mI m 1028 28) 0 m) fun _ m3 =>
  P_Reckoning_rounded_43 FU 0 0 m3
set_option maxRecDepth 100000 in
def P_Reckoning_weekPay_77 (k48 : Int32 → Int32 → Mem → Option (Int32 × Mem)) (x4 : Int32) (x5 : Int32) (m : Mem) : Option (Int32 × Mem) :=
  vb (x5 + 1 : Int32) fun v1 =>
  k48 x4 v1 m
set_option maxRecDepth 100000 in
def P_Reckoning_weekPay_83 (x4 : Int32) (m : Mem) : Option (Int32 × Mem) :=
  if x4 = 0 then (
    some (0, m))
  else (
    bn (P_Reckoning_rounded m) fun r2 m3 =>
    some (r2, m3))
set_option maxRecDepth 100000 in
def P_Reckoning_weekPay_48 : Nat → Int32 → Int32 → Mem → Option (Int32 × Mem)
  | 0, _, _, _ => none
  | n + 1, x4, x5, m =>
  if 7 ≤ x5 then (
    P_Reckoning_weekPay_83 x4 m)
  else (
    bn (P_Reckoning_tasksOn x5 m) fun r2 m3 =>
    if r2 ≤ 0 then (
      P_Reckoning_weekPay_77 (fun z0 z1 z2 => P_Reckoning_weekPay_48 n z0 z1 z2) x4 x5 m3)
    else (
      bn (P_Reckoning_reckon x5 m3) fun _ m8 =>
      bn (P_Reckoning_addUp m8) fun _ m12 =>
      P_Reckoning_weekPay_77 (fun z0 z1 z2 => P_Reckoning_weekPay_48 n z0 z1 z2) 1 x5 m12))
set_option maxRecDepth 100000 in
def P_Reckoning_weekPay_42 (m : Mem) : Option (Int32 × Mem) :=
  P_Reckoning_weekPay_48 FU 0 0 m
set_option maxRecDepth 100000 in
def P_Reckoning_weekPay_10 : Nat → Int32 → Mem → Option (Int32 × Mem)
  | 0, _, _ => none
  | n + 1, x4, m =>
  if (mI m 515 13) ≤ x4 then (
    P_Reckoning_weekPay_42 m)
  else (
    gd (inb x4 24) <|
    gs (aR m 15 (ix x4)) fun a3 =>
    gt m a3 11 <|
    vb (sL m 1296 a3 0) fun m6 =>
    vb (x4 + 1 : Int32) fun v8 =>
    P_Reckoning_weekPay_10 n v8 m6)
set_option maxRecDepth 100000 in
def P_Reckoning_weekPay (x1 : Int32) (x2 : Int32) (x3 : Int32) (m : Mem) : Option (Int32 × Mem) :=
  bn (P_Reckoning_load x1 x2 x3 m) fun _ m2 =>
  P_Reckoning_weekPay_10 FU 0 m2
set_option maxRecDepth 100000 in
def P_pay (x1 : Int32) (x2 : Int32) (x3 : Int32) (m : Mem) : Option (Int32 × Mem) :=
  bn (P_isWeekOf x1 x2 x3 m) fun r1 m2 =>
  if r1 = 0 then (
    some ((-1), m2))
  else (
    bn (P_Reckoning_weekPay x1 x2 x3 m2) fun r6 m7 =>
    some (r6, m7))
set_option maxRecDepth 100000 in
def P_Reckoning_isSuch (x1 : Int32) (x2 : Int32) (m : Mem) : Option (Int32 × Mem) :=
  gd (inb x1 48) <|
  bp (P_isTask (aI m 30 (ix x1))) fun r2 =>
  if x2 = 0 then (
    gz r2 <|
    some (r2, m))
  else   if x2 = 1 then (
    gd (inb x1 48) <|
    if (aI m 30 (ix x1)) = (-2) then (
      some (1, m))
    else (
      some (0, m)))
  else   if x2 = 2 then (
    if r2 = 0 then (
      some (0, m))
    else (
      gd (inb x1 48) <|
      if (aI m 32 (ix x1)) = (-1) then (
        some (1, m))
      else (
        some (0, m))))
  else   if x2 = 3 then (
    if r2 = 0 then (
      some (0, m))
    else (
      gd (inb x1 48) <|
      if (aI m 32 (ix x1)) = (-2) then (
        some (1, m))
      else (
        some (0, m))))
  else (
    gd (inb x1 48) <|
    if (aR m 33 (ix x1)) = none then (
      some (0, m))
    else (
      gd (inb x1 48) <|
      if (aI m 34 (ix x1)) = (-1) then (
        gd (inb x1 48) <|
        if (aI m 38 (ix x1)) = 0 then (
          some (1, m))
        else (
          some (0, m)))
      else (
        some (0, m))))
set_option maxRecDepth 100000 in
def P_halves_81 (k38 : Int32 → Int32 → Int32 → Mem → Option (Int32 × Mem)) (k57 : Int32 → Int32 → Int32 → Int32 → Mem → Option (Int32 × Mem)) (x4 : Int32) (x5 : Int32) (x6 : Int32) (x7 : Int32) (m : Mem) : Option (Int32 × Mem) :=
  vb (x7 + 1 : Int32) fun v1 =>
  k57 x4 x5 x6 v1 m
set_option maxRecDepth 100000 in
def P_halves_87 (k38 : Int32 → Int32 → Int32 → Mem → Option (Int32 × Mem)) (x4 : Int32) (x5 : Int32) (x6 : Int32) (m : Mem) : Option (Int32 × Mem) :=
  vb (x6 + 1 : Int32) fun v1 =>
  k38 x4 x5 v1 m
set_option maxRecDepth 100000 in
def P_halves_57 (k38 : Int32 → Int32 → Int32 → Mem → Option (Int32 × Mem)) : Nat → Int32 → Int32 → Int32 → Int32 → Mem → Option (Int32 × Mem)
  | 0, _, _, _, _, _ => none
  | n + 1, x4, x5, x6, x7, m =>
  if 48 ≤ x7 then (
    P_halves_87 k38 x4 x5 x6 m)
  else (
    bn (P_Reckoning_isSuch x7 x4 m) fun r2 m3 =>
    if r2 = 0 then (
      P_halves_81 k38 (fun z0 z1 z2 z3 z4 => P_halves_57 k38 n z0 z1 z2 z3 z4) x4 x5 x6 x7 m3)
    else (
      vb (x5 + 1 : Int32) fun v7 =>
      P_halves_81 k38 (fun z0 z1 z2 z3 z4 => P_halves_57 k38 n z0 z1 z2 z3 z4) x4 v7 x6 x7 m3))
set_option maxRecDepth 100000 in
def P_halves_38 : Nat → Int32 → Int32 → Int32 → Mem → Option (Int32 × Mem)
  | 0, _, _, _, _ => none
  | n + 1, x4, x5, x6, m =>
  if 7 ≤ x6 then (
    some (x5, m))
  else (
    bn (P_Reckoning_reckon x6 m) fun _ m3 =>
    P_halves_57 (fun z0 z1 z2 z3 => P_halves_38 n z0 z1 z2 z3) FU x4 x5 x6 0 m3)
set_option maxRecDepth 100000 in
def P_halves (x1 : Int32) (x2 : Int32) (x3 : Int32) (x4 : Int32) (m : Mem) : Option (Int32 × Mem) :=
  bn (P_isWeekOf x1 x2 x3 m) fun r1 m2 =>
  if r1 = 0 then (
    some ((-1), m2))
  else (
    bp (P_within x4 0 4) fun r6 =>
    if r6 = 0 then (
      some ((-1), m2))
    else (
      bn (P_Reckoning_load x1 x2 x3 m2) fun _ m9 =>
      P_halves_38 FU x4 0 0 m9))
set_option maxRecDepth 100000 in
def P_Ledger_payments_70 (k6 : Int32 → Int32 → Int32 → Int32 → Int32 → Mem → Option (Int32 × Mem)) (x1 : Int32) (x2 : Int32) (x3 : Int32) (x4 : Int32) (x5 : Int32) (m : Mem) : Option (Int32 × Mem) :=
  vb (x5 + 1 : Int32) fun v1 =>
  k6 x1 x2 x3 x4 v1 m
set_option maxRecDepth 100000 in
def P_Ledger_payments_6 : Nat → Int32 → Int32 → Int32 → Int32 → Int32 → Mem → Option (Int32 × Mem)
  | 0, _, _, _, _, _, _ => none
  | n + 1, x1, x2, x3, x4, x5, m =>
  if x3 ≤ x5 then (
    some (x4, m))
  else (
    gd (inb x5 160) <|
    gs (aR m 14 (ix x5)) fun a3 =>
    gt m a3 1 <|
    if (mI m 0 a3) = 9 then (
      gd (inb x5 160) <|
      gs (aR m 14 (ix x5)) fun a8 =>
      gt m a8 1 <|
      if (mI m 1 a8) = x1 then (
        gd (inb x5 160) <|
        gs (aR m 14 (ix x5)) fun a13 =>
        gt m a13 1 <|
        if (mI m 2 a13) = x2 then (
          gd (inb x5 160) <|
          gs (aR m 14 (ix x5)) fun a18 =>
          gt m a18 1 <|
          vb (x4 + (mI m 4 a18) : Int32) fun v21 =>
          P_Ledger_payments_70 (fun z0 z1 z2 z3 z4 z5 => P_Ledger_payments_6 n z0 z1 z2 z3 z4 z5) x1 x2 x3 v21 x5 m)
        else (
          P_Ledger_payments_70 (fun z0 z1 z2 z3 z4 z5 => P_Ledger_payments_6 n z0 z1 z2 z3 z4 z5) x1 x2 x3 x4 x5 m))
      else (
        P_Ledger_payments_70 (fun z0 z1 z2 z3 z4 z5 => P_Ledger_payments_6 n z0 z1 z2 z3 z4 z5) x1 x2 x3 x4 x5 m))
    else (
      P_Ledger_payments_70 (fun z0 z1 z2 z3 z4 z5 => P_Ledger_payments_6 n z0 z1 z2 z3 z4 z5) x1 x2 x3 x4 x5 m))
set_option maxRecDepth 100000 in
def P_Ledger_payments (x1 : Int32) (x2 : Int32) (x3 : Int32) (m : Mem) : Option (Int32 × Mem) :=
  P_Ledger_payments_6 FU x1 x2 x3 0 0 m
set_option maxRecDepth 100000 in
def P_owed (x1 : Int32) (x2 : Int32) (x3 : Int32) (m : Mem) : Option (Int32 × Mem) :=
  bn (P_isWeekOf x1 x2 x3 m) fun r1 m2 =>
  if r1 = 0 then (
    some (0, m2))
  else (
    bn (P_Reckoning_weekPay x1 x2 x3 m2) fun r6 m7 =>
    bn (P_Ledger_payments x1 x2 x3 m7) fun r10 m11 =>
    some (r6 - r10, m11))
set_option maxRecDepth 100000 in
def P_shorted_23 (m : Mem) : Option (Int64 × Mem) :=
  some ((-1), m)
set_option maxRecDepth 100000 in
def P_shorted_86 (k33 : Int32 → Int32 → Int32 → Int32 → Int64 → Int32 → Mem → Option (Int64 × Mem)) (x1 : Int32) (x3 : Int32) (x4 : Int32) (x5 : Int32) (x8 : Int32) (s0 : Int64) (s1 : Int64) (m : Mem) : Option (Int64 × Mem) :=
  vb (s1 + s0 : Int64) fun v1 =>
  vb (x8 + 1 : Int32) fun v2 =>
  k33 x1 x3 x4 x5 v1 v2 m
set_option maxRecDepth 100000 in
def P_shorted_95 (x6 : Int64) (m : Mem) : Option (Int64 × Mem) :=
  some (jmaxL 0 x6, m)
set_option maxRecDepth 100000 in
def P_shorted_33 : Nat → Int32 → Int32 → Int32 → Int32 → Int64 → Int32 → Mem → Option (Int64 × Mem)
  | 0, _, _, _, _, _, _, _ => none
  | n + 1, x1, x3, x4, x5, x6, x8, m =>
  if x3 < x8 then (
    P_shorted_95 x6 m)
  else (
    bn (P_Reckoning_weekPay x1 x8 x5 m) fun r2 m3 =>
    bn (P_Ledger_payments x1 x8 x5 m3) fun r6 m7 =>
    vb (r2 - r6 : Int32) fun v10 =>
    if x4 = 0 then (
      P_shorted_86 (fun z0 z1 z2 z3 z4 z5 z6 => P_shorted_33 n z0 z1 z2 z3 z4 z5 z6) x1 x3 x4 x5 x8 (Int32.toInt64 (jmax 0 v10)) x6 m7)
    else (
      P_shorted_86 (fun z0 z1 z2 z3 z4 z5 z6 => P_shorted_33 n z0 z1 z2 z3 z4 z5 z6) x1 x3 x4 x5 x8 (Int32.toInt64 v10) x6 m7))
set_option maxRecDepth 100000 in
def P_shorted (x1 : Int32) (x2 : Int32) (x3 : Int32) (x4 : Int32) (x5 : Int32) (m : Mem) : Option (Int64 × Mem) :=
  bn (P_isWeekOf x1 x2 x5 m) fun r1 m2 =>
  if r1 = 0 then (
    P_shorted_23 m2)
  else (
    bp (P_isWeek x3) fun r6 =>
    if r6 = 0 then (
      P_shorted_23 m2)
    else (
      if x2 ≤ x3 then (
        P_shorted_33 FU x1 x3 x4 x5 0 x2 m2)
      else (
        P_shorted_23 m2)))
set_option maxRecDepth 100000 in
def P_Scene_suppose (x1 : Option Nat) (x2 : Int32) (x3 : Int32) (m : Mem) : Option (Unit × Mem) :=
  vb (sR m 1158 25 x1) fun m2 =>
  vb (sI m2 1159 25 x2) fun m4 =>
  vb (sI m4 1160 25 x3) fun m6 =>
  some ((), m6)
set_option maxRecDepth 100000 in
def P_tried_28 (m : Mem) : Option (Int64 × Mem) :=
  some ((-1), m)
set_option maxRecDepth 100000 in
def P_tried_79 (m : Mem) : Option (Int64 × Mem) :=
  some ((-1), m)
set_option maxRecDepth 100000 in
def P_tried_106 (m : Mem) : Option (Int64 × Mem) :=
  some ((-1), m)
set_option maxRecDepth 100000 in
def P_tried_195 (k128 : Int32 → Int32 → Int32 → Int32 → Int64 → Int32 → Mem → Option (Int64 × Mem)) (x1 : Int32) (x5 : Int32) (x6 : Int32) (x7 : Int32) (x9 : Int64) (x11 : Int32) (m : Mem) : Option (Int64 × Mem) :=
  vb (x11 + 1 : Int32) fun v1 =>
  k128 x1 x5 x6 x7 x9 v1 m
set_option maxRecDepth 100000 in
def P_tried_163 (k128 : Int32 → Int32 → Int32 → Int32 → Int64 → Int32 → Mem → Option (Int64 × Mem)) : Nat → Int32 → Int32 → Int32 → Int32 → Int64 → Int32 → Int32 → Mem → Option (Int64 × Mem)
  | 0, _, _, _, _, _, _, _, _ => none
  | n + 1, x1, x5, x6, x7, x9, x11, x12, m =>
  if x6 < x12 then (
    P_tried_195 k128 x1 x5 x6 x7 x9 x11 m)
  else (
    bn (P_Reckoning_weekPay x11 x12 x7 m) fun r2 m3 =>
    vb (x9 + (Int32.toInt64 r2) : Int64) fun v6 =>
    vb (x12 + 1 : Int32) fun v7 =>
    P_tried_163 k128 n x1 x5 x6 x7 v6 x11 v7 m3)
set_option maxRecDepth 100000 in
def P_tried_159 (k128 : Int32 → Int32 → Int32 → Int32 → Int64 → Int32 → Mem → Option (Int64 × Mem)) (x1 : Int32) (x5 : Int32) (x6 : Int32) (x7 : Int32) (x9 : Int64) (x11 : Int32) (m : Mem) : Option (Int64 × Mem) :=
  P_tried_163 k128 FU x1 x5 x6 x7 x9 x11 x5 m
set_option maxRecDepth 100000 in
def P_tried_201 (x9 : Int64) (m : Mem) : Option (Int64 × Mem) :=
  bn (P_Scene_suppose none (-1) 0 m) fun _ m2 =>
  some (x9, m2)
set_option maxRecDepth 100000 in
def P_tried_128 : Nat → Int32 → Int32 → Int32 → Int32 → Int64 → Int32 → Mem → Option (Int64 × Mem)
  | 0, _, _, _, _, _, _, _ => none
  | n + 1, x1, x5, x6, x7, x9, x11, m =>
  if (mI m 386 5) ≤ x11 then (
    P_tried_201 x9 m)
  else (
    if x1 = (-1) then (
      P_tried_159 (fun z0 z1 z2 z3 z4 z5 z6 => P_tried_128 n z0 z1 z2 z3 z4 z5 z6) x1 x5 x6 x7 x9 x11 m)
    else (
      gd (inb x11 10) <|
      if (aI m 8 (ix x11)) = x1 then (
        P_tried_159 (fun z0 z1 z2 z3 z4 z5 z6 => P_tried_128 n z0 z1 z2 z3 z4 z5 z6) x1 x5 x6 x7 x9 x11 m)
      else (
        P_tried_195 (fun z0 z1 z2 z3 z4 z5 z6 => P_tried_128 n z0 z1 z2 z3 z4 z5 z6) x1 x5 x6 x7 x9 x11 m)))
set_option maxRecDepth 100000 in
def P_tried_16 (x1 : Int32) (x2 : Int32) (x3 : Int32) (x4 : Int32) (x5 : Int32) (x6 : Int32) (x7 : Int32) (m : Mem) : Option (Int64 × Mem) :=
  bn (P_Ledger_canKnow x7 m) fun r1 m2 =>
  if r1 = 0 then (
    P_tried_28 m2)
  else (
    bn (P_Ledger_textAt x2 x7 m2) fun r6 m7 =>
    if r6 = none then (
      P_tried_79 m7)
    else (
      gs r6 fun a11 =>
      gt m7 a11 11 <|
      if (mI m7 1280 a11) = 0 then (
        bn (P_isName x3 m7) fun r14 m15 =>
        if r14 = 0 then (
          P_tried_79 m15)
        else (
          bp (P_within x4 (-9999) 9999) fun r19 =>
          if r19 = 0 then (
            P_tried_79 m15)
          else (
            bp (P_isWeek x5) fun r21 =>
            if r21 = 0 then (
              P_tried_106 m15)
            else (
              bp (P_isWeek x6) fun r23 =>
              if r23 = 0 then (
                P_tried_106 m15)
              else (
                if x5 ≤ x6 then (
                  bn (P_Scene_suppose (some a11) x3 x4 m15) fun _ m27 =>
                  P_tried_128 FU x1 x5 x6 x7 0 0 m27)
                else (
                  P_tried_106 m15))))))
      else (
        P_tried_79 m7)))
set_option maxRecDepth 100000 in
def P_tried (x1 : Int32) (x2 : Int32) (x3 : Int32) (x4 : Int32) (x5 : Int32) (x6 : Int32) (x7 : Int32) (m : Mem) : Option (Int64 × Mem) :=
  if x1 = (-1) then (
    P_tried_16 x1 x2 x3 x4 x5 x6 x7 m)
  else (
    bn (P_Land_hasFirm x1 m) fun r2 m3 =>
    if r2 = 0 then (
      P_tried_28 m3)
    else (
      P_tried_16 x1 x2 x3 x4 x5 x6 x7 m3))
set_option maxRecDepth 100000 in
def P_value (x1 : Int32) (x2 : Int32) (m : Mem) : Option (Int32 × Mem) :=
  bp (P_isTask x1) fun r1 =>
  if r1 = 0 then (
    some (0, m))
  else (
    bp (P_within x2 0 999) fun r3 =>
    if r3 = 0 then (
      some (0, m))
    else (
      gd (inb x1 16) <|
      vb (wI m 42 (ix x1) x2) fun m8 =>
      some (1, m8)))
set_option maxRecDepth 100000 in
def P_Parting_setApart_37 (s0 : Int32) (s1 : Int32) (m : Mem) : Option (Unit × Mem) :=
  gd (inb s1 16) <|
  vb (wI m 43 (ix s1) s0) fun m4 =>
  some ((), m4)
set_option maxRecDepth 100000 in
def P_Parting_setApart (x1 : Int32) (x2 : Int32) (x3 : Int32) (m : Mem) : Option (Unit × Mem) :=
  vb (1 <<< (x2 &&& 31) : Int32) fun v1 =>
  if x3 = 0 then (
    gd (inb x1 16) <|
    P_Parting_setApart_37 ((aI m 43 (ix x1)) &&& (v1 ^^^ (-1))) x1 m)
  else (
    gd (inb x1 16) <|
    P_Parting_setApart_37 ((aI m 43 (ix x1)) ||| v1) x1 m)
set_option maxRecDepth 100000 in
def P_apart (x1 : Int32) (x2 : Int32) (x3 : Int32) (m : Mem) : Option (Int32 × Mem) :=
  bp (P_isTask x1) fun r1 =>
  if r1 = 0 then (
    some (0, m))
  else (
    bp (P_isTask x2) fun r3 =>
    if r3 = 0 then (
      some (0, m))
    else (
      if x1 = x2 then (
        some (0, m))
      else (
        bn (P_Parting_setApart x1 x2 x3 m) fun _ m7 =>
        bn (P_Parting_setApart x2 x1 x3 m7) fun _ m11 =>
        some (1, m11))))
set_option maxRecDepth 100000 in
def P_Parting_gather_61 (k7 : Int32 → Int32 → Mem → Option (Unit × Mem)) (x1 : Int32) (x2 : Int32) (m : Mem) : Option (Unit × Mem) :=
  vb (x2 + 1 : Int32) fun v1 =>
  k7 x1 v1 m
set_option maxRecDepth 100000 in
def P_Parting_gather_7 : Nat → Int32 → Int32 → Mem → Option (Unit × Mem)
  | 0, _, _, _ => none
  | n + 1, x1, x2, m =>
  if 16 ≤ x2 then (
    some ((), m))
  else (
    if 7 ≤ (mI m 901 41) then (
      some ((), m))
    else (
      if ((x1 >>> (x2 &&& 31)) &&& 1) = 1 then (
        gd (inb (mI m 901 41) 7) <|
        vb (wI m 46 (ix (mI m 901 41)) x2) fun m7 =>
        gd (inb (mI m7 901 41) 7) <|
        vb (wI m7 47 (ix (mI m7 901 41)) 0) fun m11 =>
        vb (sI m11 901 41 ((mI m11 901 41) + 1)) fun m13 =>
        P_Parting_gather_61 (fun z0 z1 z2 => P_Parting_gather_7 n z0 z1 z2) x1 x2 m13)
      else (
        P_Parting_gather_61 (fun z0 z1 z2 => P_Parting_gather_7 n z0 z1 z2) x1 x2 m)))
set_option maxRecDepth 100000 in
def P_Parting_gather (x1 : Int32) (m : Mem) : Option (Unit × Mem) :=
  vb (sI m 901 41 0) fun m2 =>
  P_Parting_gather_7 FU x1 0 m2
set_option maxRecDepth 100000 in
def P_Parting_groupsAmong_4 : Nat → Int32 → Int32 → Int32 → Mem → Option (Int32 × Mem)
  | 0, _, _, _, _ => none
  | n + 1, x1, x2, x3, m =>
  if x1 ≤ x3 then (
    some (x2, m))
  else (
    gd (inb x3 7) <|
    vb (jmax x2 ((aI m 47 (ix x3)) + 1) : Int32) fun v3 =>
    vb (x3 + 1 : Int32) fun v4 =>
    P_Parting_groupsAmong_4 n x1 v3 v4 m)
set_option maxRecDepth 100000 in
def P_Parting_groupsAmong (x1 : Int32) (m : Mem) : Option (Int32 × Mem) :=
  P_Parting_groupsAmong_4 FU x1 0 0 m
set_option maxRecDepth 100000 in
def P_Parting_isTorn_51 (k4 : Int32 → Int32 → Int32 → Mem → Option (Int32 × Mem)) (x1 : Int32) (x2 : Int32) (x3 : Int32) (m : Mem) : Option (Int32 × Mem) :=
  vb (x3 + 1 : Int32) fun v1 =>
  k4 x1 x2 v1 m
set_option maxRecDepth 100000 in
def P_Parting_isTorn_4 : Nat → Int32 → Int32 → Int32 → Mem → Option (Int32 × Mem)
  | 0, _, _, _, _ => none
  | n + 1, x1, x2, x3, m =>
  if (mI m 901 41) ≤ x3 then (
    some (0, m))
  else (
    gd (inb x3 7) <|
    if (aI m 47 (ix x3)) = x1 then (
      gd (inb x3 7) <|
      gd (inb (aI m 46 (ix x3)) 16) <|
      if ((aI m 43 (ix (aI m 46 (ix x3)))) &&& x2) = 0 then (
        gd (inb x3 7) <|
        vb (x2 ||| (1 <<< ((aI m 46 (ix x3)) &&& 31)) : Int32) fun v8 =>
        P_Parting_isTorn_51 (fun z0 z1 z2 z3 => P_Parting_isTorn_4 n z0 z1 z2 z3) x1 v8 x3 m)
      else (
        some (1, m)))
    else (
      P_Parting_isTorn_51 (fun z0 z1 z2 z3 => P_Parting_isTorn_4 n z0 z1 z2 z3) x1 x2 x3 m))
set_option maxRecDepth 100000 in
def P_Parting_isTorn (x1 : Int32) (m : Mem) : Option (Int32 × Mem) :=
  P_Parting_isTorn_4 FU x1 0 0 m
set_option maxRecDepth 100000 in
def P_Parting_withValue_44 (k5 : Int32 → Int32 → Int32 → Int32 → Mem → Option (Int32 × Mem)) (x1 : Int32) (x2 : Int32) (x3 : Int32) (x4 : Int32) (m : Mem) : Option (Int32 × Mem) :=
  vb (x4 + 1 : Int32) fun v1 =>
  k5 x1 x2 x3 v1 m
set_option maxRecDepth 100000 in
def P_Parting_withValue_5 : Nat → Int32 → Int32 → Int32 → Int32 → Mem → Option (Int32 × Mem)
  | 0, _, _, _, _, _ => none
  | n + 1, x1, x2, x3, x4, m =>
  if (mI m 901 41) ≤ x4 then (
    some (x3, m))
  else (
    gd (inb x4 7) <|
    if (aI m 47 (ix x4)) = x1 then (
      gd (inb x4 7) <|
      gd (inb (aI m 46 (ix x4)) 16) <|
      if (aI m 42 (ix (aI m 46 (ix x4)))) = x2 then (
        vb (x3 + 1 : Int32) fun v7 =>
        P_Parting_withValue_44 (fun z0 z1 z2 z3 z4 => P_Parting_withValue_5 n z0 z1 z2 z3 z4) x1 x2 v7 x4 m)
      else (
        P_Parting_withValue_44 (fun z0 z1 z2 z3 z4 => P_Parting_withValue_5 n z0 z1 z2 z3 z4) x1 x2 x3 x4 m))
    else (
      P_Parting_withValue_44 (fun z0 z1 z2 z3 z4 => P_Parting_withValue_5 n z0 z1 z2 z3 z4) x1 x2 x3 x4 m))
set_option maxRecDepth 100000 in
def P_Parting_withValue (x1 : Int32) (x2 : Int32) (m : Mem) : Option (Int32 × Mem) :=
  P_Parting_withValue_5 FU x1 x2 0 0 m
set_option maxRecDepth 100000 in
def P_Parting_settle_76 (k13 : Int32 → Int32 → Int32 → Int32 → Int32 → Int32 → Mem → Option (Int32 × Mem)) (x1 : Int32) (x2 : Int32) (x3 : Int32) (x4 : Int32) (x5 : Int32) (x6 : Int32) (m : Mem) : Option (Int32 × Mem) :=
  vb (x6 + 1 : Int32) fun v1 =>
  k13 x1 x2 x3 x4 x5 v1 m
set_option maxRecDepth 100000 in
def P_Parting_settle_199 (k108 : Int32 → Int32 → Int32 → Int32 → Int32 → Int32 → Mem → Option (Int32 × Mem)) (x1 : Int32) (x3 : Int32) (x4 : Int32) (x5 : Int32) (x6 : Int32) (x7 : Int32) (m : Mem) : Option (Int32 × Mem) :=
  vb (x7 + 1 : Int32) fun v1 =>
  k108 x1 x3 x4 x5 x6 v1 m
set_option maxRecDepth 100000 in
def P_Parting_settle_187 (k108 : Int32 → Int32 → Int32 → Int32 → Int32 → Int32 → Mem → Option (Int32 × Mem)) (x1 : Int32) (x3 : Int32) (x4 : Int32) (x5 : Int32) (x7 : Int32) (x8 : Int32) (x9 : Int32) (m : Mem) : Option (Int32 × Mem) :=
  gd (inb x1 7) <|
  vb (wI m 48 (ix x1) x8) fun m4 =>
  P_Parting_settle_199 k108 x1 x3 x4 x5 x9 x7 m4
set_option maxRecDepth 100000 in
def P_Parting_settle_205 (x5 : Int32) (x6 : Int32) (m : Mem) : Option (Int32 × Mem) :=
  some (x5 - x6, m)
set_option maxRecDepth 100000 in
def P_Parting_settle_108 : Nat → Int32 → Int32 → Int32 → Int32 → Int32 → Int32 → Mem → Option (Int32 × Mem)
  | 0, _, _, _, _, _, _, _ => none
  | n + 1, x1, x3, x4, x5, x6, x7, m =>
  if (mI m 901 41) ≤ x7 then (
    P_Parting_settle_205 x5 x6 m)
  else (
    gd (inb x7 7) <|
    gd (inb (aI m 46 (ix x7)) 16) <|
    vb (aI m 42 (ix (aI m 46 (ix x7))) : Int32) fun v4 =>
    gd (inb x7 7) <|
    if (aI m 47 (ix x7)) = x1 then (
      bp (P_within v4 x3 x4) fun r7 =>
      if r7 = 0 then (
        P_Parting_settle_199 (fun z0 z1 z2 z3 z4 z5 z6 => P_Parting_settle_108 n z0 z1 z2 z3 z4 z5 z6) x1 x3 x4 x5 x6 x7 m)
      else (
        bn (P_Parting_withValue x1 v4 m) fun r9 m10 =>
        if x6 < r9 then (
          P_Parting_settle_187 (fun z0 z1 z2 z3 z4 z5 z6 => P_Parting_settle_108 n z0 z1 z2 z3 z4 z5 z6) x1 x3 x4 x5 x7 v4 r9 m10)
        else (
          if r9 = x6 then (
            gd (inb x1 7) <|
            if (aI m10 48 (ix x1)) ≤ v4 then (
              P_Parting_settle_199 (fun z0 z1 z2 z3 z4 z5 z6 => P_Parting_settle_108 n z0 z1 z2 z3 z4 z5 z6) x1 x3 x4 x5 x6 x7 m10)
            else (
              P_Parting_settle_187 (fun z0 z1 z2 z3 z4 z5 z6 => P_Parting_settle_108 n z0 z1 z2 z3 z4 z5 z6) x1 x3 x4 x5 x7 v4 r9 m10))
          else (
            P_Parting_settle_199 (fun z0 z1 z2 z3 z4 z5 z6 => P_Parting_settle_108 n z0 z1 z2 z3 z4 z5 z6) x1 x3 x4 x5 x6 x7 m10))))
    else (
      P_Parting_settle_199 (fun z0 z1 z2 z3 z4 z5 z6 => P_Parting_settle_108 n z0 z1 z2 z3 z4 z5 z6) x1 x3 x4 x5 x6 x7 m))
set_option maxRecDepth 100000 in
def P_Parting_settle_82 (x1 : Int32) (x3 : Int32) (x4 : Int32) (x5 : Int32) (m : Mem) : Option (Int32 × Mem) :=
  if x3 ≤ x4 then (
    gd (inb x1 7) <|
    vb (wI m 48 (ix x1) x3) fun m5 =>
    bn (P_Parting_withValue x1 x3 m5) fun r6 m7 =>
    P_Parting_settle_108 FU x1 x3 x4 x5 r6 0 m7)
  else (
    some ((-1), m))
set_option maxRecDepth 100000 in
def P_Parting_settle_13 : Nat → Int32 → Int32 → Int32 → Int32 → Int32 → Int32 → Mem → Option (Int32 × Mem)
  | 0, _, _, _, _, _, _, _ => none
  | n + 1, x1, x2, x3, x4, x5, x6, m =>
  if (mI m 901 41) ≤ x6 then (
    P_Parting_settle_82 x1 x3 x4 x5 m)
  else (
    gd (inb x6 7) <|
    if (aI m 47 (ix x6)) = x1 then (
      gd (inb x6 7) <|
      gd (inb (aI m 46 (ix x6)) 16) <|
      vb (jmax x3 ((aI m 42 (ix (aI m 46 (ix x6)))) - x2) : Int32) fun v6 =>
      gd (inb x6 7) <|
      gd (inb (aI m 46 (ix x6)) 16) <|
      vb (jmin x4 ((aI m 42 (ix (aI m 46 (ix x6)))) + x2) : Int32) fun v9 =>
      vb (x5 + 1 : Int32) fun v10 =>
      P_Parting_settle_76 (fun z0 z1 z2 z3 z4 z5 z6 => P_Parting_settle_13 n z0 z1 z2 z3 z4 z5 z6) x1 x2 v6 v9 v10 x6 m)
    else (
      P_Parting_settle_76 (fun z0 z1 z2 z3 z4 z5 z6 => P_Parting_settle_13 n z0 z1 z2 z3 z4 z5 z6) x1 x2 x3 x4 x5 x6 m))
set_option maxRecDepth 100000 in
def P_Parting_settle (x1 : Int32) (x2 : Int32) (m : Mem) : Option (Int32 × Mem) :=
  P_Parting_settle_13 FU x1 x2 0 9999 0 0 m
set_option maxRecDepth 100000 in
def P_Parting_weigh_47 (k21 : Int32 → Int32 → Int32 → Int32 → Mem → Option (Unit × Mem)) (x2 : Int32) (x3 : Int32) (x4 : Int32) (x5 : Int32) (s0 : Int32) (m : Mem) : Option (Unit × Mem) :=
  if s0 = (-1) then (
    some ((), m))
  else (
    vb (x4 + s0 : Int32) fun v2 =>
    vb (x5 + 1 : Int32) fun v3 =>
    k21 x2 x3 v2 v3 m)
set_option maxRecDepth 100000 in
def P_Parting_weigh_103 (x3 : Int32) (x4 : Int32) (m : Mem) : Option (Unit × Mem) :=
  vb (sI m 906 41 x4) fun m2 =>
  vb (sI m2 907 41 x3) fun m4 =>
  gd (cpok 0 0 (mI m4 901 41) (mN m4 47) (mN m4 49)) <|
  vb (cpI m4 47 (ix 0) 49 (ix 0) (ix (mI m4 901 41))) fun m8 =>
  gd (cpok 0 0 (mI m8 901 41) (mN m8 48) (mN m8 50)) <|
  vb (cpI m8 48 (ix 0) 50 (ix 0) (ix (mI m8 901 41))) fun m12 =>
  some ((), m12)
set_option maxRecDepth 100000 in
def P_Parting_weigh_69 (x3 : Int32) (x4 : Int32) (m : Mem) : Option (Unit × Mem) :=
  if (mI m 906 41) = (-1) then (
    P_Parting_weigh_103 x3 x4 m)
  else (
    if x4 < (mI m 906 41) then (
      P_Parting_weigh_103 x3 x4 m)
    else (
      if x4 = (mI m 906 41) then (
        if (mI m 907 41) ≤ x3 then (
          some ((), m))
        else (
          P_Parting_weigh_103 x3 x4 m))
      else (
        some ((), m))))
set_option maxRecDepth 100000 in
def P_Parting_weigh_21 : Nat → Int32 → Int32 → Int32 → Int32 → Mem → Option (Unit × Mem)
  | 0, _, _, _, _, _ => none
  | n + 1, x2, x3, x4, x5, m =>
  if x3 ≤ x5 then (
    P_Parting_weigh_69 x3 x4 m)
  else (
    bn (P_Parting_isTorn x5 m) fun r2 m3 =>
    if r2 = 0 then (
      bn (P_Parting_settle x5 x2 m3) fun r7 m8 =>
      P_Parting_weigh_47 (fun z0 z1 z2 z3 z4 => P_Parting_weigh_21 n z0 z1 z2 z3 z4) x2 x3 x4 x5 r7 m8)
    else (
      P_Parting_weigh_47 (fun z0 z1 z2 z3 z4 => P_Parting_weigh_21 n z0 z1 z2 z3 z4) x2 x3 x4 x5 (-1) m3))
set_option maxRecDepth 100000 in
def P_Parting_weigh (x1 : Int32) (x2 : Int32) (m : Mem) : Option (Unit × Mem) :=
  bn (P_Parting_groupsAmong (mI m 901 41) m) fun r1 m2 =>
  if r1 ≤ x1 then (
    P_Parting_weigh_21 FU x2 r1 0 0 m2)
  else (
    some ((), m2))
set_option maxRecDepth 100000 in
def P_Parting_nextWay_39 : Nat → Int32 → Mem → Option (Int32 × Mem)
  | 0, _, _ => none
  | n + 1, x2, m =>
  if (mI m 901 41) ≤ x2 then (
    some (1, m))
  else (
    gd (inb x2 7) <|
    vb (wI m 47 (ix x2) 0) fun m5 =>
    vb (x2 + 1 : Int32) fun v6 =>
    P_Parting_nextWay_39 n v6 m5)
set_option maxRecDepth 100000 in
def P_Parting_nextWay_25 (x1 : Int32) (m : Mem) : Option (Int32 × Mem) :=
  gd (inb x1 7) <|
  gd (inb x1 7) <|
  vb (wI m 47 (ix x1) ((aI m 47 (ix x1)) + 1)) fun m5 =>
  vb (x1 + 1 : Int32) fun v6 =>
  P_Parting_nextWay_39 FU v6 m5
set_option maxRecDepth 100000 in
def P_Parting_nextWay_7 : Nat → Int32 → Mem → Option (Int32 × Mem)
  | 0, _, _ => none
  | n + 1, x1, m =>
  if x1 ≤ 0 then (
    some (0, m))
  else (
    gd (inb x1 7) <|
    bn (P_Parting_groupsAmong x1 m) fun r3 m4 =>
    if r3 ≤ (aI m 47 (ix x1)) then (
      vb (x1 + (-1) : Int32) fun v8 =>
      P_Parting_nextWay_7 n v8 m4)
    else (
      P_Parting_nextWay_25 x1 m4))
set_option maxRecDepth 100000 in
def P_Parting_nextWay (m : Mem) : Option (Int32 × Mem) :=
  vb ((mI m 901 41) - 1 : Int32) fun v1 =>
  P_Parting_nextWay_7 FU v1 m
set_option maxRecDepth 100000 in
def P_Parting_remember_10 : Nat → Int32 → Mem → Option (Unit × Mem)
  | 0, _, _ => none
  | n + 1, x1, m =>
  if (mI m 901 41) ≤ x1 then (
    some ((), m))
  else (
    gd (inb x1 7) <|
    gd (inb x1 7) <|
    gd (inb (aI m 46 (ix x1)) 16) <|
    vb (wI m 44 (ix (aI m 46 (ix x1))) (aI m 49 (ix x1))) fun m7 =>
    gd (inb x1 7) <|
    gd (inb x1 7) <|
    gd (inb (aI m7 49 (ix x1)) 7) <|
    gd (inb (aI m7 46 (ix x1)) 16) <|
    vb (wI m7 45 (ix (aI m7 46 (ix x1))) (aI m7 50 (ix (aI m7 49 (ix x1))))) fun m14 =>
    vb (x1 + 1 : Int32) fun v15 =>
    P_Parting_remember_10 n v15 m14)
set_option maxRecDepth 100000 in
def P_Parting_remember (m : Mem) : Option (Unit × Mem) :=
  bn (J_fill (some 44) (-1) m) fun _ m2 =>
  P_Parting_remember_10 FU 0 m2
set_option maxRecDepth 100000 in
def P_Parting_divide_58 (m : Mem) : Option (Int32 × Mem) :=
  if (mI m 906 41) = (-1) then (
    some ((-2), m))
  else (
    bn (P_Parting_remember m) fun _ m3 =>
    some (mI m3 906 41, m3))
set_option maxRecDepth 100000 in
def P_Parting_divide_27 : Nat → Int32 → Int32 → Int32 → Int32 → Mem → Option (Int32 × Mem)
  | 0, _, _, _, _, _ => none
  | n + 1, x2, x3, x4, x5, m =>
  if 877 ≤ x5 then (
    P_Parting_divide_58 m)
  else (
    if x4 = 0 then (
      P_Parting_divide_58 m)
    else (
      bn (P_Parting_weigh x2 x3 m) fun _ m4 =>
      bn (P_Parting_nextWay m4) fun r7 m8 =>
      vb (x5 + 1 : Int32) fun v11 =>
      P_Parting_divide_27 n x2 x3 r7 v11 m8))
set_option maxRecDepth 100000 in
def P_Parting_divide_22 (x2 : Int32) (x3 : Int32) (s0 : Int32) (m : Mem) : Option (Int32 × Mem) :=
  P_Parting_divide_27 FU x2 x3 s0 0 m
set_option maxRecDepth 100000 in
def P_Parting_divide (x1 : Int32) (x2 : Int32) (x3 : Int32) (m : Mem) : Option (Int32 × Mem) :=
  bn (P_Parting_gather x1 m) fun _ m2 =>
  vb (sI m2 906 41 (-1)) fun m6 =>
  if (mI m6 901 41) ≤ 0 then (
    P_Parting_divide_22 x2 x3 0 m6)
  else (
    P_Parting_divide_22 x2 x3 1 m6)
set_option maxRecDepth 100000 in
def P_parting (x1 : Int32) (x2 : Int32) (x3 : Int32) (m : Mem) : Option (Int32 × Mem) :=
  bp (P_within x1 1 65535) fun r1 =>
  if r1 = 0 then (
    some ((-1), m))
  else (
    bp (J_bitCount x1) fun r3 =>
    if r3 ≤ 7 then (
      bp (P_within x2 1 7) fun r5 =>
      if r5 = 0 then (
        some ((-1), m))
      else (
        bp (P_within x3 0 999) fun r7 =>
        if r7 = 0 then (
          some ((-1), m))
        else (
          bn (P_Parting_divide x1 x2 x3 m) fun r9 m10 =>
          some (r9, m10))))
    else (
      some ((-1), m)))
set_option maxRecDepth 100000 in
def P_part (x1 : Int32) (x2 : Int32) (m : Mem) : Option (Int32 × Mem) :=
  bp (P_isTask x1) fun r1 =>
  if r1 = 0 then (
    some ((-1), m))
  else (
    gd (inb x1 16) <|
    if (aI m 44 (ix x1)) = (-1) then (
      some ((-1), m))
    else (
      if x2 = 0 then (
        gd (inb x1 16) <|
        some (aI m 44 (ix x1), m))
      else (
        if x2 = 1 then (
          gd (inb x1 16) <|
          some (aI m 45 (ix x1), m))
        else (
          some ((-1), m)))))
set_option maxRecDepth 100000 in
def P_turned_72 (x3 : Int32) (x4 : Int32) (m : Mem) : Option (Int32 × Mem) :=
  some ((x3 * 20) + x4, m)
set_option maxRecDepth 100000 in
def P_turned_86 (k26 : Int32 → Int32 → Int32 → Mem → Option (Int32 × Mem)) (x1 : Int32) (x2 : Int32) (x3 : Int32) (m : Mem) : Option (Int32 × Mem) :=
  vb (x3 + 1 : Int32) fun v1 =>
  k26 x1 x2 v1 m
set_option maxRecDepth 100000 in
def P_turned_40 (k26 : Int32 → Int32 → Int32 → Mem → Option (Int32 × Mem)) : Nat → Int32 → Int32 → Int32 → Int32 → Mem → Option (Int32 × Mem)
  | 0, _, _, _, _, _ => none
  | n + 1, x1, x2, x3, x4, m =>
  if 20 ≤ x4 then (
    P_turned_86 k26 x1 x2 x3 m)
  else (
    bn (P_Reckoning_weekPay x3 x4 x1 m) fun r2 m3 =>
    bn (P_Reckoning_weekPay x3 x4 x2 m3) fun r6 m7 =>
    if r2 = r6 then (
      vb (x4 + 1 : Int32) fun v11 =>
      P_turned_40 k26 n x1 x2 x3 v11 m7)
    else (
      P_turned_72 x3 x4 m7))
set_option maxRecDepth 100000 in
def P_turned_26 : Nat → Int32 → Int32 → Int32 → Mem → Option (Int32 × Mem)
  | 0, _, _, _, _ => none
  | n + 1, x1, x2, x3, m =>
  if (mI m 386 5) ≤ x3 then (
    some ((-1), m))
  else (
    P_turned_40 (fun z0 z1 z2 z3 => P_turned_26 n z0 z1 z2 z3) FU x1 x2 x3 0 m)
set_option maxRecDepth 100000 in
def P_turned (x1 : Int32) (x2 : Int32) (m : Mem) : Option (Int32 × Mem) :=
  bn (P_Ledger_canKnow x1 m) fun r1 m2 =>
  if r1 = 0 then (
    some ((-1), m2))
  else (
    bn (P_Ledger_canKnow x2 m2) fun r6 m7 =>
    if r6 = 0 then (
      some ((-1), m7))
    else (
      P_turned_26 FU x1 x2 0 m7))
set_option maxRecDepth 100000 in
def P_count (x1 : Int32) (m : Mem) : Option (Int32 × Mem) :=
  if x1 = 0 then (
    some (mI m 384 5, m))
  else   if x1 = 1 then (
    some (mI m 385 5, m))
  else   if x1 = 2 then (
    some (mI m 386 5, m))
  else   if x1 = 3 then (
    some (mI m 514 13, m))
  else   if x1 = 4 then (
    some (mI m 515 13, m))
  else   if x1 = 5 then (
    some (mI m 771 22, m))
  else   if x1 = 6 then (
    some (mI m 641 16, m))
  else (
    some ((-1), m))
set_option maxRecDepth 100000 in
def R_more (x0 : Int64) (x2 : Int32) : Option (Int64) :=
  if x2 = 0 then (
    some (x0))
  else (
    some ((27 * x0) + (Int32.toInt64 ((x2 - 97) + 1))))
set_option maxRecDepth 100000 in
def R_word (x0 : Int32) (x1 : Int32) (x2 : Int32) (x3 : Int32) (x4 : Int32) (x5 : Int32) (x6 : Int32) : Option (Int64) :=
  bp (R_more 0 x0) fun r1 =>
  bp (R_more r1 x1) fun r2 =>
  bp (R_more r2 x2) fun r3 =>
  bp (R_more r3 x3) fun r4 =>
  bp (R_more r4 x4) fun r5 =>
  bp (R_more r5 x5) fun r6 =>
  bp (R_more r6 x6) fun r7 =>
  some (r7)
set_option maxRecDepth 100000 in
def R_put_3 : Nat → Int32 → Int32 → Mem → Option (Unit × Mem)
  | 0, _, _, _ => none
  | n + 1, x1, x2, m =>
  if x2 < 0 then (
    some ((), m))
  else (
    gd (inb (mI m 1538 0) 2000) <|
    vb (wI m 1 (ix (mI m 1538 0)) ((Int32.toInt8 ((Int32.toInt8 (x1 >>> (x2 &&& 31))).toInt32)).toInt32)) fun m5 =>
    vb (sI m5 1538 0 ((mI m5 1538 0) + 1)) fun m7 =>
    vb (x2 + (-8) : Int32) fun v8 =>
    R_put_3 n x1 v8 m7)
set_option maxRecDepth 100000 in
def R_put (x1 : Int32) (m : Mem) : Option (Unit × Mem) :=
  R_put_3 FU x1 24 m
set_option maxRecDepth 100000 in
def R_feed (x1 : Int32) (x2 : Int32) (x3 : Int32) (x4 : Int32) (x5 : Int32) (m : Mem) : Option (Int32 × Mem) :=
  if ((mI m 1538 0) + 20) ≤ 2000 then (
    bn (R_put x1 m) fun _ m3 =>
    bn (R_put x2 m3) fun _ m7 =>
    bn (R_put x3 m7) fun _ m11 =>
    bn (R_put x4 m11) fun _ m15 =>
    bn (R_put x5 m15) fun _ m19 =>
    some (mI m19 1538 0, m19))
  else (
    some ((-1), m))
set_option maxRecDepth 100000 in
def R_back (x1 : Int32) (m : Mem) : Option (Int32 × Mem) :=
  if x1 < 0 then (
    some ((-1), m))
  else (
    if x1 ≤ (mI m 1538 0) then (
      vb (sI m 1538 0 ((mI m 1538 0) - x1)) fun m4 =>
      some (mI m4 1538 0, m4))
    else (
      some ((-1), m)))
set_option maxRecDepth 100000 in
def R_at (x1 : Int32) (m : Mem) : Option (Int32 × Mem) :=
  if (mI m 1540 0) ≤ x1 then (
    some (0, m))
  else (
    gd (inb x1 2000) <|
    some ((aI m 2 (ix x1)) &&& 255, m))
set_option maxRecDepth 100000 in
def R_token (x1 : Int32) (x2 : Int32) (x3 : Int32) (x4 : Int64) (m : Mem) : Option (Unit × Mem) :=
  gd (inb (mI m 1546 0) 503) <|
  vb (wI m 3 (ix (mI m 1546 0)) x1) fun m4 =>
  gd (inb (mI m4 1546 0) 503) <|
  vb (wI m4 4 (ix (mI m4 1546 0)) x2) fun m8 =>
  gd (inb (mI m8 1546 0) 503) <|
  vb (wI m8 5 (ix (mI m8 1546 0)) x3) fun m12 =>
  gd (inb (mI m12 1546 0) 503) <|
  vb (wL m12 6 (ix (mI m12 1546 0)) x4) fun m16 =>
  vb (sI m16 1546 0 ((mI m16 1546 0) + 1)) fun m18 =>
  some ((), m18)
set_option maxRecDepth 100000 in
def R_isLetter (x0 : Int32) : Option (Int32) :=
  if x0 < 97 then (
    some (0))
  else (
    if 122 < x0 then (
      some (0))
    else (
      some (1)))
set_option maxRecDepth 100000 in
def R_isDigit (x0 : Int32) : Option (Int32) :=
  if x0 < 48 then (
    some (0))
  else (
    if 57 < x0 then (
      some (0))
    else (
      some (1)))
set_option maxRecDepth 100000 in
def R_sign_173 (x1 : Int32) (x4 : Int32) (x5 : Int32) (m : Mem) : Option (Int32 × Mem) :=
  bn (R_token x5 x1 0 0 m) fun _ m2 =>
  if x4 ≤ 0 then (
    some (1, m2))
  else (
    some (2, m2))
set_option maxRecDepth 100000 in
def R_sign_44 (x1 : Int32) (x2 : Int32) (s0 : Int32) (m : Mem) : Option (Int32 × Mem) :=
  if s0 ≤ 0 then (
    if x2 = 59 then (
      R_sign_173 x1 s0 4 m)
    else (
      if x2 = 40 then (
        R_sign_173 x1 s0 6 m)
      else (
        if x2 = 41 then (
          R_sign_173 x1 s0 7 m)
        else (
          if x2 = 43 then (
            R_sign_173 x1 s0 8 m)
          else (
            if x2 = 45 then (
              R_sign_173 x1 s0 9 m)
            else (
              if x2 = 42 then (
                R_sign_173 x1 s0 10 m)
              else (
                if x2 = 60 then (
                  R_sign_173 x1 s0 13 m)
                else (
                  if x2 = 44 then (
                    R_sign_173 x1 s0 5 m)
                  else (
                    if x2 = 47 then (
                      R_sign_173 x1 s0 15 m)
                    else (
                      R_sign_173 x1 s0 3 m))))))))))
  else (
    R_sign_173 x1 s0 s0 m)
set_option maxRecDepth 100000 in
def R_sign (x1 : Int32) (x2 : Int32) (x3 : Int32) (m : Mem) : Option (Int32 × Mem) :=
  if x3 = 61 then (
    if x2 = 61 then (
      R_sign_44 x1 x2 11 m)
    else (
      if x2 = 33 then (
        R_sign_44 x1 x2 12 m)
      else (
        if x2 = 60 then (
          R_sign_44 x1 x2 14 m)
        else (
          R_sign_44 x1 x2 0 m))))
  else (
    R_sign_44 x1 x2 0 m)
set_option maxRecDepth 100000 in
def R_cut_31 (m : Mem) : Option (Unit × Mem) :=
  bn (R_token 0 (mI m 1540 0) 0 0 m) fun _ m2 =>
  some ((), m2)
set_option maxRecDepth 100000 in
def R_cut_291 (k7 : Int32 → Mem → Option (Unit × Mem)) (x1 : Int32) (m : Mem) : Option (Unit × Mem) :=
  k7 x1 m
set_option maxRecDepth 100000 in
def R_cut_67 (k7 : Int32 → Mem → Option (Unit × Mem)) (x1 : Int32) (m : Mem) : Option (Unit × Mem) :=
  vb (x1 + 1 : Int32) fun v1 =>
  R_cut_291 k7 v1 m
set_option maxRecDepth 100000 in
def R_cut_118 (k7 : Int32 → Mem → Option (Unit × Mem)) (k85 : Int32 → Int32 → Int64 → Mem → Option (Unit × Mem)) (x1 : Int32) (x3 : Int32) (x4 : Int64) (m : Mem) : Option (Unit × Mem) :=
  vb (x3 + 1 : Int32) fun v1 =>
  k85 x1 v1 x4 m
set_option maxRecDepth 100000 in
def R_cut_173 (k7 : Int32 → Mem → Option (Unit × Mem)) (k146 : Int32 → Int32 → Int64 → Int32 → Int32 → Mem → Option (Unit × Mem)) (x1 : Int32) (x3 : Int32) (x4 : Int64) (x6 : Int32) (x7 : Int32) (m : Mem) : Option (Unit × Mem) :=
  vb (x7 + 1 : Int32) fun v1 =>
  k146 x1 x3 x4 x6 v1 m
set_option maxRecDepth 100000 in
def R_cut_179 (k7 : Int32 → Mem → Option (Unit × Mem)) (x1 : Int32) (x3 : Int32) (x4 : Int64) (x6 : Int32) (m : Mem) : Option (Unit × Mem) :=
  bn (R_token x6 x1 0 x4 m) fun _ m2 =>
  vb (x1 + x3 : Int32) fun v5 =>
  R_cut_291 k7 v5 m2
set_option maxRecDepth 100000 in
def R_cut_146 (k7 : Int32 → Mem → Option (Unit × Mem)) : Nat → Int32 → Int32 → Int64 → Int32 → Int32 → Mem → Option (Unit × Mem)
  | 0, _, _, _, _, _, _ => none
  | n + 1, x1, x3, x4, x6, x7, m =>
  if 40 ≤ x7 then (
    R_cut_179 k7 x1 x3 x4 x6 m)
  else (
    gd (inb x7 40) <|
    if (lg_cmp (aL m 7 (ix x7)) x4) = 0 then (
      vb (20 + x7 : Int32) fun v4 =>
      R_cut_173 k7 (fun z0 z1 z2 z3 z4 z5 => R_cut_146 k7 n z0 z1 z2 z3 z4 z5) x1 x3 x4 v4 x7 m)
    else (
      R_cut_173 k7 (fun z0 z1 z2 z3 z4 z5 => R_cut_146 k7 n z0 z1 z2 z3 z4 z5) x1 x3 x4 x6 x7 m))
set_option maxRecDepth 100000 in
def R_cut_135 (k7 : Int32 → Mem → Option (Unit × Mem)) (x1 : Int32) (x3 : Int32) (x4 : Int64) (s0 : Int32) (m : Mem) : Option (Unit × Mem) :=
  if 7 < x3 then (
    R_cut_179 k7 x1 x3 x4 s0 m)
  else (
    R_cut_146 k7 FU x1 x3 x4 s0 0 m)
set_option maxRecDepth 100000 in
def R_cut_124 (k7 : Int32 → Mem → Option (Unit × Mem)) (x1 : Int32) (x3 : Int32) (x4 : Int64) (m : Mem) : Option (Unit × Mem) :=
  if x3 ≤ 8 then (
    R_cut_135 k7 x1 x3 x4 1 m)
  else (
    R_cut_135 k7 x1 x3 x4 3 m)
set_option maxRecDepth 100000 in
def R_cut_85 (k7 : Int32 → Mem → Option (Unit × Mem)) : Nat → Int32 → Int32 → Int64 → Mem → Option (Unit × Mem)
  | 0, _, _, _, _ => none
  | n + 1, x1, x3, x4, m =>
  bn (R_at (x1 + x3) m) fun r1 m2 =>
  bp (R_isLetter r1) fun r5 =>
  if r5 = 0 then (
    R_cut_124 k7 x1 x3 x4 m2)
  else (
    if 8 ≤ x3 then (
      R_cut_118 k7 (fun z0 z1 z2 z3 => R_cut_85 k7 n z0 z1 z2 z3) x1 x3 x4 m2)
    else (
      bn (R_at (x1 + x3) m2) fun r8 m9 =>
      bp (R_more x4 r8) fun r12 =>
      R_cut_118 k7 (fun z0 z1 z2 z3 => R_cut_85 k7 n z0 z1 z2 z3) x1 x3 r12 m9))
set_option maxRecDepth 100000 in
def R_cut_244 (k7 : Int32 → Mem → Option (Unit × Mem)) (k208 : Int32 → Int32 → Int32 → Mem → Option (Unit × Mem)) (x1 : Int32) (x3 : Int32) (x4 : Int32) (m : Mem) : Option (Unit × Mem) :=
  vb (x3 + 1 : Int32) fun v1 =>
  k208 x1 v1 x4 m
set_option maxRecDepth 100000 in
def R_cut_261 (k7 : Int32 → Mem → Option (Unit × Mem)) (x1 : Int32) (x3 : Int32) (x4 : Int32) (s0 : Int32) (m : Mem) : Option (Unit × Mem) :=
  bn (R_token s0 x1 x4 0 m) fun _ m2 =>
  vb (x1 + x3 : Int32) fun v5 =>
  R_cut_291 k7 v5 m2
set_option maxRecDepth 100000 in
def R_cut_250 (k7 : Int32 → Mem → Option (Unit × Mem)) (x1 : Int32) (x3 : Int32) (x4 : Int32) (m : Mem) : Option (Unit × Mem) :=
  if x3 ≤ 4 then (
    R_cut_261 k7 x1 x3 x4 2 m)
  else (
    R_cut_261 k7 x1 x3 x4 3 m)
set_option maxRecDepth 100000 in
def R_cut_208 (k7 : Int32 → Mem → Option (Unit × Mem)) : Nat → Int32 → Int32 → Int32 → Mem → Option (Unit × Mem)
  | 0, _, _, _, _ => none
  | n + 1, x1, x3, x4, m =>
  bn (R_at (x1 + x3) m) fun r1 m2 =>
  bp (R_isDigit r1) fun r5 =>
  if r5 = 0 then (
    R_cut_250 k7 x1 x3 x4 m2)
  else (
    if 4 ≤ x3 then (
      R_cut_244 k7 (fun z0 z1 z2 z3 => R_cut_208 k7 n z0 z1 z2 z3) x1 x3 x4 m2)
    else (
      bn (R_at (x1 + x3) m2) fun r8 m9 =>
      vb (((10 * x4) + r8) - 48 : Int32) fun v12 =>
      R_cut_244 k7 (fun z0 z1 z2 z3 => R_cut_208 k7 n z0 z1 z2 z3) x1 x3 v12 m9))
set_option maxRecDepth 100000 in
def R_cut_7 : Nat → Int32 → Mem → Option (Unit × Mem)
  | 0, _, _ => none
  | n + 1, x1, m =>
  if 500 < (mI m 1546 0) then (
    some ((), m))
  else (
    bn (R_at x1 m) fun r2 m3 =>
    if x1 < (mI m3 1540 0) then (
      if r2 = 9 then (
        R_cut_67 (fun z0 z1 => R_cut_7 n z0 z1) x1 m3)
      else (
        if r2 = 10 then (
          R_cut_67 (fun z0 z1 => R_cut_7 n z0 z1) x1 m3)
        else (
          if r2 = 13 then (
            R_cut_67 (fun z0 z1 => R_cut_7 n z0 z1) x1 m3)
          else (
            if r2 = 32 then (
              R_cut_67 (fun z0 z1 => R_cut_7 n z0 z1) x1 m3)
            else (
              bp (R_isLetter r2) fun r11 =>
              if r11 = 0 then (
                bp (R_isDigit r2) fun r13 =>
                if r13 = 0 then (
                  bn (R_at (x1 + 1) m3) fun r15 m16 =>
                  bn (R_sign x1 r2 r15 m16) fun r19 m20 =>
                  vb (x1 + r19 : Int32) fun v23 =>
                  R_cut_291 (fun z0 z1 => R_cut_7 n z0 z1) v23 m20)
                else (
                  R_cut_208 (fun z0 z1 => R_cut_7 n z0 z1) FU x1 0 0 m3))
              else (
                R_cut_85 (fun z0 z1 => R_cut_7 n z0 z1) FU x1 0 0 m3))))))
    else (
      R_cut_31 m3))
set_option maxRecDepth 100000 in
def R_cut (m : Mem) : Option (Unit × Mem) :=
  vb (sI m 1546 0 0) fun m2 =>
  R_cut_7 FU 0 m2
set_option maxRecDepth 100000 in
def R_fail (x1 : Int32) (m : Mem) : Option (Unit × Mem) :=
  if (mI m 1549 0) ≤ 0 then (
    vb (sI m 1549 0 x1) fun m3 =>
    gd (inb (mI m3 1547 0) 503) <|
    vb (sI m3 1550 0 (aI m3 4 (ix (mI m3 1547 0)))) fun m6 =>
    some ((), m6))
  else (
    some ((), m))
set_option maxRecDepth 100000 in
def R_next (m : Mem) : Option (Unit × Mem) :=
  if (mI m 1547 0) = 500 then (
    bn (R_fail 2 m) fun _ m3 =>
    some ((), m3))
  else (
    vb (sI m 1547 0 ((mI m 1547 0) + 1)) fun m7 =>
    some ((), m7))
set_option maxRecDepth 100000 in
def R_is (x1 : Int32) (m : Mem) : Option (Int32 × Mem) :=
  if (mI m 1549 0) = 0 then (
    gd (inb (mI m 1547 0) 503) <|
    if (aI m 3 (ix (mI m 1547 0))) = x1 then (
      some (1, m))
    else (
      some (0, m)))
  else (
    some (0, m))
set_option maxRecDepth 100000 in
def R_must (x1 : Int32) (m : Mem) : Option (Unit × Mem) :=
  bn (R_is x1 m) fun r1 m2 =>
  if r1 = 0 then (
    bn (R_fail 1 m2) fun _ m7 =>
    some ((), m7))
  else (
    bn (R_next m2) fun _ m11 =>
    some ((), m11))
set_option maxRecDepth 100000 in
def R_name_75 (x1 : Int32) (m : Mem) : Option (Int32 × Mem) :=
  gd (inb x1 503) <|
  gd (inb (mI m 1585 0) 600) <|
  vb (wL m 35 (ix (mI m 1585 0)) (aL m 6 (ix x1))) fun m5 =>
  vb (sI m5 1585 0 ((mI m5 1585 0) + 1)) fun m7 =>
  some ((mI m7 1585 0) - 1, m7)
set_option maxRecDepth 100000 in
def R_name_53 (x1 : Int32) (m : Mem) : Option (Int32 × Mem) :=
  if (mI m 1585 0) = 60 then (
    if (mI m 1587 0) = (-1) then (
      vb (sI m 1587 0 x1) fun m4 =>
      R_name_75 x1 m4)
    else (
      R_name_75 x1 m))
  else (
    R_name_75 x1 m)
set_option maxRecDepth 100000 in
def R_name_21 : Nat → Int32 → Int32 → Mem → Option (Int32 × Mem)
  | 0, _, _, _ => none
  | n + 1, x1, x2, m =>
  if (mI m 1585 0) ≤ x2 then (
    R_name_53 x1 m)
  else (
    gd (inb x2 600) <|
    gd (inb x1 503) <|
    if (lg_cmp (aL m 35 (ix x2)) (aL m 6 (ix x1))) = 0 then (
      some (x2, m))
    else (
      vb (x2 + 1 : Int32) fun v5 =>
      R_name_21 n x1 v5 m))
set_option maxRecDepth 100000 in
def R_name (m : Mem) : Option (Int32 × Mem) :=
  vb (mI m 1547 0 : Int32) fun v1 =>
  bn (R_must 1 m) fun _ m3 =>
  if (mI m3 1549 0) ≤ 0 then (
    R_name_21 FU v1 0 m3)
  else (
    some (0, m3))
set_option maxRecDepth 100000 in
def R_wrong_46 (x1 : Int32) (x3 : Int32) (m : Mem) : Option (Unit × Mem) :=
  vb (sI m 1551 0 x1) fun m2 =>
  vb (sI m2 1552 0 x3) fun m4 =>
  some ((), m4)
set_option maxRecDepth 100000 in
def R_wrong (x1 : Int32) (x2 : Int32) (m : Mem) : Option (Unit × Mem) :=
  gd (inb x2 503) <|
  vb (aI m 4 (ix x2) : Int32) fun v2 =>
  if 0 < (mI m 1549 0) then (
    some ((), m))
  else (
    if (mI m 1551 0) = 0 then (
      R_wrong_46 x1 v2 m)
    else (
      if (mI m 1552 0) < v2 then (
        some ((), m))
      else (
        if v2 = (mI m 1552 0) then (
          if x1 < (mI m 1551 0) then (
            R_wrong_46 x1 v2 m)
          else (
            some ((), m)))
        else (
          R_wrong_46 x1 v2 m))))
set_option maxRecDepth 100000 in
def R_number_52 (x3 : Int32) (x4 : Int32) (m : Mem) : Option (Int32 × Mem) :=
  bn (R_wrong 5 x3 m) fun _ m2 =>
  some (x4, m2)
set_option maxRecDepth 100000 in
def R_number_26 (x1 : Int32) (x2 : Int32) (x3 : Int32) (s0 : Int32) (m : Mem) : Option (Int32 × Mem) :=
  bn (R_must 2 m) fun _ m2 =>
  if (mI m2 1549 0) = 0 then (
    if s0 < x1 then (
      R_number_52 x3 s0 m2)
    else (
      if s0 ≤ x2 then (
        some (s0, m2))
      else (
        R_number_52 x3 s0 m2)))
  else (
    some (s0, m2))
set_option maxRecDepth 100000 in
def R_number (x1 : Int32) (x2 : Int32) (m : Mem) : Option (Int32 × Mem) :=
  vb (mI m 1547 0 : Int32) fun v1 =>
  bn (R_is 2 m) fun r2 m3 =>
  if r2 = 0 then (
    R_number_26 x1 x2 v1 0 m3)
  else (
    gd (inb (mI m3 1547 0) 503) <|
    R_number_26 x1 x2 v1 (aI m3 5 (ix (mI m3 1547 0))) m3)
set_option maxRecDepth 100000 in
def R_tellHead_178 (k137 : Int32 → Int32 → Int32 → Int32 → Mem → Option (Unit × Mem)) (x1 : Int32) (x2 : Int32) (x3 : Int32) (x4 : Int32) (m : Mem) : Option (Unit × Mem) :=
  vb (x4 + 1 : Int32) fun v1 =>
  k137 x1 x2 x3 v1 m
set_option maxRecDepth 100000 in
def R_tellHead_209 (x1 : Int32) (x2 : Int32) (x3 : Int32) (m : Mem) : Option (Unit × Mem) :=
  if x1 ≤ 0 then (
    some ((), m))
  else (
    if x3 = (-1) then (
      bn (R_wrong 4 x2 m) fun _ m4 =>
      some ((), m4))
    else (
      some ((), m)))
set_option maxRecDepth 100000 in
def R_tellHead_184 (x1 : Int32) (x2 : Int32) (x3 : Int32) (m : Mem) : Option (Unit × Mem) :=
  gd (inb (mI m 1588 0) 25) <|
  vb (wI m 13 (ix (mI m 1588 0)) x3) fun m4 =>
  if x1 = 0 then (
    if x3 = (-1) then (
      R_tellHead_209 x1 x2 x3 m4)
    else (
      bn (R_wrong 3 x2 m4) fun _ m8 =>
      R_tellHead_209 x1 x2 x3 m8))
  else (
    R_tellHead_209 x1 x2 x3 m4)
set_option maxRecDepth 100000 in
def R_tellHead_137 : Nat → Int32 → Int32 → Int32 → Int32 → Mem → Option (Unit × Mem)
  | 0, _, _, _, _, _ => none
  | n + 1, x1, x2, x3, x4, m =>
  if (mI m 1554 0) ≤ x4 then (
    R_tellHead_184 x1 x2 x3 m)
  else (
    gd (inb x4 25) <|
    if (aI m 8 (ix x4)) = 0 then (
      gd (inb x4 25) <|
      gd (inb (mI m 1588 0) 25) <|
      if (aI m 9 (ix x4)) = (aI m 9 (ix (mI m 1588 0))) then (
        R_tellHead_178 (fun z0 z1 z2 z3 z4 => R_tellHead_137 n z0 z1 z2 z3 z4) x1 x2 x4 x4 m)
      else (
        R_tellHead_178 (fun z0 z1 z2 z3 z4 => R_tellHead_137 n z0 z1 z2 z3 z4) x1 x2 x3 x4 m))
    else (
      R_tellHead_178 (fun z0 z1 z2 z3 z4 => R_tellHead_137 n z0 z1 z2 z3 z4) x1 x2 x3 x4 m))
set_option maxRecDepth 100000 in
def R_tellHead_96 (x1 : Int32) (x2 : Int32) (m : Mem) : Option (Unit × Mem) :=
  bn (R_must 25 m) fun _ m2 =>
  bn (R_number 0 139 m2) fun r5 m6 =>
  gd (inb (mI m2 1588 0) 25) <|
  vb (wI m6 11 (ix (mI m2 1588 0)) r5) fun m12 =>
  bn (R_must 4 m12) fun _ m14 =>
  if (mI m14 1549 0) ≤ 0 then (
    R_tellHead_137 FU x1 x2 (-1) 0 m14)
  else (
    some ((), m14))
set_option maxRecDepth 100000 in
def R_tellHead_27 (x1 : Int32) (m : Mem) : Option (Unit × Mem) :=
  bn (R_next m) fun _ m2 =>
  vb (mI m2 1547 0 : Int32) fun v5 =>
  gd (inb (mI m2 1588 0) 25) <|
  vb (wI m2 8 (ix (mI m2 1588 0)) x1) fun m9 =>
  bn (R_name m9) fun r10 m11 =>
  gd (inb (mI m9 1588 0) 25) <|
  vb (wI m11 9 (ix (mI m9 1588 0)) r10) fun m17 =>
  gd (inb (mI m17 1588 0) 25) <|
  vb (wI m17 10 (ix (mI m17 1588 0)) (-1)) fun m21 =>
  if x1 ≤ 1 then (
    R_tellHead_96 x1 v5 m21)
  else (
    bn (R_must 24 m21) fun _ m24 =>
    bn (R_number 0 7 m24) fun r27 m28 =>
    gd (inb (mI m24 1588 0) 25) <|
    vb (wI m28 10 (ix (mI m24 1588 0)) r27) fun m34 =>
    R_tellHead_96 x1 v5 m34)
set_option maxRecDepth 100000 in
def R_tellHead_22 (x1 : Int32) (m : Mem) : Option (Unit × Mem) :=
  bn (R_fail 1 m) fun _ m2 =>
  R_tellHead_27 x1 m2
set_option maxRecDepth 100000 in
def R_tellHead (m : Mem) : Option (Unit × Mem) :=
  gd (inb (mI m 1547 0) 503) <|
  vb ((aI m 3 (ix (mI m 1547 0))) - 20 : Int32) fun v2 =>
  if v2 < 0 then (
    R_tellHead_22 v2 m)
  else (
    if v2 ≤ 3 then (
      R_tellHead_27 v2 m)
    else (
      R_tellHead_22 v2 m))
set_option maxRecDepth 100000 in
def R_emit (x1 : Int32) (x2 : Int32) (m : Mem) : Option (Unit × Mem) :=
  gd (inb (mI m 1581 0) 12500) <|
  vb (wI m 33 (ix (mI m 1581 0)) x1) fun m4 =>
  gd (inb (mI m4 1581 0) 12500) <|
  vb (wI m4 34 (ix (mI m4 1581 0)) x2) fun m8 =>
  vb (sI m8 1581 0 ((mI m8 1581 0) + 1)) fun m10 =>
  some ((), m10)
set_option maxRecDepth 100000 in
def R_unit_88 (m : Mem) : Option (Unit × Mem) :=
  bn (R_fail 1 m) fun _ m2 =>
  some ((), m2)
set_option maxRecDepth 100000 in
def R_unit (m : Mem) : Option (Unit × Mem) :=
  bn (R_is 2 m) fun r1 m2 =>
  if r1 = 0 then (
    if (mI m2 1549 0) = 0 then (
      gd (inb (mI m2 1547 0) 503) <|
      if (aI m2 3 (ix (mI m2 1547 0))) < 48 then (
        R_unit_88 m2)
      else (
        gd (inb (mI m2 1547 0) 503) <|
        if 59 < (aI m2 3 (ix (mI m2 1547 0))) then (
          R_unit_88 m2)
        else (
          gd (inb (mI m2 1547 0) 503) <|
          bn (R_emit 1 ((aI m2 3 (ix (mI m2 1547 0))) - 48) m2) fun _ m13 =>
          bn (R_next m13) fun _ m17 =>
          some ((), m17))))
    else (
      R_unit_88 m2))
  else (
    gd (inb (mI m2 1547 0) 503) <|
    bn (R_emit 0 (aI m2 5 (ix (mI m2 1547 0))) m2) fun _ m22 =>
    bn (R_next m22) fun _ m26 =>
    some ((), m26))
set_option maxRecDepth 100000 in
def R_comesOut_84 (k0 : Int32 → Mem → Option (Unit × Mem)) (x1 : Int32) (s0 : Int32) (m : Mem) : Option (Unit × Mem) :=
  bn (R_emit s0 0 m) fun _ m2 =>
  k0 x1 m2
set_option maxRecDepth 100000 in
def R_comesOut_42 (k0 : Int32 → Mem → Option (Unit × Mem)) (x1 : Int32) (x2 : Int32) (m : Mem) : Option (Unit × Mem) :=
  vb (sI m 1590 0 ((mI m 1590 0) - 1)) fun m2 =>
  if x2 = 8 then (
    R_comesOut_84 k0 x1 2 m2)
  else (
    if x2 = 9 then (
      R_comesOut_84 k0 x1 3 m2)
    else (
      if x2 = 10 then (
        R_comesOut_84 k0 x1 4 m2)
      else (
        R_comesOut_84 k0 x1 5 m2)))
set_option maxRecDepth 100000 in
def R_comesOut_0 : Nat → Int32 → Mem → Option (Unit × Mem)
  | 0, _, _ => none
  | n + 1, x1, m =>
  if (mI m 1590 0) ≤ 0 then (
    some ((), m))
  else (
    gd (inb ((mI m 1590 0) - 1) 64) <|
    vb (aI m 36 (ix ((mI m 1590 0) - 1)) : Int32) fun v3 =>
    if v3 = 6 then (
      some ((), m))
    else (
      if x1 = 0 then (
        R_comesOut_42 (fun z0 z1 => R_comesOut_0 n z0 z1) x1 v3 m)
      else (
        if v3 = 8 then (
          some ((), m))
        else (
          if v3 = 9 then (
            some ((), m))
          else (
            R_comesOut_42 (fun z0 z1 => R_comesOut_0 n z0 z1) x1 v3 m)))))
set_option maxRecDepth 100000 in
def R_comesOut (x1 : Int32) (m : Mem) : Option (Unit × Mem) := R_comesOut_0 FU x1 m
set_option maxRecDepth 100000 in
def R_expression_46 (k12 : Int32 → Int32 → Mem → Option (Unit × Mem)) (k23 : Int32 → Mem → Option (Unit × Mem)) (x1 : Int32) (m : Mem) : Option (Unit × Mem) :=
  vb (sI m 1548 0 ((mI m 1548 0) + 1)) fun m2 =>
  bn (R_next m2) fun _ m4 =>
  gd (inb (mI m4 1590 0) 64) <|
  vb (wI m4 36 (ix (mI m4 1590 0)) 6) fun m10 =>
  vb (sI m10 1590 0 ((mI m10 1590 0) + 1)) fun m12 =>
  k23 x1 m12
set_option maxRecDepth 100000 in
def R_expression_204 (m : Mem) : Option (Unit × Mem) :=
  bn (R_comesOut 0 m) fun _ m2 =>
  some ((), m2)
set_option maxRecDepth 100000 in
def R_expression_191 (x1 : Int32) (m : Mem) : Option (Unit × Mem) :=
  if (mI m 1548 0) ≤ x1 then (
    R_expression_204 m)
  else (
    bn (R_fail 1 m) fun _ m3 =>
    R_expression_204 m3)
set_option maxRecDepth 100000 in
def R_expression_234 (k12 : Int32 → Int32 → Mem → Option (Unit × Mem)) (x1 : Int32) (x2 : Int32) (s0 : Int32) (m : Mem) : Option (Unit × Mem) :=
  bn (R_comesOut s0 m) fun _ m2 =>
  gd (inb (mI m2 1547 0) 503) <|
  gd (inb (mI m2 1590 0) 64) <|
  vb (wI m2 36 (ix (mI m2 1590 0)) (aI m2 3 (ix (mI m2 1547 0)))) fun m9 =>
  vb (sI m9 1590 0 ((mI m9 1590 0) + 1)) fun m11 =>
  bn (R_next m11) fun _ m13 =>
  k12 x1 x2 m13
set_option maxRecDepth 100000 in
def R_expression_229 (k12 : Int32 → Int32 → Mem → Option (Unit × Mem)) (x1 : Int32) (x2 : Int32) (m : Mem) : Option (Unit × Mem) :=
  R_expression_234 k12 x1 x2 1 m
set_option maxRecDepth 100000 in
def R_expression_186 (k12 : Int32 → Int32 → Mem → Option (Unit × Mem)) (x1 : Int32) (s0 : Int32) (m : Mem) : Option (Unit × Mem) :=
  if s0 = 0 then (
    R_expression_191 x1 m)
  else (
    bn (R_is 10 m) fun r2 m3 =>
    if r2 = 0 then (
      bn (R_is 15 m3) fun r7 m8 =>
      if r7 = 0 then (
        R_expression_234 k12 x1 s0 0 m8)
      else (
        R_expression_229 k12 x1 s0 m8))
    else (
      R_expression_229 k12 x1 s0 m3))
set_option maxRecDepth 100000 in
def R_expression_181 (k12 : Int32 → Int32 → Mem → Option (Unit × Mem)) (x1 : Int32) (m : Mem) : Option (Unit × Mem) :=
  R_expression_186 k12 x1 1 m
set_option maxRecDepth 100000 in
def R_expression_145 (k12 : Int32 → Int32 → Mem → Option (Unit × Mem)) (x1 : Int32) (m : Mem) : Option (Unit × Mem) :=
  bn (R_is 8 m) fun r1 m2 =>
  if r1 = 0 then (
    bn (R_is 9 m2) fun r6 m7 =>
    if r6 = 0 then (
      bn (R_is 10 m7) fun r11 m12 =>
      if r11 = 0 then (
        bn (R_is 15 m12) fun r16 m17 =>
        if r16 = 0 then (
          R_expression_186 k12 x1 0 m17)
        else (
          R_expression_181 k12 x1 m17))
      else (
        R_expression_181 k12 x1 m12))
    else (
      R_expression_181 k12 x1 m7))
  else (
    R_expression_181 k12 x1 m2)
set_option maxRecDepth 100000 in
def R_expression_96 (k12 : Int32 → Int32 → Mem → Option (Unit × Mem)) : Nat → Int32 → Mem → Option (Unit × Mem)
  | 0, _, _ => none
  | n + 1, x1, m =>
  bn (R_is 7 m) fun r1 m2 =>
  if r1 = 0 then (
    R_expression_145 k12 x1 m2)
  else (
    if (mI m2 1548 0) ≤ x1 then (
      R_expression_145 k12 x1 m2)
    else (
      bn (R_comesOut 0 m2) fun _ m8 =>
      vb (sI m8 1590 0 ((mI m8 1590 0) - 1)) fun m12 =>
      vb (sI m12 1548 0 ((mI m12 1548 0) - 1)) fun m14 =>
      bn (R_next m14) fun _ m16 =>
      R_expression_96 k12 n x1 m16))
set_option maxRecDepth 100000 in
def R_expression_84 (k12 : Int32 → Int32 → Mem → Option (Unit × Mem)) (x1 : Int32) (m : Mem) : Option (Unit × Mem) :=
  bn (R_unit m) fun _ m2 =>
  if (mI m2 1549 0) ≤ 0 then (
    R_expression_96 k12 FU x1 m2)
  else (
    some ((), m2))
set_option maxRecDepth 100000 in
def R_expression_23 (k12 : Int32 → Int32 → Mem → Option (Unit × Mem)) : Nat → Int32 → Mem → Option (Unit × Mem)
  | 0, _, _ => none
  | n + 1, x1, m =>
  bn (R_is 6 m) fun r1 m2 =>
  if r1 = 0 then (
    R_expression_84 k12 x1 m2)
  else (
    if (mI m2 1548 0) = 6 then (
      bn (R_fail 2 m2) fun _ m8 =>
      R_expression_46 k12 (fun z0 z1 => R_expression_23 k12 n z0 z1) x1 m8)
    else (
      R_expression_46 k12 (fun z0 z1 => R_expression_23 k12 n z0 z1) x1 m2))
set_option maxRecDepth 100000 in
def R_expression_12 : Nat → Int32 → Int32 → Mem → Option (Unit × Mem)
  | 0, _, _, _ => none
  | n + 1, x1, x2, m =>
  if x2 = 0 then (
    some ((), m))
  else (
    if (mI m 1549 0) = 0 then (
      R_expression_23 (fun z0 z1 z2 => R_expression_12 n z0 z1 z2) FU x1 m)
    else (
      some ((), m)))
set_option maxRecDepth 100000 in
def R_expression (m : Mem) : Option (Unit × Mem) :=
  vb (sI m 1590 0 0) fun m2 =>
  vb (mI m2 1548 0 : Int32) fun v3 =>
  R_expression_12 FU v3 1 m2
set_option maxRecDepth 100000 in
def R_literal_20 (k2 : Int32 → Int32 → Mem → Option (Unit × Mem)) (x1 : Int32) (s0 : Int32) (m : Mem) : Option (Unit × Mem) :=
  bn (R_next m) fun _ m2 =>
  k2 x1 s0 m2
set_option maxRecDepth 100000 in
def R_literal_136 (x1 : Int32) (x2 : Int32) (x3 : Int32) (x4 : Int32) (x5 : Int32) (m : Mem) : Option (Unit × Mem) :=
  if (mI m 1549 0) ≤ 0 then (
    gd (inb (mI m 1580 0) 5000) <|
    vb (wI m 27 (ix (mI m 1580 0)) x5) fun m5 =>
    gd (inb (mI m5 1580 0) 5000) <|
    gz x2 <|
    vb (wI m5 28 (ix (mI m5 1580 0)) x2) fun m10 =>
    gd (inb (mI m10 1580 0) 5000) <|
    gz x1 <|
    vb (wI m10 29 (ix (mI m10 1580 0)) x1) fun m15 =>
    gd (inb (mI m15 1580 0) 5000) <|
    vb (wI m15 30 (ix (mI m15 1580 0)) x3) fun m19 =>
    gd (inb (mI m19 1580 0) 5000) <|
    vb (wI m19 31 (ix (mI m19 1580 0)) x4) fun m23 =>
    gd (inb (mI m23 1580 0) 5000) <|
    vb (wI m23 32 (ix (mI m23 1580 0)) (mI m23 1581 0)) fun m27 =>
    vb (sI m27 1580 0 ((mI m27 1580 0) + 1)) fun m29 =>
    some ((), m29))
  else (
    some ((), m))
set_option maxRecDepth 100000 in
def R_literal_122 (x1 : Int32) (x2 : Int32) (x3 : Int32) (x5 : Int32) (m : Mem) : Option (Unit × Mem) :=
  bn (R_next m) fun _ m2 =>
  vb (mI m2 1581 0 : Int32) fun v5 =>
  bn (R_expression m2) fun _ m7 =>
  R_literal_136 x1 x2 x3 v5 x5 m7
set_option maxRecDepth 100000 in
def R_literal_117 (x1 : Int32) (x2 : Int32) (x3 : Int32) (x5 : Int32) (m : Mem) : Option (Unit × Mem) :=
  bn (R_fail 1 m) fun _ m2 =>
  R_literal_122 x1 x2 x3 x5 m2
set_option maxRecDepth 100000 in
def R_literal_97 (x1 : Int32) (x2 : Int32) (x3 : Int32) (s0 : Int32) (m : Mem) : Option (Unit × Mem) :=
  if (mI m 1549 0) = 0 then (
    if s0 < 0 then (
      R_literal_117 x1 x2 x3 s0 m)
    else (
      if s0 ≤ 3 then (
        R_literal_122 x1 x2 x3 s0 m)
      else (
        R_literal_117 x1 x2 x3 s0 m)))
  else (
    R_literal_122 x1 x2 x3 s0 m)
set_option maxRecDepth 100000 in
def R_literal_28 (x1 : Int32) (x2 : Int32) (m : Mem) : Option (Unit × Mem) :=
  vb (mI m 1581 0 : Int32) fun v1 =>
  vb (mI m 1581 0 : Int32) fun v2 =>
  bn (R_is 47 m) fun r3 m4 =>
  if r3 = 0 then (
    bn (R_expression m4) fun _ m9 =>
    if (mI m9 1549 0) ≤ 0 then (
      gd (inb (mI m9 1547 0) 503) <|
      R_literal_97 x1 x2 v1 ((aI m9 3 (ix (mI m9 1547 0))) - 11) m9)
    else (
      R_literal_97 x1 x2 v1 0 m9))
  else (
    bn (R_next m4) fun _ m15 =>
    bn (R_number 0 7 m15) fun r18 m19 =>
    bn (R_emit 0 r18 m19) fun _ m23 =>
    R_literal_136 x1 x2 v1 v2 4 m23)
set_option maxRecDepth 100000 in
def R_literal_2 : Nat → Int32 → Int32 → Mem → Option (Unit × Mem)
  | 0, _, _, _ => none
  | n + 1, x1, x2, m =>
  bn (R_is 46 m) fun r1 m2 =>
  if r1 = 0 then (
    R_literal_28 x1 x2 m2)
  else (
    if x2 = 0 then (
      R_literal_20 (fun z0 z1 z2 => R_literal_2 n z0 z1 z2) x1 1 m2)
    else (
      R_literal_20 (fun z0 z1 z2 => R_literal_2 n z0 z1 z2) x1 0 m2))
set_option maxRecDepth 100000 in
def R_literal (x1 : Int32) (m : Mem) : Option (Unit × Mem) :=
  R_literal_2 FU x1 0 m
set_option maxRecDepth 100000 in
def R_cond_45 (k4 : Int32 → Int32 → Mem → Option (Unit × Mem)) (x1 : Int32) (s0 : Int32) (m : Mem) : Option (Unit × Mem) :=
  if s0 = 0 then (
    k4 x1 s0 m)
  else (
    bn (R_next m) fun _ m3 =>
    k4 x1 s0 m3)
set_option maxRecDepth 100000 in
def R_cond_40 (k4 : Int32 → Int32 → Mem → Option (Unit × Mem)) (x1 : Int32) (m : Mem) : Option (Unit × Mem) :=
  R_cond_45 k4 x1 1 m
set_option maxRecDepth 100000 in
def R_cond_4 : Nat → Int32 → Int32 → Mem → Option (Unit × Mem)
  | 0, _, _, _ => none
  | n + 1, x1, x2, m =>
  if x2 = 0 then (
    some ((), m))
  else (
    if (mI m 1549 0) = 0 then (
      bn (R_literal x1 m) fun _ m4 =>
      bn (R_is 44 m4) fun r7 m8 =>
      if r7 = 0 then (
        bn (R_is 45 m8) fun r12 m13 =>
        if r12 = 0 then (
          R_cond_45 (fun z0 z1 z2 => R_cond_4 n z0 z1 z2) r7 0 m13)
        else (
          R_cond_40 (fun z0 z1 z2 => R_cond_4 n z0 z1 z2) r7 m13))
      else (
        R_cond_40 (fun z0 z1 z2 => R_cond_4 n z0 z1 z2) r7 m8))
    else (
      some ((), m)))
set_option maxRecDepth 100000 in
def R_cond (m : Mem) : Option (Unit × Mem) :=
  R_cond_4 FU 1 1 m
set_option maxRecDepth 100000 in
def R_tellClass_96 (k20 : Int32 → Int32 → Int32 → Mem → Option (Unit × Mem)) (x1 : Int32) (x2 : Int32) (x3 : Int32) (m : Mem) : Option (Unit × Mem) :=
  k20 x1 x2 x3 m
set_option maxRecDepth 100000 in
def R_tellClass_79 (k20 : Int32 → Int32 → Int32 → Mem → Option (Unit × Mem)) (x1 : Int32) (x2 : Int32) (m : Mem) : Option (Unit × Mem) :=
  vb (x2 + 1 : Int32) fun v1 =>
  bn (R_is 5 m) fun r2 m3 =>
  if r2 = 0 then (
    R_tellClass_96 k20 x1 v1 r2 m3)
  else (
    bn (R_next m3) fun _ m8 =>
    R_tellClass_96 k20 x1 v1 r2 m8)
set_option maxRecDepth 100000 in
def R_tellClass_50 (k20 : Int32 → Int32 → Int32 → Mem → Option (Unit × Mem)) (x1 : Int32) (x2 : Int32) (m : Mem) : Option (Unit × Mem) :=
  bn (R_number 0 15 m) fun r1 m2 =>
  if 16 ≤ r1 then (
    R_tellClass_79 k20 x1 x2 m2)
  else (
    gd (inb x1 750) <|
    gd (inb x1 750) <|
    vb (wI m2 17 (ix x1) ((aI m2 17 (ix x1)) ||| (1 <<< (r1 &&& 31)))) fun m10 =>
    R_tellClass_79 k20 x1 x2 m10)
set_option maxRecDepth 100000 in
def R_tellClass_159 (x1 : Int32) (m : Mem) : Option (Unit × Mem) :=
  gd (inb x1 750) <|
  vb (wI m 21 (ix x1) (mI m 1581 0)) fun m4 =>
  bn (R_expression m4) fun _ m6 =>
  gd (inb x1 750) <|
  vb (wI m6 22 (ix x1) (mI m6 1581 0)) fun m12 =>
  some ((), m12)
set_option maxRecDepth 100000 in
def R_tellClass_99 (x1 : Int32) (m : Mem) : Option (Unit × Mem) :=
  bn (R_is 32 m) fun r1 m2 =>
  gd (inb x1 750) <|
  gz r1 <|
  vb (wI m2 18 (ix x1) r1) fun m9 =>
  bn (R_is 32 m9) fun r10 m11 =>
  if r10 = 0 then (
    bn (R_must 31 m11) fun _ m16 =>
    R_tellClass_159 x1 m16)
  else (
    bn (R_next m11) fun _ m20 =>
    bn (R_name m20) fun r23 m24 =>
    gd (inb x1 750) <|
    vb (wI m24 19 (ix x1) r23) fun m30 =>
    bn (R_name m30) fun r31 m32 =>
    gd (inb x1 750) <|
    vb (wI m32 20 (ix x1) r31) fun m38 =>
    bn (R_must 33 m38) fun _ m40 =>
    R_tellClass_159 x1 m40)
set_option maxRecDepth 100000 in
def R_tellClass_20 : Nat → Int32 → Int32 → Int32 → Mem → Option (Unit × Mem)
  | 0, _, _, _, _ => none
  | n + 1, x1, x2, x3, m =>
  if x3 = 0 then (
    R_tellClass_99 x1 m)
  else (
    if (mI m 1549 0) = 0 then (
      bn (R_is 2 m) fun r3 m4 =>
      if r3 = 0 then (
        R_tellClass_50 (fun z0 z1 z2 z3 => R_tellClass_20 n z0 z1 z2 z3) x1 x2 m4)
      else (
        if x2 = 8 then (
          bn (R_fail 2 m4) fun _ m10 =>
          R_tellClass_50 (fun z0 z1 z2 z3 => R_tellClass_20 n z0 z1 z2 z3) x1 x2 m10)
        else (
          R_tellClass_50 (fun z0 z1 z2 z3 => R_tellClass_20 n z0 z1 z2 z3) x1 x2 m4)))
    else (
      R_tellClass_99 x1 m))
set_option maxRecDepth 100000 in
def R_tellClass (x1 : Int32) (m : Mem) : Option (Unit × Mem) :=
  bn (R_name m) fun r1 m2 =>
  gd (inb x1 750) <|
  vb (wI m2 16 (ix x1) r1) fun m8 =>
  bn (R_must 30 m8) fun _ m10 =>
  R_tellClass_20 FU x1 0 1 m10
set_option maxRecDepth 100000 in
def R_tellLoad_97 (k61 : Int32 → Mem → Option (Unit × Mem)) (x1 : Int32) (m : Mem) : Option (Unit × Mem) :=
  bn (R_name m) fun r1 m2 =>
  if (mI m2 1549 0) ≤ 0 then (
    gd (inb x1 750) <|
    gd (inb ((4 * x1) + (aI m2 25 (ix x1))) 3000) <|
    vb (wI m2 26 (ix ((4 * x1) + (aI m2 25 (ix x1)))) r1) fun m10 =>
    gd (inb x1 750) <|
    gd (inb x1 750) <|
    vb (wI m10 25 (ix x1) ((aI m10 25 (ix x1)) + 1)) fun m15 =>
    k61 x1 m15)
  else (
    some ((), m2))
set_option maxRecDepth 100000 in
def R_tellLoad_61 : Nat → Int32 → Mem → Option (Unit × Mem)
  | 0, _, _ => none
  | n + 1, x1, m =>
  bn (R_is 40 m) fun r1 m2 =>
  if r1 = 0 then (
    some ((), m2))
  else (
    bn (R_next m2) fun _ m7 =>
    bn (R_is 1 m7) fun r10 m11 =>
    if r10 = 0 then (
      R_tellLoad_97 (fun z0 z1 => R_tellLoad_61 n z0 z1) x1 m11)
    else (
      gd (inb x1 750) <|
      if (aI m11 25 (ix x1)) = 4 then (
        bn (R_fail 2 m11) fun _ m18 =>
        R_tellLoad_97 (fun z0 z1 => R_tellLoad_61 n z0 z1) x1 m18)
      else (
        R_tellLoad_97 (fun z0 z1 => R_tellLoad_61 n z0 z1) x1 m11)))
set_option maxRecDepth 100000 in
def R_tellLoad (x1 : Int32) (m : Mem) : Option (Unit × Mem) :=
  bn (R_name m) fun r1 m2 =>
  gd (inb x1 750) <|
  vb (wI m2 16 (ix x1) r1) fun m8 =>
  gd (inb x1 750) <|
  vb (wI m8 21 (ix x1) (mI m8 1581 0)) fun m12 =>
  bn (R_expression m12) fun _ m14 =>
  gd (inb x1 750) <|
  vb (wI m14 22 (ix x1) (mI m14 1581 0)) fun m20 =>
  gd (inb x1 750) <|
  vb (wI m20 23 (ix x1) (mI m20 1580 0)) fun m24 =>
  bn (R_is 27 m24) fun r25 m26 =>
  if r25 = 0 then (
    R_tellLoad_61 FU x1 m26)
  else (
    bn (R_next m26) fun _ m31 =>
    bn (R_cond m31) fun _ m35 =>
    R_tellLoad_61 FU x1 m35)
set_option maxRecDepth 100000 in
def R_tellItem_501 (x3 : Int32) (m : Mem) : Option (Unit × Mem) :=
  bn (R_must 4 m) fun _ m2 =>
  gd (inb x3 750) <|
  vb (wI m2 24 (ix x3) (mI m2 1580 0)) fun m8 =>
  if (mI m8 1549 0) = 0 then (
    gd (inb (mI m8 1588 0) 25) <|
    gd (inb (mI m8 1588 0) 25) <|
    vb (wI m8 14 (ix (mI m8 1588 0)) ((aI m8 14 (ix (mI m8 1588 0))) + 1)) fun m14 =>
    some ((), m14))
  else (
    some ((), m8))
set_option maxRecDepth 100000 in
def R_tellItem_431 (x3 : Int32) (x4 : Int32) (m : Mem) : Option (Unit × Mem) :=
  gd (inb x3 750) <|
  vb (wI m 17 (ix x3) x4) fun m4 =>
  bn (R_next m4) fun _ m6 =>
  R_tellItem_501 x3 m6
set_option maxRecDepth 100000 in
def R_tellItem_426 (x3 : Int32) (x4 : Int32) (m : Mem) : Option (Unit × Mem) :=
  bn (R_fail 1 m) fun _ m2 =>
  R_tellItem_431 x3 x4 m2
set_option maxRecDepth 100000 in
def R_tellItem_221 (x1 : Int32) (m : Mem) : Option (Unit × Mem) :=
  gd (inb (mI m 1588 0) 25) <|
  vb ((30 * (mI m 1588 0)) + (aI m 14 (ix (mI m 1588 0))) : Int32) fun v2 =>
  gd (inb v2 750) <|
  vb (wI m 15 (ix v2) x1) fun m6 =>
  gd (inb v2 750) <|
  vb (wI m6 16 (ix v2) (-1)) fun m10 =>
  gd (inb v2 750) <|
  vb (wI m10 17 (ix v2) 0) fun m14 =>
  gd (inb v2 750) <|
  vb (wI m14 18 (ix v2) 0) fun m18 =>
  gd (inb v2 750) <|
  vb (wI m18 25 (ix v2) 0) fun m22 =>
  gd (inb v2 750) <|
  vb (wI m22 21 (ix v2) (mI m22 1581 0)) fun m26 =>
  gd (inb v2 750) <|
  vb (wI m26 22 (ix v2) (mI m26 1581 0)) fun m30 =>
  gd (inb v2 750) <|
  vb (wI m30 23 (ix v2) (mI m30 1580 0)) fun m34 =>
  bn (R_next m34) fun _ m36 =>
  if x1 = 0 then (
    bn (R_must 27 m36) fun _ m41 =>
    bn (R_cond m41) fun _ m45 =>
    R_tellItem_501 v2 m45)
  else   if x1 = 1 then (
    bn (R_name m36) fun r49 m50 =>
    gd (inb v2 750) <|
    vb (wI m50 16 (ix v2) r49) fun m56 =>
    R_tellItem_501 v2 m56)
  else   if x1 = 2 then (
    bn (R_tellClass v2 m36) fun _ m59 =>
    R_tellItem_501 v2 m59)
  else   if x1 = 3 then (
    gd (inb (mI m36 1547 0) 503) <|
    vb ((aI m36 3 (ix (mI m36 1547 0))) - 35 : Int32) fun v64 =>
    if (mI m36 1549 0) = 0 then (
      if v64 < 0 then (
        R_tellItem_426 v2 v64 m36)
      else (
        if v64 ≤ 2 then (
          R_tellItem_431 v2 v64 m36)
        else (
          R_tellItem_426 v2 v64 m36)))
    else (
      R_tellItem_431 v2 v64 m36))
  else   if x1 = 4 then (
    bn (R_tellLoad v2 m36) fun _ m70 =>
    R_tellItem_501 v2 m70)
  else   if x1 = 5 then (
    bn (R_tellLoad v2 m36) fun _ m75 =>
    R_tellItem_501 v2 m75)
  else   if x1 = 6 then (
    bn (R_number 1 240 m36) fun r79 m80 =>
    gd (inb v2 750) <|
    vb (wI m80 17 (ix v2) r79) fun m86 =>
    R_tellItem_501 v2 m86)
  else   if x1 = 7 then (
    bn (R_name m36) fun r88 m89 =>
    gd (inb v2 750) <|
    vb (wI m89 16 (ix v2) r88) fun m95 =>
    R_tellItem_501 v2 m95)
  else   if x1 = 8 then (
    bn (R_name m36) fun r97 m98 =>
    gd (inb v2 750) <|
    vb (wI m98 16 (ix v2) r97) fun m104 =>
    bn (R_must 43 m104) fun _ m106 =>
    bn (R_expression m106) fun _ m110 =>
    gd (inb v2 750) <|
    vb (wI m110 22 (ix v2) (mI m110 1581 0)) fun m116 =>
    R_tellItem_501 v2 m116)
  else (
    bn (R_tellLoad v2 m36) fun _ m118 =>
    R_tellItem_501 v2 m118)
set_option maxRecDepth 100000 in
def R_tellItem_212 (x1 : Int32) (m : Mem) : Option (Unit × Mem) :=
  bn (R_wrong 5 (mI m 1547 0) m) fun _ m2 =>
  R_tellItem_221 x1 m2
set_option maxRecDepth 100000 in
def R_tellItem_203 (x1 : Int32) (x2 : Int32) (m : Mem) : Option (Unit × Mem) :=
  if x2 = 0 then (
    if 2 ≤ x1 then (
      R_tellItem_221 x1 m)
    else (
      R_tellItem_212 x1 m))
  else (
    R_tellItem_221 x1 m)
set_option maxRecDepth 100000 in
def R_tellItem_192 (x1 : Int32) (s0 : Int32) (m : Mem) : Option (Unit × Mem) :=
  if s0 = 0 then (
    R_tellItem_203 x1 s0 m)
  else (
    if 6 < x1 then (
      R_tellItem_212 x1 m)
    else (
      R_tellItem_203 x1 s0 m))
set_option maxRecDepth 100000 in
def R_tellItem_187 (x1 : Int32) (m : Mem) : Option (Unit × Mem) :=
  R_tellItem_192 x1 1 m
set_option maxRecDepth 100000 in
def R_tellItem_154 (x1 : Int32) (m : Mem) : Option (Unit × Mem) :=
  if (mI m 1549 0) ≤ 0 then (
    gd (inb (mI m 1588 0) 25) <|
    if (aI m 8 (ix (mI m 1588 0))) = 0 then (
      R_tellItem_187 x1 m)
    else (
      gd (inb (mI m 1588 0) 25) <|
      if (aI m 8 (ix (mI m 1588 0))) = 3 then (
        R_tellItem_187 x1 m)
      else (
        R_tellItem_192 x1 0 m)))
  else (
    some ((), m))
set_option maxRecDepth 100000 in
def R_tellItem_121 (s0 : Int32) (m : Mem) : Option (Unit × Mem) :=
  if s0 = (-1) then (
    bn (R_fail 1 m) fun _ m3 =>
    R_tellItem_154 s0 m3)
  else (
    gd (inb (mI m 1588 0) 25) <|
    if (aI m 14 (ix (mI m 1588 0))) = 30 then (
      bn (R_fail 2 m) fun _ m9 =>
      R_tellItem_154 s0 m9)
    else (
      R_tellItem_154 s0 m))
set_option maxRecDepth 100000 in
def R_tellItem (m : Mem) : Option (Unit × Mem) :=
  bn (R_is 26 m) fun r1 m2 =>
  if r1 = 0 then (
    bn (R_is 28 m2) fun r6 m7 =>
    if r6 = 0 then (
      bn (R_is 29 m7) fun r11 m12 =>
      if r11 = 0 then (
        bn (R_is 34 m12) fun r16 m17 =>
        if r16 = 0 then (
          bn (R_is 38 m17) fun r21 m22 =>
          if r21 = 0 then (
            bn (R_is 39 m22) fun r26 m27 =>
            if r26 = 0 then (
              bn (R_is 41 m27) fun r31 m32 =>
              if r31 = 0 then (
                bn (R_is 42 m32) fun r36 m37 =>
                if r36 = 0 then (
                  bn (R_is 31 m37) fun r41 m42 =>
                  if r41 = 0 then (
                    R_tellItem_121 (-1) m42)
                  else (
                    R_tellItem_121 8 m42))
                else (
                  R_tellItem_121 7 m37))
              else (
                R_tellItem_121 6 m32))
            else (
              R_tellItem_121 5 m27))
          else (
            R_tellItem_121 4 m22))
        else (
          R_tellItem_121 3 m17))
      else (
        R_tellItem_121 2 m12))
    else (
      R_tellItem_121 1 m7))
  else (
    R_tellItem_121 0 m2)
set_option maxRecDepth 100000 in
def R_changed (m : Mem) : Option (Unit × Mem) :=
  vb (sI m 1612 0 (-1)) fun m2 =>
  vb (sI m2 1627 0 (-1)) fun m4 =>
  some ((), m4)
set_option maxRecDepth 100000 in
def R_fact (x1 : Int32) (x2 : Int32) (x3 : Int32) (x4 : Int32) (x5 : Int32) (m : Mem) : Option (Int32 × Mem) :=
  gd (inb (mI m 1601 0) 160) <|
  vb (wI m 44 (ix (mI m 1601 0)) x1) fun m4 =>
  gd (inb (mI m4 1601 0) 160) <|
  vb (wI m4 45 (ix (mI m4 1601 0)) x2) fun m8 =>
  gd (inb (mI m8 1601 0) 160) <|
  vb (wI m8 46 (ix (mI m8 1601 0)) x3) fun m12 =>
  gd (inb (mI m12 1601 0) 160) <|
  vb (wI m12 47 (ix (mI m12 1601 0)) x4) fun m16 =>
  gd (inb (mI m16 1601 0) 160) <|
  vb (wI m16 48 (ix (mI m16 1601 0)) x5) fun m20 =>
  vb (sI m20 1601 0 ((mI m20 1601 0) + 1)) fun m22 =>
  bn (R_changed m22) fun _ m24 =>
  some ((mI m24 1601 0) - 1, m24)
set_option maxRecDepth 100000 in
def R_read_303 (m : Mem) : Option (Int32 × Mem) :=
  vb (sI m 1554 0 ((mI m 1554 0) + 1)) fun m2 =>
  gd (inb (mI m2 1588 0) 25) <|
  bn (R_fact (aI m2 8 (ix (mI m2 1588 0))) (mI m2 1588 0) 0 0 0 m2) fun r4 m5 =>
  some (0, m5)
set_option maxRecDepth 100000 in
def R_read_230 (s0 : Int32) (m : Mem) : Option (Int32 × Mem) :=
  vb (sI m 1553 0 s0) fun m2 =>
  if (mI m2 1549 0) ≤ 0 then (
    if (mI m2 1551 0) ≤ 0 then (
      vb (sI m2 1584 0 (mI m2 1585 0)) fun m6 =>
      gd (inb (mI m6 1588 0) 25) <|
      vb (wI m6 12 (ix (mI m6 1588 0)) (mI m6 1601 0)) fun m10 =>
      gd (inb (mI m10 1588 0) 25) <|
      if (aI m10 8 (ix (mI m10 1588 0))) = 0 then (
        gd (inb (mI m10 1588 0) 25) <|
        vb (wI m10 13 (ix (mI m10 1588 0)) (mI m10 1588 0)) fun m16 =>
        R_read_303 m16)
      else (
        R_read_303 m10))
    else (
      some (mI m2 1551 0, m2)))
  else (
    some (mI m2 1549 0, m2))
set_option maxRecDepth 100000 in
def R_read_200 (m : Mem) : Option (Int32 × Mem) :=
  if (mI m 1549 0) ≤ 0 then (
    if (mI m 1551 0) ≤ 0 then (
      R_read_230 (-1) m)
    else (
      R_read_230 (mI m 1552 0) m))
  else (
    R_read_230 (mI m 1550 0) m)
set_option maxRecDepth 100000 in
def R_read_168 (m : Mem) : Option (Int32 × Mem) :=
  if (mI m 1549 0) = 0 then (
    if (mI m 1551 0) = 0 then (
      if (mI m 1587 0) = (-1) then (
        R_read_200 m)
      else (
        bn (R_wrong 6 (mI m 1587 0) m) fun _ m5 =>
        R_read_200 m5))
    else (
      R_read_200 m))
  else (
    R_read_200 m)
set_option maxRecDepth 100000 in
def R_read_146 : Nat → Mem → Option (Int32 × Mem)
  | 0, _ => none
  | n + 1, m =>
  if (mI m 1549 0) = 0 then (
    bn (R_is 0 m) fun r2 m3 =>
    if r2 = 0 then (
      bn (R_tellItem m3) fun _ m8 =>
      R_read_146 n m8)
    else (
      R_read_168 m3))
  else (
    R_read_168 m)
set_option maxRecDepth 100000 in
def R_read_58 (m : Mem) : Option (Int32 × Mem) :=
  vb (sI m 1538 0 0) fun m2 =>
  bn (R_cut m2) fun _ m4 =>
  vb (sI m4 1547 0 0) fun m8 =>
  vb (sI m8 1548 0 0) fun m10 =>
  vb (sI m10 1549 0 0) fun m12 =>
  vb (sI m12 1551 0 0) fun m14 =>
  vb (sI m14 1588 0 (mI m14 1554 0)) fun m16 =>
  gd (inb (mI m16 1588 0) 25) <|
  vb (wI m16 14 (ix (mI m16 1588 0)) 0) fun m20 =>
  vb (sI m20 1580 0 (200 * (mI m20 1588 0))) fun m22 =>
  vb (sI m22 1581 0 (500 * (mI m22 1588 0))) fun m24 =>
  vb (sI m24 1585 0 (mI m24 1584 0)) fun m26 =>
  vb (sI m26 1587 0 (-1)) fun m28 =>
  bn (R_tellHead m28) fun _ m30 =>
  R_read_146 FU m30
set_option maxRecDepth 100000 in
def R_read_32 : Nat → Int32 → Mem → Option (Int32 × Mem)
  | 0, _, _ => none
  | n + 1, x1, m =>
  if (mI m 1540 0) ≤ x1 then (
    R_read_58 m)
  else (
    gd (inb x1 2000) <|
    gd (inb x1 2000) <|
    vb (wI m 2 (ix x1) ((Int32.toInt8 (aI m 1 (ix x1))).toInt32)) fun m6 =>
    vb (x1 + 1 : Int32) fun v7 =>
    R_read_32 n v7 m6)
set_option maxRecDepth 100000 in
def R_read (m : Mem) : Option (Int32 × Mem) :=
  if (mI m 1601 0) = 160 then (
    some ((-2), m))
  else (
    if (mI m 1554 0) = 24 then (
      some ((-2), m))
    else (
      vb (sI m 1540 0 (mI m 1538 0)) fun m4 =>
      R_read_32 FU 0 m4))
set_option maxRecDepth 100000 in
def R_place (m : Mem) : Option (Int32 × Mem) :=
  some (mI m 1553 0, m)
set_option maxRecDepth 100000 in
def R_named_76 : Nat → Int32 → Mem → Option (Int32 × Mem)
  | 0, _, _ => none
  | n + 1, x1, m =>
  if (mI m 1584 0) ≤ x1 then (
    some ((-1), m))
  else (
    gd (inb x1 600) <|
    gd (inb 0 503) <|
    if (lg_cmp (aL m 35 (ix x1)) (aL m 6 (ix 0))) = 0 then (
      some (x1, m))
    else (
      vb (x1 + 1 : Int32) fun v5 =>
      R_named_76 n v5 m))
set_option maxRecDepth 100000 in
def R_named_36 (m : Mem) : Option (Int32 × Mem) :=
  vb (sI m 1538 0 0) fun m2 =>
  bn (R_cut m2) fun _ m4 =>
  if (mI m4 1546 0) = 2 then (
    gd (inb 0 503) <|
    if (aI m4 3 (ix 0)) = 1 then (
      gd (inb 1 503) <|
      if (aI m4 3 (ix 1)) = 0 then (
        R_named_76 FU 0 m4)
      else (
        some ((-1), m4)))
    else (
      some ((-1), m4)))
  else (
    some ((-1), m4))
set_option maxRecDepth 100000 in
def R_named_10 : Nat → Int32 → Mem → Option (Int32 × Mem)
  | 0, _, _ => none
  | n + 1, x1, m =>
  if (mI m 1540 0) ≤ x1 then (
    R_named_36 m)
  else (
    gd (inb x1 2000) <|
    gd (inb x1 2000) <|
    vb (wI m 2 (ix x1) ((Int32.toInt8 (aI m 1 (ix x1))).toInt32)) fun m6 =>
    vb (x1 + 1 : Int32) fun v7 =>
    R_named_10 n v7 m6)
set_option maxRecDepth 100000 in
def R_named (m : Mem) : Option (Int32 × Mem) :=
  vb (sI m 1540 0 (mI m 1538 0)) fun m2 =>
  R_named_10 FU 0 m2
set_option maxRecDepth 100000 in
def R_town (m : Mem) : Option (Int32 × Mem) :=
  if (mI m 1591 0) = 5 then (
    some ((-1), m))
  else (
    vb (sI m 1591 0 ((mI m 1591 0) + 1)) fun m3 =>
    some ((mI m3 1591 0) - 1, m3))
set_option maxRecDepth 100000 in
def R_isTown (x1 : Int32) (m : Mem) : Option (Int32 × Mem) :=
  if x1 < 0 then (
    some (0, m))
  else (
    if (mI m 1591 0) ≤ x1 then (
      some (0, m))
    else (
      some (1, m)))
set_option maxRecDepth 100000 in
def R_in (x0 : Int32) (x1 : Int32) (x2 : Int32) : Option (Int32) :=
  if x0 < x1 then (
    some (0))
  else (
    if x2 < x0 then (
      some (0))
    else (
      some (1)))
set_option maxRecDepth 100000 in
def R_firm (x1 : Int32) (x2 : Int32) (m : Mem) : Option (Int32 × Mem) :=
  if (mI m 1592 0) = 8 then (
    some ((-1), m))
  else (
    bn (R_isTown x1 m) fun r2 m3 =>
    if r2 = 0 then (
      some ((-1), m3))
    else (
      bp (R_in x2 0 7) fun r7 =>
      if r7 = 0 then (
        some ((-1), m3))
      else (
        gd (inb (mI m3 1592 0) 8) <|
        vb (wI m3 37 (ix (mI m3 1592 0)) x1) fun m12 =>
        gd (inb (mI m12 1592 0) 8) <|
        vb (wI m12 38 (ix (mI m12 1592 0)) x2) fun m16 =>
        vb (sI m16 1592 0 ((mI m16 1592 0) + 1)) fun m18 =>
        bn (R_changed m18) fun _ m20 =>
        some ((mI m20 1592 0) - 1, m20))))
set_option maxRecDepth 100000 in
def R_isFirm (x1 : Int32) (m : Mem) : Option (Int32 × Mem) :=
  if x1 < 0 then (
    some (0, m))
  else (
    if (mI m 1592 0) ≤ x1 then (
      some (0, m))
    else (
      some (1, m)))
set_option maxRecDepth 100000 in
def R_person (x1 : Int32) (x2 : Int32) (x3 : Int32) (m : Mem) : Option (Int32 × Mem) :=
  if (mI m 1595 0) = 10 then (
    some ((-1), m))
  else (
    bn (R_isFirm x1 m) fun r2 m3 =>
    if r2 = 0 then (
      some ((-1), m3))
    else (
      bp (R_in x2 0 255) fun r7 =>
      if r7 = 0 then (
        some ((-1), m3))
      else (
        bp (R_in x3 0 40) fun r9 =>
        if r9 = 0 then (
          some ((-1), m3))
        else (
          gd (inb (mI m3 1595 0) 10) <|
          vb (wI m3 39 (ix (mI m3 1595 0)) x1) fun m14 =>
          gd (inb (mI m14 1595 0) 10) <|
          vb (wI m14 40 (ix (mI m14 1595 0)) x2) fun m18 =>
          gd (inb (mI m18 1595 0) 10) <|
          vb (wI m18 41 (ix (mI m18 1595 0)) x3) fun m22 =>
          vb (sI m22 1595 0 ((mI m22 1595 0) + 1)) fun m24 =>
          some ((mI m24 1595 0) - 1, m24)))))
set_option maxRecDepth 100000 in
def R_marks (x1 : Int32) (x2 : Int32) (m : Mem) : Option (Int32 × Mem) :=
  bp (R_in x1 0 15) fun r1 =>
  if r1 = 0 then (
    some (0, m))
  else (
    bp (R_in x2 0 255) fun r3 =>
    if r3 = 0 then (
      some (0, m))
    else (
      gd (inb x1 16) <|
      vb (wI m 42 (ix x1) x2) fun m8 =>
      some (1, m8)))
set_option maxRecDepth 100000 in
def R_weight (x1 : Int32) (x2 : Int32) (m : Mem) : Option (Int32 × Mem) :=
  bp (R_in x1 0 3) fun r1 =>
  if r1 = 0 then (
    some (0, m))
  else (
    bp (R_in x2 0 9) fun r3 =>
    if r3 = 0 then (
      some (0, m))
    else (
      gd (inb x1 4) <|
      vb (wI m 43 (ix x1) x2) fun m8 =>
      bn (R_changed m8) fun _ m10 =>
      some (1, m10)))
set_option maxRecDepth 100000 in
def R_price (x1 : Int32) (x2 : Int32) (x3 : Int32) (x4 : Int32) (m : Mem) : Option (Int32 × Mem) :=
  if (mI m 1601 0) = 160 then (
    some ((-1), m))
  else (
    bn (R_isTown x1 m) fun r2 m3 =>
    if r2 = 0 then (
      some ((-1), m3))
    else (
      bp (R_in x2 0 3) fun r7 =>
      if r7 = 0 then (
        some ((-1), m3))
      else (
        bp (R_in x3 0 3) fun r9 =>
        if r9 = 0 then (
          some ((-1), m3))
        else (
          bp (R_in x4 0 99) fun r11 =>
          if r11 = 0 then (
            some ((-1), m3))
          else (
            bn (R_fact 4 x1 x2 x3 x4 m3) fun r13 m14 =>
            some (r13, m14))))))
set_option maxRecDepth 100000 in
def R_wet (x1 : Int32) (x2 : Int32) (x3 : Int32) (m : Mem) : Option (Int32 × Mem) :=
  if (mI m 1601 0) = 160 then (
    some ((-1), m))
  else (
    bn (R_isFirm x1 m) fun r2 m3 =>
    if r2 = 0 then (
      some ((-1), m3))
    else (
      bp (R_in x2 0 139) fun r7 =>
      if r7 = 0 then (
        some ((-1), m3))
      else (
        bp (R_in x3 0 9) fun r9 =>
        if r9 = 0 then (
          some ((-1), m3))
        else (
          bn (R_fact 5 x1 x2 0 x3 m3) fun r11 m12 =>
          some (r11, m12)))))
set_option maxRecDepth 100000 in
def R_isPerson (x1 : Int32) (m : Mem) : Option (Int32 × Mem) :=
  if x1 < 0 then (
    some (0, m))
  else (
    if (mI m 1595 0) ≤ x1 then (
      some (0, m))
    else (
      some (1, m)))
set_option maxRecDepth 100000 in
def R_row_78 (x1 : Int32) (x2 : Int32) (x3 : Int32) (m : Mem) : Option (Int32 × Mem) :=
  bn (R_fact 6 x1 x2 0 x3 m) fun r1 m2 =>
  some (r1, m2)
set_option maxRecDepth 100000 in
def R_row_49 : Nat → Int32 → Int32 → Int32 → Int32 → Mem → Option (Int32 × Mem)
  | 0, _, _, _, _, _ => none
  | n + 1, x1, x2, x3, x4, m =>
  if 48 ≤ x4 then (
    R_row_78 x1 x2 x3 m)
  else (
    gd (inb ((48 * (mI m 1601 0)) + x4) 7680) <|
    vb (wI m 49 (ix ((48 * (mI m 1601 0)) + x4)) (-1)) fun m5 =>
    vb (x4 + 1 : Int32) fun v6 =>
    R_row_49 n x1 x2 x3 v6 m5)
set_option maxRecDepth 100000 in
def R_row_46 (x1 : Int32) (x2 : Int32) (x3 : Int32) (m : Mem) : Option (Int32 × Mem) :=
  R_row_49 FU x1 x2 x3 0 m
set_option maxRecDepth 100000 in
def R_row (x1 : Int32) (x2 : Int32) (x3 : Int32) (m : Mem) : Option (Int32 × Mem) :=
  if (mI m 1601 0) = 160 then (
    some ((-1), m))
  else (
    bn (R_isPerson x1 m) fun r2 m3 =>
    if r2 = 0 then (
      some ((-1), m3))
    else (
      bp (R_in x2 0 139) fun r7 =>
      if r7 = 0 then (
        some ((-1), m3))
      else (
        if x3 = (-1) then (
          R_row_46 x1 x2 x3 m3)
        else (
          bp (R_in x3 1 48) fun r10 =>
          if r10 = 0 then (
            some ((-1), m3))
          else (
            R_row_46 x1 x2 x3 m3)))))
set_option maxRecDepth 100000 in
def R_cell (x1 : Int32) (x2 : Int32) (m : Mem) : Option (Int32 × Mem) :=
  if (mI m 1601 0) = 0 then (
    some (0, m))
  else (
    gd (inb ((mI m 1601 0) - 1) 160) <|
    if (aI m 44 (ix ((mI m 1601 0) - 1))) = 6 then (
      if x1 < 0 then (
        some (0, m))
      else (
        gd (inb ((mI m 1601 0) - 1) 160) <|
        if (aI m 48 (ix ((mI m 1601 0) - 1))) ≤ x1 then (
          some (0, m))
        else (
          bp (R_in x2 (-1) 16) fun r7 =>
          if r7 = 0 then (
            some (0, m))
          else (
            gd (inb ((48 * ((mI m 1601 0) - 1)) + x1) 7680) <|
            vb (wI m 49 (ix ((48 * ((mI m 1601 0) - 1)) + x1)) x2) fun m12 =>
            bn (R_changed m12) fun _ m14 =>
            some (1, m14)))))
    else (
      some (0, m)))
