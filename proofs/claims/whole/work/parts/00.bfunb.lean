/-! the methods as functions: written by gen/emit.py -/
set_option maxRecDepth 100000 in
def P_Reckoning_someBindsHolds_37 (k2 : Option Nat → Int32 → Mem → Option (Int32 × Mem)) (x1 : Option Nat) (x2 : Int32) (m : Mem) : Option (Int32 × Mem) :=
  vb (x2 + 1 : Int32) fun v1 =>
  k2 x1 v1 m
set_option maxRecDepth 100000 in
def P_Reckoning_someBindsHolds_2 : Nat → Option Nat → Int32 → Mem → Option (Int32 × Mem)
  | 0, _, _, _ => none
  | n + 1, x1, x2, m =>
  gs x1 fun a1 =>
  gt m a1 11 <|
  gs (mR m 1286 a1) fun a3 =>
  gt m a3 36 <|
  if (Int32.ofNat (mN m a3)) ≤ x2 then (
    some (0, m))
  else (
    gs (mR m 1286 a1) fun a7 =>
    gt m a7 36 <|
    gd (inb x2 (mN m a7)) <|
    gs (aR m a7 (ix x2)) fun a11 =>
    gt m a11 3 <|
    if (mI m 256 a11) = 32 then (
      bn (P_Reckoning_holds (some a11) m) fun r15 m16 =>
      if r15 = 0 then (
        P_Reckoning_someBindsHolds_37 (fun z0 z1 z2 => P_Reckoning_someBindsHolds_2 n z0 z1 z2) (some a1) x2 m16)
      else (
        some (1, m16)))
    else (
      P_Reckoning_someBindsHolds_37 (fun z0 z1 z2 => P_Reckoning_someBindsHolds_2 n z0 z1 z2) (some a1) x2 m))
set_option maxRecDepth 100000 in
def P_Reckoning_someBindsHolds (x1 : Option Nat) (m : Mem) : Option (Int32 × Mem) :=
  P_Reckoning_someBindsHolds_2 FU x1 0 m
set_option maxRecDepth 100000 in
def P_Text_isOver_40 (k2 : Nat → Int32 → Int32 → Mem → Option (Int32 × Mem)) (a0 : Nat) (x1 : Int32) (x2 : Int32) (m : Mem) : Option (Int32 × Mem) :=
  vb (x2 + 1 : Int32) fun v1 =>
  k2 a0 x1 v1 m
set_option maxRecDepth 100000 in
def P_Text_isOver_2 : Nat → Nat → Int32 → Int32 → Mem → Option (Int32 × Mem)
  | 0, _, _, _, _ => none
  | n + 1, a0, x1, x2, m =>
  gs (mR m 1286 a0) fun a1 =>
  gt m a1 36 <|
  if (Int32.ofNat (mN m a1)) ≤ x2 then (
    some (0, m))
  else (
    gs (mR m 1286 a0) fun a5 =>
    gt m a5 36 <|
    gd (inb x2 (mN m a5)) <|
    gs (aR m a5 (ix x2)) fun a9 =>
    gt m a9 3 <|
    if (mI m 256 a9) = 33 then (
      gs (mR m 1286 a0) fun a13 =>
      gt m a13 36 <|
      gd (inb x2 (mN m a13)) <|
      gs (aR m a13 (ix x2)) fun a17 =>
      gt m a17 3 <|
      if (mI m 258 a17) = x1 then (
        some (1, m))
      else (
        P_Text_isOver_40 (fun z0 z1 z2 z3 => P_Text_isOver_2 n z0 z1 z2 z3) a0 x1 x2 m))
    else (
      P_Text_isOver_40 (fun z0 z1 z2 z3 => P_Text_isOver_2 n z0 z1 z2 z3) a0 x1 x2 m))
set_option maxRecDepth 100000 in
def P_Text_isOver (a0 : Nat) (x1 : Int32) (m : Mem) : Option (Int32 × Mem) :=
  P_Text_isOver_2 FU a0 x1 0 m
set_option maxRecDepth 100000 in
def P_Reckoning_isOutdone_55 (k2 : Option Nat → Int32 → Mem → Option (Int32 × Mem)) (x1 : Option Nat) (x2 : Int32) (m : Mem) : Option (Int32 × Mem) :=
  vb (x2 + 1 : Int32) fun v1 =>
  k2 x1 v1 m
set_option maxRecDepth 100000 in
def P_Reckoning_isOutdone_2 : Nat → Option Nat → Int32 → Mem → Option (Int32 × Mem)
  | 0, _, _, _ => none
  | n + 1, x1, x2, m =>
  if (mI m 515 13) ≤ x2 then (
    some (0, m))
  else (
    gd (inb x2 24) <|
    if (aR m 15 (ix x2)) = x1 then (
      P_Reckoning_isOutdone_55 (fun z0 z1 z2 => P_Reckoning_isOutdone_2 n z0 z1 z2) x1 x2 m)
    else (
      gs (aR m 15 (ix x2)) fun a4 =>
      gt m a4 11 <|
      if (mI m 1280 a4) = 0 then (
        if (mI m 1295 a4) = 0 then (
          P_Reckoning_isOutdone_55 (fun z0 z1 z2 => P_Reckoning_isOutdone_2 n z0 z1 z2) x1 x2 m)
        else (
          gs x1 fun a9 =>
          gt m a9 11 <|
          bn (P_Text_isOver a4 (mI m 1282 a9) m) fun r11 m12 =>
          if r11 = 0 then (
            P_Reckoning_isOutdone_55 (fun z0 z1 z2 => P_Reckoning_isOutdone_2 n z0 z1 z2) (some a9) x2 m12)
          else (
            some (1, m12))))
      else (
        P_Reckoning_isOutdone_55 (fun z0 z1 z2 => P_Reckoning_isOutdone_2 n z0 z1 z2) x1 x2 m)))
set_option maxRecDepth 100000 in
def P_Reckoning_isOutdone (x1 : Option Nat) (m : Mem) : Option (Int32 × Mem) :=
  P_Reckoning_isOutdone_2 FU x1 0 m
set_option maxRecDepth 100000 in
def P_Reckoning_lastAgree_55 (k4 : Option Nat → Option Nat → Int32 → Mem → Option (Option Nat × Mem)) (x1 : Option Nat) (x2 : Option Nat) (x3 : Int32) (m : Mem) : Option (Option Nat × Mem) :=
  vb (x3 + 1 : Int32) fun v1 =>
  k4 x1 x2 v1 m
set_option maxRecDepth 100000 in
def P_Reckoning_lastAgree_4 : Nat → Option Nat → Option Nat → Int32 → Mem → Option (Option Nat × Mem)
  | 0, _, _, _, _ => none
  | n + 1, x1, x2, x3, m =>
  if (mI m 515 13) ≤ x3 then (
    some (x2, m))
  else (
    gd (inb x3 24) <|
    gs (aR m 15 (ix x3)) fun a3 =>
    gt m a3 11 <|
    if (mI m 1280 a3) = 3 then (
      if (mR m 1285 a3) = x1 then (
        if (mI m 1295 a3) = 0 then (
          P_Reckoning_lastAgree_55 (fun z0 z1 z2 z3 => P_Reckoning_lastAgree_4 n z0 z1 z2 z3) x1 x2 x3 m)
        else (
          P_Reckoning_lastAgree_55 (fun z0 z1 z2 z3 => P_Reckoning_lastAgree_4 n z0 z1 z2 z3) x1 (some a3) x3 m))
      else (
        P_Reckoning_lastAgree_55 (fun z0 z1 z2 z3 => P_Reckoning_lastAgree_4 n z0 z1 z2 z3) x1 x2 x3 m))
    else (
      P_Reckoning_lastAgree_55 (fun z0 z1 z2 z3 => P_Reckoning_lastAgree_4 n z0 z1 z2 z3) x1 x2 x3 m))
set_option maxRecDepth 100000 in
def P_Reckoning_lastAgree (x1 : Option Nat) (m : Mem) : Option (Option Nat × Mem) :=
  P_Reckoning_lastAgree_4 FU x1 none 0 m
set_option maxRecDepth 100000 in
def P_Reckoning_bind_88 (k9 : Int32 → Int32 → Int32 → Mem → Option (Unit × Mem)) (x1 : Int32) (x3 : Int32) (s0 : Int32) (s1 : Int32) (m : Mem) : Option (Unit × Mem) :=
  vb (s1 + s0 : Int32) fun v1 =>
  vb (x3 + 1 : Int32) fun v2 =>
  k9 x1 v1 v2 m
set_option maxRecDepth 100000 in
def P_Reckoning_bind_87 (k9 : Int32 → Int32 → Int32 → Mem → Option (Unit × Mem)) (x1 : Int32) (x3 : Int32) (s0 : Int32) (m : Mem) : Option (Unit × Mem) :=
  P_Reckoning_bind_88 k9 x1 x3 0 s0 m
set_option maxRecDepth 100000 in
def P_Reckoning_bind_63 (k9 : Int32 → Int32 → Int32 → Mem → Option (Unit × Mem)) (x1 : Int32) (x2 : Int32) (x3 : Int32) (x4 : Option Nat) (s0 : Int32) (s1 : Option Nat) (m : Mem) : Option (Unit × Mem) :=
  gs s1 fun a1 =>
  gt m a1 11 <|
  gz s0 <|
  vb (sI m 1295 a1 s0) fun m4 =>
  gs x4 fun a6 =>
  gt m4 a6 11 <|
  if (mI m4 1295 a6) = 0 then (
    P_Reckoning_bind_87 k9 x1 x3 x2 m4)
  else (
    if (mI m4 1280 a6) = 0 then (
      P_Reckoning_bind_88 k9 x1 x3 1 x2 m4)
    else (
      P_Reckoning_bind_87 k9 x1 x3 x2 m4))
set_option maxRecDepth 100000 in
def P_Reckoning_bind_62 (k9 : Int32 → Int32 → Int32 → Mem → Option (Unit × Mem)) (x1 : Int32) (x2 : Int32) (x3 : Int32) (x4 : Option Nat) (s0 : Option Nat) (m : Mem) : Option (Unit × Mem) :=
  P_Reckoning_bind_63 k9 x1 x2 x3 x4 0 s0 m
set_option maxRecDepth 100000 in
def P_Reckoning_bind_164 (k109 : Int32 → Option Nat → Int32 → Int32 → Mem → Option (Unit × Mem)) (x1 : Int32) (x3 : Option Nat) (x4 : Int32) (x5 : Int32) (m : Mem) : Option (Unit × Mem) :=
  vb (x5 + 1 : Int32) fun v1 =>
  k109 x1 x3 x4 v1 m
set_option maxRecDepth 100000 in
def P_Reckoning_bind_240 (s0 : Option Nat) (s1 : Int32) (m : Mem) : Option (Unit × Mem) :=
  gd (inb s1 48) <|
  go m s0 11 <|
  vb (wR m 35 (ix s1) s0) fun m5 =>
  some ((), m5)
set_option maxRecDepth 100000 in
def P_Reckoning_bind_211 (x1 : Int32) (s0 : Option Nat) (s1 : Int32) (m : Mem) : Option (Unit × Mem) :=
  gd (inb s1 48) <|
  go m s0 11 <|
  vb (wR m 33 (ix s1) s0) fun m5 =>
  gd (inb x1 48) <|
  if (aR m5 33 (ix x1)) = none then (
    P_Reckoning_bind_240 none x1 m5)
  else (
    gd (inb x1 48) <|
    bn (P_Reckoning_lastAgree (aR m5 33 (ix x1)) m5) fun r9 m10 =>
    P_Reckoning_bind_240 r9 x1 m10)
set_option maxRecDepth 100000 in
def P_Reckoning_bind_194 (x1 : Int32) (x3 : Option Nat) (x4 : Int32) (s0 : Int32) (s1 : Int32) (m : Mem) : Option (Unit × Mem) :=
  gd (inb s1 48) <|
  vb (wI m 32 (ix s1) s0) fun m4 =>
  if x4 = 1 then (
    P_Reckoning_bind_211 x1 x3 x1 m4)
  else (
    P_Reckoning_bind_211 x1 none x1 m4)
set_option maxRecDepth 100000 in
def P_Reckoning_bind_192 (x1 : Int32) (x3 : Option Nat) (x4 : Int32) (s0 : Int32) (m : Mem) : Option (Unit × Mem) :=
  P_Reckoning_bind_194 x1 x3 x4 (-2) s0 m
set_option maxRecDepth 100000 in
def P_Reckoning_bind_170 (x1 : Int32) (x3 : Option Nat) (x4 : Int32) (m : Mem) : Option (Unit × Mem) :=
  if x4 = 1 then (
    if x3 = none then (
      P_Reckoning_bind_192 x1 x3 x4 x1 m)
    else (
      gs x3 fun a3 =>
      gt m a3 11 <|
      P_Reckoning_bind_194 x1 (some a3) x4 (mI m 1281 a3) x1 m))
  else (
    P_Reckoning_bind_192 x1 x3 x4 x1 m)
set_option maxRecDepth 100000 in
def P_Reckoning_bind_109 : Nat → Int32 → Option Nat → Int32 → Int32 → Mem → Option (Unit × Mem)
  | 0, _, _, _, _, _ => none
  | n + 1, x1, x3, x4, x5, m =>
  if (mI m 515 13) ≤ x5 then (
    P_Reckoning_bind_170 x1 x3 x4 m)
  else (
    gd (inb x5 24) <|
    gs (aR m 15 (ix x5)) fun a3 =>
    gt m a3 11 <|
    if (mI m 1280 a3) = 0 then (
      if (mI m 1295 a3) = 0 then (
        P_Reckoning_bind_164 (fun z0 z1 z2 z3 z4 => P_Reckoning_bind_109 n z0 z1 z2 z3 z4) x1 x3 x4 x5 m)
      else (
        bn (P_Reckoning_isOutdone (some a3) m) fun r8 m9 =>
        if r8 = 0 then (
          vb (x4 + 1 : Int32) fun v13 =>
          P_Reckoning_bind_164 (fun z0 z1 z2 z3 z4 => P_Reckoning_bind_109 n z0 z1 z2 z3 z4) x1 (some a3) v13 x5 m9)
        else (
          P_Reckoning_bind_164 (fun z0 z1 z2 z3 z4 => P_Reckoning_bind_109 n z0 z1 z2 z3 z4) x1 x3 x4 x5 m9)))
    else (
      P_Reckoning_bind_164 (fun z0 z1 z2 z3 z4 => P_Reckoning_bind_109 n z0 z1 z2 z3 z4) x1 x3 x4 x5 m))
set_option maxRecDepth 100000 in
def P_Reckoning_bind_96 (x1 : Int32) (x2 : Int32) (m : Mem) : Option (Unit × Mem) :=
  if x2 = 0 then (
    some ((), m))
  else (
    P_Reckoning_bind_109 FU x1 none 0 0 m)
set_option maxRecDepth 100000 in
def P_Reckoning_bind_9 : Nat → Int32 → Int32 → Int32 → Mem → Option (Unit × Mem)
  | 0, _, _, _, _ => none
  | n + 1, x1, x2, x3, m =>
  if (mI m 515 13) ≤ x3 then (
    P_Reckoning_bind_96 x1 x2 m)
  else (
    gd (inb x3 24) <|
    gs (aR m 15 (ix x3)) fun a3 =>
    gt m a3 11 <|
    bn (P_Text_changesAward a3 m) fun r6 m7 =>
    if r6 = 0 then (
      gt m7 a3 11 <|
      if (mI m7 1287 a3) = 0 then (
        P_Reckoning_bind_62 (fun z0 z1 z2 z3 => P_Reckoning_bind_9 n z0 z1 z2 z3) x1 x2 x3 (some a3) (some a3) m7)
      else (
        bn (P_Reckoning_someBindsHolds (some a3) m7) fun r12 m13 =>
        if r12 = 0 then (
          P_Reckoning_bind_62 (fun z0 z1 z2 z3 => P_Reckoning_bind_9 n z0 z1 z2 z3) x1 x2 x3 (some a3) (some a3) m13)
        else (
          P_Reckoning_bind_63 (fun z0 z1 z2 z3 => P_Reckoning_bind_9 n z0 z1 z2 z3) x1 x2 x3 (some a3) 1 (some a3) m13)))
    else (
      P_Reckoning_bind_62 (fun z0 z1 z2 z3 => P_Reckoning_bind_9 n z0 z1 z2 z3) x1 x2 x3 (some a3) (some a3) m7))
set_option maxRecDepth 100000 in
def P_Reckoning_bind (x1 : Int32) (m : Mem) : Option (Unit × Mem) :=
  bn (P_Reckoning_lookAt x1 m) fun _ m2 =>
  P_Reckoning_bind_9 FU x1 0 0 m2
set_option maxRecDepth 100000 in
def P_Text_firstClass_43 (k2 : Nat → Int32 → Int32 → Mem → Option (Int32 × Mem)) (a0 : Nat) (x1 : Int32) (x2 : Int32) (m : Mem) : Option (Int32 × Mem) :=
  vb (x2 + 1 : Int32) fun v1 =>
  k2 a0 x1 v1 m
set_option maxRecDepth 100000 in
def P_Text_firstClass_2 : Nat → Nat → Int32 → Int32 → Mem → Option (Int32 × Mem)
  | 0, _, _, _, _ => none
  | n + 1, a0, x1, x2, m =>
  if (mI m 1292 a0) ≤ x2 then (
    some ((-1), m))
  else (
    gs (mR m 1288 a0) fun a2 =>
    gt m a2 36 <|
    gd (inb x2 (mN m a2)) <|
    gs (aR m a2 (ix x2)) fun a6 =>
    gt m a6 3 <|
    if (mI m 256 a6) = 34 then (
      gs (mR m 1288 a0) fun a10 =>
      gt m a10 36 <|
      gd (inb x2 (mN m a10)) <|
      gs (aR m a10 (ix x2)) fun a14 =>
      gt m a14 3 <|
      if (((mI m 259 a14) >>> (x1 &&& 31)) &&& 1) = 1 then (
        some (x2, m))
      else (
        P_Text_firstClass_43 (fun z0 z1 z2 z3 => P_Text_firstClass_2 n z0 z1 z2 z3) a0 x1 x2 m))
    else (
      P_Text_firstClass_43 (fun z0 z1 z2 z3 => P_Text_firstClass_2 n z0 z1 z2 z3) a0 x1 x2 m))
set_option maxRecDepth 100000 in
def P_Text_firstClass (a0 : Nat) (x1 : Int32) (m : Mem) : Option (Int32 × Mem) :=
  P_Text_firstClass_2 FU a0 x1 0 m
set_option maxRecDepth 100000 in
def P_Reckoning_chosenClass_49 (k15 : Option Nat → Option Nat → Option Nat → Option Nat → Int32 → Mem → Option (Int32 × Mem)) (x1 : Option Nat) (x2 : Option Nat) (x3 : Option Nat) (x4 : Option Nat) (x5 : Int32) (m : Mem) : Option (Int32 × Mem) :=
  vb (x5 + 1 : Int32) fun v1 =>
  k15 x1 x2 x3 x4 v1 m
set_option maxRecDepth 100000 in
def P_Reckoning_chosenClass_149 (k67 : Option Nat → Option Nat → Int32 → Int32 → Int32 → Int32 → Mem → Option (Int32 × Mem)) (x1 : Option Nat) (x4 : Option Nat) (x5 : Int32) (x6 : Int32) (x7 : Int32) (x8 : Int32) (m : Mem) : Option (Int32 × Mem) :=
  vb (x8 + 1 : Int32) fun v1 =>
  k67 x1 x4 x5 x6 x7 v1 m
set_option maxRecDepth 100000 in
def P_Reckoning_chosenClass_137 (k67 : Option Nat → Option Nat → Int32 → Int32 → Int32 → Int32 → Mem → Option (Int32 × Mem)) (x1 : Option Nat) (x4 : Option Nat) (x8 : Int32) (x9 : Int32) (x10 : Int32) (m : Mem) : Option (Int32 × Mem) :=
  P_Reckoning_chosenClass_149 k67 x1 x4 x8 x9 x10 x8 m
set_option maxRecDepth 100000 in
def P_Reckoning_chosenClass_102 (k67 : Option Nat → Option Nat → Int32 → Int32 → Int32 → Int32 → Mem → Option (Int32 × Mem)) (x1 : Option Nat) (x4 : Option Nat) (x5 : Int32) (x6 : Int32) (x7 : Int32) (x8 : Int32) (s0 : Int32) (m : Mem) : Option (Int32 × Mem) :=
  bn (P_Scene_marginOf x1 x8 m) fun r1 m2 =>
  if x6 < s0 then (
    P_Reckoning_chosenClass_137 k67 x1 x4 x8 s0 r1 m2)
  else (
    if s0 = x6 then (
      if r1 ≤ x7 then (
        P_Reckoning_chosenClass_149 k67 x1 x4 x5 x6 x7 x8 m2)
      else (
        P_Reckoning_chosenClass_137 k67 x1 x4 x8 s0 r1 m2))
    else (
      P_Reckoning_chosenClass_149 k67 x1 x4 x5 x6 x7 x8 m2))
set_option maxRecDepth 100000 in
def P_Reckoning_chosenClass_67 : Nat → Option Nat → Option Nat → Int32 → Int32 → Int32 → Int32 → Mem → Option (Int32 × Mem)
  | 0, _, _, _, _, _, _, _ => none
  | n + 1, x1, x4, x5, x6, x7, x8, m =>
  gs x1 fun a1 =>
  gt m a1 11 <|
  if (mI m 1292 a1) ≤ x8 then (
    some (x5, m))
  else (
    gs x4 fun a4 =>
    gt m a4 32 <|
    gd (inb x8 (mN m a4)) <|
    if (aI m a4 (ix x8)) ≤ 0 then (
      P_Reckoning_chosenClass_149 (fun z0 z1 z2 z3 z4 z5 z6 => P_Reckoning_chosenClass_67 n z0 z1 z2 z3 z4 z5 z6) (some a1) (some a4) x5 x6 x7 x8 m)
    else (
      if (mI m 1293 a1) = 52 then (
        gd (inb x8 (mN m a4)) <|
        P_Reckoning_chosenClass_102 (fun z0 z1 z2 z3 z4 z5 z6 => P_Reckoning_chosenClass_67 n z0 z1 z2 z3 z4 z5 z6) (some a1) (some a4) x5 x6 x7 x8 (aI m a4 (ix x8)) m)
      else (
        P_Reckoning_chosenClass_102 (fun z0 z1 z2 z3 z4 z5 z6 => P_Reckoning_chosenClass_67 n z0 z1 z2 z3 z4 z5 z6) (some a1) (some a4) x5 x6 x7 x8 1 m)))
set_option maxRecDepth 100000 in
def P_Reckoning_chosenClass_55 (x1 : Option Nat) (x4 : Option Nat) (m : Mem) : Option (Int32 × Mem) :=
  P_Reckoning_chosenClass_67 FU x1 x4 (-1) 0 0 0 m
set_option maxRecDepth 100000 in
def P_Reckoning_chosenClass_15 : Nat → Option Nat → Option Nat → Option Nat → Option Nat → Int32 → Mem → Option (Int32 × Mem)
  | 0, _, _, _, _, _, _ => none
  | n + 1, x1, x2, x3, x4, x5, m =>
  if 48 ≤ x5 then (
    P_Reckoning_chosenClass_55 x1 x4 m)
  else (
    gs x2 fun a2 =>
    gt m a2 37 <|
    gd (inb x5 (mN m a2)) <|
    if (aR m a2 (ix x5)) = x1 then (
      gs x3 fun a6 =>
      gt m a6 32 <|
      gd (inb x5 (mN m a6)) <|
      if (aI m a6 (ix x5)) = (-1) then (
        P_Reckoning_chosenClass_49 (fun z0 z1 z2 z3 z4 z5 => P_Reckoning_chosenClass_15 n z0 z1 z2 z3 z4 z5) x1 (some a2) (some a6) x4 x5 m)
      else (
        gs x4 fun a10 =>
        gd (inb x5 (mN m a6)) <|
        gt m a10 32 <|
        gd (inb (aI m a6 (ix x5)) (mN m a10)) <|
        gd (inb (aI m a6 (ix x5)) (mN m a10)) <|
        vb (wI m a10 (ix (aI m a6 (ix x5))) ((aI m a10 (ix (aI m a6 (ix x5)))) + 1)) fun m15 =>
        P_Reckoning_chosenClass_49 (fun z0 z1 z2 z3 z4 z5 => P_Reckoning_chosenClass_15 n z0 z1 z2 z3 z4 z5) x1 (some a2) (some a6) (some a10) x5 m15))
    else (
      P_Reckoning_chosenClass_49 (fun z0 z1 z2 z3 z4 z5 => P_Reckoning_chosenClass_15 n z0 z1 z2 z3 z4 z5) x1 (some a2) x3 x4 x5 m))
set_option maxRecDepth 100000 in
def P_Reckoning_chosenClass (x1 : Option Nat) (x2 : Option Nat) (x3 : Option Nat) (m : Mem) : Option (Int32 × Mem) :=
  gs x1 fun a1 =>
  gt m a1 11 <|
  bn (J_fill (mR m 1291 a1) 0 m) fun _ m4 =>
  P_Reckoning_chosenClass_15 FU (some a1) x2 x3 (mR m 1291 a1) 0 m4
set_option maxRecDepth 100000 in
def P_Reckoning_findClasses_32 (k2 : Option Nat → Option Nat → Int32 → Mem → Option (Unit × Mem)) (x1 : Option Nat) (x2 : Option Nat) (x3 : Int32) (s0 : Int32) (s1 : Int32) (s2 : Option Nat) (m : Mem) : Option (Unit × Mem) :=
  gs s2 fun a1 =>
  gt m a1 32 <|
  gd (inb s1 (mN m a1)) <|
  vb (wI m a1 (ix s1) s0) fun m4 =>
  vb (x3 + 1 : Int32) fun v6 =>
  k2 x1 x2 v6 m4
set_option maxRecDepth 100000 in
def P_Reckoning_findClasses_124 (k41 : Option Nat → Option Nat → Int32 → Mem → Option (Unit × Mem)) (k94 : Option Nat → Option Nat → Int32 → Option Nat → Int32 → Int32 → Mem → Option (Unit × Mem)) (x1 : Option Nat) (x2 : Option Nat) (x3 : Int32) (x4 : Option Nat) (x5 : Int32) (x6 : Int32) (m : Mem) : Option (Unit × Mem) :=
  vb (x6 + 1 : Int32) fun v1 =>
  k94 x1 x2 x3 x4 x5 v1 m
set_option maxRecDepth 100000 in
def P_Reckoning_findClasses_130 (k41 : Option Nat → Option Nat → Int32 → Mem → Option (Unit × Mem)) (x1 : Option Nat) (x2 : Option Nat) (x3 : Int32) (m : Mem) : Option (Unit × Mem) :=
  vb (x3 + 1 : Int32) fun v1 =>
  k41 x1 x2 v1 m
set_option maxRecDepth 100000 in
def P_Reckoning_findClasses_94 (k41 : Option Nat → Option Nat → Int32 → Mem → Option (Unit × Mem)) : Nat → Option Nat → Option Nat → Int32 → Option Nat → Int32 → Int32 → Mem → Option (Unit × Mem)
  | 0, _, _, _, _, _, _, _ => none
  | n + 1, x1, x2, x3, x4, x5, x6, m =>
  if 48 ≤ x6 then (
    P_Reckoning_findClasses_130 k41 x1 x2 x3 m)
  else (
    gs x1 fun a2 =>
    gt m a2 37 <|
    gd (inb x6 (mN m a2)) <|
    if (aR m a2 (ix x6)) = x4 then (
      gs x2 fun a6 =>
      gt m a6 32 <|
      gd (inb x6 (mN m a6)) <|
      if (aI m a6 (ix x6)) = (-1) then (
        P_Reckoning_findClasses_124 k41 (fun z0 z1 z2 z3 z4 z5 z6 => P_Reckoning_findClasses_94 k41 n z0 z1 z2 z3 z4 z5 z6) (some a2) (some a6) x3 x4 x5 x6 m)
      else (
        gd (inb x6 (mN m a6)) <|
        vb (wI m a6 (ix x6) x5) fun m11 =>
        P_Reckoning_findClasses_124 k41 (fun z0 z1 z2 z3 z4 z5 z6 => P_Reckoning_findClasses_94 k41 n z0 z1 z2 z3 z4 z5 z6) (some a2) (some a6) x3 x4 x5 x6 m11))
    else (
      P_Reckoning_findClasses_124 k41 (fun z0 z1 z2 z3 z4 z5 z6 => P_Reckoning_findClasses_94 k41 n z0 z1 z2 z3 z4 z5 z6) (some a2) x2 x3 x4 x5 x6 m))
set_option maxRecDepth 100000 in
def P_Reckoning_findClasses_41 : Nat → Option Nat → Option Nat → Int32 → Mem → Option (Unit × Mem)
  | 0, _, _, _, _ => none
  | n + 1, x1, x2, x3, m =>
  if (mI m 515 13) ≤ x3 then (
    some ((), m))
  else (
    gd (inb x3 24) <|
    gs (aR m 15 (ix x3)) fun a3 =>
    gt m a3 11 <|
    if (mI m 1287 a3) = 0 then (
      P_Reckoning_findClasses_130 (fun z0 z1 z2 z3 => P_Reckoning_findClasses_41 n z0 z1 z2 z3) x1 x2 x3 m)
    else (
      if (mI m 1293 a3) = 51 then (
        P_Reckoning_findClasses_130 (fun z0 z1 z2 z3 => P_Reckoning_findClasses_41 n z0 z1 z2 z3) x1 x2 x3 m)
      else (
        bn (P_Reckoning_chosenClass (some a3) x1 x2 m) fun r8 m9 =>
        P_Reckoning_findClasses_94 (fun z0 z1 z2 z3 => P_Reckoning_findClasses_41 n z0 z1 z2 z3) FU x1 x2 x3 (some a3) r8 0 m9)))
set_option maxRecDepth 100000 in
def P_Reckoning_findClasses_39 (x1 : Option Nat) (x2 : Option Nat) (m : Mem) : Option (Unit × Mem) :=
  P_Reckoning_findClasses_41 FU x1 x2 0 m
set_option maxRecDepth 100000 in
def P_Reckoning_findClasses_2 : Nat → Option Nat → Option Nat → Int32 → Mem → Option (Unit × Mem)
  | 0, _, _, _, _ => none
  | n + 1, x1, x2, x3, m =>
  if 48 ≤ x3 then (
    P_Reckoning_findClasses_39 x1 x2 m)
  else (
    gs x1 fun a2 =>
    gt m a2 37 <|
    gd (inb x3 (mN m a2)) <|
    if (aR m a2 (ix x3)) = none then (
      P_Reckoning_findClasses_32 (fun z0 z1 z2 z3 => P_Reckoning_findClasses_2 n z0 z1 z2 z3) (some a2) x2 x3 (-1) x3 x2 m)
    else (
      gd (inb x3 (mN m a2)) <|
      gs (aR m a2 (ix x3)) fun a7 =>
      gd (inb x3 48) <|
      gt m a7 11 <|
      bn (P_Text_firstClass a7 (aI m 30 (ix x3)) m) fun r11 m12 =>
      P_Reckoning_findClasses_32 (fun z0 z1 z2 z3 => P_Reckoning_findClasses_2 n z0 z1 z2 z3) (some a2) x2 x3 r11 x3 x2 m12))
set_option maxRecDepth 100000 in
def P_Reckoning_findClasses (x1 : Option Nat) (x2 : Option Nat) (m : Mem) : Option (Unit × Mem) :=
  P_Reckoning_findClasses_2 FU x1 x2 0 m
set_option maxRecDepth 100000 in
def P_Scene_basket (m : Mem) : Option (Int32 × Mem) :=
  gd (inb 0 12) <|
  some (aI m 27 (ix 0), m)
set_option maxRecDepth 100000 in
def P_Reckoning_worthBy_244 (k70 : Option Nat → Int32 → Int32 → Int64 → Int32 → Mem → Option (Int32 × Mem)) (x1 : Option Nat) (x4 : Int32) (x5 : Int32) (x6 : Int64) (x8 : Int32) (m : Mem) : Option (Int32 × Mem) :=
  vb (x8 + 1 : Int32) fun v1 =>
  k70 x1 x4 x5 x6 v1 m
set_option maxRecDepth 100000 in
def P_Reckoning_worthBy_207 (k70 : Option Nat → Int32 → Int32 → Int64 → Int32 → Mem → Option (Int32 × Mem)) (x1 : Option Nat) (x4 : Int32) (x6 : Int64) (x8 : Int32) (x9 : Option Nat) (s0 : Int32) (s1 : Int32) (m : Mem) : Option (Int32 × Mem) :=
  vb (s1 + s0 : Int32) fun v1 =>
  gs x9 fun a2 =>
  gt m a2 3 <|
  vb (x6 ||| (mL m 264 a2) : Int64) fun v4 =>
  gd (inb (mI m 1043 28) 60) <|
  vb (wI m 40 (ix (mI m 1043 28)) (mI m 258 a2)) fun m8 =>
  vb (sI m8 1043 28 ((mI m8 1043 28) + 1)) fun m11 =>
  P_Reckoning_worthBy_244 k70 x1 x4 v1 v4 x8 m11
set_option maxRecDepth 100000 in
def P_Reckoning_worthBy_179 (k70 : Option Nat → Int32 → Int32 → Int64 → Int32 → Mem → Option (Int32 × Mem)) (x1 : Option Nat) (x5 : Int32) (x6 : Int64) (x8 : Int32) (x9 : Option Nat) (x10 : Int32) (s0 : Int32) (s1 : Int32) (m : Mem) : Option (Int32 × Mem) :=
  vb (s1 + s0 : Int32) fun v1 =>
  gs x9 fun a2 =>
  gt m a2 3 <|
  if (mI m 256 a2) = 37 then (
    bp (P_held x10 0 999) fun r5 =>
    P_Reckoning_worthBy_207 k70 x1 v1 x6 x8 (some a2) r5 x5 m)
  else (
    P_Reckoning_worthBy_207 k70 x1 v1 x6 x8 (some a2) 0 x5 m)
set_option maxRecDepth 100000 in
def P_Reckoning_worthBy_131 (k70 : Option Nat → Int32 → Int32 → Int64 → Int32 → Mem → Option (Int32 × Mem)) (x1 : Option Nat) (x4 : Int32) (x5 : Int32) (x6 : Int64) (x8 : Int32) (x9 : Option Nat) (m : Mem) : Option (Int32 × Mem) :=
  gs x9 fun a1 =>
  gt m a1 3 <|
  bn (P_Formula_result (mR m 262 a1) (some 39) 0 m) fun r3 m4 =>
  gt m4 a1 3 <|
  if (mI m4 256 a1) = 36 then (
    bp (P_held r3 (-100) 400) fun r9 =>
    P_Reckoning_worthBy_179 k70 x1 x5 x6 x8 (some a1) r3 r9 x4 m4)
  else (
    P_Reckoning_worthBy_179 k70 x1 x5 x6 x8 (some a1) r3 0 x4 m4)
set_option maxRecDepth 100000 in
def P_Reckoning_worthBy_250 (x4 : Int32) (x5 : Int32) (m : Mem) : Option (Int32 × Mem) :=
  bp (P_held x4 0 1000) fun r1 =>
  some (((mI m 1041 28) * r1) + (200 * (jmin x5 9999)), m)
set_option maxRecDepth 100000 in
def P_Reckoning_worthBy_70 : Nat → Option Nat → Int32 → Int32 → Int64 → Int32 → Mem → Option (Int32 × Mem)
  | 0, _, _, _, _, _, _ => none
  | n + 1, x1, x4, x5, x6, x8, m =>
  gs x1 fun a1 =>
  gt m a1 11 <|
  if (mI m 1292 a1) ≤ x8 then (
    P_Reckoning_worthBy_250 x4 x5 m)
  else (
    gs (mR m 1288 a1) fun a4 =>
    gt m a4 36 <|
    gd (inb x8 (mN m a4)) <|
    gs (aR m a4 (ix x8)) fun a8 =>
    gt m a8 3 <|
    if (mI m 256 a8) = 34 then (
      P_Reckoning_worthBy_244 (fun z0 z1 z2 z3 z4 z5 => P_Reckoning_worthBy_70 n z0 z1 z2 z3 z4 z5) (some a1) x4 x5 x6 x8 m)
    else (
      if (lg_cmp ((x6 >>> (Int32.toInt64 (mI m 258 a8) &&& 63)) &&& 1) 0) = 0 then (
        gs (mR m 263 a8) fun a13 =>
        gt m a13 32 <|
        if (Int32.ofNat (mN m a13)) = 0 then (
          P_Reckoning_worthBy_131 (fun z0 z1 z2 z3 z4 z5 => P_Reckoning_worthBy_70 n z0 z1 z2 z3 z4 z5) (some a1) x4 x5 x6 x8 (some a8) m)
        else (
          bn (P_Reckoning_holds (some a8) m) fun r17 m18 =>
          if r17 = 0 then (
            P_Reckoning_worthBy_244 (fun z0 z1 z2 z3 z4 z5 => P_Reckoning_worthBy_70 n z0 z1 z2 z3 z4 z5) (some a1) x4 x5 x6 x8 m18)
          else (
            P_Reckoning_worthBy_131 (fun z0 z1 z2 z3 z4 z5 => P_Reckoning_worthBy_70 n z0 z1 z2 z3 z4 z5) (some a1) x4 x5 x6 x8 (some a8) m18)))
      else (
        P_Reckoning_worthBy_244 (fun z0 z1 z2 z3 z4 z5 => P_Reckoning_worthBy_70 n z0 z1 z2 z3 z4 z5) (some a1) x4 x5 x6 x8 m)))
set_option maxRecDepth 100000 in
def P_Reckoning_worthBy (x1 : Option Nat) (x2 : Int32) (x3 : Int32) (m : Mem) : Option (Int32 × Mem) :=
  vb (sI m 1043 28 0) fun m2 =>
  if x1 = none then (
    some (0, m2))
  else (
    if x2 = (-1) then (
      some (0, m2))
    else (
      bn (P_Reckoning_lookAt x3 m2) fun _ m6 =>
      bn (P_Scene_basket m6) fun r9 m10 =>
      bn (P_Scene_marginOf x1 x2 m10) fun r13 m14 =>
      vb (sI m14 1041 28 (jmax 0 (r9 + r13))) fun m18 =>
      gd (inb 11 12) <|
      vb (wI m18 39 (ix 11) (mI m18 1041 28)) fun m22 =>
      P_Reckoning_worthBy_70 FU x1 100 0 0 0 m22))
set_option maxRecDepth 100000 in
def P_Reckoning_findPayer_81 (s0 : Option Nat) (s1 : Int32) (m : Mem) : Option (Unit × Mem) :=
  gd (inb s1 48) <|
  go m s0 11 <|
  vb (wR m 37 (ix s1) s0) fun m5 =>
  some ((), m5)
set_option maxRecDepth 100000 in
def P_Reckoning_findPayer (x1 : Int32) (m : Mem) : Option (Unit × Mem) :=
  gd (inb x1 48) <|
  gd (inb x1 48) <|
  bn (P_Reckoning_worthBy (aR m 33 (ix x1)) (aI m 34 (ix x1)) x1 m) fun r3 m4 =>
  gd (inb x1 48) <|
  gd (inb x1 48) <|
  bn (P_Reckoning_worthBy (aR m4 35 (ix x1)) (aI m4 36 (ix x1)) x1 m4) fun r9 m10 =>
  gd (inb x1 48) <|
  vb (wI m10 38 (ix x1) (jmax r3 r9)) fun m16 =>
  gd (inb x1 48) <|
  if (aI m16 38 (ix x1)) ≤ 0 then (
    some ((), m16))
  else (
    if r9 ≤ r3 then (
      gd (inb x1 48) <|
      P_Reckoning_findPayer_81 (aR m16 33 (ix x1)) x1 m16)
    else (
      gd (inb x1 48) <|
      P_Reckoning_findPayer_81 (aR m16 35 (ix x1)) x1 m16))
set_option maxRecDepth 100000 in
def P_Reckoning_reckon_168 (k142 : Int32 → Mem → Option (Unit × Mem)) (x4 : Int32) (m : Mem) : Option (Unit × Mem) :=
  vb (x4 + 1 : Int32) fun v1 =>
  k142 v1 m
set_option maxRecDepth 100000 in
def P_Reckoning_reckon_224 (k201 : Int32 → Mem → Option (Unit × Mem)) (x4 : Int32) (m : Mem) : Option (Unit × Mem) :=
  vb (x4 + 1 : Int32) fun v1 =>
  k201 v1 m
set_option maxRecDepth 100000 in
def P_Reckoning_reckon_201 : Nat → Int32 → Mem → Option (Unit × Mem)
  | 0, _, _ => none
  | n + 1, x4, m =>
  if 48 ≤ x4 then (
    some ((), m))
  else (
    gd (inb x4 48) <|
    if (aR m 33 (ix x4)) = none then (
      P_Reckoning_reckon_224 (fun z0 z1 => P_Reckoning_reckon_201 n z0 z1) x4 m)
    else (
      bn (P_Reckoning_findPayer x4 m) fun _ m5 =>
      P_Reckoning_reckon_224 (fun z0 z1 => P_Reckoning_reckon_201 n z0 z1) x4 m5))
set_option maxRecDepth 100000 in
def P_Reckoning_reckon_174 (m : Mem) : Option (Unit × Mem) :=
  bn (P_Reckoning_findClasses (some 33) (some 34) m) fun _ m2 =>
  bn (P_Reckoning_findClasses (some 35) (some 36) m2) fun _ m6 =>
  P_Reckoning_reckon_201 FU 0 m6
set_option maxRecDepth 100000 in
def P_Reckoning_reckon_142 : Nat → Int32 → Mem → Option (Unit × Mem)
  | 0, _, _ => none
  | n + 1, x4, m =>
  if 48 ≤ x4 then (
    P_Reckoning_reckon_174 m)
  else (
    gd (inb x4 48) <|
    bp (P_isTask (aI m 30 (ix x4))) fun r3 =>
    if r3 = 0 then (
      P_Reckoning_reckon_168 (fun z0 z1 => P_Reckoning_reckon_142 n z0 z1) x4 m)
    else (
      bn (P_Reckoning_bind x4 m) fun _ m6 =>
      P_Reckoning_reckon_168 (fun z0 z1 => P_Reckoning_reckon_142 n z0 z1) x4 m6))
set_option maxRecDepth 100000 in
def P_Reckoning_reckon_32 (x1 : Int32) (m : Mem) : Option (Unit × Mem) :=
  bn (P_Reckoning_takeTasks x1 m) fun _ m2 =>
  bn (P_Reckoning_tasksOn x1 m2) fun r5 m6 =>
  if r5 = 0 then (
    some ((), m6))
  else (
    gd (inb (mI m6 1026 28) 10) <|
    vb (aI m6 8 (ix (mI m6 1026 28)) : Int32) fun v11 =>
    vb (((mI m6 1027 28) * 7) + x1 : Int32) fun v12 =>
    gd (inb (mI m6 1026 28) 10) <|
    bn (P_Scene_open v11 v12 (mI m6 1028 28) (aI m6 10 (ix (mI m6 1026 28))) m6) fun _ m15 =>
    bn (P_Scene_copyVars (some 39) m15) fun _ m19 =>
    gd (inb 6 12) <|
    vb (wI m19 39 (ix 6) x1) fun m25 =>
    bn (P_Ledger_lastWet v11 v12 (mI m25 1028 28) m25) fun r26 m27 =>
    gd (inb 10 12) <|
    vb (wI m27 39 (ix 10) r26) fun m33 =>
    P_Reckoning_reckon_142 FU 0 m33)
set_option maxRecDepth 100000 in
def P_Reckoning_reckon_7 : Nat → Int32 → Int32 → Mem → Option (Unit × Mem)
  | 0, _, _, _ => none
  | n + 1, x1, x2, m =>
  if x1 ≤ x2 then (
    P_Reckoning_reckon_32 x1 m)
  else (
    bn (P_Reckoning_tasksOn x2 m) fun r2 m3 =>
    vb (sI m3 1032 28 ((mI m 1032 28) + r2)) fun m7 =>
    vb (x2 + 1 : Int32) fun v8 =>
    P_Reckoning_reckon_7 n x1 v8 m7)
set_option maxRecDepth 100000 in
def P_Reckoning_reckon (x1 : Int32) (m : Mem) : Option (Unit × Mem) :=
  vb (sI m 1032 28 0) fun m2 =>
  P_Reckoning_reckon_7 FU x1 0 m2
set_option maxRecDepth 100000 in
def P_reckoned (x1 : Int32) (x2 : Int32) (x3 : Int32) (x4 : Int32) (m : Mem) : Option (Int32 × Mem) :=
  bn (P_isHalfOf x1 x2 x3 x4 m) fun r1 m2 =>
  if r1 = 0 then (
    some (0, m2))
  else (
    bn (P_Reckoning_load x1 (x2 / 7) x4 m2) fun _ m7 =>
    bn (P_Reckoning_reckon (x2 - x2 / 7 * 7) m7) fun _ m11 =>
    some (1, m11))
set_option maxRecDepth 100000 in
def P_bound (x1 : Int32) (x2 : Int32) (x3 : Int32) (x4 : Int32) (m : Mem) : Option (Int32 × Mem) :=
  bn (P_reckoned x1 x2 x3 x4 m) fun r1 m2 =>
  if r1 = 0 then (
    some ((-1), m2))
  else (
    gd (inb x3 48) <|
    some (aI m2 32 (ix x3), m2))
set_option maxRecDepth 100000 in
def P_classed (x1 : Int32) (x2 : Int32) (x3 : Int32) (x4 : Int32) (m : Mem) : Option (Int32 × Mem) :=
  bn (P_reckoned x1 x2 x3 x4 m) fun r1 m2 =>
  if r1 = 0 then (
    some ((-1), m2))
  else (
    gd (inb x3 48) <|
    gd (inb x3 48) <|
    vb (aI m2 34 (ix x3) : Int32) fun v8 =>
    if (aR m2 33 (ix x3)) = none then (
      some ((-1), m2))
    else (
      if v8 = (-1) then (
        some ((-1), m2))
      else (
        gs (aR m2 33 (ix x3)) fun a11 =>
        gt m2 a11 11 <|
        gs (mR m2 1288 a11) fun a14 =>
        gt m2 a14 36 <|
        gd (inb v8 (mN m2 a14)) <|
        gs (aR m2 a14 (ix v8)) fun a18 =>
        gt m2 a18 3 <|
        some (mI m2 258 a18, m2))))
set_option maxRecDepth 100000 in
def J_bitCount (x0 : Int32) : Option (Int32) :=
  vb (x0 - (((Int32.toUInt32 x0 >>> (Int32.toUInt32 1 &&& Int32.toUInt32 31)).toInt32) &&& 1431655765) : Int32) fun v1 =>
  vb ((v1 &&& 858993459) + (((Int32.toUInt32 v1 >>> (Int32.toUInt32 2 &&& Int32.toUInt32 31)).toInt32) &&& 858993459) : Int32) fun v2 =>
  vb ((v2 + ((Int32.toUInt32 v2 >>> (Int32.toUInt32 4 &&& Int32.toUInt32 31)).toInt32)) &&& 252645135 : Int32) fun v3 =>
  vb (v3 + ((Int32.toUInt32 v3 >>> (Int32.toUInt32 8 &&& Int32.toUInt32 31)).toInt32) : Int32) fun v4 =>
  vb (v4 + ((Int32.toUInt32 v4 >>> (Int32.toUInt32 16 &&& Int32.toUInt32 31)).toInt32) : Int32) fun v5 =>
  some (v5 &&& 63)
set_option maxRecDepth 100000 in
def P_Text_nearestClass_119 (k8 : Nat → Int32 → Option Nat → Int32 → Int32 → Int32 → Mem → Option (Int32 × Mem)) (k20 : Nat → Int32 → Option Nat → Int32 → Int32 → Int32 → Int32 → Mem → Option (Int32 × Mem)) (a0 : Nat) (x1 : Int32) (x2 : Option Nat) (x3 : Int32) (x4 : Int32) (x5 : Int32) (x6 : Int32) (m : Mem) : Option (Int32 × Mem) :=
  vb (x6 + 1 : Int32) fun v1 =>
  k20 a0 x1 x2 x3 x4 x5 v1 m
set_option maxRecDepth 100000 in
def P_Text_nearestClass_95 (k8 : Nat → Int32 → Option Nat → Int32 → Int32 → Int32 → Mem → Option (Int32 × Mem)) (k20 : Nat → Int32 → Option Nat → Int32 → Int32 → Int32 → Int32 → Mem → Option (Int32 × Mem)) (a0 : Nat) (x1 : Int32) (x2 : Option Nat) (x3 : Int32) (x4 : Int32) (x5 : Int32) (x6 : Int32) (s0 : Int32) (m : Mem) : Option (Int32 × Mem) :=
  if s0 ≤ x4 then (
    P_Text_nearestClass_119 k8 k20 a0 x1 x2 x3 x4 x5 x6 m)
  else (
    gs (mR m 1288 a0) fun a2 =>
    gt m a2 36 <|
    gd (inb x5 (mN m a2)) <|
    gs (aR m a2 (ix x5)) fun a6 =>
    gt m a6 3 <|
    vb (mI m 258 a6 : Int32) fun v9 =>
    P_Text_nearestClass_119 k8 k20 a0 x1 x2 v9 s0 x5 x6 m)
set_option maxRecDepth 100000 in
def P_Text_nearestClass_94 (k8 : Nat → Int32 → Option Nat → Int32 → Int32 → Int32 → Mem → Option (Int32 × Mem)) (k20 : Nat → Int32 → Option Nat → Int32 → Int32 → Int32 → Int32 → Mem → Option (Int32 × Mem)) (a0 : Nat) (x1 : Int32) (x2 : Option Nat) (x3 : Int32) (x4 : Int32) (x5 : Int32) (x6 : Int32) (m : Mem) : Option (Int32 × Mem) :=
  P_Text_nearestClass_95 k8 k20 a0 x1 x2 x3 x4 x5 x6 0 m
set_option maxRecDepth 100000 in
def P_Text_nearestClass_66 (k8 : Nat → Int32 → Option Nat → Int32 → Int32 → Int32 → Mem → Option (Int32 × Mem)) (k20 : Nat → Int32 → Option Nat → Int32 → Int32 → Int32 → Int32 → Mem → Option (Int32 × Mem)) (a0 : Nat) (x1 : Int32) (x2 : Option Nat) (x3 : Int32) (x4 : Int32) (x5 : Int32) (x6 : Int32) (s0 : Int32) (m : Mem) : Option (Int32 × Mem) :=
  if s0 = 0 then (
    P_Text_nearestClass_94 k8 k20 a0 x1 x2 x3 x4 x5 x6 m)
  else (
    bp (P_isTask x1) fun r2 =>
    if r2 = 0 then (
      P_Text_nearestClass_94 k8 k20 a0 x1 x2 x3 x4 x5 x6 m)
    else (
      gs x2 fun a4 =>
      gt m a4 32 <|
      gd (inb x1 (mN m a4)) <|
      gd (inb x6 (mN m a4)) <|
      bp (J_bitCount ((aI m a4 (ix x1)) &&& (aI m a4 (ix x6)))) fun r8 =>
      P_Text_nearestClass_95 k8 k20 a0 x1 (some a4) x3 x4 x5 x6 r8 m))
set_option maxRecDepth 100000 in
def P_Text_nearestClass_65 (k8 : Nat → Int32 → Option Nat → Int32 → Int32 → Int32 → Mem → Option (Int32 × Mem)) (k20 : Nat → Int32 → Option Nat → Int32 → Int32 → Int32 → Int32 → Mem → Option (Int32 × Mem)) (a0 : Nat) (x1 : Int32) (x2 : Option Nat) (x3 : Int32) (x4 : Int32) (x5 : Int32) (x6 : Int32) (m : Mem) : Option (Int32 × Mem) :=
  P_Text_nearestClass_66 k8 k20 a0 x1 x2 x3 x4 x5 x6 0 m
set_option maxRecDepth 100000 in
def P_Text_nearestClass_125 (k8 : Nat → Int32 → Option Nat → Int32 → Int32 → Int32 → Mem → Option (Int32 × Mem)) (a0 : Nat) (x1 : Int32) (x2 : Option Nat) (x3 : Int32) (x4 : Int32) (x5 : Int32) (m : Mem) : Option (Int32 × Mem) :=
  vb (x5 + 1 : Int32) fun v1 =>
  k8 a0 x1 x2 x3 x4 v1 m
set_option maxRecDepth 100000 in
def P_Text_nearestClass_20 (k8 : Nat → Int32 → Option Nat → Int32 → Int32 → Int32 → Mem → Option (Int32 × Mem)) : Nat → Nat → Int32 → Option Nat → Int32 → Int32 → Int32 → Int32 → Mem → Option (Int32 × Mem)
  | 0, _, _, _, _, _, _, _, _ => none
  | n + 1, a0, x1, x2, x3, x4, x5, x6, m =>
  gs x2 fun a1 =>
  gt m a1 32 <|
  if (Int32.ofNat (mN m a1)) ≤ x6 then (
    P_Text_nearestClass_125 k8 a0 x1 (some a1) x3 x4 x5 m)
  else (
    gs (mR m 1288 a0) fun a4 =>
    gt m a4 36 <|
    gd (inb x5 (mN m a4)) <|
    gs (aR m a4 (ix x5)) fun a8 =>
    gt m a8 3 <|
    if (mI m 256 a8) = 34 then (
      gs (mR m 1288 a0) fun a12 =>
      gt m a12 36 <|
      gd (inb x5 (mN m a12)) <|
      gs (aR m a12 (ix x5)) fun a16 =>
      gt m a16 3 <|
      if (((mI m 259 a16) >>> (x6 &&& 31)) &&& 1) = 1 then (
        P_Text_nearestClass_66 k8 (fun z0 z1 z2 z3 z4 z5 z6 z7 => P_Text_nearestClass_20 k8 n z0 z1 z2 z3 z4 z5 z6 z7) a0 x1 (some a1) x3 x4 x5 x6 1 m)
      else (
        P_Text_nearestClass_65 k8 (fun z0 z1 z2 z3 z4 z5 z6 z7 => P_Text_nearestClass_20 k8 n z0 z1 z2 z3 z4 z5 z6 z7) a0 x1 (some a1) x3 x4 x5 x6 m))
    else (
      P_Text_nearestClass_65 k8 (fun z0 z1 z2 z3 z4 z5 z6 z7 => P_Text_nearestClass_20 k8 n z0 z1 z2 z3 z4 z5 z6 z7) a0 x1 (some a1) x3 x4 x5 x6 m))
set_option maxRecDepth 100000 in
def P_Text_nearestClass_8 : Nat → Nat → Int32 → Option Nat → Int32 → Int32 → Int32 → Mem → Option (Int32 × Mem)
  | 0, _, _, _, _, _, _, _ => none
  | n + 1, a0, x1, x2, x3, x4, x5, m =>
  if (mI m 1292 a0) ≤ x5 then (
    some (x3, m))
  else (
    P_Text_nearestClass_20 (fun z0 z1 z2 z3 z4 z5 z6 => P_Text_nearestClass_8 n z0 z1 z2 z3 z4 z5 z6) FU a0 x1 x2 x3 x4 x5 0 m)
set_option maxRecDepth 100000 in
def P_Text_nearestClass (a0 : Nat) (x1 : Int32) (x2 : Option Nat) (m : Mem) : Option (Int32 × Mem) :=
  P_Text_nearestClass_8 FU a0 x1 x2 (-1) 0 0 m
set_option maxRecDepth 100000 in
def P_nearest (x1 : Int32) (x2 : Int32) (x3 : Int32) (x4 : Int32) (m : Mem) : Option (Int32 × Mem) :=
  bn (P_reckoned x1 x2 x3 x4 m) fun r1 m2 =>
  if r1 = 0 then (
    some ((-1), m2))
  else (
    gd (inb x3 48) <|
    if (aR m2 33 (ix x3)) = none then (
      some ((-1), m2))
    else (
      gd (inb x3 48) <|
      if (aI m2 34 (ix x3)) = (-1) then (
        gs (aR m2 33 (ix x3)) fun a10 =>
        gd (inb x3 48) <|
        gt m2 a10 11 <|
        bn (P_Text_nearestClass a10 (aI m2 30 (ix x3)) (some 11) m2) fun r14 m15 =>
        some (r14, m15))
      else (
        some ((-1), m2))))
set_option maxRecDepth 100000 in
def P_payer (x1 : Int32) (x2 : Int32) (x3 : Int32) (x4 : Int32) (m : Mem) : Option (Int32 × Mem) :=
  bn (P_reckoned x1 x2 x3 x4 m) fun r1 m2 =>
  if r1 = 0 then (
    some ((-1), m2))
  else (
    gd (inb x3 48) <|
    if (aR m2 37 (ix x3)) = none then (
      some ((-1), m2))
    else (
      gs (aR m2 37 (ix x3)) fun a8 =>
      gt m2 a8 11 <|
      some (mI m2 1281 a8, m2)))
set_option maxRecDepth 100000 in
def P_Reckoning_repeat_47 (x1 : Int32) (s0 : Int32) (s1 : Option Nat) (m : Mem) : Option (Unit × Mem) :=
  bn (P_Reckoning_worthBy s1 s0 x1 m) fun r1 m2 =>
  some ((), m2)
set_option maxRecDepth 100000 in
def P_Reckoning_repeat_20 (x1 : Int32) (s0 : Int32) (m : Mem) : Option (Unit × Mem) :=
  gd (inb x1 48) <|
  if s0 = 0 then (
    gd (inb x1 48) <|
    P_Reckoning_repeat_47 x1 (aI m 36 (ix x1)) (aR m 37 (ix x1)) m)
  else (
    gd (inb x1 48) <|
    P_Reckoning_repeat_47 x1 (aI m 34 (ix x1)) (aR m 37 (ix x1)) m)
set_option maxRecDepth 100000 in
def P_Reckoning_repeat (x1 : Int32) (m : Mem) : Option (Unit × Mem) :=
  gd (inb x1 48) <|
  gd (inb x1 48) <|
  if (aR m 37 (ix x1)) = (aR m 33 (ix x1)) then (
    P_Reckoning_repeat_20 x1 1 m)
  else (
    P_Reckoning_repeat_20 x1 0 m)
set_option maxRecDepth 100000 in
def P_rate (x1 : Int32) (x2 : Int32) (x3 : Int32) (x4 : Int32) (m : Mem) : Option (Int32 × Mem) :=
  bn (P_reckoned x1 x2 x3 x4 m) fun r1 m2 =>
  if r1 = 0 then (
    some ((-1), m2))
  else (
    gd (inb x3 48) <|
    if (aR m2 37 (ix x3)) = none then (
      some ((-1), m2))
    else (
      bn (P_Reckoning_repeat x3 m2) fun _ m9 =>
      some (mI m9 1041 28, m9)))
set_option maxRecDepth 100000 in
def P_counted (x1 : Int32) (x2 : Int32) (x3 : Int32) (x4 : Int32) (x5 : Int32) (m : Mem) : Option (Int32 × Mem) :=
  bn (P_reckoned x1 x2 x3 x5 m) fun r1 m2 =>
  if r1 = 0 then (
    some ((-1), m2))
  else (
    gd (inb x3 48) <|
    if (aR m2 37 (ix x3)) = none then (
      some ((-1), m2))
    else (
      bn (P_Reckoning_repeat x3 m2) fun _ m9 =>
      bp (P_within x4 0 ((mI m9 1043 28) - 1)) fun r12 =>
      if r12 = 0 then (
        some ((-1), m9))
      else (
        gd (inb x4 60) <|
        some (aI m9 40 (ix x4), m9))))
set_option maxRecDepth 100000 in
def P_worth (x1 : Int32) (x2 : Int32) (x3 : Int32) (x4 : Int32) (m : Mem) : Option (Int32 × Mem) :=
  bn (P_reckoned x1 x2 x3 x4 m) fun r1 m2 =>
  if r1 = 0 then (
    some (0, m2))
  else (
    gd (inb x3 48) <|
    some (aI m2 38 (ix x3), m2))
set_option maxRecDepth 100000 in
def P_isWeekOf (x1 : Int32) (x2 : Int32) (x3 : Int32) (m : Mem) : Option (Int32 × Mem) :=
  bn (P_Land_hasPerson x1 m) fun r1 m2 =>
  if r1 = 0 then (
    some (0, m2))
  else (
    bp (P_isWeek x2) fun r6 =>
    if r6 = 0 then (
      some (0, m2))
    else (
      bn (P_Ledger_canKnow x3 m2) fun r8 m9 =>
      if r8 = 0 then (
        some (0, m9))
      else (
        some (1, m9))))
set_option maxRecDepth 100000 in
def P_Reckoning_addUp_38 (k2 : Int32 → Mem → Option (Unit × Mem)) (x1 : Int32) (m : Mem) : Option (Unit × Mem) :=
  vb (x1 + 1 : Int32) fun v1 =>
  k2 v1 m
set_option maxRecDepth 100000 in
def P_Reckoning_addUp_2 : Nat → Int32 → Mem → Option (Unit × Mem)
  | 0, _, _ => none
  | n + 1, x1, m =>
  if 48 ≤ x1 then (
    some ((), m))
  else (
    gd (inb x1 48) <|
    if (aR m 33 (ix x1)) = none then (
      P_Reckoning_addUp_38 (fun z0 z1 => P_Reckoning_addUp_2 n z0 z1) x1 m)
    else (
      gd (inb x1 48) <|
      gs (aR m 33 (ix x1)) fun a5 =>
      gt m a5 11 <|
      gd (inb x1 48) <|
      vb (sL m 1296 a5 ((mL m 1296 a5) + (Int32.toInt64 (aI m 38 (ix x1))))) fun m9 =>
      P_Reckoning_addUp_38 (fun z0 z1 => P_Reckoning_addUp_2 n z0 z1) x1 m9))
set_option maxRecDepth 100000 in
def P_Reckoning_addUp (m : Mem) : Option (Unit × Mem) :=
  P_Reckoning_addUp_2 FU 0 m
set_option maxRecDepth 100000 in
def P_Reckoning_rounded_95 (k43 : Int64 → Int32 → Mem → Option (Int32 × Mem)) (x1 : Int64) (x3 : Int32) (x4 : Option Nat) (s0 : Int64) (m : Mem) : Option (Int32 × Mem) :=
  gs x4 fun a1 =>
  gt m a1 11 <|
  gnl (s0 * 200) <|
  vb (x1 + ((((mL m 1296 a1) + ((s0 * 200) / 2)) / (s0 * 200)) * s0) : Int64) fun v4 =>
  vb (x3 + 1 : Int32) fun v5 =>
  k43 v4 v5 m
set_option maxRecDepth 100000 in
def P_Reckoning_rounded_94 (k43 : Int64 → Int32 → Mem → Option (Int32 × Mem)) (x1 : Int64) (x3 : Int32) (x4 : Option Nat) (m : Mem) : Option (Int32 × Mem) :=
  P_Reckoning_rounded_95 k43 x1 x3 x4 1 m
set_option maxRecDepth 100000 in
def P_Reckoning_rounded_132 (x1 : Int64) (m : Mem) : Option (Int32 × Mem) :=
  some (Int64.toInt32 x1, m)
set_option maxRecDepth 100000 in
def P_Reckoning_rounded_43 : Nat → Int64 → Int32 → Mem → Option (Int32 × Mem)
  | 0, _, _, _ => none
  | n + 1, x1, x3, m =>
  if (mI m 515 13) ≤ x3 then (
    P_Reckoning_rounded_132 x1 m)
  else (
    gd (inb x3 24) <|
    gs (aR m 15 (ix x3)) fun a3 =>
    gt m a3 11 <|
    if (mI m 1287 a3) = 0 then (
      P_Reckoning_rounded_94 (fun z0 z1 z2 => P_Reckoning_rounded_43 n z0 z1 z2) x1 x3 (some a3) m)
    else (
      if (mI m 1280 a3) = 0 then (
        P_Reckoning_rounded_95 (fun z0 z1 z2 => P_Reckoning_rounded_43 n z0 z1 z2) x1 x3 (some a3) (Int32.toInt64 (jmax 1 (mI m 1294 a3))) m)
      else (
        P_Reckoning_rounded_94 (fun z0 z1 z2 => P_Reckoning_rounded_43 n z0 z1 z2) x1 x3 (some a3) m)))
set_option maxRecDepth 100000 in
def P_Reckoning_rounded (m : Mem) : Option (Int32 × Mem) :=
  gd (inb (mI m 1026 28) 10) <|
  bn (P_Scene_open (aI m 8 (ix (mI m 1026 28))) ((((mI m 1027 28) * 7) + 7) - 1) (mI m 1028 28) 0 m) fun _ m3 =>
  P_Reckoning_rounded_43 FU 0 0 m3
set_option maxRecDepth 100000 in
def P_Reckoning_weekPay_77 (k48 : Int32 → Int32 → Mem → Option (Int32 × Mem)) (x4 : Int32) (x5 : Int32) (m : Mem) : Option (Int32 × Mem) :=
  vb (x5 + 1 : Int32) fun v1 =>
  k48 x4 v1 m
set_option maxRecDepth 100000 in
def P_Reckoning_weekPay_83 (x4 : Int32) (m : Mem) : Option (Int32 × Mem) :=
  if x4 = 0 then (
    some (0, m))
  else (
    bn (P_Reckoning_rounded m) fun r2 m3 =>
    some (r2, m3))
set_option maxRecDepth 100000 in
def P_Reckoning_weekPay_48 : Nat → Int32 → Int32 → Mem → Option (Int32 × Mem)
  | 0, _, _, _ => none
  | n + 1, x4, x5, m =>
  if 7 ≤ x5 then (
    P_Reckoning_weekPay_83 x4 m)
  else (
    bn (P_Reckoning_tasksOn x5 m) fun r2 m3 =>
    if r2 ≤ 0 then (
      P_Reckoning_weekPay_77 (fun z0 z1 z2 => P_Reckoning_weekPay_48 n z0 z1 z2) x4 x5 m3)
    else (
      bn (P_Reckoning_reckon x5 m3) fun _ m8 =>
      bn (P_Reckoning_addUp m8) fun _ m12 =>
      P_Reckoning_weekPay_77 (fun z0 z1 z2 => P_Reckoning_weekPay_48 n z0 z1 z2) 1 x5 m12))
set_option maxRecDepth 100000 in
def P_Reckoning_weekPay_42 (m : Mem) : Option (Int32 × Mem) :=
  P_Reckoning_weekPay_48 FU 0 0 m
set_option maxRecDepth 100000 in
def P_Reckoning_weekPay_10 : Nat → Int32 → Mem → Option (Int32 × Mem)
  | 0, _, _ => none
  | n + 1, x4, m =>
  if (mI m 515 13) ≤ x4 then (
    P_Reckoning_weekPay_42 m)
  else (
    gd (inb x4 24) <|
    gs (aR m 15 (ix x4)) fun a3 =>
    gt m a3 11 <|
    vb (sL m 1296 a3 0) fun m6 =>
    vb (x4 + 1 : Int32) fun v8 =>
    P_Reckoning_weekPay_10 n v8 m6)
set_option maxRecDepth 100000 in
def P_Reckoning_weekPay (x1 : Int32) (x2 : Int32) (x3 : Int32) (m : Mem) : Option (Int32 × Mem) :=
  bn (P_Reckoning_load x1 x2 x3 m) fun _ m2 =>
  P_Reckoning_weekPay_10 FU 0 m2
set_option maxRecDepth 100000 in
def P_pay (x1 : Int32) (x2 : Int32) (x3 : Int32) (m : Mem) : Option (Int32 × Mem) :=
  bn (P_isWeekOf x1 x2 x3 m) fun r1 m2 =>
  if r1 = 0 then (
    some ((-1), m2))
  else (
    bn (P_Reckoning_weekPay x1 x2 x3 m2) fun r6 m7 =>
    some (r6, m7))
set_option maxRecDepth 100000 in
def P_Reckoning_isSuch (x1 : Int32) (x2 : Int32) (m : Mem) : Option (Int32 × Mem) :=
  gd (inb x1 48) <|
  bp (P_isTask (aI m 30 (ix x1))) fun r2 =>
  if x2 = 0 then (
    gz r2 <|
    some (r2, m))
  else   if x2 = 1 then (
    gd (inb x1 48) <|
    if (aI m 30 (ix x1)) = (-2) then (
      some (1, m))
    else (
      some (0, m)))
  else   if x2 = 2 then (
    if r2 = 0 then (
      some (0, m))
    else (
      gd (inb x1 48) <|
      if (aI m 32 (ix x1)) = (-1) then (
        some (1, m))
      else (
        some (0, m))))
  else   if x2 = 3 then (
    if r2 = 0 then (
      some (0, m))
    else (
      gd (inb x1 48) <|
      if (aI m 32 (ix x1)) = (-2) then (
        some (1, m))
      else (
        some (0, m))))
  else (
    gd (inb x1 48) <|
    if (aR m 33 (ix x1)) = none then (
      some (0, m))
    else (
      gd (inb x1 48) <|
      if (aI m 34 (ix x1)) = (-1) then (
        gd (inb x1 48) <|
        if (aI m 38 (ix x1)) = 0 then (
          some (1, m))
        else (
          some (0, m)))
      else (
        some (0, m))))
set_option maxRecDepth 100000 in
def P_halves_81 (k38 : Int32 → Int32 → Int32 → Mem → Option (Int32 × Mem)) (k57 : Int32 → Int32 → Int32 → Int32 → Mem → Option (Int32 × Mem)) (x4 : Int32) (x5 : Int32) (x6 : Int32) (x7 : Int32) (m : Mem) : Option (Int32 × Mem) :=
  vb (x7 + 1 : Int32) fun v1 =>
  k57 x4 x5 x6 v1 m
set_option maxRecDepth 100000 in
def P_halves_87 (k38 : Int32 → Int32 → Int32 → Mem → Option (Int32 × Mem)) (x4 : Int32) (x5 : Int32) (x6 : Int32) (m : Mem) : Option (Int32 × Mem) :=
  vb (x6 + 1 : Int32) fun v1 =>
  k38 x4 x5 v1 m
set_option maxRecDepth 100000 in
def P_halves_57 (k38 : Int32 → Int32 → Int32 → Mem → Option (Int32 × Mem)) : Nat → Int32 → Int32 → Int32 → Int32 → Mem → Option (Int32 × Mem)
  | 0, _, _, _, _, _ => none
  | n + 1, x4, x5, x6, x7, m =>
  if 48 ≤ x7 then (
    P_halves_87 k38 x4 x5 x6 m)
  else (
    bn (P_Reckoning_isSuch x7 x4 m) fun r2 m3 =>
    if r2 = 0 then (
      P_halves_81 k38 (fun z0 z1 z2 z3 z4 => P_halves_57 k38 n z0 z1 z2 z3 z4) x4 x5 x6 x7 m3)
    else (
      vb (x5 + 1 : Int32) fun v7 =>
      P_halves_81 k38 (fun z0 z1 z2 z3 z4 => P_halves_57 k38 n z0 z1 z2 z3 z4) x4 v7 x6 x7 m3))
set_option maxRecDepth 100000 in
def P_halves_38 : Nat → Int32 → Int32 → Int32 → Mem → Option (Int32 × Mem)
  | 0, _, _, _, _ => none
  | n + 1, x4, x5, x6, m =>
  if 7 ≤ x6 then (
    some (x5, m))
  else (
    bn (P_Reckoning_reckon x6 m) fun _ m3 =>
    P_halves_57 (fun z0 z1 z2 z3 => P_halves_38 n z0 z1 z2 z3) FU x4 x5 x6 0 m3)
set_option maxRecDepth 100000 in
def P_halves (x1 : Int32) (x2 : Int32) (x3 : Int32) (x4 : Int32) (m : Mem) : Option (Int32 × Mem) :=
  bn (P_isWeekOf x1 x2 x3 m) fun r1 m2 =>
  if r1 = 0 then (
    some ((-1), m2))
  else (
    bp (P_within x4 0 4) fun r6 =>
    if r6 = 0 then (
      some ((-1), m2))
    else (
      bn (P_Reckoning_load x1 x2 x3 m2) fun _ m9 =>
      P_halves_38 FU x4 0 0 m9))
set_option maxRecDepth 100000 in
def P_Ledger_payments_70 (k6 : Int32 → Int32 → Int32 → Int32 → Int32 → Mem → Option (Int32 × Mem)) (x1 : Int32) (x2 : Int32) (x3 : Int32) (x4 : Int32) (x5 : Int32) (m : Mem) : Option (Int32 × Mem) :=
  vb (x5 + 1 : Int32) fun v1 =>
  k6 x1 x2 x3 x4 v1 m
set_option maxRecDepth 100000 in
def P_Ledger_payments_6 : Nat → Int32 → Int32 → Int32 → Int32 → Int32 → Mem → Option (Int32 × Mem)
  | 0, _, _, _, _, _, _ => none
  | n + 1, x1, x2, x3, x4, x5, m =>
  if x3 ≤ x5 then (
    some (x4, m))
  else (
    gd (inb x5 160) <|
    gs (aR m 14 (ix x5)) fun a3 =>
    gt m a3 1 <|
    if (mI m 0 a3) = 9 then (
      gd (inb x5 160) <|
      gs (aR m 14 (ix x5)) fun a8 =>
      gt m a8 1 <|
      if (mI m 1 a8) = x1 then (
        gd (inb x5 160) <|
        gs (aR m 14 (ix x5)) fun a13 =>
        gt m a13 1 <|
        if (mI m 2 a13) = x2 then (
          gd (inb x5 160) <|
          gs (aR m 14 (ix x5)) fun a18 =>
          gt m a18 1 <|
          vb (x4 + (mI m 4 a18) : Int32) fun v21 =>
          P_Ledger_payments_70 (fun z0 z1 z2 z3 z4 z5 => P_Ledger_payments_6 n z0 z1 z2 z3 z4 z5) x1 x2 x3 v21 x5 m)
        else (
          P_Ledger_payments_70 (fun z0 z1 z2 z3 z4 z5 => P_Ledger_payments_6 n z0 z1 z2 z3 z4 z5) x1 x2 x3 x4 x5 m))
      else (
        P_Ledger_payments_70 (fun z0 z1 z2 z3 z4 z5 => P_Ledger_payments_6 n z0 z1 z2 z3 z4 z5) x1 x2 x3 x4 x5 m))
    else (
      P_Ledger_payments_70 (fun z0 z1 z2 z3 z4 z5 => P_Ledger_payments_6 n z0 z1 z2 z3 z4 z5) x1 x2 x3 x4 x5 m))
set_option maxRecDepth 100000 in
def P_Ledger_payments (x1 : Int32) (x2 : Int32) (x3 : Int32) (m : Mem) : Option (Int32 × Mem) :=
  P_Ledger_payments_6 FU x1 x2 x3 0 0 m
set_option maxRecDepth 100000 in
def P_owed (x1 : Int32) (x2 : Int32) (x3 : Int32) (m : Mem) : Option (Int32 × Mem) :=
  bn (P_isWeekOf x1 x2 x3 m) fun r1 m2 =>
  if r1 = 0 then (
    some (0, m2))
  else (
    bn (P_Reckoning_weekPay x1 x2 x3 m2) fun r6 m7 =>
    bn (P_Ledger_payments x1 x2 x3 m7) fun r10 m11 =>
    some (r6 - r10, m11))
set_option maxRecDepth 100000 in
def P_shorted_23 (m : Mem) : Option (Int64 × Mem) :=
  some ((-1), m)
set_option maxRecDepth 100000 in
def P_shorted_86 (k33 : Int32 → Int32 → Int32 → Int32 → Int64 → Int32 → Mem → Option (Int64 × Mem)) (x1 : Int32) (x3 : Int32) (x4 : Int32) (x5 : Int32) (x8 : Int32) (s0 : Int64) (s1 : Int64) (m : Mem) : Option (Int64 × Mem) :=
  vb (s1 + s0 : Int64) fun v1 =>
  vb (x8 + 1 : Int32) fun v2 =>
  k33 x1 x3 x4 x5 v1 v2 m
set_option maxRecDepth 100000 in
def P_shorted_95 (x6 : Int64) (m : Mem) : Option (Int64 × Mem) :=
  some (jmaxL 0 x6, m)
set_option maxRecDepth 100000 in
def P_shorted_33 : Nat → Int32 → Int32 → Int32 → Int32 → Int64 → Int32 → Mem → Option (Int64 × Mem)
  | 0, _, _, _, _, _, _, _ => none
  | n + 1, x1, x3, x4, x5, x6, x8, m =>
  if x3 < x8 then (
    P_shorted_95 x6 m)
  else (
    bn (P_Reckoning_weekPay x1 x8 x5 m) fun r2 m3 =>
    bn (P_Ledger_payments x1 x8 x5 m3) fun r6 m7 =>
    vb (r2 - r6 : Int32) fun v10 =>
    if x4 = 0 then (
      P_shorted_86 (fun z0 z1 z2 z3 z4 z5 z6 => P_shorted_33 n z0 z1 z2 z3 z4 z5 z6) x1 x3 x4 x5 x8 (Int32.toInt64 (jmax 0 v10)) x6 m7)
    else (
      P_shorted_86 (fun z0 z1 z2 z3 z4 z5 z6 => P_shorted_33 n z0 z1 z2 z3 z4 z5 z6) x1 x3 x4 x5 x8 (Int32.toInt64 v10) x6 m7))
set_option maxRecDepth 100000 in
def P_shorted (x1 : Int32) (x2 : Int32) (x3 : Int32) (x4 : Int32) (x5 : Int32) (m : Mem) : Option (Int64 × Mem) :=
  bn (P_isWeekOf x1 x2 x5 m) fun r1 m2 =>
  if r1 = 0 then (
    P_shorted_23 m2)
  else (
    bp (P_isWeek x3) fun r6 =>
    if r6 = 0 then (
      P_shorted_23 m2)
    else (
      if x2 ≤ x3 then (
        P_shorted_33 FU x1 x3 x4 x5 0 x2 m2)
      else (
        P_shorted_23 m2)))
set_option maxRecDepth 100000 in
def P_Scene_suppose (x1 : Option Nat) (x2 : Int32) (x3 : Int32) (m : Mem) : Option (Unit × Mem) :=
  vb (sR m 1158 25 x1) fun m2 =>
  vb (sI m2 1159 25 x2) fun m4 =>
  vb (sI m4 1160 25 x3) fun m6 =>
  some ((), m6)
set_option maxRecDepth 100000 in
def P_tried_28 (m : Mem) : Option (Int64 × Mem) :=
  some ((-1), m)
set_option maxRecDepth 100000 in
def P_tried_79 (m : Mem) : Option (Int64 × Mem) :=
  some ((-1), m)
set_option maxRecDepth 100000 in
def P_tried_106 (m : Mem) : Option (Int64 × Mem) :=
  some ((-1), m)
set_option maxRecDepth 100000 in
def P_tried_195 (k128 : Int32 → Int32 → Int32 → Int32 → Int64 → Int32 → Mem → Option (Int64 × Mem)) (x1 : Int32) (x5 : Int32) (x6 : Int32) (x7 : Int32) (x9 : Int64) (x11 : Int32) (m : Mem) : Option (Int64 × Mem) :=
  vb (x11 + 1 : Int32) fun v1 =>
  k128 x1 x5 x6 x7 x9 v1 m
set_option maxRecDepth 100000 in
def P_tried_163 (k128 : Int32 → Int32 → Int32 → Int32 → Int64 → Int32 → Mem → Option (Int64 × Mem)) : Nat → Int32 → Int32 → Int32 → Int32 → Int64 → Int32 → Int32 → Mem → Option (Int64 × Mem)
  | 0, _, _, _, _, _, _, _, _ => none
  | n + 1, x1, x5, x6, x7, x9, x11, x12, m =>
  if x6 < x12 then (
    P_tried_195 k128 x1 x5 x6 x7 x9 x11 m)
  else (
    bn (P_Reckoning_weekPay x11 x12 x7 m) fun r2 m3 =>
    vb (x9 + (Int32.toInt64 r2) : Int64) fun v6 =>
    vb (x12 + 1 : Int32) fun v7 =>
    P_tried_163 k128 n x1 x5 x6 x7 v6 x11 v7 m3)
set_option maxRecDepth 100000 in
def P_tried_159 (k128 : Int32 → Int32 → Int32 → Int32 → Int64 → Int32 → Mem → Option (Int64 × Mem)) (x1 : Int32) (x5 : Int32) (x6 : Int32) (x7 : Int32) (x9 : Int64) (x11 : Int32) (m : Mem) : Option (Int64 × Mem) :=
  P_tried_163 k128 FU x1 x5 x6 x7 x9 x11 x5 m
set_option maxRecDepth 100000 in
def P_tried_201 (x9 : Int64) (m : Mem) : Option (Int64 × Mem) :=
  bn (P_Scene_suppose none (-1) 0 m) fun _ m2 =>
  some (x9, m2)
set_option maxRecDepth 100000 in
def P_tried_128 : Nat → Int32 → Int32 → Int32 → Int32 → Int64 → Int32 → Mem → Option (Int64 × Mem)
  | 0, _, _, _, _, _, _, _ => none
  | n + 1, x1, x5, x6, x7, x9, x11, m =>
  if (mI m 386 5) ≤ x11 then (
    P_tried_201 x9 m)
  else (
    if x1 = (-1) then (
      P_tried_159 (fun z0 z1 z2 z3 z4 z5 z6 => P_tried_128 n z0 z1 z2 z3 z4 z5 z6) x1 x5 x6 x7 x9 x11 m)
    else (
      gd (inb x11 10) <|
      if (aI m 8 (ix x11)) = x1 then (
        P_tried_159 (fun z0 z1 z2 z3 z4 z5 z6 => P_tried_128 n z0 z1 z2 z3 z4 z5 z6) x1 x5 x6 x7 x9 x11 m)
      else (
        P_tried_195 (fun z0 z1 z2 z3 z4 z5 z6 => P_tried_128 n z0 z1 z2 z3 z4 z5 z6) x1 x5 x6 x7 x9 x11 m)))
set_option maxRecDepth 100000 in
def P_tried_16 (x1 : Int32) (x2 : Int32) (x3 : Int32) (x4 : Int32) (x5 : Int32) (x6 : Int32) (x7 : Int32) (m : Mem) : Option (Int64 × Mem) :=
  bn (P_Ledger_canKnow x7 m) fun r1 m2 =>
  if r1 = 0 then (
    P_tried_28 m2)
  else (
    bn (P_Ledger_textAt x2 x7 m2) fun r6 m7 =>
    if r6 = none then (
      P_tried_79 m7)
    else (
      gs r6 fun a11 =>
      gt m7 a11 11 <|
      if (mI m7 1280 a11) = 0 then (
        bn (P_isName x3 m7) fun r14 m15 =>
        if r14 = 0 then (
          P_tried_79 m15)
        else (
          bp (P_within x4 (-9999) 9999) fun r19 =>
          if r19 = 0 then (
            P_tried_79 m15)
          else (
            bp (P_isWeek x5) fun r21 =>
            if r21 = 0 then (
              P_tried_106 m15)
            else (
              bp (P_isWeek x6) fun r23 =>
              if r23 = 0 then (
                P_tried_106 m15)
              else (
                if x5 ≤ x6 then (
                  bn (P_Scene_suppose (some a11) x3 x4 m15) fun _ m27 =>
                  P_tried_128 FU x1 x5 x6 x7 0 0 m27)
                else (
                  P_tried_106 m15))))))
      else (
        P_tried_79 m7)))
set_option maxRecDepth 100000 in
def P_tried (x1 : Int32) (x2 : Int32) (x3 : Int32) (x4 : Int32) (x5 : Int32) (x6 : Int32) (x7 : Int32) (m : Mem) : Option (Int64 × Mem) :=
  if x1 = (-1) then (
    P_tried_16 x1 x2 x3 x4 x5 x6 x7 m)
  else (
    bn (P_Land_hasFirm x1 m) fun r2 m3 =>
    if r2 = 0 then (
      P_tried_28 m3)
    else (
      P_tried_16 x1 x2 x3 x4 x5 x6 x7 m3))
set_option maxRecDepth 100000 in
def P_value (x1 : Int32) (x2 : Int32) (m : Mem) : Option (Int32 × Mem) :=
  bp (P_isTask x1) fun r1 =>
  if r1 = 0 then (
    some (0, m))
  else (
    bp (P_within x2 0 999) fun r3 =>
    if r3 = 0 then (
      some (0, m))
    else (
      gd (inb x1 16) <|
      vb (wI m 42 (ix x1) x2) fun m8 =>
      some (1, m8)))
set_option maxRecDepth 100000 in
def P_Parting_setApart_37 (s0 : Int32) (s1 : Int32) (m : Mem) : Option (Unit × Mem) :=
  gd (inb s1 16) <|
  vb (wI m 43 (ix s1) s0) fun m4 =>
  some ((), m4)
set_option maxRecDepth 100000 in
def P_Parting_setApart (x1 : Int32) (x2 : Int32) (x3 : Int32) (m : Mem) : Option (Unit × Mem) :=
  vb (1 <<< (x2 &&& 31) : Int32) fun v1 =>
  if x3 = 0 then (
    gd (inb x1 16) <|
    P_Parting_setApart_37 ((aI m 43 (ix x1)) &&& (v1 ^^^ (-1))) x1 m)
  else (
    gd (inb x1 16) <|
    P_Parting_setApart_37 ((aI m 43 (ix x1)) ||| v1) x1 m)
set_option maxRecDepth 100000 in
def P_apart (x1 : Int32) (x2 : Int32) (x3 : Int32) (m : Mem) : Option (Int32 × Mem) :=
  bp (P_isTask x1) fun r1 =>
  if r1 = 0 then (
    some (0, m))
  else (
    bp (P_isTask x2) fun r3 =>
    if r3 = 0 then (
      some (0, m))
    else (
      if x1 = x2 then (
        some (0, m))
      else (
        bn (P_Parting_setApart x1 x2 x3 m) fun _ m7 =>
        bn (P_Parting_setApart x2 x1 x3 m7) fun _ m11 =>
        some (1, m11))))
set_option maxRecDepth 100000 in
def P_Parting_gather_61 (k7 : Int32 → Int32 → Mem → Option (Unit × Mem)) (x1 : Int32) (x2 : Int32) (m : Mem) : Option (Unit × Mem) :=
  vb (x2 + 1 : Int32) fun v1 =>
  k7 x1 v1 m
set_option maxRecDepth 100000 in
def P_Parting_gather_7 : Nat → Int32 → Int32 → Mem → Option (Unit × Mem)
  | 0, _, _, _ => none
  | n + 1, x1, x2, m =>
  if 16 ≤ x2 then (
    some ((), m))
  else (
    if 7 ≤ (mI m 901 41) then (
      some ((), m))
    else (
      if ((x1 >>> (x2 &&& 31)) &&& 1) = 1 then (
        gd (inb (mI m 901 41) 7) <|
        vb (wI m 46 (ix (mI m 901 41)) x2) fun m7 =>
        gd (inb (mI m7 901 41) 7) <|
        vb (wI m7 47 (ix (mI m7 901 41)) 0) fun m11 =>
        vb (sI m11 901 41 ((mI m11 901 41) + 1)) fun m13 =>
        P_Parting_gather_61 (fun z0 z1 z2 => P_Parting_gather_7 n z0 z1 z2) x1 x2 m13)
      else (
        P_Parting_gather_61 (fun z0 z1 z2 => P_Parting_gather_7 n z0 z1 z2) x1 x2 m)))
set_option maxRecDepth 100000 in
def P_Parting_gather (x1 : Int32) (m : Mem) : Option (Unit × Mem) :=
  vb (sI m 901 41 0) fun m2 =>
  P_Parting_gather_7 FU x1 0 m2
set_option maxRecDepth 100000 in
def P_Parting_groupsAmong_4 : Nat → Int32 → Int32 → Int32 → Mem → Option (Int32 × Mem)
  | 0, _, _, _, _ => none
  | n + 1, x1, x2, x3, m =>
  if x1 ≤ x3 then (
    some (x2, m))
  else (
    gd (inb x3 7) <|
    vb (jmax x2 ((aI m 47 (ix x3)) + 1) : Int32) fun v3 =>
    vb (x3 + 1 : Int32) fun v4 =>
    P_Parting_groupsAmong_4 n x1 v3 v4 m)
set_option maxRecDepth 100000 in
def P_Parting_groupsAmong (x1 : Int32) (m : Mem) : Option (Int32 × Mem) :=
  P_Parting_groupsAmong_4 FU x1 0 0 m
set_option maxRecDepth 100000 in
def P_Parting_isTorn_51 (k4 : Int32 → Int32 → Int32 → Mem → Option (Int32 × Mem)) (x1 : Int32) (x2 : Int32) (x3 : Int32) (m : Mem) : Option (Int32 × Mem) :=
  vb (x3 + 1 : Int32) fun v1 =>
  k4 x1 x2 v1 m
set_option maxRecDepth 100000 in
def P_Parting_isTorn_4 : Nat → Int32 → Int32 → Int32 → Mem → Option (Int32 × Mem)
  | 0, _, _, _, _ => none
  | n + 1, x1, x2, x3, m =>
  if (mI m 901 41) ≤ x3 then (
    some (0, m))
  else (
    gd (inb x3 7) <|
    if (aI m 47 (ix x3)) = x1 then (
      gd (inb x3 7) <|
      gd (inb (aI m 46 (ix x3)) 16) <|
      if ((aI m 43 (ix (aI m 46 (ix x3)))) &&& x2) = 0 then (
        gd (inb x3 7) <|
        vb (x2 ||| (1 <<< ((aI m 46 (ix x3)) &&& 31)) : Int32) fun v8 =>
        P_Parting_isTorn_51 (fun z0 z1 z2 z3 => P_Parting_isTorn_4 n z0 z1 z2 z3) x1 v8 x3 m)
      else (
        some (1, m)))
    else (
      P_Parting_isTorn_51 (fun z0 z1 z2 z3 => P_Parting_isTorn_4 n z0 z1 z2 z3) x1 x2 x3 m))
set_option maxRecDepth 100000 in
def P_Parting_isTorn (x1 : Int32) (m : Mem) : Option (Int32 × Mem) :=
  P_Parting_isTorn_4 FU x1 0 0 m
set_option maxRecDepth 100000 in
def P_Parting_withValue_44 (k5 : Int32 → Int32 → Int32 → Int32 → Mem → Option (Int32 × Mem)) (x1 : Int32) (x2 : Int32) (x3 : Int32) (x4 : Int32) (m : Mem) : Option (Int32 × Mem) :=
  vb (x4 + 1 : Int32) fun v1 =>
  k5 x1 x2 x3 v1 m
set_option maxRecDepth 100000 in
def P_Parting_withValue_5 : Nat → Int32 → Int32 → Int32 → Int32 → Mem → Option (Int32 × Mem)
  | 0, _, _, _, _, _ => none
  | n + 1, x1, x2, x3, x4, m =>
  if (mI m 901 41) ≤ x4 then (
    some (x3, m))
  else (
    gd (inb x4 7) <|
    if (aI m 47 (ix x4)) = x1 then (
      gd (inb x4 7) <|
      gd (inb (aI m 46 (ix x4)) 16) <|
      if (aI m 42 (ix (aI m 46 (ix x4)))) = x2 then (
        vb (x3 + 1 : Int32) fun v7 =>
        P_Parting_withValue_44 (fun z0 z1 z2 z3 z4 => P_Parting_withValue_5 n z0 z1 z2 z3 z4) x1 x2 v7 x4 m)
      else (
        P_Parting_withValue_44 (fun z0 z1 z2 z3 z4 => P_Parting_withValue_5 n z0 z1 z2 z3 z4) x1 x2 x3 x4 m))
    else (
      P_Parting_withValue_44 (fun z0 z1 z2 z3 z4 => P_Parting_withValue_5 n z0 z1 z2 z3 z4) x1 x2 x3 x4 m))
set_option maxRecDepth 100000 in
def P_Parting_withValue (x1 : Int32) (x2 : Int32) (m : Mem) : Option (Int32 × Mem) :=
  P_Parting_withValue_5 FU x1 x2 0 0 m
set_option maxRecDepth 100000 in
def P_Parting_settle_76 (k13 : Int32 → Int32 → Int32 → Int32 → Int32 → Int32 → Mem → Option (Int32 × Mem)) (x1 : Int32) (x2 : Int32) (x3 : Int32) (x4 : Int32) (x5 : Int32) (x6 : Int32) (m : Mem) : Option (Int32 × Mem) :=
  vb (x6 + 1 : Int32) fun v1 =>
  k13 x1 x2 x3 x4 x5 v1 m
set_option maxRecDepth 100000 in
def P_Parting_settle_199 (k108 : Int32 → Int32 → Int32 → Int32 → Int32 → Int32 → Mem → Option (Int32 × Mem)) (x1 : Int32) (x3 : Int32) (x4 : Int32) (x5 : Int32) (x6 : Int32) (x7 : Int32) (m : Mem) : Option (Int32 × Mem) :=
  vb (x7 + 1 : Int32) fun v1 =>
  k108 x1 x3 x4 x5 x6 v1 m
set_option maxRecDepth 100000 in
def P_Parting_settle_187 (k108 : Int32 → Int32 → Int32 → Int32 → Int32 → Int32 → Mem → Option (Int32 × Mem)) (x1 : Int32) (x3 : Int32) (x4 : Int32) (x5 : Int32) (x7 : Int32) (x8 : Int32) (x9 : Int32) (m : Mem) : Option (Int32 × Mem) :=
  gd (inb x1 7) <|
  vb (wI m 48 (ix x1) x8) fun m4 =>
  P_Parting_settle_199 k108 x1 x3 x4 x5 x9 x7 m4
set_option maxRecDepth 100000 in
def P_Parting_settle_205 (x5 : Int32) (x6 : Int32) (m : Mem) : Option (Int32 × Mem) :=
  some (x5 - x6, m)
set_option maxRecDepth 100000 in
def P_Parting_settle_108 : Nat → Int32 → Int32 → Int32 → Int32 → Int32 → Int32 → Mem → Option (Int32 × Mem)
  | 0, _, _, _, _, _, _, _ => none
  | n + 1, x1, x3, x4, x5, x6, x7, m =>
  if (mI m 901 41) ≤ x7 then (
    P_Parting_settle_205 x5 x6 m)
  else (
    gd (inb x7 7) <|
    gd (inb (aI m 46 (ix x7)) 16) <|
    vb (aI m 42 (ix (aI m 46 (ix x7))) : Int32) fun v4 =>
    gd (inb x7 7) <|
    if (aI m 47 (ix x7)) = x1 then (
      bp (P_within v4 x3 x4) fun r7 =>
      if r7 = 0 then (
        P_Parting_settle_199 (fun z0 z1 z2 z3 z4 z5 z6 => P_Parting_settle_108 n z0 z1 z2 z3 z4 z5 z6) x1 x3 x4 x5 x6 x7 m)
      else (
        bn (P_Parting_withValue x1 v4 m) fun r9 m10 =>
        if x6 < r9 then (
          P_Parting_settle_187 (fun z0 z1 z2 z3 z4 z5 z6 => P_Parting_settle_108 n z0 z1 z2 z3 z4 z5 z6) x1 x3 x4 x5 x7 v4 r9 m10)
        else (
          if r9 = x6 then (
            gd (inb x1 7) <|
            if (aI m10 48 (ix x1)) ≤ v4 then (
              P_Parting_settle_199 (fun z0 z1 z2 z3 z4 z5 z6 => P_Parting_settle_108 n z0 z1 z2 z3 z4 z5 z6) x1 x3 x4 x5 x6 x7 m10)
            else (
              P_Parting_settle_187 (fun z0 z1 z2 z3 z4 z5 z6 => P_Parting_settle_108 n z0 z1 z2 z3 z4 z5 z6) x1 x3 x4 x5 x7 v4 r9 m10))
          else (
            P_Parting_settle_199 (fun z0 z1 z2 z3 z4 z5 z6 => P_Parting_settle_108 n z0 z1 z2 z3 z4 z5 z6) x1 x3 x4 x5 x6 x7 m10))))
    else (
      P_Parting_settle_199 (fun z0 z1 z2 z3 z4 z5 z6 => P_Parting_settle_108 n z0 z1 z2 z3 z4 z5 z6) x1 x3 x4 x5 x6 x7 m))
set_option maxRecDepth 100000 in
def P_Parting_settle_82 (x1 : Int32) (x3 : Int32) (x4 : Int32) (x5 : Int32) (m : Mem) : Option (Int32 × Mem) :=
  if x3 ≤ x4 then (
    gd (inb x1 7) <|
    vb (wI m 48 (ix x1) x3) fun m5 =>
    bn (P_Parting_withValue x1 x3 m5) fun r6 m7 =>
    P_Parting_settle_108 FU x1 x3 x4 x5 r6 0 m7)
  else (
    some ((-1), m))
set_option maxRecDepth 100000 in
def P_Parting_settle_13 : Nat → Int32 → Int32 → Int32 → Int32 → Int32 → Int32 → Mem → Option (Int32 × Mem)
  | 0, _, _, _, _, _, _, _ => none
  | n + 1, x1, x2, x3, x4, x5, x6, m =>
  if (mI m 901 41) ≤ x6 then (
    P_Parting_settle_82 x1 x3 x4 x5 m)
  else (
    gd (inb x6 7) <|
    if (aI m 47 (ix x6)) = x1 then (
      gd (inb x6 7) <|
      gd (inb (aI m 46 (ix x6)) 16) <|
      vb (jmax x3 ((aI m 42 (ix (aI m 46 (ix x6)))) - x2) : Int32) fun v6 =>
      gd (inb x6 7) <|
      gd (inb (aI m 46 (ix x6)) 16) <|
      vb (jmin x4 ((aI m 42 (ix (aI m 46 (ix x6)))) + x2) : Int32) fun v9 =>
      vb (x5 + 1 : Int32) fun v10 =>
      P_Parting_settle_76 (fun z0 z1 z2 z3 z4 z5 z6 => P_Parting_settle_13 n z0 z1 z2 z3 z4 z5 z6) x1 x2 v6 v9 v10 x6 m)
    else (
      P_Parting_settle_76 (fun z0 z1 z2 z3 z4 z5 z6 => P_Parting_settle_13 n z0 z1 z2 z3 z4 z5 z6) x1 x2 x3 x4 x5 x6 m))
set_option maxRecDepth 100000 in
def P_Parting_settle (x1 : Int32) (x2 : Int32) (m : Mem) : Option (Int32 × Mem) :=
  P_Parting_settle_13 FU x1 x2 0 9999 0 0 m
set_option maxRecDepth 100000 in
def P_Parting_weigh_47 (k21 : Int32 → Int32 → Int32 → Int32 → Mem → Option (Unit × Mem)) (x2 : Int32) (x3 : Int32) (x4 : Int32) (x5 : Int32) (s0 : Int32) (m : Mem) : Option (Unit × Mem) :=
  if s0 = (-1) then (
    some ((), m))
  else (
    vb (x4 + s0 : Int32) fun v2 =>
    vb (x5 + 1 : Int32) fun v3 =>
    k21 x2 x3 v2 v3 m)
set_option maxRecDepth 100000 in
def P_Parting_weigh_103 (x3 : Int32) (x4 : Int32) (m : Mem) : Option (Unit × Mem) :=
  vb (sI m 906 41 x4) fun m2 =>
  vb (sI m2 907 41 x3) fun m4 =>
  gd (cpok 0 0 (mI m4 901 41) (mN m4 47) (mN m4 49)) <|
  vb (cpI m4 47 (ix 0) 49 (ix 0) (ix (mI m4 901 41))) fun m8 =>
  gd (cpok 0 0 (mI m8 901 41) (mN m8 48) (mN m8 50)) <|
  vb (cpI m8 48 (ix 0) 50 (ix 0) (ix (mI m8 901 41))) fun m12 =>
  some ((), m12)
set_option maxRecDepth 100000 in
def P_Parting_weigh_69 (x3 : Int32) (x4 : Int32) (m : Mem) : Option (Unit × Mem) :=
  if (mI m 906 41) = (-1) then (
    P_Parting_weigh_103 x3 x4 m)
  else (
    if x4 < (mI m 906 41) then (
      P_Parting_weigh_103 x3 x4 m)
    else (
      if x4 = (mI m 906 41) then (
        if (mI m 907 41) ≤ x3 then (
          some ((), m))
        else (
          P_Parting_weigh_103 x3 x4 m))
      else (
        some ((), m))))
set_option maxRecDepth 100000 in
def P_Parting_weigh_21 : Nat → Int32 → Int32 → Int32 → Int32 → Mem → Option (Unit × Mem)
  | 0, _, _, _, _, _ => none
  | n + 1, x2, x3, x4, x5, m =>
  if x3 ≤ x5 then (
    P_Parting_weigh_69 x3 x4 m)
  else (
    bn (P_Parting_isTorn x5 m) fun r2 m3 =>
    if r2 = 0 then (
      bn (P_Parting_settle x5 x2 m3) fun r7 m8 =>
      P_Parting_weigh_47 (fun z0 z1 z2 z3 z4 => P_Parting_weigh_21 n z0 z1 z2 z3 z4) x2 x3 x4 x5 r7 m8)
    else (
      P_Parting_weigh_47 (fun z0 z1 z2 z3 z4 => P_Parting_weigh_21 n z0 z1 z2 z3 z4) x2 x3 x4 x5 (-1) m3))
set_option maxRecDepth 100000 in
def P_Parting_weigh (x1 : Int32) (x2 : Int32) (m : Mem) : Option (Unit × Mem) :=
  bn (P_Parting_groupsAmong (mI m 901 41) m) fun r1 m2 =>
  if r1 ≤ x1 then (
    P_Parting_weigh_21 FU x2 r1 0 0 m2)
  else (
    some ((), m2))
set_option maxRecDepth 100000 in
def P_Parting_nextWay_39 : Nat → Int32 → Mem → Option (Int32 × Mem)
  | 0, _, _ => none
  | n + 1, x2, m =>
  if (mI m 901 41) ≤ x2 then (
    some (1, m))
  else (
    gd (inb x2 7) <|
    vb (wI m 47 (ix x2) 0) fun m5 =>
    vb (x2 + 1 : Int32) fun v6 =>
    P_Parting_nextWay_39 n v6 m5)
set_option maxRecDepth 100000 in
def P_Parting_nextWay_25 (x1 : Int32) (m : Mem) : Option (Int32 × Mem) :=
  gd (inb x1 7) <|
  gd (inb x1 7) <|
  vb (wI m 47 (ix x1) ((aI m 47 (ix x1)) + 1)) fun m5 =>
  vb (x1 + 1 : Int32) fun v6 =>
  P_Parting_nextWay_39 FU v6 m5
set_option maxRecDepth 100000 in
def P_Parting_nextWay_7 : Nat → Int32 → Mem → Option (Int32 × Mem)
  | 0, _, _ => none
  | n + 1, x1, m =>
  if x1 ≤ 0 then (
    some (0, m))
  else (
    gd (inb x1 7) <|
    bn (P_Parting_groupsAmong x1 m) fun r3 m4 =>
    if r3 ≤ (aI m 47 (ix x1)) then (
      vb (x1 + (-1) : Int32) fun v8 =>
      P_Parting_nextWay_7 n v8 m4)
    else (
      P_Parting_nextWay_25 x1 m4))
set_option maxRecDepth 100000 in
def P_Parting_nextWay (m : Mem) : Option (Int32 × Mem) :=
  vb ((mI m 901 41) - 1 : Int32) fun v1 =>
  P_Parting_nextWay_7 FU v1 m
set_option maxRecDepth 100000 in
def P_Parting_remember_10 : Nat → Int32 → Mem → Option (Unit × Mem)
  | 0, _, _ => none
  | n + 1, x1, m =>
  if (mI m 901 41) ≤ x1 then (
    some ((), m))
  else (
    gd (inb x1 7) <|
    gd (inb x1 7) <|
    gd (inb (aI m 46 (ix x1)) 16) <|
    vb (wI m 44 (ix (aI m 46 (ix x1))) (aI m 49 (ix x1))) fun m7 =>
    gd (inb x1 7) <|
    gd (inb x1 7) <|
    gd (inb (aI m7 49 (ix x1)) 7) <|
    gd (inb (aI m7 46 (ix x1)) 16) <|
    vb (wI m7 45 (ix (aI m7 46 (ix x1))) (aI m7 50 (ix (aI m7 49 (ix x1))))) fun m14 =>
    vb (x1 + 1 : Int32) fun v15 =>
    P_Parting_remember_10 n v15 m14)
set_option maxRecDepth 100000 in
def P_Parting_remember (m : Mem) : Option (Unit × Mem) :=
  bn (J_fill (some 44) (-1) m) fun _ m2 =>
  P_Parting_remember_10 FU 0 m2
set_option maxRecDepth 100000 in
def P_Parting_divide_58 (m : Mem) : Option (Int32 × Mem) :=
  if (mI m 906 41) = (-1) then (
    some ((-2), m))
  else (
    bn (P_Parting_remember m) fun _ m3 =>
    some (mI m3 906 41, m3))
set_option maxRecDepth 100000 in
def P_Parting_divide_27 : Nat → Int32 → Int32 → Int32 → Int32 → Mem → Option (Int32 × Mem)
  | 0, _, _, _, _, _ => none
  | n + 1, x2, x3, x4, x5, m =>
  if 877 ≤ x5 then (
    P_Parting_divide_58 m)
  else (
    if x4 = 0 then (
      P_Parting_divide_58 m)
    else (
      bn (P_Parting_weigh x2 x3 m) fun _ m4 =>
      bn (P_Parting_nextWay m4) fun r7 m8 =>
      vb (x5 + 1 : Int32) fun v11 =>
      P_Parting_divide_27 n x2 x3 r7 v11 m8))
set_option maxRecDepth 100000 in
def P_Parting_divide_22 (x2 : Int32) (x3 : Int32) (s0 : Int32) (m : Mem) : Option (Int32 × Mem) :=
  P_Parting_divide_27 FU x2 x3 s0 0 m
set_option maxRecDepth 100000 in
def P_Parting_divide (x1 : Int32) (x2 : Int32) (x3 : Int32) (m : Mem) : Option (Int32 × Mem) :=
  bn (P_Parting_gather x1 m) fun _ m2 =>
  vb (sI m2 906 41 (-1)) fun m6 =>
  if (mI m6 901 41) ≤ 0 then (
    P_Parting_divide_22 x2 x3 0 m6)
  else (
    P_Parting_divide_22 x2 x3 1 m6)
set_option maxRecDepth 100000 in
def P_parting (x1 : Int32) (x2 : Int32) (x3 : Int32) (m : Mem) : Option (Int32 × Mem) :=
  bp (P_within x1 1 65535) fun r1 =>
  if r1 = 0 then (
    some ((-1), m))
  else (
    bp (J_bitCount x1) fun r3 =>
    if r3 ≤ 7 then (
      bp (P_within x2 1 7) fun r5 =>
      if r5 = 0 then (
        some ((-1), m))
      else (
        bp (P_within x3 0 999) fun r7 =>
        if r7 = 0 then (
          some ((-1), m))
        else (
          bn (P_Parting_divide x1 x2 x3 m) fun r9 m10 =>
          some (r9, m10))))
    else (
      some ((-1), m)))
set_option maxRecDepth 100000 in
def P_part (x1 : Int32) (x2 : Int32) (m : Mem) : Option (Int32 × Mem) :=
  bp (P_isTask x1) fun r1 =>
  if r1 = 0 then (
    some ((-1), m))
  else (
    gd (inb x1 16) <|
    if (aI m 44 (ix x1)) = (-1) then (
      some ((-1), m))
    else (
      if x2 = 0 then (
        gd (inb x1 16) <|
        some (aI m 44 (ix x1), m))
      else (
        if x2 = 1 then (
          gd (inb x1 16) <|
          some (aI m 45 (ix x1), m))
        else (
          some ((-1), m)))))
set_option maxRecDepth 100000 in
def P_turned_72 (x3 : Int32) (x4 : Int32) (m : Mem) : Option (Int32 × Mem) :=
  some ((x3 * 20) + x4, m)
set_option maxRecDepth 100000 in
def P_turned_86 (k26 : Int32 → Int32 → Int32 → Mem → Option (Int32 × Mem)) (x1 : Int32) (x2 : Int32) (x3 : Int32) (m : Mem) : Option (Int32 × Mem) :=
  vb (x3 + 1 : Int32) fun v1 =>
  k26 x1 x2 v1 m
set_option maxRecDepth 100000 in
def P_turned_40 (k26 : Int32 → Int32 → Int32 → Mem → Option (Int32 × Mem)) : Nat → Int32 → Int32 → Int32 → Int32 → Mem → Option (Int32 × Mem)
  | 0, _, _, _, _, _ => none
  | n + 1, x1, x2, x3, x4, m =>
  if 20 ≤ x4 then (
    P_turned_86 k26 x1 x2 x3 m)
  else (
    bn (P_Reckoning_weekPay x3 x4 x1 m) fun r2 m3 =>
    bn (P_Reckoning_weekPay x3 x4 x2 m3) fun r6 m7 =>
    if r2 = r6 then (
      vb (x4 + 1 : Int32) fun v11 =>
      P_turned_40 k26 n x1 x2 x3 v11 m7)
    else (
      P_turned_72 x3 x4 m7))
set_option maxRecDepth 100000 in
def P_turned_26 : Nat → Int32 → Int32 → Int32 → Mem → Option (Int32 × Mem)
  | 0, _, _, _, _ => none
  | n + 1, x1, x2, x3, m =>
  if (mI m 386 5) ≤ x3 then (
    some ((-1), m))
  else (
    P_turned_40 (fun z0 z1 z2 z3 => P_turned_26 n z0 z1 z2 z3) FU x1 x2 x3 0 m)
set_option maxRecDepth 100000 in
def P_turned (x1 : Int32) (x2 : Int32) (m : Mem) : Option (Int32 × Mem) :=
  bn (P_Ledger_canKnow x1 m) fun r1 m2 =>
  if r1 = 0 then (
    some ((-1), m2))
  else (
    bn (P_Ledger_canKnow x2 m2) fun r6 m7 =>
    if r6 = 0 then (
      some ((-1), m7))
    else (
      P_turned_26 FU x1 x2 0 m7))
set_option maxRecDepth 100000 in
def P_count (x1 : Int32) (m : Mem) : Option (Int32 × Mem) :=
  if x1 = 0 then (
    some (mI m 384 5, m))
  else   if x1 = 1 then (
    some (mI m 385 5, m))
  else   if x1 = 2 then (
    some (mI m 386 5, m))
  else   if x1 = 3 then (
    some (mI m 514 13, m))
  else   if x1 = 4 then (
    some (mI m 515 13, m))
  else   if x1 = 5 then (
    some (mI m 771 22, m))
  else   if x1 = 6 then (
    some (mI m 641 16, m))
  else (
    some ((-1), m))
set_option maxRecDepth 100000 in
def R_more (x0 : Int64) (x2 : Int32) : Option (Int64) :=
  if x2 = 0 then (
    some (x0))
  else (
    some ((27 * x0) + (Int32.toInt64 ((x2 - 97) + 1))))
set_option maxRecDepth 100000 in
def R_word (x0 : Int32) (x1 : Int32) (x2 : Int32) (x3 : Int32) (x4 : Int32) (x5 : Int32) (x6 : Int32) : Option (Int64) :=
  bp (R_more 0 x0) fun r1 =>
  bp (R_more r1 x1) fun r2 =>
  bp (R_more r2 x2) fun r3 =>
  bp (R_more r3 x3) fun r4 =>
  bp (R_more r4 x4) fun r5 =>
  bp (R_more r5 x5) fun r6 =>
  bp (R_more r6 x6) fun r7 =>
  some (r7)
set_option maxRecDepth 100000 in
def R_init_1567 : Nat → Nat → Int32 → Mem → Option (Unit × Mem)
  | 0, _, _, _ => none
  | n + 1, a0, x1, m =>
  if 4 ≤ x1 then (
    some ((), m))
  else (
    gs (mR m 1600 a0) fun a2 =>
    gt m a2 32 <|
    gd (inb x1 (mN m a2)) <|
    vb (wI m a2 (ix x1) 1) fun m6 =>
    vb (x1 + 1 : Int32) fun v9 =>
    R_init_1567 n a0 v9 m6)
set_option maxRecDepth 100000 in
def R_init (a0 : Nat) (m : Mem) : Option (Unit × Mem) :=
  gd (inb 2000 65536) <|
  vb (nw m 33 (ix 2000) (ix 2000)) fun m2 =>
  gt m2 a0 13 <|
  vb (sR m2 1537 a0 (some (mC m))) fun m6 =>
  gd (inb 2000 65536) <|
  vb (nw m6 33 (ix 2000) (ix 2000)) fun m10 =>
  gt m10 a0 13 <|
  vb (sR m10 1539 a0 (some (mC m6))) fun m15 =>
  gd (inb 503 65536) <|
  vb (nw m15 32 (ix 503) (ix 503)) fun m19 =>
  gt m19 a0 13 <|
  vb (sR m19 1541 a0 (some (mC m15))) fun m24 =>
  gd (inb 503 65536) <|
  vb (nw m24 32 (ix 503) (ix 503)) fun m28 =>
  gt m28 a0 13 <|
  vb (sR m28 1542 a0 (some (mC m24))) fun m33 =>
  gd (inb 503 65536) <|
  vb (nw m33 32 (ix 503) (ix 503)) fun m37 =>
  gt m37 a0 13 <|
  vb (sR m37 1543 a0 (some (mC m33))) fun m42 =>
  gd (inb 503 65536) <|
  vb (nw m42 35 (ix 503) (ix 503)) fun m46 =>
  gt m46 a0 13 <|
  vb (sR m46 1544 a0 (some (mC m42))) fun m51 =>
  gd (inb 40 65536) <|
  vb (nw m51 35 (ix 40) (ix 40)) fun m55 =>
  gt m55 a0 13 <|
  vb (sR m55 1545 a0 (some (mC m51))) fun m60 =>
  vb (sI m60 1553 a0 (-1)) fun m63 =>
  gd (inb 25 65536) <|
  vb (nw m63 32 (ix 25) (ix 25)) fun m67 =>
  gt m67 a0 13 <|
  vb (sR m67 1555 a0 (some (mC m63))) fun m72 =>
  gd (inb 25 65536) <|
  vb (nw m72 32 (ix 25) (ix 25)) fun m76 =>
  gt m76 a0 13 <|
  vb (sR m76 1556 a0 (some (mC m72))) fun m81 =>
  gd (inb 25 65536) <|
  vb (nw m81 32 (ix 25) (ix 25)) fun m85 =>
  gt m85 a0 13 <|
  vb (sR m85 1557 a0 (some (mC m81))) fun m90 =>
  gd (inb 25 65536) <|
  vb (nw m90 32 (ix 25) (ix 25)) fun m94 =>
  gt m94 a0 13 <|
  vb (sR m94 1558 a0 (some (mC m90))) fun m99 =>
  gd (inb 25 65536) <|
  vb (nw m99 32 (ix 25) (ix 25)) fun m103 =>
  gt m103 a0 13 <|
  vb (sR m103 1559 a0 (some (mC m99))) fun m108 =>
  gd (inb 25 65536) <|
  vb (nw m108 32 (ix 25) (ix 25)) fun m112 =>
  gt m112 a0 13 <|
  vb (sR m112 1560 a0 (some (mC m108))) fun m117 =>
  gd (inb 25 65536) <|
  vb (nw m117 32 (ix 25) (ix 25)) fun m121 =>
  gt m121 a0 13 <|
  vb (sR m121 1561 a0 (some (mC m117))) fun m126 =>
  gd (inb 750 65536) <|
  vb (nw m126 32 (ix 750) (ix 750)) fun m130 =>
  gt m130 a0 13 <|
  vb (sR m130 1562 a0 (some (mC m126))) fun m135 =>
  gd (inb 750 65536) <|
  vb (nw m135 32 (ix 750) (ix 750)) fun m139 =>
  gt m139 a0 13 <|
  vb (sR m139 1563 a0 (some (mC m135))) fun m144 =>
  gd (inb 750 65536) <|
  vb (nw m144 32 (ix 750) (ix 750)) fun m148 =>
  gt m148 a0 13 <|
  vb (sR m148 1564 a0 (some (mC m144))) fun m153 =>
  gd (inb 750 65536) <|
  vb (nw m153 34 (ix 750) (ix 750)) fun m157 =>
  gt m157 a0 13 <|
  vb (sR m157 1565 a0 (some (mC m153))) fun m162 =>
  gd (inb 750 65536) <|
  vb (nw m162 32 (ix 750) (ix 750)) fun m166 =>
  gt m166 a0 13 <|
  vb (sR m166 1566 a0 (some (mC m162))) fun m171 =>
  gd (inb 750 65536) <|
  vb (nw m171 32 (ix 750) (ix 750)) fun m175 =>
  gt m175 a0 13 <|
  vb (sR m175 1567 a0 (some (mC m171))) fun m180 =>
  gd (inb 750 65536) <|
  vb (nw m180 32 (ix 750) (ix 750)) fun m184 =>
  gt m184 a0 13 <|
  vb (sR m184 1568 a0 (some (mC m180))) fun m189 =>
  gd (inb 750 65536) <|
  vb (nw m189 32 (ix 750) (ix 750)) fun m193 =>
  gt m193 a0 13 <|
  vb (sR m193 1569 a0 (some (mC m189))) fun m198 =>
  gd (inb 750 65536) <|
  vb (nw m198 32 (ix 750) (ix 750)) fun m202 =>
  gt m202 a0 13 <|
  vb (sR m202 1570 a0 (some (mC m198))) fun m207 =>
  gd (inb 750 65536) <|
  vb (nw m207 32 (ix 750) (ix 750)) fun m211 =>
  gt m211 a0 13 <|
  vb (sR m211 1571 a0 (some (mC m207))) fun m216 =>
  gd (inb 750 65536) <|
  vb (nw m216 32 (ix 750) (ix 750)) fun m220 =>
  gt m220 a0 13 <|
  vb (sR m220 1572 a0 (some (mC m216))) fun m225 =>
  gd (inb 3000 65536) <|
  vb (nw m225 32 (ix 3000) (ix 3000)) fun m229 =>
  gt m229 a0 13 <|
  vb (sR m229 1573 a0 (some (mC m225))) fun m234 =>
  gd (inb 5000 65536) <|
  vb (nw m234 32 (ix 5000) (ix 5000)) fun m238 =>
  gt m238 a0 13 <|
  vb (sR m238 1574 a0 (some (mC m234))) fun m243 =>
  gd (inb 5000 65536) <|
  vb (nw m243 34 (ix 5000) (ix 5000)) fun m247 =>
  gt m247 a0 13 <|
  vb (sR m247 1575 a0 (some (mC m243))) fun m252 =>
  gd (inb 5000 65536) <|
  vb (nw m252 34 (ix 5000) (ix 5000)) fun m256 =>
  gt m256 a0 13 <|
  vb (sR m256 1576 a0 (some (mC m252))) fun m261 =>
  gd (inb 5000 65536) <|
  vb (nw m261 32 (ix 5000) (ix 5000)) fun m265 =>
  gt m265 a0 13 <|
  vb (sR m265 1577 a0 (some (mC m261))) fun m270 =>
  gd (inb 5000 65536) <|
  vb (nw m270 32 (ix 5000) (ix 5000)) fun m274 =>
  gt m274 a0 13 <|
  vb (sR m274 1578 a0 (some (mC m270))) fun m279 =>
  gd (inb 5000 65536) <|
  vb (nw m279 32 (ix 5000) (ix 5000)) fun m283 =>
  gt m283 a0 13 <|
  vb (sR m283 1579 a0 (some (mC m279))) fun m288 =>
  gd (inb 12500 65536) <|
  vb (nw m288 32 (ix 12500) (ix 12500)) fun m292 =>
  gt m292 a0 13 <|
  vb (sR m292 1582 a0 (some (mC m288))) fun m297 =>
  gd (inb 12500 65536) <|
  vb (nw m297 32 (ix 12500) (ix 12500)) fun m301 =>
  gt m301 a0 13 <|
  vb (sR m301 1583 a0 (some (mC m297))) fun m306 =>
  gd (inb 600 65536) <|
  vb (nw m306 35 (ix 600) (ix 600)) fun m310 =>
  gt m310 a0 13 <|
  vb (sR m310 1586 a0 (some (mC m306))) fun m315 =>
  gd (inb 64 65536) <|
  vb (nw m315 32 (ix 64) (ix 64)) fun m319 =>
  gt m319 a0 13 <|
  vb (sR m319 1589 a0 (some (mC m315))) fun m324 =>
  gd (inb 8 65536) <|
  vb (nw m324 32 (ix 8) (ix 8)) fun m328 =>
  gt m328 a0 13 <|
  vb (sR m328 1593 a0 (some (mC m324))) fun m333 =>
  gd (inb 8 65536) <|
  vb (nw m333 32 (ix 8) (ix 8)) fun m337 =>
  gt m337 a0 13 <|
  vb (sR m337 1594 a0 (some (mC m333))) fun m342 =>
  gd (inb 10 65536) <|
  vb (nw m342 32 (ix 10) (ix 10)) fun m346 =>
  gt m346 a0 13 <|
  vb (sR m346 1596 a0 (some (mC m342))) fun m351 =>
  gd (inb 10 65536) <|
  vb (nw m351 32 (ix 10) (ix 10)) fun m355 =>
  gt m355 a0 13 <|
  vb (sR m355 1597 a0 (some (mC m351))) fun m360 =>
  gd (inb 10 65536) <|
  vb (nw m360 32 (ix 10) (ix 10)) fun m364 =>
  gt m364 a0 13 <|
  vb (sR m364 1598 a0 (some (mC m360))) fun m369 =>
  gd (inb 16 65536) <|
  vb (nw m369 32 (ix 16) (ix 16)) fun m373 =>
  gt m373 a0 13 <|
  vb (sR m373 1599 a0 (some (mC m369))) fun m378 =>
  gd (inb 4 65536) <|
  vb (nw m378 32 (ix 4) (ix 4)) fun m382 =>
  gt m382 a0 13 <|
  vb (sR m382 1600 a0 (some (mC m378))) fun m387 =>
  gd (inb 160 65536) <|
  vb (nw m387 32 (ix 160) (ix 160)) fun m391 =>
  gt m391 a0 13 <|
  vb (sR m391 1602 a0 (some (mC m387))) fun m396 =>
  gd (inb 160 65536) <|
  vb (nw m396 32 (ix 160) (ix 160)) fun m400 =>
  gt m400 a0 13 <|
  vb (sR m400 1603 a0 (some (mC m396))) fun m405 =>
  gd (inb 160 65536) <|
  vb (nw m405 32 (ix 160) (ix 160)) fun m409 =>
  gt m409 a0 13 <|
  vb (sR m409 1604 a0 (some (mC m405))) fun m414 =>
  gd (inb 160 65536) <|
  vb (nw m414 32 (ix 160) (ix 160)) fun m418 =>
  gt m418 a0 13 <|
  vb (sR m418 1605 a0 (some (mC m414))) fun m423 =>
  gd (inb 160 65536) <|
  vb (nw m423 32 (ix 160) (ix 160)) fun m427 =>
  gt m427 a0 13 <|
  vb (sR m427 1606 a0 (some (mC m423))) fun m432 =>
  gd (inb 7680 65536) <|
  vb (nw m432 32 (ix 7680) (ix 7680)) fun m436 =>
  gt m436 a0 13 <|
  vb (sR m436 1607 a0 (some (mC m432))) fun m441 =>
  gd (inb 12 65536) <|
  vb (nw m441 32 (ix 12) (ix 12)) fun m445 =>
  gt m445 a0 13 <|
  vb (sR m445 1608 a0 (some (mC m441))) fun m450 =>
  gd (inb 500 65536) <|
  vb (nw m450 32 (ix 500) (ix 500)) fun m454 =>
  gt m454 a0 13 <|
  vb (sR m454 1609 a0 (some (mC m450))) fun m459 =>
  vb (sI m459 1612 a0 (-1)) fun m462 =>
  gd (inb 24 65536) <|
  vb (nw m462 34 (ix 24) (ix 24)) fun m466 =>
  gt m466 a0 13 <|
  vb (sR m466 1615 a0 (some (mC m462))) fun m471 =>
  gd (inb 24 65536) <|
  vb (nw m471 32 (ix 24) (ix 24)) fun m475 =>
  gt m475 a0 13 <|
  vb (sR m475 1616 a0 (some (mC m471))) fun m480 =>
  gd (inb 1536 65536) <|
  vb (nw m480 32 (ix 1536) (ix 1536)) fun m484 =>
  gt m484 a0 13 <|
  vb (sR m484 1617 a0 (some (mC m480))) fun m489 =>
  gd (inb 1536 65536) <|
  vb (nw m489 32 (ix 1536) (ix 1536)) fun m493 =>
  gt m493 a0 13 <|
  vb (sR m493 1618 a0 (some (mC m489))) fun m498 =>
  gd (inb 24 65536) <|
  vb (nw m498 32 (ix 24) (ix 24)) fun m502 =>
  gt m502 a0 13 <|
  vb (sR m502 1619 a0 (some (mC m498))) fun m507 =>
  gd (inb 24 65536) <|
  vb (nw m507 32 (ix 24) (ix 24)) fun m511 =>
  gt m511 a0 13 <|
  vb (sR m511 1620 a0 (some (mC m507))) fun m516 =>
  gd (inb 720 65536) <|
  vb (nw m516 32 (ix 720) (ix 720)) fun m520 =>
  gt m520 a0 13 <|
  vb (sR m520 1621 a0 (some (mC m516))) fun m525 =>
  vb (sI m525 1622 a0 (-1)) fun m528 =>
  gd (inb 1536 65536) <|
  vb (nw m528 32 (ix 1536) (ix 1536)) fun m532 =>
  gt m532 a0 13 <|
  vb (sR m532 1626 a0 (some (mC m528))) fun m537 =>
  vb (sI m537 1627 a0 (-1)) fun m540 =>
  gd (inb 48 65536) <|
  vb (nw m540 32 (ix 48) (ix 48)) fun m544 =>
  gt m544 a0 13 <|
  vb (sR m544 1630 a0 (some (mC m540))) fun m549 =>
  gd (inb 48 65536) <|
  vb (nw m549 32 (ix 48) (ix 48)) fun m553 =>
  gt m553 a0 13 <|
  vb (sR m553 1631 a0 (some (mC m549))) fun m558 =>
  gd (inb 48 65536) <|
  vb (nw m558 32 (ix 48) (ix 48)) fun m562 =>
  gt m562 a0 13 <|
  vb (sR m562 1632 a0 (some (mC m558))) fun m567 =>
  gd (inb 48 65536) <|
  vb (nw m567 32 (ix 48) (ix 48)) fun m571 =>
  gt m571 a0 13 <|
  vb (sR m571 1633 a0 (some (mC m567))) fun m576 =>
  gd (inb 48 65536) <|
  vb (nw m576 32 (ix 48) (ix 48)) fun m580 =>
  gt m580 a0 13 <|
  vb (sR m580 1634 a0 (some (mC m576))) fun m585 =>
  gd (inb 48 65536) <|
  vb (nw m585 32 (ix 48) (ix 48)) fun m589 =>
  gt m589 a0 13 <|
  vb (sR m589 1635 a0 (some (mC m585))) fun m594 =>
  gd (inb 48 65536) <|
  vb (nw m594 32 (ix 48) (ix 48)) fun m598 =>
  gt m598 a0 13 <|
  vb (sR m598 1636 a0 (some (mC m594))) fun m603 =>
  gd (inb 48 65536) <|
  vb (nw m603 32 (ix 48) (ix 48)) fun m607 =>
  gt m607 a0 13 <|
  vb (sR m607 1637 a0 (some (mC m603))) fun m612 =>
  gd (inb 24 65536) <|
  vb (nw m612 34 (ix 24) (ix 24)) fun m616 =>
  gt m616 a0 13 <|
  vb (sR m616 1640 a0 (some (mC m612))) fun m621 =>
  gd (inb 1536 65536) <|
  vb (nw m621 32 (ix 1536) (ix 1536)) fun m625 =>
  gt m625 a0 13 <|
  vb (sR m625 1641 a0 (some (mC m621))) fun m630 =>
  gd (inb 64 65536) <|
  vb (nw m630 32 (ix 64) (ix 64)) fun m634 =>
  gt m634 a0 13 <|
  vb (sR m634 1644 a0 (some (mC m630))) fun m639 =>
  gd (inb 64 65536) <|
  vb (nw m639 32 (ix 64) (ix 64)) fun m643 =>
  gt m643 a0 13 <|
  vb (sR m643 1645 a0 (some (mC m639))) fun m648 =>
  gd (inb 24 65536) <|
  vb (nw m648 35 (ix 24) (ix 24)) fun m652 =>
  gt m652 a0 13 <|
  vb (sR m652 1646 a0 (some (mC m648))) fun m657 =>
  gd (inb 16 65536) <|
  vb (nw m657 32 (ix 16) (ix 16)) fun m661 =>
  gt m661 a0 13 <|
  vb (sR m661 1647 a0 (some (mC m657))) fun m666 =>
  gd (inb 256 65536) <|
  vb (nw m666 34 (ix 256) (ix 256)) fun m670 =>
  gt m670 a0 13 <|
  vb (sR m670 1648 a0 (some (mC m666))) fun m675 =>
  gd (inb 16 65536) <|
  vb (nw m675 32 (ix 16) (ix 16)) fun m679 =>
  gt m679 a0 13 <|
  vb (sR m679 1649 a0 (some (mC m675))) fun m684 =>
  gd (inb 16 65536) <|
  vb (nw m684 32 (ix 16) (ix 16)) fun m688 =>
  gt m688 a0 13 <|
  vb (sR m688 1650 a0 (some (mC m684))) fun m693 =>
  gd (inb 7 65536) <|
  vb (nw m693 32 (ix 7) (ix 7)) fun m697 =>
  gt m697 a0 13 <|
  vb (sR m697 1652 a0 (some (mC m693))) fun m702 =>
  gd (inb 7 65536) <|
  vb (nw m702 32 (ix 7) (ix 7)) fun m706 =>
  gt m706 a0 13 <|
  vb (sR m706 1653 a0 (some (mC m702))) fun m711 =>
  gd (inb 7 65536) <|
  vb (nw m711 32 (ix 7) (ix 7)) fun m715 =>
  gt m715 a0 13 <|
  vb (sR m715 1654 a0 (some (mC m711))) fun m720 =>
  gd (inb 7 65536) <|
  vb (nw m720 32 (ix 7) (ix 7)) fun m724 =>
  gt m724 a0 13 <|
  vb (sR m724 1655 a0 (some (mC m720))) fun m729 =>
  gd (inb 7 65536) <|
  vb (nw m729 32 (ix 7) (ix 7)) fun m733 =>
  gt m733 a0 13 <|
  vb (sR m733 1656 a0 (some (mC m729))) fun m738 =>
  gs (mR m738 1545 a0) fun a741 =>
  bp (R_word 97 119 97 114 100 0 0) fun r743 =>
  gt m738 a741 35 <|
  gd (inb 0 (mN m738 a741)) <|
  vb (wL m738 a741 (ix 0) r743) fun m746 =>
  gs (mR m746 1545 a0) fun a750 =>
  bp (R_word 118 97 114 121 0 0 0) fun r752 =>
  gt m746 a750 35 <|
  gd (inb 1 (mN m746 a750)) <|
  vb (wL m746 a750 (ix 1) r752) fun m755 =>
  gs (mR m755 1545 a0) fun a760 =>
  bp (R_word 111 114 100 101 114 0 0) fun r762 =>
  gt m755 a760 35 <|
  gd (inb 2 (mN m755 a760)) <|
  vb (wL m755 a760 (ix 2) r762) fun m765 =>
  gs (mR m765 1545 a0) fun a771 =>
  bp (R_word 97 103 114 101 101 0 0) fun r773 =>
  gt m765 a771 35 <|
  gd (inb 3 (mN m765 a771)) <|
  vb (wL m765 a771 (ix 3) r773) fun m776 =>
  gs (mR m776 1545 a0) fun a783 =>
  bp (R_word 102 105 114 109 0 0 0) fun r785 =>
  gt m776 a783 35 <|
  gd (inb 4 (mN m776 a783)) <|
  vb (wL m776 a783 (ix 4) r785) fun m788 =>
  gs (mR m788 1545 a0) fun a796 =>
  bp (R_word 102 114 111 109 0 0 0) fun r798 =>
  gt m788 a796 35 <|
  gd (inb 5 (mN m788 a796)) <|
  vb (wL m788 a796 (ix 5) r798) fun m801 =>
  gs (mR m801 1545 a0) fun a810 =>
  bp (R_word 98 105 110 100 115 0 0) fun r812 =>
  gt m801 a810 35 <|
  gd (inb 6 (mN m801 a810)) <|
  vb (wL m801 a810 (ix 6) r812) fun m815 =>
  gs (mR m815 1545 a0) fun a825 =>
  bp (R_word 105 102 0 0 0 0 0) fun r827 =>
  gt m815 a825 35 <|
  gd (inb 7 (mN m815 a825)) <|
  vb (wL m815 a825 (ix 7) r827) fun m830 =>
  gs (mR m830 1545 a0) fun a841 =>
  bp (R_word 111 118 101 114 0 0 0) fun r843 =>
  gt m830 a841 35 <|
  gd (inb 8 (mN m830 a841)) <|
  vb (wL m830 a841 (ix 8) r843) fun m846 =>
  gs (mR m846 1545 a0) fun a858 =>
  bp (R_word 99 108 97 115 115 0 0) fun r860 =>
  gt m846 a858 35 <|
  gd (inb 9 (mN m846 a858)) <|
  vb (wL m846 a858 (ix 9) r860) fun m863 =>
  gs (mR m863 1545 a0) fun a876 =>
  bp (R_word 116 97 115 107 115 0 0) fun r878 =>
  gt m863 a876 35 <|
  gd (inb 10 (mN m863 a876)) <|
  vb (wL m863 a876 (ix 10) r878) fun m881 =>
  gs (mR m881 1545 a0) fun a895 =>
  bp (R_word 109 97 114 103 105 110 0) fun r897 =>
  gt m881 a895 35 <|
  gd (inb 11 (mN m881 a895)) <|
  vb (wL m881 a895 (ix 11) r897) fun m900 =>
  gs (mR m900 1545 a0) fun a915 =>
  bp (R_word 102 111 108 108 111 119 115) fun r917 =>
  gt m900 a915 35 <|
  gd (inb 12 (mN m900 a915)) <|
  vb (wL m900 a915 (ix 12) r917) fun m920 =>
  gs (mR m920 1545 a0) fun a936 =>
  bp (R_word 112 108 117 115 0 0 0) fun r938 =>
  gt m920 a936 35 <|
  gd (inb 13 (mN m920 a936)) <|
  vb (wL m920 a936 (ix 13) r938) fun m941 =>
  gs (mR m941 1545 a0) fun a958 =>
  bp (R_word 99 104 111 111 115 101 0) fun r960 =>
  gt m941 a958 35 <|
  gd (inb 14 (mN m941 a958)) <|
  vb (wL m941 a958 (ix 14) r960) fun m963 =>
  gs (mR m963 1545 a0) fun a981 =>
  bp (R_word 101 97 99 104 0 0 0) fun r983 =>
  gt m963 a981 35 <|
  gd (inb 15 (mN m963 a981)) <|
  vb (wL m963 a981 (ix 15) r983) fun m986 =>
  gs (mR m986 1545 a0) fun a1005 =>
  bp (R_word 109 111 115 116 0 0 0) fun r1007 =>
  gt m986 a1005 35 <|
  gd (inb 16 (mN m986 a1005)) <|
  vb (wL m986 a1005 (ix 16) r1007) fun m1010 =>
  gs (mR m1010 1545 a0) fun a1030 =>
  bp (R_word 104 105 103 104 101 115 116) fun r1032 =>
  gt m1010 a1030 35 <|
  gd (inb 17 (mN m1010 a1030)) <|
  vb (wL m1010 a1030 (ix 17) r1032) fun m1035 =>
  gs (mR m1035 1545 a0) fun a1056 =>
  bp (R_word 108 111 97 100 0 0 0) fun r1058 =>
  gt m1035 a1056 35 <|
  gd (inb 18 (mN m1035 a1056)) <|
  vb (wL m1035 a1056 (ix 18) r1058) fun m1061 =>
  gs (mR m1061 1545 a0) fun a1083 =>
  bp (R_word 101 120 116 114 97 0 0) fun r1085 =>
  gt m1061 a1083 35 <|
  gd (inb 19 (mN m1061 a1083)) <|
  vb (wL m1061 a1083 (ix 19) r1085) fun m1088 =>
  gs (mR m1088 1545 a0) fun a1111 =>
  bp (R_word 98 97 114 115 0 0 0) fun r1113 =>
  gt m1088 a1111 35 <|
  gd (inb 20 (mN m1088 a1111)) <|
  vb (wL m1088 a1111 (ix 20) r1113) fun m1116 =>
  gs (mR m1116 1545 a0) fun a1140 =>
  bp (R_word 114 111 117 110 100 0 0) fun r1142 =>
  gt m1116 a1140 35 <|
  gd (inb 21 (mN m1116 a1140)) <|
  vb (wL m1116 a1140 (ix 21) r1142) fun m1145 =>
  gs (mR m1145 1545 a0) fun a1170 =>
  bp (R_word 115 116 114 105 107 101 0) fun r1172 =>
  gt m1145 a1170 35 <|
  gd (inb 22 (mN m1145 a1170)) <|
  vb (wL m1145 a1170 (ix 22) r1172) fun m1175 =>
  gs (mR m1175 1545 a0) fun a1201 =>
  bp (R_word 105 115 0 0 0 0 0) fun r1203 =>
  gt m1175 a1201 35 <|
  gd (inb 23 (mN m1175 a1201)) <|
  vb (wL m1175 a1201 (ix 23) r1203) fun m1206 =>
  gs (mR m1206 1545 a0) fun a1233 =>
  bp (R_word 111 114 0 0 0 0 0) fun r1235 =>
  gt m1206 a1233 35 <|
  gd (inb 24 (mN m1206 a1233)) <|
  vb (wL m1206 a1233 (ix 24) r1235) fun m1238 =>
  gs (mR m1238 1545 a0) fun a1266 =>
  bp (R_word 97 110 100 0 0 0 0) fun r1268 =>
  gt m1238 a1266 35 <|
  gd (inb 25 (mN m1238 a1266)) <|
  vb (wL m1238 a1266 (ix 25) r1268) fun m1271 =>
  gs (mR m1271 1545 a0) fun a1300 =>
  bp (R_word 110 111 116 0 0 0 0) fun r1302 =>
  gt m1271 a1300 35 <|
  gd (inb 26 (mN m1271 a1300)) <|
  vb (wL m1271 a1300 (ix 26) r1302) fun m1305 =>
  gs (mR m1305 1545 a0) fun a1335 =>
  bp (R_word 116 105 99 107 101 116 0) fun r1337 =>
  gt m1305 a1335 35 <|
  gd (inb 27 (mN m1305 a1335)) <|
  vb (wL m1305 a1335 (ix 27) r1337) fun m1340 =>
  gs (mR m1340 1545 a0) fun a1371 =>
  bp (R_word 108 101 97 115 116 0 0) fun r1373 =>
  gt m1340 a1371 35 <|
  gd (inb 28 (mN m1340 a1371)) <|
  vb (wL m1340 a1371 (ix 28) r1373) fun m1376 =>
  gs (mR m1376 1545 a0) fun a1408 =>
  bp (R_word 121 101 97 114 115 0 0) fun r1410 =>
  gt m1376 a1408 35 <|
  gd (inb 29 (mN m1376 a1408)) <|
  vb (wL m1376 a1408 (ix 29) r1410) fun m1413 =>
  gs (mR m1413 1545 a0) fun a1446 =>
  bp (R_word 116 114 97 100 101 0 0) fun r1448 =>
  gt m1413 a1446 35 <|
  gd (inb 30 (mN m1413 a1446)) <|
  vb (wL m1413 a1446 (ix 30) r1448) fun m1451 =>
  gs (mR m1451 1545 a0) fun a1485 =>
  bp (R_word 116 111 119 110 0 0 0) fun r1487 =>
  gt m1451 a1485 35 <|
  gd (inb 31 (mN m1451 a1485)) <|
  vb (wL m1451 a1485 (ix 31) r1487) fun m1490 =>
  gs (mR m1490 1545 a0) fun a1525 =>
  bp (R_word 119 104 111 0 0 0 0) fun r1527 =>
  gt m1490 a1525 35 <|
  gd (inb 32 (mN m1490 a1525)) <|
  vb (wL m1490 a1525 (ix 32) r1527) fun m1530 =>
  gs (mR m1530 1545 a0) fun a1566 =>
  bp (R_word 116 97 115 107 0 0 0) fun r1568 =>
  gt m1530 a1566 35 <|
  gd (inb 33 (mN m1530 a1566)) <|
  vb (wL m1530 a1566 (ix 33) r1568) fun m1571 =>
  gs (mR m1571 1545 a0) fun a1608 =>
  bp (R_word 119 101 101 107 100 97 121) fun r1610 =>
  gt m1571 a1608 35 <|
  gd (inb 34 (mN m1571 a1608)) <|
  vb (wL m1571 a1608 (ix 34) r1610) fun m1613 =>
  gs (mR m1613 1545 a0) fun a1651 =>
  bp (R_word 104 97 108 102 0 0 0) fun r1653 =>
  gt m1613 a1651 35 <|
  gd (inb 35 (mN m1613 a1651)) <|
  vb (wL m1613 a1651 (ix 35) r1653) fun m1656 =>
  gs (mR m1656 1545 a0) fun a1695 =>
  bp (R_word 119 111 114 107 101 100 0) fun r1697 =>
  gt m1656 a1695 35 <|
  gd (inb 36 (mN m1656 a1695)) <|
  vb (wL m1656 a1695 (ix 36) r1697) fun m1700 =>
  gs (mR m1700 1545 a0) fun a1740 =>
  bp (R_word 119 101 101 107 0 0 0) fun r1742 =>
  gt m1700 a1740 35 <|
  gd (inb 37 (mN m1700 a1740)) <|
  vb (wL m1700 a1740 (ix 37) r1742) fun m1745 =>
  gs (mR m1745 1545 a0) fun a1786 =>
  bp (R_word 119 101 116 0 0 0 0) fun r1788 =>
  gt m1745 a1786 35 <|
  gd (inb 38 (mN m1745 a1786)) <|
  vb (wL m1745 a1786 (ix 38) r1788) fun m1791 =>
  gs (mR m1791 1545 a0) fun a1833 =>
  bp (R_word 114 97 116 101 0 0 0) fun r1835 =>
  gt m1791 a1833 35 <|
  gd (inb 39 (mN m1791 a1833)) <|
  vb (wL m1791 a1833 (ix 39) r1835) fun m1838 =>
  R_init_1567 FU a0 0 m1838
set_option maxRecDepth 100000 in
def R_put_3 : Nat → Int32 → Int32 → Mem → Option (Unit × Mem)
  | 0, _, _, _ => none
  | n + 1, x1, x2, m =>
  if x2 < 0 then (
    some ((), m))
  else (
    gd (inb (mI m 1538 0) 2000) <|
    vb (wI m 1 (ix (mI m 1538 0)) ((Int32.toInt8 ((Int32.toInt8 (x1 >>> (x2 &&& 31))).toInt32)).toInt32)) fun m5 =>
    vb (sI m5 1538 0 ((mI m5 1538 0) + 1)) fun m7 =>
    vb (x2 + (-8) : Int32) fun v8 =>
    R_put_3 n x1 v8 m7)
set_option maxRecDepth 100000 in
def R_put (x1 : Int32) (m : Mem) : Option (Unit × Mem) :=
  R_put_3 FU x1 24 m
set_option maxRecDepth 100000 in
def R_feed (x1 : Int32) (x2 : Int32) (x3 : Int32) (x4 : Int32) (x5 : Int32) (m : Mem) : Option (Int32 × Mem) :=
  if ((mI m 1538 0) + 20) ≤ 2000 then (
    bn (R_put x1 m) fun _ m3 =>
    bn (R_put x2 m3) fun _ m7 =>
    bn (R_put x3 m7) fun _ m11 =>
    bn (R_put x4 m11) fun _ m15 =>
    bn (R_put x5 m15) fun _ m19 =>
    some (mI m19 1538 0, m19))
  else (
    some ((-1), m))
set_option maxRecDepth 100000 in
def R_back (x1 : Int32) (m : Mem) : Option (Int32 × Mem) :=
  if x1 < 0 then (
    some ((-1), m))
  else (
    if x1 ≤ (mI m 1538 0) then (
      vb (sI m 1538 0 ((mI m 1538 0) - x1)) fun m4 =>
      some (mI m4 1538 0, m4))
    else (
      some ((-1), m)))
set_option maxRecDepth 100000 in
def R_at (x1 : Int32) (m : Mem) : Option (Int32 × Mem) :=
  if (mI m 1540 0) ≤ x1 then (
    some (0, m))
  else (
    gd (inb x1 2000) <|
    some ((aI m 2 (ix x1)) &&& 255, m))
set_option maxRecDepth 100000 in
def R_token (x1 : Int32) (x2 : Int32) (x3 : Int32) (x4 : Int64) (m : Mem) : Option (Unit × Mem) :=
  gd (inb (mI m 1546 0) 503) <|
  vb (wI m 3 (ix (mI m 1546 0)) x1) fun m4 =>
  gd (inb (mI m4 1546 0) 503) <|
  vb (wI m4 4 (ix (mI m4 1546 0)) x2) fun m8 =>
  gd (inb (mI m8 1546 0) 503) <|
  vb (wI m8 5 (ix (mI m8 1546 0)) x3) fun m12 =>
  gd (inb (mI m12 1546 0) 503) <|
  vb (wL m12 6 (ix (mI m12 1546 0)) x4) fun m16 =>
  vb (sI m16 1546 0 ((mI m16 1546 0) + 1)) fun m18 =>
  some ((), m18)
set_option maxRecDepth 100000 in
def R_isLetter (x0 : Int32) : Option (Int32) :=
  if x0 < 97 then (
    some (0))
  else (
    if 122 < x0 then (
      some (0))
    else (
      some (1)))
set_option maxRecDepth 100000 in
def R_isDigit (x0 : Int32) : Option (Int32) :=
  if x0 < 48 then (
    some (0))
  else (
    if 57 < x0 then (
      some (0))
    else (
      some (1)))
set_option maxRecDepth 100000 in
def R_sign_173 (x1 : Int32) (x4 : Int32) (x5 : Int32) (m : Mem) : Option (Int32 × Mem) :=
  bn (R_token x5 x1 0 0 m) fun _ m2 =>
  if x4 ≤ 0 then (
    some (1, m2))
  else (
    some (2, m2))
set_option maxRecDepth 100000 in
def R_sign_44 (x1 : Int32) (x2 : Int32) (s0 : Int32) (m : Mem) : Option (Int32 × Mem) :=
  if s0 ≤ 0 then (
    if x2 = 59 then (
      R_sign_173 x1 s0 4 m)
    else (
      if x2 = 40 then (
        R_sign_173 x1 s0 6 m)
      else (
        if x2 = 41 then (
          R_sign_173 x1 s0 7 m)
        else (
          if x2 = 43 then (
            R_sign_173 x1 s0 8 m)
          else (
            if x2 = 45 then (
              R_sign_173 x1 s0 9 m)
            else (
              if x2 = 42 then (
                R_sign_173 x1 s0 10 m)
              else (
                if x2 = 60 then (
                  R_sign_173 x1 s0 13 m)
                else (
                  if x2 = 44 then (
                    R_sign_173 x1 s0 5 m)
                  else (
                    if x2 = 47 then (
                      R_sign_173 x1 s0 15 m)
                    else (
                      R_sign_173 x1 s0 3 m))))))))))
  else (
    R_sign_173 x1 s0 s0 m)
set_option maxRecDepth 100000 in
def R_sign (x1 : Int32) (x2 : Int32) (x3 : Int32) (m : Mem) : Option (Int32 × Mem) :=
  if x3 = 61 then (
    if x2 = 61 then (
      R_sign_44 x1 x2 11 m)
    else (
      if x2 = 33 then (
        R_sign_44 x1 x2 12 m)
      else (
        if x2 = 60 then (
          R_sign_44 x1 x2 14 m)
        else (
          R_sign_44 x1 x2 0 m))))
  else (
    R_sign_44 x1 x2 0 m)
set_option maxRecDepth 100000 in
def R_cut_31 (m : Mem) : Option (Unit × Mem) :=
  bn (R_token 0 (mI m 1540 0) 0 0 m) fun _ m2 =>
  some ((), m2)
set_option maxRecDepth 100000 in
def R_cut_291 (k7 : Int32 → Mem → Option (Unit × Mem)) (x1 : Int32) (m : Mem) : Option (Unit × Mem) :=
  k7 x1 m
set_option maxRecDepth 100000 in
def R_cut_67 (k7 : Int32 → Mem → Option (Unit × Mem)) (x1 : Int32) (m : Mem) : Option (Unit × Mem) :=
  vb (x1 + 1 : Int32) fun v1 =>
  R_cut_291 k7 v1 m
set_option maxRecDepth 100000 in
def R_cut_118 (k7 : Int32 → Mem → Option (Unit × Mem)) (k85 : Int32 → Int32 → Int64 → Mem → Option (Unit × Mem)) (x1 : Int32) (x3 : Int32) (x4 : Int64) (m : Mem) : Option (Unit × Mem) :=
  vb (x3 + 1 : Int32) fun v1 =>
  k85 x1 v1 x4 m
set_option maxRecDepth 100000 in
def R_cut_173 (k7 : Int32 → Mem → Option (Unit × Mem)) (k146 : Int32 → Int32 → Int64 → Int32 → Int32 → Mem → Option (Unit × Mem)) (x1 : Int32) (x3 : Int32) (x4 : Int64) (x6 : Int32) (x7 : Int32) (m : Mem) : Option (Unit × Mem) :=
  vb (x7 + 1 : Int32) fun v1 =>
  k146 x1 x3 x4 x6 v1 m
set_option maxRecDepth 100000 in
def R_cut_179 (k7 : Int32 → Mem → Option (Unit × Mem)) (x1 : Int32) (x3 : Int32) (x4 : Int64) (x6 : Int32) (m : Mem) : Option (Unit × Mem) :=
  bn (R_token x6 x1 0 x4 m) fun _ m2 =>
  vb (x1 + x3 : Int32) fun v5 =>
  R_cut_291 k7 v5 m2
set_option maxRecDepth 100000 in
def R_cut_146 (k7 : Int32 → Mem → Option (Unit × Mem)) : Nat → Int32 → Int32 → Int64 → Int32 → Int32 → Mem → Option (Unit × Mem)
  | 0, _, _, _, _, _, _ => none
  | n + 1, x1, x3, x4, x6, x7, m =>
  if 40 ≤ x7 then (
    R_cut_179 k7 x1 x3 x4 x6 m)
  else (
    gd (inb x7 40) <|
    if (lg_cmp (aL m 7 (ix x7)) x4) = 0 then (
      vb (20 + x7 : Int32) fun v4 =>
      R_cut_173 k7 (fun z0 z1 z2 z3 z4 z5 => R_cut_146 k7 n z0 z1 z2 z3 z4 z5) x1 x3 x4 v4 x7 m)
    else (
      R_cut_173 k7 (fun z0 z1 z2 z3 z4 z5 => R_cut_146 k7 n z0 z1 z2 z3 z4 z5) x1 x3 x4 x6 x7 m))
set_option maxRecDepth 100000 in
def R_cut_135 (k7 : Int32 → Mem → Option (Unit × Mem)) (x1 : Int32) (x3 : Int32) (x4 : Int64) (s0 : Int32) (m : Mem) : Option (Unit × Mem) :=
  if 7 < x3 then (
    R_cut_179 k7 x1 x3 x4 s0 m)
  else (
    R_cut_146 k7 FU x1 x3 x4 s0 0 m)
set_option maxRecDepth 100000 in
def R_cut_124 (k7 : Int32 → Mem → Option (Unit × Mem)) (x1 : Int32) (x3 : Int32) (x4 : Int64) (m : Mem) : Option (Unit × Mem) :=
  if x3 ≤ 8 then (
    R_cut_135 k7 x1 x3 x4 1 m)
  else (
    R_cut_135 k7 x1 x3 x4 3 m)
set_option maxRecDepth 100000 in
def R_cut_85 (k7 : Int32 → Mem → Option (Unit × Mem)) : Nat → Int32 → Int32 → Int64 → Mem → Option (Unit × Mem)
  | 0, _, _, _, _ => none
  | n + 1, x1, x3, x4, m =>
  bn (R_at (x1 + x3) m) fun r1 m2 =>
  bp (R_isLetter r1) fun r5 =>
  if r5 = 0 then (
    R_cut_124 k7 x1 x3 x4 m2)
  else (
    if 8 ≤ x3 then (
      R_cut_118 k7 (fun z0 z1 z2 z3 => R_cut_85 k7 n z0 z1 z2 z3) x1 x3 x4 m2)
    else (
      bn (R_at (x1 + x3) m2) fun r8 m9 =>
      bp (R_more x4 r8) fun r12 =>
      R_cut_118 k7 (fun z0 z1 z2 z3 => R_cut_85 k7 n z0 z1 z2 z3) x1 x3 r12 m9))
set_option maxRecDepth 100000 in
def R_cut_244 (k7 : Int32 → Mem → Option (Unit × Mem)) (k208 : Int32 → Int32 → Int32 → Mem → Option (Unit × Mem)) (x1 : Int32) (x3 : Int32) (x4 : Int32) (m : Mem) : Option (Unit × Mem) :=
  vb (x3 + 1 : Int32) fun v1 =>
  k208 x1 v1 x4 m
set_option maxRecDepth 100000 in
def R_cut_261 (k7 : Int32 → Mem → Option (Unit × Mem)) (x1 : Int32) (x3 : Int32) (x4 : Int32) (s0 : Int32) (m : Mem) : Option (Unit × Mem) :=
  bn (R_token s0 x1 x4 0 m) fun _ m2 =>
  vb (x1 + x3 : Int32) fun v5 =>
  R_cut_291 k7 v5 m2
set_option maxRecDepth 100000 in
def R_cut_250 (k7 : Int32 → Mem → Option (Unit × Mem)) (x1 : Int32) (x3 : Int32) (x4 : Int32) (m : Mem) : Option (Unit × Mem) :=
  if x3 ≤ 4 then (
    R_cut_261 k7 x1 x3 x4 2 m)
  else (
    R_cut_261 k7 x1 x3 x4 3 m)
set_option maxRecDepth 100000 in
def R_cut_208 (k7 : Int32 → Mem → Option (Unit × Mem)) : Nat → Int32 → Int32 → Int32 → Mem → Option (Unit × Mem)
  | 0, _, _, _, _ => none
  | n + 1, x1, x3, x4, m =>
  bn (R_at (x1 + x3) m) fun r1 m2 =>
  bp (R_isDigit r1) fun r5 =>
  if r5 = 0 then (
    R_cut_250 k7 x1 x3 x4 m2)
  else (
    if 4 ≤ x3 then (
      R_cut_244 k7 (fun z0 z1 z2 z3 => R_cut_208 k7 n z0 z1 z2 z3) x1 x3 x4 m2)
    else (
      bn (R_at (x1 + x3) m2) fun r8 m9 =>
      vb (((10 * x4) + r8) - 48 : Int32) fun v12 =>
      R_cut_244 k7 (fun z0 z1 z2 z3 => R_cut_208 k7 n z0 z1 z2 z3) x1 x3 v12 m9))
set_option maxRecDepth 100000 in
def R_cut_7 : Nat → Int32 → Mem → Option (Unit × Mem)
  | 0, _, _ => none
  | n + 1, x1, m =>
  if 500 < (mI m 1546 0) then (
    some ((), m))
  else (
    bn (R_at x1 m) fun r2 m3 =>
    if x1 < (mI m3 1540 0) then (
      if r2 = 9 then (
        R_cut_67 (fun z0 z1 => R_cut_7 n z0 z1) x1 m3)
      else (
        if r2 = 10 then (
          R_cut_67 (fun z0 z1 => R_cut_7 n z0 z1) x1 m3)
        else (
          if r2 = 13 then (
            R_cut_67 (fun z0 z1 => R_cut_7 n z0 z1) x1 m3)
          else (
            if r2 = 32 then (
              R_cut_67 (fun z0 z1 => R_cut_7 n z0 z1) x1 m3)
            else (
              bp (R_isLetter r2) fun r11 =>
              if r11 = 0 then (
                bp (R_isDigit r2) fun r13 =>
                if r13 = 0 then (
                  bn (R_at (x1 + 1) m3) fun r15 m16 =>
                  bn (R_sign x1 r2 r15 m16) fun r19 m20 =>
                  vb (x1 + r19 : Int32) fun v23 =>
                  R_cut_291 (fun z0 z1 => R_cut_7 n z0 z1) v23 m20)
                else (
                  R_cut_208 (fun z0 z1 => R_cut_7 n z0 z1) FU x1 0 0 m3))
              else (
                R_cut_85 (fun z0 z1 => R_cut_7 n z0 z1) FU x1 0 0 m3))))))
    else (
      R_cut_31 m3))
set_option maxRecDepth 100000 in
def R_cut (m : Mem) : Option (Unit × Mem) :=
  vb (sI m 1546 0 0) fun m2 =>
  R_cut_7 FU 0 m2
set_option maxRecDepth 100000 in
def R_fail (x1 : Int32) (m : Mem) : Option (Unit × Mem) :=
  if (mI m 1549 0) ≤ 0 then (
    vb (sI m 1549 0 x1) fun m3 =>
    gd (inb (mI m3 1547 0) 503) <|
    vb (sI m3 1550 0 (aI m3 4 (ix (mI m3 1547 0)))) fun m6 =>
    some ((), m6))
  else (
    some ((), m))
set_option maxRecDepth 100000 in
def R_next (m : Mem) : Option (Unit × Mem) :=
  if (mI m 1547 0) = 500 then (
    bn (R_fail 2 m) fun _ m3 =>
    some ((), m3))
  else (
    vb (sI m 1547 0 ((mI m 1547 0) + 1)) fun m7 =>
    some ((), m7))
set_option maxRecDepth 100000 in
def R_is (x1 : Int32) (m : Mem) : Option (Int32 × Mem) :=
  if (mI m 1549 0) = 0 then (
    gd (inb (mI m 1547 0) 503) <|
    if (aI m 3 (ix (mI m 1547 0))) = x1 then (
      some (1, m))
    else (
      some (0, m)))
  else (
    some (0, m))
set_option maxRecDepth 100000 in
def R_must (x1 : Int32) (m : Mem) : Option (Unit × Mem) :=
  bn (R_is x1 m) fun r1 m2 =>
  if r1 = 0 then (
    bn (R_fail 1 m2) fun _ m7 =>
    some ((), m7))
  else (
    bn (R_next m2) fun _ m11 =>
    some ((), m11))
set_option maxRecDepth 100000 in
def R_name_75 (x1 : Int32) (m : Mem) : Option (Int32 × Mem) :=
  gd (inb x1 503) <|
  gd (inb (mI m 1585 0) 600) <|
  vb (wL m 35 (ix (mI m 1585 0)) (aL m 6 (ix x1))) fun m5 =>
  vb (sI m5 1585 0 ((mI m5 1585 0) + 1)) fun m7 =>
  some ((mI m7 1585 0) - 1, m7)
set_option maxRecDepth 100000 in
def R_name_53 (x1 : Int32) (m : Mem) : Option (Int32 × Mem) :=
  if (mI m 1585 0) = 60 then (
    if (mI m 1587 0) = (-1) then (
      vb (sI m 1587 0 x1) fun m4 =>
      R_name_75 x1 m4)
    else (
      R_name_75 x1 m))
  else (
    R_name_75 x1 m)
set_option maxRecDepth 100000 in
def R_name_21 : Nat → Int32 → Int32 → Mem → Option (Int32 × Mem)
  | 0, _, _, _ => none
  | n + 1, x1, x2, m =>
  if (mI m 1585 0) ≤ x2 then (
    R_name_53 x1 m)
  else (
    gd (inb x2 600) <|
    gd (inb x1 503) <|
    if (lg_cmp (aL m 35 (ix x2)) (aL m 6 (ix x1))) = 0 then (
      some (x2, m))
    else (
      vb (x2 + 1 : Int32) fun v5 =>
      R_name_21 n x1 v5 m))
set_option maxRecDepth 100000 in
def R_name (m : Mem) : Option (Int32 × Mem) :=
  vb (mI m 1547 0 : Int32) fun v1 =>
  bn (R_must 1 m) fun _ m3 =>
  if (mI m3 1549 0) ≤ 0 then (
    R_name_21 FU v1 0 m3)
  else (
    some (0, m3))
set_option maxRecDepth 100000 in
def R_wrong_46 (x1 : Int32) (x3 : Int32) (m : Mem) : Option (Unit × Mem) :=
  vb (sI m 1551 0 x1) fun m2 =>
  vb (sI m2 1552 0 x3) fun m4 =>
  some ((), m4)
set_option maxRecDepth 100000 in
def R_wrong (x1 : Int32) (x2 : Int32) (m : Mem) : Option (Unit × Mem) :=
  gd (inb x2 503) <|
  vb (aI m 4 (ix x2) : Int32) fun v2 =>
  if 0 < (mI m 1549 0) then (
    some ((), m))
  else (
    if (mI m 1551 0) = 0 then (
      R_wrong_46 x1 v2 m)
    else (
      if (mI m 1552 0) < v2 then (
        some ((), m))
      else (
        if v2 = (mI m 1552 0) then (
          if x1 < (mI m 1551 0) then (
            R_wrong_46 x1 v2 m)
          else (
            some ((), m)))
        else (
          R_wrong_46 x1 v2 m))))
set_option maxRecDepth 100000 in
def R_number_52 (x3 : Int32) (x4 : Int32) (m : Mem) : Option (Int32 × Mem) :=
  bn (R_wrong 5 x3 m) fun _ m2 =>
  some (x4, m2)
set_option maxRecDepth 100000 in
def R_number_26 (x1 : Int32) (x2 : Int32) (x3 : Int32) (s0 : Int32) (m : Mem) : Option (Int32 × Mem) :=
  bn (R_must 2 m) fun _ m2 =>
  if (mI m2 1549 0) = 0 then (
    if s0 < x1 then (
      R_number_52 x3 s0 m2)
    else (
      if s0 ≤ x2 then (
        some (s0, m2))
      else (
        R_number_52 x3 s0 m2)))
  else (
    some (s0, m2))
set_option maxRecDepth 100000 in
def R_number (x1 : Int32) (x2 : Int32) (m : Mem) : Option (Int32 × Mem) :=
  vb (mI m 1547 0 : Int32) fun v1 =>
  bn (R_is 2 m) fun r2 m3 =>
  if r2 = 0 then (
    R_number_26 x1 x2 v1 0 m3)
  else (
    gd (inb (mI m3 1547 0) 503) <|
    R_number_26 x1 x2 v1 (aI m3 5 (ix (mI m3 1547 0))) m3)
set_option maxRecDepth 100000 in
def R_tellHead_178 (k137 : Int32 → Int32 → Int32 → Int32 → Mem → Option (Unit × Mem)) (x1 : Int32) (x2 : Int32) (x3 : Int32) (x4 : Int32) (m : Mem) : Option (Unit × Mem) :=
  vb (x4 + 1 : Int32) fun v1 =>
  k137 x1 x2 x3 v1 m
set_option maxRecDepth 100000 in
def R_tellHead_209 (x1 : Int32) (x2 : Int32) (x3 : Int32) (m : Mem) : Option (Unit × Mem) :=
  if x1 ≤ 0 then (
    some ((), m))
  else (
    if x3 = (-1) then (
      bn (R_wrong 4 x2 m) fun _ m4 =>
      some ((), m4))
    else (
      some ((), m)))
set_option maxRecDepth 100000 in
def R_tellHead_184 (x1 : Int32) (x2 : Int32) (x3 : Int32) (m : Mem) : Option (Unit × Mem) :=
  gd (inb (mI m 1588 0) 25) <|
  vb (wI m 13 (ix (mI m 1588 0)) x3) fun m4 =>
  if x1 = 0 then (
    if x3 = (-1) then (
      R_tellHead_209 x1 x2 x3 m4)
    else (
      bn (R_wrong 3 x2 m4) fun _ m8 =>
      R_tellHead_209 x1 x2 x3 m8))
  else (
    R_tellHead_209 x1 x2 x3 m4)
set_option maxRecDepth 100000 in
def R_tellHead_137 : Nat → Int32 → Int32 → Int32 → Int32 → Mem → Option (Unit × Mem)
  | 0, _, _, _, _, _ => none
  | n + 1, x1, x2, x3, x4, m =>
  if (mI m 1554 0) ≤ x4 then (
    R_tellHead_184 x1 x2 x3 m)
  else (
    gd (inb x4 25) <|
    if (aI m 8 (ix x4)) = 0 then (
      gd (inb x4 25) <|
      gd (inb (mI m 1588 0) 25) <|
      if (aI m 9 (ix x4)) = (aI m 9 (ix (mI m 1588 0))) then (
        R_tellHead_178 (fun z0 z1 z2 z3 z4 => R_tellHead_137 n z0 z1 z2 z3 z4) x1 x2 x4 x4 m)
      else (
        R_tellHead_178 (fun z0 z1 z2 z3 z4 => R_tellHead_137 n z0 z1 z2 z3 z4) x1 x2 x3 x4 m))
    else (
      R_tellHead_178 (fun z0 z1 z2 z3 z4 => R_tellHead_137 n z0 z1 z2 z3 z4) x1 x2 x3 x4 m))
set_option maxRecDepth 100000 in
def R_tellHead_96 (x1 : Int32) (x2 : Int32) (m : Mem) : Option (Unit × Mem) :=
  bn (R_must 25 m) fun _ m2 =>
  bn (R_number 0 139 m2) fun r5 m6 =>
  gd (inb (mI m2 1588 0) 25) <|
  vb (wI m6 11 (ix (mI m2 1588 0)) r5) fun m12 =>
  bn (R_must 4 m12) fun _ m14 =>
  if (mI m14 1549 0) ≤ 0 then (
    R_tellHead_137 FU x1 x2 (-1) 0 m14)
  else (
    some ((), m14))
set_option maxRecDepth 100000 in
def R_tellHead_27 (x1 : Int32) (m : Mem) : Option (Unit × Mem) :=
  bn (R_next m) fun _ m2 =>
  vb (mI m2 1547 0 : Int32) fun v5 =>
  gd (inb (mI m2 1588 0) 25) <|
  vb (wI m2 8 (ix (mI m2 1588 0)) x1) fun m9 =>
  bn (R_name m9) fun r10 m11 =>
  gd (inb (mI m9 1588 0) 25) <|
  vb (wI m11 9 (ix (mI m9 1588 0)) r10) fun m17 =>
  gd (inb (mI m17 1588 0) 25) <|
  vb (wI m17 10 (ix (mI m17 1588 0)) (-1)) fun m21 =>
  if x1 ≤ 1 then (
    R_tellHead_96 x1 v5 m21)
  else (
    bn (R_must 24 m21) fun _ m24 =>
    bn (R_number 0 7 m24) fun r27 m28 =>
    gd (inb (mI m24 1588 0) 25) <|
    vb (wI m28 10 (ix (mI m24 1588 0)) r27) fun m34 =>
    R_tellHead_96 x1 v5 m34)
set_option maxRecDepth 100000 in
def R_tellHead_22 (x1 : Int32) (m : Mem) : Option (Unit × Mem) :=
  bn (R_fail 1 m) fun _ m2 =>
  R_tellHead_27 x1 m2
set_option maxRecDepth 100000 in
def R_tellHead (m : Mem) : Option (Unit × Mem) :=
  gd (inb (mI m 1547 0) 503) <|
  vb ((aI m 3 (ix (mI m 1547 0))) - 20 : Int32) fun v2 =>
  if v2 < 0 then (
    R_tellHead_22 v2 m)
  else (
    if v2 ≤ 3 then (
      R_tellHead_27 v2 m)
    else (
      R_tellHead_22 v2 m))
set_option maxRecDepth 100000 in
def R_emit (x1 : Int32) (x2 : Int32) (m : Mem) : Option (Unit × Mem) :=
  gd (inb (mI m 1581 0) 12500) <|
  vb (wI m 33 (ix (mI m 1581 0)) x1) fun m4 =>
  gd (inb (mI m4 1581 0) 12500) <|
  vb (wI m4 34 (ix (mI m4 1581 0)) x2) fun m8 =>
  vb (sI m8 1581 0 ((mI m8 1581 0) + 1)) fun m10 =>
  some ((), m10)
set_option maxRecDepth 100000 in
def R_unit_88 (m : Mem) : Option (Unit × Mem) :=
  bn (R_fail 1 m) fun _ m2 =>
  some ((), m2)
set_option maxRecDepth 100000 in
def R_unit (m : Mem) : Option (Unit × Mem) :=
  bn (R_is 2 m) fun r1 m2 =>
  if r1 = 0 then (
    if (mI m2 1549 0) = 0 then (
      gd (inb (mI m2 1547 0) 503) <|
      if (aI m2 3 (ix (mI m2 1547 0))) < 48 then (
        R_unit_88 m2)
      else (
        gd (inb (mI m2 1547 0) 503) <|
        if 59 < (aI m2 3 (ix (mI m2 1547 0))) then (
          R_unit_88 m2)
        else (
          gd (inb (mI m2 1547 0) 503) <|
          bn (R_emit 1 ((aI m2 3 (ix (mI m2 1547 0))) - 48) m2) fun _ m13 =>
          bn (R_next m13) fun _ m17 =>
          some ((), m17))))
    else (
      R_unit_88 m2))
  else (
    gd (inb (mI m2 1547 0) 503) <|
    bn (R_emit 0 (aI m2 5 (ix (mI m2 1547 0))) m2) fun _ m22 =>
    bn (R_next m22) fun _ m26 =>
    some ((), m26))
set_option maxRecDepth 100000 in
def R_comesOut_84 (k0 : Int32 → Mem → Option (Unit × Mem)) (x1 : Int32) (s0 : Int32) (m : Mem) : Option (Unit × Mem) :=
  bn (R_emit s0 0 m) fun _ m2 =>
  k0 x1 m2
set_option maxRecDepth 100000 in
def R_comesOut_42 (k0 : Int32 → Mem → Option (Unit × Mem)) (x1 : Int32) (x2 : Int32) (m : Mem) : Option (Unit × Mem) :=
  vb (sI m 1590 0 ((mI m 1590 0) - 1)) fun m2 =>
  if x2 = 8 then (
    R_comesOut_84 k0 x1 2 m2)
  else (
    if x2 = 9 then (
      R_comesOut_84 k0 x1 3 m2)
    else (
      if x2 = 10 then (
        R_comesOut_84 k0 x1 4 m2)
      else (
        R_comesOut_84 k0 x1 5 m2)))
set_option maxRecDepth 100000 in
def R_comesOut_0 : Nat → Int32 → Mem → Option (Unit × Mem)
  | 0, _, _ => none
  | n + 1, x1, m =>
  if (mI m 1590 0) ≤ 0 then (
    some ((), m))
  else (
    gd (inb ((mI m 1590 0) - 1) 64) <|
    vb (aI m 36 (ix ((mI m 1590 0) - 1)) : Int32) fun v3 =>
    if v3 = 6 then (
      some ((), m))
    else (
      if x1 = 0 then (
        R_comesOut_42 (fun z0 z1 => R_comesOut_0 n z0 z1) x1 v3 m)
      else (
        if v3 = 8 then (
          some ((), m))
        else (
          if v3 = 9 then (
            some ((), m))
          else (
            R_comesOut_42 (fun z0 z1 => R_comesOut_0 n z0 z1) x1 v3 m)))))
set_option maxRecDepth 100000 in
def R_comesOut (x1 : Int32) (m : Mem) : Option (Unit × Mem) := R_comesOut_0 FU x1 m
set_option maxRecDepth 100000 in
def R_expression_46 (k12 : Int32 → Int32 → Mem → Option (Unit × Mem)) (k23 : Int32 → Mem → Option (Unit × Mem)) (x1 : Int32) (m : Mem) : Option (Unit × Mem) :=
  vb (sI m 1548 0 ((mI m 1548 0) + 1)) fun m2 =>
  bn (R_next m2) fun _ m4 =>
  gd (inb (mI m4 1590 0) 64) <|
  vb (wI m4 36 (ix (mI m4 1590 0)) 6) fun m10 =>
  vb (sI m10 1590 0 ((mI m10 1590 0) + 1)) fun m12 =>
  k23 x1 m12
set_option maxRecDepth 100000 in
def R_expression_204 (m : Mem) : Option (Unit × Mem) :=
  bn (R_comesOut 0 m) fun _ m2 =>
  some ((), m2)
set_option maxRecDepth 100000 in
def R_expression_191 (x1 : Int32) (m : Mem) : Option (Unit × Mem) :=
  if (mI m 1548 0) ≤ x1 then (
    R_expression_204 m)
  else (
    bn (R_fail 1 m) fun _ m3 =>
    R_expression_204 m3)
set_option maxRecDepth 100000 in
def R_expression_234 (k12 : Int32 → Int32 → Mem → Option (Unit × Mem)) (x1 : Int32) (x2 : Int32) (s0 : Int32) (m : Mem) : Option (Unit × Mem) :=
  bn (R_comesOut s0 m) fun _ m2 =>
  gd (inb (mI m2 1547 0) 503) <|
  gd (inb (mI m2 1590 0) 64) <|
  vb (wI m2 36 (ix (mI m2 1590 0)) (aI m2 3 (ix (mI m2 1547 0)))) fun m9 =>
  vb (sI m9 1590 0 ((mI m9 1590 0) + 1)) fun m11 =>
  bn (R_next m11) fun _ m13 =>
  k12 x1 x2 m13
set_option maxRecDepth 100000 in
def R_expression_229 (k12 : Int32 → Int32 → Mem → Option (Unit × Mem)) (x1 : Int32) (x2 : Int32) (m : Mem) : Option (Unit × Mem) :=
  R_expression_234 k12 x1 x2 1 m
set_option maxRecDepth 100000 in
def R_expression_186 (k12 : Int32 → Int32 → Mem → Option (Unit × Mem)) (x1 : Int32) (s0 : Int32) (m : Mem) : Option (Unit × Mem) :=
  if s0 = 0 then (
    R_expression_191 x1 m)
  else (
    bn (R_is 10 m) fun r2 m3 =>
    if r2 = 0 then (
      bn (R_is 15 m3) fun r7 m8 =>
      if r7 = 0 then (
        R_expression_234 k12 x1 s0 0 m8)
      else (
        R_expression_229 k12 x1 s0 m8))
    else (
      R_expression_229 k12 x1 s0 m3))
set_option maxRecDepth 100000 in
def R_expression_181 (k12 : Int32 → Int32 → Mem → Option (Unit × Mem)) (x1 : Int32) (m : Mem) : Option (Unit × Mem) :=
  R_expression_186 k12 x1 1 m
set_option maxRecDepth 100000 in
def R_expression_145 (k12 : Int32 → Int32 → Mem → Option (Unit × Mem)) (x1 : Int32) (m : Mem) : Option (Unit × Mem) :=
  bn (R_is 8 m) fun r1 m2 =>
  if r1 = 0 then (
    bn (R_is 9 m2) fun r6 m7 =>
    if r6 = 0 then (
      bn (R_is 10 m7) fun r11 m12 =>
      if r11 = 0 then (
        bn (R_is 15 m12) fun r16 m17 =>
        if r16 = 0 then (
          R_expression_186 k12 x1 0 m17)
        else (
          R_expression_181 k12 x1 m17))
      else (
        R_expression_181 k12 x1 m12))
    else (
      R_expression_181 k12 x1 m7))
  else (
    R_expression_181 k12 x1 m2)
set_option maxRecDepth 100000 in
def R_expression_96 (k12 : Int32 → Int32 → Mem → Option (Unit × Mem)) : Nat → Int32 → Mem → Option (Unit × Mem)
  | 0, _, _ => none
  | n + 1, x1, m =>
  bn (R_is 7 m) fun r1 m2 =>
  if r1 = 0 then (
    R_expression_145 k12 x1 m2)
  else (
    if (mI m2 1548 0) ≤ x1 then (
      R_expression_145 k12 x1 m2)
    else (
      bn (R_comesOut 0 m2) fun _ m8 =>
      vb (sI m8 1590 0 ((mI m8 1590 0) - 1)) fun m12 =>
      vb (sI m12 1548 0 ((mI m12 1548 0) - 1)) fun m14 =>
      bn (R_next m14) fun _ m16 =>
      R_expression_96 k12 n x1 m16))
set_option maxRecDepth 100000 in
def R_expression_84 (k12 : Int32 → Int32 → Mem → Option (Unit × Mem)) (x1 : Int32) (m : Mem) : Option (Unit × Mem) :=
  bn (R_unit m) fun _ m2 =>
  if (mI m2 1549 0) ≤ 0 then (
    R_expression_96 k12 FU x1 m2)
  else (
    some ((), m2))
set_option maxRecDepth 100000 in
def R_expression_23 (k12 : Int32 → Int32 → Mem → Option (Unit × Mem)) : Nat → Int32 → Mem → Option (Unit × Mem)
  | 0, _, _ => none
  | n + 1, x1, m =>
  bn (R_is 6 m) fun r1 m2 =>
  if r1 = 0 then (
    R_expression_84 k12 x1 m2)
  else (
    if (mI m2 1548 0) = 6 then (
      bn (R_fail 2 m2) fun _ m8 =>
      R_expression_46 k12 (fun z0 z1 => R_expression_23 k12 n z0 z1) x1 m8)
    else (
      R_expression_46 k12 (fun z0 z1 => R_expression_23 k12 n z0 z1) x1 m2))
set_option maxRecDepth 100000 in
def R_expression_12 : Nat → Int32 → Int32 → Mem → Option (Unit × Mem)
  | 0, _, _, _ => none
  | n + 1, x1, x2, m =>
  if x2 = 0 then (
    some ((), m))
  else (
    if (mI m 1549 0) = 0 then (
      R_expression_23 (fun z0 z1 z2 => R_expression_12 n z0 z1 z2) FU x1 m)
    else (
      some ((), m)))
set_option maxRecDepth 100000 in
def R_expression (m : Mem) : Option (Unit × Mem) :=
  vb (sI m 1590 0 0) fun m2 =>
  vb (mI m2 1548 0 : Int32) fun v3 =>
  R_expression_12 FU v3 1 m2
