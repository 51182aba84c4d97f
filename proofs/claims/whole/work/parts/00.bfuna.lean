/-! the methods as functions: written by gen/emit.py -/
set_option maxRecDepth 100000 in
def J_fill_5 : Nat → Option Nat → Int32 → Int32 → Int32 → Mem → Option (Unit × Mem)
  | 0, _, _, _, _, _ => none
  | n + 1, x0, x1, x2, x3, m =>
  if x3 ≤ x2 then (
    some ((), m))
  else (
    gs x0 fun a2 =>
    gt m a2 32 <|
    gd (inb x2 (mN m a2)) <|
    vb (wI m a2 (ix x2) x1) fun m5 =>
    vb (x2 + 1 : Int32) fun v7 =>
    J_fill_5 n (some a2) x1 v7 x3 m5)
set_option maxRecDepth 100000 in
def J_fill (x0 : Option Nat) (x1 : Int32) (m : Mem) : Option (Unit × Mem) :=
  gs x0 fun a1 =>
  gt m a1 32 <|
  vb (Int32.ofNat (mN m a1) : Int32) fun v3 =>
  J_fill_5 FU (some a1) x1 0 v3 m
set_option maxRecDepth 100000 in
def P_Lexer_withLetter (x0 : Int64) (x2 : Int32) : Option (Int64) :=
  some ((x0 * 32) + (Int32.toInt64 ((x2 - 97) + 1)))
set_option maxRecDepth 100000 in
def P_Lexer_write_3 : Nat → Int32 → Int32 → Mem → Option (Unit × Mem)
  | 0, _, _, _ => none
  | n + 1, x1, x2, m =>
  if x2 < 0 then (
    some ((), m))
  else (
    if 2000 ≤ (mI m 641 16) then (
      some ((), m))
    else (
      gd (inb (mI m 641 16) 2000) <|
      vb (wI m 17 (ix (mI m 641 16)) ((x1 >>> (x2 &&& 31)) &&& 255)) fun m6 =>
      vb (sI m6 641 16 ((mI m6 641 16) + 1)) fun m8 =>
      vb (x2 + (-8) : Int32) fun v9 =>
      P_Lexer_write_3 n x1 v9 m8))
set_option maxRecDepth 100000 in
def P_Lexer_write (x1 : Int32) (m : Mem) : Option (Unit × Mem) :=
  P_Lexer_write_3 FU x1 24 m
set_option maxRecDepth 100000 in
def P_feed (x1 : Int32) (x2 : Int32) (x3 : Int32) (x4 : Int32) (x5 : Int32) (m : Mem) : Option (Int32 × Mem) :=
  if ((mI m 641 16) + 20) ≤ 2000 then (
    bn (P_Lexer_write x1 m) fun _ m3 =>
    bn (P_Lexer_write x2 m3) fun _ m7 =>
    bn (P_Lexer_write x3 m7) fun _ m11 =>
    bn (P_Lexer_write x4 m11) fun _ m15 =>
    bn (P_Lexer_write x5 m15) fun _ m19 =>
    some (mI m19 641 16, m19))
  else (
    some ((-1), m))
set_option maxRecDepth 100000 in
def P_back (x1 : Int32) (m : Mem) : Option (Int32 × Mem) :=
  if x1 < 0 then (
    some ((-1), m))
  else (
    if x1 ≤ (mI m 641 16) then (
      vb (sI m 641 16 ((mI m 641 16) - x1)) fun m4 =>
      some (mI m4 641 16, m4))
    else (
      some ((-1), m)))
set_option maxRecDepth 100000 in
def P_Lexer_isBlank (x0 : Int32) : Option (Int32) :=
  if x0 = 32 then (
    some (1))
  else (
    if x0 = 9 then (
      some (1))
    else (
      if x0 = 10 then (
        some (1))
      else (
        if x0 = 13 then (
          some (1))
        else (
          some (0)))))
set_option maxRecDepth 100000 in
def P_Lexer_isLetter (x0 : Int32) : Option (Int32) :=
  if x0 < 97 then (
    some (0))
  else (
    if 122 < x0 then (
      some (0))
    else (
      some (1)))
set_option maxRecDepth 100000 in
def P_Lexer_wordKind_22 (x3 : Int32) (m : Mem) : Option (Int32 × Mem) :=
  some (20 + x3, m)
set_option maxRecDepth 100000 in
def P_Lexer_wordKind_2 : Nat → Int64 → Int32 → Mem → Option (Int32 × Mem)
  | 0, _, _, _ => none
  | n + 1, x1, x3, m =>
  if 40 ≤ x3 then (
    some (2, m))
  else (
    gd (inb x3 40) <|
    if (lg_cmp (aL m 21 (ix x3)) x1) = 0 then (
      P_Lexer_wordKind_22 x3 m)
    else (
      vb (x3 + 1 : Int32) fun v4 =>
      P_Lexer_wordKind_2 n x1 v4 m))
set_option maxRecDepth 100000 in
def P_Lexer_wordKind (x1 : Int64) (m : Mem) : Option (Int32 × Mem) :=
  P_Lexer_wordKind_2 FU x1 0 m
set_option maxRecDepth 100000 in
def P_Lexer_takeLetters_60 (x1 : Int32) (x2 : Int32) (x3 : Int64) (m : Mem) : Option (Int32 × Mem) :=
  gd (inb x1 501) <|
  vb (wL m 20 (ix x1) x3) fun m4 =>
  if ((mI m4 646 16) - x2) ≤ 8 then (
    bn (P_Lexer_wordKind x3 m4) fun r6 m7 =>
    some (r6, m7))
  else (
    some (1, m4))
set_option maxRecDepth 100000 in
def P_Lexer_takeLetters_7 : Nat → Int32 → Int32 → Int64 → Mem → Option (Int32 × Mem)
  | 0, _, _, _, _ => none
  | n + 1, x1, x2, x3, m =>
  if (mI m 641 16) ≤ (mI m 646 16) then (
    P_Lexer_takeLetters_60 x1 x2 x3 m)
  else (
    gd (inb (mI m 646 16) 2000) <|
    bp (P_Lexer_isLetter (aI m 17 (ix (mI m 646 16)))) fun r3 =>
    if r3 = 0 then (
      P_Lexer_takeLetters_60 x1 x2 x3 m)
    else (
      gd (inb (mI m 646 16) 2000) <|
      bp (P_Lexer_withLetter x3 (aI m 17 (ix (mI m 646 16)))) fun r6 =>
      vb (sI m 646 16 ((mI m 646 16) + 1)) fun m8 =>
      P_Lexer_takeLetters_7 n x1 x2 r6 m8))
set_option maxRecDepth 100000 in
def P_Lexer_takeLetters (x1 : Int32) (m : Mem) : Option (Int32 × Mem) :=
  vb (mI m 646 16 : Int32) fun v1 =>
  P_Lexer_takeLetters_7 FU x1 v1 0 m
set_option maxRecDepth 100000 in
def P_Lexer_isDigit (x0 : Int32) : Option (Int32) :=
  if x0 < 48 then (
    some (0))
  else (
    if 57 < x0 then (
      some (0))
    else (
      some (1)))
set_option maxRecDepth 100000 in
def P_Lexer_takeDigits_64 (x1 : Int32) (x2 : Int32) (x3 : Int32) (m : Mem) : Option (Int32 × Mem) :=
  gd (inb x1 501) <|
  vb (wL m 20 (ix x1) (Int32.toInt64 x3)) fun m4 =>
  if ((mI m4 646 16) - x2) ≤ 4 then (
    some (3, m4))
  else (
    some (1, m4))
set_option maxRecDepth 100000 in
def P_Lexer_takeDigits_7 : Nat → Int32 → Int32 → Int32 → Mem → Option (Int32 × Mem)
  | 0, _, _, _, _ => none
  | n + 1, x1, x2, x3, m =>
  if (mI m 641 16) ≤ (mI m 646 16) then (
    P_Lexer_takeDigits_64 x1 x2 x3 m)
  else (
    gd (inb (mI m 646 16) 2000) <|
    bp (P_Lexer_isDigit (aI m 17 (ix (mI m 646 16)))) fun r3 =>
    if r3 = 0 then (
      P_Lexer_takeDigits_64 x1 x2 x3 m)
    else (
      gd (inb (mI m 646 16) 2000) <|
      vb ((x3 * 10) + ((aI m 17 (ix (mI m 646 16))) - 48) : Int32) fun v6 =>
      vb (sI m 646 16 ((mI m 646 16) + 1)) fun m8 =>
      P_Lexer_takeDigits_7 n x1 x2 v6 m8))
set_option maxRecDepth 100000 in
def P_Lexer_takeDigits (x1 : Int32) (m : Mem) : Option (Int32 × Mem) :=
  vb (mI m 646 16 : Int32) fun v1 =>
  P_Lexer_takeDigits_7 FU x1 v1 0 m
set_option maxRecDepth 100000 in
def P_Lexer_signKind (x0 : Int32) (x1 : Int32) : Option (Int32) :=
  if x0 = 33 then (
    if x1 = 0 then (
      some (1))
    else (
      some (11)))
  else   if x0 = 34 then (
    some (1))
  else   if x0 = 35 then (
    some (1))
  else   if x0 = 36 then (
    some (1))
  else   if x0 = 37 then (
    some (1))
  else   if x0 = 38 then (
    some (1))
  else   if x0 = 39 then (
    some (1))
  else   if x0 = 40 then (
    some (14))
  else   if x0 = 41 then (
    some (15))
  else   if x0 = 42 then (
    some (8))
  else   if x0 = 43 then (
    some (6))
  else   if x0 = 44 then (
    some (5))
  else   if x0 = 45 then (
    some (7))
  else   if x0 = 46 then (
    some (1))
  else   if x0 = 47 then (
    some (9))
  else   if x0 = 48 then (
    some (1))
  else   if x0 = 49 then (
    some (1))
  else   if x0 = 50 then (
    some (1))
  else   if x0 = 51 then (
    some (1))
  else   if x0 = 52 then (
    some (1))
  else   if x0 = 53 then (
    some (1))
  else   if x0 = 54 then (
    some (1))
  else   if x0 = 55 then (
    some (1))
  else   if x0 = 56 then (
    some (1))
  else   if x0 = 57 then (
    some (1))
  else   if x0 = 58 then (
    some (1))
  else   if x0 = 59 then (
    some (4))
  else   if x0 = 60 then (
    if x1 = 0 then (
      some (12))
    else (
      some (13)))
  else   if x0 = 61 then (
    if x1 = 0 then (
      some (1))
    else (
      some (10)))
  else (
    some (1))
set_option maxRecDepth 100000 in
def P_Lexer_takeToken_99 (x4 : Int32) (s0 : Int32) (s1 : Int32) (m : Mem) : Option (Int32 × Mem) :=
  vb (sI m 646 16 (s1 + s0)) fun m2 =>
  some (x4, m2)
set_option maxRecDepth 100000 in
def P_Lexer_takeToken_94 (x4 : Int32) (s0 : Int32) (m : Mem) : Option (Int32 × Mem) :=
  P_Lexer_takeToken_99 x4 2 s0 m
set_option maxRecDepth 100000 in
def P_Lexer_takeToken_60 (x2 : Int32) (s0 : Int32) (m : Mem) : Option (Int32 × Mem) :=
  bp (P_Lexer_signKind x2 s0) fun r1 =>
  if r1 = 10 then (
    P_Lexer_takeToken_94 r1 (mI m 646 16) m)
  else (
    if r1 = 11 then (
      P_Lexer_takeToken_94 r1 (mI m 646 16) m)
    else (
      if r1 = 13 then (
        P_Lexer_takeToken_94 r1 (mI m 646 16) m)
      else (
        P_Lexer_takeToken_99 r1 1 (mI m 646 16) m)))
set_option maxRecDepth 100000 in
def P_Lexer_takeToken_59 (x2 : Int32) (m : Mem) : Option (Int32 × Mem) :=
  P_Lexer_takeToken_60 x2 0 m
set_option maxRecDepth 100000 in
def P_Lexer_takeToken (x1 : Int32) (x2 : Int32) (m : Mem) : Option (Int32 × Mem) :=
  bp (P_Lexer_isLetter x2) fun r1 =>
  if r1 = 0 then (
    bp (P_Lexer_isDigit x2) fun r3 =>
    if r3 = 0 then (
      if (mI m 641 16) ≤ ((mI m 646 16) + 1) then (
        P_Lexer_takeToken_59 x2 m)
      else (
        gd (inb ((mI m 646 16) + 1) 2000) <|
        if (aI m 17 (ix ((mI m 646 16) + 1))) = 61 then (
          P_Lexer_takeToken_60 x2 1 m)
        else (
          P_Lexer_takeToken_59 x2 m)))
    else (
      bn (P_Lexer_takeDigits x1 m) fun r8 m9 =>
      some (r8, m9)))
  else (
    bn (P_Lexer_takeLetters x1 m) fun r12 m13 =>
    some (r12, m13))
set_option maxRecDepth 100000 in
def P_Lexer_scan_128 (k9 : Int32 → Int32 → Mem → Option (Unit × Mem)) (x2 : Int32) (s0 : Int32) (m : Mem) : Option (Unit × Mem) :=
  vb (x2 + 1 : Int32) fun v1 =>
  k9 s0 v1 m
set_option maxRecDepth 100000 in
def P_Lexer_scan_127 (k9 : Int32 → Int32 → Mem → Option (Unit × Mem)) (x2 : Int32) (m : Mem) : Option (Unit × Mem) :=
  P_Lexer_scan_128 k9 x2 0 m
set_option maxRecDepth 100000 in
def P_Lexer_scan_103 (k9 : Int32 → Int32 → Mem → Option (Unit × Mem)) (x2 : Int32) (s0 : Int32) (s1 : Int32) (m : Mem) : Option (Unit × Mem) :=
  gd (inb s1 501) <|
  vb (wI m 18 (ix s1) s0) fun m4 =>
  gd (inb x2 501) <|
  if (aI m4 18 (ix x2)) = 0 then (
    P_Lexer_scan_127 k9 x2 m4)
  else (
    gd (inb x2 501) <|
    if (aI m4 18 (ix x2)) = 1 then (
      P_Lexer_scan_127 k9 x2 m4)
    else (
      P_Lexer_scan_128 k9 x2 1 m4))
set_option maxRecDepth 100000 in
def P_Lexer_scan_59 (k9 : Int32 → Int32 → Mem → Option (Unit × Mem)) (x2 : Int32) (m : Mem) : Option (Unit × Mem) :=
  gd (inb x2 501) <|
  vb (wI m 19 (ix x2) (mI m 646 16)) fun m4 =>
  if (mI m4 641 16) ≤ (mI m4 646 16) then (
    P_Lexer_scan_103 k9 x2 0 x2 m4)
  else (
    gd (inb (mI m4 646 16) 2000) <|
    bn (P_Lexer_takeToken x2 (aI m4 17 (ix (mI m4 646 16))) m4) fun r7 m8 =>
    P_Lexer_scan_103 k9 x2 r7 x2 m8)
set_option maxRecDepth 100000 in
def P_Lexer_scan_20 (k9 : Int32 → Int32 → Mem → Option (Unit × Mem)) : Nat → Int32 → Mem → Option (Unit × Mem)
  | 0, _, _ => none
  | n + 1, x2, m =>
  if (mI m 641 16) ≤ (mI m 646 16) then (
    P_Lexer_scan_59 k9 x2 m)
  else (
    gd (inb (mI m 646 16) 2000) <|
    bp (P_Lexer_isBlank (aI m 17 (ix (mI m 646 16)))) fun r3 =>
    if r3 = 0 then (
      P_Lexer_scan_59 k9 x2 m)
    else (
      vb (sI m 646 16 ((mI m 646 16) + 1)) fun m6 =>
      P_Lexer_scan_20 k9 n x2 m6))
set_option maxRecDepth 100000 in
def P_Lexer_scan_9 : Nat → Int32 → Int32 → Mem → Option (Unit × Mem)
  | 0, _, _, _ => none
  | n + 1, x1, x2, m =>
  if 500 < x2 then (
    some ((), m))
  else (
    if x1 = 0 then (
      some ((), m))
    else (
      P_Lexer_scan_20 (fun z0 z1 z2 => P_Lexer_scan_9 n z0 z1 z2) FU x2 m))
set_option maxRecDepth 100000 in
def P_Lexer_scan (m : Mem) : Option (Unit × Mem) :=
  vb (sI m 646 16 0) fun m2 =>
  P_Lexer_scan_9 FU 1 0 m2
set_option maxRecDepth 100000 in
def P_Parser_begin (m : Mem) : Option (Unit × Mem) :=
  vb (sI m 773 22 0) fun m2 =>
  vb (sI m2 774 22 (-1)) fun m4 =>
  vb (sI m4 776 22 0) fun m6 =>
  vb (sI m6 777 22 (-1)) fun m8 =>
  vb (sI m8 778 22 (-1)) fun m10 =>
  vb (sI m10 772 22 (mI m10 771 22)) fun m12 =>
  vb (sI m12 779 22 0) fun m14 =>
  vb (sI m14 782 22 0) fun m16 =>
  vb (sI m16 785 22 (-1)) fun m18 =>
  bn (P_Lexer_scan m18) fun _ m20 =>
  some ((), m20)
set_option maxRecDepth 100000 in
def P_within (x0 : Int32) (x1 : Int32) (x2 : Int32) : Option (Int32) :=
  if x0 < x1 then (
    some (0))
  else (
    if x2 < x0 then (
      some (0))
    else (
      some (1)))
set_option maxRecDepth 100000 in
def P_Parser_fail (x1 : Int32) (m : Mem) : Option (Int32 × Mem) :=
  vb (sI m 773 22 x1) fun m2 =>
  gd (inb (mI m2 779 22) 501) <|
  vb (sI m2 774 22 (aI m2 19 (ix (mI m2 779 22)))) fun m5 =>
  some (0, m5)
set_option maxRecDepth 100000 in
def P_Parser_take (m : Mem) : Option (Int32 × Mem) :=
  if (mI m 779 22) < 500 then (
    vb (sI m 779 22 ((mI m 779 22) + 1)) fun m3 =>
    some (1, m3))
  else (
    bn (P_Parser_fail 2 m) fun r4 m5 =>
    gz r4 <|
    some (r4, m5))
set_option maxRecDepth 100000 in
def P_Parser_numberOf_2 : Nat → Int64 → Int32 → Mem → Option (Int32 × Mem)
  | 0, _, _, _ => none
  | n + 1, x1, x3, m =>
  if (mI m 771 22) ≤ x3 then (
    some ((-1), m))
  else (
    gd (inb x3 60) <|
    if (lg_cmp (aL m 23 (ix x3)) x1) = 0 then (
      some (x3, m))
    else (
      vb (x3 + 1 : Int32) fun v4 =>
      P_Parser_numberOf_2 n x1 v4 m))
set_option maxRecDepth 100000 in
def P_Parser_numberOf (x1 : Int64) (m : Mem) : Option (Int32 × Mem) :=
  P_Parser_numberOf_2 FU x1 0 m
set_option maxRecDepth 100000 in
def P_Ledger_awardNamed_35 (x2 : Int32) (m : Mem) : Option (Option Nat × Mem) :=
  gd (inb x2 24) <|
  some (aR m 15 (ix x2), m)
set_option maxRecDepth 100000 in
def P_Ledger_awardNamed_42 (k2 : Int32 → Int32 → Mem → Option (Option Nat × Mem)) (x1 : Int32) (x2 : Int32) (m : Mem) : Option (Option Nat × Mem) :=
  vb (x2 + 1 : Int32) fun v1 =>
  k2 x1 v1 m
set_option maxRecDepth 100000 in
def P_Ledger_awardNamed_2 : Nat → Int32 → Int32 → Mem → Option (Option Nat × Mem)
  | 0, _, _, _ => none
  | n + 1, x1, x2, m =>
  if (mI m 515 13) ≤ x2 then (
    some (none, m))
  else (
    gd (inb x2 24) <|
    gs (aR m 15 (ix x2)) fun a3 =>
    gt m a3 11 <|
    if (mI m 1280 a3) = 0 then (
      gd (inb x2 24) <|
      gs (aR m 15 (ix x2)) fun a8 =>
      gt m a8 11 <|
      if (mI m 1282 a8) = x1 then (
        P_Ledger_awardNamed_35 x2 m)
      else (
        P_Ledger_awardNamed_42 (fun z0 z1 z2 => P_Ledger_awardNamed_2 n z0 z1 z2) x1 x2 m))
    else (
      P_Ledger_awardNamed_42 (fun z0 z1 z2 => P_Ledger_awardNamed_2 n z0 z1 z2) x1 x2 m))
set_option maxRecDepth 100000 in
def P_Ledger_awardNamed (x1 : Int32) (m : Mem) : Option (Option Nat × Mem) :=
  P_Ledger_awardNamed_2 FU x1 0 m
set_option maxRecDepth 100000 in
def P_Parser_noteLate (x1 : Int32) (m : Mem) : Option (Unit × Mem) :=
  if (mI m 776 22) = 0 then (
    vb (sI m 776 22 x1) fun m3 =>
    gd (inb (mI m3 779 22) 501) <|
    vb (sI m3 777 22 (aI m3 19 (ix (mI m3 779 22)))) fun m6 =>
    some ((), m6))
  else (
    some ((), m))
set_option maxRecDepth 100000 in
def P_Parser_takeName_133 (m : Mem) : Option (Int32 × Mem) :=
  bn (P_Parser_take m) fun r1 m2 =>
  gz r1 <|
  some (r1, m2)
set_option maxRecDepth 100000 in
def P_Parser_takeName_101 (m : Mem) : Option (Int32 × Mem) :=
  if (mI m 780 22) = (-1) then (
    if (mI m 778 22) = (-1) then (
      gd (inb (mI m 779 22) 501) <|
      vb (sI m 778 22 (aI m 19 (ix (mI m 779 22)))) fun m5 =>
      P_Parser_takeName_133 m5)
    else (
      P_Parser_takeName_133 m))
  else (
    P_Parser_takeName_133 m)
set_option maxRecDepth 100000 in
def P_Parser_takeName (m : Mem) : Option (Int32 × Mem) :=
  gd (inb (mI m 779 22) 501) <|
  if (aI m 18 (ix (mI m 779 22))) = 2 then (
    gd (inb (mI m 779 22) 501) <|
    bn (P_Parser_numberOf (aL m 20 (ix (mI m 779 22))) m) fun r4 m5 =>
    vb (sI m5 780 22 r4) fun m9 =>
    if (mI m9 780 22) = (-1) then (
      if 60 ≤ (mI m9 771 22) then (
        P_Parser_takeName_101 m9)
      else (
        gd (inb (mI m9 779 22) 501) <|
        gd (inb (mI m9 771 22) 60) <|
        vb (wL m9 23 (ix (mI m9 771 22)) (aL m9 20 (ix (mI m9 779 22)))) fun m16 =>
        vb (sI m16 780 22 (mI m16 771 22)) fun m18 =>
        vb (sI m18 771 22 ((mI m18 771 22) + 1)) fun m20 =>
        P_Parser_takeName_133 m20))
    else (
      P_Parser_takeName_101 m9))
  else (
    bn (P_Parser_fail 1 m) fun r21 m22 =>
    gz r21 <|
    some (r21, m22))
set_option maxRecDepth 100000 in
def P_Parser_takeTitle_89 (m : Mem) : Option (Int32 × Mem) :=
  bn (P_Parser_takeName m) fun r1 m2 =>
  vb (sI m2 784 22 (mI m2 780 22)) fun m6 =>
  gz r1 <|
  some (r1, m6)
set_option maxRecDepth 100000 in
def P_Parser_takeTitle_73 (x1 : Int32) (m : Mem) : Option (Int32 × Mem) :=
  if (mI m 783 22) = 0 then (
    P_Parser_takeTitle_89 m)
  else (
    if x1 = 0 then (
      bn (P_Parser_noteLate 4 m) fun _ m4 =>
      P_Parser_takeTitle_89 m4)
    else (
      P_Parser_takeTitle_89 m))
set_option maxRecDepth 100000 in
def P_Parser_takeTitle_53 (s0 : Int32) (m : Mem) : Option (Int32 × Mem) :=
  if (mI m 783 22) = 0 then (
    if s0 = 0 then (
      P_Parser_takeTitle_73 s0 m)
    else (
      bn (P_Parser_noteLate 3 m) fun _ m4 =>
      P_Parser_takeTitle_89 m4))
  else (
    P_Parser_takeTitle_73 s0 m)
set_option maxRecDepth 100000 in
def P_Parser_takeTitle (m : Mem) : Option (Int32 × Mem) :=
  gd (inb (mI m 779 22) 501) <|
  if (aI m 18 (ix (mI m 779 22))) = 2 then (
    gd (inb (mI m 779 22) 501) <|
    bn (P_Parser_numberOf (aL m 20 (ix (mI m 779 22))) m) fun r4 m5 =>
    bn (P_Ledger_awardNamed r4 m5) fun r8 m9 =>
    if r8 = none then (
      P_Parser_takeTitle_53 0 m9)
    else (
      P_Parser_takeTitle_53 1 m9))
  else (
    bn (P_Parser_fail 1 m) fun r13 m14 =>
    gz r13 <|
    some (r13, m14))
set_option maxRecDepth 100000 in
def P_Parser_takeKind (x1 : Int32) (m : Mem) : Option (Int32 × Mem) :=
  gd (inb (mI m 779 22) 501) <|
  if (aI m 18 (ix (mI m 779 22))) = x1 then (
    bn (P_Parser_take m) fun r3 m4 =>
    gz r3 <|
    some (r3, m4))
  else (
    bn (P_Parser_fail 1 m) fun r8 m9 =>
    gz r8 <|
    some (r8, m9))
set_option maxRecDepth 100000 in
def P_Parser_takeInt_60 (m : Mem) : Option (Int32 × Mem) :=
  bn (P_Parser_take m) fun r1 m2 =>
  gz r1 <|
  some (r1, m2)
set_option maxRecDepth 100000 in
def P_Parser_takeInt_55 (m : Mem) : Option (Int32 × Mem) :=
  bn (P_Parser_noteLate 5 m) fun _ m2 =>
  P_Parser_takeInt_60 m2
set_option maxRecDepth 100000 in
def P_Parser_takeInt (x1 : Int32) (x2 : Int32) (m : Mem) : Option (Int32 × Mem) :=
  gd (inb (mI m 779 22) 501) <|
  if (aI m 18 (ix (mI m 779 22))) = 3 then (
    gd (inb (mI m 779 22) 501) <|
    vb (sI m 780 22 (Int64.toInt32 (aL m 20 (ix (mI m 779 22))))) fun m5 =>
    if (mI m5 780 22) < x1 then (
      P_Parser_takeInt_55 m5)
    else (
      if (mI m5 780 22) ≤ x2 then (
        P_Parser_takeInt_60 m5)
      else (
        P_Parser_takeInt_55 m5)))
  else (
    bn (P_Parser_fail 1 m) fun r8 m9 =>
    gz r8 <|
    some (r8, m9))
set_option maxRecDepth 100000 in
def P_Parser_takeHead_90 (m : Mem) : Option (Int32 × Mem) :=
  bn (P_Parser_takeKind 46 m) fun r1 m2 =>
  if r1 = 0 then (
    some (0, m2))
  else (
    bn (P_Parser_takeInt 0 139 m2) fun r6 m7 =>
    if r6 = 0 then (
      some (0, m7))
    else (
      vb (sI m7 786 22 (mI m7 780 22)) fun m12 =>
      bn (P_Parser_takeKind 4 m12) fun r13 m14 =>
      gz r13 <|
      some (r13, m14)))
set_option maxRecDepth 100000 in
def P_Parser_takeHead (m : Mem) : Option (Int32 × Mem) :=
  gd (inb (mI m 779 22) 501) <|
  vb (sI m 783 22 ((aI m 18 (ix (mI m 779 22))) - 41)) fun m3 =>
  bp (P_within (mI m3 783 22) 0 3) fun r4 =>
  if r4 = 0 then (
    bn (P_Parser_fail 1 m3) fun r6 m7 =>
    gz r6 <|
    some (r6, m7))
  else (
    bn (P_Parser_take m3) fun r11 m12 =>
    if r11 = 0 then (
      some (0, m12))
    else (
      bn (P_Parser_takeTitle m12) fun r16 m17 =>
      if r16 = 0 then (
        some (0, m17))
      else (
        if (mI m17 783 22) < 2 then (
          P_Parser_takeHead_90 m17)
        else (
          bn (P_Parser_takeKind 45 m17) fun r22 m23 =>
          if r22 = 0 then (
            some (0, m23))
          else (
            bn (P_Parser_takeInt 0 7 m23) fun r27 m28 =>
            if r27 = 0 then (
              some (0, m28))
            else (
              vb (sI m28 785 22 (mI m28 780 22)) fun m33 =>
              P_Parser_takeHead_90 m33))))))
set_option maxRecDepth 100000 in
def P_Item_init (a0 : Nat) (x1 : Int32) (x2 : Int32) (m : Mem) : Option (Unit × Mem) :=
  vb (sI m 258 a0 (-1)) fun m1 =>
  vb (sI m1 260 a0 (-1)) fun m3 =>
  vb (sI m3 261 a0 (-1)) fun m5 =>
  vb (sI m5 266 a0 1) fun m7 =>
  vb (sI m7 267 a0 0) fun m9 =>
  vb (sI m9 256 a0 x1) fun m11 =>
  vb (sI m11 257 a0 x2) fun m13 =>
  gd (inb 0 65536) <|
  vb (nw m13 32 (ix 0) (ix 0)) fun m16 =>
  gt m16 a0 3 <|
  vb (sR m16 262 a0 (some (mC m13))) fun m20 =>
  gd (inb 0 65536) <|
  vb (nw m20 32 (ix 0) (ix 0)) fun m24 =>
  gt m24 a0 3 <|
  vb (sR m24 263 a0 (some (mC m20))) fun m29 =>
  some ((), m29)
set_option maxRecDepth 100000 in
def P_Parser_isMisplaced_20 (x1 : Int32) (s0 : Int32) (m : Mem) : Option (Int32 × Mem) :=
  if s0 = 0 then (
    if x1 = 32 then (
      some (1, m))
    else (
      if x1 = 33 then (
        some (1, m))
      else (
        some (0, m))))
  else (
    if x1 = 39 then (
      some (1, m))
    else (
      if x1 = 40 then (
        some (1, m))
      else (
        some (0, m))))
set_option maxRecDepth 100000 in
def P_Parser_isMisplaced_15 (x1 : Int32) (m : Mem) : Option (Int32 × Mem) :=
  P_Parser_isMisplaced_20 x1 1 m
set_option maxRecDepth 100000 in
def P_Parser_isMisplaced (x1 : Int32) (m : Mem) : Option (Int32 × Mem) :=
  if (mI m 783 22) = 0 then (
    P_Parser_isMisplaced_15 x1 m)
  else (
    if (mI m 783 22) = 3 then (
      P_Parser_isMisplaced_15 x1 m)
    else (
      P_Parser_isMisplaced_20 x1 0 m))
set_option maxRecDepth 100000 in
def P_Formula_begin_15 (s0 : Int32) (m : Mem) : Option (Unit × Mem) :=
  vb (sI m 130 1 s0) fun m2 =>
  vb (sI m2 131 1 0) fun m4 =>
  vb (sI m4 132 1 0) fun m6 =>
  vb (sI m6 128 1 0) fun m8 =>
  vb (sI m8 134 1 0) fun m10 =>
  vb (sI m10 136 1 0) fun m12 =>
  some ((), m12)
set_option maxRecDepth 100000 in
def P_Formula_begin (x1 : Int32) (m : Mem) : Option (Unit × Mem) :=
  gz x1 <|
  vb (sI m 129 1 x1) fun m3 =>
  if x1 = 0 then (
    P_Formula_begin_15 1 m3)
  else (
    P_Formula_begin_15 0 m3)
set_option maxRecDepth 100000 in
def P_Formula_wantsTicket (m : Mem) : Option (Int32 × Mem) :=
  if (mI m 130 1) = 2 then (
    some (1, m))
  else (
    some (0, m))
set_option maxRecDepth 100000 in
def P_Formula_wantsSign (m : Mem) : Option (Int32 × Mem) :=
  if (mI m 130 1) = 3 then (
    some (1, m))
  else (
    if (mI m 130 1) = 4 then (
      some (1, m))
    else (
      some (0, m)))
set_option maxRecDepth 100000 in
def P_Formula_rankOf (x0 : Int32) : Option (Int32) :=
  if x0 = 6 then (
    some (5))
  else   if x0 = 7 then (
    some (5))
  else   if x0 = 8 then (
    some (6))
  else   if x0 = 9 then (
    some (6))
  else   if x0 = 56 then (
    some (1))
  else   if x0 = 57 then (
    some (2))
  else (
    some (4))
set_option maxRecDepth 100000 in
def P_Formula_addStep (x1 : Int32) (x2 : Int32) (m : Mem) : Option (Unit × Mem) :=
  if 500 ≤ (mI m 134 1) then (
    some ((), m))
  else (
    gd (inb (mI m 134 1) 500) <|
    vb (wI m 2 (ix (mI m 134 1)) ((x1 * 10000) + x2)) fun m5 =>
    vb (sI m5 134 1 ((mI m5 134 1) + 1)) fun m7 =>
    some ((), m7))
set_option maxRecDepth 100000 in
def P_Formula_settle_0 : Nat → Int32 → Mem → Option (Unit × Mem)
  | 0, _, _ => none
  | n + 1, x1, m =>
  if (mI m 136 1) ≤ 0 then (
    some ((), m))
  else (
    gd (inb ((mI m 136 1) - 1) 500) <|
    if (aI m 3 (ix ((mI m 136 1) - 1))) < (x1 * 100) then (
      some ((), m))
    else (
      vb (sI m 136 1 ((mI m 136 1) - 1)) fun m5 =>
      gd (inb (mI m5 136 1) 500) <|
      bn (P_Formula_addStep ((aI m5 3 (ix (mI m5 136 1))) - (aI m5 3 (ix (mI m5 136 1))) / 100 * 100) 0 m5) fun _ m8 =>
      P_Formula_settle_0 n x1 m8))
set_option maxRecDepth 100000 in
def P_Formula_settle (x1 : Int32) (m : Mem) : Option (Unit × Mem) := P_Formula_settle_0 FU x1 m
set_option maxRecDepth 100000 in
def P_Formula_putOff (x1 : Int32) (x2 : Int32) (m : Mem) : Option (Unit × Mem) :=
  if 500 ≤ (mI m 136 1) then (
    some ((), m))
  else (
    gd (inb (mI m 136 1) 500) <|
    vb (wI m 3 (ix (mI m 136 1)) ((x2 * 100) + x1)) fun m5 =>
    vb (sI m5 136 1 ((mI m5 136 1) + 1)) fun m7 =>
    some ((), m7))
set_option maxRecDepth 100000 in
def P_Formula_goOnWithSign_212 (x1 : Int32) (m : Mem) : Option (Int32 × Mem) :=
  bp (P_Formula_rankOf x1) fun r1 =>
  bn (P_Formula_settle r1 m) fun _ m3 =>
  bp (P_Formula_rankOf x1) fun r6 =>
  bn (P_Formula_putOff x1 r6 m3) fun _ m8 =>
  vb (sI m8 132 1 0) fun m12 =>
  vb (sI m12 130 1 0) fun m14 =>
  some (0, m14)
set_option maxRecDepth 100000 in
def P_Formula_goOnWithSign_241 (m : Mem) : Option (Int32 × Mem) :=
  bn (P_Formula_settle 1 m) fun _ m2 =>
  vb (sI m2 128 1 1) fun m6 =>
  some (0, m6)
set_option maxRecDepth 100000 in
def P_Formula_goOnWithSign_193 (x1 : Int32) (m : Mem) : Option (Int32 × Mem) :=
  if (mI m 129 1) = 0 then (
    P_Formula_goOnWithSign_241 m)
  else (
    if x1 = 57 then (
      P_Formula_goOnWithSign_212 x1 m)
    else (
      if x1 = 56 then (
        P_Formula_goOnWithSign_212 x1 m)
      else (
        P_Formula_goOnWithSign_241 m)))
set_option maxRecDepth 100000 in
def P_Formula_goOnWithSign_166 (x1 : Int32) (x2 : Int32) (m : Mem) : Option (Int32 × Mem) :=
  if 0 < (mI m 131 1) then (
    some (1, m))
  else (
    if x2 = 0 then (
      P_Formula_goOnWithSign_193 x1 m)
    else (
      if (mI m 129 1) = 0 then (
        P_Formula_goOnWithSign_193 x1 m)
      else (
        if (mI m 132 1) = 0 then (
          some (1, m))
        else (
          P_Formula_goOnWithSign_193 x1 m))))
set_option maxRecDepth 100000 in
def P_Formula_goOnWithSign_101 (x1 : Int32) (x2 : Int32) (m : Mem) : Option (Int32 × Mem) :=
  if x2 = 0 then (
    P_Formula_goOnWithSign_166 x1 x2 m)
  else (
    if (mI m 129 1) = 0 then (
      P_Formula_goOnWithSign_166 x1 x2 m)
    else (
      if (mI m 132 1) = 0 then (
        if (mI m 131 1) = 0 then (
          bp (P_within x1 10 13) fun r5 =>
          if r5 = 0 then (
            P_Formula_goOnWithSign_166 x1 x2 m)
          else (
            bp (P_Formula_rankOf x1) fun r7 =>
            bn (P_Formula_settle r7 m) fun _ m9 =>
            bp (P_Formula_rankOf x1) fun r12 =>
            bn (P_Formula_putOff x1 r12 m9) fun _ m14 =>
            vb (sI m14 132 1 1) fun m18 =>
            vb (sI m18 130 1 1) fun m20 =>
            some (0, m20)))
        else (
          P_Formula_goOnWithSign_166 x1 x2 m))
      else (
        P_Formula_goOnWithSign_166 x1 x2 m)))
set_option maxRecDepth 100000 in
def P_Formula_goOnWithSign_53 (x1 : Int32) (x2 : Int32) (m : Mem) : Option (Int32 × Mem) :=
  if x2 = 0 then (
    P_Formula_goOnWithSign_101 x1 x2 m)
  else (
    if x1 = 15 then (
      if (mI m 131 1) ≤ 0 then (
        P_Formula_goOnWithSign_101 x1 x2 m)
      else (
        bn (P_Formula_settle 1 m) fun _ m5 =>
        vb (sI m5 136 1 (jmax 0 ((mI m5 136 1) - 1))) fun m9 =>
        vb (sI m9 131 1 ((mI m9 131 1) - 1)) fun m11 =>
        some (0, m11)))
    else (
      P_Formula_goOnWithSign_101 x1 x2 m))
set_option maxRecDepth 100000 in
def P_Formula_goOnWithSign_13 (x1 : Int32) (s0 : Int32) (m : Mem) : Option (Int32 × Mem) :=
  if s0 = 0 then (
    P_Formula_goOnWithSign_53 x1 s0 m)
  else (
    bp (P_within x1 6 9) fun r2 =>
    if r2 = 0 then (
      P_Formula_goOnWithSign_53 x1 s0 m)
    else (
      bp (P_Formula_rankOf x1) fun r4 =>
      bn (P_Formula_settle r4 m) fun _ m6 =>
      bp (P_Formula_rankOf x1) fun r9 =>
      bn (P_Formula_putOff x1 r9 m6) fun _ m11 =>
      vb (sI m11 130 1 1) fun m15 =>
      some (0, m15)))
set_option maxRecDepth 100000 in
def P_Formula_goOnWithSign (x1 : Int32) (m : Mem) : Option (Int32 × Mem) :=
  if (mI m 130 1) = 3 then (
    P_Formula_goOnWithSign_13 x1 1 m)
  else (
    P_Formula_goOnWithSign_13 x1 0 m)
set_option maxRecDepth 100000 in
def P_Formula_goOnWithOperand (x1 : Int32) (x2 : Int32) (x3 : Int32) (x4 : Int32) (m : Mem) : Option (Int32 × Mem) :=
  if x4 = 0 then (
    some (1, m))
  else (
    bn (P_Formula_addStep x1 x2 m) fun _ m3 =>
    vb (sI m3 130 1 x3) fun m7 =>
    some (0, m7))
set_option maxRecDepth 100000 in
def P_Formula_goOnWithUnit_23 (s0 : Int32) (s1 : Int32) (s2 : Int32) (s3 : Int32) (m : Mem) : Option (Int32 × Mem) :=
  bn (P_Formula_goOnWithOperand s3 s2 s1 s0 m) fun r1 m2 =>
  some (r1, m2)
set_option maxRecDepth 100000 in
def P_Formula_goOnWithUnit_118 (s0 : Int32) (s1 : Int32) (s2 : Int32) (s3 : Int32) (m : Mem) : Option (Int32 × Mem) :=
  bn (P_Formula_goOnWithOperand s3 s2 s1 s0 m) fun r1 m2 =>
  some (r1, m2)
set_option maxRecDepth 100000 in
def P_Formula_goOnWithUnit_113 (s0 : Int32) (s1 : Int32) (s2 : Int32) (m : Mem) : Option (Int32 × Mem) :=
  P_Formula_goOnWithUnit_118 1 s0 s1 s2 m
set_option maxRecDepth 100000 in
def P_Formula_goOnWithUnit_97 (x1 : Int32) (x3 : Int32) (s0 : Int32) (s1 : Int32) (m : Mem) : Option (Int32 × Mem) :=
  if x3 = 0 then (
    bp (P_within x1 20 31) fun r2 =>
    if r2 = 0 then (
      P_Formula_goOnWithUnit_118 0 3 s0 s1 m)
    else (
      P_Formula_goOnWithUnit_113 3 s0 s1 m))
  else (
    P_Formula_goOnWithUnit_113 3 s0 s1 m)
set_option maxRecDepth 100000 in
def P_Formula_goOnWithUnit_85 (x1 : Int32) (x2 : Int32) (s0 : Int32) (m : Mem) : Option (Int32 × Mem) :=
  if s0 = 0 then (
    P_Formula_goOnWithUnit_97 x1 s0 0 x1 m)
  else (
    P_Formula_goOnWithUnit_97 x1 s0 x2 x1 m)
set_option maxRecDepth 100000 in
def P_Formula_goOnWithUnit_69 (x1 : Int32) (x2 : Int32) (m : Mem) : Option (Int32 × Mem) :=
  if x1 = 14 then (
    if (mI m 131 1) < 6 then (
      vb (sI m 131 1 ((mI m 131 1) + 1)) fun m4 =>
      bn (P_Formula_putOff 14 0 m4) fun _ m6 =>
      vb (sI m6 130 1 1) fun m10 =>
      some (0, m10))
    else (
      some (2, m)))
  else (
    if x1 = 3 then (
      P_Formula_goOnWithUnit_85 x1 x2 1 m)
    else (
      P_Formula_goOnWithUnit_85 x1 x2 0 m))
set_option maxRecDepth 100000 in
def P_Formula_goOnWithUnit_49 (x1 : Int32) (x2 : Int32) (m : Mem) : Option (Int32 × Mem) :=
  if (mI m 130 1) = 0 then (
    if x1 = 59 then (
      vb (sI m 130 1 2) fun m4 =>
      some (0, m4))
    else (
      P_Formula_goOnWithUnit_69 x1 x2 m))
  else (
    P_Formula_goOnWithUnit_69 x1 x2 m)
set_option maxRecDepth 100000 in
def P_Formula_goOnWithUnit (x1 : Int32) (x2 : Int32) (m : Mem) : Option (Int32 × Mem) :=
  if (mI m 130 1) = 2 then (
    if x1 = 3 then (
      P_Formula_goOnWithUnit_23 1 4 x2 59 m)
    else (
      P_Formula_goOnWithUnit_23 0 4 x2 59 m))
  else (
    if (mI m 130 1) = 0 then (
      if x1 = 58 then (
        bn (P_Formula_putOff 58 3 m) fun _ m6 =>
        some (0, m6))
      else (
        P_Formula_goOnWithUnit_49 x1 x2 m))
    else (
      P_Formula_goOnWithUnit_49 x1 x2 m))
set_option maxRecDepth 100000 in
def J_copyOf (x0 : Option Nat) (x1 : Int32) (m : Mem) : Option (Option Nat × Mem) :=
  gs x0 fun a1 =>
  gt m a1 32 <|
  if x1 = (Int32.ofNat (mN m a1)) then (
    none)
  else (
    gd (inb x1 65536) <|
    vb (nw m 32 (ix x1) (ix x1)) fun m5 =>
    gt m5 a1 32 <|
    gd (cpok 0 0 (jmin (Int32.ofNat (mN m5 a1)) x1) (mN m5 a1) (mN m5 (mC m))) <|
    vb (cpI m5 a1 (ix 0) (mC m) (ix 0) (ix (jmin (Int32.ofNat (mN m5 a1)) x1))) fun m10 =>
    some (some (mC m), m10))
set_option maxRecDepth 100000 in
def P_Formula_made (m : Mem) : Option (Option Nat × Mem) :=
  bn (J_copyOf (some 2) (mI m 134 1) m) fun r1 m2 =>
  some (r1, m2)
set_option maxRecDepth 100000 in
def P_Parser_takeFormula_130 (x5 : Int32) (m : Mem) : Option (Int32 × Mem) :=
  bn (P_Parser_fail x5 m) fun r1 m2 =>
  gz r1 <|
  some (r1, m2)
set_option maxRecDepth 100000 in
def P_Parser_takeFormula_165 (x1 : Option Nat) (x2 : Int32) (m : Mem) : Option (Int32 × Mem) :=
  if x2 = 0 then (
    gs x1 fun a2 =>
    bn (P_Formula_made m) fun r3 m4 =>
    gt m4 a2 3 <|
    vb (sR m4 262 a2 r3) fun m8 =>
    some (1, m8))
  else (
    gs x1 fun a10 =>
    bn (P_Formula_made m) fun r11 m12 =>
    gt m12 a10 3 <|
    vb (sR m12 263 a10 r11) fun m16 =>
    some (1, m16))
set_option maxRecDepth 100000 in
def P_Parser_takeFormula_147 (x1 : Option Nat) (x2 : Int32) (m : Mem) : Option (Int32 × Mem) :=
  P_Parser_takeFormula_165 x1 x2 m
set_option maxRecDepth 100000 in
def P_Parser_takeFormula_123 (k10 : Option Nat → Int32 → Int32 → Mem → Option (Int32 × Mem)) (x1 : Option Nat) (x2 : Int32) (x3 : Int32) (s0 : Int32) (m : Mem) : Option (Int32 × Mem) :=
  if s0 = 0 then (
    if (mI m 128 1) = 0 then (
      bn (P_Parser_take m) fun r3 m4 =>
      if r3 = 0 then (
        some (0, m4))
      else (
        vb (x3 + 1 : Int32) fun v8 =>
        k10 x1 x2 v8 m4))
    else (
      P_Parser_takeFormula_147 x1 x2 m))
  else (
    P_Parser_takeFormula_130 s0 m)
set_option maxRecDepth 100000 in
def P_Parser_takeFormula_70 (k10 : Option Nat → Int32 → Int32 → Mem → Option (Int32 × Mem)) (x1 : Option Nat) (x2 : Int32) (x3 : Int32) (x4 : Int32) (m : Mem) : Option (Int32 × Mem) :=
  bn (P_Formula_wantsSign m) fun r1 m2 =>
  if r1 = 0 then (
    gd (inb (mI m2 779 22) 501) <|
    bn (P_Formula_goOnWithUnit (aI m2 18 (ix (mI m2 779 22))) x4 m2) fun r7 m8 =>
    P_Parser_takeFormula_123 k10 x1 x2 x3 r7 m8)
  else (
    gd (inb (mI m2 779 22) 501) <|
    bn (P_Formula_goOnWithSign (aI m2 18 (ix (mI m2 779 22))) m2) fun r12 m13 =>
    P_Parser_takeFormula_123 k10 x1 x2 x3 r12 m13)
set_option maxRecDepth 100000 in
def P_Parser_takeFormula_10 : Nat → Option Nat → Int32 → Int32 → Mem → Option (Int32 × Mem)
  | 0, _, _, _, _ => none
  | n + 1, x1, x2, x3, m =>
  if 500 < x3 then (
    P_Parser_takeFormula_165 x1 x2 m)
  else (
    gd (inb (mI m 779 22) 501) <|
    vb (Int64.toInt32 (aL m 20 (ix (mI m 779 22))) : Int32) fun v3 =>
    bn (P_Formula_wantsTicket m) fun r4 m5 =>
    if r4 = 0 then (
      P_Parser_takeFormula_70 (fun z0 z1 z2 z3 => P_Parser_takeFormula_10 n z0 z1 z2 z3) x1 x2 x3 v3 m5)
    else (
      gd (inb (mI m5 779 22) 501) <|
      if (aI m5 18 (ix (mI m5 779 22))) = 3 then (
        if v3 < 8 then (
          P_Parser_takeFormula_70 (fun z0 z1 z2 z3 => P_Parser_takeFormula_10 n z0 z1 z2 z3) x1 x2 x3 v3 m5)
        else (
          bn (P_Parser_noteLate 5 m5) fun _ m13 =>
          P_Parser_takeFormula_70 (fun z0 z1 z2 z3 => P_Parser_takeFormula_10 n z0 z1 z2 z3) x1 x2 x3 v3 m13))
      else (
        P_Parser_takeFormula_70 (fun z0 z1 z2 z3 => P_Parser_takeFormula_10 n z0 z1 z2 z3) x1 x2 x3 v3 m5)))
set_option maxRecDepth 100000 in
def P_Parser_takeFormula (x1 : Option Nat) (x2 : Int32) (m : Mem) : Option (Int32 × Mem) :=
  bn (P_Formula_begin x2 m) fun _ m2 =>
  P_Parser_takeFormula_10 FU x1 x2 0 m2
set_option maxRecDepth 100000 in
def P_Parser_takeItemName (x1 : Option Nat) (m : Mem) : Option (Int32 × Mem) :=
  bn (P_Parser_takeName m) fun r1 m2 =>
  gs x1 fun a5 =>
  gt m2 a5 3 <|
  vb (sI m2 258 a5 (mI m2 780 22)) fun m7 =>
  gz r1 <|
  some (r1, m7)
set_option maxRecDepth 100000 in
def P_Parser_takeTasks_76 (m : Mem) : Option (Int32 × Mem) :=
  bn (P_Parser_fail 2 m) fun r1 m2 =>
  gz r1 <|
  some (r1, m2)
set_option maxRecDepth 100000 in
def P_Parser_takeTasks_82 (k13 : Option Nat → Int32 → Mem → Option (Int32 × Mem)) (x1 : Option Nat) (x2 : Int32) (m : Mem) : Option (Int32 × Mem) :=
  bn (P_Parser_takeInt 0 15 m) fun r1 m2 =>
  if r1 = 0 then (
    some (0, m2))
  else (
    gs x1 fun a6 =>
    gt m2 a6 3 <|
    vb (sI m2 259 a6 ((mI m2 259 a6) ||| (1 <<< ((mI m2 780 22) &&& 31)))) fun m8 =>
    vb (x2 + 1 : Int32) fun v10 =>
    k13 (some a6) v10 m8)
set_option maxRecDepth 100000 in
def P_Parser_takeTasks_54 (k13 : Option Nat → Int32 → Mem → Option (Int32 × Mem)) (x1 : Option Nat) (x2 : Int32) (m : Mem) : Option (Int32 × Mem) :=
  if x2 = 8 then (
    gd (inb (mI m 779 22) 501) <|
    if (aI m 18 (ix (mI m 779 22))) = 3 then (
      P_Parser_takeTasks_76 m)
    else (
      P_Parser_takeTasks_82 k13 x1 x2 m))
  else (
    P_Parser_takeTasks_82 k13 x1 x2 m)
set_option maxRecDepth 100000 in
def P_Parser_takeTasks_41 (k13 : Option Nat → Int32 → Mem → Option (Int32 × Mem)) (x1 : Option Nat) (x2 : Int32) (m : Mem) : Option (Int32 × Mem) :=
  if x2 ≤ 0 then (
    P_Parser_takeTasks_54 k13 x1 x2 m)
  else (
    bn (P_Parser_take m) fun r2 m3 =>
    if r2 = 0 then (
      some (0, m3))
    else (
      P_Parser_takeTasks_54 k13 x1 x2 m3))
set_option maxRecDepth 100000 in
def P_Parser_takeTasks_13 : Nat → Option Nat → Int32 → Mem → Option (Int32 × Mem)
  | 0, _, _, _ => none
  | n + 1, x1, x2, m =>
  if 8 < x2 then (
    some (0, m))
  else (
    if x2 ≤ 0 then (
      P_Parser_takeTasks_41 (fun z0 z1 z2 => P_Parser_takeTasks_13 n z0 z1 z2) x1 x2 m)
    else (
      gd (inb (mI m 779 22) 501) <|
      if (aI m 18 (ix (mI m 779 22))) = 5 then (
        P_Parser_takeTasks_41 (fun z0 z1 z2 => P_Parser_takeTasks_13 n z0 z1 z2) x1 x2 m)
      else (
        some (1, m))))
set_option maxRecDepth 100000 in
def P_Parser_takeTasks (x1 : Option Nat) (m : Mem) : Option (Int32 × Mem) :=
  bn (P_Parser_takeKind 48 m) fun r1 m2 =>
  if r1 = 0 then (
    some (0, m2))
  else (
    P_Parser_takeTasks_13 FU x1 0 m2)
set_option maxRecDepth 100000 in
def P_Parser_takeMargin (x1 : Option Nat) (m : Mem) : Option (Int32 × Mem) :=
  gd (inb (mI m 779 22) 501) <|
  if (aI m 18 (ix (mI m 779 22))) = 40 then (
    bn (P_Parser_take m) fun r3 m4 =>
    if r3 = 0 then (
      some (0, m4))
    else (
      bn (P_Parser_takeFormula x1 0 m4) fun r8 m9 =>
      if r8 = 0 then (
        some (0, m9))
      else (
        some (1, m9))))
  else (
    bn (P_Parser_takeKind 49 m) fun r13 m14 =>
    if r13 = 0 then (
      some (0, m14))
    else (
      bn (P_Parser_takeName m14) fun r18 m19 =>
      if r18 = 0 then (
        some (0, m19))
      else (
        gs x1 fun a23 =>
        gt m19 a23 3 <|
        vb (sI m19 260 a23 (mI m19 780 22)) fun m25 =>
        bn (P_Parser_takeName m25) fun r27 m28 =>
        if r27 = 0 then (
          some (0, m28))
        else (
          gt m28 a23 3 <|
          vb (sI m28 261 a23 (mI m28 780 22)) fun m33 =>
          bn (P_Parser_takeKind 50 m33) fun r35 m36 =>
          if r35 = 0 then (
            some (0, m36))
          else (
            bn (P_Parser_takeFormula (some a23) 0 m36) fun r40 m41 =>
            if r40 = 0 then (
              some (0, m41))
            else (
              some (1, m41)))))))
set_option maxRecDepth 100000 in
def P_Parser_takeBars_56 (m : Mem) : Option (Int32 × Mem) :=
  bn (P_Parser_fail 2 m) fun r1 m2 =>
  gz r1 <|
  some (r1, m2)
set_option maxRecDepth 100000 in
def P_Parser_takeBars_62 (k2 : Option Nat → Int32 → Mem → Option (Int32 × Mem)) (x1 : Option Nat) (x2 : Int32) (m : Mem) : Option (Int32 × Mem) :=
  bn (P_Parser_takeName m) fun r1 m2 =>
  if r1 = 0 then (
    some (0, m2))
  else (
    gs x1 fun a6 =>
    gt m2 a6 3 <|
    vb (sL m2 264 a6 ((mL m2 264 a6) ||| (1 <<< (Int32.toInt64 (mI m2 780 22) &&& 63)))) fun m8 =>
    vb (x2 + 1 : Int32) fun v10 =>
    k2 (some a6) v10 m8)
set_option maxRecDepth 100000 in
def P_Parser_takeBars_2 : Nat → Option Nat → Int32 → Mem → Option (Int32 × Mem)
  | 0, _, _, _ => none
  | n + 1, x1, x2, m =>
  if 4 < x2 then (
    some (0, m))
  else (
    gd (inb (mI m 779 22) 501) <|
    if (aI m 18 (ix (mI m 779 22))) = 54 then (
      bn (P_Parser_take m) fun r4 m5 =>
      if r4 = 0 then (
        some (0, m5))
      else (
        if x2 = 4 then (
          gd (inb (mI m5 779 22) 501) <|
          if (aI m5 18 (ix (mI m5 779 22))) = 2 then (
            P_Parser_takeBars_56 m5)
          else (
            P_Parser_takeBars_62 (fun z0 z1 z2 => P_Parser_takeBars_2 n z0 z1 z2) x1 x2 m5))
        else (
          P_Parser_takeBars_62 (fun z0 z1 z2 => P_Parser_takeBars_2 n z0 z1 z2) x1 x2 m5)))
    else (
      some (1, m)))
set_option maxRecDepth 100000 in
def P_Parser_takeBars (x1 : Option Nat) (m : Mem) : Option (Int32 × Mem) :=
  P_Parser_takeBars_2 FU x1 0 m
set_option maxRecDepth 100000 in
def P_Parser_takeBody_222 (x1 : Option Nat) (m : Mem) : Option (Int32 × Mem) :=
  bn (P_Parser_takeBars x1 m) fun r1 m2 =>
  if r1 = 0 then (
    some (0, m2))
  else (
    some (1, m2))
set_option maxRecDepth 100000 in
def P_Parser_takeBody (x1 : Option Nat) (m : Mem) : Option (Int32 × Mem) :=
  gs x1 fun a1 =>
  gt m a1 3 <|
  if (mI m 256 a1) = 32 then (
    bn (P_Parser_takeKind 47 m) fun r4 m5 =>
    if r4 = 0 then (
      some (0, m5))
    else (
      bn (P_Parser_takeFormula (some a1) 1 m5) fun r9 m10 =>
      if r9 = 0 then (
        some (0, m10))
      else (
        some (1, m10))))
  else   if (mI m 256 a1) = 33 then (
    bn (P_Parser_takeItemName (some a1) m) fun r15 m16 =>
    gz r15 <|
    some (r15, m16))
  else   if (mI m 256 a1) = 34 then (
    bn (P_Parser_takeItemName (some a1) m) fun r21 m22 =>
    if r21 = 0 then (
      some (0, m22))
    else (
      bn (P_Parser_takeTasks (some a1) m22) fun r26 m27 =>
      if r26 = 0 then (
        some (0, m27))
      else (
        bn (P_Parser_takeMargin (some a1) m27) fun r31 m32 =>
        if r31 = 0 then (
          some (0, m32))
        else (
          some (1, m32)))))
  else   if (mI m 256 a1) = 35 then (
    gd (inb (mI m 779 22) 501) <|
    vb (sI m 265 a1 (aI m 18 (ix (mI m 779 22)))) fun m38 =>
    bp (P_within (mI m38 265 a1) 51 53) fun r40 =>
    if r40 = 0 then (
      bn (P_Parser_fail 1 m38) fun r42 m43 =>
      gz r42 <|
      some (r42, m43))
    else (
      bn (P_Parser_take m38) fun r47 m48 =>
      gz r47 <|
      some (r47, m48)))
  else   if (mI m 256 a1) = 36 then (
    bn (P_Parser_takeItemName (some a1) m) fun r53 m54 =>
    if r53 = 0 then (
      some (0, m54))
    else (
      bn (P_Parser_takeFormula (some a1) 0 m54) fun r58 m59 =>
      if r58 = 0 then (
        some (0, m59))
      else (
        gd (inb (mI m59 779 22) 501) <|
        if (aI m59 18 (ix (mI m59 779 22))) = 47 then (
          bn (P_Parser_take m59) fun r65 m66 =>
          if r65 = 0 then (
            some (0, m66))
          else (
            bn (P_Parser_takeFormula (some a1) 1 m66) fun r70 m71 =>
            if r70 = 0 then (
              some (0, m71))
            else (
              P_Parser_takeBody_222 (some a1) m71)))
        else (
          P_Parser_takeBody_222 (some a1) m59))))
  else   if (mI m 256 a1) = 37 then (
    bn (P_Parser_takeItemName (some a1) m) fun r76 m77 =>
    if r76 = 0 then (
      some (0, m77))
    else (
      bn (P_Parser_takeFormula (some a1) 0 m77) fun r81 m82 =>
      if r81 = 0 then (
        some (0, m82))
      else (
        gd (inb (mI m82 779 22) 501) <|
        if (aI m82 18 (ix (mI m82 779 22))) = 47 then (
          bn (P_Parser_take m82) fun r88 m89 =>
          if r88 = 0 then (
            some (0, m89))
          else (
            bn (P_Parser_takeFormula (some a1) 1 m89) fun r93 m94 =>
            if r93 = 0 then (
              some (0, m94))
            else (
              P_Parser_takeBody_222 (some a1) m94)))
        else (
          P_Parser_takeBody_222 (some a1) m82))))
  else   if (mI m 256 a1) = 38 then (
    bn (P_Parser_takeInt 1 240 m) fun r99 m100 =>
    gt m100 a1 3 <|
    vb (sI m100 265 a1 (mI m100 780 22)) fun m104 =>
    gz r99 <|
    some (r99, m104))
  else   if (mI m 256 a1) = 39 then (
    bn (P_Parser_takeItemName (some a1) m) fun r108 m109 =>
    gz r108 <|
    some (r108, m109))
  else   if (mI m 256 a1) = 40 then (
    bn (P_Parser_takeItemName (some a1) m) fun r114 m115 =>
    if r114 = 0 then (
      some (0, m115))
    else (
      bn (P_Parser_takeKind 55 m115) fun r119 m120 =>
      if r119 = 0 then (
        some (0, m120))
      else (
        bn (P_Parser_takeFormula (some a1) 0 m120) fun r124 m125 =>
        if r124 = 0 then (
          some (0, m125))
        else (
          some (1, m125)))))
  else (
    bn (P_Parser_takeItemName (some a1) m) fun r129 m130 =>
    gz r129 <|
    some (r129, m130))
set_option maxRecDepth 100000 in
def P_Parser_takeItems_47 (m : Mem) : Option (Int32 × Mem) :=
  bn (P_Parser_fail 1 m) fun r1 m2 =>
  gz r1 <|
  some (r1, m2)
set_option maxRecDepth 100000 in
def P_Parser_takeItems_59 (m : Mem) : Option (Int32 × Mem) :=
  bn (P_Parser_fail 2 m) fun r1 m2 =>
  gz r1 <|
  some (r1, m2)
set_option maxRecDepth 100000 in
def P_Parser_takeItems_125 (k2 : Int32 → Mem → Option (Int32 × Mem)) (x1 : Int32) (m : Mem) : Option (Int32 × Mem) :=
  bn (P_Parser_take m) fun r1 m2 =>
  if r1 = 0 then (
    some (0, m2))
  else (
    gd (inb x1 30) <|
    bn (P_Parser_takeBody (aR m2 24 (ix x1)) m2) fun r7 m8 =>
    if r7 = 0 then (
      some (0, m8))
    else (
      bn (P_Parser_takeKind 4 m8) fun r12 m13 =>
      if r12 = 0 then (
        some (0, m13))
      else (
        vb (x1 + 1 : Int32) fun v17 =>
        k2 v17 m13)))
set_option maxRecDepth 100000 in
def P_Parser_takeItems_2 : Nat → Int32 → Mem → Option (Int32 × Mem)
  | 0, _, _ => none
  | n + 1, x1, m =>
  if 30 < x1 then (
    some (0, m))
  else (
    gd (inb (mI m 779 22) 501) <|
    if (aI m 18 (ix (mI m 779 22))) = 0 then (
      some (1, m))
    else (
      gd (inb (mI m 779 22) 501) <|
      bp (P_within (aI m 18 (ix (mI m 779 22))) 32 40) fun r5 =>
      if r5 = 0 then (
        P_Parser_takeItems_47 m)
      else (
        if x1 = 30 then (
          P_Parser_takeItems_59 m)
        else (
          vb (nw m 3 0 13) fun m8 =>
          gd (inb (mI m8 779 22) 501) <|
          bn (P_Item_init (mC m) (aI m8 18 (ix (mI m8 779 22))) (mI m8 514 13) m8) fun _ m12 =>
          gd (inb x1 30) <|
          gt m12 (mC m) 3 <|
          vb (wR m12 24 (ix x1) (some (mC m))) fun m18 =>
          vb (sI m18 782 22 (x1 + 1)) fun m21 =>
          gd (inb x1 30) <|
          gs (aR m21 24 (ix x1)) fun a24 =>
          gt m21 a24 3 <|
          bn (P_Parser_isMisplaced (mI m21 256 a24) m21) fun r27 m28 =>
          if r27 = 0 then (
            P_Parser_takeItems_125 (fun z0 z1 => P_Parser_takeItems_2 n z0 z1) x1 m28)
          else (
            bn (P_Parser_noteLate 5 m28) fun _ m33 =>
            P_Parser_takeItems_125 (fun z0 z1 => P_Parser_takeItems_2 n z0 z1) x1 m33)))))
set_option maxRecDepth 100000 in
def P_Parser_takeItems (m : Mem) : Option (Int32 × Mem) :=
  P_Parser_takeItems_2 FU 0 m
set_option maxRecDepth 100000 in
def P_Ledger_lastClaim_69 (k6 : Int32 → Int32 → Int32 → Int32 → Int32 → Mem → Option (Int32 × Mem)) (x1 : Int32) (x2 : Int32) (x3 : Int32) (x4 : Int32) (x5 : Int32) (m : Mem) : Option (Int32 × Mem) :=
  vb (x5 + 1 : Int32) fun v1 =>
  k6 x1 x2 x3 x4 v1 m
set_option maxRecDepth 100000 in
def P_Ledger_lastClaim_6 : Nat → Int32 → Int32 → Int32 → Int32 → Int32 → Mem → Option (Int32 × Mem)
  | 0, _, _, _, _, _, _ => none
  | n + 1, x1, x2, x3, x4, x5, m =>
  if (mI m 514 13) ≤ x5 then (
    some (x4, m))
  else (
    gd (inb x5 160) <|
    gs (aR m 14 (ix x5)) fun a3 =>
    gt m a3 1 <|
    if (mI m 0 a3) = x1 then (
      gd (inb x5 160) <|
      gs (aR m 14 (ix x5)) fun a8 =>
      gt m a8 1 <|
      if (mI m 1 a8) = x2 then (
        gd (inb x5 160) <|
        gs (aR m 14 (ix x5)) fun a13 =>
        gt m a13 1 <|
        if (mI m 3 a13) = x3 then (
          gd (inb x5 160) <|
          gs (aR m 14 (ix x5)) fun a18 =>
          gt m a18 1 <|
          vb (mI m 4 a18 : Int32) fun v21 =>
          P_Ledger_lastClaim_69 (fun z0 z1 z2 z3 z4 z5 => P_Ledger_lastClaim_6 n z0 z1 z2 z3 z4 z5) x1 x2 x3 v21 x5 m)
        else (
          P_Ledger_lastClaim_69 (fun z0 z1 z2 z3 z4 z5 => P_Ledger_lastClaim_6 n z0 z1 z2 z3 z4 z5) x1 x2 x3 x4 x5 m))
      else (
        P_Ledger_lastClaim_69 (fun z0 z1 z2 z3 z4 z5 => P_Ledger_lastClaim_6 n z0 z1 z2 z3 z4 z5) x1 x2 x3 x4 x5 m))
    else (
      P_Ledger_lastClaim_69 (fun z0 z1 z2 z3 z4 z5 => P_Ledger_lastClaim_6 n z0 z1 z2 z3 z4 z5) x1 x2 x3 x4 x5 m))
set_option maxRecDepth 100000 in
def P_Ledger_lastClaim (x1 : Int32) (x2 : Int32) (x3 : Int32) (m : Mem) : Option (Int32 × Mem) :=
  P_Ledger_lastClaim_6 FU x1 x2 x3 (-1) 0 m
set_option maxRecDepth 100000 in
def P_Parser_setAmbit (x1 : Option Nat) (x2 : Int32) (m : Mem) : Option (Unit × Mem) :=
  gs x1 fun a1 =>
  gt m a1 3 <|
  bn (P_Ledger_lastClaim 7 x2 (mI m 258 a1) m) fun r3 m4 =>
  gt m4 a1 3 <|
  bn (P_Ledger_lastClaim 8 x2 (mI m4 258 a1) m4) fun r8 m9 =>
  if r3 = (-1) then (
    some ((), m9))
  else (
    if r8 = (-1) then (
      some ((), m9))
    else (
      gt m9 a1 3 <|
      vb (sI m9 266 a1 (jmin r3 r8)) fun m15 =>
      vb (sI m15 267 a1 (jmax r3 r8)) fun m17 =>
      some ((), m17)))
set_option maxRecDepth 100000 in
def P_Text_init_69 (a0 : Nat) (s0 : Int32) (m : Mem) : Option (Unit × Mem) :=
  gd (inb s0 65536) <|
  vb (nw m 36 (ix s0) (ix s0)) fun m2 =>
  gt m2 a0 11 <|
  vb (sR m2 1288 a0 (some (mC m))) fun m6 =>
  gd (inb s0 65536) <|
  vb (nw m6 36 (ix s0) (ix s0)) fun m10 =>
  gt m10 a0 11 <|
  vb (sR m10 1289 a0 (some (mC m6))) fun m15 =>
  gd (inb s0 65536) <|
  vb (nw m15 32 (ix s0) (ix s0)) fun m19 =>
  gt m19 a0 11 <|
  vb (sR m19 1290 a0 (some (mC m15))) fun m24 =>
  gd (inb s0 65536) <|
  vb (nw m24 32 (ix s0) (ix s0)) fun m28 =>
  gt m28 a0 11 <|
  vb (sR m28 1291 a0 (some (mC m24))) fun m33 =>
  some ((), m33)
set_option maxRecDepth 100000 in
def P_Text_init_63 (a0 : Nat) (m : Mem) : Option (Unit × Mem) :=
  P_Text_init_69 a0 60 m
set_option maxRecDepth 100000 in
def P_Text_init (a0 : Nat) (x1 : Int32) (x2 : Int32) (x3 : Int32) (x4 : Int32) (x5 : Int32) (x6 : Option Nat) (x7 : Option Nat) (m : Mem) : Option (Unit × Mem) :=
  vb (sI m 1293 a0 51) fun m1 =>
  vb (sI m1 1294 a0 1) fun m3 =>
  vb (sI m3 1280 a0 x1) fun m5 =>
  vb (sI m5 1281 a0 x2) fun m7 =>
  vb (sI m7 1282 a0 x3) fun m9 =>
  vb (sI m9 1283 a0 x4) fun m11 =>
  vb (sI m11 1284 a0 x5) fun m13 =>
  vb (sR m13 1285 a0 x6) fun m15 =>
  vb (sR m15 1286 a0 x7) fun m17 =>
  if x1 = 0 then (
    P_Text_init_63 a0 m17)
  else (
    if x1 = 3 then (
      P_Text_init_63 a0 m17)
    else (
      P_Text_init_69 a0 0 m17))
set_option maxRecDepth 100000 in
def P_Parser_made_76 (k33 : Option Nat → Option Nat → Int32 → Mem → Option (Option Nat × Mem)) (x1 : Option Nat) (x2 : Option Nat) (x3 : Int32) (m : Mem) : Option (Option Nat × Mem) :=
  vb (x3 + 1 : Int32) fun v1 =>
  k33 x1 x2 v1 m
set_option maxRecDepth 100000 in
def P_Parser_made_82 (x1 : Option Nat) (x2 : Option Nat) (m : Mem) : Option (Option Nat × Mem) :=
  vb (nw m 11 0 17) fun m1 =>
  bn (P_Text_init (mC m) (mI m1 783 22) (mI m1 514 13) (mI m1 784 22) (mI m1 785 22) (mI m1 786 22) x1 x2 m1) fun _ m4 =>
  some (some (mC m), m4)
set_option maxRecDepth 100000 in
def P_Parser_made_33 : Nat → Option Nat → Option Nat → Int32 → Mem → Option (Option Nat × Mem)
  | 0, _, _, _, _ => none
  | n + 1, x1, x2, x3, m =>
  if (mI m 782 22) ≤ x3 then (
    P_Parser_made_82 x1 x2 m)
  else (
    gs x2 fun a2 =>
    gd (inb x3 30) <|
    gt m a2 36 <|
    gd (inb x3 (mN m a2)) <|
    go m (aR m 24 (ix x3)) 3 <|
    vb (wR m a2 (ix x3) (aR m 24 (ix x3))) fun m7 =>
    if x1 = none then (
      P_Parser_made_76 (fun z0 z1 z2 z3 => P_Parser_made_33 n z0 z1 z2 z3) x1 (some a2) x3 m7)
    else (
      gd (inb x3 (mN m7 a2)) <|
      gs (aR m7 a2 (ix x3)) fun a11 =>
      gt m7 a11 3 <|
      if (mI m7 256 a11) = 40 then (
        gd (inb x3 (mN m7 a2)) <|
        gs x1 fun a16 =>
        gt m7 a16 11 <|
        bn (P_Parser_setAmbit (aR m7 a2 (ix x3)) (mI m7 1281 a16) m7) fun _ m19 =>
        P_Parser_made_76 (fun z0 z1 z2 z3 => P_Parser_made_33 n z0 z1 z2 z3) (some a16) (some a2) x3 m19)
      else (
        P_Parser_made_76 (fun z0 z1 z2 z3 => P_Parser_made_33 n z0 z1 z2 z3) x1 (some a2) x3 m7)))
set_option maxRecDepth 100000 in
def P_Parser_made_22 (s0 : Option Nat) (m : Mem) : Option (Option Nat × Mem) :=
  gd (inb (mI m 782 22) 65536) <|
  vb (nw m 36 (ix (mI m 782 22)) (ix (mI m 782 22))) fun m2 =>
  P_Parser_made_33 FU s0 (some (mC m)) 0 m2
set_option maxRecDepth 100000 in
def P_Parser_made (m : Mem) : Option (Option Nat × Mem) :=
  if (mI m 783 22) = 0 then (
    P_Parser_made_22 none m)
  else (
    bn (P_Ledger_awardNamed (mI m 784 22) m) fun r2 m3 =>
    P_Parser_made_22 r2 m3)
set_option maxRecDepth 100000 in
def P_Parser_finish_67 (m : Mem) : Option (Option Nat × Mem) :=
  vb (sI m 771 22 (mI m 772 22)) fun m2 =>
  some (none, m2)
set_option maxRecDepth 100000 in
def P_Parser_finish_56 (x1 : Int32) (m : Mem) : Option (Option Nat × Mem) :=
  if x1 = 0 then (
    P_Parser_finish_67 m)
  else (
    if (mI m 773 22) = 0 then (
      bn (P_Parser_made m) fun r3 m4 =>
      some (r3, m4))
    else (
      P_Parser_finish_67 m))
set_option maxRecDepth 100000 in
def P_Parser_finish_30 (x1 : Int32) (m : Mem) : Option (Option Nat × Mem) :=
  if x1 = 0 then (
    P_Parser_finish_56 x1 m)
  else (
    if (mI m 778 22) = (-1) then (
      P_Parser_finish_56 x1 m)
    else (
      vb (sI m 773 22 6) fun m4 =>
      vb (sI m4 774 22 (mI m4 778 22)) fun m6 =>
      P_Parser_finish_56 x1 m6))
set_option maxRecDepth 100000 in
def P_Parser_finish (x1 : Int32) (m : Mem) : Option (Option Nat × Mem) :=
  if x1 = 0 then (
    P_Parser_finish_30 x1 m)
  else (
    if (mI m 776 22) = 0 then (
      P_Parser_finish_30 x1 m)
    else (
      vb (sI m 773 22 (mI m 776 22)) fun m4 =>
      vb (sI m4 774 22 (mI m4 777 22)) fun m6 =>
      P_Parser_finish_56 x1 m6))
set_option maxRecDepth 100000 in
def P_Fact_init (a0 : Nat) (x1 : Int32) (x2 : Int32) (x3 : Int32) (x4 : Int32) (x5 : Int32) (x6 : Int32) (x7 : Option Nat) (m : Mem) : Option (Unit × Mem) :=
  vb (sI m 0 a0 x1) fun m1 =>
  vb (sI m1 1 a0 x2) fun m3 =>
  vb (sI m3 2 a0 x3) fun m5 =>
  vb (sI m5 3 a0 x4) fun m7 =>
  vb (sI m7 4 a0 x5) fun m9 =>
  vb (sR m9 6 a0 x7) fun m11 =>
  gd (inb (jmax 0 x6) 65536) <|
  vb (nw m11 32 (ix (jmax 0 x6)) (ix (jmax 0 x6))) fun m14 =>
  gt m14 a0 1 <|
  vb (sR m14 5 a0 (some (mC m11))) fun m18 =>
  bn (J_fill (mR m18 5 a0) (-1) m18) fun _ m22 =>
  some ((), m22)
set_option maxRecDepth 100000 in
def P_Ledger_add (x1 : Option Nat) (m : Mem) : Option (Int32 × Mem) :=
  if (mI m 514 13) < 160 then (
    gd (inb (mI m 514 13) 160) <|
    go m x1 1 <|
    vb (wR m 14 (ix (mI m 514 13)) x1) fun m6 =>
    vb (sI m6 514 13 ((mI m6 514 13) + 1)) fun m8 =>
    some ((mI m8 514 13) - 1, m8))
  else (
    some ((-1), m))
set_option maxRecDepth 100000 in
def P_Ledger_enter_95 (x1 : Option Nat) (x2 : Int32) (m : Mem) : Option (Unit × Mem) :=
  gd (inb x2 24) <|
  go m x1 11 <|
  vb (wR m 15 (ix x2) x1) fun m5 =>
  vb (sI m5 515 13 ((mI m5 515 13) + 1)) fun m7 =>
  some ((), m7)
set_option maxRecDepth 100000 in
def P_Ledger_enter_53 : Nat → Option Nat → Int32 → Mem → Option (Unit × Mem)
  | 0, _, _, _ => none
  | n + 1, x1, x2, m =>
  if x2 ≤ 0 then (
    P_Ledger_enter_95 x1 x2 m)
  else (
    gd (inb (x2 - 1) 24) <|
    gs (aR m 15 (ix (x2 - 1))) fun a3 =>
    gt m a3 11 <|
    gs x1 fun a6 =>
    gt m a6 11 <|
    if (mI m 1284 a3) ≤ (mI m 1284 a6) then (
      P_Ledger_enter_95 (some a6) x2 m)
    else (
      gd (inb (x2 - 1) 24) <|
      gd (inb x2 24) <|
      go m (aR m 15 (ix (x2 - 1))) 11 <|
      vb (wR m 15 (ix x2) (aR m 15 (ix (x2 - 1)))) fun m14 =>
      vb (x2 + (-1) : Int32) fun v17 =>
      P_Ledger_enter_53 n (some a6) v17 m14))
set_option maxRecDepth 100000 in
def P_Ledger_enter (x1 : Option Nat) (m : Mem) : Option (Unit × Mem) :=
  if 24 ≤ (mI m 515 13) then (
    some ((), m))
  else (
    if (mI m 514 13) < 160 then (
      vb (nw m 1 0 7) fun m3 =>
      gs x1 fun a5 =>
      gt m3 a5 11 <|
      bn (P_Fact_init (mC m) (mI m3 1280 a5) 0 (mI m3 1284 a5) (mI m3 1282 a5) 0 0 (some a5) m3) fun _ m8 =>
      bn (P_Ledger_add (some (mC m)) m8) fun r10 m11 =>
      vb (mI m11 515 13 : Int32) fun v14 =>
      P_Ledger_enter_53 FU (some a5) v14 m11)
    else (
      some ((), m)))
set_option maxRecDepth 100000 in
def P_read_101 (m : Mem) : Option (Int32 × Mem) :=
  some (mI m 773 22, m)
set_option maxRecDepth 100000 in
def P_read_60 (s0 : Int32) (m : Mem) : Option (Int32 × Mem) :=
  bn (P_Parser_finish s0 m) fun r1 m2 =>
  vb (sI m2 641 16 0) fun m6 =>
  vb (sI m6 1415 0 (mI m6 774 22)) fun m8 =>
  if r1 = none then (
    P_read_101 m8)
  else (
    bn (P_Ledger_enter r1 m8) fun _ m11 =>
    P_read_101 m11)
set_option maxRecDepth 100000 in
def P_read_59 (m : Mem) : Option (Int32 × Mem) :=
  P_read_60 0 m
set_option maxRecDepth 100000 in
def P_read (m : Mem) : Option (Int32 × Mem) :=
  if 160 ≤ (mI m 514 13) then (
    some ((-2), m))
  else (
    if (mI m 515 13) < 24 then (
      bn (P_Parser_begin m) fun _ m4 =>
      bn (P_Parser_takeHead m4) fun r7 m8 =>
      if r7 = 0 then (
        P_read_59 m8)
      else (
        bn (P_Parser_takeItems m8) fun r12 m13 =>
        if r12 = 0 then (
          P_read_59 m13)
        else (
          P_read_60 1 m13)))
    else (
      some ((-2), m)))
set_option maxRecDepth 100000 in
def P_place (m : Mem) : Option (Int32 × Mem) :=
  some (mI m 1415 0, m)
set_option maxRecDepth 100000 in
def P_Parser_numberOfOnly (m : Mem) : Option (Int32 × Mem) :=
  bn (P_Lexer_scan m) fun _ m2 =>
  gd (inb 0 501) <|
  if (aI m2 18 (ix 0)) = 2 then (
    gd (inb 1 501) <|
    if (aI m2 18 (ix 1)) = 0 then (
      gd (inb 0 501) <|
      bn (P_Parser_numberOf (aL m2 20 (ix 0)) m2) fun r10 m11 =>
      some (r10, m11))
    else (
      some ((-1), m2)))
  else (
    some ((-1), m2))
set_option maxRecDepth 100000 in
def P_named (m : Mem) : Option (Int32 × Mem) :=
  bn (P_Parser_numberOfOnly m) fun r1 m2 =>
  vb (sI m2 641 16 0) fun m6 =>
  some (r1, m6)
set_option maxRecDepth 100000 in
def P_town (m : Mem) : Option (Int32 × Mem) :=
  if (mI m 384 5) < 5 then (
    vb (sI m 384 5 ((mI m 384 5) + 1)) fun m3 =>
    some ((mI m3 384 5) - 1, m3))
  else (
    some ((-1), m))
set_option maxRecDepth 100000 in
def P_Land_hasTown (x1 : Int32) (m : Mem) : Option (Int32 × Mem) :=
  bp (P_within x1 0 ((mI m 384 5) - 1)) fun r1 =>
  gz r1 <|
  some (r1, m)
set_option maxRecDepth 100000 in
def P_Land_addFirm (x1 : Int32) (x2 : Int32) (m : Mem) : Option (Int32 × Mem) :=
  if (mI m 385 5) < 8 then (
    gd (inb (mI m 385 5) 8) <|
    vb (wI m 6 (ix (mI m 385 5)) x1) fun m5 =>
    gd (inb (mI m5 385 5) 8) <|
    vb (wI m5 7 (ix (mI m5 385 5)) x2) fun m9 =>
    vb (sI m9 385 5 ((mI m9 385 5) + 1)) fun m11 =>
    some ((mI m11 385 5) - 1, m11))
  else (
    some ((-1), m))
set_option maxRecDepth 100000 in
def P_firm (x1 : Int32) (x2 : Int32) (m : Mem) : Option (Int32 × Mem) :=
  bn (P_Land_hasTown x1 m) fun r1 m2 =>
  if r1 = 0 then (
    some ((-1), m2))
  else (
    bp (P_within x2 0 7) fun r6 =>
    if r6 = 0 then (
      some ((-1), m2))
    else (
      bn (P_Land_addFirm x1 x2 m2) fun r8 m9 =>
      some (r8, m9)))
set_option maxRecDepth 100000 in
def P_Land_hasFirm (x1 : Int32) (m : Mem) : Option (Int32 × Mem) :=
  bp (P_within x1 0 ((mI m 385 5) - 1)) fun r1 =>
  gz r1 <|
  some (r1, m)
set_option maxRecDepth 100000 in
def P_Land_addPerson (x1 : Int32) (x2 : Int32) (x3 : Int32) (m : Mem) : Option (Int32 × Mem) :=
  if (mI m 386 5) < 10 then (
    gd (inb (mI m 386 5) 10) <|
    vb (wI m 8 (ix (mI m 386 5)) x1) fun m5 =>
    gd (inb (mI m5 386 5) 10) <|
    vb (wI m5 9 (ix (mI m5 386 5)) x2) fun m9 =>
    gd (inb (mI m9 386 5) 10) <|
    vb (wI m9 10 (ix (mI m9 386 5)) x3) fun m13 =>
    vb (sI m13 386 5 ((mI m13 386 5) + 1)) fun m15 =>
    some ((mI m15 386 5) - 1, m15))
  else (
    some ((-1), m))
set_option maxRecDepth 100000 in
def P_person (x1 : Int32) (x2 : Int32) (x3 : Int32) (m : Mem) : Option (Int32 × Mem) :=
  bn (P_Land_hasFirm x1 m) fun r1 m2 =>
  if r1 = 0 then (
    some ((-1), m2))
  else (
    bp (P_within x2 0 255) fun r6 =>
    if r6 = 0 then (
      some ((-1), m2))
    else (
      bp (P_within x3 0 40) fun r8 =>
      if r8 = 0 then (
        some ((-1), m2))
      else (
        bn (P_Land_addPerson x1 x2 x3 m2) fun r10 m11 =>
        some (r10, m11))))
set_option maxRecDepth 100000 in
def P_isTask (x0 : Int32) : Option (Int32) :=
  bp (P_within x0 0 15) fun r1 =>
  gz r1 <|
  some (r1)
set_option maxRecDepth 100000 in
def P_marks (x1 : Int32) (x2 : Int32) (m : Mem) : Option (Int32 × Mem) :=
  bp (P_isTask x1) fun r1 =>
  if r1 = 0 then (
    some (0, m))
  else (
    bp (P_within x2 0 255) fun r3 =>
    if r3 = 0 then (
      some (0, m))
    else (
      gd (inb x1 16) <|
      vb (wI m 11 (ix x1) x2) fun m8 =>
      some (1, m8)))
set_option maxRecDepth 100000 in
def P_weight (x1 : Int32) (x2 : Int32) (m : Mem) : Option (Int32 × Mem) :=
  bp (P_within x1 0 3) fun r1 =>
  if r1 = 0 then (
    some (0, m))
  else (
    bp (P_within x2 0 9) fun r3 =>
    if r3 = 0 then (
      some (0, m))
    else (
      gd (inb x1 4) <|
      vb (wI m 12 (ix x1) x2) fun m8 =>
      some (1, m8)))
set_option maxRecDepth 100000 in
def P_isQuarter (x0 : Int32) : Option (Int32) :=
  bp (P_within x0 0 3) fun r1 =>
  gz r1 <|
  some (r1)
set_option maxRecDepth 100000 in
def P_Ledger_tell (x1 : Int32) (x2 : Int32) (x3 : Int32) (x4 : Int32) (x5 : Int32) (m : Mem) : Option (Int32 × Mem) :=
  vb (nw m 1 0 7) fun m1 =>
  bn (P_Fact_init (mC m) x1 x2 x3 x4 x5 0 none m1) fun _ m4 =>
  bn (P_Ledger_add (some (mC m)) m4) fun r6 m7 =>
  some (r6, m7)
set_option maxRecDepth 100000 in
def P_price (x1 : Int32) (x2 : Int32) (x3 : Int32) (x4 : Int32) (m : Mem) : Option (Int32 × Mem) :=
  bn (P_Land_hasTown x1 m) fun r1 m2 =>
  if r1 = 0 then (
    some ((-1), m2))
  else (
    bp (P_isQuarter x2) fun r6 =>
    if r6 = 0 then (
      some ((-1), m2))
    else (
      bp (P_within x3 0 3) fun r8 =>
      if r8 = 0 then (
        some ((-1), m2))
      else (
        bp (P_within x4 0 99) fun r10 =>
        if r10 = 0 then (
          some ((-1), m2))
        else (
          bn (P_Ledger_tell 4 x1 x2 x3 x4 m2) fun r12 m13 =>
          some (r12, m13)))))
set_option maxRecDepth 100000 in
def P_isDay (x0 : Int32) : Option (Int32) :=
  bp (P_within x0 0 139) fun r1 =>
  gz r1 <|
  some (r1)
set_option maxRecDepth 100000 in
def P_wet (x1 : Int32) (x2 : Int32) (x3 : Int32) (m : Mem) : Option (Int32 × Mem) :=
  bn (P_Land_hasFirm x1 m) fun r1 m2 =>
  if r1 = 0 then (
    some ((-1), m2))
  else (
    bp (P_isDay x2) fun r6 =>
    if r6 = 0 then (
      some ((-1), m2))
    else (
      bp (P_within x3 0 9) fun r8 =>
      if r8 = 0 then (
        some ((-1), m2))
      else (
        bn (P_Ledger_tell 5 x1 x2 0 x3 m2) fun r10 m11 =>
        some (r10, m11))))
set_option maxRecDepth 100000 in
def P_Land_hasPerson (x1 : Int32) (m : Mem) : Option (Int32 × Mem) :=
  bp (P_within x1 0 ((mI m 386 5) - 1)) fun r1 =>
  gz r1 <|
  some (r1, m)
set_option maxRecDepth 100000 in
def P_Ledger_tellRow (x1 : Int32) (x2 : Int32) (x3 : Int32) (m : Mem) : Option (Int32 × Mem) :=
  vb (nw m 1 0 7) fun m1 =>
  bn (P_Fact_init (mC m) 6 x1 x2 0 0 x3 none m1) fun _ m4 =>
  bn (P_Ledger_add (some (mC m)) m4) fun r6 m7 =>
  some (r6, m7)
set_option maxRecDepth 100000 in
def P_row_51 (s0 : Int32) (s1 : Int32) (s2 : Int32) (m : Mem) : Option (Int32 × Mem) :=
  bn (P_Ledger_tellRow s2 s1 s0 m) fun r1 m2 =>
  some (r1, m2)
set_option maxRecDepth 100000 in
def P_row_35 (x1 : Int32) (x2 : Int32) (x3 : Int32) (m : Mem) : Option (Int32 × Mem) :=
  if x3 = (-1) then (
    P_row_51 0 x2 x1 m)
  else (
    P_row_51 x3 x2 x1 m)
set_option maxRecDepth 100000 in
def P_row (x1 : Int32) (x2 : Int32) (x3 : Int32) (m : Mem) : Option (Int32 × Mem) :=
  bn (P_Land_hasPerson x1 m) fun r1 m2 =>
  if r1 = 0 then (
    some ((-1), m2))
  else (
    bp (P_isDay x2) fun r6 =>
    if r6 = 0 then (
      some ((-1), m2))
    else (
      if x3 = (-1) then (
        P_row_35 x1 x2 x3 m2)
      else (
        bp (P_within x3 1 48) fun r9 =>
        if r9 = 0 then (
          some ((-1), m2))
        else (
          P_row_35 x1 x2 x3 m2))))
set_option maxRecDepth 100000 in
def P_Ledger_factAt (x1 : Int32) (m : Mem) : Option (Option Nat × Mem) :=
  bp (P_within x1 0 ((mI m 514 13) - 1)) fun r1 =>
  if r1 = 0 then (
    some (none, m))
  else (
    gd (inb x1 160) <|
    some (aR m 14 (ix x1), m))
set_option maxRecDepth 100000 in
def P_cell_67 (x1 : Int32) (x2 : Int32) (x3 : Option Nat) (m : Mem) : Option (Int32 × Mem) :=
  gs x3 fun a1 =>
  gt m a1 1 <|
  gs (mR m 5 a1) fun a3 =>
  gt m a3 32 <|
  gd (inb x1 (mN m a3)) <|
  vb (wI m a3 (ix x1) x2) fun m7 =>
  some (1, m7)
set_option maxRecDepth 100000 in
def P_cell (x1 : Int32) (x2 : Int32) (m : Mem) : Option (Int32 × Mem) :=
  bn (P_Ledger_factAt ((mI m 514 13) - 1) m) fun r1 m2 =>
  if r1 = none then (
    some (0, m2))
  else (
    gs r1 fun a6 =>
    gt m2 a6 1 <|
    if (mI m2 0 a6) = 6 then (
      gs (mR m2 5 a6) fun a9 =>
      gt m2 a9 32 <|
      bp (P_within x1 0 ((Int32.ofNat (mN m2 a9)) - 1)) fun r12 =>
      if r12 = 0 then (
        some (0, m2))
      else (
        if x2 = (-1) then (
          P_cell_67 x1 x2 (some a6) m2)
        else (
          if x2 = 16 then (
            P_cell_67 x1 x2 (some a6) m2)
          else (
            bp (P_isTask x2) fun r16 =>
            if r16 = 0 then (
              some (0, m2))
            else (
              P_cell_67 x1 x2 (some a6) m2)))))
    else (
      some (0, m2)))
set_option maxRecDepth 100000 in
def P_Ledger_textAt_14 (s0 : Option Nat) (m : Mem) : Option (Option Nat × Mem) :=
  if s0 = none then (
    some (none, m))
  else (
    gs s0 fun a2 =>
    gt m a2 1 <|
    some (mR m 6 a2, m))
set_option maxRecDepth 100000 in
def P_Ledger_textAt (x1 : Int32) (x2 : Int32) (m : Mem) : Option (Option Nat × Mem) :=
  if x2 ≤ x1 then (
    P_Ledger_textAt_14 none m)
  else (
    bn (P_Ledger_factAt x1 m) fun r2 m3 =>
    P_Ledger_textAt_14 r2 m3)
set_option maxRecDepth 100000 in
def P_isName (x1 : Int32) (m : Mem) : Option (Int32 × Mem) :=
  bp (P_within x1 0 ((mI m 771 22) - 1)) fun r1 =>
  gz r1 <|
  some (r1, m)
set_option maxRecDepth 100000 in
def P_tellClaim (x1 : Int32) (x2 : Int32) (x3 : Int32) (x4 : Int32) (m : Mem) : Option (Int32 × Mem) :=
  bn (P_Ledger_textAt x2 (mI m 514 13) m) fun r1 m2 =>
  if r1 = none then (
    some ((-1), m2))
  else (
    gs r1 fun a6 =>
    gt m2 a6 11 <|
    if (mI m2 1280 a6) = 0 then (
      bn (P_isName x3 m2) fun r9 m10 =>
      if r9 = 0 then (
        some ((-1), m10))
      else (
        bp (P_within x4 0 9999) fun r14 =>
        if r14 = 0 then (
          some ((-1), m10))
        else (
          bn (P_Ledger_tell x1 x2 0 x3 x4 m10) fun r16 m17 =>
          some (r16, m17))))
    else (
      some ((-1), m2)))
set_option maxRecDepth 100000 in
def P_log (x1 : Int32) (x2 : Int32) (x3 : Int32) (m : Mem) : Option (Int32 × Mem) :=
  bn (P_tellClaim 7 x1 x2 x3 m) fun r1 m2 =>
  some (r1, m2)
set_option maxRecDepth 100000 in
def P_answer (x1 : Int32) (x2 : Int32) (x3 : Int32) (m : Mem) : Option (Int32 × Mem) :=
  bn (P_tellClaim 8 x1 x2 x3 m) fun r1 m2 =>
  some (r1, m2)
set_option maxRecDepth 100000 in
def P_isWeek (x0 : Int32) : Option (Int32) :=
  bp (P_within x0 0 19) fun r1 =>
  gz r1 <|
  some (r1)
set_option maxRecDepth 100000 in
def P_paid (x1 : Int32) (x2 : Int32) (x3 : Int32) (m : Mem) : Option (Int32 × Mem) :=
  bn (P_Land_hasPerson x1 m) fun r1 m2 =>
  if r1 = 0 then (
    some ((-1), m2))
  else (
    bp (P_isWeek x2) fun r6 =>
    if r6 = 0 then (
      some ((-1), m2))
    else (
      bp (P_within x3 (-99999) 99999) fun r8 =>
      if r8 = 0 then (
        some ((-1), m2))
      else (
        bn (P_Ledger_tell 9 x1 x2 0 x3 m2) fun r10 m11 =>
        some (r10, m11))))
set_option maxRecDepth 100000 in
def P_stay (x1 : Int32) (x2 : Int32) (x3 : Int32) (m : Mem) : Option (Int32 × Mem) :=
  bn (P_Ledger_textAt x1 (mI m 514 13) m) fun r1 m2 =>
  if r1 = none then (
    some ((-1), m2))
  else (
    if x2 < 0 then (
      some ((-1), m2))
    else (
      if x3 ≤ x2 then (
        some ((-1), m2))
      else (
        if x3 ≤ 140 then (
          bn (P_Ledger_tell 10 x1 x2 0 x3 m2) fun r9 m10 =>
          some (r9, m10))
        else (
          some ((-1), m2)))))
set_option maxRecDepth 100000 in
def P_Ledger_canKnow (x1 : Int32) (m : Mem) : Option (Int32 × Mem) :=
  bp (P_within x1 0 (mI m 514 13)) fun r1 =>
  gz r1 <|
  some (r1, m)
set_option maxRecDepth 100000 in
def P_Ledger_lastPrice_80 (k9 : Int32 → Int32 → Int32 → Int32 → Int32 → Int32 → Int32 → Mem → Option (Int32 × Mem)) (x1 : Int32) (x2 : Int32) (x3 : Int32) (x4 : Int32) (x5 : Int32) (x6 : Int32) (x7 : Int32) (m : Mem) : Option (Int32 × Mem) :=
  vb (x7 + 1 : Int32) fun v1 =>
  k9 x1 x2 x3 x4 x5 x6 v1 m
set_option maxRecDepth 100000 in
def P_Ledger_lastPrice_9 : Nat → Int32 → Int32 → Int32 → Int32 → Int32 → Int32 → Int32 → Mem → Option (Int32 × Mem)
  | 0, _, _, _, _, _, _, _, _ => none
  | n + 1, x1, x2, x3, x4, x5, x6, x7, m =>
  if x4 ≤ x7 then (
    some (x6, m))
  else (
    gd (inb x7 160) <|
    gs (aR m 14 (ix x7)) fun a3 =>
    gt m a3 1 <|
    if (mI m 0 a3) = 4 then (
      if (mI m 1 a3) = x1 then (
        if (mI m 3 a3) = x3 then (
          bp (P_within (mI m 2 a3) x5 x2) fun r9 =>
          if r9 = 0 then (
            P_Ledger_lastPrice_80 (fun z0 z1 z2 z3 z4 z5 z6 z7 => P_Ledger_lastPrice_9 n z0 z1 z2 z3 z4 z5 z6 z7) x1 x2 x3 x4 x5 x6 x7 m)
          else (
            vb (mI m 2 a3 : Int32) fun v11 =>
            vb (mI m 4 a3 : Int32) fun v12 =>
            P_Ledger_lastPrice_80 (fun z0 z1 z2 z3 z4 z5 z6 z7 => P_Ledger_lastPrice_9 n z0 z1 z2 z3 z4 z5 z6 z7) x1 x2 x3 x4 v11 v12 x7 m))
        else (
          P_Ledger_lastPrice_80 (fun z0 z1 z2 z3 z4 z5 z6 z7 => P_Ledger_lastPrice_9 n z0 z1 z2 z3 z4 z5 z6 z7) x1 x2 x3 x4 x5 x6 x7 m))
      else (
        P_Ledger_lastPrice_80 (fun z0 z1 z2 z3 z4 z5 z6 z7 => P_Ledger_lastPrice_9 n z0 z1 z2 z3 z4 z5 z6 z7) x1 x2 x3 x4 x5 x6 x7 m))
    else (
      P_Ledger_lastPrice_80 (fun z0 z1 z2 z3 z4 z5 z6 z7 => P_Ledger_lastPrice_9 n z0 z1 z2 z3 z4 z5 z6 z7) x1 x2 x3 x4 x5 x6 x7 m))
set_option maxRecDepth 100000 in
def P_Ledger_lastPrice (x1 : Int32) (x2 : Int32) (x3 : Int32) (x4 : Int32) (m : Mem) : Option (Int32 × Mem) :=
  P_Ledger_lastPrice_9 FU x1 x2 x3 x4 0 0 0 m
set_option maxRecDepth 100000 in
def P_priced (x1 : Int32) (x2 : Int32) (x3 : Int32) (x4 : Int32) (m : Mem) : Option (Int32 × Mem) :=
  bn (P_Land_hasTown x1 m) fun r1 m2 =>
  if r1 = 0 then (
    some ((-1), m2))
  else (
    bp (P_isQuarter x2) fun r6 =>
    if r6 = 0 then (
      some ((-1), m2))
    else (
      bp (P_within x3 0 3) fun r8 =>
      if r8 = 0 then (
        some ((-1), m2))
      else (
        bn (P_Ledger_canKnow x4 m2) fun r10 m11 =>
        if r10 = 0 then (
          some ((-1), m11))
        else (
          bn (P_Ledger_lastPrice x1 x2 x3 x4 m11) fun r15 m16 =>
          some (r15, m16)))))
set_option maxRecDepth 100000 in
def P_Ledger_basket_6 : Nat → Int32 → Int32 → Int32 → Option Nat → Int32 → Int32 → Mem → Option (Int32 × Mem)
  | 0, _, _, _, _, _, _, _ => none
  | n + 1, x1, x2, x3, x4, x5, x6, m =>
  gs x4 fun a1 =>
  gt m a1 32 <|
  if (Int32.ofNat (mN m a1)) ≤ x6 then (
    some (x5, m))
  else (
    gd (inb x6 (mN m a1)) <|
    bn (P_Ledger_lastPrice x1 x2 x6 x3 m) fun r5 m6 =>
    vb (x5 + ((aI m a1 (ix x6)) * r5) : Int32) fun v9 =>
    vb (x6 + 1 : Int32) fun v10 =>
    P_Ledger_basket_6 n x1 x2 x3 (some a1) v9 v10 m6)
set_option maxRecDepth 100000 in
def P_Ledger_basket (x1 : Int32) (x2 : Int32) (x3 : Int32) (x4 : Option Nat) (m : Mem) : Option (Int32 × Mem) :=
  P_Ledger_basket_6 FU x1 x2 x3 x4 0 0 m
set_option maxRecDepth 100000 in
def P_least (x1 : Int32) (x2 : Int32) (x3 : Int32) (m : Mem) : Option (Int32 × Mem) :=
  bn (P_Land_hasTown x1 m) fun r1 m2 =>
  if r1 = 0 then (
    some ((-1), m2))
  else (
    bp (P_isQuarter x2) fun r6 =>
    if r6 = 0 then (
      some ((-1), m2))
    else (
      bn (P_Ledger_canKnow x3 m2) fun r8 m9 =>
      if r8 = 0 then (
        some ((-1), m9))
      else (
        bn (P_Ledger_basket x1 x2 x3 (some 12) m9) fun r13 m14 =>
        some (r13, m14))))
set_option maxRecDepth 100000 in
def P_kind (x1 : Int32) (m : Mem) : Option (Int32 × Mem) :=
  bn (P_Ledger_factAt x1 m) fun r1 m2 =>
  if r1 = none then (
    some ((-1), m2))
  else (
    gs r1 fun a6 =>
    gt m2 a6 1 <|
    some (mI m2 0 a6, m2))
set_option maxRecDepth 100000 in
def P_Text_awardFact (a0 : Nat) (m : Mem) : Option (Int32 × Mem) :=
  if (mR m 1285 a0) = none then (
    some (mI m 1281 a0, m))
  else (
    gs (mR m 1285 a0) fun a2 =>
    gt m a2 11 <|
    some (mI m 1281 a2, m))
set_option maxRecDepth 100000 in
def P_award (x1 : Int32) (m : Mem) : Option (Int32 × Mem) :=
  bn (P_Ledger_textAt x1 (mI m 514 13) m) fun r1 m2 =>
  if r1 = none then (
    some ((-1), m2))
  else (
    gs r1 fun a6 =>
    gt m2 a6 11 <|
    bn (P_Text_awardFact a6 m2) fun r8 m9 =>
    some (r8, m9))
set_option maxRecDepth 100000 in
def P_Ledger_setInForce_64 (k3 : Int32 → Int32 → Int32 → Int32 → Mem → Option (Unit × Mem)) (x1 : Int32) (x2 : Int32) (x3 : Int32) (x4 : Int32) (s0 : Int32) (s1 : Option Nat) (m : Mem) : Option (Unit × Mem) :=
  gs s1 fun a1 =>
  gt m a1 11 <|
  gz s0 <|
  vb (sI m 1287 a1 s0) fun m4 =>
  vb (x4 + 1 : Int32) fun v6 =>
  k3 x1 x2 x3 v6 m4
set_option maxRecDepth 100000 in
def P_Ledger_setInForce_59 (k3 : Int32 → Int32 → Int32 → Int32 → Mem → Option (Unit × Mem)) (x1 : Int32) (x2 : Int32) (x3 : Int32) (x4 : Int32) (s0 : Option Nat) (m : Mem) : Option (Unit × Mem) :=
  P_Ledger_setInForce_64 k3 x1 x2 x3 x4 1 s0 m
set_option maxRecDepth 100000 in
def P_Ledger_setInForce_63 (k3 : Int32 → Int32 → Int32 → Int32 → Mem → Option (Unit × Mem)) (x1 : Int32) (x2 : Int32) (x3 : Int32) (x4 : Int32) (s0 : Option Nat) (m : Mem) : Option (Unit × Mem) :=
  P_Ledger_setInForce_64 k3 x1 x2 x3 x4 0 s0 m
set_option maxRecDepth 100000 in
def P_Ledger_setInForce_154 (k76 : Int32 → Int32 → Int32 → Mem → Option (Unit × Mem)) (x2 : Int32) (x3 : Int32) (x4 : Int32) (m : Mem) : Option (Unit × Mem) :=
  vb (x4 + 1 : Int32) fun v1 =>
  k76 x2 x3 v1 m
set_option maxRecDepth 100000 in
def P_Ledger_setInForce_76 : Nat → Int32 → Int32 → Int32 → Mem → Option (Unit × Mem)
  | 0, _, _, _, _ => none
  | n + 1, x2, x3, x4, m =>
  if x3 ≤ x4 then (
    some ((), m))
  else (
    gd (inb x4 160) <|
    gs (aR m 14 (ix x4)) fun a3 =>
    gt m a3 1 <|
    if (mI m 0 a3) = 10 then (
      gd (inb x4 160) <|
      gs (aR m 14 (ix x4)) fun a8 =>
      gt m a8 1 <|
      gd (inb x4 160) <|
      gs (aR m 14 (ix x4)) fun a12 =>
      gt m a12 1 <|
      bp (P_within x2 (mI m 2 a8) ((mI m 4 a12) - 1)) fun r15 =>
      if r15 = 0 then (
        P_Ledger_setInForce_154 (fun z0 z1 z2 z3 => P_Ledger_setInForce_76 n z0 z1 z2 z3) x2 x3 x4 m)
      else (
        gd (inb x4 160) <|
        gs (aR m 14 (ix x4)) fun a18 =>
        gt m a18 1 <|
        bn (P_Ledger_textAt (mI m 1 a18) x3 m) fun r21 m22 =>
        if r21 = none then (
          P_Ledger_setInForce_154 (fun z0 z1 z2 z3 => P_Ledger_setInForce_76 n z0 z1 z2 z3) x2 x3 x4 m22)
        else (
          gs r21 fun a26 =>
          gt m22 a26 11 <|
          vb (sI m22 1287 a26 0) fun m28 =>
          P_Ledger_setInForce_154 (fun z0 z1 z2 z3 => P_Ledger_setInForce_76 n z0 z1 z2 z3) x2 x3 x4 m28)))
    else (
      P_Ledger_setInForce_154 (fun z0 z1 z2 z3 => P_Ledger_setInForce_76 n z0 z1 z2 z3) x2 x3 x4 m))
set_option maxRecDepth 100000 in
def P_Ledger_setInForce_73 (x2 : Int32) (x3 : Int32) (m : Mem) : Option (Unit × Mem) :=
  P_Ledger_setInForce_76 FU x2 x3 0 m
set_option maxRecDepth 100000 in
def P_Ledger_setInForce_3 : Nat → Int32 → Int32 → Int32 → Int32 → Mem → Option (Unit × Mem)
  | 0, _, _, _, _, _ => none
  | n + 1, x1, x2, x3, x4, m =>
  if (mI m 515 13) ≤ x4 then (
    P_Ledger_setInForce_73 x2 x3 m)
  else (
    gd (inb x4 24) <|
    gs (aR m 15 (ix x4)) fun a3 =>
    gt m a3 11 <|
    if x3 ≤ (mI m 1281 a3) then (
      P_Ledger_setInForce_63 (fun z0 z1 z2 z3 z4 => P_Ledger_setInForce_3 n z0 z1 z2 z3 z4) x1 x2 x3 x4 (some a3) m)
    else (
      if x2 < (mI m 1284 a3) then (
        P_Ledger_setInForce_63 (fun z0 z1 z2 z3 z4 => P_Ledger_setInForce_3 n z0 z1 z2 z3 z4) x1 x2 x3 x4 (some a3) m)
      else (
        if (mI m 1283 a3) = (-1) then (
          P_Ledger_setInForce_59 (fun z0 z1 z2 z3 z4 => P_Ledger_setInForce_3 n z0 z1 z2 z3 z4) x1 x2 x3 x4 (some a3) m)
        else (
          if (mI m 1283 a3) = x1 then (
            P_Ledger_setInForce_59 (fun z0 z1 z2 z3 z4 => P_Ledger_setInForce_3 n z0 z1 z2 z3 z4) x1 x2 x3 x4 (some a3) m)
          else (
            P_Ledger_setInForce_63 (fun z0 z1 z2 z3 z4 => P_Ledger_setInForce_3 n z0 z1 z2 z3 z4) x1 x2 x3 x4 (some a3) m)))))
set_option maxRecDepth 100000 in
def P_Ledger_setInForce (x1 : Int32) (x2 : Int32) (x3 : Int32) (m : Mem) : Option (Unit × Mem) :=
  P_Ledger_setInForce_3 FU x1 x2 x3 0 m
set_option maxRecDepth 100000 in
def P_Text_changesAward (a0 : Nat) (m : Mem) : Option (Int32 × Mem) :=
  if (mR m 1285 a0) = none then (
    some (0, m))
  else (
    if (mI m 1280 a0) = 3 then (
      some (0, m))
    else (
      some (1, m)))
set_option maxRecDepth 100000 in
def P_Text_clear (a0 : Nat) (m : Mem) : Option (Unit × Mem) :=
  vb (sI m 1292 a0 0) fun m1 =>
  vb (sI m1 1293 a0 51) fun m3 =>
  vb (sI m3 1294 a0 1) fun m5 =>
  some ((), m5)
set_option maxRecDepth 100000 in
def P_Text_entryOf_2 : Nat → Nat → Int32 → Int32 → Mem → Option (Int32 × Mem)
  | 0, _, _, _, _ => none
  | n + 1, a0, x1, x2, m =>
  if (mI m 1292 a0) ≤ x2 then (
    some ((-1), m))
  else (
    gs (mR m 1288 a0) fun a2 =>
    gt m a2 36 <|
    gd (inb x2 (mN m a2)) <|
    gs (aR m a2 (ix x2)) fun a6 =>
    gt m a6 3 <|
    if (mI m 258 a6) = x1 then (
      some (x2, m))
    else (
      vb (x2 + 1 : Int32) fun v10 =>
      P_Text_entryOf_2 n a0 x1 v10 m))
set_option maxRecDepth 100000 in
def P_Text_entryOf (a0 : Nat) (x1 : Int32) (m : Mem) : Option (Int32 × Mem) :=
  P_Text_entryOf_2 FU a0 x1 0 m
set_option maxRecDepth 100000 in
def P_Text_put_41 (a0 : Nat) (x1 : Option Nat) (x2 : Int32) (m : Mem) : Option (Unit × Mem) :=
  if x2 = (-1) then (
    some ((), m))
  else (
    gs (mR m 1288 a0) fun a2 =>
    gt m a2 36 <|
    gd (inb x2 (mN m a2)) <|
    go m x1 3 <|
    vb (wR m a2 (ix x2) x1) fun m7 =>
    gs (mR m7 1289 a0) fun a10 =>
    gt m7 a10 36 <|
    gd (inb x2 (mN m7 a10)) <|
    go m7 x1 3 <|
    vb (wR m7 a10 (ix x2) x1) fun m15 =>
    some ((), m15))
set_option maxRecDepth 100000 in
def P_Text_put (a0 : Nat) (x1 : Option Nat) (m : Mem) : Option (Unit × Mem) :=
  gs x1 fun a1 =>
  gt m a1 3 <|
  bn (P_Text_entryOf a0 (mI m 258 a1) m) fun r3 m4 =>
  if r3 = (-1) then (
    gt m4 a0 11 <|
    gs (mR m4 1288 a0) fun a8 =>
    gt m4 a8 36 <|
    if (Int32.ofNat (mN m4 a8)) ≤ (mI m4 1292 a0) then (
      P_Text_put_41 a0 (some a1) r3 m4)
    else (
      vb (mI m4 1292 a0 : Int32) fun v12 =>
      vb (sI m4 1292 a0 ((mI m4 1292 a0) + 1)) fun m13 =>
      P_Text_put_41 a0 (some a1) v12 m13))
  else (
    gt m4 a0 11 <| P_Text_put_41 a0 (some a1) r3 m4)
set_option maxRecDepth 100000 in
def P_Text_drop_25 : Nat → Nat → Int32 → Mem → Option (Int32 × Mem)
  | 0, _, _, _ => none
  | n + 1, a0, x3, m =>
  if (mI m 1292 a0) ≤ x3 then (
    some (1, m))
  else (
    gs (mR m 1288 a0) fun a2 =>
    gs (mR m 1288 a0) fun a4 =>
    gt m a4 36 <|
    gd (inb (x3 + 1) (mN m a4)) <|
    gt m a2 36 <|
    gd (inb x3 (mN m a2)) <|
    go m (aR m a4 (ix (x3 + 1))) 3 <|
    vb (wR m a2 (ix x3) (aR m a4 (ix (x3 + 1)))) fun m11 =>
    gs (mR m11 1289 a0) fun a15 =>
    gs (mR m11 1289 a0) fun a17 =>
    gt m11 a17 36 <|
    gd (inb (x3 + 1) (mN m11 a17)) <|
    gt m11 a15 36 <|
    gd (inb x3 (mN m11 a15)) <|
    go m11 (aR m11 a17 (ix (x3 + 1))) 3 <|
    vb (wR m11 a15 (ix x3) (aR m11 a17 (ix (x3 + 1)))) fun m24 =>
    vb (x3 + 1 : Int32) fun v30 =>
    P_Text_drop_25 n a0 v30 m24)
set_option maxRecDepth 100000 in
def P_Text_drop (a0 : Nat) (x1 : Int32) (m : Mem) : Option (Int32 × Mem) :=
  bn (P_Text_entryOf a0 x1 m) fun r1 m2 =>
  if r1 = (-1) then (
    some (0, m2))
  else (
    gt m2 a0 11 <|
    vb (sI m2 1292 a0 ((mI m2 1292 a0) - 1)) fun m6 =>
    P_Text_drop_25 FU a0 r1 m6)
set_option maxRecDepth 100000 in
def P_Text_classEntry (a0 : Nat) (x1 : Int32) (m : Mem) : Option (Int32 × Mem) :=
  bn (P_Text_entryOf a0 x1 m) fun r1 m2 =>
  if r1 = (-1) then (
    some ((-1), m2))
  else (
    gt m2 a0 11 <|
    gs (mR m2 1288 a0) fun a6 =>
    gt m2 a6 36 <|
    gd (inb r1 (mN m2 a6)) <|
    gs (aR m2 a6 (ix r1)) fun a10 =>
    gt m2 a10 3 <|
    if (mI m2 256 a10) = 34 then (
      some (r1, m2))
    else (
      some ((-1), m2)))
set_option maxRecDepth 100000 in
def P_Formula_operand (x0 : Int32) (x1 : Int32) (x2 : Option Nat) (x3 : Int32) (m : Mem) : Option (Int32 × Mem) :=
  if x0 = 3 then (
    some (x1, m))
  else (
    if x0 = 59 then (
      some ((x3 >>> (x1 &&& 31)) &&& 1, m))
    else (
      vb (x0 - 20 : Int32) fun v3 =>
      if v3 < 0 then (
        some (0, m))
      else (
        gs x2 fun a5 =>
        gt m a5 32 <|
        if (Int32.ofNat (mN m a5)) ≤ v3 then (
          some (0, m))
        else (
          gd (inb v3 (mN m a5)) <|
          some (aI m a5 (ix v3), m)))))
set_option maxRecDepth 100000 in
def P_Formula_isSo (x0 : Int32) (x1 : Int32) (x2 : Int32) : Option (Int32) :=
  if x0 = 10 then (
    if x1 = x2 then (
      some (1))
    else (
      some (0)))
  else   if x0 = 11 then (
    if x1 = x2 then (
      some (0))
    else (
      some (1)))
  else   if x0 = 12 then (
    if x2 ≤ x1 then (
      some (0))
    else (
      some (1)))
  else (
    if x2 < x1 then (
      some (0))
    else (
      some (1)))
set_option maxRecDepth 100000 in
def P_Formula_joined (x0 : Int32) (x1 : Int32) (x2 : Int32) : Option (Int32) :=
  if x0 = 6 then (
    some (x1 + x2))
  else   if x0 = 7 then (
    some (x1 - x2))
  else   if x0 = 8 then (
    some (x1 * x2))
  else   if x0 = 9 then (
    if x2 = 0 then (
      some (0))
    else (
      gn x2 <|
      some (x1 / x2)))
  else   if x0 = 57 then (
    some (x1 &&& x2))
  else (
    some (x1 ||| x2))
set_option maxRecDepth 100000 in
def P_Formula_result_257 (k9 : Option Nat → Option Nat → Int32 → Int32 → Int32 → Int32 → Mem → Option (Int32 × Mem)) (x1 : Option Nat) (x2 : Option Nat) (x3 : Int32) (x4 : Int32) (x5 : Int32) (x6 : Int32) (m : Mem) : Option (Int32 × Mem) :=
  vb (x6 + 1 : Int32) fun v1 =>
  k9 x1 x2 x3 x4 x5 v1 m
set_option maxRecDepth 100000 in
def P_Formula_result_53 (k9 : Option Nat → Option Nat → Int32 → Int32 → Int32 → Int32 → Mem → Option (Int32 × Mem)) (x1 : Option Nat) (x2 : Option Nat) (x3 : Int32) (x4 : Int32) (x5 : Int32) (x6 : Int32) (x7 : Int32) (m : Mem) : Option (Int32 × Mem) :=
  if 64 ≤ x4 then (
    P_Formula_result_257 k9 x1 x2 x3 x4 x5 x6 m)
  else (
    gs x1 fun a2 =>
    gt m a2 32 <|
    gd (inb x6 (mN m a2)) <|
    bn (P_Formula_operand x7 ((aI m a2 (ix x6)) - (aI m a2 (ix x6)) / 10000 * 10000) x2 x3 m) fun r5 m6 =>
    gd (inb x4 64) <|
    vb (wI m6 4 (ix x4) r5) fun m11 =>
    vb (x4 + 1 : Int32) fun v12 =>
    P_Formula_result_257 k9 (some a2) x2 x3 v12 x5 x6 m11)
set_option maxRecDepth 100000 in
def P_Formula_result_220 (k9 : Option Nat → Option Nat → Int32 → Int32 → Int32 → Int32 → Mem → Option (Int32 × Mem)) (x1 : Option Nat) (x2 : Option Nat) (x3 : Int32) (x4 : Int32) (x6 : Int32) (s0 : Int32) (s1 : Int32) (m : Mem) : Option (Int32 × Mem) :=
  gd (inb s1 64) <|
  vb (wI m 4 (ix s1) s0) fun m4 =>
  P_Formula_result_257 k9 x1 x2 x3 x4 0 x6 m4
set_option maxRecDepth 100000 in
def P_Formula_result_219 (k9 : Option Nat → Option Nat → Int32 → Int32 → Int32 → Int32 → Mem → Option (Int32 × Mem)) (x1 : Option Nat) (x2 : Option Nat) (x3 : Int32) (x4 : Int32) (x6 : Int32) (s0 : Int32) (m : Mem) : Option (Int32 × Mem) :=
  P_Formula_result_220 k9 x1 x2 x3 x4 x6 0 s0 m
set_option maxRecDepth 100000 in
def P_Formula_result_227 (k9 : Option Nat → Option Nat → Int32 → Int32 → Int32 → Int32 → Mem → Option (Int32 × Mem)) (x1 : Option Nat) (x2 : Option Nat) (x3 : Int32) (x4 : Int32) (x5 : Int32) (x6 : Int32) (x7 : Int32) (m : Mem) : Option (Int32 × Mem) :=
  gd (inb (x4 - 1) 64) <|
  gd (inb x4 64) <|
  bp (P_Formula_joined x7 (aI m 4 (ix (x4 - 1))) (aI m 4 (ix x4))) fun r3 =>
  gd (inb (x4 - 1) 64) <|
  vb (wI m 4 (ix (x4 - 1)) r3) fun m7 =>
  P_Formula_result_257 k9 x1 x2 x3 x4 x5 x6 m7
set_option maxRecDepth 100000 in
def P_Formula_result_162 (k9 : Option Nat → Option Nat → Int32 → Int32 → Int32 → Int32 → Mem → Option (Int32 × Mem)) (x1 : Option Nat) (x2 : Option Nat) (x3 : Int32) (x4 : Int32) (x6 : Int32) (x7 : Int32) (s0 : Int32) (m : Mem) : Option (Int32 × Mem) :=
  if x7 < 10 then (
    P_Formula_result_227 k9 x1 x2 x3 x4 s0 x6 x7 m)
  else (
    if 13 < x7 then (
      P_Formula_result_227 k9 x1 x2 x3 x4 s0 x6 x7 m)
    else (
      if s0 = 0 then (
        gd (inb (x4 - 1) 64) <|
        gd (inb x4 64) <|
        bp (P_Formula_isSo x7 (aI m 4 (ix (x4 - 1))) (aI m 4 (ix x4))) fun r6 =>
        if r6 = 0 then (
          P_Formula_result_219 k9 x1 x2 x3 x4 x6 (x4 - 1) m)
        else (
          P_Formula_result_220 k9 x1 x2 x3 x4 x6 1 (x4 - 1) m))
      else (
        P_Formula_result_219 k9 x1 x2 x3 x4 x6 (x4 - 1) m)))
set_option maxRecDepth 100000 in
def P_Formula_result_157 (k9 : Option Nat → Option Nat → Int32 → Int32 → Int32 → Int32 → Mem → Option (Int32 × Mem)) (x1 : Option Nat) (x2 : Option Nat) (x3 : Int32) (x4 : Int32) (x6 : Int32) (x7 : Int32) (m : Mem) : Option (Int32 × Mem) :=
  P_Formula_result_162 k9 x1 x2 x3 x4 x6 x7 1 m
set_option maxRecDepth 100000 in
def P_Formula_result_161 (k9 : Option Nat → Option Nat → Int32 → Int32 → Int32 → Int32 → Mem → Option (Int32 × Mem)) (x1 : Option Nat) (x2 : Option Nat) (x3 : Int32) (x4 : Int32) (x6 : Int32) (x7 : Int32) (m : Mem) : Option (Int32 × Mem) :=
  P_Formula_result_162 k9 x1 x2 x3 x4 x6 x7 0 m
set_option maxRecDepth 100000 in
def P_Formula_result_46 (k9 : Option Nat → Option Nat → Int32 → Int32 → Int32 → Int32 → Mem → Option (Int32 × Mem)) (x1 : Option Nat) (x2 : Option Nat) (x3 : Int32) (x4 : Int32) (x5 : Int32) (x6 : Int32) (x7 : Int32) (m : Mem) : Option (Int32 × Mem) :=
  if x7 = 59 then (
    P_Formula_result_53 k9 x1 x2 x3 x4 x5 x6 x7 m)
  else (
    if x7 = 58 then (
      if x4 ≤ 0 then (
        P_Formula_result_257 k9 x1 x2 x3 x4 x5 x6 m)
      else (
        gd (inb (x4 - 1) 64) <|
        gd (inb (x4 - 1) 64) <|
        vb (wI m 4 (ix (x4 - 1)) (1 - (aI m 4 (ix (x4 - 1))))) fun m8 =>
        P_Formula_result_257 k9 x1 x2 x3 x4 x5 x6 m8))
    else (
      if x4 ≤ 1 then (
        P_Formula_result_257 k9 x1 x2 x3 x4 x5 x6 m)
      else (
        vb (x4 + (-1) : Int32) fun v10 =>
        if x5 = 0 then (
          if x7 = 9 then (
            gd (inb v10 64) <|
            if (aI m 4 (ix v10)) = 0 then (
              P_Formula_result_157 k9 x1 x2 x3 v10 x6 x7 m)
            else (
              P_Formula_result_161 k9 x1 x2 x3 v10 x6 x7 m))
          else (
            P_Formula_result_161 k9 x1 x2 x3 v10 x6 x7 m))
        else (
          P_Formula_result_157 k9 x1 x2 x3 v10 x6 x7 m))))
set_option maxRecDepth 100000 in
def P_Formula_result_263 (x4 : Int32) (x5 : Int32) (m : Mem) : Option (Int32 × Mem) :=
  if x5 = 0 then (
    if x4 = 0 then (
      some (0, m))
    else (
      gd (inb 0 64) <|
      some (aI m 4 (ix 0), m)))
  else (
    some (0, m))
set_option maxRecDepth 100000 in
def P_Formula_result_9 : Nat → Option Nat → Option Nat → Int32 → Int32 → Int32 → Int32 → Mem → Option (Int32 × Mem)
  | 0, _, _, _, _, _, _, _ => none
  | n + 1, x1, x2, x3, x4, x5, x6, m =>
  gs x1 fun a1 =>
  gt m a1 32 <|
  if (Int32.ofNat (mN m a1)) ≤ x6 then (
    P_Formula_result_263 x4 x5 m)
  else (
    gd (inb x6 (mN m a1)) <|
    vb ((aI m a1 (ix x6)) / 10000 : Int32) fun v5 =>
    if v5 = 3 then (
      P_Formula_result_53 (fun z0 z1 z2 z3 z4 z5 z6 => P_Formula_result_9 n z0 z1 z2 z3 z4 z5 z6) (some a1) x2 x3 x4 x5 x6 v5 m)
    else (
      if v5 < 20 then (
        P_Formula_result_46 (fun z0 z1 z2 z3 z4 z5 z6 => P_Formula_result_9 n z0 z1 z2 z3 z4 z5 z6) (some a1) x2 x3 x4 x5 x6 v5 m)
      else (
        if v5 ≤ 31 then (
          P_Formula_result_53 (fun z0 z1 z2 z3 z4 z5 z6 => P_Formula_result_9 n z0 z1 z2 z3 z4 z5 z6) (some a1) x2 x3 x4 x5 x6 v5 m)
        else (
          P_Formula_result_46 (fun z0 z1 z2 z3 z4 z5 z6 => P_Formula_result_9 n z0 z1 z2 z3 z4 z5 z6) (some a1) x2 x3 x4 x5 x6 v5 m))))
set_option maxRecDepth 100000 in
def P_Formula_result (x1 : Option Nat) (x2 : Option Nat) (x3 : Int32) (m : Mem) : Option (Int32 × Mem) :=
  P_Formula_result_9 FU x1 x2 x3 0 0 0 m
set_option maxRecDepth 100000 in
def P_Scene_fateOf (x1 : Option Nat) (x2 : Option Nat) (m : Mem) : Option (Int32 × Mem) :=
  gs x1 fun a1 =>
  gt m a1 3 <|
  if (mI m 256 a1) = 34 then (
    gs x2 fun a4 =>
    gt m a4 11 <|
    bn (P_Text_put a4 (some a1) m) fun _ m7 =>
    some (0, m7))
  else   if (mI m 256 a1) = 35 then (
    gs x2 fun a10 =>
    gt m a10 11 <|
    vb (sI m 1293 a10 (mI m 265 a1)) fun m12 =>
    some (0, m12))
  else   if (mI m 256 a1) = 36 then (
    gs x2 fun a16 =>
    gt m a16 11 <|
    bn (P_Text_put a16 (some a1) m) fun _ m19 =>
    some (0, m19))
  else   if (mI m 256 a1) = 37 then (
    gs x2 fun a22 =>
    gt m a22 11 <|
    bn (P_Text_put a22 (some a1) m) fun _ m25 =>
    some (0, m25))
  else   if (mI m 256 a1) = 38 then (
    gs x2 fun a28 =>
    gt m a28 11 <|
    vb (sI m 1294 a28 (mI m 265 a1)) fun m30 =>
    some (0, m30))
  else   if (mI m 256 a1) = 39 then (
    gs x2 fun a34 =>
    gt m a34 11 <|
    bn (P_Text_drop a34 (mI m 258 a1) m) fun r36 m37 =>
    if r36 = 0 then (
      some (2, m37))
    else (
      some (0, m37)))
  else   if (mI m 256 a1) = 40 then (
    gs x2 fun a41 =>
    gt m a41 11 <|
    bn (P_Text_classEntry a41 (mI m 258 a1) m) fun r43 m44 =>
    if r43 = (-1) then (
      some (2, m44))
    else (
      gt m44 a1 3 <|
      bn (P_Formula_result (mR m44 262 a1) (some 26) 0 m44) fun r48 m49 =>
      gt m49 a1 3 <|
      bp (P_within r48 (mI m49 266 a1) (mI m49 267 a1)) fun r53 =>
      if r53 = 0 then (
        some (3, m49))
      else (
        gt m49 a41 11 <|
        gs (mR m49 1289 a41) fun a56 =>
        gt m49 a56 36 <|
        gd (inb r43 (mN m49 a56)) <|
        vb (wR m49 a56 (ix r43) (some a1)) fun m60 =>
        some (0, m60))))
  else (
    some (0, m))
set_option maxRecDepth 100000 in
def P_Scene_apply_2 : Nat → Option Nat → Option Nat → Int32 → Mem → Option (Unit × Mem)
  | 0, _, _, _, _ => none
  | n + 1, x1, x2, x3, m =>
  gs x1 fun a1 =>
  gt m a1 11 <|
  gs (mR m 1286 a1) fun a3 =>
  gt m a3 36 <|
  if (Int32.ofNat (mN m a3)) ≤ x3 then (
    some ((), m))
  else (
    gs (mR m 1286 a1) fun a7 =>
    gt m a7 36 <|
    gd (inb x3 (mN m a7)) <|
    gs (aR m a7 (ix x3)) fun a11 =>
    gs (mR m 1286 a1) fun a13 =>
    gt m a13 36 <|
    gd (inb x3 (mN m a13)) <|
    bn (P_Scene_fateOf (aR m a13 (ix x3)) x2 m) fun r17 m18 =>
    gt m18 a11 3 <|
    vb (sI m18 268 a11 r17) fun m22 =>
    vb (x3 + 1 : Int32) fun v24 =>
    P_Scene_apply_2 n (some a1) x2 v24 m22)
set_option maxRecDepth 100000 in
def P_Scene_apply (x1 : Option Nat) (x2 : Option Nat) (m : Mem) : Option (Unit × Mem) :=
  P_Scene_apply_2 FU x1 x2 0 m
set_option maxRecDepth 100000 in
def P_Scene_open_157 (k104 : Int32 → Mem → Option (Unit × Mem)) (x6 : Int32) (m : Mem) : Option (Unit × Mem) :=
  vb (x6 + 1 : Int32) fun v1 =>
  k104 v1 m
set_option maxRecDepth 100000 in
def P_Scene_open_228 (k166 : Int32 → Mem → Option (Unit × Mem)) (x6 : Int32) (m : Mem) : Option (Unit × Mem) :=
  vb (x6 + 1 : Int32) fun v1 =>
  k166 v1 m
set_option maxRecDepth 100000 in
def P_Scene_open_166 : Nat → Int32 → Mem → Option (Unit × Mem)
  | 0, _, _ => none
  | n + 1, x6, m =>
  if (mI m 515 13) ≤ x6 then (
    some ((), m))
  else (
    gd (inb x6 24) <|
    gs (aR m 15 (ix x6)) fun a3 =>
    gt m a3 11 <|
    if (mI m 1287 a3) = 0 then (
      P_Scene_open_228 (fun z0 z1 => P_Scene_open_166 n z0 z1) x6 m)
    else (
      bn (P_Text_changesAward a3 m) fun r7 m8 =>
      if r7 = 0 then (
        P_Scene_open_228 (fun z0 z1 => P_Scene_open_166 n z0 z1) x6 m8)
      else (
        gt m8 a3 11 <|
        gs (mR m8 1285 a3) fun a12 =>
        gt m8 a12 11 <|
        if (mI m8 1287 a12) = 0 then (
          P_Scene_open_228 (fun z0 z1 => P_Scene_open_166 n z0 z1) x6 m8)
        else (
          bn (P_Scene_apply (some a3) (mR m8 1285 a3) m8) fun _ m17 =>
          P_Scene_open_228 (fun z0 z1 => P_Scene_open_166 n z0 z1) x6 m17))))
set_option maxRecDepth 100000 in
def P_Scene_open_163 (m : Mem) : Option (Unit × Mem) :=
  P_Scene_open_166 FU 0 m
set_option maxRecDepth 100000 in
def P_Scene_open_104 : Nat → Int32 → Mem → Option (Unit × Mem)
  | 0, _, _ => none
  | n + 1, x6, m =>
  if (mI m 515 13) ≤ x6 then (
    P_Scene_open_163 m)
  else (
    gd (inb x6 24) <|
    gs (aR m 15 (ix x6)) fun a3 =>
    gt m a3 11 <|
    if (mI m 1287 a3) = 0 then (
      P_Scene_open_157 (fun z0 z1 => P_Scene_open_104 n z0 z1) x6 m)
    else (
      bn (P_Text_changesAward a3 m) fun r7 m8 =>
      if r7 = 0 then (
        gt m8 a3 11 <|
        bn (P_Text_clear a3 m8) fun _ m13 =>
        bn (P_Scene_apply (some a3) (some a3) m13) fun _ m16 =>
        P_Scene_open_157 (fun z0 z1 => P_Scene_open_104 n z0 z1) x6 m16)
      else (
        P_Scene_open_157 (fun z0 z1 => P_Scene_open_104 n z0 z1) x6 m8)))
set_option maxRecDepth 100000 in
def P_Scene_open (x1 : Int32) (x2 : Int32) (x3 : Int32) (x4 : Int32) (m : Mem) : Option (Unit × Mem) :=
  gd (inb x1 8) <|
  vb (aI m 6 (ix x1) : Int32) fun v2 =>
  bn (P_Ledger_basket v2 (x2 / 35) x3 (some 12) m) fun r3 m4 =>
  gd (inb 0 12) <|
  vb (wI m4 26 (ix 0) r3) fun m10 =>
  gd (inb x1 8) <|
  gd (inb 2 12) <|
  vb (wI m10 26 (ix 2) (aI m10 7 (ix x1))) fun m15 =>
  gd (inb 3 12) <|
  vb (wI m15 26 (ix 3) v2) fun m19 =>
  gd (inb 4 12) <|
  vb (wI m19 26 (ix 4) x1) fun m23 =>
  gd (cpok 0 0 12 (mN m23 26) (mN m23 27)) <|
  vb (cpI m23 26 (ix 0) 27 (ix 0) (ix 12)) fun m27 =>
  gd (inb 1 12) <|
  vb (wI m27 27 (ix 1) x4) fun m31 =>
  bn (P_Ledger_setInForce x1 x2 x3 m31) fun _ m33 =>
  P_Scene_open_104 FU 0 m33
set_option maxRecDepth 100000 in
def P_opened (x1 : Int32) (x2 : Int32) (x3 : Int32) (x4 : Int32) (m : Mem) : Option (Option Nat × Mem) :=
  bp (P_isDay x2) fun r1 =>
  if r1 = 0 then (
    some (none, m))
  else (
    bn (P_Land_hasFirm x3 m) fun r3 m4 =>
    if r3 = 0 then (
      some (none, m4))
    else (
      bn (P_Ledger_canKnow x4 m4) fun r8 m9 =>
      if r8 = 0 then (
        some (none, m9))
      else (
        bn (P_Ledger_textAt x1 x4 m9) fun r13 m14 =>
        if r13 = none then (
          some (r13, m14))
        else (
          bn (P_Scene_open x3 x2 x4 0 m14) fun _ m19 =>
          some (r13, m19)))))
set_option maxRecDepth 100000 in
def P_force (x1 : Int32) (x2 : Int32) (x3 : Int32) (x4 : Int32) (m : Mem) : Option (Int32 × Mem) :=
  bn (P_opened x1 x2 x3 x4 m) fun r1 m2 =>
  if r1 = none then (
    some ((-1), m2))
  else (
    gs r1 fun a6 =>
    gt m2 a6 11 <|
    if (mI m2 1287 a6) = 0 then (
      some (0, m2))
    else (
      some (1, m2)))
set_option maxRecDepth 100000 in
def P_fate_64 (x2 : Int32) (x6 : Option Nat) (m : Mem) : Option (Int32 × Mem) :=
  gs x6 fun a1 =>
  gt m a1 11 <|
  gs (mR m 1286 a1) fun a3 =>
  gt m a3 36 <|
  gd (inb x2 (mN m a3)) <|
  gs (aR m a3 (ix x2)) fun a7 =>
  gt m a7 3 <|
  some (mI m 268 a7, m)
set_option maxRecDepth 100000 in
def P_fate (x1 : Int32) (x2 : Int32) (x3 : Int32) (x4 : Int32) (x5 : Int32) (m : Mem) : Option (Int32 × Mem) :=
  bn (P_opened x1 x3 x4 x5 m) fun r1 m2 =>
  if r1 = none then (
    some ((-1), m2))
  else (
    gs r1 fun a6 =>
    gt m2 a6 11 <|
    gs (mR m2 1286 a6) fun a8 =>
    gt m2 a8 36 <|
    bp (P_within x2 0 ((Int32.ofNat (mN m2 a8)) - 1)) fun r11 =>
    if r11 = 0 then (
      some ((-1), m2))
    else (
      if (mI m2 1287 a6) = 0 then (
        some (1, m2))
      else (
        bn (P_Text_changesAward a6 m2) fun r14 m15 =>
        if r14 = 0 then (
          P_fate_64 x2 (some a6) m15)
        else (
          gt m15 a6 11 <|
          gs (mR m15 1285 a6) fun a19 =>
          gt m15 a19 11 <|
          if (mI m15 1287 a19) = 0 then (
            some (1, m15))
          else (
            P_fate_64 x2 (some a6) m15)))))
set_option maxRecDepth 100000 in
def P_item (x1 : Int32) (x2 : Int32) (x3 : Int32) (x4 : Int32) (x5 : Int32) (x6 : Int32) (m : Mem) : Option (Int32 × Mem) :=
  bn (P_opened x1 x2 x3 x5 m) fun r1 m2 =>
  if r1 = none then (
    some ((-1), m2))
  else (
    gs r1 fun a6 =>
    gt m2 a6 11 <|
    if (mI m2 1287 a6) = 0 then (
      some ((-1), m2))
    else (
      bp (P_within x4 0 ((mI m2 1292 a6) - 1)) fun r9 =>
      if r9 = 0 then (
        some ((-1), m2))
      else (
        gs (mR m2 1288 a6) fun a11 =>
        gt m2 a11 36 <|
        gd (inb x4 (mN m2 a11)) <|
        if x6 = 0 then (
          gs (aR m2 a11 (ix x4)) fun a16 =>
          gt m2 a16 3 <|
          if (mI m2 256 a16) = 34 then (
            some (0, m2))
          else (
            if (mI m2 256 a16) = 36 then (
              some (1, m2))
            else (
              some (2, m2))))
        else         if x6 = 1 then (
          gs (aR m2 a11 (ix x4)) fun a22 =>
          gt m2 a22 3 <|
          some (mI m2 258 a22, m2))
        else         if x6 = 2 then (
          gs (aR m2 a11 (ix x4)) fun a26 =>
          gt m2 a26 3 <|
          some (mI m2 257 a26, m2))
        else (
          some ((-1), m2)))))
set_option maxRecDepth 100000 in
def P_held (x0 : Int32) (x1 : Int32) (x2 : Int32) : Option (Int32) :=
  some (jmax x1 (jmin x2 x0))
set_option maxRecDepth 100000 in
def P_Scene_marginOf_194 (x3 : Int32) (m : Mem) : Option (Int32 × Mem) :=
  bp (P_held x3 (-9999) 9999) fun r1 =>
  some (r1, m)
set_option maxRecDepth 100000 in
def P_Scene_marginOf_56 (x3 : Int32) (m : Mem) : Option (Int32 × Mem) :=
  vb (x3 + (mI m 1160 25) : Int32) fun v1 =>
  P_Scene_marginOf_194 v1 m
set_option maxRecDepth 100000 in
def P_Scene_marginOf_185 (x3 : Int32) (m : Mem) : Option (Int32 × Mem) :=
  P_Scene_marginOf_194 x3 m
set_option maxRecDepth 100000 in
def P_Scene_marginOf_162 (k21 : Int32 → Option Nat → Int32 → Int32 → Mem → Option (Int32 × Mem)) (x3 : Int32) (x4 : Option Nat) (x6 : Int32) (s0 : Int32) (m : Mem) : Option (Int32 × Mem) :=
  if s0 = (-1) then (
    P_Scene_marginOf_194 x3 m)
  else (
    gs x4 fun a2 =>
    gt m a2 11 <|
    gs (mR m 1290 a2) fun a4 =>
    gt m a4 32 <|
    gd (inb s0 (mN m a4)) <|
    if (aI m a4 (ix s0)) = (mI m 1157 25) then (
      P_Scene_marginOf_185 x3 m)
    else (
      vb (x6 + 1 : Int32) fun v9 =>
      k21 x3 (some a2) s0 v9 m))
set_option maxRecDepth 100000 in
def P_Scene_marginOf_148 (k21 : Int32 → Option Nat → Int32 → Int32 → Mem → Option (Int32 × Mem)) (x3 : Int32) (x4 : Option Nat) (x6 : Int32) (m : Mem) : Option (Int32 × Mem) :=
  P_Scene_marginOf_162 k21 x3 x4 x6 (-1) m
set_option maxRecDepth 100000 in
def P_Scene_marginOf_133 (k21 : Int32 → Option Nat → Int32 → Int32 → Mem → Option (Int32 × Mem)) (x3 : Int32) (x6 : Int32) (x7 : Option Nat) (s0 : Option Nat) (m : Mem) : Option (Int32 × Mem) :=
  if s0 = none then (
    P_Scene_marginOf_148 k21 x3 s0 x6 m)
  else (
    gs s0 fun a2 =>
    gt m a2 11 <|
    if (mI m 1287 a2) = 0 then (
      P_Scene_marginOf_148 k21 x3 (some a2) x6 m)
    else (
      gs x7 fun a5 =>
      gt m a5 3 <|
      bn (P_Text_classEntry a2 (mI m 261 a5) m) fun r7 m8 =>
      P_Scene_marginOf_162 k21 x3 (some a2) x6 r7 m8))
set_option maxRecDepth 100000 in
def P_Scene_marginOf_66 (k21 : Int32 → Option Nat → Int32 → Int32 → Mem → Option (Int32 × Mem)) (x3 : Int32) (x4 : Option Nat) (x5 : Int32) (x6 : Int32) (m : Mem) : Option (Int32 × Mem) :=
  gs x4 fun a1 =>
  gt m a1 11 <|
  gs (mR m 1290 a1) fun a3 =>
  gt m a3 32 <|
  gd (inb x5 (mN m a3)) <|
  vb (wI m a3 (ix x5) (mI m 1157 25)) fun m7 =>
  gs (mR m7 1289 a1) fun a10 =>
  gt m7 a10 36 <|
  gd (inb x5 (mN m7 a10)) <|
  gs (aR m7 a10 (ix x5)) fun a14 =>
  gt m7 a14 3 <|
  bn (P_Formula_result (mR m7 262 a14) (some 27) 0 m7) fun r17 m18 =>
  vb (x3 + r17 : Int32) fun v21 =>
  gt m18 a14 3 <|
  if (mI m18 260 a14) = (-1) then (
    P_Scene_marginOf_133 k21 v21 x6 (some a14) none m18)
  else (
    bn (P_Ledger_awardNamed (mI m18 260 a14) m18) fun r24 m25 =>
    P_Scene_marginOf_133 k21 v21 x6 (some a14) r24 m25)
set_option maxRecDepth 100000 in
def P_Scene_marginOf_21 : Nat → Int32 → Option Nat → Int32 → Int32 → Mem → Option (Int32 × Mem)
  | 0, _, _, _, _, _ => none
  | n + 1, x3, x4, x5, x6, m =>
  if 1441 ≤ x6 then (
    P_Scene_marginOf_194 x3 m)
  else (
    if x4 = (mR m 1158 25) then (
      gs x4 fun a3 =>
      gt m a3 11 <|
      gs (mR m 1288 a3) fun a5 =>
      gt m a5 36 <|
      gd (inb x5 (mN m a5)) <|
      gs (aR m a5 (ix x5)) fun a9 =>
      gt m a9 3 <|
      if (mI m 258 a9) = (mI m 1159 25) then (
        P_Scene_marginOf_56 x3 m)
      else (
        P_Scene_marginOf_66 (fun z0 z1 z2 z3 z4 => P_Scene_marginOf_21 n z0 z1 z2 z3 z4) x3 (some a3) x5 x6 m))
    else (
      P_Scene_marginOf_66 (fun z0 z1 z2 z3 z4 => P_Scene_marginOf_21 n z0 z1 z2 z3 z4) x3 x4 x5 x6 m))
set_option maxRecDepth 100000 in
def P_Scene_marginOf (x1 : Option Nat) (x2 : Int32) (m : Mem) : Option (Int32 × Mem) :=
  vb (sI m 1157 25 ((mI m 1157 25) + 1)) fun m2 =>
  P_Scene_marginOf_21 FU 0 x1 x2 0 m2
set_option maxRecDepth 100000 in
def P_margin (x1 : Int32) (x2 : Int32) (x3 : Int32) (x4 : Int32) (x5 : Int32) (m : Mem) : Option (Int32 × Mem) :=
  bn (P_opened x1 x3 x4 x5 m) fun r1 m2 =>
  if r1 = none then (
    some ((-1000000), m2))
  else (
    gs r1 fun a6 =>
    gt m2 a6 11 <|
    if (mI m2 1287 a6) = 0 then (
      some ((-1000000), m2))
    else (
      bn (P_Text_classEntry a6 x2 m2) fun r9 m10 =>
      if r9 = (-1) then (
        some ((-1000000), m10))
      else (
        bn (P_Scene_marginOf (some a6) r9 m10) fun r13 m14 =>
        some (r13, m14))))
set_option maxRecDepth 100000 in
def P_isHalfOf (x1 : Int32) (x2 : Int32) (x3 : Int32) (x4 : Int32) (m : Mem) : Option (Int32 × Mem) :=
  bn (P_Land_hasPerson x1 m) fun r1 m2 =>
  if r1 = 0 then (
    some (0, m2))
  else (
    bp (P_isDay x2) fun r6 =>
    if r6 = 0 then (
      some (0, m2))
    else (
      bp (P_within x3 0 47) fun r8 =>
      if r8 = 0 then (
        some (0, m2))
      else (
        bn (P_Ledger_canKnow x4 m2) fun r10 m11 =>
        if r10 = 0 then (
          some (0, m11))
        else (
          some (1, m11)))))
set_option maxRecDepth 100000 in
def P_Reckoning_load_112 (k42 : Int32 → Int32 → Mem → Option (Unit × Mem)) (x3 : Int32) (x4 : Int32) (m : Mem) : Option (Unit × Mem) :=
  vb (x4 + 1 : Int32) fun v1 =>
  k42 x3 v1 m
set_option maxRecDepth 100000 in
def P_Reckoning_load_42 : Nat → Int32 → Int32 → Mem → Option (Unit × Mem)
  | 0, _, _, _ => none
  | n + 1, x3, x4, m =>
  if x3 ≤ x4 then (
    some ((), m))
  else (
    gd (inb x4 160) <|
    gs (aR m 14 (ix x4)) fun a3 =>
    gt m a3 1 <|
    if (mI m 0 a3) = 6 then (
      if (mI m 1 a3) = (mI m 1026 28) then (
        if ((mI m 2 a3) / 7) = (mI m 1027 28) then (
          gd (inb ((mI m 2 a3) - (mI m 2 a3) / 7 * 7) 7) <|
          vb (wR m 29 (ix ((mI m 2 a3) - (mI m 2 a3) / 7 * 7)) (some a3)) fun m12 =>
          P_Reckoning_load_112 (fun z0 z1 z2 => P_Reckoning_load_42 n z0 z1 z2) x3 x4 m12)
        else (
          P_Reckoning_load_112 (fun z0 z1 z2 => P_Reckoning_load_42 n z0 z1 z2) x3 x4 m))
      else (
        P_Reckoning_load_112 (fun z0 z1 z2 => P_Reckoning_load_42 n z0 z1 z2) x3 x4 m))
    else (
      P_Reckoning_load_112 (fun z0 z1 z2 => P_Reckoning_load_42 n z0 z1 z2) x3 x4 m))
set_option maxRecDepth 100000 in
def P_Reckoning_load_39 (x3 : Int32) (m : Mem) : Option (Unit × Mem) :=
  P_Reckoning_load_42 FU x3 0 m
set_option maxRecDepth 100000 in
def P_Reckoning_load_18 : Nat → Int32 → Int32 → Mem → Option (Unit × Mem)
  | 0, _, _, _ => none
  | n + 1, x3, x4, m =>
  if 7 ≤ x4 then (
    P_Reckoning_load_39 x3 m)
  else (
    gd (inb x4 7) <|
    vb (wR m 29 (ix x4) none) fun m5 =>
    vb (x4 + 1 : Int32) fun v6 =>
    P_Reckoning_load_18 n x3 v6 m5)
set_option maxRecDepth 100000 in
def P_Reckoning_load (x1 : Int32) (x2 : Int32) (x3 : Int32) (m : Mem) : Option (Unit × Mem) :=
  vb (sI m 1026 28 x1) fun m2 =>
  vb (sI m2 1027 28 x2) fun m4 =>
  vb (sI m4 1028 28 x3) fun m6 =>
  P_Reckoning_load_18 FU x3 0 m6
set_option maxRecDepth 100000 in
def P_Reckoning_doneIn (x1 : Int32) (x2 : Int32) (m : Mem) : Option (Int32 × Mem) :=
  gd (inb x1 7) <|
  if (aR m 29 (ix x1)) = none then (
    some ((-1), m))
  else (
    gs (aR m 29 (ix x1)) fun a3 =>
    gt m a3 1 <|
    gs (mR m 5 a3) fun a6 =>
    gt m a6 32 <|
    if (Int32.ofNat (mN m a6)) ≤ x2 then (
      some ((-2), m))
    else (
      gs (mR m 5 a3) fun a10 =>
      gt m a10 32 <|
      gd (inb x2 (mN m a10)) <|
      some (aI m a10 (ix x2), m)))
set_option maxRecDepth 100000 in
def P_did (x1 : Int32) (x2 : Int32) (x3 : Int32) (x4 : Int32) (m : Mem) : Option (Int32 × Mem) :=
  bn (P_isHalfOf x1 x2 x3 x4 m) fun r1 m2 =>
  if r1 = 0 then (
    some ((-3), m2))
  else (
    bn (P_Reckoning_load x1 (x2 / 7) x4 m2) fun _ m7 =>
    bn (P_Reckoning_doneIn (x2 - x2 / 7 * 7) x3 m7) fun r10 m11 =>
    some (r10, m11))
set_option maxRecDepth 100000 in
def P_Reckoning_tasksOn_56 (k29 : Int32 → Int32 → Int32 → Int32 → Mem → Option (Int32 × Mem)) (x1 : Int32) (x2 : Int32) (x3 : Int32) (x4 : Int32) (m : Mem) : Option (Int32 × Mem) :=
  vb (x4 + 1 : Int32) fun v1 =>
  k29 x1 x2 x3 v1 m
set_option maxRecDepth 100000 in
def P_Reckoning_tasksOn_29 : Nat → Int32 → Int32 → Int32 → Int32 → Mem → Option (Int32 × Mem)
  | 0, _, _, _, _, _ => none
  | n + 1, x1, x2, x3, x4, m =>
  if x3 ≤ x4 then (
    some (x2, m))
  else (
    gd (inb x1 7) <|
    gs (aR m 29 (ix x1)) fun a3 =>
    gt m a3 1 <|
    gs (mR m 5 a3) fun a6 =>
    gt m a6 32 <|
    gd (inb x4 (mN m a6)) <|
    bp (P_isTask (aI m a6 (ix x4))) fun r10 =>
    if r10 = 0 then (
      P_Reckoning_tasksOn_56 (fun z0 z1 z2 z3 z4 => P_Reckoning_tasksOn_29 n z0 z1 z2 z3 z4) x1 x2 x3 x4 m)
    else (
      vb (x2 + 1 : Int32) fun v12 =>
      P_Reckoning_tasksOn_56 (fun z0 z1 z2 z3 z4 => P_Reckoning_tasksOn_29 n z0 z1 z2 z3 z4) x1 v12 x3 x4 m))
set_option maxRecDepth 100000 in
def P_Reckoning_tasksOn_25 (x1 : Int32) (x2 : Int32) (s0 : Int32) (m : Mem) : Option (Int32 × Mem) :=
  P_Reckoning_tasksOn_29 FU x1 x2 s0 0 m
set_option maxRecDepth 100000 in
def P_Reckoning_tasksOn (x1 : Int32) (m : Mem) : Option (Int32 × Mem) :=
  gd (inb x1 7) <|
  if (aR m 29 (ix x1)) = none then (
    P_Reckoning_tasksOn_25 x1 0 0 m)
  else (
    gd (inb x1 7) <|
    gs (aR m 29 (ix x1)) fun a4 =>
    gt m a4 1 <|
    gs (mR m 5 a4) fun a7 =>
    gt m a7 32 <|
    P_Reckoning_tasksOn_25 x1 0 (Int32.ofNat (mN m a7)) m)
set_option maxRecDepth 100000 in
def P_Reckoning_takeTasks_47 (k4 : Int32 → Int32 → Int32 → Mem → Option (Unit × Mem)) (x1 : Int32) (x3 : Int32) (s0 : Int32) (s1 : Int32) (m : Mem) : Option (Unit × Mem) :=
  vb (s1 + s0 : Int32) fun v1 =>
  gd (inb x3 48) <|
  vb (wI m 32 (ix x3) (-1)) fun m5 =>
  gd (inb x3 48) <|
  vb (wR m5 33 (ix x3) none) fun m9 =>
  gd (inb x3 48) <|
  vb (wI m9 34 (ix x3) (-1)) fun m13 =>
  gd (inb x3 48) <|
  vb (wR m13 35 (ix x3) none) fun m17 =>
  gd (inb x3 48) <|
  vb (wI m17 36 (ix x3) (-1)) fun m21 =>
  gd (inb x3 48) <|
  vb (wR m21 37 (ix x3) none) fun m25 =>
  gd (inb x3 48) <|
  vb (wI m25 38 (ix x3) 0) fun m29 =>
  vb (x3 + 1 : Int32) fun v30 =>
  k4 x1 v1 v30 m29
set_option maxRecDepth 100000 in
def P_Reckoning_takeTasks_4 : Nat → Int32 → Int32 → Int32 → Mem → Option (Unit × Mem)
  | 0, _, _, _, _ => none
  | n + 1, x1, x2, x3, m =>
  if 48 ≤ x3 then (
    some ((), m))
  else (
    bn (P_Reckoning_doneIn x1 x3 m) fun r2 m3 =>
    gd (inb x3 48) <|
    vb (wI m3 30 (ix x3) r2) fun m9 =>
    gd (inb x3 48) <|
    vb (wI m9 31 (ix x3) x2) fun m13 =>
    gd (inb x3 48) <|
    bp (P_isTask (aI m13 30 (ix x3))) fun r15 =>
    if r15 = 0 then (
      P_Reckoning_takeTasks_47 (fun z0 z1 z2 z3 => P_Reckoning_takeTasks_4 n z0 z1 z2 z3) x1 x3 0 x2 m13)
    else (
      P_Reckoning_takeTasks_47 (fun z0 z1 z2 z3 => P_Reckoning_takeTasks_4 n z0 z1 z2 z3) x1 x3 1 x2 m13))
set_option maxRecDepth 100000 in
def P_Reckoning_takeTasks (x1 : Int32) (m : Mem) : Option (Unit × Mem) :=
  P_Reckoning_takeTasks_4 FU x1 0 0 m
set_option maxRecDepth 100000 in
def P_Scene_copyVars (x1 : Option Nat) (m : Mem) : Option (Unit × Mem) :=
  gs x1 fun a1 =>
  gt m a1 32 <|
  gd (cpok 0 0 12 (mN m 27) (mN m a1)) <|
  vb (cpI m 27 (ix 0) a1 (ix 0) (ix 12)) fun m5 =>
  some ((), m5)
set_option maxRecDepth 100000 in
def P_Ledger_lastWet_66 (k6 : Int32 → Int32 → Int32 → Int32 → Int32 → Mem → Option (Int32 × Mem)) (x1 : Int32) (x2 : Int32) (x3 : Int32) (x4 : Int32) (x5 : Int32) (m : Mem) : Option (Int32 × Mem) :=
  vb (x5 + 1 : Int32) fun v1 =>
  k6 x1 x2 x3 x4 v1 m
set_option maxRecDepth 100000 in
def P_Ledger_lastWet_6 : Nat → Int32 → Int32 → Int32 → Int32 → Int32 → Mem → Option (Int32 × Mem)
  | 0, _, _, _, _, _, _ => none
  | n + 1, x1, x2, x3, x4, x5, m =>
  if x3 ≤ x5 then (
    some (x4, m))
  else (
    gd (inb x5 160) <|
    gs (aR m 14 (ix x5)) fun a3 =>
    gt m a3 1 <|
    if (mI m 0 a3) = 5 then (
      gd (inb x5 160) <|
      gs (aR m 14 (ix x5)) fun a8 =>
      gt m a8 1 <|
      if (mI m 1 a8) = x1 then (
        gd (inb x5 160) <|
        gs (aR m 14 (ix x5)) fun a13 =>
        gt m a13 1 <|
        if (mI m 2 a13) = x2 then (
          gd (inb x5 160) <|
          gs (aR m 14 (ix x5)) fun a18 =>
          gt m a18 1 <|
          vb (mI m 4 a18 : Int32) fun v21 =>
          P_Ledger_lastWet_66 (fun z0 z1 z2 z3 z4 z5 => P_Ledger_lastWet_6 n z0 z1 z2 z3 z4 z5) x1 x2 x3 v21 x5 m)
        else (
          P_Ledger_lastWet_66 (fun z0 z1 z2 z3 z4 z5 => P_Ledger_lastWet_6 n z0 z1 z2 z3 z4 z5) x1 x2 x3 x4 x5 m))
      else (
        P_Ledger_lastWet_66 (fun z0 z1 z2 z3 z4 z5 => P_Ledger_lastWet_6 n z0 z1 z2 z3 z4 z5) x1 x2 x3 x4 x5 m))
    else (
      P_Ledger_lastWet_66 (fun z0 z1 z2 z3 z4 z5 => P_Ledger_lastWet_6 n z0 z1 z2 z3 z4 z5) x1 x2 x3 x4 x5 m))
set_option maxRecDepth 100000 in
def P_Ledger_lastWet (x1 : Int32) (x2 : Int32) (x3 : Int32) (m : Mem) : Option (Int32 × Mem) :=
  P_Ledger_lastWet_6 FU x1 x2 x3 0 0 m
set_option maxRecDepth 100000 in
def P_Reckoning_lookAt (x1 : Int32) (m : Mem) : Option (Unit × Mem) :=
  gd (inb x1 48) <|
  gd (inb 5 12) <|
  vb (wI m 39 (ix 5) (aI m 30 (ix x1))) fun m5 =>
  gd (inb 7 12) <|
  vb (wI m5 39 (ix 7) x1) fun m9 =>
  gd (inb x1 48) <|
  gd (inb 8 12) <|
  vb (wI m9 39 (ix 8) (aI m9 31 (ix x1))) fun m14 =>
  gd (inb x1 48) <|
  gd (inb 9 12) <|
  vb (wI m14 39 (ix 9) ((mI m14 1032 28) + (aI m14 31 (ix x1)))) fun m19 =>
  gd (inb 11 12) <|
  vb (wI m19 39 (ix 11) 0) fun m23 =>
  some ((), m23)
set_option maxRecDepth 100000 in
def P_Reckoning_holds (x1 : Option Nat) (m : Mem) : Option (Int32 × Mem) :=
  gs x1 fun a1 =>
  gt m a1 3 <|
  gd (inb (mI m 1026 28) 10) <|
  bn (P_Formula_result (mR m 263 a1) (some 39) (aI m 9 (ix (mI m 1026 28))) m) fun r4 m5 =>
  if r4 = 1 then (
    some (1, m5))
  else (
    some (0, m5))
set_option maxRecDepth 100000 in
def P_Reckoning_someBindsHolds_37 (k2 : Option Nat → Int32 → Mem → Option (Int32 × Mem)) (x1 : Option Nat) (x2 : Int32) (m : Mem) : Option (Int32 × Mem) :=
  vb (x2 + 1 : Int32) fun v1 =>
  k2 x1 v1 m
set_option maxRecDepth 100000 in
def P_Reckoning_someBindsHolds_2 : Nat → Option Nat → Int32 → Mem → Option (Int32 × Mem)
  | 0, _, _, _ => none
  | n + 1, x1, x2, m =>
  gs x1 fun a1 =>
  gt m a1 11 <|
  gs (mR m 1286 a1) fun a3 =>
  gt m a3 36 <|
  if (Int32.ofNat (mN m a3)) ≤ x2 then (
    some (0, m))
  else (
    gs (mR m 1286 a1) fun a7 =>
    gt m a7 36 <|
    gd (inb x2 (mN m a7)) <|
    gs (aR m a7 (ix x2)) fun a11 =>
    gt m a11 3 <|
    if (mI m 256 a11) = 32 then (
      bn (P_Reckoning_holds (some a11) m) fun r15 m16 =>
      if r15 = 0 then (
        P_Reckoning_someBindsHolds_37 (fun z0 z1 z2 => P_Reckoning_someBindsHolds_2 n z0 z1 z2) (some a1) x2 m16)
      else (
        some (1, m16)))
    else (
      P_Reckoning_someBindsHolds_37 (fun z0 z1 z2 => P_Reckoning_someBindsHolds_2 n z0 z1 z2) (some a1) x2 m))
set_option maxRecDepth 100000 in
def P_Reckoning_someBindsHolds (x1 : Option Nat) (m : Mem) : Option (Int32 × Mem) :=
  P_Reckoning_someBindsHolds_2 FU x1 0 m
set_option maxRecDepth 100000 in
def P_Text_isOver_40 (k2 : Nat → Int32 → Int32 → Mem → Option (Int32 × Mem)) (a0 : Nat) (x1 : Int32) (x2 : Int32) (m : Mem) : Option (Int32 × Mem) :=
  vb (x2 + 1 : Int32) fun v1 =>
  k2 a0 x1 v1 m
set_option maxRecDepth 100000 in
def P_Text_isOver_2 : Nat → Nat → Int32 → Int32 → Mem → Option (Int32 × Mem)
  | 0, _, _, _, _ => none
  | n + 1, a0, x1, x2, m =>
  gs (mR m 1286 a0) fun a1 =>
  gt m a1 36 <|
  if (Int32.ofNat (mN m a1)) ≤ x2 then (
    some (0, m))
  else (
    gs (mR m 1286 a0) fun a5 =>
    gt m a5 36 <|
    gd (inb x2 (mN m a5)) <|
    gs (aR m a5 (ix x2)) fun a9 =>
    gt m a9 3 <|
    if (mI m 256 a9) = 33 then (
      gs (mR m 1286 a0) fun a13 =>
      gt m a13 36 <|
      gd (inb x2 (mN m a13)) <|
      gs (aR m a13 (ix x2)) fun a17 =>
      gt m a17 3 <|
      if (mI m 258 a17) = x1 then (
        some (1, m))
      else (
        P_Text_isOver_40 (fun z0 z1 z2 z3 => P_Text_isOver_2 n z0 z1 z2 z3) a0 x1 x2 m))
    else (
      P_Text_isOver_40 (fun z0 z1 z2 z3 => P_Text_isOver_2 n z0 z1 z2 z3) a0 x1 x2 m))
set_option maxRecDepth 100000 in
def P_Text_isOver (a0 : Nat) (x1 : Int32) (m : Mem) : Option (Int32 × Mem) :=
  P_Text_isOver_2 FU a0 x1 0 m
set_option maxRecDepth 100000 in
def P_Reckoning_isOutdone_55 (k2 : Option Nat → Int32 → Mem → Option (Int32 × Mem)) (x1 : Option Nat) (x2 : Int32) (m : Mem) : Option (Int32 × Mem) :=
  vb (x2 + 1 : Int32) fun v1 =>
  k2 x1 v1 m
set_option maxRecDepth 100000 in
def P_Reckoning_isOutdone_2 : Nat → Option Nat → Int32 → Mem → Option (Int32 × Mem)
  | 0, _, _, _ => none
  | n + 1, x1, x2, m =>
  if (mI m 515 13) ≤ x2 then (
    some (0, m))
  else (
    gd (inb x2 24) <|
    if (aR m 15 (ix x2)) = x1 then (
      P_Reckoning_isOutdone_55 (fun z0 z1 z2 => P_Reckoning_isOutdone_2 n z0 z1 z2) x1 x2 m)
    else (
      gs (aR m 15 (ix x2)) fun a4 =>
      gt m a4 11 <|
      if (mI m 1280 a4) = 0 then (
        if (mI m 1295 a4) = 0 then (
          P_Reckoning_isOutdone_55 (fun z0 z1 z2 => P_Reckoning_isOutdone_2 n z0 z1 z2) x1 x2 m)
        else (
          gs x1 fun a9 =>
          gt m a9 11 <|
          bn (P_Text_isOver a4 (mI m 1282 a9) m) fun r11 m12 =>
          if r11 = 0 then (
            P_Reckoning_isOutdone_55 (fun z0 z1 z2 => P_Reckoning_isOutdone_2 n z0 z1 z2) (some a9) x2 m12)
          else (
            some (1, m12))))
      else (
        P_Reckoning_isOutdone_55 (fun z0 z1 z2 => P_Reckoning_isOutdone_2 n z0 z1 z2) x1 x2 m)))
set_option maxRecDepth 100000 in
def P_Reckoning_isOutdone (x1 : Option Nat) (m : Mem) : Option (Int32 × Mem) :=
  P_Reckoning_isOutdone_2 FU x1 0 m
set_option maxRecDepth 100000 in
def P_Reckoning_lastAgree_55 (k4 : Option Nat → Option Nat → Int32 → Mem → Option (Option Nat × Mem)) (x1 : Option Nat) (x2 : Option Nat) (x3 : Int32) (m : Mem) : Option (Option Nat × Mem) :=
  vb (x3 + 1 : Int32) fun v1 =>
  k4 x1 x2 v1 m
set_option maxRecDepth 100000 in
def P_Reckoning_lastAgree_4 : Nat → Option Nat → Option Nat → Int32 → Mem → Option (Option Nat × Mem)
  | 0, _, _, _, _ => none
  | n + 1, x1, x2, x3, m =>
  if (mI m 515 13) ≤ x3 then (
    some (x2, m))
  else (
    gd (inb x3 24) <|
    gs (aR m 15 (ix x3)) fun a3 =>
    gt m a3 11 <|
    if (mI m 1280 a3) = 3 then (
      if (mR m 1285 a3) = x1 then (
        if (mI m 1295 a3) = 0 then (
          P_Reckoning_lastAgree_55 (fun z0 z1 z2 z3 => P_Reckoning_lastAgree_4 n z0 z1 z2 z3) x1 x2 x3 m)
        else (
          P_Reckoning_lastAgree_55 (fun z0 z1 z2 z3 => P_Reckoning_lastAgree_4 n z0 z1 z2 z3) x1 (some a3) x3 m))
      else (
        P_Reckoning_lastAgree_55 (fun z0 z1 z2 z3 => P_Reckoning_lastAgree_4 n z0 z1 z2 z3) x1 x2 x3 m))
    else (
      P_Reckoning_lastAgree_55 (fun z0 z1 z2 z3 => P_Reckoning_lastAgree_4 n z0 z1 z2 z3) x1 x2 x3 m))
set_option maxRecDepth 100000 in
def P_Reckoning_lastAgree (x1 : Option Nat) (m : Mem) : Option (Option Nat × Mem) :=
  P_Reckoning_lastAgree_4 FU x1 none 0 m
