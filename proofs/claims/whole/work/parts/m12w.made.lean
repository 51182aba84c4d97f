/-! the making of the fixed objects as functions (written by gen/emit.py), behind the learning of words -/
/-- the char of a constant -/
def s_ch (j k : Nat) : Int32 := ((((s_byt.getD j []).getD k 0) &&& 255).toUInt32 % 65536).toInt32
def P_Lexer_learn_5 : Nat → Nat → Nat → Int32 → Int32 → Mem → Option (Int32 × Mem)
  | 0, _, _, _, _, _ => none
  | n + 1, a0, j, x3, x4, m =>
    if Int32.ofNat (s_len.getD j 0) ≤ x4 then some (x3 + 1, m)
    else
      gs (mR m 645 a0) fun w => gt m w 35 <|
      if Int32.ofNat (mN m w) ≤ x3 then some (x3 + 1, m)
      else
        gd (inb x4 (s_len.getD j 0)) <|
        if s_ch j (ix x4) = 32 then P_Lexer_learn_5 n a0 j (x3 + 1) (x4 + 1) m
        else gd (inb x3 (mN m w)) <| bp (P_Lexer_withLetter (aL m w (ix x3)) (s_ch j (ix x4))) fun r => vb (wL m w (ix x3) r) fun m1 => P_Lexer_learn_5 n a0 j x3 (x4 + 1) m1
def P_Lexer_learn (a0 j : Nat) (x2 : Int32) (m : Mem) : Option (Int32 × Mem) := gd (decide (j < 4)) <| P_Lexer_learn_5 FU a0 j x2 0 m
set_option maxRecDepth 100000 in
def P_Formula_init (a0 : Nat) (m : Mem) : Option (Unit × Mem) :=
  gd (inb 500 65536) <|
  vb (nw m 32 (ix 500) (ix 500)) fun m2 =>
  gt m2 a0 2 <|
  vb (sR m2 133 a0 (some (mC m))) fun m6 =>
  gd (inb 500 65536) <|
  vb (nw m6 32 (ix 500) (ix 500)) fun m10 =>
  gt m10 a0 2 <|
  vb (sR m10 135 a0 (some (mC m6))) fun m15 =>
  gd (inb 64 65536) <|
  vb (nw m15 32 (ix 64) (ix 64)) fun m19 =>
  gt m19 a0 2 <|
  vb (sR m19 137 a0 (some (mC m15))) fun m24 =>
  some ((), m24)
set_option maxRecDepth 100000 in
def P_Land_init (a0 : Nat) (m : Mem) : Option (Unit × Mem) :=
  gd (inb 8 65536) <|
  vb (nw m 32 (ix 8) (ix 8)) fun m2 =>
  gt m2 a0 4 <|
  vb (sR m2 387 a0 (some (mC m))) fun m6 =>
  gd (inb 8 65536) <|
  vb (nw m6 32 (ix 8) (ix 8)) fun m10 =>
  gt m10 a0 4 <|
  vb (sR m10 388 a0 (some (mC m6))) fun m15 =>
  gd (inb 10 65536) <|
  vb (nw m15 32 (ix 10) (ix 10)) fun m19 =>
  gt m19 a0 4 <|
  vb (sR m19 389 a0 (some (mC m15))) fun m24 =>
  gd (inb 10 65536) <|
  vb (nw m24 32 (ix 10) (ix 10)) fun m28 =>
  gt m28 a0 4 <|
  vb (sR m28 390 a0 (some (mC m24))) fun m33 =>
  gd (inb 10 65536) <|
  vb (nw m33 32 (ix 10) (ix 10)) fun m37 =>
  gt m37 a0 4 <|
  vb (sR m37 391 a0 (some (mC m33))) fun m42 =>
  gd (inb 16 65536) <|
  vb (nw m42 32 (ix 16) (ix 16)) fun m46 =>
  gt m46 a0 4 <|
  vb (sR m46 392 a0 (some (mC m42))) fun m51 =>
  gd (inb 4 65536) <|
  vb (nw m51 32 (ix 4) (ix 4)) fun m55 =>
  gt m55 a0 4 <|
  vb (sR m55 393 a0 (some (mC m51))) fun m60 =>
  bn (J_fill (mR m60 393 a0) 1 m60) fun _ m64 =>
  some ((), m64)
set_option maxRecDepth 100000 in
def P_Ledger_init (a0 : Nat) (m : Mem) : Option (Unit × Mem) :=
  gd (inb 160 65536) <|
  vb (nw m 38 (ix 160) (ix 160)) fun m2 =>
  gt m2 a0 5 <|
  vb (sR m2 512 a0 (some (mC m))) fun m6 =>
  gd (inb 24 65536) <|
  vb (nw m6 37 (ix 24) (ix 24)) fun m10 =>
  gt m10 a0 5 <|
  vb (sR m10 513 a0 (some (mC m6))) fun m15 =>
  some ((), m15)
set_option maxRecDepth 100000 in
def P_Lexer_init (a0 : Nat) (m : Mem) : Option (Unit × Mem) :=
  gd (inb 2000 65536) <|
  vb (nw m 32 (ix 2000) (ix 2000)) fun m2 =>
  gt m2 a0 6 <|
  vb (sR m2 640 a0 (some (mC m))) fun m6 =>
  gd (inb 501 65536) <|
  vb (nw m6 32 (ix 501) (ix 501)) fun m10 =>
  gt m10 a0 6 <|
  vb (sR m10 642 a0 (some (mC m6))) fun m15 =>
  gd (inb 501 65536) <|
  vb (nw m15 32 (ix 501) (ix 501)) fun m19 =>
  gt m19 a0 6 <|
  vb (sR m19 643 a0 (some (mC m15))) fun m24 =>
  gd (inb 501 65536) <|
  vb (nw m24 35 (ix 501) (ix 501)) fun m28 =>
  gt m28 a0 6 <|
  vb (sR m28 644 a0 (some (mC m24))) fun m33 =>
  gd (inb 40 65536) <|
  vb (nw m33 35 (ix 40) (ix 40)) fun m37 =>
  gt m37 a0 6 <|
  vb (sR m37 645 a0 (some (mC m33))) fun m42 =>
  bn (P_Lexer_learn a0 0 0 m42) fun r45 m46 =>
  gt m46 a0 6 <|
  bn (P_Lexer_learn a0 1 r45 m46) fun r49 m50 =>
  gt m50 a0 6 <|
  bn (P_Lexer_learn a0 2 r49 m50) fun r53 m54 =>
  gt m54 a0 6 <|
  bn (P_Lexer_learn a0 3 r53 m54) fun r57 m58 =>
  some ((), m58)
set_option maxRecDepth 100000 in
def P_Parser_init (a0 : Nat) (x1 : Option Nat) (x2 : Option Nat) (x3 : Option Nat) (m : Mem) : Option (Unit × Mem) :=
  gd (inb 60 65536) <|
  vb (nw m 35 (ix 60) (ix 60)) fun m2 =>
  gt m2 a0 7 <|
  vb (sR m2 770 a0 (some (mC m))) fun m6 =>
  vb (sI m6 774 a0 (-1)) fun m9 =>
  gd (inb 30 65536) <|
  vb (nw m9 36 (ix 30) (ix 30)) fun m13 =>
  gt m13 a0 7 <|
  vb (sR m13 781 a0 (some (mC m9))) fun m18 =>
  vb (sR m18 768 a0 x1) fun m21 =>
  vb (sR m21 769 a0 x2) fun m24 =>
  vb (sR m24 775 a0 x3) fun m27 =>
  some ((), m27)
set_option maxRecDepth 100000 in
def P_Scene_init (a0 : Nat) (x1 : Option Nat) (x2 : Option Nat) (x3 : Option Nat) (m : Mem) : Option (Unit × Mem) :=
  gd (inb 12 65536) <|
  vb (nw m 32 (ix 12) (ix 12)) fun m2 =>
  gt m2 a0 10 <|
  vb (sR m2 1155 a0 (some (mC m))) fun m6 =>
  gd (inb 12 65536) <|
  vb (nw m6 32 (ix 12) (ix 12)) fun m10 =>
  gt m10 a0 10 <|
  vb (sR m10 1156 a0 (some (mC m6))) fun m15 =>
  vb (sI m15 1159 a0 (-1)) fun m18 =>
  vb (sR m18 1152 a0 x1) fun m21 =>
  vb (sR m21 1153 a0 x2) fun m24 =>
  vb (sR m24 1154 a0 x3) fun m27 =>
  some ((), m27)
set_option maxRecDepth 100000 in
def P_Reckoning_init (a0 : Nat) (x1 : Option Nat) (x2 : Option Nat) (m : Mem) : Option (Unit × Mem) :=
  gd (inb 7 65536) <|
  vb (nw m 38 (ix 7) (ix 7)) fun m2 =>
  gt m2 a0 9 <|
  vb (sR m2 1029 a0 (some (mC m))) fun m6 =>
  gd (inb 48 65536) <|
  vb (nw m6 32 (ix 48) (ix 48)) fun m10 =>
  gt m10 a0 9 <|
  vb (sR m10 1030 a0 (some (mC m6))) fun m15 =>
  gd (inb 48 65536) <|
  vb (nw m15 32 (ix 48) (ix 48)) fun m19 =>
  gt m19 a0 9 <|
  vb (sR m19 1031 a0 (some (mC m15))) fun m24 =>
  gd (inb 48 65536) <|
  vb (nw m24 32 (ix 48) (ix 48)) fun m28 =>
  gt m28 a0 9 <|
  vb (sR m28 1033 a0 (some (mC m24))) fun m33 =>
  gd (inb 48 65536) <|
  vb (nw m33 37 (ix 48) (ix 48)) fun m37 =>
  gt m37 a0 9 <|
  vb (sR m37 1034 a0 (some (mC m33))) fun m42 =>
  gd (inb 48 65536) <|
  vb (nw m42 32 (ix 48) (ix 48)) fun m46 =>
  gt m46 a0 9 <|
  vb (sR m46 1035 a0 (some (mC m42))) fun m51 =>
  gd (inb 48 65536) <|
  vb (nw m51 37 (ix 48) (ix 48)) fun m55 =>
  gt m55 a0 9 <|
  vb (sR m55 1036 a0 (some (mC m51))) fun m60 =>
  gd (inb 48 65536) <|
  vb (nw m60 32 (ix 48) (ix 48)) fun m64 =>
  gt m64 a0 9 <|
  vb (sR m64 1037 a0 (some (mC m60))) fun m69 =>
  gd (inb 48 65536) <|
  vb (nw m69 37 (ix 48) (ix 48)) fun m73 =>
  gt m73 a0 9 <|
  vb (sR m73 1038 a0 (some (mC m69))) fun m78 =>
  gd (inb 48 65536) <|
  vb (nw m78 32 (ix 48) (ix 48)) fun m82 =>
  gt m82 a0 9 <|
  vb (sR m82 1039 a0 (some (mC m78))) fun m87 =>
  gd (inb 12 65536) <|
  vb (nw m87 32 (ix 12) (ix 12)) fun m91 =>
  gt m91 a0 9 <|
  vb (sR m91 1040 a0 (some (mC m87))) fun m96 =>
  gd (inb 60 65536) <|
  vb (nw m96 32 (ix 60) (ix 60)) fun m100 =>
  gt m100 a0 9 <|
  vb (sR m100 1042 a0 (some (mC m96))) fun m105 =>
  vb (sR m105 1024 a0 x1) fun m108 =>
  vb (sR m108 1025 a0 x2) fun m111 =>
  some ((), m111)
set_option maxRecDepth 100000 in
def P_Parting_init (a0 : Nat) (m : Mem) : Option (Unit × Mem) :=
  gd (inb 16 65536) <|
  vb (nw m 32 (ix 16) (ix 16)) fun m2 =>
  gt m2 a0 8 <|
  vb (sR m2 896 a0 (some (mC m))) fun m6 =>
  gd (inb 16 65536) <|
  vb (nw m6 32 (ix 16) (ix 16)) fun m10 =>
  gt m10 a0 8 <|
  vb (sR m10 897 a0 (some (mC m6))) fun m15 =>
  gd (inb 16 65536) <|
  vb (nw m15 32 (ix 16) (ix 16)) fun m19 =>
  gt m19 a0 8 <|
  vb (sR m19 898 a0 (some (mC m15))) fun m24 =>
  gd (inb 16 65536) <|
  vb (nw m24 32 (ix 16) (ix 16)) fun m28 =>
  gt m28 a0 8 <|
  vb (sR m28 899 a0 (some (mC m24))) fun m33 =>
  gd (inb 7 65536) <|
  vb (nw m33 32 (ix 7) (ix 7)) fun m37 =>
  gt m37 a0 8 <|
  vb (sR m37 900 a0 (some (mC m33))) fun m42 =>
  gd (inb 7 65536) <|
  vb (nw m42 32 (ix 7) (ix 7)) fun m46 =>
  gt m46 a0 8 <|
  vb (sR m46 902 a0 (some (mC m42))) fun m51 =>
  gd (inb 7 65536) <|
  vb (nw m51 32 (ix 7) (ix 7)) fun m55 =>
  gt m55 a0 8 <|
  vb (sR m55 903 a0 (some (mC m51))) fun m60 =>
  gd (inb 7 65536) <|
  vb (nw m60 32 (ix 7) (ix 7)) fun m64 =>
  gt m64 a0 8 <|
  vb (sR m64 904 a0 (some (mC m60))) fun m69 =>
  gd (inb 7 65536) <|
  vb (nw m69 32 (ix 7) (ix 7)) fun m73 =>
  gt m73 a0 8 <|
  vb (sR m73 905 a0 (some (mC m69))) fun m78 =>
  bn (J_fill (mR m78 898 a0) (-1) m78) fun _ m82 =>
  some ((), m82)
set_option maxRecDepth 100000 in
def P_init (a0 : Nat) (m : Mem) : Option (Unit × Mem) :=
  vb (sI m 1415 a0 (-1)) fun m1 =>
  vb (nw m1 2 0 10) fun m3 =>
  bn (P_Formula_init (mC m1) m3) fun _ m7 =>
  vb (nw m7 4 0 10) fun m9 =>
  bn (P_Land_init (mC m7) m9) fun _ m12 =>
  gt m12 a0 12 <|
  vb (sR m12 1408 a0 (some (mC m7))) fun m15 =>
  vb (nw m15 5 0 4) fun m17 =>
  bn (P_Ledger_init (mC m15) m17) fun _ m21 =>
  gt m21 a0 12 <|
  vb (sR m21 1409 a0 (some (mC m15))) fun m24 =>
  vb (nw m24 6 0 7) fun m26 =>
  bn (P_Lexer_init (mC m24) m26) fun _ m30 =>
  gt m30 a0 12 <|
  vb (sR m30 1410 a0 (some (mC m24))) fun m33 =>
  vb (nw m33 7 0 19) fun m35 =>
  gt m35 a0 12 <|
  bn (P_Parser_init (mC m33) (mR m35 1410 a0) (mR m35 1409 a0) (some (mC m1)) m35) fun _ m40 =>
  gt m40 a0 12 <|
  vb (sR m40 1411 a0 (some (mC m33))) fun m43 =>
  vb (nw m43 10 0 9) fun m45 =>
  gt m45 a0 12 <|
  bn (P_Scene_init (mC m43) (mR m45 1408 a0) (mR m45 1409 a0) (some (mC m1)) m45) fun _ m50 =>
  gt m50 a0 12 <|
  vb (sR m50 1412 a0 (some (mC m43))) fun m53 =>
  vb (nw m53 9 0 20) fun m55 =>
  gt m55 a0 12 <|
  bn (P_Reckoning_init (mC m53) (mR m55 1409 a0) (mR m55 1412 a0) m55) fun _ m60 =>
  gt m60 a0 12 <|
  vb (sR m60 1413 a0 (some (mC m53))) fun m63 =>
  vb (nw m63 8 0 12) fun m65 =>
  bn (P_Parting_init (mC m63) m65) fun _ m69 =>
  gt m69 a0 12 <|
  vb (sR m69 1414 a0 (some (mC m63))) fun m72 =>
  some ((), m72)
set_option maxRecDepth 100000 in
def R_init_1567 : Nat → Nat → Int32 → Mem → Option (Unit × Mem)
  | 0, _, _, _ => none
  | n + 1, a0, x1, m =>
  if 4 ≤ x1 then (
    some ((), m))
  else (
    gs (mR m 1600 a0) fun a2 =>
    gt m a2 32 <|
    gd (inb x1 (mN m a2)) <|
    vb (wI m a2 (ix x1) 1) fun m6 =>
    vb (x1 + 1 : Int32) fun v9 =>
    R_init_1567 n a0 v9 m6)
set_option maxRecDepth 100000 in
def R_init (a0 : Nat) (m : Mem) : Option (Unit × Mem) :=
  gd (inb 2000 65536) <|
  vb (nw m 33 (ix 2000) (ix 2000)) fun m2 =>
  gt m2 a0 13 <|
  vb (sR m2 1537 a0 (some (mC m))) fun m6 =>
  gd (inb 2000 65536) <|
  vb (nw m6 33 (ix 2000) (ix 2000)) fun m10 =>
  gt m10 a0 13 <|
  vb (sR m10 1539 a0 (some (mC m6))) fun m15 =>
  gd (inb 503 65536) <|
  vb (nw m15 32 (ix 503) (ix 503)) fun m19 =>
  gt m19 a0 13 <|
  vb (sR m19 1541 a0 (some (mC m15))) fun m24 =>
  gd (inb 503 65536) <|
  vb (nw m24 32 (ix 503) (ix 503)) fun m28 =>
  gt m28 a0 13 <|
  vb (sR m28 1542 a0 (some (mC m24))) fun m33 =>
  gd (inb 503 65536) <|
  vb (nw m33 32 (ix 503) (ix 503)) fun m37 =>
  gt m37 a0 13 <|
  vb (sR m37 1543 a0 (some (mC m33))) fun m42 =>
  gd (inb 503 65536) <|
  vb (nw m42 35 (ix 503) (ix 503)) fun m46 =>
  gt m46 a0 13 <|
  vb (sR m46 1544 a0 (some (mC m42))) fun m51 =>
  gd (inb 40 65536) <|
  vb (nw m51 35 (ix 40) (ix 40)) fun m55 =>
  gt m55 a0 13 <|
  vb (sR m55 1545 a0 (some (mC m51))) fun m60 =>
  vb (sI m60 1553 a0 (-1)) fun m63 =>
  gd (inb 25 65536) <|
  vb (nw m63 32 (ix 25) (ix 25)) fun m67 =>
  gt m67 a0 13 <|
  vb (sR m67 1555 a0 (some (mC m63))) fun m72 =>
  gd (inb 25 65536) <|
  vb (nw m72 32 (ix 25) (ix 25)) fun m76 =>
  gt m76 a0 13 <|
  vb (sR m76 1556 a0 (some (mC m72))) fun m81 =>
  gd (inb 25 65536) <|
  vb (nw m81 32 (ix 25) (ix 25)) fun m85 =>
  gt m85 a0 13 <|
  vb (sR m85 1557 a0 (some (mC m81))) fun m90 =>
  gd (inb 25 65536) <|
  vb (nw m90 32 (ix 25) (ix 25)) fun m94 =>
  gt m94 a0 13 <|
  vb (sR m94 1558 a0 (some (mC m90))) fun m99 =>
  gd (inb 25 65536) <|
  vb (nw m99 32 (ix 25) (ix 25)) fun m103 =>
  gt m103 a0 13 <|
  vb (sR m103 1559 a0 (some (mC m99))) fun m108 =>
  gd (inb 25 65536) <|
  vb (nw m108 32 (ix 25) (ix 25)) fun m112 =>
  gt m112 a0 13 <|
  vb (sR m112 1560 a0 (some (mC m108))) fun m117 =>
  gd (inb 25 65536) <|
  vb (nw m117 32 (ix 25) (ix 25)) fun m121 =>
  gt m121 a0 13 <|
  vb (sR m121 1561 a0 (some (mC m117))) fun m126 =>
  gd (inb 750 65536) <|
  vb (nw m126 32 (ix 750) (ix 750)) fun m130 =>
  gt m130 a0 13 <|
  vb (sR m130 1562 a0 (some (mC m126))) fun m135 =>
  gd (inb 750 65536) <|
  vb (nw m135 32 (ix 750) (ix 750)) fun m139 =>
  gt m139 a0 13 <|
  vb (sR m139 1563 a0 (some (mC m135))) fun m144 =>
  gd (inb 750 65536) <|
  vb (nw m144 32 (ix 750) (ix 750)) fun m148 =>
  gt m148 a0 13 <|
  vb (sR m148 1564 a0 (some (mC m144))) fun m153 =>
  gd (inb 750 65536) <|
  vb (nw m153 34 (ix 750) (ix 750)) fun m157 =>
  gt m157 a0 13 <|
  vb (sR m157 1565 a0 (some (mC m153))) fun m162 =>
  gd (inb 750 65536) <|
  vb (nw m162 32 (ix 750) (ix 750)) fun m166 =>
  gt m166 a0 13 <|
  vb (sR m166 1566 a0 (some (mC m162))) fun m171 =>
  gd (inb 750 65536) <|
  vb (nw m171 32 (ix 750) (ix 750)) fun m175 =>
  gt m175 a0 13 <|
  vb (sR m175 1567 a0 (some (mC m171))) fun m180 =>
  gd (inb 750 65536) <|
  vb (nw m180 32 (ix 750) (ix 750)) fun m184 =>
  gt m184 a0 13 <|
  vb (sR m184 1568 a0 (some (mC m180))) fun m189 =>
  gd (inb 750 65536) <|
  vb (nw m189 32 (ix 750) (ix 750)) fun m193 =>
  gt m193 a0 13 <|
  vb (sR m193 1569 a0 (some (mC m189))) fun m198 =>
  gd (inb 750 65536) <|
  vb (nw m198 32 (ix 750) (ix 750)) fun m202 =>
  gt m202 a0 13 <|
  vb (sR m202 1570 a0 (some (mC m198))) fun m207 =>
  gd (inb 750 65536) <|
  vb (nw m207 32 (ix 750) (ix 750)) fun m211 =>
  gt m211 a0 13 <|
  vb (sR m211 1571 a0 (some (mC m207))) fun m216 =>
  gd (inb 750 65536) <|
  vb (nw m216 32 (ix 750) (ix 750)) fun m220 =>
  gt m220 a0 13 <|
  vb (sR m220 1572 a0 (some (mC m216))) fun m225 =>
  gd (inb 3000 65536) <|
  vb (nw m225 32 (ix 3000) (ix 3000)) fun m229 =>
  gt m229 a0 13 <|
  vb (sR m229 1573 a0 (some (mC m225))) fun m234 =>
  gd (inb 5000 65536) <|
  vb (nw m234 32 (ix 5000) (ix 5000)) fun m238 =>
  gt m238 a0 13 <|
  vb (sR m238 1574 a0 (some (mC m234))) fun m243 =>
  gd (inb 5000 65536) <|
  vb (nw m243 34 (ix 5000) (ix 5000)) fun m247 =>
  gt m247 a0 13 <|
  vb (sR m247 1575 a0 (some (mC m243))) fun m252 =>
  gd (inb 5000 65536) <|
  vb (nw m252 34 (ix 5000) (ix 5000)) fun m256 =>
  gt m256 a0 13 <|
  vb (sR m256 1576 a0 (some (mC m252))) fun m261 =>
  gd (inb 5000 65536) <|
  vb (nw m261 32 (ix 5000) (ix 5000)) fun m265 =>
  gt m265 a0 13 <|
  vb (sR m265 1577 a0 (some (mC m261))) fun m270 =>
  gd (inb 5000 65536) <|
  vb (nw m270 32 (ix 5000) (ix 5000)) fun m274 =>
  gt m274 a0 13 <|
  vb (sR m274 1578 a0 (some (mC m270))) fun m279 =>
  gd (inb 5000 65536) <|
  vb (nw m279 32 (ix 5000) (ix 5000)) fun m283 =>
  gt m283 a0 13 <|
  vb (sR m283 1579 a0 (some (mC m279))) fun m288 =>
  gd (inb 12500 65536) <|
  vb (nw m288 32 (ix 12500) (ix 12500)) fun m292 =>
  gt m292 a0 13 <|
  vb (sR m292 1582 a0 (some (mC m288))) fun m297 =>
  gd (inb 12500 65536) <|
  vb (nw m297 32 (ix 12500) (ix 12500)) fun m301 =>
  gt m301 a0 13 <|
  vb (sR m301 1583 a0 (some (mC m297))) fun m306 =>
  gd (inb 600 65536) <|
  vb (nw m306 35 (ix 600) (ix 600)) fun m310 =>
  gt m310 a0 13 <|
  vb (sR m310 1586 a0 (some (mC m306))) fun m315 =>
  gd (inb 64 65536) <|
  vb (nw m315 32 (ix 64) (ix 64)) fun m319 =>
  gt m319 a0 13 <|
  vb (sR m319 1589 a0 (some (mC m315))) fun m324 =>
  gd (inb 8 65536) <|
  vb (nw m324 32 (ix 8) (ix 8)) fun m328 =>
  gt m328 a0 13 <|
  vb (sR m328 1593 a0 (some (mC m324))) fun m333 =>
  gd (inb 8 65536) <|
  vb (nw m333 32 (ix 8) (ix 8)) fun m337 =>
  gt m337 a0 13 <|
  vb (sR m337 1594 a0 (some (mC m333))) fun m342 =>
  gd (inb 10 65536) <|
  vb (nw m342 32 (ix 10) (ix 10)) fun m346 =>
  gt m346 a0 13 <|
  vb (sR m346 1596 a0 (some (mC m342))) fun m351 =>
  gd (inb 10 65536) <|
  vb (nw m351 32 (ix 10) (ix 10)) fun m355 =>
  gt m355 a0 13 <|
  vb (sR m355 1597 a0 (some (mC m351))) fun m360 =>
  gd (inb 10 65536) <|
  vb (nw m360 32 (ix 10) (ix 10)) fun m364 =>
  gt m364 a0 13 <|
  vb (sR m364 1598 a0 (some (mC m360))) fun m369 =>
  gd (inb 16 65536) <|
  vb (nw m369 32 (ix 16) (ix 16)) fun m373 =>
  gt m373 a0 13 <|
  vb (sR m373 1599 a0 (some (mC m369))) fun m378 =>
  gd (inb 4 65536) <|
  vb (nw m378 32 (ix 4) (ix 4)) fun m382 =>
  gt m382 a0 13 <|
  vb (sR m382 1600 a0 (some (mC m378))) fun m387 =>
  gd (inb 160 65536) <|
  vb (nw m387 32 (ix 160) (ix 160)) fun m391 =>
  gt m391 a0 13 <|
  vb (sR m391 1602 a0 (some (mC m387))) fun m396 =>
  gd (inb 160 65536) <|
  vb (nw m396 32 (ix 160) (ix 160)) fun m400 =>
  gt m400 a0 13 <|
  vb (sR m400 1603 a0 (some (mC m396))) fun m405 =>
  gd (inb 160 65536) <|
  vb (nw m405 32 (ix 160) (ix 160)) fun m409 =>
  gt m409 a0 13 <|
  vb (sR m409 1604 a0 (some (mC m405))) fun m414 =>
  gd (inb 160 65536) <|
  vb (nw m414 32 (ix 160) (ix 160)) fun m418 =>
  gt m418 a0 13 <|
  vb (sR m418 1605 a0 (some (mC m414))) fun m423 =>
  gd (inb 160 65536) <|
  vb (nw m423 32 (ix 160) (ix 160)) fun m427 =>
  gt m427 a0 13 <|
  vb (sR m427 1606 a0 (some (mC m423))) fun m432 =>
  gd (inb 7680 65536) <|
  vb (nw m432 32 (ix 7680) (ix 7680)) fun m436 =>
  gt m436 a0 13 <|
  vb (sR m436 1607 a0 (some (mC m432))) fun m441 =>
  gd (inb 12 65536) <|
  vb (nw m441 32 (ix 12) (ix 12)) fun m445 =>
  gt m445 a0 13 <|
  vb (sR m445 1608 a0 (some (mC m441))) fun m450 =>
  gd (inb 500 65536) <|
  vb (nw m450 32 (ix 500) (ix 500)) fun m454 =>
  gt m454 a0 13 <|
  vb (sR m454 1609 a0 (some (mC m450))) fun m459 =>
  vb (sI m459 1612 a0 (-1)) fun m462 =>
  gd (inb 24 65536) <|
  vb (nw m462 34 (ix 24) (ix 24)) fun m466 =>
  gt m466 a0 13 <|
  vb (sR m466 1615 a0 (some (mC m462))) fun m471 =>
  gd (inb 24 65536) <|
  vb (nw m471 32 (ix 24) (ix 24)) fun m475 =>
  gt m475 a0 13 <|
  vb (sR m475 1616 a0 (some (mC m471))) fun m480 =>
  gd (inb 1536 65536) <|
  vb (nw m480 32 (ix 1536) (ix 1536)) fun m484 =>
  gt m484 a0 13 <|
  vb (sR m484 1617 a0 (some (mC m480))) fun m489 =>
  gd (inb 1536 65536) <|
  vb (nw m489 32 (ix 1536) (ix 1536)) fun m493 =>
  gt m493 a0 13 <|
  vb (sR m493 1618 a0 (some (mC m489))) fun m498 =>
  gd (inb 24 65536) <|
  vb (nw m498 32 (ix 24) (ix 24)) fun m502 =>
  gt m502 a0 13 <|
  vb (sR m502 1619 a0 (some (mC m498))) fun m507 =>
  gd (inb 24 65536) <|
  vb (nw m507 32 (ix 24) (ix 24)) fun m511 =>
  gt m511 a0 13 <|
  vb (sR m511 1620 a0 (some (mC m507))) fun m516 =>
  gd (inb 720 65536) <|
  vb (nw m516 32 (ix 720) (ix 720)) fun m520 =>
  gt m520 a0 13 <|
  vb (sR m520 1621 a0 (some (mC m516))) fun m525 =>
  vb (sI m525 1622 a0 (-1)) fun m528 =>
  gd (inb 1536 65536) <|
  vb (nw m528 32 (ix 1536) (ix 1536)) fun m532 =>
  gt m532 a0 13 <|
  vb (sR m532 1626 a0 (some (mC m528))) fun m537 =>
  vb (sI m537 1627 a0 (-1)) fun m540 =>
  gd (inb 48 65536) <|
  vb (nw m540 32 (ix 48) (ix 48)) fun m544 =>
  gt m544 a0 13 <|
  vb (sR m544 1630 a0 (some (mC m540))) fun m549 =>
  gd (inb 48 65536) <|
  vb (nw m549 32 (ix 48) (ix 48)) fun m553 =>
  gt m553 a0 13 <|
  vb (sR m553 1631 a0 (some (mC m549))) fun m558 =>
  gd (inb 48 65536) <|
  vb (nw m558 32 (ix 48) (ix 48)) fun m562 =>
  gt m562 a0 13 <|
  vb (sR m562 1632 a0 (some (mC m558))) fun m567 =>
  gd (inb 48 65536) <|
  vb (nw m567 32 (ix 48) (ix 48)) fun m571 =>
  gt m571 a0 13 <|
  vb (sR m571 1633 a0 (some (mC m567))) fun m576 =>
  gd (inb 48 65536) <|
  vb (nw m576 32 (ix 48) (ix 48)) fun m580 =>
  gt m580 a0 13 <|
  vb (sR m580 1634 a0 (some (mC m576))) fun m585 =>
  gd (inb 48 65536) <|
  vb (nw m585 32 (ix 48) (ix 48)) fun m589 =>
  gt m589 a0 13 <|
  vb (sR m589 1635 a0 (some (mC m585))) fun m594 =>
  gd (inb 48 65536) <|
  vb (nw m594 32 (ix 48) (ix 48)) fun m598 =>
  gt m598 a0 13 <|
  vb (sR m598 1636 a0 (some (mC m594))) fun m603 =>
  gd (inb 48 65536) <|
  vb (nw m603 32 (ix 48) (ix 48)) fun m607 =>
  gt m607 a0 13 <|
  vb (sR m607 1637 a0 (some (mC m603))) fun m612 =>
  gd (inb 24 65536) <|
  vb (nw m612 34 (ix 24) (ix 24)) fun m616 =>
  gt m616 a0 13 <|
  vb (sR m616 1640 a0 (some (mC m612))) fun m621 =>
  gd (inb 1536 65536) <|
  vb (nw m621 32 (ix 1536) (ix 1536)) fun m625 =>
  gt m625 a0 13 <|
  vb (sR m625 1641 a0 (some (mC m621))) fun m630 =>
  gd (inb 64 65536) <|
  vb (nw m630 32 (ix 64) (ix 64)) fun m634 =>
  gt m634 a0 13 <|
  vb (sR m634 1644 a0 (some (mC m630))) fun m639 =>
  gd (inb 64 65536) <|
  vb (nw m639 32 (ix 64) (ix 64)) fun m643 =>
  gt m643 a0 13 <|
  vb (sR m643 1645 a0 (some (mC m639))) fun m648 =>
  gd (inb 24 65536) <|
  vb (nw m648 35 (ix 24) (ix 24)) fun m652 =>
  gt m652 a0 13 <|
  vb (sR m652 1646 a0 (some (mC m648))) fun m657 =>
  gd (inb 16 65536) <|
  vb (nw m657 32 (ix 16) (ix 16)) fun m661 =>
  gt m661 a0 13 <|
  vb (sR m661 1647 a0 (some (mC m657))) fun m666 =>
  gd (inb 256 65536) <|
  vb (nw m666 34 (ix 256) (ix 256)) fun m670 =>
  gt m670 a0 13 <|
  vb (sR m670 1648 a0 (some (mC m666))) fun m675 =>
  gd (inb 16 65536) <|
  vb (nw m675 32 (ix 16) (ix 16)) fun m679 =>
  gt m679 a0 13 <|
  vb (sR m679 1649 a0 (some (mC m675))) fun m684 =>
  gd (inb 16 65536) <|
  vb (nw m684 32 (ix 16) (ix 16)) fun m688 =>
  gt m688 a0 13 <|
  vb (sR m688 1650 a0 (some (mC m684))) fun m693 =>
  gd (inb 7 65536) <|
  vb (nw m693 32 (ix 7) (ix 7)) fun m697 =>
  gt m697 a0 13 <|
  vb (sR m697 1652 a0 (some (mC m693))) fun m702 =>
  gd (inb 7 65536) <|
  vb (nw m702 32 (ix 7) (ix 7)) fun m706 =>
  gt m706 a0 13 <|
  vb (sR m706 1653 a0 (some (mC m702))) fun m711 =>
  gd (inb 7 65536) <|
  vb (nw m711 32 (ix 7) (ix 7)) fun m715 =>
  gt m715 a0 13 <|
  vb (sR m715 1654 a0 (some (mC m711))) fun m720 =>
  gd (inb 7 65536) <|
  vb (nw m720 32 (ix 7) (ix 7)) fun m724 =>
  gt m724 a0 13 <|
  vb (sR m724 1655 a0 (some (mC m720))) fun m729 =>
  gd (inb 7 65536) <|
  vb (nw m729 32 (ix 7) (ix 7)) fun m733 =>
  gt m733 a0 13 <|
  vb (sR m733 1656 a0 (some (mC m729))) fun m738 =>
  gs (mR m738 1545 a0) fun a741 =>
  bp (R_word 97 119 97 114 100 0 0) fun r743 =>
  gt m738 a741 35 <|
  gd (inb 0 (mN m738 a741)) <|
  vb (wL m738 a741 (ix 0) r743) fun m746 =>
  gs (mR m746 1545 a0) fun a750 =>
  bp (R_word 118 97 114 121 0 0 0) fun r752 =>
  gt m746 a750 35 <|
  gd (inb 1 (mN m746 a750)) <|
  vb (wL m746 a750 (ix 1) r752) fun m755 =>
  gs (mR m755 1545 a0) fun a760 =>
  bp (R_word 111 114 100 101 114 0 0) fun r762 =>
  gt m755 a760 35 <|
  gd (inb 2 (mN m755 a760)) <|
  vb (wL m755 a760 (ix 2) r762) fun m765 =>
  gs (mR m765 1545 a0) fun a771 =>
  bp (R_word 97 103 114 101 101 0 0) fun r773 =>
  gt m765 a771 35 <|
  gd (inb 3 (mN m765 a771)) <|
  vb (wL m765 a771 (ix 3) r773) fun m776 =>
  gs (mR m776 1545 a0) fun a783 =>
  bp (R_word 102 105 114 109 0 0 0) fun r785 =>
  gt m776 a783 35 <|
  gd (inb 4 (mN m776 a783)) <|
  vb (wL m776 a783 (ix 4) r785) fun m788 =>
  gs (mR m788 1545 a0) fun a796 =>
  bp (R_word 102 114 111 109 0 0 0) fun r798 =>
  gt m788 a796 35 <|
  gd (inb 5 (mN m788 a796)) <|
  vb (wL m788 a796 (ix 5) r798) fun m801 =>
  gs (mR m801 1545 a0) fun a810 =>
  bp (R_word 98 105 110 100 115 0 0) fun r812 =>
  gt m801 a810 35 <|
  gd (inb 6 (mN m801 a810)) <|
  vb (wL m801 a810 (ix 6) r812) fun m815 =>
  gs (mR m815 1545 a0) fun a825 =>
  bp (R_word 105 102 0 0 0 0 0) fun r827 =>
  gt m815 a825 35 <|
  gd (inb 7 (mN m815 a825)) <|
  vb (wL m815 a825 (ix 7) r827) fun m830 =>
  gs (mR m830 1545 a0) fun a841 =>
  bp (R_word 111 118 101 114 0 0 0) fun r843 =>
  gt m830 a841 35 <|
  gd (inb 8 (mN m830 a841)) <|
  vb (wL m830 a841 (ix 8) r843) fun m846 =>
  gs (mR m846 1545 a0) fun a858 =>
  bp (R_word 99 108 97 115 115 0 0) fun r860 =>
  gt m846 a858 35 <|
  gd (inb 9 (mN m846 a858)) <|
  vb (wL m846 a858 (ix 9) r860) fun m863 =>
  gs (mR m863 1545 a0) fun a876 =>
  bp (R_word 116 97 115 107 115 0 0) fun r878 =>
  gt m863 a876 35 <|
  gd (inb 10 (mN m863 a876)) <|
  vb (wL m863 a876 (ix 10) r878) fun m881 =>
  gs (mR m881 1545 a0) fun a895 =>
  bp (R_word 109 97 114 103 105 110 0) fun r897 =>
  gt m881 a895 35 <|
  gd (inb 11 (mN m881 a895)) <|
  vb (wL m881 a895 (ix 11) r897) fun m900 =>
  gs (mR m900 1545 a0) fun a915 =>
  bp (R_word 102 111 108 108 111 119 115) fun r917 =>
  gt m900 a915 35 <|
  gd (inb 12 (mN m900 a915)) <|
  vb (wL m900 a915 (ix 12) r917) fun m920 =>
  gs (mR m920 1545 a0) fun a936 =>
  bp (R_word 112 108 117 115 0 0 0) fun r938 =>
  gt m920 a936 35 <|
  gd (inb 13 (mN m920 a936)) <|
  vb (wL m920 a936 (ix 13) r938) fun m941 =>
  gs (mR m941 1545 a0) fun a958 =>
  bp (R_word 99 104 111 111 115 101 0) fun r960 =>
  gt m941 a958 35 <|
  gd (inb 14 (mN m941 a958)) <|
  vb (wL m941 a958 (ix 14) r960) fun m963 =>
  gs (mR m963 1545 a0) fun a981 =>
  bp (R_word 101 97 99 104 0 0 0) fun r983 =>
  gt m963 a981 35 <|
  gd (inb 15 (mN m963 a981)) <|
  vb (wL m963 a981 (ix 15) r983) fun m986 =>
  gs (mR m986 1545 a0) fun a1005 =>
  bp (R_word 109 111 115 116 0 0 0) fun r1007 =>
  gt m986 a1005 35 <|
  gd (inb 16 (mN m986 a1005)) <|
  vb (wL m986 a1005 (ix 16) r1007) fun m1010 =>
  gs (mR m1010 1545 a0) fun a1030 =>
  bp (R_word 104 105 103 104 101 115 116) fun r1032 =>
  gt m1010 a1030 35 <|
  gd (inb 17 (mN m1010 a1030)) <|
  vb (wL m1010 a1030 (ix 17) r1032) fun m1035 =>
  gs (mR m1035 1545 a0) fun a1056 =>
  bp (R_word 108 111 97 100 0 0 0) fun r1058 =>
  gt m1035 a1056 35 <|
  gd (inb 18 (mN m1035 a1056)) <|
  vb (wL m1035 a1056 (ix 18) r1058) fun m1061 =>
  gs (mR m1061 1545 a0) fun a1083 =>
  bp (R_word 101 120 116 114 97 0 0) fun r1085 =>
  gt m1061 a1083 35 <|
  gd (inb 19 (mN m1061 a1083)) <|
  vb (wL m1061 a1083 (ix 19) r1085) fun m1088 =>
  gs (mR m1088 1545 a0) fun a1111 =>
  bp (R_word 98 97 114 115 0 0 0) fun r1113 =>
  gt m1088 a1111 35 <|
  gd (inb 20 (mN m1088 a1111)) <|
  vb (wL m1088 a1111 (ix 20) r1113) fun m1116 =>
  gs (mR m1116 1545 a0) fun a1140 =>
  bp (R_word 114 111 117 110 100 0 0) fun r1142 =>
  gt m1116 a1140 35 <|
  gd (inb 21 (mN m1116 a1140)) <|
  vb (wL m1116 a1140 (ix 21) r1142) fun m1145 =>
  gs (mR m1145 1545 a0) fun a1170 =>
  bp (R_word 115 116 114 105 107 101 0) fun r1172 =>
  gt m1145 a1170 35 <|
  gd (inb 22 (mN m1145 a1170)) <|
  vb (wL m1145 a1170 (ix 22) r1172) fun m1175 =>
  gs (mR m1175 1545 a0) fun a1201 =>
  bp (R_word 105 115 0 0 0 0 0) fun r1203 =>
  gt m1175 a1201 35 <|
  gd (inb 23 (mN m1175 a1201)) <|
  vb (wL m1175 a1201 (ix 23) r1203) fun m1206 =>
  gs (mR m1206 1545 a0) fun a1233 =>
  bp (R_word 111 114 0 0 0 0 0) fun r1235 =>
  gt m1206 a1233 35 <|
  gd (inb 24 (mN m1206 a1233)) <|
  vb (wL m1206 a1233 (ix 24) r1235) fun m1238 =>
  gs (mR m1238 1545 a0) fun a1266 =>
  bp (R_word 97 110 100 0 0 0 0) fun r1268 =>
  gt m1238 a1266 35 <|
  gd (inb 25 (mN m1238 a1266)) <|
  vb (wL m1238 a1266 (ix 25) r1268) fun m1271 =>
  gs (mR m1271 1545 a0) fun a1300 =>
  bp (R_word 110 111 116 0 0 0 0) fun r1302 =>
  gt m1271 a1300 35 <|
  gd (inb 26 (mN m1271 a1300)) <|
  vb (wL m1271 a1300 (ix 26) r1302) fun m1305 =>
  gs (mR m1305 1545 a0) fun a1335 =>
  bp (R_word 116 105 99 107 101 116 0) fun r1337 =>
  gt m1305 a1335 35 <|
  gd (inb 27 (mN m1305 a1335)) <|
  vb (wL m1305 a1335 (ix 27) r1337) fun m1340 =>
  gs (mR m1340 1545 a0) fun a1371 =>
  bp (R_word 108 101 97 115 116 0 0) fun r1373 =>
  gt m1340 a1371 35 <|
  gd (inb 28 (mN m1340 a1371)) <|
  vb (wL m1340 a1371 (ix 28) r1373) fun m1376 =>
  gs (mR m1376 1545 a0) fun a1408 =>
  bp (R_word 121 101 97 114 115 0 0) fun r1410 =>
  gt m1376 a1408 35 <|
  gd (inb 29 (mN m1376 a1408)) <|
  vb (wL m1376 a1408 (ix 29) r1410) fun m1413 =>
  gs (mR m1413 1545 a0) fun a1446 =>
  bp (R_word 116 114 97 100 101 0 0) fun r1448 =>
  gt m1413 a1446 35 <|
  gd (inb 30 (mN m1413 a1446)) <|
  vb (wL m1413 a1446 (ix 30) r1448) fun m1451 =>
  gs (mR m1451 1545 a0) fun a1485 =>
  bp (R_word 116 111 119 110 0 0 0) fun r1487 =>
  gt m1451 a1485 35 <|
  gd (inb 31 (mN m1451 a1485)) <|
  vb (wL m1451 a1485 (ix 31) r1487) fun m1490 =>
  gs (mR m1490 1545 a0) fun a1525 =>
  bp (R_word 119 104 111 0 0 0 0) fun r1527 =>
  gt m1490 a1525 35 <|
  gd (inb 32 (mN m1490 a1525)) <|
  vb (wL m1490 a1525 (ix 32) r1527) fun m1530 =>
  gs (mR m1530 1545 a0) fun a1566 =>
  bp (R_word 116 97 115 107 0 0 0) fun r1568 =>
  gt m1530 a1566 35 <|
  gd (inb 33 (mN m1530 a1566)) <|
  vb (wL m1530 a1566 (ix 33) r1568) fun m1571 =>
  gs (mR m1571 1545 a0) fun a1608 =>
  bp (R_word 119 101 101 107 100 97 121) fun r1610 =>
  gt m1571 a1608 35 <|
  gd (inb 34 (mN m1571 a1608)) <|
  vb (wL m1571 a1608 (ix 34) r1610) fun m1613 =>
  gs (mR m1613 1545 a0) fun a1651 =>
  bp (R_word 104 97 108 102 0 0 0) fun r1653 =>
  gt m1613 a1651 35 <|
  gd (inb 35 (mN m1613 a1651)) <|
  vb (wL m1613 a1651 (ix 35) r1653) fun m1656 =>
  gs (mR m1656 1545 a0) fun a1695 =>
  bp (R_word 119 111 114 107 101 100 0) fun r1697 =>
  gt m1656 a1695 35 <|
  gd (inb 36 (mN m1656 a1695)) <|
  vb (wL m1656 a1695 (ix 36) r1697) fun m1700 =>
  gs (mR m1700 1545 a0) fun a1740 =>
  bp (R_word 119 101 101 107 0 0 0) fun r1742 =>
  gt m1700 a1740 35 <|
  gd (inb 37 (mN m1700 a1740)) <|
  vb (wL m1700 a1740 (ix 37) r1742) fun m1745 =>
  gs (mR m1745 1545 a0) fun a1786 =>
  bp (R_word 119 101 116 0 0 0 0) fun r1788 =>
  gt m1745 a1786 35 <|
  gd (inb 38 (mN m1745 a1786)) <|
  vb (wL m1745 a1786 (ix 38) r1788) fun m1791 =>
  gs (mR m1791 1545 a0) fun a1833 =>
  bp (R_word 114 97 116 101 0 0 0) fun r1835 =>
  gt m1791 a1833 35 <|
  gd (inb 39 (mN m1791 a1833)) <|
  vb (wL m1791 a1833 (ix 39) r1835) fun m1838 =>
  R_init_1567 FU a0 0 m1838
