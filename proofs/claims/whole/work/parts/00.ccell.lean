/-! the fixed cells of both sides: written by gen/emit.py -/
def P_cells : List (Nat × Nat × Nat) := [(0, 12, 0), (1, 2, 0), (2, 32, 500), (3, 32, 500), (4, 32, 64), (5, 4, 0), (6, 32, 8), (7, 32, 8), (8, 32, 10), (9, 32, 10), (10, 32, 10), (11, 32, 16), (12, 32, 4), (13, 5, 0), (14, 38, 160), (15, 37, 24), (16, 6, 0), (17, 32, 2000), (18, 32, 501), (19, 32, 501), (20, 35, 501), (21, 35, 40), (22, 7, 0), (23, 35, 60), (24, 36, 30), (25, 10, 0), (26, 32, 12), (27, 32, 12), (28, 9, 0), (29, 38, 7), (30, 32, 48), (31, 32, 48), (32, 32, 48), (33, 37, 48), (34, 32, 48), (35, 37, 48), (36, 32, 48), (37, 37, 48), (38, 32, 48), (39, 32, 12), (40, 32, 60), (41, 8, 0), (42, 32, 16), (43, 32, 16), (44, 32, 16), (45, 32, 16), (46, 32, 7), (47, 32, 7), (48, 32, 7), (49, 32, 7), (50, 32, 7)]
def P_refs : List (Nat × Nat × Nat) := [(133, 1, 2), (135, 1, 3), (137, 1, 4), (387, 5, 6), (388, 5, 7), (389, 5, 8), (390, 5, 9), (391, 5, 10), (392, 5, 11), (393, 5, 12), (512, 13, 14), (513, 13, 15), (640, 16, 17), (642, 16, 18), (643, 16, 19), (644, 16, 20), (645, 16, 21), (768, 22, 16), (769, 22, 13), (770, 22, 23), (775, 22, 1), (781, 22, 24), (896, 41, 42), (897, 41, 43), (898, 41, 44), (899, 41, 45), (900, 41, 46), (902, 41, 47), (903, 41, 48), (904, 41, 49), (905, 41, 50), (1024, 28, 13), (1025, 28, 25), (1029, 28, 29), (1030, 28, 30), (1031, 28, 31), (1033, 28, 32), (1034, 28, 33), (1035, 28, 34), (1036, 28, 35), (1037, 28, 36), (1038, 28, 37), (1039, 28, 38), (1040, 28, 39), (1042, 28, 40), (1152, 25, 5), (1153, 25, 13), (1154, 25, 1), (1155, 25, 26), (1156, 25, 27), (1408, 0, 5), (1409, 0, 13), (1410, 0, 16), (1411, 0, 22), (1412, 0, 25), (1413, 0, 28), (1414, 0, 41)]
def PL (m : Mem) : Prop := 51 ≤ mC m ∧ (∀ (i : Nat) (q : Nat × Nat × Nat), P_cells[i]? = some q → mT m q.1 = q.2.1 ∧ (32 ≤ q.2.1 → mN m q.1 = q.2.2)) ∧ ∀ (i : Nat) (q : Nat × Nat × Nat), P_refs[i]? = some q → mR m q.1 q.2.1 = some q.2.2
theorem PC_0 {m : Mem} (h : PL m) : mT m 0 = 12 ∧ True := ⟨(h.2.1 0 _ rfl).1, trivial⟩
theorem PC_1 {m : Mem} (h : PL m) : mT m 1 = 2 ∧ True := ⟨(h.2.1 1 _ rfl).1, trivial⟩
theorem PC_2 {m : Mem} (h : PL m) : mT m 2 = 32 ∧ mN m 2 = 500 := ⟨(h.2.1 2 _ rfl).1, (h.2.1 2 _ rfl).2 (by decide)⟩
theorem PC_3 {m : Mem} (h : PL m) : mT m 3 = 32 ∧ mN m 3 = 500 := ⟨(h.2.1 3 _ rfl).1, (h.2.1 3 _ rfl).2 (by decide)⟩
theorem PC_4 {m : Mem} (h : PL m) : mT m 4 = 32 ∧ mN m 4 = 64 := ⟨(h.2.1 4 _ rfl).1, (h.2.1 4 _ rfl).2 (by decide)⟩
theorem PC_5 {m : Mem} (h : PL m) : mT m 5 = 4 ∧ True := ⟨(h.2.1 5 _ rfl).1, trivial⟩
theorem PC_6 {m : Mem} (h : PL m) : mT m 6 = 32 ∧ mN m 6 = 8 := ⟨(h.2.1 6 _ rfl).1, (h.2.1 6 _ rfl).2 (by decide)⟩
theorem PC_7 {m : Mem} (h : PL m) : mT m 7 = 32 ∧ mN m 7 = 8 := ⟨(h.2.1 7 _ rfl).1, (h.2.1 7 _ rfl).2 (by decide)⟩
theorem PC_8 {m : Mem} (h : PL m) : mT m 8 = 32 ∧ mN m 8 = 10 := ⟨(h.2.1 8 _ rfl).1, (h.2.1 8 _ rfl).2 (by decide)⟩
theorem PC_9 {m : Mem} (h : PL m) : mT m 9 = 32 ∧ mN m 9 = 10 := ⟨(h.2.1 9 _ rfl).1, (h.2.1 9 _ rfl).2 (by decide)⟩
theorem PC_10 {m : Mem} (h : PL m) : mT m 10 = 32 ∧ mN m 10 = 10 := ⟨(h.2.1 10 _ rfl).1, (h.2.1 10 _ rfl).2 (by decide)⟩
theorem PC_11 {m : Mem} (h : PL m) : mT m 11 = 32 ∧ mN m 11 = 16 := ⟨(h.2.1 11 _ rfl).1, (h.2.1 11 _ rfl).2 (by decide)⟩
theorem PC_12 {m : Mem} (h : PL m) : mT m 12 = 32 ∧ mN m 12 = 4 := ⟨(h.2.1 12 _ rfl).1, (h.2.1 12 _ rfl).2 (by decide)⟩
theorem PC_13 {m : Mem} (h : PL m) : mT m 13 = 5 ∧ True := ⟨(h.2.1 13 _ rfl).1, trivial⟩
theorem PC_14 {m : Mem} (h : PL m) : mT m 14 = 38 ∧ mN m 14 = 160 := ⟨(h.2.1 14 _ rfl).1, (h.2.1 14 _ rfl).2 (by decide)⟩
theorem PC_15 {m : Mem} (h : PL m) : mT m 15 = 37 ∧ mN m 15 = 24 := ⟨(h.2.1 15 _ rfl).1, (h.2.1 15 _ rfl).2 (by decide)⟩
theorem PC_16 {m : Mem} (h : PL m) : mT m 16 = 6 ∧ True := ⟨(h.2.1 16 _ rfl).1, trivial⟩
theorem PC_17 {m : Mem} (h : PL m) : mT m 17 = 32 ∧ mN m 17 = 2000 := ⟨(h.2.1 17 _ rfl).1, (h.2.1 17 _ rfl).2 (by decide)⟩
theorem PC_18 {m : Mem} (h : PL m) : mT m 18 = 32 ∧ mN m 18 = 501 := ⟨(h.2.1 18 _ rfl).1, (h.2.1 18 _ rfl).2 (by decide)⟩
theorem PC_19 {m : Mem} (h : PL m) : mT m 19 = 32 ∧ mN m 19 = 501 := ⟨(h.2.1 19 _ rfl).1, (h.2.1 19 _ rfl).2 (by decide)⟩
theorem PC_20 {m : Mem} (h : PL m) : mT m 20 = 35 ∧ mN m 20 = 501 := ⟨(h.2.1 20 _ rfl).1, (h.2.1 20 _ rfl).2 (by decide)⟩
theorem PC_21 {m : Mem} (h : PL m) : mT m 21 = 35 ∧ mN m 21 = 40 := ⟨(h.2.1 21 _ rfl).1, (h.2.1 21 _ rfl).2 (by decide)⟩
theorem PC_22 {m : Mem} (h : PL m) : mT m 22 = 7 ∧ True := ⟨(h.2.1 22 _ rfl).1, trivial⟩
theorem PC_23 {m : Mem} (h : PL m) : mT m 23 = 35 ∧ mN m 23 = 60 := ⟨(h.2.1 23 _ rfl).1, (h.2.1 23 _ rfl).2 (by decide)⟩
theorem PC_24 {m : Mem} (h : PL m) : mT m 24 = 36 ∧ mN m 24 = 30 := ⟨(h.2.1 24 _ rfl).1, (h.2.1 24 _ rfl).2 (by decide)⟩
theorem PC_25 {m : Mem} (h : PL m) : mT m 25 = 10 ∧ True := ⟨(h.2.1 25 _ rfl).1, trivial⟩
theorem PC_26 {m : Mem} (h : PL m) : mT m 26 = 32 ∧ mN m 26 = 12 := ⟨(h.2.1 26 _ rfl).1, (h.2.1 26 _ rfl).2 (by decide)⟩
theorem PC_27 {m : Mem} (h : PL m) : mT m 27 = 32 ∧ mN m 27 = 12 := ⟨(h.2.1 27 _ rfl).1, (h.2.1 27 _ rfl).2 (by decide)⟩
theorem PC_28 {m : Mem} (h : PL m) : mT m 28 = 9 ∧ True := ⟨(h.2.1 28 _ rfl).1, trivial⟩
theorem PC_29 {m : Mem} (h : PL m) : mT m 29 = 38 ∧ mN m 29 = 7 := ⟨(h.2.1 29 _ rfl).1, (h.2.1 29 _ rfl).2 (by decide)⟩
theorem PC_30 {m : Mem} (h : PL m) : mT m 30 = 32 ∧ mN m 30 = 48 := ⟨(h.2.1 30 _ rfl).1, (h.2.1 30 _ rfl).2 (by decide)⟩
theorem PC_31 {m : Mem} (h : PL m) : mT m 31 = 32 ∧ mN m 31 = 48 := ⟨(h.2.1 31 _ rfl).1, (h.2.1 31 _ rfl).2 (by decide)⟩
theorem PC_32 {m : Mem} (h : PL m) : mT m 32 = 32 ∧ mN m 32 = 48 := ⟨(h.2.1 32 _ rfl).1, (h.2.1 32 _ rfl).2 (by decide)⟩
theorem PC_33 {m : Mem} (h : PL m) : mT m 33 = 37 ∧ mN m 33 = 48 := ⟨(h.2.1 33 _ rfl).1, (h.2.1 33 _ rfl).2 (by decide)⟩
theorem PC_34 {m : Mem} (h : PL m) : mT m 34 = 32 ∧ mN m 34 = 48 := ⟨(h.2.1 34 _ rfl).1, (h.2.1 34 _ rfl).2 (by decide)⟩
theorem PC_35 {m : Mem} (h : PL m) : mT m 35 = 37 ∧ mN m 35 = 48 := ⟨(h.2.1 35 _ rfl).1, (h.2.1 35 _ rfl).2 (by decide)⟩
theorem PC_36 {m : Mem} (h : PL m) : mT m 36 = 32 ∧ mN m 36 = 48 := ⟨(h.2.1 36 _ rfl).1, (h.2.1 36 _ rfl).2 (by decide)⟩
theorem PC_37 {m : Mem} (h : PL m) : mT m 37 = 37 ∧ mN m 37 = 48 := ⟨(h.2.1 37 _ rfl).1, (h.2.1 37 _ rfl).2 (by decide)⟩
theorem PC_38 {m : Mem} (h : PL m) : mT m 38 = 32 ∧ mN m 38 = 48 := ⟨(h.2.1 38 _ rfl).1, (h.2.1 38 _ rfl).2 (by decide)⟩
theorem PC_39 {m : Mem} (h : PL m) : mT m 39 = 32 ∧ mN m 39 = 12 := ⟨(h.2.1 39 _ rfl).1, (h.2.1 39 _ rfl).2 (by decide)⟩
theorem PC_40 {m : Mem} (h : PL m) : mT m 40 = 32 ∧ mN m 40 = 60 := ⟨(h.2.1 40 _ rfl).1, (h.2.1 40 _ rfl).2 (by decide)⟩
theorem PC_41 {m : Mem} (h : PL m) : mT m 41 = 8 ∧ True := ⟨(h.2.1 41 _ rfl).1, trivial⟩
theorem PC_42 {m : Mem} (h : PL m) : mT m 42 = 32 ∧ mN m 42 = 16 := ⟨(h.2.1 42 _ rfl).1, (h.2.1 42 _ rfl).2 (by decide)⟩
theorem PC_43 {m : Mem} (h : PL m) : mT m 43 = 32 ∧ mN m 43 = 16 := ⟨(h.2.1 43 _ rfl).1, (h.2.1 43 _ rfl).2 (by decide)⟩
theorem PC_44 {m : Mem} (h : PL m) : mT m 44 = 32 ∧ mN m 44 = 16 := ⟨(h.2.1 44 _ rfl).1, (h.2.1 44 _ rfl).2 (by decide)⟩
theorem PC_45 {m : Mem} (h : PL m) : mT m 45 = 32 ∧ mN m 45 = 16 := ⟨(h.2.1 45 _ rfl).1, (h.2.1 45 _ rfl).2 (by decide)⟩
theorem PC_46 {m : Mem} (h : PL m) : mT m 46 = 32 ∧ mN m 46 = 7 := ⟨(h.2.1 46 _ rfl).1, (h.2.1 46 _ rfl).2 (by decide)⟩
theorem PC_47 {m : Mem} (h : PL m) : mT m 47 = 32 ∧ mN m 47 = 7 := ⟨(h.2.1 47 _ rfl).1, (h.2.1 47 _ rfl).2 (by decide)⟩
theorem PC_48 {m : Mem} (h : PL m) : mT m 48 = 32 ∧ mN m 48 = 7 := ⟨(h.2.1 48 _ rfl).1, (h.2.1 48 _ rfl).2 (by decide)⟩
theorem PC_49 {m : Mem} (h : PL m) : mT m 49 = 32 ∧ mN m 49 = 7 := ⟨(h.2.1 49 _ rfl).1, (h.2.1 49 _ rfl).2 (by decide)⟩
theorem PC_50 {m : Mem} (h : PL m) : mT m 50 = 32 ∧ mN m 50 = 7 := ⟨(h.2.1 50 _ rfl).1, (h.2.1 50 _ rfl).2 (by decide)⟩
theorem PR_133_1 {m : Mem} (h : PL m) : mR m 133 1 = some 2 := h.2.2 0 _ rfl
theorem PR_135_1 {m : Mem} (h : PL m) : mR m 135 1 = some 3 := h.2.2 1 _ rfl
theorem PR_137_1 {m : Mem} (h : PL m) : mR m 137 1 = some 4 := h.2.2 2 _ rfl
theorem PR_387_5 {m : Mem} (h : PL m) : mR m 387 5 = some 6 := h.2.2 3 _ rfl
theorem PR_388_5 {m : Mem} (h : PL m) : mR m 388 5 = some 7 := h.2.2 4 _ rfl
theorem PR_389_5 {m : Mem} (h : PL m) : mR m 389 5 = some 8 := h.2.2 5 _ rfl
theorem PR_390_5 {m : Mem} (h : PL m) : mR m 390 5 = some 9 := h.2.2 6 _ rfl
theorem PR_391_5 {m : Mem} (h : PL m) : mR m 391 5 = some 10 := h.2.2 7 _ rfl
theorem PR_392_5 {m : Mem} (h : PL m) : mR m 392 5 = some 11 := h.2.2 8 _ rfl
theorem PR_393_5 {m : Mem} (h : PL m) : mR m 393 5 = some 12 := h.2.2 9 _ rfl
theorem PR_512_13 {m : Mem} (h : PL m) : mR m 512 13 = some 14 := h.2.2 10 _ rfl
theorem PR_513_13 {m : Mem} (h : PL m) : mR m 513 13 = some 15 := h.2.2 11 _ rfl
theorem PR_640_16 {m : Mem} (h : PL m) : mR m 640 16 = some 17 := h.2.2 12 _ rfl
theorem PR_642_16 {m : Mem} (h : PL m) : mR m 642 16 = some 18 := h.2.2 13 _ rfl
theorem PR_643_16 {m : Mem} (h : PL m) : mR m 643 16 = some 19 := h.2.2 14 _ rfl
theorem PR_644_16 {m : Mem} (h : PL m) : mR m 644 16 = some 20 := h.2.2 15 _ rfl
theorem PR_645_16 {m : Mem} (h : PL m) : mR m 645 16 = some 21 := h.2.2 16 _ rfl
theorem PR_768_22 {m : Mem} (h : PL m) : mR m 768 22 = some 16 := h.2.2 17 _ rfl
theorem PR_769_22 {m : Mem} (h : PL m) : mR m 769 22 = some 13 := h.2.2 18 _ rfl
theorem PR_770_22 {m : Mem} (h : PL m) : mR m 770 22 = some 23 := h.2.2 19 _ rfl
theorem PR_775_22 {m : Mem} (h : PL m) : mR m 775 22 = some 1 := h.2.2 20 _ rfl
theorem PR_781_22 {m : Mem} (h : PL m) : mR m 781 22 = some 24 := h.2.2 21 _ rfl
theorem PR_896_41 {m : Mem} (h : PL m) : mR m 896 41 = some 42 := h.2.2 22 _ rfl
theorem PR_897_41 {m : Mem} (h : PL m) : mR m 897 41 = some 43 := h.2.2 23 _ rfl
theorem PR_898_41 {m : Mem} (h : PL m) : mR m 898 41 = some 44 := h.2.2 24 _ rfl
theorem PR_899_41 {m : Mem} (h : PL m) : mR m 899 41 = some 45 := h.2.2 25 _ rfl
theorem PR_900_41 {m : Mem} (h : PL m) : mR m 900 41 = some 46 := h.2.2 26 _ rfl
theorem PR_902_41 {m : Mem} (h : PL m) : mR m 902 41 = some 47 := h.2.2 27 _ rfl
theorem PR_903_41 {m : Mem} (h : PL m) : mR m 903 41 = some 48 := h.2.2 28 _ rfl
theorem PR_904_41 {m : Mem} (h : PL m) : mR m 904 41 = some 49 := h.2.2 29 _ rfl
theorem PR_905_41 {m : Mem} (h : PL m) : mR m 905 41 = some 50 := h.2.2 30 _ rfl
theorem PR_1024_28 {m : Mem} (h : PL m) : mR m 1024 28 = some 13 := h.2.2 31 _ rfl
theorem PR_1025_28 {m : Mem} (h : PL m) : mR m 1025 28 = some 25 := h.2.2 32 _ rfl
theorem PR_1029_28 {m : Mem} (h : PL m) : mR m 1029 28 = some 29 := h.2.2 33 _ rfl
theorem PR_1030_28 {m : Mem} (h : PL m) : mR m 1030 28 = some 30 := h.2.2 34 _ rfl
theorem PR_1031_28 {m : Mem} (h : PL m) : mR m 1031 28 = some 31 := h.2.2 35 _ rfl
theorem PR_1033_28 {m : Mem} (h : PL m) : mR m 1033 28 = some 32 := h.2.2 36 _ rfl
theorem PR_1034_28 {m : Mem} (h : PL m) : mR m 1034 28 = some 33 := h.2.2 37 _ rfl
theorem PR_1035_28 {m : Mem} (h : PL m) : mR m 1035 28 = some 34 := h.2.2 38 _ rfl
theorem PR_1036_28 {m : Mem} (h : PL m) : mR m 1036 28 = some 35 := h.2.2 39 _ rfl
theorem PR_1037_28 {m : Mem} (h : PL m) : mR m 1037 28 = some 36 := h.2.2 40 _ rfl
theorem PR_1038_28 {m : Mem} (h : PL m) : mR m 1038 28 = some 37 := h.2.2 41 _ rfl
theorem PR_1039_28 {m : Mem} (h : PL m) : mR m 1039 28 = some 38 := h.2.2 42 _ rfl
theorem PR_1040_28 {m : Mem} (h : PL m) : mR m 1040 28 = some 39 := h.2.2 43 _ rfl
theorem PR_1042_28 {m : Mem} (h : PL m) : mR m 1042 28 = some 40 := h.2.2 44 _ rfl
theorem PR_1152_25 {m : Mem} (h : PL m) : mR m 1152 25 = some 5 := h.2.2 45 _ rfl
theorem PR_1153_25 {m : Mem} (h : PL m) : mR m 1153 25 = some 13 := h.2.2 46 _ rfl
theorem PR_1154_25 {m : Mem} (h : PL m) : mR m 1154 25 = some 1 := h.2.2 47 _ rfl
theorem PR_1155_25 {m : Mem} (h : PL m) : mR m 1155 25 = some 26 := h.2.2 48 _ rfl
theorem PR_1156_25 {m : Mem} (h : PL m) : mR m 1156 25 = some 27 := h.2.2 49 _ rfl
theorem PR_1408_0 {m : Mem} (h : PL m) : mR m 1408 0 = some 5 := h.2.2 50 _ rfl
theorem PR_1409_0 {m : Mem} (h : PL m) : mR m 1409 0 = some 13 := h.2.2 51 _ rfl
theorem PR_1410_0 {m : Mem} (h : PL m) : mR m 1410 0 = some 16 := h.2.2 52 _ rfl
theorem PR_1411_0 {m : Mem} (h : PL m) : mR m 1411 0 = some 22 := h.2.2 53 _ rfl
theorem PR_1412_0 {m : Mem} (h : PL m) : mR m 1412 0 = some 25 := h.2.2 54 _ rfl
theorem PR_1413_0 {m : Mem} (h : PL m) : mR m 1413 0 = some 28 := h.2.2 55 _ rfl
theorem PR_1414_0 {m : Mem} (h : PL m) : mR m 1414 0 = some 41 := h.2.2 56 _ rfl
def R_cells : List (Nat × Nat × Nat) := [(0, 13, 0), (1, 33, 2000), (2, 33, 2000), (3, 32, 503), (4, 32, 503), (5, 32, 503), (6, 35, 503), (7, 35, 40), (8, 32, 25), (9, 32, 25), (10, 32, 25), (11, 32, 25), (12, 32, 25), (13, 32, 25), (14, 32, 25), (15, 32, 750), (16, 32, 750), (17, 32, 750), (18, 34, 750), (19, 32, 750), (20, 32, 750), (21, 32, 750), (22, 32, 750), (23, 32, 750), (24, 32, 750), (25, 32, 750), (26, 32, 3000), (27, 32, 5000), (28, 34, 5000), (29, 34, 5000), (30, 32, 5000), (31, 32, 5000), (32, 32, 5000), (33, 32, 12500), (34, 32, 12500), (35, 35, 600), (36, 32, 64), (37, 32, 8), (38, 32, 8), (39, 32, 10), (40, 32, 10), (41, 32, 10), (42, 32, 16), (43, 32, 4), (44, 32, 160), (45, 32, 160), (46, 32, 160), (47, 32, 160), (48, 32, 160), (49, 32, 7680), (50, 32, 12), (51, 32, 500), (52, 34, 24), (53, 32, 24), (54, 32, 1536), (55, 32, 1536), (56, 32, 24), (57, 32, 24), (58, 32, 720), (59, 32, 1536), (60, 32, 48), (61, 32, 48), (62, 32, 48), (63, 32, 48), (64, 32, 48), (65, 32, 48), (66, 32, 48), (67, 32, 48), (68, 34, 24), (69, 32, 1536), (70, 32, 64), (71, 32, 64), (72, 35, 24), (73, 32, 16), (74, 34, 256), (75, 32, 16), (76, 32, 16), (77, 32, 7), (78, 32, 7), (79, 32, 7), (80, 32, 7), (81, 32, 7)]
def R_refs : List (Nat × Nat × Nat) := [(1537, 0, 1), (1539, 0, 2), (1541, 0, 3), (1542, 0, 4), (1543, 0, 5), (1544, 0, 6), (1545, 0, 7), (1555, 0, 8), (1556, 0, 9), (1557, 0, 10), (1558, 0, 11), (1559, 0, 12), (1560, 0, 13), (1561, 0, 14), (1562, 0, 15), (1563, 0, 16), (1564, 0, 17), (1565, 0, 18), (1566, 0, 19), (1567, 0, 20), (1568, 0, 21), (1569, 0, 22), (1570, 0, 23), (1571, 0, 24), (1572, 0, 25), (1573, 0, 26), (1574, 0, 27), (1575, 0, 28), (1576, 0, 29), (1577, 0, 30), (1578, 0, 31), (1579, 0, 32), (1582, 0, 33), (1583, 0, 34), (1586, 0, 35), (1589, 0, 36), (1593, 0, 37), (1594, 0, 38), (1596, 0, 39), (1597, 0, 40), (1598, 0, 41), (1599, 0, 42), (1600, 0, 43), (1602, 0, 44), (1603, 0, 45), (1604, 0, 46), (1605, 0, 47), (1606, 0, 48), (1607, 0, 49), (1608, 0, 50), (1609, 0, 51), (1615, 0, 52), (1616, 0, 53), (1617, 0, 54), (1618, 0, 55), (1619, 0, 56), (1620, 0, 57), (1621, 0, 58), (1626, 0, 59), (1630, 0, 60), (1631, 0, 61), (1632, 0, 62), (1633, 0, 63), (1634, 0, 64), (1635, 0, 65), (1636, 0, 66), (1637, 0, 67), (1640, 0, 68), (1641, 0, 69), (1644, 0, 70), (1645, 0, 71), (1646, 0, 72), (1647, 0, 73), (1648, 0, 74), (1649, 0, 75), (1650, 0, 76), (1652, 0, 77), (1653, 0, 78), (1654, 0, 79), (1655, 0, 80), (1656, 0, 81)]
def RL (m : Mem) : Prop := (mC m = 82 ∧ mS m = 90179) ∧ (∀ (i : Nat) (q : Nat × Nat × Nat), R_cells[i]? = some q → mT m q.1 = q.2.1 ∧ (32 ≤ q.2.1 → mN m q.1 = q.2.2)) ∧ ∀ (i : Nat) (q : Nat × Nat × Nat), R_refs[i]? = some q → mR m q.1 q.2.1 = some q.2.2
theorem RC_0 {m : Mem} (h : RL m) : mT m 0 = 13 ∧ True := ⟨(h.2.1 0 _ rfl).1, trivial⟩
theorem RC_1 {m : Mem} (h : RL m) : mT m 1 = 33 ∧ mN m 1 = 2000 := ⟨(h.2.1 1 _ rfl).1, (h.2.1 1 _ rfl).2 (by decide)⟩
theorem RC_2 {m : Mem} (h : RL m) : mT m 2 = 33 ∧ mN m 2 = 2000 := ⟨(h.2.1 2 _ rfl).1, (h.2.1 2 _ rfl).2 (by decide)⟩
theorem RC_3 {m : Mem} (h : RL m) : mT m 3 = 32 ∧ mN m 3 = 503 := ⟨(h.2.1 3 _ rfl).1, (h.2.1 3 _ rfl).2 (by decide)⟩
theorem RC_4 {m : Mem} (h : RL m) : mT m 4 = 32 ∧ mN m 4 = 503 := ⟨(h.2.1 4 _ rfl).1, (h.2.1 4 _ rfl).2 (by decide)⟩
theorem RC_5 {m : Mem} (h : RL m) : mT m 5 = 32 ∧ mN m 5 = 503 := ⟨(h.2.1 5 _ rfl).1, (h.2.1 5 _ rfl).2 (by decide)⟩
theorem RC_6 {m : Mem} (h : RL m) : mT m 6 = 35 ∧ mN m 6 = 503 := ⟨(h.2.1 6 _ rfl).1, (h.2.1 6 _ rfl).2 (by decide)⟩
theorem RC_7 {m : Mem} (h : RL m) : mT m 7 = 35 ∧ mN m 7 = 40 := ⟨(h.2.1 7 _ rfl).1, (h.2.1 7 _ rfl).2 (by decide)⟩
theorem RC_8 {m : Mem} (h : RL m) : mT m 8 = 32 ∧ mN m 8 = 25 := ⟨(h.2.1 8 _ rfl).1, (h.2.1 8 _ rfl).2 (by decide)⟩
theorem RC_9 {m : Mem} (h : RL m) : mT m 9 = 32 ∧ mN m 9 = 25 := ⟨(h.2.1 9 _ rfl).1, (h.2.1 9 _ rfl).2 (by decide)⟩
theorem RC_10 {m : Mem} (h : RL m) : mT m 10 = 32 ∧ mN m 10 = 25 := ⟨(h.2.1 10 _ rfl).1, (h.2.1 10 _ rfl).2 (by decide)⟩
theorem RC_11 {m : Mem} (h : RL m) : mT m 11 = 32 ∧ mN m 11 = 25 := ⟨(h.2.1 11 _ rfl).1, (h.2.1 11 _ rfl).2 (by decide)⟩
theorem RC_12 {m : Mem} (h : RL m) : mT m 12 = 32 ∧ mN m 12 = 25 := ⟨(h.2.1 12 _ rfl).1, (h.2.1 12 _ rfl).2 (by decide)⟩
theorem RC_13 {m : Mem} (h : RL m) : mT m 13 = 32 ∧ mN m 13 = 25 := ⟨(h.2.1 13 _ rfl).1, (h.2.1 13 _ rfl).2 (by decide)⟩
theorem RC_14 {m : Mem} (h : RL m) : mT m 14 = 32 ∧ mN m 14 = 25 := ⟨(h.2.1 14 _ rfl).1, (h.2.1 14 _ rfl).2 (by decide)⟩
theorem RC_15 {m : Mem} (h : RL m) : mT m 15 = 32 ∧ mN m 15 = 750 := ⟨(h.2.1 15 _ rfl).1, (h.2.1 15 _ rfl).2 (by decide)⟩
theorem RC_16 {m : Mem} (h : RL m) : mT m 16 = 32 ∧ mN m 16 = 750 := ⟨(h.2.1 16 _ rfl).1, (h.2.1 16 _ rfl).2 (by decide)⟩
theorem RC_17 {m : Mem} (h : RL m) : mT m 17 = 32 ∧ mN m 17 = 750 := ⟨(h.2.1 17 _ rfl).1, (h.2.1 17 _ rfl).2 (by decide)⟩
theorem RC_18 {m : Mem} (h : RL m) : mT m 18 = 34 ∧ mN m 18 = 750 := ⟨(h.2.1 18 _ rfl).1, (h.2.1 18 _ rfl).2 (by decide)⟩
theorem RC_19 {m : Mem} (h : RL m) : mT m 19 = 32 ∧ mN m 19 = 750 := ⟨(h.2.1 19 _ rfl).1, (h.2.1 19 _ rfl).2 (by decide)⟩
theorem RC_20 {m : Mem} (h : RL m) : mT m 20 = 32 ∧ mN m 20 = 750 := ⟨(h.2.1 20 _ rfl).1, (h.2.1 20 _ rfl).2 (by decide)⟩
theorem RC_21 {m : Mem} (h : RL m) : mT m 21 = 32 ∧ mN m 21 = 750 := ⟨(h.2.1 21 _ rfl).1, (h.2.1 21 _ rfl).2 (by decide)⟩
theorem RC_22 {m : Mem} (h : RL m) : mT m 22 = 32 ∧ mN m 22 = 750 := ⟨(h.2.1 22 _ rfl).1, (h.2.1 22 _ rfl).2 (by decide)⟩
theorem RC_23 {m : Mem} (h : RL m) : mT m 23 = 32 ∧ mN m 23 = 750 := ⟨(h.2.1 23 _ rfl).1, (h.2.1 23 _ rfl).2 (by decide)⟩
theorem RC_24 {m : Mem} (h : RL m) : mT m 24 = 32 ∧ mN m 24 = 750 := ⟨(h.2.1 24 _ rfl).1, (h.2.1 24 _ rfl).2 (by decide)⟩
theorem RC_25 {m : Mem} (h : RL m) : mT m 25 = 32 ∧ mN m 25 = 750 := ⟨(h.2.1 25 _ rfl).1, (h.2.1 25 _ rfl).2 (by decide)⟩
theorem RC_26 {m : Mem} (h : RL m) : mT m 26 = 32 ∧ mN m 26 = 3000 := ⟨(h.2.1 26 _ rfl).1, (h.2.1 26 _ rfl).2 (by decide)⟩
theorem RC_27 {m : Mem} (h : RL m) : mT m 27 = 32 ∧ mN m 27 = 5000 := ⟨(h.2.1 27 _ rfl).1, (h.2.1 27 _ rfl).2 (by decide)⟩
theorem RC_28 {m : Mem} (h : RL m) : mT m 28 = 34 ∧ mN m 28 = 5000 := ⟨(h.2.1 28 _ rfl).1, (h.2.1 28 _ rfl).2 (by decide)⟩
theorem RC_29 {m : Mem} (h : RL m) : mT m 29 = 34 ∧ mN m 29 = 5000 := ⟨(h.2.1 29 _ rfl).1, (h.2.1 29 _ rfl).2 (by decide)⟩
theorem RC_30 {m : Mem} (h : RL m) : mT m 30 = 32 ∧ mN m 30 = 5000 := ⟨(h.2.1 30 _ rfl).1, (h.2.1 30 _ rfl).2 (by decide)⟩
theorem RC_31 {m : Mem} (h : RL m) : mT m 31 = 32 ∧ mN m 31 = 5000 := ⟨(h.2.1 31 _ rfl).1, (h.2.1 31 _ rfl).2 (by decide)⟩
theorem RC_32 {m : Mem} (h : RL m) : mT m 32 = 32 ∧ mN m 32 = 5000 := ⟨(h.2.1 32 _ rfl).1, (h.2.1 32 _ rfl).2 (by decide)⟩
theorem RC_33 {m : Mem} (h : RL m) : mT m 33 = 32 ∧ mN m 33 = 12500 := ⟨(h.2.1 33 _ rfl).1, (h.2.1 33 _ rfl).2 (by decide)⟩
theorem RC_34 {m : Mem} (h : RL m) : mT m 34 = 32 ∧ mN m 34 = 12500 := ⟨(h.2.1 34 _ rfl).1, (h.2.1 34 _ rfl).2 (by decide)⟩
theorem RC_35 {m : Mem} (h : RL m) : mT m 35 = 35 ∧ mN m 35 = 600 := ⟨(h.2.1 35 _ rfl).1, (h.2.1 35 _ rfl).2 (by decide)⟩
theorem RC_36 {m : Mem} (h : RL m) : mT m 36 = 32 ∧ mN m 36 = 64 := ⟨(h.2.1 36 _ rfl).1, (h.2.1 36 _ rfl).2 (by decide)⟩
theorem RC_37 {m : Mem} (h : RL m) : mT m 37 = 32 ∧ mN m 37 = 8 := ⟨(h.2.1 37 _ rfl).1, (h.2.1 37 _ rfl).2 (by decide)⟩
theorem RC_38 {m : Mem} (h : RL m) : mT m 38 = 32 ∧ mN m 38 = 8 := ⟨(h.2.1 38 _ rfl).1, (h.2.1 38 _ rfl).2 (by decide)⟩
theorem RC_39 {m : Mem} (h : RL m) : mT m 39 = 32 ∧ mN m 39 = 10 := ⟨(h.2.1 39 _ rfl).1, (h.2.1 39 _ rfl).2 (by decide)⟩
theorem RC_40 {m : Mem} (h : RL m) : mT m 40 = 32 ∧ mN m 40 = 10 := ⟨(h.2.1 40 _ rfl).1, (h.2.1 40 _ rfl).2 (by decide)⟩
theorem RC_41 {m : Mem} (h : RL m) : mT m 41 = 32 ∧ mN m 41 = 10 := ⟨(h.2.1 41 _ rfl).1, (h.2.1 41 _ rfl).2 (by decide)⟩
theorem RC_42 {m : Mem} (h : RL m) : mT m 42 = 32 ∧ mN m 42 = 16 := ⟨(h.2.1 42 _ rfl).1, (h.2.1 42 _ rfl).2 (by decide)⟩
theorem RC_43 {m : Mem} (h : RL m) : mT m 43 = 32 ∧ mN m 43 = 4 := ⟨(h.2.1 43 _ rfl).1, (h.2.1 43 _ rfl).2 (by decide)⟩
theorem RC_44 {m : Mem} (h : RL m) : mT m 44 = 32 ∧ mN m 44 = 160 := ⟨(h.2.1 44 _ rfl).1, (h.2.1 44 _ rfl).2 (by decide)⟩
theorem RC_45 {m : Mem} (h : RL m) : mT m 45 = 32 ∧ mN m 45 = 160 := ⟨(h.2.1 45 _ rfl).1, (h.2.1 45 _ rfl).2 (by decide)⟩
theorem RC_46 {m : Mem} (h : RL m) : mT m 46 = 32 ∧ mN m 46 = 160 := ⟨(h.2.1 46 _ rfl).1, (h.2.1 46 _ rfl).2 (by decide)⟩
theorem RC_47 {m : Mem} (h : RL m) : mT m 47 = 32 ∧ mN m 47 = 160 := ⟨(h.2.1 47 _ rfl).1, (h.2.1 47 _ rfl).2 (by decide)⟩
theorem RC_48 {m : Mem} (h : RL m) : mT m 48 = 32 ∧ mN m 48 = 160 := ⟨(h.2.1 48 _ rfl).1, (h.2.1 48 _ rfl).2 (by decide)⟩
theorem RC_49 {m : Mem} (h : RL m) : mT m 49 = 32 ∧ mN m 49 = 7680 := ⟨(h.2.1 49 _ rfl).1, (h.2.1 49 _ rfl).2 (by decide)⟩
theorem RC_50 {m : Mem} (h : RL m) : mT m 50 = 32 ∧ mN m 50 = 12 := ⟨(h.2.1 50 _ rfl).1, (h.2.1 50 _ rfl).2 (by decide)⟩
theorem RC_51 {m : Mem} (h : RL m) : mT m 51 = 32 ∧ mN m 51 = 500 := ⟨(h.2.1 51 _ rfl).1, (h.2.1 51 _ rfl).2 (by decide)⟩
theorem RC_52 {m : Mem} (h : RL m) : mT m 52 = 34 ∧ mN m 52 = 24 := ⟨(h.2.1 52 _ rfl).1, (h.2.1 52 _ rfl).2 (by decide)⟩
theorem RC_53 {m : Mem} (h : RL m) : mT m 53 = 32 ∧ mN m 53 = 24 := ⟨(h.2.1 53 _ rfl).1, (h.2.1 53 _ rfl).2 (by decide)⟩
theorem RC_54 {m : Mem} (h : RL m) : mT m 54 = 32 ∧ mN m 54 = 1536 := ⟨(h.2.1 54 _ rfl).1, (h.2.1 54 _ rfl).2 (by decide)⟩
theorem RC_55 {m : Mem} (h : RL m) : mT m 55 = 32 ∧ mN m 55 = 1536 := ⟨(h.2.1 55 _ rfl).1, (h.2.1 55 _ rfl).2 (by decide)⟩
theorem RC_56 {m : Mem} (h : RL m) : mT m 56 = 32 ∧ mN m 56 = 24 := ⟨(h.2.1 56 _ rfl).1, (h.2.1 56 _ rfl).2 (by decide)⟩
theorem RC_57 {m : Mem} (h : RL m) : mT m 57 = 32 ∧ mN m 57 = 24 := ⟨(h.2.1 57 _ rfl).1, (h.2.1 57 _ rfl).2 (by decide)⟩
theorem RC_58 {m : Mem} (h : RL m) : mT m 58 = 32 ∧ mN m 58 = 720 := ⟨(h.2.1 58 _ rfl).1, (h.2.1 58 _ rfl).2 (by decide)⟩
theorem RC_59 {m : Mem} (h : RL m) : mT m 59 = 32 ∧ mN m 59 = 1536 := ⟨(h.2.1 59 _ rfl).1, (h.2.1 59 _ rfl).2 (by decide)⟩
theorem RC_60 {m : Mem} (h : RL m) : mT m 60 = 32 ∧ mN m 60 = 48 := ⟨(h.2.1 60 _ rfl).1, (h.2.1 60 _ rfl).2 (by decide)⟩
theorem RC_61 {m : Mem} (h : RL m) : mT m 61 = 32 ∧ mN m 61 = 48 := ⟨(h.2.1 61 _ rfl).1, (h.2.1 61 _ rfl).2 (by decide)⟩
theorem RC_62 {m : Mem} (h : RL m) : mT m 62 = 32 ∧ mN m 62 = 48 := ⟨(h.2.1 62 _ rfl).1, (h.2.1 62 _ rfl).2 (by decide)⟩
theorem RC_63 {m : Mem} (h : RL m) : mT m 63 = 32 ∧ mN m 63 = 48 := ⟨(h.2.1 63 _ rfl).1, (h.2.1 63 _ rfl).2 (by decide)⟩
theorem RC_64 {m : Mem} (h : RL m) : mT m 64 = 32 ∧ mN m 64 = 48 := ⟨(h.2.1 64 _ rfl).1, (h.2.1 64 _ rfl).2 (by decide)⟩
theorem RC_65 {m : Mem} (h : RL m) : mT m 65 = 32 ∧ mN m 65 = 48 := ⟨(h.2.1 65 _ rfl).1, (h.2.1 65 _ rfl).2 (by decide)⟩
theorem RC_66 {m : Mem} (h : RL m) : mT m 66 = 32 ∧ mN m 66 = 48 := ⟨(h.2.1 66 _ rfl).1, (h.2.1 66 _ rfl).2 (by decide)⟩
theorem RC_67 {m : Mem} (h : RL m) : mT m 67 = 32 ∧ mN m 67 = 48 := ⟨(h.2.1 67 _ rfl).1, (h.2.1 67 _ rfl).2 (by decide)⟩
theorem RC_68 {m : Mem} (h : RL m) : mT m 68 = 34 ∧ mN m 68 = 24 := ⟨(h.2.1 68 _ rfl).1, (h.2.1 68 _ rfl).2 (by decide)⟩
theorem RC_69 {m : Mem} (h : RL m) : mT m 69 = 32 ∧ mN m 69 = 1536 := ⟨(h.2.1 69 _ rfl).1, (h.2.1 69 _ rfl).2 (by decide)⟩
theorem RC_70 {m : Mem} (h : RL m) : mT m 70 = 32 ∧ mN m 70 = 64 := ⟨(h.2.1 70 _ rfl).1, (h.2.1 70 _ rfl).2 (by decide)⟩
theorem RC_71 {m : Mem} (h : RL m) : mT m 71 = 32 ∧ mN m 71 = 64 := ⟨(h.2.1 71 _ rfl).1, (h.2.1 71 _ rfl).2 (by decide)⟩
theorem RC_72 {m : Mem} (h : RL m) : mT m 72 = 35 ∧ mN m 72 = 24 := ⟨(h.2.1 72 _ rfl).1, (h.2.1 72 _ rfl).2 (by decide)⟩
theorem RC_73 {m : Mem} (h : RL m) : mT m 73 = 32 ∧ mN m 73 = 16 := ⟨(h.2.1 73 _ rfl).1, (h.2.1 73 _ rfl).2 (by decide)⟩
theorem RC_74 {m : Mem} (h : RL m) : mT m 74 = 34 ∧ mN m 74 = 256 := ⟨(h.2.1 74 _ rfl).1, (h.2.1 74 _ rfl).2 (by decide)⟩
theorem RC_75 {m : Mem} (h : RL m) : mT m 75 = 32 ∧ mN m 75 = 16 := ⟨(h.2.1 75 _ rfl).1, (h.2.1 75 _ rfl).2 (by decide)⟩
theorem RC_76 {m : Mem} (h : RL m) : mT m 76 = 32 ∧ mN m 76 = 16 := ⟨(h.2.1 76 _ rfl).1, (h.2.1 76 _ rfl).2 (by decide)⟩
theorem RC_77 {m : Mem} (h : RL m) : mT m 77 = 32 ∧ mN m 77 = 7 := ⟨(h.2.1 77 _ rfl).1, (h.2.1 77 _ rfl).2 (by decide)⟩
theorem RC_78 {m : Mem} (h : RL m) : mT m 78 = 32 ∧ mN m 78 = 7 := ⟨(h.2.1 78 _ rfl).1, (h.2.1 78 _ rfl).2 (by decide)⟩
theorem RC_79 {m : Mem} (h : RL m) : mT m 79 = 32 ∧ mN m 79 = 7 := ⟨(h.2.1 79 _ rfl).1, (h.2.1 79 _ rfl).2 (by decide)⟩
theorem RC_80 {m : Mem} (h : RL m) : mT m 80 = 32 ∧ mN m 80 = 7 := ⟨(h.2.1 80 _ rfl).1, (h.2.1 80 _ rfl).2 (by decide)⟩
theorem RC_81 {m : Mem} (h : RL m) : mT m 81 = 32 ∧ mN m 81 = 7 := ⟨(h.2.1 81 _ rfl).1, (h.2.1 81 _ rfl).2 (by decide)⟩
theorem RR_1537_0 {m : Mem} (h : RL m) : mR m 1537 0 = some 1 := h.2.2 0 _ rfl
theorem RR_1539_0 {m : Mem} (h : RL m) : mR m 1539 0 = some 2 := h.2.2 1 _ rfl
theorem RR_1541_0 {m : Mem} (h : RL m) : mR m 1541 0 = some 3 := h.2.2 2 _ rfl
theorem RR_1542_0 {m : Mem} (h : RL m) : mR m 1542 0 = some 4 := h.2.2 3 _ rfl
theorem RR_1543_0 {m : Mem} (h : RL m) : mR m 1543 0 = some 5 := h.2.2 4 _ rfl
theorem RR_1544_0 {m : Mem} (h : RL m) : mR m 1544 0 = some 6 := h.2.2 5 _ rfl
theorem RR_1545_0 {m : Mem} (h : RL m) : mR m 1545 0 = some 7 := h.2.2 6 _ rfl
theorem RR_1555_0 {m : Mem} (h : RL m) : mR m 1555 0 = some 8 := h.2.2 7 _ rfl
theorem RR_1556_0 {m : Mem} (h : RL m) : mR m 1556 0 = some 9 := h.2.2 8 _ rfl
theorem RR_1557_0 {m : Mem} (h : RL m) : mR m 1557 0 = some 10 := h.2.2 9 _ rfl
theorem RR_1558_0 {m : Mem} (h : RL m) : mR m 1558 0 = some 11 := h.2.2 10 _ rfl
theorem RR_1559_0 {m : Mem} (h : RL m) : mR m 1559 0 = some 12 := h.2.2 11 _ rfl
theorem RR_1560_0 {m : Mem} (h : RL m) : mR m 1560 0 = some 13 := h.2.2 12 _ rfl
theorem RR_1561_0 {m : Mem} (h : RL m) : mR m 1561 0 = some 14 := h.2.2 13 _ rfl
theorem RR_1562_0 {m : Mem} (h : RL m) : mR m 1562 0 = some 15 := h.2.2 14 _ rfl
theorem RR_1563_0 {m : Mem} (h : RL m) : mR m 1563 0 = some 16 := h.2.2 15 _ rfl
theorem RR_1564_0 {m : Mem} (h : RL m) : mR m 1564 0 = some 17 := h.2.2 16 _ rfl
theorem RR_1565_0 {m : Mem} (h : RL m) : mR m 1565 0 = some 18 := h.2.2 17 _ rfl
theorem RR_1566_0 {m : Mem} (h : RL m) : mR m 1566 0 = some 19 := h.2.2 18 _ rfl
theorem RR_1567_0 {m : Mem} (h : RL m) : mR m 1567 0 = some 20 := h.2.2 19 _ rfl
theorem RR_1568_0 {m : Mem} (h : RL m) : mR m 1568 0 = some 21 := h.2.2 20 _ rfl
theorem RR_1569_0 {m : Mem} (h : RL m) : mR m 1569 0 = some 22 := h.2.2 21 _ rfl
theorem RR_1570_0 {m : Mem} (h : RL m) : mR m 1570 0 = some 23 := h.2.2 22 _ rfl
theorem RR_1571_0 {m : Mem} (h : RL m) : mR m 1571 0 = some 24 := h.2.2 23 _ rfl
theorem RR_1572_0 {m : Mem} (h : RL m) : mR m 1572 0 = some 25 := h.2.2 24 _ rfl
theorem RR_1573_0 {m : Mem} (h : RL m) : mR m 1573 0 = some 26 := h.2.2 25 _ rfl
theorem RR_1574_0 {m : Mem} (h : RL m) : mR m 1574 0 = some 27 := h.2.2 26 _ rfl
theorem RR_1575_0 {m : Mem} (h : RL m) : mR m 1575 0 = some 28 := h.2.2 27 _ rfl
theorem RR_1576_0 {m : Mem} (h : RL m) : mR m 1576 0 = some 29 := h.2.2 28 _ rfl
theorem RR_1577_0 {m : Mem} (h : RL m) : mR m 1577 0 = some 30 := h.2.2 29 _ rfl
theorem RR_1578_0 {m : Mem} (h : RL m) : mR m 1578 0 = some 31 := h.2.2 30 _ rfl
theorem RR_1579_0 {m : Mem} (h : RL m) : mR m 1579 0 = some 32 := h.2.2 31 _ rfl
theorem RR_1582_0 {m : Mem} (h : RL m) : mR m 1582 0 = some 33 := h.2.2 32 _ rfl
theorem RR_1583_0 {m : Mem} (h : RL m) : mR m 1583 0 = some 34 := h.2.2 33 _ rfl
theorem RR_1586_0 {m : Mem} (h : RL m) : mR m 1586 0 = some 35 := h.2.2 34 _ rfl
theorem RR_1589_0 {m : Mem} (h : RL m) : mR m 1589 0 = some 36 := h.2.2 35 _ rfl
theorem RR_1593_0 {m : Mem} (h : RL m) : mR m 1593 0 = some 37 := h.2.2 36 _ rfl
theorem RR_1594_0 {m : Mem} (h : RL m) : mR m 1594 0 = some 38 := h.2.2 37 _ rfl
theorem RR_1596_0 {m : Mem} (h : RL m) : mR m 1596 0 = some 39 := h.2.2 38 _ rfl
theorem RR_1597_0 {m : Mem} (h : RL m) : mR m 1597 0 = some 40 := h.2.2 39 _ rfl
theorem RR_1598_0 {m : Mem} (h : RL m) : mR m 1598 0 = some 41 := h.2.2 40 _ rfl
theorem RR_1599_0 {m : Mem} (h : RL m) : mR m 1599 0 = some 42 := h.2.2 41 _ rfl
theorem RR_1600_0 {m : Mem} (h : RL m) : mR m 1600 0 = some 43 := h.2.2 42 _ rfl
theorem RR_1602_0 {m : Mem} (h : RL m) : mR m 1602 0 = some 44 := h.2.2 43 _ rfl
theorem RR_1603_0 {m : Mem} (h : RL m) : mR m 1603 0 = some 45 := h.2.2 44 _ rfl
theorem RR_1604_0 {m : Mem} (h : RL m) : mR m 1604 0 = some 46 := h.2.2 45 _ rfl
theorem RR_1605_0 {m : Mem} (h : RL m) : mR m 1605 0 = some 47 := h.2.2 46 _ rfl
theorem RR_1606_0 {m : Mem} (h : RL m) : mR m 1606 0 = some 48 := h.2.2 47 _ rfl
theorem RR_1607_0 {m : Mem} (h : RL m) : mR m 1607 0 = some 49 := h.2.2 48 _ rfl
theorem RR_1608_0 {m : Mem} (h : RL m) : mR m 1608 0 = some 50 := h.2.2 49 _ rfl
theorem RR_1609_0 {m : Mem} (h : RL m) : mR m 1609 0 = some 51 := h.2.2 50 _ rfl
theorem RR_1615_0 {m : Mem} (h : RL m) : mR m 1615 0 = some 52 := h.2.2 51 _ rfl
theorem RR_1616_0 {m : Mem} (h : RL m) : mR m 1616 0 = some 53 := h.2.2 52 _ rfl
theorem RR_1617_0 {m : Mem} (h : RL m) : mR m 1617 0 = some 54 := h.2.2 53 _ rfl
theorem RR_1618_0 {m : Mem} (h : RL m) : mR m 1618 0 = some 55 := h.2.2 54 _ rfl
theorem RR_1619_0 {m : Mem} (h : RL m) : mR m 1619 0 = some 56 := h.2.2 55 _ rfl
theorem RR_1620_0 {m : Mem} (h : RL m) : mR m 1620 0 = some 57 := h.2.2 56 _ rfl
theorem RR_1621_0 {m : Mem} (h : RL m) : mR m 1621 0 = some 58 := h.2.2 57 _ rfl
theorem RR_1626_0 {m : Mem} (h : RL m) : mR m 1626 0 = some 59 := h.2.2 58 _ rfl
theorem RR_1630_0 {m : Mem} (h : RL m) : mR m 1630 0 = some 60 := h.2.2 59 _ rfl
theorem RR_1631_0 {m : Mem} (h : RL m) : mR m 1631 0 = some 61 := h.2.2 60 _ rfl
theorem RR_1632_0 {m : Mem} (h : RL m) : mR m 1632 0 = some 62 := h.2.2 61 _ rfl
theorem RR_1633_0 {m : Mem} (h : RL m) : mR m 1633 0 = some 63 := h.2.2 62 _ rfl
theorem RR_1634_0 {m : Mem} (h : RL m) : mR m 1634 0 = some 64 := h.2.2 63 _ rfl
theorem RR_1635_0 {m : Mem} (h : RL m) : mR m 1635 0 = some 65 := h.2.2 64 _ rfl
theorem RR_1636_0 {m : Mem} (h : RL m) : mR m 1636 0 = some 66 := h.2.2 65 _ rfl
theorem RR_1637_0 {m : Mem} (h : RL m) : mR m 1637 0 = some 67 := h.2.2 66 _ rfl
theorem RR_1640_0 {m : Mem} (h : RL m) : mR m 1640 0 = some 68 := h.2.2 67 _ rfl
theorem RR_1641_0 {m : Mem} (h : RL m) : mR m 1641 0 = some 69 := h.2.2 68 _ rfl
theorem RR_1644_0 {m : Mem} (h : RL m) : mR m 1644 0 = some 70 := h.2.2 69 _ rfl
theorem RR_1645_0 {m : Mem} (h : RL m) : mR m 1645 0 = some 71 := h.2.2 70 _ rfl
theorem RR_1646_0 {m : Mem} (h : RL m) : mR m 1646 0 = some 72 := h.2.2 71 _ rfl
theorem RR_1647_0 {m : Mem} (h : RL m) : mR m 1647 0 = some 73 := h.2.2 72 _ rfl
theorem RR_1648_0 {m : Mem} (h : RL m) : mR m 1648 0 = some 74 := h.2.2 73 _ rfl
theorem RR_1649_0 {m : Mem} (h : RL m) : mR m 1649 0 = some 75 := h.2.2 74 _ rfl
theorem RR_1650_0 {m : Mem} (h : RL m) : mR m 1650 0 = some 76 := h.2.2 75 _ rfl
theorem RR_1652_0 {m : Mem} (h : RL m) : mR m 1652 0 = some 77 := h.2.2 76 _ rfl
theorem RR_1653_0 {m : Mem} (h : RL m) : mR m 1653 0 = some 78 := h.2.2 77 _ rfl
theorem RR_1654_0 {m : Mem} (h : RL m) : mR m 1654 0 = some 79 := h.2.2 78 _ rfl
theorem RR_1655_0 {m : Mem} (h : RL m) : mR m 1655 0 = some 80 := h.2.2 79 _ rfl
theorem RR_1656_0 {m : Mem} (h : RL m) : mR m 1656 0 = some 81 := h.2.2 80 _ rfl
theorem ai {a b c : Prop} (f : a → b) (h : a ∧ c) : b ∧ c := ⟨f h.1, h.2⟩
/-- tags, lengths, reference fields and counts stay -/
def Kp (m m' : Mem) : Prop := mT m' = mT m ∧ mN m' = mN m ∧ mR m' = mR m ∧ mC m' = mC m ∧ aR m' = aR m
theorem kp_step {m m1 m2 : Mem} (h : Kp m m1) (h2 : Kp m1 m2) : Kp m m2 := ⟨h2.1.trans h.1, h2.2.1.trans h.2.1, h2.2.2.1.trans h.2.2.1, h2.2.2.2.1.trans h.2.2.2.1, h2.2.2.2.2.trans h.2.2.2.2⟩
theorem kp_on {A : Prop} {m m1 m2 : Mem} (h : Kp m m1) (h2 : A ∧ Kp m1 m2) : A ∧ Kp m m2 := ⟨h2.1, kp_step h h2.2⟩
theorem PL.kp {m m1 : Mem} (h : PL m) (k : Kp m m1) : PL m1 := by
  obtain ⟨a, b, c, d, -⟩ := k
  unfold PL
  rw [a, b, c, d]
  exact h
theorem PL.sR {m : Mem} {f a : Nat} {v : Option Nat} (hf : (P_refs.all fun q => q.1 != f) = true) (h : PL m) : PL (sR m f a v) := by
  refine ⟨h.1, h.2.1, fun i q hq => ?_⟩
  have h1 := List.all_eq_true.mp hf q (List.mem_of_getElem? hq)
  have h2 : q.1 ≠ f := by simpa using h1
  show up2 (mR m) f a v q.1 q.2.1 = _
  rw [up2_ne (fun z => h2 z.1)]
  exact h.2.2 i q hq
theorem PL.nw {m : Mem} {t n z : Nat} (h : PL m) : PL (nw m t n z) := by
  refine ⟨Nat.le_succ_of_le h.1, fun i q hq => ?_, fun i q hq => by
    have hall : (P_refs.all fun q => decide (q.2.1 < 51)) = true := by decide
    have h2 := of_decide_eq_true (List.all_eq_true.mp hall q (List.mem_of_getElem? hq))
    have h3 := h.1
    exact (zF_ne (by omega)).trans (h.2.2 i q hq)⟩
  have h1 := h.2.1 i q hq
  have h2 : q.1 < 51 := by
    have hall : (P_cells.all fun q => decide (q.1 < 51)) = true := by decide
    exact of_decide_eq_true (List.all_eq_true.mp hall q (List.mem_of_getElem? hq))
  have h3 := h.1
  refine ⟨(up1_ne (by omega)).trans h1.1, fun z => (up1_ne (by omega)).trans (h1.2 z)⟩
