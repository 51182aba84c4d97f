/-! Layer D: what the law's code links -/
theorem lc_L_13 : lkV "WageCourtLaw" 13 k_P_feed 11 := ⟨by decide, ⟨_, _, rfl⟩, (gb_3 (i := 21) rfl rfl), (gb_3 (i := 22) rfl rfl), (gb_3 (i := 23) rfl rfl)⟩
theorem mo_P_feed : mOk k_P_feed 5 := ⟨(gb_3 (i := 24) rfl rfl), (gb_1 (i := 1) rfl rfl), by decide, by decide, by decide, by decide +kernel⟩
theorem lc_L_17 : lkV "WageCourtLaw" 17 k_R_feed 12 := ⟨by decide, ⟨_, _, rfl⟩, (gb_8 (i := 139) rfl rfl), (gb_8 (i := 140) rfl rfl), (gb_8 (i := 141) rfl rfl)⟩
theorem mo_R_feed : mOk k_R_feed 5 := ⟨(gb_8 (i := 142) rfl rfl), (gb_1 (i := 15) rfl rfl), by decide, by decide, by decide, by decide +kernel⟩
theorem lc_L_18 : lkV "WageCourtLaw" 18 k_P_back 11 := ⟨by decide, ⟨_, _, rfl⟩, (gb_3 (i := 29) rfl rfl), (gb_3 (i := 30) rfl rfl), (gb_3 (i := 31) rfl rfl)⟩
theorem mo_P_back : mOk k_P_back 1 := ⟨(gb_3 (i := 32) rfl rfl), (gb_1 (i := 1) rfl rfl), by decide, by decide, by decide, by decide +kernel⟩
theorem lc_L_22 : lkV "WageCourtLaw" 22 k_R_back 12 := ⟨by decide, ⟨_, _, rfl⟩, (gb_8 (i := 147) rfl rfl), (gb_8 (i := 148) rfl rfl), (gb_8 (i := 149) rfl rfl)⟩
theorem mo_R_back : mOk k_R_back 1 := ⟨(gb_8 (i := 150) rfl rfl), (gb_1 (i := 15) rfl rfl), by decide, by decide, by decide, by decide +kernel⟩
theorem lc_L_23 : lkV "WageCourtLaw" 23 k_P_read 11 := ⟨by decide, ⟨_, _, rfl⟩, (gb_3 (i := 33) rfl rfl), (gb_3 (i := 34) rfl rfl), (gb_3 (i := 35) rfl rfl)⟩
theorem mo_P_read : mOk k_P_read 0 := ⟨(gb_3 (i := 36) rfl rfl), (gb_1 (i := 1) rfl rfl), by decide, by decide, by decide, by decide +kernel⟩
theorem lc_L_27 : lkV "WageCourtLaw" 27 k_R_read 12 := ⟨by decide, ⟨_, _, rfl⟩, (gb_8 (i := 151) rfl rfl), (gb_8 (i := 152) rfl rfl), (gb_8 (i := 153) rfl rfl)⟩
theorem mo_R_read : mOk k_R_read 0 := ⟨(gb_8 (i := 154) rfl rfl), (gb_1 (i := 15) rfl rfl), by decide, by decide, by decide, by decide +kernel⟩
theorem lc_L_28 : lkV "WageCourtLaw" 28 k_P_place 11 := ⟨by decide, ⟨_, _, rfl⟩, (gb_4 (i := 202) rfl rfl), (gb_4 (i := 203) rfl rfl), (gb_4 (i := 204) rfl rfl)⟩
theorem mo_P_place : mOk k_P_place 0 := ⟨(gb_4 (i := 205) rfl rfl), (gb_1 (i := 1) rfl rfl), by decide, by decide, by decide, by decide +kernel⟩
theorem lc_L_31 : lkV "WageCourtLaw" 31 k_R_place 12 := ⟨by decide, ⟨_, _, rfl⟩, (gb_9 (i := 13) rfl rfl), (gb_9 (i := 14) rfl rfl), (gb_9 (i := 15) rfl rfl)⟩
theorem mo_R_place : mOk k_R_place 0 := ⟨(gb_9 (i := 16) rfl rfl), (gb_1 (i := 15) rfl rfl), by decide, by decide, by decide, by decide +kernel⟩
theorem lc_L_32 : lkV "WageCourtLaw" 32 k_P_named 11 := ⟨by decide, ⟨_, _, rfl⟩, (gb_4 (i := 206) rfl rfl), (gb_4 (i := 207) rfl rfl), (gb_4 (i := 208) rfl rfl)⟩
theorem mo_P_named : mOk k_P_named 0 := ⟨(gb_4 (i := 209) rfl rfl), (gb_1 (i := 1) rfl rfl), by decide, by decide, by decide, by decide +kernel⟩
theorem lc_L_35 : lkV "WageCourtLaw" 35 k_R_named 12 := ⟨by decide, ⟨_, _, rfl⟩, (gb_9 (i := 17) rfl rfl), (gb_9 (i := 18) rfl rfl), (gb_9 (i := 19) rfl rfl)⟩
theorem mo_R_named : mOk k_R_named 0 := ⟨(gb_9 (i := 20) rfl rfl), (gb_1 (i := 15) rfl rfl), by decide, by decide, by decide, by decide +kernel⟩
theorem lc_L_36 : lkV "WageCourtLaw" 36 k_P_town 11 := ⟨by decide, ⟨_, _, rfl⟩, (gb_4 (i := 214) rfl rfl), (gb_4 (i := 215) rfl rfl), (gb_4 (i := 216) rfl rfl)⟩
theorem mo_P_town : mOk k_P_town 0 := ⟨(gb_4 (i := 217) rfl rfl), (gb_1 (i := 1) rfl rfl), by decide, by decide, by decide, by decide +kernel⟩
theorem lc_L_39 : lkV "WageCourtLaw" 39 k_R_town 12 := ⟨by decide, ⟨_, _, rfl⟩, (gb_9 (i := 21) rfl rfl), (gb_9 (i := 22) rfl rfl), (gb_9 (i := 23) rfl rfl)⟩
theorem mo_R_town : mOk k_R_town 0 := ⟨(gb_9 (i := 24) rfl rfl), (gb_1 (i := 15) rfl rfl), by decide, by decide, by decide, by decide +kernel⟩
theorem lc_L_40 : lkV "WageCourtLaw" 40 k_P_firm 11 := ⟨by decide, ⟨_, _, rfl⟩, (gb_4 (i := 218) rfl rfl), (gb_4 (i := 219) rfl rfl), (gb_4 (i := 220) rfl rfl)⟩
theorem mo_P_firm : mOk k_P_firm 2 := ⟨(gb_4 (i := 221) rfl rfl), (gb_1 (i := 1) rfl rfl), by decide, by decide, by decide, by decide +kernel⟩
theorem lc_L_44 : lkV "WageCourtLaw" 44 k_R_firm 12 := ⟨by decide, ⟨_, _, rfl⟩, (gb_9 (i := 25) rfl rfl), (gb_9 (i := 26) rfl rfl), (gb_9 (i := 27) rfl rfl)⟩
theorem mo_R_firm : mOk k_R_firm 2 := ⟨(gb_9 (i := 28) rfl rfl), (gb_1 (i := 15) rfl rfl), by decide, by decide, by decide, by decide +kernel⟩
theorem lc_L_45 : lkV "WageCourtLaw" 45 k_P_person 11 := ⟨by decide, ⟨_, _, rfl⟩, (gb_4 (i := 232) rfl rfl), (gb_4 (i := 233) rfl rfl), (gb_4 (i := 234) rfl rfl)⟩
theorem mo_P_person : mOk k_P_person 3 := ⟨(gb_4 (i := 235) rfl rfl), (gb_1 (i := 1) rfl rfl), by decide, by decide, by decide, by decide +kernel⟩
theorem lc_L_49 : lkV "WageCourtLaw" 49 k_R_person 12 := ⟨by decide, ⟨_, _, rfl⟩, (gb_9 (i := 36) rfl rfl), (gb_9 (i := 37) rfl rfl), (gb_9 (i := 38) rfl rfl)⟩
theorem mo_R_person : mOk k_R_person 3 := ⟨(gb_9 (i := 39) rfl rfl), (gb_1 (i := 15) rfl rfl), by decide, by decide, by decide, by decide +kernel⟩
theorem lc_L_50 : lkV "WageCourtLaw" 50 k_P_marks 11 := ⟨by decide, ⟨_, _, rfl⟩, (gb_5 (i := 4) rfl rfl), (gb_5 (i := 5) rfl rfl), (gb_5 (i := 6) rfl rfl)⟩
theorem mo_P_marks : mOk k_P_marks 2 := ⟨(gb_5 (i := 7) rfl rfl), (gb_1 (i := 1) rfl rfl), by decide, by decide, by decide, by decide +kernel⟩
theorem lc_L_54 : lkV "WageCourtLaw" 54 k_R_marks 12 := ⟨by decide, ⟨_, _, rfl⟩, (gb_9 (i := 44) rfl rfl), (gb_9 (i := 45) rfl rfl), (gb_9 (i := 46) rfl rfl)⟩
theorem mo_R_marks : mOk k_R_marks 2 := ⟨(gb_9 (i := 47) rfl rfl), (gb_1 (i := 15) rfl rfl), by decide, by decide, by decide, by decide +kernel⟩
theorem lc_L_55 : lkV "WageCourtLaw" 55 k_P_weight 11 := ⟨by decide, ⟨_, _, rfl⟩, (gb_5 (i := 11) rfl rfl), (gb_5 (i := 12) rfl rfl), (gb_5 (i := 13) rfl rfl)⟩
theorem mo_P_weight : mOk k_P_weight 2 := ⟨(gb_5 (i := 14) rfl rfl), (gb_1 (i := 1) rfl rfl), by decide, by decide, by decide, by decide +kernel⟩
theorem lc_L_58 : lkV "WageCourtLaw" 58 k_R_weight 12 := ⟨by decide, ⟨_, _, rfl⟩, (gb_9 (i := 48) rfl rfl), (gb_9 (i := 49) rfl rfl), (gb_9 (i := 50) rfl rfl)⟩
theorem mo_R_weight : mOk k_R_weight 2 := ⟨(gb_9 (i := 51) rfl rfl), (gb_1 (i := 15) rfl rfl), by decide, by decide, by decide, by decide +kernel⟩
theorem lc_L_59 : lkV "WageCourtLaw" 59 k_P_price 11 := ⟨by decide, ⟨_, _, rfl⟩, (gb_5 (i := 15) rfl rfl), (gb_5 (i := 16) rfl rfl), (gb_5 (i := 17) rfl rfl)⟩
theorem mo_P_price : mOk k_P_price 4 := ⟨(gb_5 (i := 18) rfl rfl), (gb_1 (i := 1) rfl rfl), by decide, by decide, by decide, by decide +kernel⟩
theorem lc_L_63 : lkV "WageCourtLaw" 63 k_R_price 12 := ⟨by decide, ⟨_, _, rfl⟩, (gb_9 (i := 52) rfl rfl), (gb_9 (i := 53) rfl rfl), (gb_9 (i := 54) rfl rfl)⟩
theorem mo_R_price : mOk k_R_price 4 := ⟨(gb_9 (i := 55) rfl rfl), (gb_1 (i := 15) rfl rfl), by decide, by decide, by decide, by decide +kernel⟩
theorem lc_L_64 : lkV "WageCourtLaw" 64 k_P_wet 11 := ⟨by decide, ⟨_, _, rfl⟩, (gb_5 (i := 26) rfl rfl), (gb_5 (i := 27) rfl rfl), (gb_5 (i := 28) rfl rfl)⟩
theorem mo_P_wet : mOk k_P_wet 3 := ⟨(gb_5 (i := 29) rfl rfl), (gb_1 (i := 1) rfl rfl), by decide, by decide, by decide, by decide +kernel⟩
theorem lc_L_67 : lkV "WageCourtLaw" 67 k_R_wet 12 := ⟨by decide, ⟨_, _, rfl⟩, (gb_9 (i := 56) rfl rfl), (gb_9 (i := 57) rfl rfl), (gb_9 (i := 58) rfl rfl)⟩
theorem mo_R_wet : mOk k_R_wet 3 := ⟨(gb_9 (i := 59) rfl rfl), (gb_1 (i := 15) rfl rfl), by decide, by decide, by decide, by decide +kernel⟩
theorem lc_L_68 : lkV "WageCourtLaw" 68 k_P_row 11 := ⟨by decide, ⟨_, _, rfl⟩, (gb_5 (i := 33) rfl rfl), (gb_5 (i := 34) rfl rfl), (gb_5 (i := 35) rfl rfl)⟩
theorem mo_P_row : mOk k_P_row 3 := ⟨(gb_5 (i := 36) rfl rfl), (gb_1 (i := 1) rfl rfl), by decide, by decide, by decide, by decide +kernel⟩
theorem lc_L_71 : lkV "WageCourtLaw" 71 k_R_row 12 := ⟨by decide, ⟨_, _, rfl⟩, (gb_9 (i := 60) rfl rfl), (gb_9 (i := 61) rfl rfl), (gb_9 (i := 62) rfl rfl)⟩
theorem mo_R_row : mOk k_R_row 3 := ⟨(gb_9 (i := 63) rfl rfl), (gb_1 (i := 15) rfl rfl), by decide, by decide, by decide, by decide +kernel⟩
theorem lc_L_72 : lkV "WageCourtLaw" 72 k_P_cell 11 := ⟨by decide, ⟨_, _, rfl⟩, (gb_5 (i := 45) rfl rfl), (gb_5 (i := 46) rfl rfl), (gb_5 (i := 47) rfl rfl)⟩
theorem mo_P_cell : mOk k_P_cell 2 := ⟨(gb_5 (i := 48) rfl rfl), (gb_1 (i := 1) rfl rfl), by decide, by decide, by decide, by decide +kernel⟩
theorem lc_L_75 : lkV "WageCourtLaw" 75 k_R_cell 12 := ⟨by decide, ⟨_, _, rfl⟩, (gb_9 (i := 68) rfl rfl), (gb_9 (i := 69) rfl rfl), (gb_9 (i := 70) rfl rfl)⟩
theorem mo_R_cell : mOk k_R_cell 2 := ⟨(gb_9 (i := 71) rfl rfl), (gb_1 (i := 15) rfl rfl), by decide, by decide, by decide, by decide +kernel⟩
theorem lc_L_76 : lkV "WageCourtLaw" 76 k_P_log 11 := ⟨by decide, ⟨_, _, rfl⟩, (gb_5 (i := 54) rfl rfl), (gb_5 (i := 55) rfl rfl), (gb_5 (i := 56) rfl rfl)⟩
theorem mo_P_log : mOk k_P_log 3 := ⟨(gb_5 (i := 57) rfl rfl), (gb_1 (i := 1) rfl rfl), by decide, by decide, by decide, by decide +kernel⟩
theorem lc_L_79 : lkV "WageCourtLaw" 79 k_R_log 12 := ⟨by decide, ⟨_, _, rfl⟩, (gb_9 (i := 72) rfl rfl), (gb_9 (i := 73) rfl rfl), (gb_9 (i := 74) rfl rfl)⟩
theorem mo_R_log : mOk k_R_log 3 := ⟨(gb_9 (i := 75) rfl rfl), (gb_1 (i := 15) rfl rfl), by decide, by decide, by decide, by decide +kernel⟩
theorem lc_L_80 : lkV "WageCourtLaw" 80 k_P_answer 11 := ⟨by decide, ⟨_, _, rfl⟩, (gb_5 (i := 71) rfl rfl), (gb_5 (i := 72) rfl rfl), (gb_5 (i := 73) rfl rfl)⟩
theorem mo_P_answer : mOk k_P_answer 3 := ⟨(gb_5 (i := 74) rfl rfl), (gb_1 (i := 1) rfl rfl), by decide, by decide, by decide, by decide +kernel⟩
theorem lc_L_83 : lkV "WageCourtLaw" 83 k_R_answer 12 := ⟨by decide, ⟨_, _, rfl⟩, (gb_9 (i := 84) rfl rfl), (gb_9 (i := 85) rfl rfl), (gb_9 (i := 86) rfl rfl)⟩
theorem mo_R_answer : mOk k_R_answer 3 := ⟨(gb_9 (i := 87) rfl rfl), (gb_1 (i := 15) rfl rfl), by decide, by decide, by decide, by decide +kernel⟩
theorem lc_L_84 : lkV "WageCourtLaw" 84 k_P_paid 11 := ⟨by decide, ⟨_, _, rfl⟩, (gb_5 (i := 75) rfl rfl), (gb_5 (i := 76) rfl rfl), (gb_5 (i := 77) rfl rfl)⟩
theorem mo_P_paid : mOk k_P_paid 3 := ⟨(gb_5 (i := 78) rfl rfl), (gb_1 (i := 1) rfl rfl), by decide, by decide, by decide, by decide +kernel⟩
theorem lc_L_87 : lkV "WageCourtLaw" 87 k_R_paid 12 := ⟨by decide, ⟨_, _, rfl⟩, (gb_9 (i := 88) rfl rfl), (gb_9 (i := 89) rfl rfl), (gb_9 (i := 90) rfl rfl)⟩
theorem mo_R_paid : mOk k_R_paid 3 := ⟨(gb_9 (i := 91) rfl rfl), (gb_1 (i := 15) rfl rfl), by decide, by decide, by decide, by decide +kernel⟩
theorem lc_L_88 : lkV "WageCourtLaw" 88 k_P_stay 11 := ⟨by decide, ⟨_, _, rfl⟩, (gb_5 (i := 84) rfl rfl), (gb_5 (i := 85) rfl rfl), (gb_5 (i := 86) rfl rfl)⟩
theorem mo_P_stay : mOk k_P_stay 3 := ⟨(gb_5 (i := 87) rfl rfl), (gb_1 (i := 1) rfl rfl), by decide, by decide, by decide, by decide +kernel⟩
theorem lc_L_91 : lkV "WageCourtLaw" 91 k_R_stay 12 := ⟨by decide, ⟨_, _, rfl⟩, (gb_9 (i := 94) rfl rfl), (gb_9 (i := 95) rfl rfl), (gb_9 (i := 96) rfl rfl)⟩
theorem mo_R_stay : mOk k_R_stay 3 := ⟨(gb_9 (i := 97) rfl rfl), (gb_1 (i := 15) rfl rfl), by decide, by decide, by decide, by decide +kernel⟩
theorem lc_L_92 : lkV "WageCourtLaw" 92 k_P_priced 11 := ⟨by decide, ⟨_, _, rfl⟩, (gb_5 (i := 88) rfl rfl), (gb_5 (i := 89) rfl rfl), (gb_5 (i := 90) rfl rfl)⟩
theorem mo_P_priced : mOk k_P_priced 4 := ⟨(gb_5 (i := 91) rfl rfl), (gb_1 (i := 1) rfl rfl), by decide, by decide, by decide, by decide +kernel⟩
theorem lc_L_95 : lkV "WageCourtLaw" 95 k_R_priced 12 := ⟨by decide, ⟨_, _, rfl⟩, (gb_9 (i := 98) rfl rfl), (gb_9 (i := 99) rfl rfl), (gb_9 (i := 100) rfl rfl)⟩
theorem mo_R_priced : mOk k_R_priced 4 := ⟨(gb_9 (i := 101) rfl rfl), (gb_1 (i := 15) rfl rfl), by decide, by decide, by decide, by decide +kernel⟩
theorem lc_L_96 : lkV "WageCourtLaw" 96 k_P_least 11 := ⟨by decide, ⟨_, _, rfl⟩, (gb_5 (i := 100) rfl rfl), (gb_5 (i := 101) rfl rfl), (gb_5 (i := 102) rfl rfl)⟩
theorem mo_P_least : mOk k_P_least 3 := ⟨(gb_5 (i := 103) rfl rfl), (gb_1 (i := 1) rfl rfl), by decide, by decide, by decide, by decide +kernel⟩
theorem lc_L_99 : lkV "WageCourtLaw" 99 k_R_least 12 := ⟨by decide, ⟨_, _, rfl⟩, (gb_9 (i := 110) rfl rfl), (gb_9 (i := 111) rfl rfl), (gb_9 (i := 112) rfl rfl)⟩
theorem mo_R_least : mOk k_R_least 3 := ⟨(gb_9 (i := 113) rfl rfl), (gb_1 (i := 15) rfl rfl), by decide, by decide, by decide, by decide +kernel⟩
theorem lc_L_100 : lkV "WageCourtLaw" 100 k_P_kind 11 := ⟨by decide, ⟨_, _, rfl⟩, (gb_5 (i := 109) rfl rfl), (gb_5 (i := 110) rfl rfl), (gb_5 (i := 111) rfl rfl)⟩
theorem mo_P_kind : mOk k_P_kind 1 := ⟨(gb_5 (i := 112) rfl rfl), (gb_1 (i := 1) rfl rfl), by decide, by decide, by decide, by decide +kernel⟩
theorem lc_L_103 : lkV "WageCourtLaw" 103 k_R_kind 12 := ⟨by decide, ⟨_, _, rfl⟩, (gb_9 (i := 118) rfl rfl), (gb_9 (i := 119) rfl rfl), (gb_9 (i := 120) rfl rfl)⟩
theorem mo_R_kind : mOk k_R_kind 1 := ⟨(gb_9 (i := 121) rfl rfl), (gb_1 (i := 15) rfl rfl), by decide, by decide, by decide, by decide +kernel⟩
theorem lc_L_104 : lkV "WageCourtLaw" 104 k_P_award 11 := ⟨by decide, ⟨_, _, rfl⟩, (gb_5 (i := 113) rfl rfl), (gb_5 (i := 114) rfl rfl), (gb_5 (i := 115) rfl rfl)⟩
theorem mo_P_award : mOk k_P_award 1 := ⟨(gb_5 (i := 116) rfl rfl), (gb_1 (i := 1) rfl rfl), by decide, by decide, by decide, by decide +kernel⟩
theorem lc_L_107 : lkV "WageCourtLaw" 107 k_R_award 12 := ⟨by decide, ⟨_, _, rfl⟩, (gb_9 (i := 122) rfl rfl), (gb_9 (i := 123) rfl rfl), (gb_9 (i := 124) rfl rfl)⟩
theorem mo_R_award : mOk k_R_award 1 := ⟨(gb_9 (i := 125) rfl rfl), (gb_1 (i := 15) rfl rfl), by decide, by decide, by decide, by decide +kernel⟩
theorem lc_L_108 : lkV "WageCourtLaw" 108 k_P_force 11 := ⟨by decide, ⟨_, _, rfl⟩, (gb_5 (i := 121) rfl rfl), (gb_5 (i := 122) rfl rfl), (gb_5 (i := 123) rfl rfl)⟩
theorem mo_P_force : mOk k_P_force 4 := ⟨(gb_5 (i := 124) rfl rfl), (gb_1 (i := 1) rfl rfl), by decide, by decide, by decide, by decide +kernel⟩
theorem lc_L_111 : lkV "WageCourtLaw" 111 k_R_force 12 := ⟨by decide, ⟨_, _, rfl⟩, (gb_9 (i := 126) rfl rfl), (gb_9 (i := 127) rfl rfl), (gb_9 (i := 128) rfl rfl)⟩
theorem mo_R_force : mOk k_R_force 4 := ⟨(gb_9 (i := 129) rfl rfl), (gb_1 (i := 15) rfl rfl), by decide, by decide, by decide, by decide +kernel⟩
theorem lc_L_112 : lkV "WageCourtLaw" 112 k_P_fate 11 := ⟨by decide, ⟨_, _, rfl⟩, (gb_5 (i := 186) rfl rfl), (gb_5 (i := 187) rfl rfl), (gb_5 (i := 188) rfl rfl)⟩
theorem mo_P_fate : mOk k_P_fate 5 := ⟨(gb_5 (i := 189) rfl rfl), (gb_1 (i := 1) rfl rfl), by decide, by decide, by decide, by decide +kernel⟩
theorem lc_L_115 : lkV "WageCourtLaw" 115 k_R_fate 12 := ⟨by decide, ⟨_, _, rfl⟩, (gb_9 (i := 138) rfl rfl), (gb_9 (i := 139) rfl rfl), (gb_9 (i := 140) rfl rfl)⟩
theorem mo_R_fate : mOk k_R_fate 5 := ⟨(gb_9 (i := 141) rfl rfl), (gb_1 (i := 15) rfl rfl), by decide, by decide, by decide, by decide +kernel⟩
theorem lc_L_116 : lkV "WageCourtLaw" 116 k_P_item 11 := ⟨by decide, ⟨_, _, rfl⟩, (gb_5 (i := 191) rfl rfl), (gb_5 (i := 192) rfl rfl), (gb_5 (i := 193) rfl rfl)⟩
theorem mo_P_item : mOk k_P_item 6 := ⟨(gb_5 (i := 194) rfl rfl), (gb_1 (i := 1) rfl rfl), by decide, by decide, by decide, by decide +kernel⟩
theorem lc_L_120 : lkV "WageCourtLaw" 120 k_R_item 12 := ⟨by decide, ⟨_, _, rfl⟩, (gb_9 (i := 170) rfl rfl), (gb_9 (i := 171) rfl rfl), (gb_9 (i := 172) rfl rfl)⟩
theorem mo_R_item : mOk k_R_item 6 := ⟨(gb_9 (i := 173) rfl rfl), (gb_1 (i := 15) rfl rfl), by decide, by decide, by decide, by decide +kernel⟩
theorem lc_L_121 : lkV "WageCourtLaw" 121 k_P_margin 11 := ⟨by decide, ⟨_, _, rfl⟩, (gb_5 (i := 195) rfl rfl), (gb_5 (i := 196) rfl rfl), (gb_5 (i := 197) rfl rfl)⟩
theorem mo_P_margin : mOk k_P_margin 5 := ⟨(gb_5 (i := 198) rfl rfl), (gb_1 (i := 1) rfl rfl), by decide, by decide, by decide, by decide +kernel⟩
theorem lc_L_124 : lkV "WageCourtLaw" 124 k_R_margin 12 := ⟨by decide, ⟨_, _, rfl⟩, (gb_9 (i := 178) rfl rfl), (gb_9 (i := 179) rfl rfl), (gb_9 (i := 180) rfl rfl)⟩
theorem mo_R_margin : mOk k_R_margin 5 := ⟨(gb_9 (i := 181) rfl rfl), (gb_1 (i := 15) rfl rfl), by decide, by decide, by decide, by decide +kernel⟩
theorem lc_L_125 : lkV "WageCourtLaw" 125 k_P_did 11 := ⟨by decide, ⟨_, _, rfl⟩, (gb_5 (i := 211) rfl rfl), (gb_5 (i := 212) rfl rfl), (gb_5 (i := 213) rfl rfl)⟩
theorem mo_P_did : mOk k_P_did 4 := ⟨(gb_5 (i := 214) rfl rfl), (gb_1 (i := 1) rfl rfl), by decide, by decide, by decide, by decide +kernel⟩
theorem lc_L_128 : lkV "WageCourtLaw" 128 k_R_did 12 := ⟨by decide, ⟨_, _, rfl⟩, (gb_9 (i := 198) rfl rfl), (gb_9 (i := 199) rfl rfl), (gb_9 (i := 200) rfl rfl)⟩
theorem mo_R_did : mOk k_R_did 4 := ⟨(gb_9 (i := 201) rfl rfl), (gb_1 (i := 15) rfl rfl), by decide, by decide, by decide, by decide +kernel⟩
theorem lc_L_129 : lkV "WageCourtLaw" 129 k_P_bound 11 := ⟨by decide, ⟨_, _, rfl⟩, (gb_5 (i := 227) rfl rfl), (gb_5 (i := 228) rfl rfl), (gb_5 (i := 229) rfl rfl)⟩
theorem mo_P_bound : mOk k_P_bound 4 := ⟨(gb_5 (i := 230) rfl rfl), (gb_1 (i := 1) rfl rfl), by decide, by decide, by decide, by decide +kernel⟩
theorem lc_L_132 : lkV "WageCourtLaw" 132 k_R_bound 12 := ⟨by decide, ⟨_, _, rfl⟩, (gb_9 (i := 210) rfl rfl), (gb_9 (i := 211) rfl rfl), (gb_9 (i := 212) rfl rfl)⟩
theorem mo_R_bound : mOk k_R_bound 4 := ⟨(gb_9 (i := 213) rfl rfl), (gb_1 (i := 15) rfl rfl), by decide, by decide, by decide, by decide +kernel⟩
theorem lc_L_133 : lkV "WageCourtLaw" 133 k_P_classed 11 := ⟨by decide, ⟨_, _, rfl⟩, (gb_6 (i := 77) rfl rfl), (gb_6 (i := 78) rfl rfl), (gb_6 (i := 79) rfl rfl)⟩
theorem mo_P_classed : mOk k_P_classed 4 := ⟨(gb_6 (i := 80) rfl rfl), (gb_1 (i := 1) rfl rfl), by decide, by decide, by decide, by decide +kernel⟩
theorem lc_L_136 : lkV "WageCourtLaw" 136 k_R_classed 12 := ⟨by decide, ⟨_, _, rfl⟩, (gb_10 (i := 37) rfl rfl), (gb_10 (i := 38) rfl rfl), (gb_10 (i := 39) rfl rfl)⟩
theorem mo_R_classed : mOk k_R_classed 4 := ⟨(gb_10 (i := 40) rfl rfl), (gb_1 (i := 15) rfl rfl), by decide, by decide, by decide, by decide +kernel⟩
theorem lc_L_137 : lkV "WageCourtLaw" 137 k_P_nearest 11 := ⟨by decide, ⟨_, _, rfl⟩, (gb_6 (i := 81) rfl rfl), (gb_6 (i := 82) rfl rfl), (gb_6 (i := 83) rfl rfl)⟩
theorem mo_P_nearest : mOk k_P_nearest 4 := ⟨(gb_6 (i := 84) rfl rfl), (gb_1 (i := 1) rfl rfl), by decide, by decide, by decide, by decide +kernel⟩
theorem lc_L_140 : lkV "WageCourtLaw" 140 k_R_nearest 12 := ⟨by decide, ⟨_, _, rfl⟩, (gb_10 (i := 41) rfl rfl), (gb_10 (i := 42) rfl rfl), (gb_10 (i := 43) rfl rfl)⟩
theorem mo_R_nearest : mOk k_R_nearest 4 := ⟨(gb_10 (i := 44) rfl rfl), (gb_1 (i := 15) rfl rfl), by decide, by decide, by decide, by decide +kernel⟩
theorem lc_L_141 : lkV "WageCourtLaw" 141 k_P_payer 11 := ⟨by decide, ⟨_, _, rfl⟩, (gb_6 (i := 96) rfl rfl), (gb_6 (i := 97) rfl rfl), (gb_6 (i := 98) rfl rfl)⟩
theorem mo_P_payer : mOk k_P_payer 4 := ⟨(gb_6 (i := 99) rfl rfl), (gb_1 (i := 1) rfl rfl), by decide, by decide, by decide, by decide +kernel⟩
theorem lc_L_144 : lkV "WageCourtLaw" 144 k_R_payer 12 := ⟨by decide, ⟨_, _, rfl⟩, (gb_10 (i := 48) rfl rfl), (gb_10 (i := 49) rfl rfl), (gb_10 (i := 50) rfl rfl)⟩
theorem mo_R_payer : mOk k_R_payer 4 := ⟨(gb_10 (i := 51) rfl rfl), (gb_1 (i := 15) rfl rfl), by decide, by decide, by decide, by decide +kernel⟩
theorem lc_L_145 : lkV "WageCourtLaw" 145 k_P_rate 11 := ⟨by decide, ⟨_, _, rfl⟩, (gb_6 (i := 100) rfl rfl), (gb_6 (i := 101) rfl rfl), (gb_6 (i := 102) rfl rfl)⟩
theorem mo_P_rate : mOk k_P_rate 4 := ⟨(gb_6 (i := 103) rfl rfl), (gb_1 (i := 1) rfl rfl), by decide, by decide, by decide, by decide +kernel⟩
theorem lc_L_148 : lkV "WageCourtLaw" 148 k_R_rate 12 := ⟨by decide, ⟨_, _, rfl⟩, (gb_10 (i := 56) rfl rfl), (gb_10 (i := 57) rfl rfl), (gb_10 (i := 58) rfl rfl)⟩
theorem mo_R_rate : mOk k_R_rate 4 := ⟨(gb_10 (i := 59) rfl rfl), (gb_1 (i := 15) rfl rfl), by decide, by decide, by decide, by decide +kernel⟩
theorem lc_L_149 : lkV "WageCourtLaw" 149 k_P_counted 11 := ⟨by decide, ⟨_, _, rfl⟩, (gb_6 (i := 108) rfl rfl), (gb_6 (i := 109) rfl rfl), (gb_6 (i := 110) rfl rfl)⟩
theorem mo_P_counted : mOk k_P_counted 5 := ⟨(gb_6 (i := 111) rfl rfl), (gb_1 (i := 1) rfl rfl), by decide, by decide, by decide, by decide +kernel⟩
theorem lc_L_152 : lkV "WageCourtLaw" 152 k_R_counted 12 := ⟨by decide, ⟨_, _, rfl⟩, (gb_10 (i := 64) rfl rfl), (gb_10 (i := 65) rfl rfl), (gb_10 (i := 66) rfl rfl)⟩
theorem mo_R_counted : mOk k_R_counted 5 := ⟨(gb_10 (i := 67) rfl rfl), (gb_1 (i := 15) rfl rfl), by decide, by decide, by decide, by decide +kernel⟩
theorem lc_L_153 : lkV "WageCourtLaw" 153 k_P_worth 11 := ⟨by decide, ⟨_, _, rfl⟩, (gb_6 (i := 112) rfl rfl), (gb_6 (i := 113) rfl rfl), (gb_6 (i := 114) rfl rfl)⟩
theorem mo_P_worth : mOk k_P_worth 4 := ⟨(gb_6 (i := 115) rfl rfl), (gb_1 (i := 1) rfl rfl), by decide, by decide, by decide, by decide +kernel⟩
theorem lc_L_156 : lkV "WageCourtLaw" 156 k_R_worth 12 := ⟨by decide, ⟨_, _, rfl⟩, (gb_10 (i := 68) rfl rfl), (gb_10 (i := 69) rfl rfl), (gb_10 (i := 70) rfl rfl)⟩
theorem mo_R_worth : mOk k_R_worth 4 := ⟨(gb_10 (i := 71) rfl rfl), (gb_1 (i := 15) rfl rfl), by decide, by decide, by decide, by decide +kernel⟩
theorem lc_L_157 : lkV "WageCourtLaw" 157 k_P_pay 11 := ⟨by decide, ⟨_, _, rfl⟩, (gb_6 (i := 116) rfl rfl), (gb_6 (i := 117) rfl rfl), (gb_6 (i := 118) rfl rfl)⟩
theorem mo_P_pay : mOk k_P_pay 3 := ⟨(gb_6 (i := 119) rfl rfl), (gb_1 (i := 1) rfl rfl), by decide, by decide, by decide, by decide +kernel⟩
theorem lc_L_160 : lkV "WageCourtLaw" 160 k_R_pay 12 := ⟨by decide, ⟨_, _, rfl⟩, (gb_10 (i := 76) rfl rfl), (gb_10 (i := 77) rfl rfl), (gb_10 (i := 78) rfl rfl)⟩
theorem mo_R_pay : mOk k_R_pay 3 := ⟨(gb_10 (i := 79) rfl rfl), (gb_1 (i := 15) rfl rfl), by decide, by decide, by decide, by decide +kernel⟩
theorem lc_L_161 : lkV "WageCourtLaw" 161 k_P_halves 11 := ⟨by decide, ⟨_, _, rfl⟩, (gb_6 (i := 140) rfl rfl), (gb_6 (i := 141) rfl rfl), (gb_6 (i := 142) rfl rfl)⟩
theorem mo_P_halves : mOk k_P_halves 4 := ⟨(gb_6 (i := 143) rfl rfl), (gb_1 (i := 1) rfl rfl), by decide, by decide, by decide, by decide +kernel⟩
theorem lc_L_164 : lkV "WageCourtLaw" 164 k_R_halves 12 := ⟨by decide, ⟨_, _, rfl⟩, (gb_10 (i := 91) rfl rfl), (gb_10 (i := 92) rfl rfl), (gb_10 (i := 93) rfl rfl)⟩
theorem mo_R_halves : mOk k_R_halves 4 := ⟨(gb_10 (i := 94) rfl rfl), (gb_1 (i := 15) rfl rfl), by decide, by decide, by decide, by decide +kernel⟩
theorem lc_L_165 : lkV "WageCourtLaw" 165 k_P_owed 11 := ⟨by decide, ⟨_, _, rfl⟩, (gb_6 (i := 148) rfl rfl), (gb_6 (i := 149) rfl rfl), (gb_6 (i := 150) rfl rfl)⟩
theorem mo_P_owed : mOk k_P_owed 3 := ⟨(gb_6 (i := 151) rfl rfl), (gb_1 (i := 1) rfl rfl), by decide, by decide, by decide, by decide +kernel⟩
theorem lc_L_168 : lkV "WageCourtLaw" 168 k_R_owed 12 := ⟨by decide, ⟨_, _, rfl⟩, (gb_10 (i := 95) rfl rfl), (gb_10 (i := 96) rfl rfl), (gb_10 (i := 97) rfl rfl)⟩
theorem mo_R_owed : mOk k_R_owed 3 := ⟨(gb_10 (i := 98) rfl rfl), (gb_1 (i := 15) rfl rfl), by decide, by decide, by decide, by decide +kernel⟩
theorem lc_L_169 : lkV "WageCourtLaw" 169 k_P_shorted 11 := ⟨by decide, ⟨_, _, rfl⟩, (gb_6 (i := 156) rfl rfl), (gb_6 (i := 157) rfl rfl), (gb_6 (i := 158) rfl rfl)⟩
theorem mo_P_shorted : mOk k_P_shorted 5 := ⟨(gb_6 (i := 159) rfl rfl), (gb_1 (i := 1) rfl rfl), by decide, by decide, by decide, by decide +kernel⟩
theorem lc_L_173 : lkV "WageCourtLaw" 173 k_R_shorted 12 := ⟨by decide, ⟨_, _, rfl⟩, (gb_10 (i := 103) rfl rfl), (gb_10 (i := 104) rfl rfl), (gb_10 (i := 105) rfl rfl)⟩
theorem mo_R_shorted : mOk k_R_shorted 5 := ⟨(gb_10 (i := 106) rfl rfl), (gb_1 (i := 15) rfl rfl), by decide, by decide, by decide, by decide +kernel⟩
theorem lc_L_174 : lkV "WageCourtLaw" 174 k_P_tried 11 := ⟨by decide, ⟨_, _, rfl⟩, (gb_6 (i := 164) rfl rfl), (gb_6 (i := 165) rfl rfl), (gb_6 (i := 166) rfl rfl)⟩
theorem mo_P_tried : mOk k_P_tried 7 := ⟨(gb_6 (i := 167) rfl rfl), (gb_1 (i := 1) rfl rfl), by decide, by decide, by decide, by decide +kernel⟩
theorem lc_L_178 : lkV "WageCourtLaw" 178 k_R_tried 12 := ⟨by decide, ⟨_, _, rfl⟩, (gb_10 (i := 108) rfl rfl), (gb_10 (i := 109) rfl rfl), (gb_10 (i := 110) rfl rfl)⟩
theorem mo_R_tried : mOk k_R_tried 7 := ⟨(gb_10 (i := 111) rfl rfl), (gb_1 (i := 15) rfl rfl), by decide, by decide, by decide, by decide +kernel⟩
theorem lc_L_179 : lkV "WageCourtLaw" 179 k_P_value 11 := ⟨by decide, ⟨_, _, rfl⟩, (gb_6 (i := 172) rfl rfl), (gb_6 (i := 173) rfl rfl), (gb_6 (i := 174) rfl rfl)⟩
theorem mo_P_value : mOk k_P_value 2 := ⟨(gb_6 (i := 175) rfl rfl), (gb_1 (i := 1) rfl rfl), by decide, by decide, by decide, by decide +kernel⟩
theorem lc_L_182 : lkV "WageCourtLaw" 182 k_R_value 12 := ⟨by decide, ⟨_, _, rfl⟩, (gb_10 (i := 116) rfl rfl), (gb_10 (i := 117) rfl rfl), (gb_10 (i := 118) rfl rfl)⟩
theorem mo_R_value : mOk k_R_value 2 := ⟨(gb_10 (i := 119) rfl rfl), (gb_1 (i := 15) rfl rfl), by decide, by decide, by decide, by decide +kernel⟩
theorem lc_L_183 : lkV "WageCourtLaw" 183 k_P_apart 11 := ⟨by decide, ⟨_, _, rfl⟩, (gb_6 (i := 176) rfl rfl), (gb_6 (i := 177) rfl rfl), (gb_6 (i := 178) rfl rfl)⟩
theorem mo_P_apart : mOk k_P_apart 3 := ⟨(gb_6 (i := 179) rfl rfl), (gb_1 (i := 1) rfl rfl), by decide, by decide, by decide, by decide +kernel⟩
theorem lc_L_187 : lkV "WageCourtLaw" 187 k_R_apart 12 := ⟨by decide, ⟨_, _, rfl⟩, (gb_10 (i := 120) rfl rfl), (gb_10 (i := 121) rfl rfl), (gb_10 (i := 122) rfl rfl)⟩
theorem mo_R_apart : mOk k_R_apart 3 := ⟨(gb_10 (i := 123) rfl rfl), (gb_1 (i := 15) rfl rfl), by decide, by decide, by decide, by decide +kernel⟩
theorem lc_L_188 : lkV "WageCourtLaw" 188 k_P_parting 11 := ⟨by decide, ⟨_, _, rfl⟩, (gb_6 (i := 184) rfl rfl), (gb_6 (i := 185) rfl rfl), (gb_6 (i := 186) rfl rfl)⟩
theorem mo_P_parting : mOk k_P_parting 3 := ⟨(gb_6 (i := 187) rfl rfl), (gb_1 (i := 1) rfl rfl), by decide, by decide, by decide, by decide +kernel⟩
theorem lc_L_191 : lkV "WageCourtLaw" 191 k_R_parting 12 := ⟨by decide, ⟨_, _, rfl⟩, (gb_10 (i := 124) rfl rfl), (gb_10 (i := 125) rfl rfl), (gb_10 (i := 126) rfl rfl)⟩
theorem mo_R_parting : mOk k_R_parting 3 := ⟨(gb_10 (i := 127) rfl rfl), (gb_1 (i := 15) rfl rfl), by decide, by decide, by decide, by decide +kernel⟩
theorem lc_L_192 : lkV "WageCourtLaw" 192 k_P_part 11 := ⟨by decide, ⟨_, _, rfl⟩, (gb_6 (i := 230) rfl rfl), (gb_6 (i := 231) rfl rfl), (gb_6 (i := 232) rfl rfl)⟩
theorem mo_P_part : mOk k_P_part 2 := ⟨(gb_6 (i := 233) rfl rfl), (gb_1 (i := 1) rfl rfl), by decide, by decide, by decide, by decide +kernel⟩
theorem lc_L_195 : lkV "WageCourtLaw" 195 k_R_part 12 := ⟨by decide, ⟨_, _, rfl⟩, (gb_10 (i := 137) rfl rfl), (gb_10 (i := 138) rfl rfl), (gb_10 (i := 139) rfl rfl)⟩
theorem mo_R_part : mOk k_R_part 2 := ⟨(gb_10 (i := 140) rfl rfl), (gb_1 (i := 15) rfl rfl), by decide, by decide, by decide, by decide +kernel⟩
theorem lc_L_196 : lkV "WageCourtLaw" 196 k_P_turned 11 := ⟨by decide, ⟨_, _, rfl⟩, (gb_6 (i := 234) rfl rfl), (gb_6 (i := 235) rfl rfl), (gb_6 (i := 236) rfl rfl)⟩
theorem mo_P_turned : mOk k_P_turned 2 := ⟨(gb_6 (i := 237) rfl rfl), (gb_1 (i := 1) rfl rfl), by decide, by decide, by decide, by decide +kernel⟩
theorem lc_L_199 : lkV "WageCourtLaw" 199 k_R_turned 12 := ⟨by decide, ⟨_, _, rfl⟩, (gb_10 (i := 112) rfl rfl), (gb_10 (i := 113) rfl rfl), (gb_10 (i := 114) rfl rfl)⟩
theorem mo_R_turned : mOk k_R_turned 2 := ⟨(gb_10 (i := 115) rfl rfl), (gb_1 (i := 15) rfl rfl), by decide, by decide, by decide, by decide +kernel⟩
theorem lc_L_200 : lkV "WageCourtLaw" 200 k_P_count 11 := ⟨by decide, ⟨_, _, rfl⟩, (gb_6 (i := 238) rfl rfl), (gb_6 (i := 239) rfl rfl), (gb_7 (i := 0) rfl rfl)⟩
theorem mo_P_count : mOk k_P_count 1 := ⟨(gb_7 (i := 1) rfl rfl), (gb_1 (i := 1) rfl rfl), by decide, by decide, by decide, by decide +kernel⟩
theorem lc_L_203 : lkV "WageCourtLaw" 203 k_R_count 12 := ⟨by decide, ⟨_, _, rfl⟩, (gb_10 (i := 141) rfl rfl), (gb_10 (i := 142) rfl rfl), (gb_10 (i := 143) rfl rfl)⟩
theorem mo_R_count : mOk k_R_count 1 := ⟨(gb_10 (i := 144) rfl rfl), (gb_1 (i := 15) rfl rfl), by decide, by decide, by decide, by decide +kernel⟩
theorem ln_L_7 : lkN "WageCourtLaw" 7 11 8 := ⟨by decide, q_R11, q_T11, rfl, (gb_1 (i := 22) rfl rfl), (gb_1 (i := 23) rfl rfl), (gb_1 (i := 1) rfl rfl), by decide⟩
theorem ln_L_10 : lkN "WageCourtLaw" 10 12 121 := ⟨by decide, q_R12, q_T12, rfl, (gb_7 (i := 2) rfl rfl), (gb_7 (i := 3) rfl rfl), (gb_1 (i := 15) rfl rfl), by decide⟩
theorem lc_L_9 : lkI "WageCourtLaw" 9 k_P_init := ⟨rfl, rfl, (gb_1 (i := 24) rfl rfl), (gb_1 (i := 25) rfl rfl)⟩
theorem mo_P_init : mOk k_P_init 0 := ⟨(gb_1 (i := 26) rfl rfl), (gb_1 (i := 1) rfl rfl), by decide, by decide, by decide, by decide +kernel⟩
theorem lc_L_12 : lkI "WageCourtLaw" 12 k_R_init := ⟨rfl, rfl, (gb_7 (i := 4) rfl rfl), (gb_7 (i := 5) rfl rfl)⟩
theorem mo_R_init : mOk k_R_init 0 := ⟨(gb_7 (i := 6) rfl rfl), (gb_1 (i := 15) rfl rfl), by decide, by decide, by decide, by decide +kernel⟩
