/-! links: written by gen/emit.py -/
theorem la_10_41 : Cond.classLink "WageCourt$Text" 41 q_R2 ∈ g_tbl := (gb_4 (i := 68) rfl rfl)
theorem la_4_17 : Cond.classLink "WageCourt$Ledger" 17 q_R10 ∈ g_tbl := (gb_1 (i := 129) rfl rfl)
theorem la_4_9 : Cond.classLink "WageCourt$Ledger" 9 q_R0 ∈ g_tbl := (gb_1 (i := 127) rfl rfl)
theorem la_6_19 : Cond.classLink "WageCourt$Parser" 19 q_R2 ∈ g_tbl := (gb_2 (i := 12) rfl rfl)
theorem la_8_27 : Cond.classLink "WageCourt$Reckoning" 27 q_R10 ∈ g_tbl := (gb_2 (i := 118) rfl rfl)
theorem la_8_9 : Cond.classLink "WageCourt$Reckoning" 9 q_R0 ∈ g_tbl := (gb_2 (i := 117) rfl rfl)
theorem lc_0_41 : lkS "WageCourt$Fact" 41 k_J_fill := ⟨(gb_4 (i := 163) rfl rfl), (gb_1 (i := 76) rfl rfl)⟩
theorem lc_10_60 : lkV "WageCourt$Text" 60 k_P_Text_entryOf 10 := ⟨by decide, ⟨_, _, rfl⟩, (gb_5 (i := 160) rfl rfl), (gb_5 (i := 161) rfl rfl), (gb_5 (i := 162) rfl rfl)⟩
theorem lc_10_68 : ("WageCourt$Text", 68, k_P_isTask.1, "WageCourt") ∈ n_tbl ∧ Cond.static k_P_isTask.1 ∈ g_tbl := ⟨List.mem_of_getElem? (i := 11) rfl, (gb_5 (i := 9) rfl rfl)⟩
theorem lc_10_72 : lkS "WageCourt$Text" 72 k_J_bitCount := ⟨(gb_6 (i := 90) rfl rfl), (gb_6 (i := 91) rfl rfl)⟩
theorem lc_11_106 : lkV "WageCourt" 106 k_P_Parser_numberOfOnly 6 := ⟨by decide, ⟨_, _, rfl⟩, (gb_4 (i := 210) rfl rfl), (gb_4 (i := 211) rfl rfl), (gb_4 (i := 212) rfl rfl)⟩
theorem lc_11_113 : lkV "WageCourt" 113 k_P_Land_hasTown 3 := ⟨by decide, ⟨_, _, rfl⟩, (gb_4 (i := 222) rfl rfl), (gb_4 (i := 223) rfl rfl), (gb_4 (i := 224) rfl rfl)⟩
theorem lc_11_117 : lkS "WageCourt" 117 k_P_within := ⟨(gb_4 (i := 227) rfl rfl), (gb_3 (i := 78) rfl rfl)⟩
theorem lc_11_121 : lkV "WageCourt" 121 k_P_Land_addFirm 3 := ⟨by decide, ⟨_, _, rfl⟩, (gb_4 (i := 228) rfl rfl), (gb_4 (i := 229) rfl rfl), (gb_4 (i := 230) rfl rfl)⟩
theorem lc_11_125 : lkV "WageCourt" 125 k_P_Land_hasFirm 3 := ⟨by decide, ⟨_, _, rfl⟩, (gb_4 (i := 236) rfl rfl), (gb_4 (i := 237) rfl rfl), (gb_4 (i := 238) rfl rfl)⟩
theorem lc_11_128 : lkV "WageCourt" 128 k_P_Land_addPerson 3 := ⟨by decide, ⟨_, _, rfl⟩, (gb_5 (i := 0) rfl rfl), (gb_5 (i := 1) rfl rfl), (gb_5 (i := 2) rfl rfl)⟩
theorem lc_11_132 : lkS "WageCourt" 132 k_P_isTask := ⟨(gb_5 (i := 8) rfl rfl), (gb_5 (i := 9) rfl rfl)⟩
theorem lc_11_142 : lkS "WageCourt" 142 k_P_isQuarter := ⟨(gb_5 (i := 19) rfl rfl), (gb_5 (i := 20) rfl rfl)⟩
theorem lc_11_145 : lkV "WageCourt" 145 k_P_Ledger_tell 4 := ⟨by decide, ⟨_, _, rfl⟩, (gb_5 (i := 22) rfl rfl), (gb_5 (i := 23) rfl rfl), (gb_5 (i := 24) rfl rfl)⟩
theorem lc_11_149 : lkS "WageCourt" 149 k_P_isDay := ⟨(gb_5 (i := 30) rfl rfl), (gb_5 (i := 31) rfl rfl)⟩
theorem lc_11_15 : k_P_Formula_init.2.2.2.1 = none ∧ k_P_Formula_init.1.name = "<init>" ∧ ("WageCourt", 15, k_P_Formula_init.1, "WageCourt") ∈ n_tbl ∧ Cond.instanceMethod k_P_Formula_init.1 ∈ g_tbl := ⟨rfl, rfl, List.mem_of_getElem? (i := 0) rfl, (gb_1 (i := 33) rfl rfl)⟩
theorem lc_11_152 : lkV "WageCourt" 152 k_P_Land_hasPerson 3 := ⟨by decide, ⟨_, _, rfl⟩, (gb_5 (i := 37) rfl rfl), (gb_5 (i := 38) rfl rfl), (gb_5 (i := 39) rfl rfl)⟩
theorem lc_11_155 : lkV "WageCourt" 155 k_P_Ledger_tellRow 4 := ⟨by decide, ⟨_, _, rfl⟩, (gb_5 (i := 41) rfl rfl), (gb_5 (i := 42) rfl rfl), (gb_5 (i := 43) rfl rfl)⟩
theorem lc_11_158 : lkV "WageCourt" 158 k_P_Ledger_factAt 4 := ⟨by decide, ⟨_, _, rfl⟩, (gb_5 (i := 49) rfl rfl), (gb_5 (i := 50) rfl rfl), (gb_5 (i := 51) rfl rfl)⟩
theorem lc_11_170 : lkV "WageCourt" 170 k_P_tellClaim 11 := ⟨by decide, ⟨_, _, rfl⟩, (gb_5 (i := 58) rfl rfl), (gb_5 (i := 60) rfl rfl), (gp_2 (i := 11) rfl rfl)⟩
theorem lc_11_174 : lkV "WageCourt" 174 k_P_Ledger_textAt 4 := ⟨by decide, ⟨_, _, rfl⟩, (gb_5 (i := 62) rfl rfl), (gb_5 (i := 63) rfl rfl), (gb_5 (i := 64) rfl rfl)⟩
theorem lc_11_18 : lkI "WageCourt" 18 k_P_Land_init := ⟨rfl, rfl, (gb_1 (i := 71) rfl rfl), (gb_1 (i := 72) rfl rfl)⟩
theorem lc_11_181 : lkV "WageCourt" 181 k_P_isName 11 := ⟨by decide, ⟨_, _, rfl⟩, (gb_5 (i := 67) rfl rfl), (gb_5 (i := 69) rfl rfl), (gp_2 (i := 12) rfl rfl)⟩
theorem lc_11_184 : lkS "WageCourt" 184 k_P_isWeek := ⟨(gb_5 (i := 79) rfl rfl), (gb_5 (i := 80) rfl rfl)⟩
theorem lc_11_189 : lkV "WageCourt" 189 k_P_Ledger_canKnow 4 := ⟨by decide, ⟨_, _, rfl⟩, (gb_5 (i := 92) rfl rfl), (gb_5 (i := 93) rfl rfl), (gb_5 (i := 94) rfl rfl)⟩
theorem lc_11_192 : lkV "WageCourt" 192 k_P_Ledger_lastPrice 4 := ⟨by decide, ⟨_, _, rfl⟩, (gb_5 (i := 96) rfl rfl), (gb_5 (i := 97) rfl rfl), (gb_5 (i := 98) rfl rfl)⟩
theorem lc_11_195 : lkV "WageCourt" 195 k_P_Ledger_basket 4 := ⟨by decide, ⟨_, _, rfl⟩, (gb_5 (i := 104) rfl rfl), (gb_5 (i := 105) rfl rfl), (gb_5 (i := 106) rfl rfl)⟩
theorem lc_11_199 : lkV "WageCourt" 199 k_P_Text_awardFact 10 := ⟨by decide, ⟨_, _, rfl⟩, (gb_5 (i := 117) rfl rfl), (gb_5 (i := 118) rfl rfl), (gb_5 (i := 119) rfl rfl)⟩
theorem lc_11_202 : lkV "WageCourt" 202 k_P_opened 11 := ⟨by decide, ⟨_, _, rfl⟩, (gb_5 (i := 125) rfl rfl), (gb_5 (i := 127) rfl rfl), (gp_2 (i := 13) rfl rfl)⟩
theorem lc_11_214 : lkV "WageCourt" 214 k_P_Text_changesAward 10 := ⟨by decide, ⟨_, _, rfl⟩, (gb_5 (i := 190) rfl rfl), (gb_5 (i := 141) rfl rfl), (gb_5 (i := 142) rfl rfl)⟩
theorem lc_11_240 : lkV "WageCourt" 240 k_P_Text_classEntry 10 := ⟨by decide, ⟨_, _, rfl⟩, (gb_5 (i := 200) rfl rfl), (gb_5 (i := 169) rfl rfl), (gb_5 (i := 170) rfl rfl)⟩
theorem lc_11_244 : lkV "WageCourt" 244 k_P_Scene_marginOf 9 := ⟨by decide, ⟨_, _, rfl⟩, (gb_5 (i := 201) rfl rfl), (gb_5 (i := 202) rfl rfl), (gb_5 (i := 203) rfl rfl)⟩
theorem lc_11_248 : lkV "WageCourt" 248 k_P_Scene_open 9 := ⟨by decide, ⟨_, _, rfl⟩, (gb_5 (i := 129) rfl rfl), (gb_5 (i := 130) rfl rfl), (gb_5 (i := 131) rfl rfl)⟩
theorem lc_11_25 : k_P_Ledger_init.2.2.2.1 = none ∧ k_P_Ledger_init.1.name = "<init>" ∧ ("WageCourt", 25, k_P_Ledger_init.1, "WageCourt") ∈ n_tbl ∧ Cond.instanceMethod k_P_Ledger_init.1 ∈ g_tbl := ⟨rfl, rfl, List.mem_of_getElem? (i := 1) rfl, (gb_1 (i := 124) rfl rfl)⟩
theorem lc_11_252 : lkV "WageCourt" 252 k_P_isHalfOf 11 := ⟨by decide, ⟨_, _, rfl⟩, (gb_5 (i := 215) rfl rfl), (gb_5 (i := 217) rfl rfl), (gp_3 (i := 0) rfl rfl)⟩
theorem lc_11_256 : lkV "WageCourt" 256 k_P_Reckoning_load 8 := ⟨by decide, ⟨_, _, rfl⟩, (gb_5 (i := 219) rfl rfl), (gb_5 (i := 220) rfl rfl), (gb_5 (i := 221) rfl rfl)⟩
theorem lc_11_260 : lkV "WageCourt" 260 k_P_Reckoning_doneIn 8 := ⟨by decide, ⟨_, _, rfl⟩, (gb_5 (i := 223) rfl rfl), (gb_5 (i := 224) rfl rfl), (gb_5 (i := 225) rfl rfl)⟩
theorem lc_11_263 : lkV "WageCourt" 263 k_P_reckoned 11 := ⟨by decide, ⟨_, _, rfl⟩, (gb_5 (i := 231) rfl rfl), (gb_5 (i := 233) rfl rfl), (gp_3 (i := 1) rfl rfl)⟩
theorem lc_11_278 : lkV "WageCourt" 278 k_P_Text_nearestClass 10 := ⟨by decide, ⟨_, _, rfl⟩, (gb_6 (i := 85) rfl rfl), (gb_6 (i := 86) rfl rfl), (gb_6 (i := 87) rfl rfl)⟩
theorem lc_11_288 : lkV "WageCourt" 288 k_P_Reckoning_repeat 8 := ⟨by decide, ⟨_, _, rfl⟩, (gb_6 (i := 104) rfl rfl), (gb_6 (i := 105) rfl rfl), (gb_6 (i := 106) rfl rfl)⟩
theorem lc_11_303 : lkV "WageCourt" 303 k_P_Reckoning_reckon 8 := ⟨by decide, ⟨_, _, rfl⟩, (gb_5 (i := 235) rfl rfl), (gb_5 (i := 236) rfl rfl), (gb_5 (i := 237) rfl rfl)⟩
theorem lc_11_306 : lkV "WageCourt" 306 k_P_isWeekOf 11 := ⟨by decide, ⟨_, _, rfl⟩, (gb_6 (i := 120) rfl rfl), (gb_6 (i := 122) rfl rfl), (gp_3 (i := 14) rfl rfl)⟩
theorem lc_11_309 : lkV "WageCourt" 309 k_P_Reckoning_weekPay 8 := ⟨by decide, ⟨_, _, rfl⟩, (gb_6 (i := 124) rfl rfl), (gb_6 (i := 125) rfl rfl), (gb_6 (i := 126) rfl rfl)⟩
theorem lc_11_312 : lkV "WageCourt" 312 k_P_Reckoning_isSuch 8 := ⟨by decide, ⟨_, _, rfl⟩, (gb_6 (i := 144) rfl rfl), (gb_6 (i := 145) rfl rfl), (gb_6 (i := 146) rfl rfl)⟩
theorem lc_11_316 : lkV "WageCourt" 316 k_P_Ledger_payments 4 := ⟨by decide, ⟨_, _, rfl⟩, (gb_6 (i := 152) rfl rfl), (gb_6 (i := 153) rfl rfl), (gb_6 (i := 154) rfl rfl)⟩
theorem lc_11_32 : lkI "WageCourt" 32 k_P_Lexer_init := ⟨rfl, rfl, (gb_1 (i := 154) rfl rfl), (gb_1 (i := 155) rfl rfl)⟩
theorem lc_11_329 : lkV "WageCourt" 329 k_P_Scene_suppose 9 := ⟨by decide, ⟨_, _, rfl⟩, (gb_6 (i := 168) rfl rfl), (gb_6 (i := 169) rfl rfl), (gb_6 (i := 170) rfl rfl)⟩
theorem lc_11_342 : lkV "WageCourt" 342 k_P_Parting_setApart 7 := ⟨by decide, ⟨_, _, rfl⟩, (gb_6 (i := 180) rfl rfl), (gb_6 (i := 181) rfl rfl), (gb_6 (i := 182) rfl rfl)⟩
theorem lc_11_347 : lkS "WageCourt" 347 k_J_bitCount := ⟨(gb_6 (i := 189) rfl rfl), (gb_6 (i := 91) rfl rfl)⟩
theorem lc_11_352 : lkV "WageCourt" 352 k_P_Parting_divide 7 := ⟨by decide, ⟨_, _, rfl⟩, (gb_6 (i := 190) rfl rfl), (gb_6 (i := 191) rfl rfl), (gb_6 (i := 192) rfl rfl)⟩
theorem lc_11_39 : lkI "WageCourt" 39 k_P_Parser_init := ⟨rfl, rfl, (gb_2 (i := 8) rfl rfl), (gb_2 (i := 9) rfl rfl)⟩
theorem lc_11_48 : lkI "WageCourt" 48 k_P_Scene_init := ⟨rfl, rfl, (gb_2 (i := 77) rfl rfl), (gb_2 (i := 78) rfl rfl)⟩
theorem lc_11_57 : lkI "WageCourt" 57 k_P_Reckoning_init := ⟨rfl, rfl, (gb_2 (i := 113) rfl rfl), (gb_2 (i := 114) rfl rfl)⟩
theorem lc_11_66 : lkI "WageCourt" 66 k_P_Parting_init := ⟨rfl, rfl, (gb_2 (i := 191) rfl rfl), (gb_2 (i := 192) rfl rfl)⟩
theorem lc_11_74 : lkV "WageCourt" 74 k_P_Lexer_write 5 := ⟨by decide, ⟨_, _, rfl⟩, (gb_3 (i := 25) rfl rfl), (gb_3 (i := 26) rfl rfl), (gb_3 (i := 27) rfl rfl)⟩
theorem lc_11_84 : lkV "WageCourt" 84 k_P_Parser_begin 6 := ⟨by decide, ⟨_, _, rfl⟩, (gb_3 (i := 37) rfl rfl), (gb_3 (i := 38) rfl rfl), (gb_3 (i := 39) rfl rfl)⟩
theorem lc_11_87 : lkV "WageCourt" 87 k_P_Parser_takeHead 6 := ⟨by decide, ⟨_, _, rfl⟩, (gb_3 (i := 73) rfl rfl), (gb_3 (i := 74) rfl rfl), (gb_3 (i := 75) rfl rfl)⟩
theorem lc_11_91 : lkV "WageCourt" 91 k_P_Parser_takeItems 6 := ⟨by decide, ⟨_, _, rfl⟩, (gb_3 (i := 116) rfl rfl), (gb_3 (i := 117) rfl rfl), (gb_3 (i := 118) rfl rfl)⟩
theorem lc_11_94 : lkV "WageCourt" 94 k_P_Parser_finish 6 := ⟨by decide, ⟨_, _, rfl⟩, (gb_4 (i := 44) rfl rfl), (gb_4 (i := 45) rfl rfl), (gb_4 (i := 46) rfl rfl)⟩
theorem lc_11_99 : lkV "WageCourt" 99 k_P_Ledger_enter 4 := ⟨by decide, ⟨_, _, rfl⟩, (gb_4 (i := 153) rfl rfl), (gb_4 (i := 154) rfl rfl), (gb_4 (i := 155) rfl rfl)⟩
theorem lc_12_272 : lkS "WageCourtModel" 272 k_R_word := ⟨(gb_7 (i := 8) rfl rfl), (gb_7 (i := 9) rfl rfl)⟩
theorem lc_12_279 : lkV "WageCourtModel" 279 k_R_put 12 := ⟨by decide, ⟨_, _, rfl⟩, (gb_8 (i := 143) rfl rfl), (gb_8 (i := 145) rfl rfl), (gp_4 (i := 9) rfl rfl)⟩
theorem lc_12_288 : lkS "WageCourtModel" 288 k_R_more := ⟨(gb_7 (i := 11) rfl rfl), (gb_7 (i := 12) rfl rfl)⟩
theorem lc_12_295 : lkV "WageCourtModel" 295 k_R_at 12 := ⟨by decide, ⟨_, _, rfl⟩, (gb_8 (i := 159) rfl rfl), (gb_8 (i := 161) rfl rfl), (gp_4 (i := 11) rfl rfl)⟩
theorem lc_12_299 : lkV "WageCourtModel" 299 k_R_token 12 := ⟨by decide, ⟨_, _, rfl⟩, (gb_8 (i := 163) rfl rfl), (gb_8 (i := 165) rfl rfl), (gp_4 (i := 12) rfl rfl)⟩
theorem lc_12_303 : lkS "WageCourtModel" 303 k_R_isLetter := ⟨(gb_8 (i := 167) rfl rfl), (gb_8 (i := 168) rfl rfl)⟩
theorem lc_12_307 : lkS "WageCourtModel" 307 k_R_isDigit := ⟨(gb_8 (i := 170) rfl rfl), (gb_8 (i := 171) rfl rfl)⟩
theorem lc_12_310 : lkV "WageCourtModel" 310 k_R_sign 12 := ⟨by decide, ⟨_, _, rfl⟩, (gb_8 (i := 173) rfl rfl), (gb_8 (i := 175) rfl rfl), (gp_4 (i := 13) rfl rfl)⟩
theorem lc_12_329 : lkV "WageCourtModel" 329 k_R_fail 12 := ⟨by decide, ⟨_, _, rfl⟩, (gb_8 (i := 181) rfl rfl), (gb_8 (i := 183) rfl rfl), (gp_4 (i := 15) rfl rfl)⟩
theorem lc_12_332 : lkV "WageCourtModel" 332 k_R_is 12 := ⟨by decide, ⟨_, _, rfl⟩, (gb_8 (i := 197) rfl rfl), (gb_8 (i := 199) rfl rfl), (gp_5 (i := 3) rfl rfl)⟩
theorem lc_12_335 : lkV "WageCourtModel" 335 k_R_next 12 := ⟨by decide, ⟨_, _, rfl⟩, (gb_8 (i := 185) rfl rfl), (gb_8 (i := 187) rfl rfl), (gp_5 (i := 0) rfl rfl)⟩
theorem lc_12_344 : lkV "WageCourtModel" 344 k_R_cut 12 := ⟨by decide, ⟨_, _, rfl⟩, (gb_8 (i := 155) rfl rfl), (gb_8 (i := 157) rfl rfl), (gp_4 (i := 10) rfl rfl)⟩
theorem lc_12_368 : lkV "WageCourtModel" 368 k_R_tellHead 12 := ⟨by decide, ⟨_, _, rfl⟩, (gb_8 (i := 177) rfl rfl), (gb_8 (i := 179) rfl rfl), (gp_4 (i := 14) rfl rfl)⟩
theorem lc_12_371 : lkV "WageCourtModel" 371 k_R_tellItem 12 := ⟨by decide, ⟨_, _, rfl⟩, (gb_8 (i := 209) rfl rfl), (gb_8 (i := 211) rfl rfl), (gp_5 (i := 6) rfl rfl)⟩
theorem lc_12_374 : lkV "WageCourtModel" 374 k_R_wrong 12 := ⟨by decide, ⟨_, _, rfl⟩, (gb_8 (i := 205) rfl rfl), (gb_8 (i := 207) rfl rfl), (gp_5 (i := 5) rfl rfl)⟩
theorem lc_12_378 : lkV "WageCourtModel" 378 k_R_fact 12 := ⟨by decide, ⟨_, _, rfl⟩, (gb_9 (i := 5) rfl rfl), (gb_9 (i := 7) rfl rfl), (gp_5 (i := 15) rfl rfl)⟩
theorem lc_12_382 : lkV "WageCourtModel" 382 k_R_must 12 := ⟨by decide, ⟨_, _, rfl⟩, (gb_8 (i := 193) rfl rfl), (gb_8 (i := 195) rfl rfl), (gp_5 (i := 2) rfl rfl)⟩
theorem lc_12_385 : lkV "WageCourtModel" 385 k_R_name 12 := ⟨by decide, ⟨_, _, rfl⟩, (gb_8 (i := 189) rfl rfl), (gb_8 (i := 191) rfl rfl), (gp_5 (i := 1) rfl rfl)⟩
theorem lc_12_389 : lkV "WageCourtModel" 389 k_R_number 12 := ⟨by decide, ⟨_, _, rfl⟩, (gb_8 (i := 201) rfl rfl), (gb_8 (i := 203) rfl rfl), (gp_5 (i := 4) rfl rfl)⟩
theorem lc_12_393 : lkV "WageCourtModel" 393 k_R_cond 12 := ⟨by decide, ⟨_, _, rfl⟩, (gb_8 (i := 213) rfl rfl), (gb_8 (i := 215) rfl rfl), (gp_5 (i := 7) rfl rfl)⟩
theorem lc_12_396 : lkV "WageCourtModel" 396 k_R_tellClass 12 := ⟨by decide, ⟨_, _, rfl⟩, (gb_8 (i := 237) rfl rfl), (gb_8 (i := 239) rfl rfl), (gp_5 (i := 13) rfl rfl)⟩
theorem lc_12_399 : lkV "WageCourtModel" 399 k_R_expression 12 := ⟨by decide, ⟨_, _, rfl⟩, (gb_8 (i := 225) rfl rfl), (gb_8 (i := 227) rfl rfl), (gp_5 (i := 10) rfl rfl)⟩
theorem lc_12_402 : lkV "WageCourtModel" 402 k_R_tellLoad 12 := ⟨by decide, ⟨_, _, rfl⟩, (gb_9 (i := 1) rfl rfl), (gb_9 (i := 3) rfl rfl), (gp_5 (i := 14) rfl rfl)⟩
theorem lc_12_405 : lkV "WageCourtModel" 405 k_R_literal 12 := ⟨by decide, ⟨_, _, rfl⟩, (gb_8 (i := 217) rfl rfl), (gb_8 (i := 219) rfl rfl), (gp_5 (i := 8) rfl rfl)⟩
theorem lc_12_409 : lkV "WageCourtModel" 409 k_R_emit 12 := ⟨by decide, ⟨_, _, rfl⟩, (gb_8 (i := 221) rfl rfl), (gb_8 (i := 223) rfl rfl), (gp_5 (i := 9) rfl rfl)⟩
theorem lc_12_415 : lkV "WageCourtModel" 415 k_R_unit 12 := ⟨by decide, ⟨_, _, rfl⟩, (gb_8 (i := 229) rfl rfl), (gb_8 (i := 231) rfl rfl), (gp_5 (i := 11) rfl rfl)⟩
theorem lc_12_418 : lkV "WageCourtModel" 418 k_R_comesOut 12 := ⟨by decide, ⟨_, _, rfl⟩, (gb_8 (i := 233) rfl rfl), (gb_8 (i := 235) rfl rfl), (gp_5 (i := 12) rfl rfl)⟩
theorem lc_12_430 : lkV "WageCourtModel" 430 k_R_isTown 12 := ⟨by decide, ⟨_, _, rfl⟩, (gb_9 (i := 29) rfl rfl), (gb_9 (i := 31) rfl rfl), (gp_6 (i := 1) rfl rfl)⟩
theorem lc_12_433 : lkS "WageCourtModel" 433 k_R_in := ⟨(gb_9 (i := 33) rfl rfl), (gb_9 (i := 34) rfl rfl)⟩
theorem lc_12_437 : lkV "WageCourtModel" 437 k_R_changed 12 := ⟨by decide, ⟨_, _, rfl⟩, (gb_9 (i := 9) rfl rfl), (gb_9 (i := 11) rfl rfl), (gp_6 (i := 0) rfl rfl)⟩
theorem lc_12_440 : lkV "WageCourtModel" 440 k_R_isFirm 12 := ⟨by decide, ⟨_, _, rfl⟩, (gb_9 (i := 40) rfl rfl), (gb_9 (i := 42) rfl rfl), (gp_6 (i := 2) rfl rfl)⟩
theorem lc_12_443 : lkV "WageCourtModel" 443 k_R_isPerson 12 := ⟨by decide, ⟨_, _, rfl⟩, (gb_9 (i := 64) rfl rfl), (gb_9 (i := 66) rfl rfl), (gp_6 (i := 3) rfl rfl)⟩
theorem lc_12_446 : lkV "WageCourtModel" 446 k_R_textAt 12 := ⟨by decide, ⟨_, _, rfl⟩, (gb_9 (i := 80) rfl rfl), (gb_9 (i := 82) rfl rfl), (gp_6 (i := 5) rfl rfl)⟩
theorem lc_12_449 : lkV "WageCourtModel" 449 k_R_tells 12 := ⟨by decide, ⟨_, _, rfl⟩, (gb_9 (i := 76) rfl rfl), (gb_9 (i := 78) rfl rfl), (gp_6 (i := 4) rfl rfl)⟩
theorem lc_12_455 : lkV "WageCourtModel" 455 k_R_isKnown 12 := ⟨by decide, ⟨_, _, rfl⟩, (gb_9 (i := 102) rfl rfl), (gb_9 (i := 104) rfl rfl), (gp_6 (i := 6) rfl rfl)⟩
theorem lc_12_458 : lkV "WageCourtModel" 458 k_R_priceOf 12 := ⟨by decide, ⟨_, _, rfl⟩, (gb_9 (i := 106) rfl rfl), (gb_9 (i := 108) rfl rfl), (gp_6 (i := 7) rfl rfl)⟩
theorem lc_12_461 : lkV "WageCourtModel" 461 k_R_leastOf 12 := ⟨by decide, ⟨_, _, rfl⟩, (gb_9 (i := 114) rfl rfl), (gb_9 (i := 116) rfl rfl), (gp_6 (i := 8) rfl rfl)⟩
theorem lc_12_471 : lkV "WageCourtModel" 471 k_R_termOf 12 := ⟨by decide, ⟨_, _, rfl⟩, (gb_9 (i := 162) rfl rfl), (gb_9 (i := 164) rfl rfl), (gp_7 (i := 0) rfl rfl)⟩
theorem lc_12_474 : lkV "WageCourtModel" 474 k_R_isTrue 12 := ⟨by decide, ⟨_, _, rfl⟩, (gb_10 (i := 9) rfl rfl), (gb_10 (i := 11) rfl rfl), (gp_8 (i := 0) rfl rfl)⟩
theorem lc_12_483 : lkV "WageCourtModel" 483 k_R_isIn 12 := ⟨by decide, ⟨_, _, rfl⟩, (gb_9 (i := 134) rfl rfl), (gb_9 (i := 136) rfl rfl), (gp_6 (i := 10) rfl rfl)⟩
theorem lc_12_487 : lkV "WageCourtModel" 487 k_R_adds 12 := ⟨by decide, ⟨_, _, rfl⟩, (gb_9 (i := 146) rfl rfl), (gb_9 (i := 148) rfl rfl), (gp_6 (i := 12) rfl rfl)⟩
theorem lc_12_491 : lkV "WageCourtModel" 491 k_R_stands 12 := ⟨by decide, ⟨_, _, rfl⟩, (gb_9 (i := 166) rfl rfl), (gb_9 (i := 168) rfl rfl), (gp_7 (i := 1) rfl rfl)⟩
theorem lc_12_494 : lkV "WageCourtModel" 494 k_R_rowOf 12 := ⟨by decide, ⟨_, _, rfl⟩, (gb_9 (i := 150) rfl rfl), (gb_9 (i := 152) rfl rfl), (gp_6 (i := 13) rfl rfl)⟩
theorem lc_12_497 : lkV "WageCourtModel" 497 k_R_goes 12 := ⟨by decide, ⟨_, _, rfl⟩, (gb_9 (i := 154) rfl rfl), (gb_9 (i := 156) rfl rfl), (gp_6 (i := 14) rfl rfl)⟩
theorem lc_12_500 : lkV "WageCourtModel" 500 k_R_isAmbit 12 := ⟨by decide, ⟨_, _, rfl⟩, (gb_9 (i := 158) rfl rfl), (gb_9 (i := 160) rfl rfl), (gp_6 (i := 15) rfl rfl)⟩
theorem lc_12_506 : lkV "WageCourtModel" 506 k_R_isCome 12 := ⟨by decide, ⟨_, _, rfl⟩, (gb_9 (i := 191) rfl rfl), (gb_9 (i := 193) rfl rfl), (gp_7 (i := 5) rfl rfl)⟩
theorem lc_12_515 : lkV "WageCourtModel" 515 k_R_marginOf 12 := ⟨by decide, ⟨_, _, rfl⟩, (gb_9 (i := 187) rfl rfl), (gb_9 (i := 189) rfl rfl), (gp_7 (i := 4) rfl rfl)⟩
theorem lc_12_518 : lkS "WageCourtModel" 518 k_R_held := ⟨(gb_9 (i := 195) rfl rfl), (gb_9 (i := 196) rfl rfl)⟩
theorem lc_12_521 : lkV "WageCourtModel" 521 k_R_isAsked 12 := ⟨by decide, ⟨_, _, rfl⟩, (gb_9 (i := 130) rfl rfl), (gb_9 (i := 132) rfl rfl), (gp_6 (i := 9) rfl rfl)⟩
theorem lc_12_524 : lkV "WageCourtModel" 524 k_R_builds 12 := ⟨by decide, ⟨_, _, rfl⟩, (gb_9 (i := 142) rfl rfl), (gb_9 (i := 144) rfl rfl), (gp_6 (i := 11) rfl rfl)⟩
theorem lc_12_527 : lkV "WageCourtModel" 527 k_R_isWhole 12 := ⟨by decide, ⟨_, _, rfl⟩, (gb_9 (i := 174) rfl rfl), (gb_9 (i := 176) rfl rfl), (gp_7 (i := 2) rfl rfl)⟩
theorem lc_12_531 : lkV "WageCourtModel" 531 k_R_heldMargin 12 := ⟨by decide, ⟨_, _, rfl⟩, (gb_9 (i := 183) rfl rfl), (gb_9 (i := 185) rfl rfl), (gp_7 (i := 3) rfl rfl)⟩
theorem lc_12_534 : lkV "WageCourtModel" 534 k_R_rowFact 12 := ⟨by decide, ⟨_, _, rfl⟩, (gb_9 (i := 202) rfl rfl), (gb_9 (i := 204) rfl rfl), (gp_7 (i := 6) rfl rfl)⟩
theorem lc_12_537 : lkV "WageCourtModel" 537 k_R_doneIn 12 := ⟨by decide, ⟨_, _, rfl⟩, (gb_9 (i := 206) rfl rfl), (gb_9 (i := 208) rfl rfl), (gp_7 (i := 7) rfl rfl)⟩
theorem lc_12_546 : lkV "WageCourtModel" 546 k_R_holds 12 := ⟨by decide, ⟨_, _, rfl⟩, (gb_10 (i := 5) rfl rfl), (gb_10 (i := 7) rfl rfl), (gp_7 (i := 15) rfl rfl)⟩
theorem lc_12_549 : lkV "WageCourtModel" 549 k_R_isBinding 12 := ⟨by decide, ⟨_, _, rfl⟩, (gb_10 (i := 1) rfl rfl), (gb_10 (i := 3) rfl rfl), (gp_7 (i := 14) rfl rfl)⟩
theorem lc_12_552 : lkV "WageCourtModel" 552 k_R_isUnder 12 := ⟨by decide, ⟨_, _, rfl⟩, (gb_10 (i := 13) rfl rfl), (gb_10 (i := 15) rfl rfl), (gp_8 (i := 1) rfl rfl)⟩
theorem lc_12_555 : lkV "WageCourtModel" 555 k_R_eachOf 12 := ⟨by decide, ⟨_, _, rfl⟩, (gb_10 (i := 25) rfl rfl), (gb_10 (i := 27) rfl rfl), (gp_8 (i := 4) rfl rfl)⟩
theorem lc_12_564 : lkV "WageCourtModel" 564 k_R_asks 12 := ⟨by decide, ⟨_, _, rfl⟩, (gb_9 (i := 233) rfl rfl), (gb_9 (i := 235) rfl rfl), (gp_7 (i := 12) rfl rfl)⟩
theorem lc_12_567 : lkV "WageCourtModel" 567 k_R_isBarred 12 := ⟨by decide, ⟨_, _, rfl⟩, (gb_10 (i := 33) rfl rfl), (gb_10 (i := 35) rfl rfl), (gp_8 (i := 6) rfl rfl)⟩
theorem lc_12_570 : lkS "WageCourtModel" 570 k_R_isTask := ⟨(gb_9 (i := 230) rfl rfl), (gb_9 (i := 231) rfl rfl)⟩
theorem lc_12_579 : lkV "WageCourtModel" 579 k_R_wetOf 12 := ⟨by decide, ⟨_, _, rfl⟩, (gb_9 (i := 222) rfl rfl), (gb_9 (i := 224) rfl rfl), (gp_7 (i := 10) rfl rfl)⟩
theorem lc_12_582 : lkV "WageCourtModel" 582 k_R_tasksOf 12 := ⟨by decide, ⟨_, _, rfl⟩, (gb_9 (i := 226) rfl rfl), (gb_9 (i := 228) rfl rfl), (gp_7 (i := 11) rfl rfl)⟩
theorem lc_12_585 : lkV "WageCourtModel" 585 k_R_boundBy 12 := ⟨by decide, ⟨_, _, rfl⟩, (gb_9 (i := 237) rfl rfl), (gb_9 (i := 239) rfl rfl), (gp_7 (i := 13) rfl rfl)⟩
theorem lc_12_588 : lkV "WageCourtModel" 588 k_R_agreeOf 12 := ⟨by decide, ⟨_, _, rfl⟩, (gb_10 (i := 17) rfl rfl), (gb_10 (i := 19) rfl rfl), (gp_8 (i := 2) rfl rfl)⟩
theorem lc_12_591 : lkV "WageCourtModel" 591 k_R_classes 12 := ⟨by decide, ⟨_, _, rfl⟩, (gb_10 (i := 21) rfl rfl), (gb_10 (i := 23) rfl rfl), (gp_8 (i := 3) rfl rfl)⟩
theorem lc_12_595 : lkV "WageCourtModel" 595 k_R_worthBy 12 := ⟨by decide, ⟨_, _, rfl⟩, (gb_10 (i := 29) rfl rfl), (gb_10 (i := 31) rfl rfl), (gp_8 (i := 5) rfl rfl)⟩
theorem lc_12_598 : lkV "WageCourtModel" 598 k_R_isHalf 12 := ⟨by decide, ⟨_, _, rfl⟩, (gb_9 (i := 214) rfl rfl), (gb_9 (i := 216) rfl rfl), (gp_7 (i := 8) rfl rfl)⟩
theorem lc_12_601 : lkV "WageCourtModel" 601 k_R_looks 12 := ⟨by decide, ⟨_, _, rfl⟩, (gb_9 (i := 218) rfl rfl), (gb_9 (i := 220) rfl rfl), (gp_7 (i := 9) rfl rfl)⟩
theorem lc_12_604 : lkS "WageCourtModel" 604 k_R_bits := ⟨(gb_10 (i := 45) rfl rfl), (gb_10 (i := 46) rfl rfl)⟩
theorem lc_12_607 : lkV "WageCourtModel" 607 k_R_payerOf 12 := ⟨by decide, ⟨_, _, rfl⟩, (gb_10 (i := 52) rfl rfl), (gb_10 (i := 54) rfl rfl), (gp_8 (i := 7) rfl rfl)⟩
theorem lc_12_610 : lkV "WageCourtModel" 610 k_R_again 12 := ⟨by decide, ⟨_, _, rfl⟩, (gb_10 (i := 60) rfl rfl), (gb_10 (i := 62) rfl rfl), (gp_8 (i := 8) rfl rfl)⟩
theorem lc_12_613 : lkV "WageCourtModel" 613 k_R_worthOf 12 := ⟨by decide, ⟨_, _, rfl⟩, (gb_10 (i := 72) rfl rfl), (gb_10 (i := 74) rfl rfl), (gp_8 (i := 9) rfl rfl)⟩
theorem lc_12_622 : lkV "WageCourtModel" 622 k_R_isWeek 12 := ⟨by decide, ⟨_, _, rfl⟩, (gb_10 (i := 80) rfl rfl), (gb_10 (i := 82) rfl rfl), (gp_8 (i := 10) rfl rfl)⟩
theorem lc_12_625 : lkV "WageCourtModel" 625 k_R_payOf 12 := ⟨by decide, ⟨_, _, rfl⟩, (gb_10 (i := 84) rfl rfl), (gb_10 (i := 86) rfl rfl), (gp_8 (i := 11) rfl rfl)⟩
theorem lc_12_629 : lkV "WageCourtModel" 629 k_R_owedOf 12 := ⟨by decide, ⟨_, _, rfl⟩, (gb_10 (i := 99) rfl rfl), (gb_10 (i := 101) rfl rfl), (gp_8 (i := 12) rfl rfl)⟩
theorem lc_12_635 : lkV "WageCourtModel" 635 k_R_changes 12 := ⟨by decide, ⟨_, _, rfl⟩, (gb_10 (i := 129) rfl rfl), (gb_10 (i := 131) rfl rfl), (gp_8 (i := 13) rfl rfl)⟩
theorem lc_12_638 : lkV "WageCourtModel" 638 k_R_nextParting 12 := ⟨by decide, ⟨_, _, rfl⟩, (gb_10 (i := 133) rfl rfl), (gb_10 (i := 135) rfl rfl), (gp_8 (i := 14) rfl rfl)⟩
theorem lc_1_44 : lkS "WageCourt$Formula" 44 k_J_copyOf := ⟨(gb_4 (i := 12) rfl rfl), (gb_4 (i := 13) rfl rfl)⟩
theorem lc_1_50 : lkV "WageCourt$Formula" 50 k_P_Formula_goOnWithOperand 1 := ⟨by decide, ⟨_, _, rfl⟩, (gb_4 (i := 4) rfl rfl), (gb_4 (i := 6) rfl rfl), (gp_2 (i := 3) rfl rfl)⟩
theorem lc_1_54 : lkV "WageCourt$Formula" 54 k_P_Formula_putOff 1 := ⟨by decide, ⟨_, _, rfl⟩, (gb_3 (i := 233) rfl rfl), (gb_3 (i := 235) rfl rfl), (gp_2 (i := 2) rfl rfl)⟩
theorem lc_1_58 : ("WageCourt$Formula", 58, k_P_within.1, "WageCourt") ∈ n_tbl ∧ Cond.static k_P_within.1 ∈ g_tbl := ⟨List.mem_of_getElem? (i := 2) rfl, (gb_3 (i := 78) rfl rfl)⟩
theorem lc_1_62 : lkV "WageCourt$Formula" 62 k_P_Formula_addStep 1 := ⟨by decide, ⟨_, _, rfl⟩, (gb_3 (i := 229) rfl rfl), (gb_3 (i := 231) rfl rfl), (gp_2 (i := 1) rfl rfl)⟩
theorem lc_1_65 : lkS "WageCourt$Formula" 65 k_P_Formula_rankOf := ⟨(gb_3 (i := 222) rfl rfl), (gb_3 (i := 223) rfl rfl)⟩
theorem lc_1_69 : lkV "WageCourt$Formula" 69 k_P_Formula_settle 1 := ⟨by decide, ⟨_, _, rfl⟩, (gb_3 (i := 225) rfl rfl), (gb_3 (i := 227) rfl rfl), (gp_2 (i := 0) rfl rfl)⟩
theorem lc_1_79 : lkS "WageCourt$Formula" 79 k_P_Formula_operand := ⟨(gb_5 (i := 176) rfl rfl), (gb_5 (i := 177) rfl rfl)⟩
theorem lc_1_83 : lkS "WageCourt$Formula" 83 k_P_Formula_isSo := ⟨(gb_5 (i := 179) rfl rfl), (gb_5 (i := 180) rfl rfl)⟩
theorem lc_1_86 : lkS "WageCourt$Formula" 86 k_P_Formula_joined := ⟨(gb_5 (i := 182) rfl rfl), (gb_5 (i := 183) rfl rfl)⟩
theorem lc_3_33 : lkS "WageCourt$Land" 33 k_J_fill := ⟨(gb_1 (i := 75) rfl rfl), (gb_1 (i := 76) rfl rfl)⟩
theorem lc_3_43 : ("WageCourt$Land", 43, k_P_within.1, "WageCourt") ∈ n_tbl ∧ Cond.static k_P_within.1 ∈ g_tbl := ⟨List.mem_of_getElem? (i := 3) rfl, (gb_3 (i := 78) rfl rfl)⟩
theorem lc_4_27 : ("WageCourt$Ledger", 27, k_P_within.1, "WageCourt") ∈ n_tbl ∧ Cond.static k_P_within.1 ∈ g_tbl := ⟨List.mem_of_getElem? (i := 4) rfl, (gb_3 (i := 78) rfl rfl)⟩
theorem lc_4_31 : lkV "WageCourt$Ledger" 31 k_P_Ledger_factAt 4 := ⟨by decide, ⟨_, _, rfl⟩, (gb_5 (i := 66) rfl rfl), (gb_5 (i := 50) rfl rfl), (gb_5 (i := 51) rfl rfl)⟩
theorem lc_4_48 : lkI "WageCourt$Ledger" 48 k_P_Fact_init := ⟨rfl, rfl, (gb_4 (i := 158) rfl rfl), (gb_4 (i := 159) rfl rfl)⟩
theorem lc_4_51 : lkV "WageCourt$Ledger" 51 k_P_Ledger_add 4 := ⟨by decide, ⟨_, _, rfl⟩, (gb_4 (i := 198) rfl rfl), (gb_4 (i := 200) rfl rfl), (gp_2 (i := 10) rfl rfl)⟩
theorem lc_4_71 : lkV "WageCourt$Ledger" 71 k_P_Ledger_lastPrice 4 := ⟨by decide, ⟨_, _, rfl⟩, (gb_5 (i := 108) rfl rfl), (gb_5 (i := 97) rfl rfl), (gb_5 (i := 98) rfl rfl)⟩
theorem lc_4_85 : lkV "WageCourt$Ledger" 85 k_P_Ledger_textAt 4 := ⟨by decide, ⟨_, _, rfl⟩, (gb_5 (i := 139) rfl rfl), (gb_5 (i := 63) rfl rfl), (gb_5 (i := 64) rfl rfl)⟩
theorem lc_5_30 : lkV "WageCourt$Lexer" 30 k_P_Lexer_learn 5 := ⟨by decide, ⟨_, _, rfl⟩, (gb_1 (i := 159) rfl rfl), (gb_1 (i := 161) rfl rfl), (gp_1 (i := 0) rfl rfl)⟩
theorem lc_5_50 : lkS "WageCourt$Lexer" 50 k_P_Lexer_withLetter := ⟨(gb_1 (i := 211) rfl rfl), (gb_1 (i := 212) rfl rfl)⟩
theorem lc_5_62 : lkS "WageCourt$Lexer" 62 k_P_Lexer_isBlank := ⟨(gb_3 (i := 45) rfl rfl), (gb_3 (i := 46) rfl rfl)⟩
theorem lc_5_66 : lkV "WageCourt$Lexer" 66 k_P_Lexer_takeToken 5 := ⟨by decide, ⟨_, _, rfl⟩, (gb_3 (i := 48) rfl rfl), (gb_3 (i := 50) rfl rfl), (gp_1 (i := 1) rfl rfl)⟩
theorem lc_5_70 : lkS "WageCourt$Lexer" 70 k_P_Lexer_isLetter := ⟨(gb_3 (i := 52) rfl rfl), (gb_3 (i := 53) rfl rfl)⟩
theorem lc_5_73 : lkV "WageCourt$Lexer" 73 k_P_Lexer_takeLetters 5 := ⟨by decide, ⟨_, _, rfl⟩, (gb_3 (i := 55) rfl rfl), (gb_3 (i := 57) rfl rfl), (gp_1 (i := 2) rfl rfl)⟩
theorem lc_5_77 : lkS "WageCourt$Lexer" 77 k_P_Lexer_isDigit := ⟨(gb_3 (i := 63) rfl rfl), (gb_3 (i := 64) rfl rfl)⟩
theorem lc_5_80 : lkV "WageCourt$Lexer" 80 k_P_Lexer_takeDigits 5 := ⟨by decide, ⟨_, _, rfl⟩, (gb_3 (i := 66) rfl rfl), (gb_3 (i := 68) rfl rfl), (gp_1 (i := 4) rfl rfl)⟩
theorem lc_5_83 : lkS "WageCourt$Lexer" 83 k_P_Lexer_signKind := ⟨(gb_3 (i := 70) rfl rfl), (gb_3 (i := 71) rfl rfl)⟩
theorem lc_5_87 : lkV "WageCourt$Lexer" 87 k_P_Lexer_wordKind 5 := ⟨by decide, ⟨_, _, rfl⟩, (gb_3 (i := 59) rfl rfl), (gb_3 (i := 61) rfl rfl), (gp_1 (i := 3) rfl rfl)⟩
theorem lc_6_104 : lkV "WageCourt$Parser" 104 k_P_Parser_setAmbit 6 := ⟨by decide, ⟨_, _, rfl⟩, (gb_4 (i := 52) rfl rfl), (gb_4 (i := 54) rfl rfl), (gp_2 (i := 9) rfl rfl)⟩
theorem lc_6_114 : lkI "WageCourt$Parser" 114 k_P_Text_init := ⟨rfl, rfl, (gb_4 (i := 64) rfl rfl), (gb_4 (i := 65) rfl rfl)⟩
theorem lc_6_120 : lkV "WageCourt$Parser" 120 k_P_Ledger_lastClaim 4 := ⟨by decide, ⟨_, _, rfl⟩, (gb_4 (i := 56) rfl rfl), (gb_4 (i := 57) rfl rfl), (gb_4 (i := 58) rfl rfl)⟩
theorem lc_6_139 : ("WageCourt$Parser", 139, k_P_within.1, "WageCourt") ∈ n_tbl ∧ Cond.static k_P_within.1 ∈ g_tbl := ⟨List.mem_of_getElem? (i := 5) rfl, (gb_3 (i := 78) rfl rfl)⟩
theorem lc_6_143 : lkV "WageCourt$Parser" 143 k_P_Parser_fail 6 := ⟨by decide, ⟨_, _, rfl⟩, (gb_3 (i := 80) rfl rfl), (gb_3 (i := 82) rfl rfl), (gp_1 (i := 5) rfl rfl)⟩
theorem lc_6_147 : lkV "WageCourt$Parser" 147 k_P_Parser_take 6 := ⟨by decide, ⟨_, _, rfl⟩, (gb_3 (i := 84) rfl rfl), (gb_3 (i := 86) rfl rfl), (gp_1 (i := 6) rfl rfl)⟩
theorem lc_6_151 : lkV "WageCourt$Parser" 151 k_P_Parser_takeTitle 6 := ⟨by decide, ⟨_, _, rfl⟩, (gb_3 (i := 88) rfl rfl), (gb_3 (i := 90) rfl rfl), (gp_1 (i := 7) rfl rfl)⟩
theorem lc_6_154 : lkV "WageCourt$Parser" 154 k_P_Parser_takeKind 6 := ⟨by decide, ⟨_, _, rfl⟩, (gb_3 (i := 108) rfl rfl), (gb_3 (i := 110) rfl rfl), (gp_1 (i := 11) rfl rfl)⟩
theorem lc_6_157 : lkV "WageCourt$Parser" 157 k_P_Parser_takeInt 6 := ⟨by decide, ⟨_, _, rfl⟩, (gb_3 (i := 112) rfl rfl), (gb_3 (i := 114) rfl rfl), (gp_1 (i := 12) rfl rfl)⟩
theorem lc_6_164 : lkV "WageCourt$Parser" 164 k_P_Parser_noteLate 6 := ⟨by decide, ⟨_, _, rfl⟩, (gb_3 (i := 100) rfl rfl), (gb_3 (i := 102) rfl rfl), (gp_1 (i := 9) rfl rfl)⟩
theorem lc_6_168 : lkV "WageCourt$Parser" 168 k_P_Parser_takeName 6 := ⟨by decide, ⟨_, _, rfl⟩, (gb_3 (i := 104) rfl rfl), (gb_3 (i := 106) rfl rfl), (gp_1 (i := 10) rfl rfl)⟩
theorem lc_6_171 : lkI "WageCourt$Parser" 171 k_P_Item_init := ⟨rfl, rfl, (gb_3 (i := 121) rfl rfl), (gb_3 (i := 122) rfl rfl)⟩
theorem lc_6_174 : lkV "WageCourt$Parser" 174 k_P_Parser_isMisplaced 6 := ⟨by decide, ⟨_, _, rfl⟩, (gb_3 (i := 193) rfl rfl), (gb_3 (i := 195) rfl rfl), (gp_1 (i := 13) rfl rfl)⟩
theorem lc_6_177 : lkV "WageCourt$Parser" 177 k_P_Parser_takeBody 6 := ⟨by decide, ⟨_, _, rfl⟩, (gb_3 (i := 197) rfl rfl), (gb_3 (i := 199) rfl rfl), (gp_1 (i := 14) rfl rfl)⟩
theorem lc_6_181 : lkV "WageCourt$Parser" 181 k_P_Parser_takeFormula 6 := ⟨by decide, ⟨_, _, rfl⟩, (gb_3 (i := 201) rfl rfl), (gb_3 (i := 203) rfl rfl), (gp_1 (i := 15) rfl rfl)⟩
theorem lc_6_188 : lkV "WageCourt$Parser" 188 k_P_Parser_takeItemName 6 := ⟨by decide, ⟨_, _, rfl⟩, (gb_4 (i := 28) rfl rfl), (gb_4 (i := 30) rfl rfl), (gp_2 (i := 4) rfl rfl)⟩
theorem lc_6_191 : lkV "WageCourt$Parser" 191 k_P_Parser_takeTasks 6 := ⟨by decide, ⟨_, _, rfl⟩, (gb_4 (i := 32) rfl rfl), (gb_4 (i := 34) rfl rfl), (gp_2 (i := 5) rfl rfl)⟩
theorem lc_6_194 : lkV "WageCourt$Parser" 194 k_P_Parser_takeMargin 6 := ⟨by decide, ⟨_, _, rfl⟩, (gb_4 (i := 36) rfl rfl), (gb_4 (i := 38) rfl rfl), (gp_2 (i := 6) rfl rfl)⟩
theorem lc_6_197 : lkV "WageCourt$Parser" 197 k_P_Parser_takeBars 6 := ⟨by decide, ⟨_, _, rfl⟩, (gb_4 (i := 40) rfl rfl), (gb_4 (i := 42) rfl rfl), (gp_2 (i := 7) rfl rfl)⟩
theorem lc_6_213 : lkV "WageCourt$Parser" 213 k_P_Formula_begin 1 := ⟨by decide, ⟨_, _, rfl⟩, (gb_3 (i := 205) rfl rfl), (gb_3 (i := 206) rfl rfl), (gb_3 (i := 207) rfl rfl)⟩
theorem lc_6_219 : lkV "WageCourt$Parser" 219 k_P_Formula_wantsTicket 1 := ⟨by decide, ⟨_, _, rfl⟩, (gb_3 (i := 209) rfl rfl), (gb_3 (i := 210) rfl rfl), (gb_3 (i := 211) rfl rfl)⟩
theorem lc_6_222 : lkV "WageCourt$Parser" 222 k_P_Formula_wantsSign 1 := ⟨by decide, ⟨_, _, rfl⟩, (gb_3 (i := 213) rfl rfl), (gb_3 (i := 214) rfl rfl), (gb_3 (i := 215) rfl rfl)⟩
theorem lc_6_225 : lkV "WageCourt$Parser" 225 k_P_Formula_goOnWithSign 1 := ⟨by decide, ⟨_, _, rfl⟩, (gb_3 (i := 217) rfl rfl), (gb_3 (i := 218) rfl rfl), (gb_3 (i := 219) rfl rfl)⟩
theorem lc_6_229 : lkV "WageCourt$Parser" 229 k_P_Formula_goOnWithUnit 1 := ⟨by decide, ⟨_, _, rfl⟩, (gb_4 (i := 0) rfl rfl), (gb_4 (i := 1) rfl rfl), (gb_4 (i := 2) rfl rfl)⟩
theorem lc_6_236 : lkV "WageCourt$Parser" 236 k_P_Formula_made 1 := ⟨by decide, ⟨_, _, rfl⟩, (gb_4 (i := 8) rfl rfl), (gb_4 (i := 9) rfl rfl), (gb_4 (i := 10) rfl rfl)⟩
theorem lc_6_37 : lkV "WageCourt$Parser" 37 k_P_Lexer_scan 5 := ⟨by decide, ⟨_, _, rfl⟩, (gb_3 (i := 41) rfl rfl), (gb_3 (i := 42) rfl rfl), (gb_3 (i := 43) rfl rfl)⟩
theorem lc_6_49 : lkV "WageCourt$Parser" 49 k_P_Parser_numberOf 6 := ⟨by decide, ⟨_, _, rfl⟩, (gb_3 (i := 92) rfl rfl), (gb_3 (i := 94) rfl rfl), (gp_1 (i := 8) rfl rfl)⟩
theorem lc_6_80 : lkV "WageCourt$Parser" 80 k_P_Parser_made 6 := ⟨by decide, ⟨_, _, rfl⟩, (gb_4 (i := 48) rfl rfl), (gb_4 (i := 50) rfl rfl), (gp_2 (i := 8) rfl rfl)⟩
theorem lc_6_90 : lkV "WageCourt$Parser" 90 k_P_Ledger_awardNamed 4 := ⟨by decide, ⟨_, _, rfl⟩, (gb_3 (i := 96) rfl rfl), (gb_3 (i := 97) rfl rfl), (gb_3 (i := 98) rfl rfl)⟩
theorem lc_7_39 : lkS "WageCourt$Parting" 39 k_J_fill := ⟨(gb_2 (i := 195) rfl rfl), (gb_1 (i := 76) rfl rfl)⟩
theorem lc_7_45 : lkV "WageCourt$Parting" 45 k_P_Parting_gather 7 := ⟨by decide, ⟨_, _, rfl⟩, (gb_6 (i := 194) rfl rfl), (gb_6 (i := 196) rfl rfl), (gp_4 (i := 1) rfl rfl)⟩
theorem lc_7_56 : lkV "WageCourt$Parting" 56 k_P_Parting_weigh 7 := ⟨by decide, ⟨_, _, rfl⟩, (gb_6 (i := 198) rfl rfl), (gb_6 (i := 200) rfl rfl), (gp_4 (i := 2) rfl rfl)⟩
theorem lc_7_60 : lkV "WageCourt$Parting" 60 k_P_Parting_nextWay 7 := ⟨by decide, ⟨_, _, rfl⟩, (gb_6 (i := 222) rfl rfl), (gb_6 (i := 224) rfl rfl), (gp_4 (i := 7) rfl rfl)⟩
theorem lc_7_64 : lkV "WageCourt$Parting" 64 k_P_Parting_remember 7 := ⟨by decide, ⟨_, _, rfl⟩, (gb_6 (i := 226) rfl rfl), (gb_6 (i := 228) rfl rfl), (gp_4 (i := 8) rfl rfl)⟩
theorem lc_7_67 : lkV "WageCourt$Parting" 67 k_P_Parting_groupsAmong 7 := ⟨by decide, ⟨_, _, rfl⟩, (gb_6 (i := 202) rfl rfl), (gb_6 (i := 204) rfl rfl), (gp_4 (i := 3) rfl rfl)⟩
theorem lc_7_77 : lkV "WageCourt$Parting" 77 k_P_Parting_isTorn 7 := ⟨by decide, ⟨_, _, rfl⟩, (gb_6 (i := 207) rfl rfl), (gb_6 (i := 209) rfl rfl), (gp_4 (i := 4) rfl rfl)⟩
theorem lc_7_81 : lkV "WageCourt$Parting" 81 k_P_Parting_settle 7 := ⟨by decide, ⟨_, _, rfl⟩, (gb_6 (i := 211) rfl rfl), (gb_6 (i := 213) rfl rfl), (gp_4 (i := 5) rfl rfl)⟩
theorem lc_7_96 : lkV "WageCourt$Parting" 96 k_P_Parting_withValue 7 := ⟨by decide, ⟨_, _, rfl⟩, (gb_6 (i := 216) rfl rfl), (gb_6 (i := 218) rfl rfl), (gp_4 (i := 6) rfl rfl)⟩
theorem lc_7_99 : ("WageCourt$Parting", 99, k_P_within.1, "WageCourt") ∈ n_tbl ∧ Cond.static k_P_within.1 ∈ g_tbl := ⟨List.mem_of_getElem? (i := 6) rfl, (gb_3 (i := 78) rfl rfl)⟩
theorem lc_8_107 : lkV "WageCourt$Reckoning" 107 k_P_Reckoning_tasksOn 8 := ⟨by decide, ⟨_, _, rfl⟩, (gb_5 (i := 239) rfl rfl), (gb_6 (i := 1) rfl rfl), (gp_3 (i := 2) rfl rfl)⟩
theorem lc_8_111 : lkV "WageCourt$Reckoning" 111 k_P_Reckoning_reckon 8 := ⟨by decide, ⟨_, _, rfl⟩, (gb_6 (i := 129) rfl rfl), (gb_5 (i := 236) rfl rfl), (gb_5 (i := 237) rfl rfl)⟩
theorem lc_8_115 : lkV "WageCourt$Reckoning" 115 k_P_Reckoning_addUp 8 := ⟨by decide, ⟨_, _, rfl⟩, (gb_6 (i := 130) rfl rfl), (gb_6 (i := 132) rfl rfl), (gp_3 (i := 15) rfl rfl)⟩
theorem lc_8_118 : lkV "WageCourt$Reckoning" 118 k_P_Reckoning_rounded 8 := ⟨by decide, ⟨_, _, rfl⟩, (gb_6 (i := 134) rfl rfl), (gb_6 (i := 136) rfl rfl), (gp_4 (i := 0) rfl rfl)⟩
theorem lc_8_133 : lkV "WageCourt$Reckoning" 133 k_P_Scene_open 9 := ⟨by decide, ⟨_, _, rfl⟩, (gb_6 (i := 9) rfl rfl), (gb_5 (i := 130) rfl rfl), (gb_5 (i := 131) rfl rfl)⟩
theorem lc_8_158 : lkV "WageCourt$Reckoning" 158 k_P_Reckoning_takeTasks 8 := ⟨by decide, ⟨_, _, rfl⟩, (gb_6 (i := 4) rfl rfl), (gb_6 (i := 6) rfl rfl), (gp_3 (i := 3) rfl rfl)⟩
theorem lc_8_164 : lkV "WageCourt$Reckoning" 164 k_P_Scene_copyVars 9 := ⟨by decide, ⟨_, _, rfl⟩, (gb_6 (i := 10) rfl rfl), (gb_6 (i := 11) rfl rfl), (gb_6 (i := 12) rfl rfl)⟩
theorem lc_8_168 : lkV "WageCourt$Reckoning" 168 k_P_Ledger_lastWet 4 := ⟨by decide, ⟨_, _, rfl⟩, (gb_6 (i := 14) rfl rfl), (gb_6 (i := 15) rfl rfl), (gb_6 (i := 16) rfl rfl)⟩
theorem lc_8_172 : lkV "WageCourt$Reckoning" 172 k_P_Reckoning_bind 8 := ⟨by decide, ⟨_, _, rfl⟩, (gb_6 (i := 18) rfl rfl), (gb_6 (i := 20) rfl rfl), (gp_3 (i := 4) rfl rfl)⟩
theorem lc_8_175 : lkV "WageCourt$Reckoning" 175 k_P_Reckoning_findClasses 8 := ⟨by decide, ⟨_, _, rfl⟩, (gb_6 (i := 48) rfl rfl), (gb_6 (i := 50) rfl rfl), (gp_3 (i := 10) rfl rfl)⟩
theorem lc_8_179 : lkV "WageCourt$Reckoning" 179 k_P_Reckoning_findPayer 8 := ⟨by decide, ⟨_, _, rfl⟩, (gb_6 (i := 62) rfl rfl), (gb_6 (i := 64) rfl rfl), (gp_3 (i := 12) rfl rfl)⟩
theorem lc_8_182 : lkV "WageCourt$Reckoning" 182 k_P_Reckoning_doneIn 8 := ⟨by decide, ⟨_, _, rfl⟩, (gb_6 (i := 8) rfl rfl), (gb_5 (i := 224) rfl rfl), (gb_5 (i := 225) rfl rfl)⟩
theorem lc_8_185 : lkV "WageCourt$Reckoning" 185 k_P_Reckoning_lookAt 8 := ⟨by decide, ⟨_, _, rfl⟩, (gb_6 (i := 22) rfl rfl), (gb_6 (i := 24) rfl rfl), (gp_3 (i := 5) rfl rfl)⟩
theorem lc_8_188 : lkV "WageCourt$Reckoning" 188 k_P_Text_changesAward 10 := ⟨by decide, ⟨_, _, rfl⟩, (gb_6 (i := 26) rfl rfl), (gb_5 (i := 141) rfl rfl), (gb_5 (i := 142) rfl rfl)⟩
theorem lc_8_192 : lkV "WageCourt$Reckoning" 192 k_P_Reckoning_someBindsHolds 8 := ⟨by decide, ⟨_, _, rfl⟩, (gb_6 (i := 27) rfl rfl), (gb_6 (i := 29) rfl rfl), (gp_3 (i := 6) rfl rfl)⟩
theorem lc_8_199 : lkV "WageCourt$Reckoning" 199 k_P_Reckoning_isOutdone 8 := ⟨by decide, ⟨_, _, rfl⟩, (gb_6 (i := 36) rfl rfl), (gb_6 (i := 38) rfl rfl), (gp_3 (i := 8) rfl rfl)⟩
theorem lc_8_205 : lkV "WageCourt$Reckoning" 205 k_P_Reckoning_lastAgree 8 := ⟨by decide, ⟨_, _, rfl⟩, (gb_6 (i := 44) rfl rfl), (gb_6 (i := 46) rfl rfl), (gp_3 (i := 9) rfl rfl)⟩
theorem lc_8_216 : lkV "WageCourt$Reckoning" 216 k_P_Reckoning_holds 8 := ⟨by decide, ⟨_, _, rfl⟩, (gb_6 (i := 31) rfl rfl), (gb_6 (i := 33) rfl rfl), (gp_3 (i := 7) rfl rfl)⟩
theorem lc_8_230 : lkV "WageCourt$Reckoning" 230 k_P_Formula_result 1 := ⟨by decide, ⟨_, _, rfl⟩, (gb_6 (i := 35) rfl rfl), (gb_5 (i := 173) rfl rfl), (gb_5 (i := 174) rfl rfl)⟩
theorem lc_8_239 : lkV "WageCourt$Reckoning" 239 k_P_Text_isOver 10 := ⟨by decide, ⟨_, _, rfl⟩, (gb_6 (i := 40) rfl rfl), (gb_6 (i := 41) rfl rfl), (gb_6 (i := 42) rfl rfl)⟩
theorem lc_8_246 : lkV "WageCourt$Reckoning" 246 k_P_Text_firstClass 10 := ⟨by decide, ⟨_, _, rfl⟩, (gb_6 (i := 52) rfl rfl), (gb_6 (i := 53) rfl rfl), (gb_6 (i := 54) rfl rfl)⟩
theorem lc_8_252 : lkV "WageCourt$Reckoning" 252 k_P_Reckoning_chosenClass 8 := ⟨by decide, ⟨_, _, rfl⟩, (gb_6 (i := 56) rfl rfl), (gb_6 (i := 58) rfl rfl), (gp_3 (i := 11) rfl rfl)⟩
theorem lc_8_259 : lkS "WageCourt$Reckoning" 259 k_J_fill := ⟨(gb_6 (i := 60) rfl rfl), (gb_1 (i := 76) rfl rfl)⟩
theorem lc_8_268 : lkV "WageCourt$Reckoning" 268 k_P_Scene_marginOf 9 := ⟨by decide, ⟨_, _, rfl⟩, (gb_6 (i := 61) rfl rfl), (gb_5 (i := 202) rfl rfl), (gb_5 (i := 203) rfl rfl)⟩
theorem lc_8_272 : lkV "WageCourt$Reckoning" 272 k_P_Reckoning_worthBy 8 := ⟨by decide, ⟨_, _, rfl⟩, (gb_6 (i := 66) rfl rfl), (gb_6 (i := 68) rfl rfl), (gp_3 (i := 13) rfl rfl)⟩
theorem lc_8_279 : lkV "WageCourt$Reckoning" 279 k_P_Scene_basket 9 := ⟨by decide, ⟨_, _, rfl⟩, (gb_6 (i := 70) rfl rfl), (gb_6 (i := 71) rfl rfl), (gb_6 (i := 72) rfl rfl)⟩
theorem lc_8_292 : ("WageCourt$Reckoning", 292, k_P_held.1, "WageCourt") ∈ n_tbl ∧ Cond.static k_P_held.1 ∈ g_tbl := ⟨List.mem_of_getElem? (i := 8) rfl, (gb_5 (i := 207) rfl rfl)⟩
theorem lc_8_89 : ("WageCourt$Reckoning", 89, k_P_isTask.1, "WageCourt") ∈ n_tbl ∧ Cond.static k_P_isTask.1 ∈ g_tbl := ⟨List.mem_of_getElem? (i := 7) rfl, (gb_5 (i := 9) rfl rfl)⟩
theorem lc_8_93 : lkV "WageCourt$Reckoning" 93 k_P_Reckoning_load 8 := ⟨by decide, ⟨_, _, rfl⟩, (gb_6 (i := 128) rfl rfl), (gb_5 (i := 220) rfl rfl), (gb_5 (i := 221) rfl rfl)⟩
theorem lc_9_111 : lkV "WageCourt$Scene" 111 k_P_Text_put 10 := ⟨by decide, ⟨_, _, rfl⟩, (gb_5 (i := 156) rfl rfl), (gb_5 (i := 157) rfl rfl), (gb_5 (i := 158) rfl rfl)⟩
theorem lc_9_127 : lkV "WageCourt$Scene" 127 k_P_Text_drop 10 := ⟨by decide, ⟨_, _, rfl⟩, (gb_5 (i := 164) rfl rfl), (gb_5 (i := 165) rfl rfl), (gb_5 (i := 166) rfl rfl)⟩
theorem lc_9_131 : lkV "WageCourt$Scene" 131 k_P_Text_classEntry 10 := ⟨by decide, ⟨_, _, rfl⟩, (gb_5 (i := 168) rfl rfl), (gb_5 (i := 169) rfl rfl), (gb_5 (i := 170) rfl rfl)⟩
theorem lc_9_138 : lkV "WageCourt$Scene" 138 k_P_Formula_result 1 := ⟨by decide, ⟨_, _, rfl⟩, (gb_5 (i := 172) rfl rfl), (gb_5 (i := 173) rfl rfl), (gb_5 (i := 174) rfl rfl)⟩
theorem lc_9_150 : ("WageCourt$Scene", 150, k_P_within.1, "WageCourt") ∈ n_tbl ∧ Cond.static k_P_within.1 ∈ g_tbl := ⟨List.mem_of_getElem? (i := 9) rfl, (gb_3 (i := 78) rfl rfl)⟩
theorem lc_9_169 : lkV "WageCourt$Scene" 169 k_P_Ledger_awardNamed 4 := ⟨by decide, ⟨_, _, rfl⟩, (gb_5 (i := 205) rfl rfl), (gb_3 (i := 97) rfl rfl), (gb_3 (i := 98) rfl rfl)⟩
theorem lc_9_176 : ("WageCourt$Scene", 176, k_P_held.1, "WageCourt") ∈ n_tbl ∧ Cond.static k_P_held.1 ∈ g_tbl := ⟨List.mem_of_getElem? (i := 10) rfl, (gb_5 (i := 207) rfl rfl)⟩
theorem lc_9_49 : lkV "WageCourt$Scene" 49 k_P_Ledger_basket 4 := ⟨by decide, ⟨_, _, rfl⟩, (gb_5 (i := 133) rfl rfl), (gb_5 (i := 105) rfl rfl), (gb_5 (i := 106) rfl rfl)⟩
theorem lc_9_64 : lkV "WageCourt$Scene" 64 k_P_Ledger_setInForce 4 := ⟨by decide, ⟨_, _, rfl⟩, (gb_5 (i := 135) rfl rfl), (gb_5 (i := 136) rfl rfl), (gb_5 (i := 137) rfl rfl)⟩
theorem lc_9_81 : lkV "WageCourt$Scene" 81 k_P_Text_changesAward 10 := ⟨by decide, ⟨_, _, rfl⟩, (gb_5 (i := 140) rfl rfl), (gb_5 (i := 141) rfl rfl), (gb_5 (i := 142) rfl rfl)⟩
theorem lc_9_85 : lkV "WageCourt$Scene" 85 k_P_Text_clear 10 := ⟨by decide, ⟨_, _, rfl⟩, (gb_5 (i := 144) rfl rfl), (gb_5 (i := 145) rfl rfl), (gb_5 (i := 146) rfl rfl)⟩
theorem lc_9_88 : lkV "WageCourt$Scene" 88 k_P_Scene_apply 9 := ⟨by decide, ⟨_, _, rfl⟩, (gb_5 (i := 148) rfl rfl), (gb_5 (i := 150) rfl rfl), (gp_2 (i := 14) rfl rfl)⟩
theorem lc_9_99 : lkV "WageCourt$Scene" 99 k_P_Scene_fateOf 9 := ⟨by decide, ⟨_, _, rfl⟩, (gb_5 (i := 152) rfl rfl), (gb_5 (i := 154) rfl rfl), (gp_2 (i := 15) rfl rfl)⟩
theorem lg_0_37 : lkG "WageCourt$Fact" 37 5 0 2 := ⟨by decide, 5, q_R0, q_T0, 7, rfl, by decide, by decide, rfl, (gb_4 (i := 178) rfl rfl), rfl⟩
theorem lg_10_18 : lkG "WageCourt$Text" 18 1280 10 0 := ⟨by decide, 0, q_R10, q_T10, 17, rfl, by decide, by decide, rfl, (gb_4 (i := 69) rfl rfl), rfl⟩
theorem lg_10_21 : lkG "WageCourt$Text" 21 1281 10 0 := ⟨by decide, 1, q_R10, q_T10, 17, rfl, by decide, by decide, rfl, (gb_4 (i := 73) rfl rfl), rfl⟩
theorem lg_10_33 : lkG "WageCourt$Text" 33 1285 10 2 := ⟨by decide, 5, q_R10, q_T10, 17, rfl, by decide, by decide, rfl, (gb_4 (i := 85) rfl rfl), rfl⟩
theorem lg_10_37 : lkG "WageCourt$Text" 37 1286 10 2 := ⟨by decide, 6, q_R10, q_T10, 17, rfl, by decide, by decide, rfl, (gb_4 (i := 89) rfl rfl), rfl⟩
theorem lg_10_43 : lkG "WageCourt$Text" 43 1288 10 2 := ⟨by decide, 8, q_R10, q_T10, 17, rfl, by decide, by decide, rfl, (gb_4 (i := 97) rfl rfl), rfl⟩
theorem lg_10_46 : lkG "WageCourt$Text" 46 1289 10 2 := ⟨by decide, 9, q_R10, q_T10, 17, rfl, by decide, by decide, rfl, (gb_4 (i := 101) rfl rfl), rfl⟩
theorem lg_10_56 : lkG "WageCourt$Text" 56 1292 10 0 := ⟨by decide, 12, q_R10, q_T10, 17, rfl, by decide, by decide, rfl, (gb_4 (i := 107) rfl rfl), rfl⟩
theorem lg_10_59 : lkG "WageCourt$Text" 59 258 2 0 := ⟨by decide, 2, q_R2, q_T2, 13, rfl, by decide, by decide, rfl, (gb_3 (i := 134) rfl rfl), rfl⟩
theorem lg_10_64 : lkG "WageCourt$Text" 64 256 2 0 := ⟨by decide, 0, q_R2, q_T2, 13, rfl, by decide, by decide, rfl, (gb_3 (i := 127) rfl rfl), rfl⟩
theorem lg_10_65 : lkG "WageCourt$Text" 65 259 2 0 := ⟨by decide, 3, q_R2, q_T2, 13, rfl, by decide, by decide, rfl, (gb_3 (i := 139) rfl rfl), rfl⟩
theorem lg_11_103 : lkG "WageCourt" 103 773 6 0 := ⟨by decide, 5, q_R6, q_T6, 19, rfl, by decide, by decide, rfl, (gb_2 (i := 21) rfl rfl), rfl⟩
theorem lg_11_110 : lkG "WageCourt" 110 384 3 0 := ⟨by decide, 0, q_R3, q_T3, 10, rfl, by decide, by decide, rfl, (gb_1 (i := 79) rfl rfl), rfl⟩
theorem lg_11_135 : lkG "WageCourt" 135 392 3 2 := ⟨by decide, 8, q_R3, q_T3, 10, rfl, by decide, by decide, rfl, (gb_1 (i := 96) rfl rfl), rfl⟩
theorem lg_11_139 : lkG "WageCourt" 139 393 3 2 := ⟨by decide, 9, q_R3, q_T3, 10, rfl, by decide, by decide, rfl, (gb_1 (i := 99) rfl rfl), rfl⟩
theorem lg_11_162 : lkG "WageCourt" 162 0 0 0 := ⟨by decide, 0, q_R0, q_T0, 7, rfl, by decide, by decide, rfl, (gb_4 (i := 167) rfl rfl), rfl⟩
theorem lg_11_167 : lkG "WageCourt" 167 5 0 2 := ⟨by decide, 5, q_R0, q_T0, 7, rfl, by decide, by decide, rfl, (gb_4 (i := 180) rfl rfl), rfl⟩
theorem lg_11_178 : lkG "WageCourt" 178 1280 10 0 := ⟨by decide, 0, q_R10, q_T10, 17, rfl, by decide, by decide, rfl, (gb_4 (i := 72) rfl rfl), rfl⟩
theorem lg_11_19 : lkG "WageCourt" 19 1408 11 2 := ⟨by decide, 0, q_R11, q_T11, 8, rfl, by decide, by decide, rfl, (gb_2 (i := 236) rfl rfl), rfl⟩
theorem lg_11_206 : lkG "WageCourt" 206 1287 10 3 := ⟨by decide, 7, q_R10, q_T10, 17, rfl, by decide, by decide, rfl, (gb_4 (i := 96) rfl rfl), rfl⟩
theorem lg_11_210 : lkG "WageCourt" 210 1286 10 2 := ⟨by decide, 6, q_R10, q_T10, 17, rfl, by decide, by decide, rfl, (gb_4 (i := 92) rfl rfl), rfl⟩
theorem lg_11_217 : lkG "WageCourt" 217 1285 10 2 := ⟨by decide, 5, q_R10, q_T10, 17, rfl, by decide, by decide, rfl, (gb_4 (i := 88) rfl rfl), rfl⟩
theorem lg_11_221 : lkG "WageCourt" 221 268 2 0 := ⟨by decide, 12, q_R2, q_T2, 13, rfl, by decide, by decide, rfl, (gb_3 (i := 165) rfl rfl), rfl⟩
theorem lg_11_226 : lkG "WageCourt" 226 1292 10 0 := ⟨by decide, 12, q_R10, q_T10, 17, rfl, by decide, by decide, rfl, (gb_4 (i := 109) rfl rfl), rfl⟩
theorem lg_11_229 : lkG "WageCourt" 229 1288 10 2 := ⟨by decide, 8, q_R10, q_T10, 17, rfl, by decide, by decide, rfl, (gb_4 (i := 100) rfl rfl), rfl⟩
theorem lg_11_232 : lkG "WageCourt" 232 256 2 0 := ⟨by decide, 0, q_R2, q_T2, 13, rfl, by decide, by decide, rfl, (gb_3 (i := 130) rfl rfl), rfl⟩
theorem lg_11_233 : lkG "WageCourt" 233 258 2 0 := ⟨by decide, 2, q_R2, q_T2, 13, rfl, by decide, by decide, rfl, (gb_3 (i := 138) rfl rfl), rfl⟩
theorem lg_11_236 : lkG "WageCourt" 236 257 2 0 := ⟨by decide, 1, q_R2, q_T2, 13, rfl, by decide, by decide, rfl, (gb_3 (i := 132) rfl rfl), rfl⟩
theorem lg_11_26 : lkG "WageCourt" 26 1409 11 2 := ⟨by decide, 1, q_R11, q_T11, 8, rfl, by decide, by decide, rfl, (gb_2 (i := 237) rfl rfl), rfl⟩
theorem lg_11_266 : lkG "WageCourt" 266 1033 8 2 := ⟨by decide, 9, q_R8, q_T8, 20, rfl, by decide, by decide, rfl, (gb_2 (i := 130) rfl rfl), rfl⟩
theorem lg_11_269 : lkG "WageCourt" 269 1034 8 2 := ⟨by decide, 10, q_R8, q_T8, 20, rfl, by decide, by decide, rfl, (gb_2 (i := 132) rfl rfl), rfl⟩
theorem lg_11_273 : lkG "WageCourt" 273 1035 8 2 := ⟨by decide, 11, q_R8, q_T8, 20, rfl, by decide, by decide, rfl, (gb_2 (i := 134) rfl rfl), rfl⟩
theorem lg_11_276 : lkG "WageCourt" 276 1030 8 2 := ⟨by decide, 6, q_R8, q_T8, 20, rfl, by decide, by decide, rfl, (gb_2 (i := 126) rfl rfl), rfl⟩
theorem lg_11_282 : lkG "WageCourt" 282 1038 8 2 := ⟨by decide, 14, q_R8, q_T8, 20, rfl, by decide, by decide, rfl, (gb_2 (i := 138) rfl rfl), rfl⟩
theorem lg_11_285 : lkG "WageCourt" 285 1281 10 0 := ⟨by decide, 1, q_R10, q_T10, 17, rfl, by decide, by decide, rfl, (gb_4 (i := 77) rfl rfl), rfl⟩
theorem lg_11_291 : lkG "WageCourt" 291 1041 8 0 := ⟨by decide, 17, q_R8, q_T8, 20, rfl, by decide, by decide, rfl, (gb_2 (i := 143) rfl rfl), rfl⟩
theorem lg_11_294 : lkG "WageCourt" 294 1043 8 0 := ⟨by decide, 19, q_R8, q_T8, 20, rfl, by decide, by decide, rfl, (gb_2 (i := 147) rfl rfl), rfl⟩
theorem lg_11_297 : lkG "WageCourt" 297 1042 8 2 := ⟨by decide, 18, q_R8, q_T8, 20, rfl, by decide, by decide, rfl, (gb_2 (i := 145) rfl rfl), rfl⟩
theorem lg_11_300 : lkG "WageCourt" 300 1039 8 2 := ⟨by decide, 15, q_R8, q_T8, 20, rfl, by decide, by decide, rfl, (gb_2 (i := 140) rfl rfl), rfl⟩
theorem lg_11_33 : lkG "WageCourt" 33 1410 11 2 := ⟨by decide, 2, q_R11, q_T11, 8, rfl, by decide, by decide, rfl, (gb_2 (i := 238) rfl rfl), rfl⟩
theorem lg_11_333 : lkG "WageCourt" 333 386 3 0 := ⟨by decide, 2, q_R3, q_T3, 10, rfl, by decide, by decide, rfl, (gb_1 (i := 83) rfl rfl), rfl⟩
theorem lg_11_336 : lkG "WageCourt" 336 389 3 2 := ⟨by decide, 5, q_R3, q_T3, 10, rfl, by decide, by decide, rfl, (gb_1 (i := 90) rfl rfl), rfl⟩
theorem lg_11_339 : lkG "WageCourt" 339 896 7 2 := ⟨by decide, 0, q_R7, q_T7, 12, rfl, by decide, by decide, rfl, (gb_2 (i := 197) rfl rfl), rfl⟩
theorem lg_11_355 : lkG "WageCourt" 355 898 7 2 := ⟨by decide, 2, q_R7, q_T7, 12, rfl, by decide, by decide, rfl, (gb_2 (i := 200) rfl rfl), rfl⟩
theorem lg_11_358 : lkG "WageCourt" 358 899 7 2 := ⟨by decide, 3, q_R7, q_T7, 12, rfl, by decide, by decide, rfl, (gb_2 (i := 202) rfl rfl), rfl⟩
theorem lg_11_361 : lkG "WageCourt" 361 385 3 0 := ⟨by decide, 1, q_R3, q_T3, 10, rfl, by decide, by decide, rfl, (gb_1 (i := 81) rfl rfl), rfl⟩
theorem lg_11_364 : lkG "WageCourt" 364 771 6 0 := ⟨by decide, 3, q_R6, q_T6, 19, rfl, by decide, by decide, rfl, (gb_2 (i := 18) rfl rfl), rfl⟩
theorem lg_11_42 : lkG "WageCourt" 42 1411 11 2 := ⟨by decide, 3, q_R11, q_T11, 8, rfl, by decide, by decide, rfl, (gb_2 (i := 239) rfl rfl), rfl⟩
theorem lg_11_51 : lkG "WageCourt" 51 1412 11 2 := ⟨by decide, 4, q_R11, q_T11, 8, rfl, by decide, by decide, rfl, (gb_3 (i := 0) rfl rfl), rfl⟩
theorem lg_11_60 : lkG "WageCourt" 60 1413 11 2 := ⟨by decide, 5, q_R11, q_T11, 8, rfl, by decide, by decide, rfl, (gb_3 (i := 1) rfl rfl), rfl⟩
theorem lg_11_67 : lkG "WageCourt" 67 1414 11 2 := ⟨by decide, 6, q_R11, q_T11, 8, rfl, by decide, by decide, rfl, (gb_3 (i := 2) rfl rfl), rfl⟩
theorem lg_11_71 : lkG "WageCourt" 71 641 5 0 := ⟨by decide, 1, q_R5, q_T5, 7, rfl, by decide, by decide, rfl, (gb_1 (i := 219) rfl rfl), rfl⟩
theorem lg_11_78 : lkG "WageCourt" 78 514 4 0 := ⟨by decide, 2, q_R4, q_T4, 4, rfl, by decide, by decide, rfl, (gb_1 (i := 137) rfl rfl), rfl⟩
theorem lg_11_81 : lkG "WageCourt" 81 515 4 0 := ⟨by decide, 3, q_R4, q_T4, 4, rfl, by decide, by decide, rfl, (gb_1 (i := 140) rfl rfl), rfl⟩
theorem lg_11_9 : lkG "WageCourt" 9 1415 11 0 := ⟨by decide, 7, q_R11, q_T11, 8, rfl, by decide, by decide, rfl, (gb_3 (i := 3) rfl rfl), rfl⟩
theorem lg_11_98 : lkG "WageCourt" 98 774 6 0 := ⟨by decide, 6, q_R6, q_T6, 19, rfl, by decide, by decide, rfl, (gb_2 (i := 23) rfl rfl), rfl⟩
theorem lg_12_101 : lkG "WageCourtModel" 101 1575 12 2 := ⟨by decide, 39, q_R12, q_T12, 121, rfl, by decide, by decide, rfl, (gb_7 (i := 53) rfl rfl), rfl⟩
theorem lg_12_104 : lkG "WageCourtModel" 104 1576 12 2 := ⟨by decide, 40, q_R12, q_T12, 121, rfl, by decide, by decide, rfl, (gb_7 (i := 54) rfl rfl), rfl⟩
theorem lg_12_107 : lkG "WageCourtModel" 107 1577 12 2 := ⟨by decide, 41, q_R12, q_T12, 121, rfl, by decide, by decide, rfl, (gb_7 (i := 55) rfl rfl), rfl⟩
theorem lg_12_110 : lkG "WageCourtModel" 110 1578 12 2 := ⟨by decide, 42, q_R12, q_T12, 121, rfl, by decide, by decide, rfl, (gb_7 (i := 56) rfl rfl), rfl⟩
theorem lg_12_113 : lkG "WageCourtModel" 113 1579 12 2 := ⟨by decide, 43, q_R12, q_T12, 121, rfl, by decide, by decide, rfl, (gb_7 (i := 57) rfl rfl), rfl⟩
theorem lg_12_116 : lkG "WageCourtModel" 116 1582 12 2 := ⟨by decide, 46, q_R12, q_T12, 121, rfl, by decide, by decide, rfl, (gb_7 (i := 60) rfl rfl), rfl⟩
theorem lg_12_119 : lkG "WageCourtModel" 119 1583 12 2 := ⟨by decide, 47, q_R12, q_T12, 121, rfl, by decide, by decide, rfl, (gb_7 (i := 61) rfl rfl), rfl⟩
theorem lg_12_122 : lkG "WageCourtModel" 122 1586 12 2 := ⟨by decide, 50, q_R12, q_T12, 121, rfl, by decide, by decide, rfl, (gb_7 (i := 64) rfl rfl), rfl⟩
theorem lg_12_125 : lkG "WageCourtModel" 125 1589 12 2 := ⟨by decide, 53, q_R12, q_T12, 121, rfl, by decide, by decide, rfl, (gb_7 (i := 67) rfl rfl), rfl⟩
theorem lg_12_128 : lkG "WageCourtModel" 128 1593 12 2 := ⟨by decide, 57, q_R12, q_T12, 121, rfl, by decide, by decide, rfl, (gb_7 (i := 71) rfl rfl), rfl⟩
theorem lg_12_13 : lkG "WageCourtModel" 13 1537 12 2 := ⟨by decide, 1, q_R12, q_T12, 121, rfl, by decide, by decide, rfl, (gb_7 (i := 15) rfl rfl), rfl⟩
theorem lg_12_131 : lkG "WageCourtModel" 131 1594 12 2 := ⟨by decide, 58, q_R12, q_T12, 121, rfl, by decide, by decide, rfl, (gb_7 (i := 72) rfl rfl), rfl⟩
theorem lg_12_134 : lkG "WageCourtModel" 134 1596 12 2 := ⟨by decide, 60, q_R12, q_T12, 121, rfl, by decide, by decide, rfl, (gb_7 (i := 74) rfl rfl), rfl⟩
theorem lg_12_137 : lkG "WageCourtModel" 137 1597 12 2 := ⟨by decide, 61, q_R12, q_T12, 121, rfl, by decide, by decide, rfl, (gb_7 (i := 75) rfl rfl), rfl⟩
theorem lg_12_140 : lkG "WageCourtModel" 140 1598 12 2 := ⟨by decide, 62, q_R12, q_T12, 121, rfl, by decide, by decide, rfl, (gb_7 (i := 76) rfl rfl), rfl⟩
theorem lg_12_143 : lkG "WageCourtModel" 143 1599 12 2 := ⟨by decide, 63, q_R12, q_T12, 121, rfl, by decide, by decide, rfl, (gb_7 (i := 77) rfl rfl), rfl⟩
theorem lg_12_146 : lkG "WageCourtModel" 146 1600 12 2 := ⟨by decide, 64, q_R12, q_T12, 121, rfl, by decide, by decide, rfl, (gb_7 (i := 78) rfl rfl), rfl⟩
theorem lg_12_149 : lkG "WageCourtModel" 149 1602 12 2 := ⟨by decide, 66, q_R12, q_T12, 121, rfl, by decide, by decide, rfl, (gb_7 (i := 80) rfl rfl), rfl⟩
theorem lg_12_152 : lkG "WageCourtModel" 152 1603 12 2 := ⟨by decide, 67, q_R12, q_T12, 121, rfl, by decide, by decide, rfl, (gb_7 (i := 81) rfl rfl), rfl⟩
theorem lg_12_155 : lkG "WageCourtModel" 155 1604 12 2 := ⟨by decide, 68, q_R12, q_T12, 121, rfl, by decide, by decide, rfl, (gb_7 (i := 82) rfl rfl), rfl⟩
theorem lg_12_158 : lkG "WageCourtModel" 158 1605 12 2 := ⟨by decide, 69, q_R12, q_T12, 121, rfl, by decide, by decide, rfl, (gb_7 (i := 83) rfl rfl), rfl⟩
theorem lg_12_161 : lkG "WageCourtModel" 161 1606 12 2 := ⟨by decide, 70, q_R12, q_T12, 121, rfl, by decide, by decide, rfl, (gb_7 (i := 84) rfl rfl), rfl⟩
theorem lg_12_164 : lkG "WageCourtModel" 164 1607 12 2 := ⟨by decide, 71, q_R12, q_T12, 121, rfl, by decide, by decide, rfl, (gb_7 (i := 85) rfl rfl), rfl⟩
theorem lg_12_167 : lkG "WageCourtModel" 167 1608 12 2 := ⟨by decide, 72, q_R12, q_T12, 121, rfl, by decide, by decide, rfl, (gb_7 (i := 86) rfl rfl), rfl⟩
theorem lg_12_17 : lkG "WageCourtModel" 17 1539 12 2 := ⟨by decide, 3, q_R12, q_T12, 121, rfl, by decide, by decide, rfl, (gb_7 (i := 17) rfl rfl), rfl⟩
theorem lg_12_170 : lkG "WageCourtModel" 170 1609 12 2 := ⟨by decide, 73, q_R12, q_T12, 121, rfl, by decide, by decide, rfl, (gb_7 (i := 87) rfl rfl), rfl⟩
theorem lg_12_173 : lkG "WageCourtModel" 173 1612 12 0 := ⟨by decide, 76, q_R12, q_T12, 121, rfl, by decide, by decide, rfl, (gb_7 (i := 90) rfl rfl), rfl⟩
theorem lg_12_176 : lkG "WageCourtModel" 176 1615 12 2 := ⟨by decide, 79, q_R12, q_T12, 121, rfl, by decide, by decide, rfl, (gb_7 (i := 93) rfl rfl), rfl⟩
theorem lg_12_179 : lkG "WageCourtModel" 179 1616 12 2 := ⟨by decide, 80, q_R12, q_T12, 121, rfl, by decide, by decide, rfl, (gb_7 (i := 94) rfl rfl), rfl⟩
theorem lg_12_182 : lkG "WageCourtModel" 182 1617 12 2 := ⟨by decide, 81, q_R12, q_T12, 121, rfl, by decide, by decide, rfl, (gb_7 (i := 95) rfl rfl), rfl⟩
theorem lg_12_185 : lkG "WageCourtModel" 185 1618 12 2 := ⟨by decide, 82, q_R12, q_T12, 121, rfl, by decide, by decide, rfl, (gb_7 (i := 96) rfl rfl), rfl⟩
theorem lg_12_188 : lkG "WageCourtModel" 188 1619 12 2 := ⟨by decide, 83, q_R12, q_T12, 121, rfl, by decide, by decide, rfl, (gb_7 (i := 97) rfl rfl), rfl⟩
theorem lg_12_191 : lkG "WageCourtModel" 191 1620 12 2 := ⟨by decide, 84, q_R12, q_T12, 121, rfl, by decide, by decide, rfl, (gb_7 (i := 98) rfl rfl), rfl⟩
theorem lg_12_194 : lkG "WageCourtModel" 194 1621 12 2 := ⟨by decide, 85, q_R12, q_T12, 121, rfl, by decide, by decide, rfl, (gb_7 (i := 99) rfl rfl), rfl⟩
theorem lg_12_197 : lkG "WageCourtModel" 197 1622 12 0 := ⟨by decide, 86, q_R12, q_T12, 121, rfl, by decide, by decide, rfl, (gb_7 (i := 100) rfl rfl), rfl⟩
theorem lg_12_20 : lkG "WageCourtModel" 20 1541 12 2 := ⟨by decide, 5, q_R12, q_T12, 121, rfl, by decide, by decide, rfl, (gb_7 (i := 19) rfl rfl), rfl⟩
theorem lg_12_200 : lkG "WageCourtModel" 200 1626 12 2 := ⟨by decide, 90, q_R12, q_T12, 121, rfl, by decide, by decide, rfl, (gb_7 (i := 104) rfl rfl), rfl⟩
theorem lg_12_203 : lkG "WageCourtModel" 203 1627 12 0 := ⟨by decide, 91, q_R12, q_T12, 121, rfl, by decide, by decide, rfl, (gb_7 (i := 105) rfl rfl), rfl⟩
theorem lg_12_206 : lkG "WageCourtModel" 206 1630 12 2 := ⟨by decide, 94, q_R12, q_T12, 121, rfl, by decide, by decide, rfl, (gb_7 (i := 108) rfl rfl), rfl⟩
theorem lg_12_209 : lkG "WageCourtModel" 209 1631 12 2 := ⟨by decide, 95, q_R12, q_T12, 121, rfl, by decide, by decide, rfl, (gb_7 (i := 109) rfl rfl), rfl⟩
theorem lg_12_212 : lkG "WageCourtModel" 212 1632 12 2 := ⟨by decide, 96, q_R12, q_T12, 121, rfl, by decide, by decide, rfl, (gb_7 (i := 110) rfl rfl), rfl⟩
theorem lg_12_215 : lkG "WageCourtModel" 215 1633 12 2 := ⟨by decide, 97, q_R12, q_T12, 121, rfl, by decide, by decide, rfl, (gb_7 (i := 111) rfl rfl), rfl⟩
theorem lg_12_218 : lkG "WageCourtModel" 218 1634 12 2 := ⟨by decide, 98, q_R12, q_T12, 121, rfl, by decide, by decide, rfl, (gb_7 (i := 112) rfl rfl), rfl⟩
theorem lg_12_221 : lkG "WageCourtModel" 221 1635 12 2 := ⟨by decide, 99, q_R12, q_T12, 121, rfl, by decide, by decide, rfl, (gb_7 (i := 113) rfl rfl), rfl⟩
theorem lg_12_224 : lkG "WageCourtModel" 224 1636 12 2 := ⟨by decide, 100, q_R12, q_T12, 121, rfl, by decide, by decide, rfl, (gb_7 (i := 114) rfl rfl), rfl⟩
theorem lg_12_227 : lkG "WageCourtModel" 227 1637 12 2 := ⟨by decide, 101, q_R12, q_T12, 121, rfl, by decide, by decide, rfl, (gb_7 (i := 115) rfl rfl), rfl⟩
theorem lg_12_230 : lkG "WageCourtModel" 230 1640 12 2 := ⟨by decide, 104, q_R12, q_T12, 121, rfl, by decide, by decide, rfl, (gb_7 (i := 118) rfl rfl), rfl⟩
theorem lg_12_233 : lkG "WageCourtModel" 233 1641 12 2 := ⟨by decide, 105, q_R12, q_T12, 121, rfl, by decide, by decide, rfl, (gb_7 (i := 119) rfl rfl), rfl⟩
theorem lg_12_236 : lkG "WageCourtModel" 236 1644 12 2 := ⟨by decide, 108, q_R12, q_T12, 121, rfl, by decide, by decide, rfl, (gb_7 (i := 122) rfl rfl), rfl⟩
theorem lg_12_239 : lkG "WageCourtModel" 239 1645 12 2 := ⟨by decide, 109, q_R12, q_T12, 121, rfl, by decide, by decide, rfl, (gb_7 (i := 123) rfl rfl), rfl⟩
theorem lg_12_24 : lkG "WageCourtModel" 24 1542 12 2 := ⟨by decide, 6, q_R12, q_T12, 121, rfl, by decide, by decide, rfl, (gb_7 (i := 20) rfl rfl), rfl⟩
theorem lg_12_242 : lkG "WageCourtModel" 242 1646 12 2 := ⟨by decide, 110, q_R12, q_T12, 121, rfl, by decide, by decide, rfl, (gb_7 (i := 124) rfl rfl), rfl⟩
theorem lg_12_245 : lkG "WageCourtModel" 245 1647 12 2 := ⟨by decide, 111, q_R12, q_T12, 121, rfl, by decide, by decide, rfl, (gb_7 (i := 125) rfl rfl), rfl⟩
theorem lg_12_248 : lkG "WageCourtModel" 248 1648 12 2 := ⟨by decide, 112, q_R12, q_T12, 121, rfl, by decide, by decide, rfl, (gb_7 (i := 126) rfl rfl), rfl⟩
theorem lg_12_251 : lkG "WageCourtModel" 251 1649 12 2 := ⟨by decide, 113, q_R12, q_T12, 121, rfl, by decide, by decide, rfl, (gb_7 (i := 127) rfl rfl), rfl⟩
theorem lg_12_254 : lkG "WageCourtModel" 254 1650 12 2 := ⟨by decide, 114, q_R12, q_T12, 121, rfl, by decide, by decide, rfl, (gb_7 (i := 128) rfl rfl), rfl⟩
theorem lg_12_257 : lkG "WageCourtModel" 257 1652 12 2 := ⟨by decide, 116, q_R12, q_T12, 121, rfl, by decide, by decide, rfl, (gb_7 (i := 130) rfl rfl), rfl⟩
theorem lg_12_260 : lkG "WageCourtModel" 260 1653 12 2 := ⟨by decide, 117, q_R12, q_T12, 121, rfl, by decide, by decide, rfl, (gb_7 (i := 131) rfl rfl), rfl⟩
theorem lg_12_263 : lkG "WageCourtModel" 263 1654 12 2 := ⟨by decide, 118, q_R12, q_T12, 121, rfl, by decide, by decide, rfl, (gb_7 (i := 132) rfl rfl), rfl⟩
theorem lg_12_266 : lkG "WageCourtModel" 266 1655 12 2 := ⟨by decide, 119, q_R12, q_T12, 121, rfl, by decide, by decide, rfl, (gb_7 (i := 133) rfl rfl), rfl⟩
theorem lg_12_269 : lkG "WageCourtModel" 269 1656 12 2 := ⟨by decide, 120, q_R12, q_T12, 121, rfl, by decide, by decide, rfl, (gb_7 (i := 134) rfl rfl), rfl⟩
theorem lg_12_27 : lkG "WageCourtModel" 27 1543 12 2 := ⟨by decide, 7, q_R12, q_T12, 121, rfl, by decide, by decide, rfl, (gb_7 (i := 21) rfl rfl), rfl⟩
theorem lg_12_276 : lkG "WageCourtModel" 276 1538 12 0 := ⟨by decide, 2, q_R12, q_T12, 121, rfl, by decide, by decide, rfl, (gb_7 (i := 16) rfl rfl), rfl⟩
theorem lg_12_283 : lkG "WageCourtModel" 283 1540 12 0 := ⟨by decide, 4, q_R12, q_T12, 121, rfl, by decide, by decide, rfl, (gb_7 (i := 18) rfl rfl), rfl⟩
theorem lg_12_292 : lkG "WageCourtModel" 292 1546 12 0 := ⟨by decide, 10, q_R12, q_T12, 121, rfl, by decide, by decide, rfl, (gb_7 (i := 24) rfl rfl), rfl⟩
theorem lg_12_30 : lkG "WageCourtModel" 30 1544 12 2 := ⟨by decide, 8, q_R12, q_T12, 121, rfl, by decide, by decide, rfl, (gb_7 (i := 22) rfl rfl), rfl⟩
theorem lg_12_314 : lkG "WageCourtModel" 314 1549 12 0 := ⟨by decide, 13, q_R12, q_T12, 121, rfl, by decide, by decide, rfl, (gb_7 (i := 27) rfl rfl), rfl⟩
theorem lg_12_317 : lkG "WageCourtModel" 317 1547 12 0 := ⟨by decide, 11, q_R12, q_T12, 121, rfl, by decide, by decide, rfl, (gb_7 (i := 25) rfl rfl), rfl⟩
theorem lg_12_320 : lkG "WageCourtModel" 320 1550 12 0 := ⟨by decide, 14, q_R12, q_T12, 121, rfl, by decide, by decide, rfl, (gb_7 (i := 28) rfl rfl), rfl⟩
theorem lg_12_323 : lkG "WageCourtModel" 323 1551 12 0 := ⟨by decide, 15, q_R12, q_T12, 121, rfl, by decide, by decide, rfl, (gb_7 (i := 29) rfl rfl), rfl⟩
theorem lg_12_326 : lkG "WageCourtModel" 326 1552 12 0 := ⟨by decide, 16, q_R12, q_T12, 121, rfl, by decide, by decide, rfl, (gb_7 (i := 30) rfl rfl), rfl⟩
theorem lg_12_338 : lkG "WageCourtModel" 338 1601 12 0 := ⟨by decide, 65, q_R12, q_T12, 121, rfl, by decide, by decide, rfl, (gb_7 (i := 79) rfl rfl), rfl⟩
theorem lg_12_34 : lkG "WageCourtModel" 34 1545 12 2 := ⟨by decide, 9, q_R12, q_T12, 121, rfl, by decide, by decide, rfl, (gb_7 (i := 23) rfl rfl), rfl⟩
theorem lg_12_341 : lkG "WageCourtModel" 341 1554 12 0 := ⟨by decide, 18, q_R12, q_T12, 121, rfl, by decide, by decide, rfl, (gb_7 (i := 32) rfl rfl), rfl⟩
theorem lg_12_347 : lkG "WageCourtModel" 347 1548 12 0 := ⟨by decide, 12, q_R12, q_T12, 121, rfl, by decide, by decide, rfl, (gb_7 (i := 26) rfl rfl), rfl⟩
theorem lg_12_350 : lkG "WageCourtModel" 350 1588 12 0 := ⟨by decide, 52, q_R12, q_T12, 121, rfl, by decide, by decide, rfl, (gb_7 (i := 66) rfl rfl), rfl⟩
theorem lg_12_353 : lkG "WageCourtModel" 353 1580 12 0 := ⟨by decide, 44, q_R12, q_T12, 121, rfl, by decide, by decide, rfl, (gb_7 (i := 58) rfl rfl), rfl⟩
theorem lg_12_356 : lkG "WageCourtModel" 356 1581 12 0 := ⟨by decide, 45, q_R12, q_T12, 121, rfl, by decide, by decide, rfl, (gb_7 (i := 59) rfl rfl), rfl⟩
theorem lg_12_359 : lkG "WageCourtModel" 359 1584 12 0 := ⟨by decide, 48, q_R12, q_T12, 121, rfl, by decide, by decide, rfl, (gb_7 (i := 62) rfl rfl), rfl⟩
theorem lg_12_362 : lkG "WageCourtModel" 362 1585 12 0 := ⟨by decide, 49, q_R12, q_T12, 121, rfl, by decide, by decide, rfl, (gb_7 (i := 63) rfl rfl), rfl⟩
theorem lg_12_365 : lkG "WageCourtModel" 365 1587 12 0 := ⟨by decide, 51, q_R12, q_T12, 121, rfl, by decide, by decide, rfl, (gb_7 (i := 65) rfl rfl), rfl⟩
theorem lg_12_37 : lkG "WageCourtModel" 37 1553 12 0 := ⟨by decide, 17, q_R12, q_T12, 121, rfl, by decide, by decide, rfl, (gb_7 (i := 31) rfl rfl), rfl⟩
theorem lg_12_40 : lkG "WageCourtModel" 40 1555 12 2 := ⟨by decide, 19, q_R12, q_T12, 121, rfl, by decide, by decide, rfl, (gb_7 (i := 33) rfl rfl), rfl⟩
theorem lg_12_412 : lkG "WageCourtModel" 412 1590 12 0 := ⟨by decide, 54, q_R12, q_T12, 121, rfl, by decide, by decide, rfl, (gb_7 (i := 68) rfl rfl), rfl⟩
theorem lg_12_421 : lkG "WageCourtModel" 421 1591 12 0 := ⟨by decide, 55, q_R12, q_T12, 121, rfl, by decide, by decide, rfl, (gb_7 (i := 69) rfl rfl), rfl⟩
theorem lg_12_424 : lkG "WageCourtModel" 424 1592 12 0 := ⟨by decide, 56, q_R12, q_T12, 121, rfl, by decide, by decide, rfl, (gb_7 (i := 70) rfl rfl), rfl⟩
theorem lg_12_427 : lkG "WageCourtModel" 427 1595 12 0 := ⟨by decide, 59, q_R12, q_T12, 121, rfl, by decide, by decide, rfl, (gb_7 (i := 73) rfl rfl), rfl⟩
theorem lg_12_43 : lkG "WageCourtModel" 43 1556 12 2 := ⟨by decide, 20, q_R12, q_T12, 121, rfl, by decide, by decide, rfl, (gb_7 (i := 34) rfl rfl), rfl⟩
theorem lg_12_46 : lkG "WageCourtModel" 46 1557 12 2 := ⟨by decide, 21, q_R12, q_T12, 121, rfl, by decide, by decide, rfl, (gb_7 (i := 35) rfl rfl), rfl⟩
theorem lg_12_464 : lkG "WageCourtModel" 464 1610 12 3 := ⟨by decide, 74, q_R12, q_T12, 121, rfl, by decide, by decide, rfl, (gb_7 (i := 88) rfl rfl), rfl⟩
theorem lg_12_468 : lkG "WageCourtModel" 468 1611 12 0 := ⟨by decide, 75, q_R12, q_T12, 121, rfl, by decide, by decide, rfl, (gb_7 (i := 89) rfl rfl), rfl⟩
theorem lg_12_477 : lkG "WageCourtModel" 477 1613 12 0 := ⟨by decide, 77, q_R12, q_T12, 121, rfl, by decide, by decide, rfl, (gb_7 (i := 91) rfl rfl), rfl⟩
theorem lg_12_480 : lkG "WageCourtModel" 480 1614 12 0 := ⟨by decide, 78, q_R12, q_T12, 121, rfl, by decide, by decide, rfl, (gb_7 (i := 92) rfl rfl), rfl⟩
theorem lg_12_49 : lkG "WageCourtModel" 49 1558 12 2 := ⟨by decide, 22, q_R12, q_T12, 121, rfl, by decide, by decide, rfl, (gb_7 (i := 36) rfl rfl), rfl⟩
theorem lg_12_503 : lkG "WageCourtModel" 503 1625 12 0 := ⟨by decide, 89, q_R12, q_T12, 121, rfl, by decide, by decide, rfl, (gb_7 (i := 103) rfl rfl), rfl⟩
theorem lg_12_509 : lkG "WageCourtModel" 509 1623 12 0 := ⟨by decide, 87, q_R12, q_T12, 121, rfl, by decide, by decide, rfl, (gb_7 (i := 101) rfl rfl), rfl⟩
theorem lg_12_512 : lkG "WageCourtModel" 512 1624 12 0 := ⟨by decide, 88, q_R12, q_T12, 121, rfl, by decide, by decide, rfl, (gb_7 (i := 102) rfl rfl), rfl⟩
theorem lg_12_52 : lkG "WageCourtModel" 52 1559 12 2 := ⟨by decide, 23, q_R12, q_T12, 121, rfl, by decide, by decide, rfl, (gb_7 (i := 37) rfl rfl), rfl⟩
theorem lg_12_540 : lkG "WageCourtModel" 540 1638 12 0 := ⟨by decide, 102, q_R12, q_T12, 121, rfl, by decide, by decide, rfl, (gb_7 (i := 116) rfl rfl), rfl⟩
theorem lg_12_543 : lkG "WageCourtModel" 543 1639 12 0 := ⟨by decide, 103, q_R12, q_T12, 121, rfl, by decide, by decide, rfl, (gb_7 (i := 117) rfl rfl), rfl⟩
theorem lg_12_55 : lkG "WageCourtModel" 55 1560 12 2 := ⟨by decide, 24, q_R12, q_T12, 121, rfl, by decide, by decide, rfl, (gb_7 (i := 38) rfl rfl), rfl⟩
theorem lg_12_558 : lkG "WageCourtModel" 558 1643 12 0 := ⟨by decide, 107, q_R12, q_T12, 121, rfl, by decide, by decide, rfl, (gb_7 (i := 121) rfl rfl), rfl⟩
theorem lg_12_561 : lkG "WageCourtModel" 561 1642 12 0 := ⟨by decide, 106, q_R12, q_T12, 121, rfl, by decide, by decide, rfl, (gb_7 (i := 120) rfl rfl), rfl⟩
theorem lg_12_573 : lkG "WageCourtModel" 573 1628 12 0 := ⟨by decide, 92, q_R12, q_T12, 121, rfl, by decide, by decide, rfl, (gb_7 (i := 106) rfl rfl), rfl⟩
theorem lg_12_576 : lkG "WageCourtModel" 576 1629 12 0 := ⟨by decide, 93, q_R12, q_T12, 121, rfl, by decide, by decide, rfl, (gb_7 (i := 107) rfl rfl), rfl⟩
theorem lg_12_58 : lkG "WageCourtModel" 58 1561 12 2 := ⟨by decide, 25, q_R12, q_T12, 121, rfl, by decide, by decide, rfl, (gb_7 (i := 39) rfl rfl), rfl⟩
theorem lg_12_61 : lkG "WageCourtModel" 61 1562 12 2 := ⟨by decide, 26, q_R12, q_T12, 121, rfl, by decide, by decide, rfl, (gb_7 (i := 40) rfl rfl), rfl⟩
theorem lg_12_64 : lkG "WageCourtModel" 64 1563 12 2 := ⟨by decide, 27, q_R12, q_T12, 121, rfl, by decide, by decide, rfl, (gb_7 (i := 41) rfl rfl), rfl⟩
theorem lg_12_641 : lkG "WageCourtModel" 641 1651 12 3 := ⟨by decide, 115, q_R12, q_T12, 121, rfl, by decide, by decide, rfl, (gb_7 (i := 129) rfl rfl), rfl⟩
theorem lg_12_67 : lkG "WageCourtModel" 67 1564 12 2 := ⟨by decide, 28, q_R12, q_T12, 121, rfl, by decide, by decide, rfl, (gb_7 (i := 42) rfl rfl), rfl⟩
theorem lg_12_70 : lkG "WageCourtModel" 70 1565 12 2 := ⟨by decide, 29, q_R12, q_T12, 121, rfl, by decide, by decide, rfl, (gb_7 (i := 43) rfl rfl), rfl⟩
theorem lg_12_74 : lkG "WageCourtModel" 74 1566 12 2 := ⟨by decide, 30, q_R12, q_T12, 121, rfl, by decide, by decide, rfl, (gb_7 (i := 44) rfl rfl), rfl⟩
theorem lg_12_77 : lkG "WageCourtModel" 77 1567 12 2 := ⟨by decide, 31, q_R12, q_T12, 121, rfl, by decide, by decide, rfl, (gb_7 (i := 45) rfl rfl), rfl⟩
theorem lg_12_80 : lkG "WageCourtModel" 80 1568 12 2 := ⟨by decide, 32, q_R12, q_T12, 121, rfl, by decide, by decide, rfl, (gb_7 (i := 46) rfl rfl), rfl⟩
theorem lg_12_83 : lkG "WageCourtModel" 83 1569 12 2 := ⟨by decide, 33, q_R12, q_T12, 121, rfl, by decide, by decide, rfl, (gb_7 (i := 47) rfl rfl), rfl⟩
theorem lg_12_86 : lkG "WageCourtModel" 86 1570 12 2 := ⟨by decide, 34, q_R12, q_T12, 121, rfl, by decide, by decide, rfl, (gb_7 (i := 48) rfl rfl), rfl⟩
theorem lg_12_89 : lkG "WageCourtModel" 89 1571 12 2 := ⟨by decide, 35, q_R12, q_T12, 121, rfl, by decide, by decide, rfl, (gb_7 (i := 49) rfl rfl), rfl⟩
theorem lg_12_92 : lkG "WageCourtModel" 92 1572 12 2 := ⟨by decide, 36, q_R12, q_T12, 121, rfl, by decide, by decide, rfl, (gb_7 (i := 50) rfl rfl), rfl⟩
theorem lg_12_95 : lkG "WageCourtModel" 95 1573 12 2 := ⟨by decide, 37, q_R12, q_T12, 121, rfl, by decide, by decide, rfl, (gb_7 (i := 51) rfl rfl), rfl⟩
theorem lg_12_98 : lkG "WageCourtModel" 98 1574 12 2 := ⟨by decide, 38, q_R12, q_T12, 121, rfl, by decide, by decide, rfl, (gb_7 (i := 52) rfl rfl), rfl⟩
theorem lg_1_15 : lkG "WageCourt$Formula" 15 135 1 2 := ⟨by decide, 7, q_R1, q_T1, 10, rfl, by decide, by decide, rfl, (gb_1 (i := 44) rfl rfl), rfl⟩
theorem lg_1_18 : lkG "WageCourt$Formula" 18 137 1 2 := ⟨by decide, 9, q_R1, q_T1, 10, rfl, by decide, by decide, rfl, (gb_1 (i := 46) rfl rfl), rfl⟩
theorem lg_1_21 : lkG "WageCourt$Formula" 21 129 1 3 := ⟨by decide, 1, q_R1, q_T1, 10, rfl, by decide, by decide, rfl, (gb_1 (i := 38) rfl rfl), rfl⟩
theorem lg_1_25 : lkG "WageCourt$Formula" 25 130 1 0 := ⟨by decide, 2, q_R1, q_T1, 10, rfl, by decide, by decide, rfl, (gb_1 (i := 39) rfl rfl), rfl⟩
theorem lg_1_29 : lkG "WageCourt$Formula" 29 131 1 0 := ⟨by decide, 3, q_R1, q_T1, 10, rfl, by decide, by decide, rfl, (gb_1 (i := 40) rfl rfl), rfl⟩
theorem lg_1_32 : lkG "WageCourt$Formula" 32 132 1 3 := ⟨by decide, 4, q_R1, q_T1, 10, rfl, by decide, by decide, rfl, (gb_1 (i := 41) rfl rfl), rfl⟩
theorem lg_1_38 : lkG "WageCourt$Formula" 38 134 1 0 := ⟨by decide, 6, q_R1, q_T1, 10, rfl, by decide, by decide, rfl, (gb_1 (i := 43) rfl rfl), rfl⟩
theorem lg_1_41 : lkG "WageCourt$Formula" 41 136 1 0 := ⟨by decide, 8, q_R1, q_T1, 10, rfl, by decide, by decide, rfl, (gb_1 (i := 45) rfl rfl), rfl⟩
theorem lg_1_9 : lkG "WageCourt$Formula" 9 133 1 2 := ⟨by decide, 5, q_R1, q_T1, 10, rfl, by decide, by decide, rfl, (gb_1 (i := 42) rfl rfl), rfl⟩
theorem lg_3_15 : lkG "WageCourt$Land" 15 388 3 2 := ⟨by decide, 4, q_R3, q_T3, 10, rfl, by decide, by decide, rfl, (gb_1 (i := 86) rfl rfl), rfl⟩
theorem lg_3_18 : lkG "WageCourt$Land" 18 389 3 2 := ⟨by decide, 5, q_R3, q_T3, 10, rfl, by decide, by decide, rfl, (gb_1 (i := 88) rfl rfl), rfl⟩
theorem lg_3_21 : lkG "WageCourt$Land" 21 390 3 2 := ⟨by decide, 6, q_R3, q_T3, 10, rfl, by decide, by decide, rfl, (gb_1 (i := 91) rfl rfl), rfl⟩
theorem lg_3_24 : lkG "WageCourt$Land" 24 391 3 2 := ⟨by decide, 7, q_R3, q_T3, 10, rfl, by decide, by decide, rfl, (gb_1 (i := 93) rfl rfl), rfl⟩
theorem lg_3_30 : lkG "WageCourt$Land" 30 393 3 2 := ⟨by decide, 9, q_R3, q_T3, 10, rfl, by decide, by decide, rfl, (gb_1 (i := 97) rfl rfl), rfl⟩
theorem lg_3_39 : lkG "WageCourt$Land" 39 384 3 0 := ⟨by decide, 0, q_R3, q_T3, 10, rfl, by decide, by decide, rfl, (gb_1 (i := 78) rfl rfl), rfl⟩
theorem lg_3_47 : lkG "WageCourt$Land" 47 385 3 0 := ⟨by decide, 1, q_R3, q_T3, 10, rfl, by decide, by decide, rfl, (gb_1 (i := 80) rfl rfl), rfl⟩
theorem lg_3_50 : lkG "WageCourt$Land" 50 386 3 0 := ⟨by decide, 2, q_R3, q_T3, 10, rfl, by decide, by decide, rfl, (gb_1 (i := 82) rfl rfl), rfl⟩
theorem lg_3_9 : lkG "WageCourt$Land" 9 387 3 2 := ⟨by decide, 3, q_R3, q_T3, 10, rfl, by decide, by decide, rfl, (gb_1 (i := 84) rfl rfl), rfl⟩
theorem lg_4_11 : lkG "WageCourt$Ledger" 11 512 4 2 := ⟨by decide, 0, q_R4, q_T4, 4, rfl, by decide, by decide, rfl, (gb_1 (i := 131) rfl rfl), rfl⟩
theorem lg_4_19 : lkG "WageCourt$Ledger" 19 513 4 2 := ⟨by decide, 1, q_R4, q_T4, 4, rfl, by decide, by decide, rfl, (gb_1 (i := 133) rfl rfl), rfl⟩
theorem lg_4_23 : lkG "WageCourt$Ledger" 23 514 4 0 := ⟨by decide, 2, q_R4, q_T4, 4, rfl, by decide, by decide, rfl, (gb_1 (i := 136) rfl rfl), rfl⟩
theorem lg_4_35 : lkG "WageCourt$Ledger" 35 6 0 2 := ⟨by decide, 6, q_R0, q_T0, 7, rfl, by decide, by decide, rfl, (gb_4 (i := 182) rfl rfl), rfl⟩
theorem lg_4_39 : lkG "WageCourt$Ledger" 39 515 4 0 := ⟨by decide, 3, q_R4, q_T4, 4, rfl, by decide, by decide, rfl, (gb_1 (i := 141) rfl rfl), rfl⟩
theorem lg_4_42 : lkG "WageCourt$Ledger" 42 1280 10 0 := ⟨by decide, 0, q_R10, q_T10, 17, rfl, by decide, by decide, rfl, (gb_4 (i := 70) rfl rfl), rfl⟩
theorem lg_4_45 : lkG "WageCourt$Ledger" 45 1282 10 0 := ⟨by decide, 2, q_R10, q_T10, 17, rfl, by decide, by decide, rfl, (gb_4 (i := 79) rfl rfl), rfl⟩
theorem lg_4_55 : lkG "WageCourt$Ledger" 55 1284 10 0 := ⟨by decide, 4, q_R10, q_T10, 17, rfl, by decide, by decide, rfl, (gb_4 (i := 84) rfl rfl), rfl⟩
theorem lg_4_58 : lkG "WageCourt$Ledger" 58 0 0 0 := ⟨by decide, 0, q_R0, q_T0, 7, rfl, by decide, by decide, rfl, (gb_4 (i := 166) rfl rfl), rfl⟩
theorem lg_4_59 : lkG "WageCourt$Ledger" 59 1 0 0 := ⟨by decide, 1, q_R0, q_T0, 7, rfl, by decide, by decide, rfl, (gb_4 (i := 170) rfl rfl), rfl⟩
theorem lg_4_62 : lkG "WageCourt$Ledger" 62 3 0 0 := ⟨by decide, 3, q_R0, q_T0, 7, rfl, by decide, by decide, rfl, (gb_4 (i := 175) rfl rfl), rfl⟩
theorem lg_4_65 : lkG "WageCourt$Ledger" 65 2 0 0 := ⟨by decide, 2, q_R0, q_T0, 7, rfl, by decide, by decide, rfl, (gb_4 (i := 173) rfl rfl), rfl⟩
theorem lg_4_68 : lkG "WageCourt$Ledger" 68 4 0 0 := ⟨by decide, 4, q_R0, q_T0, 7, rfl, by decide, by decide, rfl, (gb_4 (i := 177) rfl rfl), rfl⟩
theorem lg_4_75 : lkG "WageCourt$Ledger" 75 1281 10 0 := ⟨by decide, 1, q_R10, q_T10, 17, rfl, by decide, by decide, rfl, (gb_4 (i := 76) rfl rfl), rfl⟩
theorem lg_4_78 : lkG "WageCourt$Ledger" 78 1283 10 0 := ⟨by decide, 3, q_R10, q_T10, 17, rfl, by decide, by decide, rfl, (gb_4 (i := 82) rfl rfl), rfl⟩
theorem lg_5_15 : lkG "WageCourt$Lexer" 15 642 5 2 := ⟨by decide, 2, q_R5, q_T5, 7, rfl, by decide, by decide, rfl, (gb_1 (i := 221) rfl rfl), rfl⟩
theorem lg_5_18 : lkG "WageCourt$Lexer" 18 643 5 2 := ⟨by decide, 3, q_R5, q_T5, 7, rfl, by decide, by decide, rfl, (gb_1 (i := 223) rfl rfl), rfl⟩
theorem lg_5_21 : lkG "WageCourt$Lexer" 21 644 5 2 := ⟨by decide, 4, q_R5, q_T5, 7, rfl, by decide, by decide, rfl, (gb_1 (i := 225) rfl rfl), rfl⟩
theorem lg_5_25 : lkG "WageCourt$Lexer" 25 645 5 2 := ⟨by decide, 5, q_R5, q_T5, 7, rfl, by decide, by decide, rfl, (gb_1 (i := 227) rfl rfl), rfl⟩
theorem lg_5_56 : lkG "WageCourt$Lexer" 56 641 5 0 := ⟨by decide, 1, q_R5, q_T5, 7, rfl, by decide, by decide, rfl, (gb_1 (i := 220) rfl rfl), rfl⟩
theorem lg_5_59 : lkG "WageCourt$Lexer" 59 646 5 0 := ⟨by decide, 6, q_R5, q_T5, 7, rfl, by decide, by decide, rfl, (gb_1 (i := 228) rfl rfl), rfl⟩
theorem lg_5_9 : lkG "WageCourt$Lexer" 9 640 5 2 := ⟨by decide, 0, q_R5, q_T5, 7, rfl, by decide, by decide, rfl, (gb_1 (i := 218) rfl rfl), rfl⟩
theorem lg_6_108 : lkG "WageCourt$Parser" 108 514 4 0 := ⟨by decide, 2, q_R4, q_T4, 4, rfl, by decide, by decide, rfl, (gb_1 (i := 138) rfl rfl), rfl⟩
theorem lg_6_111 : lkG "WageCourt$Parser" 111 786 6 0 := ⟨by decide, 18, q_R6, q_T6, 19, rfl, by decide, by decide, rfl, (gb_2 (i := 35) rfl rfl), rfl⟩
theorem lg_6_117 : lkG "WageCourt$Parser" 117 258 2 0 := ⟨by decide, 2, q_R2, q_T2, 13, rfl, by decide, by decide, rfl, (gb_3 (i := 135) rfl rfl), rfl⟩
theorem lg_6_161 : lkG "WageCourt$Parser" 161 780 6 0 := ⟨by decide, 12, q_R6, q_T6, 19, rfl, by decide, by decide, rfl, (gb_2 (i := 29) rfl rfl), rfl⟩
theorem lg_6_185 : lkG "WageCourt$Parser" 185 265 2 0 := ⟨by decide, 9, q_R2, q_T2, 13, rfl, by decide, by decide, rfl, (gb_3 (i := 157) rfl rfl), rfl⟩
theorem lg_6_200 : lkG "WageCourt$Parser" 200 259 2 0 := ⟨by decide, 3, q_R2, q_T2, 13, rfl, by decide, by decide, rfl, (gb_3 (i := 140) rfl rfl), rfl⟩
theorem lg_6_209 : lkG "WageCourt$Parser" 209 264 2 1 := ⟨by decide, 8, q_R2, q_T2, 13, rfl, by decide, by decide, rfl, (gb_3 (i := 154) rfl rfl), rfl⟩
theorem lg_6_21 : lkG "WageCourt$Parser" 21 781 6 2 := ⟨by decide, 13, q_R6, q_T6, 19, rfl, by decide, by decide, rfl, (gb_2 (i := 30) rfl rfl), rfl⟩
theorem lg_6_232 : lkG "WageCourt$Parser" 232 128 1 3 := ⟨by decide, 0, q_R1, q_T1, 10, rfl, by decide, by decide, rfl, (gb_1 (i := 37) rfl rfl), rfl⟩
theorem lg_6_245 : lkG "WageCourt$Parser" 245 643 5 2 := ⟨by decide, 3, q_R5, q_T5, 7, rfl, by decide, by decide, rfl, (gb_1 (i := 224) rfl rfl), rfl⟩
theorem lg_6_25 : lkG "WageCourt$Parser" 25 768 6 2 := ⟨by decide, 0, q_R6, q_T6, 19, rfl, by decide, by decide, rfl, (gb_2 (i := 14) rfl rfl), rfl⟩
theorem lg_6_29 : lkG "WageCourt$Parser" 29 769 6 2 := ⟨by decide, 1, q_R6, q_T6, 19, rfl, by decide, by decide, rfl, (gb_2 (i := 15) rfl rfl), rfl⟩
theorem lg_6_33 : lkG "WageCourt$Parser" 33 775 6 2 := ⟨by decide, 7, q_R6, q_T6, 19, rfl, by decide, by decide, rfl, (gb_2 (i := 24) rfl rfl), rfl⟩
theorem lg_6_42 : lkG "WageCourt$Parser" 42 642 5 2 := ⟨by decide, 2, q_R5, q_T5, 7, rfl, by decide, by decide, rfl, (gb_1 (i := 222) rfl rfl), rfl⟩
theorem lg_6_46 : lkG "WageCourt$Parser" 46 644 5 2 := ⟨by decide, 4, q_R5, q_T5, 7, rfl, by decide, by decide, rfl, (gb_1 (i := 226) rfl rfl), rfl⟩
theorem lg_6_53 : lkG "WageCourt$Parser" 53 773 6 0 := ⟨by decide, 5, q_R6, q_T6, 19, rfl, by decide, by decide, rfl, (gb_2 (i := 20) rfl rfl), rfl⟩
theorem lg_6_56 : lkG "WageCourt$Parser" 56 776 6 0 := ⟨by decide, 8, q_R6, q_T6, 19, rfl, by decide, by decide, rfl, (gb_2 (i := 25) rfl rfl), rfl⟩
theorem lg_6_59 : lkG "WageCourt$Parser" 59 777 6 0 := ⟨by decide, 9, q_R6, q_T6, 19, rfl, by decide, by decide, rfl, (gb_2 (i := 26) rfl rfl), rfl⟩
theorem lg_6_62 : lkG "WageCourt$Parser" 62 778 6 0 := ⟨by decide, 10, q_R6, q_T6, 19, rfl, by decide, by decide, rfl, (gb_2 (i := 27) rfl rfl), rfl⟩
theorem lg_6_65 : lkG "WageCourt$Parser" 65 771 6 0 := ⟨by decide, 3, q_R6, q_T6, 19, rfl, by decide, by decide, rfl, (gb_2 (i := 17) rfl rfl), rfl⟩
theorem lg_6_68 : lkG "WageCourt$Parser" 68 772 6 0 := ⟨by decide, 4, q_R6, q_T6, 19, rfl, by decide, by decide, rfl, (gb_2 (i := 19) rfl rfl), rfl⟩
theorem lg_6_71 : lkG "WageCourt$Parser" 71 779 6 0 := ⟨by decide, 11, q_R6, q_T6, 19, rfl, by decide, by decide, rfl, (gb_2 (i := 28) rfl rfl), rfl⟩
theorem lg_6_74 : lkG "WageCourt$Parser" 74 782 6 0 := ⟨by decide, 14, q_R6, q_T6, 19, rfl, by decide, by decide, rfl, (gb_2 (i := 31) rfl rfl), rfl⟩
theorem lg_6_77 : lkG "WageCourt$Parser" 77 785 6 0 := ⟨by decide, 17, q_R6, q_T6, 19, rfl, by decide, by decide, rfl, (gb_2 (i := 34) rfl rfl), rfl⟩
theorem lg_6_84 : lkG "WageCourt$Parser" 84 783 6 0 := ⟨by decide, 15, q_R6, q_T6, 19, rfl, by decide, by decide, rfl, (gb_2 (i := 32) rfl rfl), rfl⟩
theorem lg_6_87 : lkG "WageCourt$Parser" 87 784 6 0 := ⟨by decide, 16, q_R6, q_T6, 19, rfl, by decide, by decide, rfl, (gb_2 (i := 33) rfl rfl), rfl⟩
theorem lg_6_9 : lkG "WageCourt$Parser" 9 770 6 2 := ⟨by decide, 2, q_R6, q_T6, 19, rfl, by decide, by decide, rfl, (gb_2 (i := 16) rfl rfl), rfl⟩
theorem lg_6_96 : lkG "WageCourt$Parser" 96 256 2 0 := ⟨by decide, 0, q_R2, q_T2, 13, rfl, by decide, by decide, rfl, (gb_3 (i := 126) rfl rfl), rfl⟩
theorem lg_6_99 : lkG "WageCourt$Parser" 99 1281 10 0 := ⟨by decide, 1, q_R10, q_T10, 17, rfl, by decide, by decide, rfl, (gb_4 (i := 74) rfl rfl), rfl⟩
theorem lg_7_15 : lkG "WageCourt$Parting" 15 897 7 2 := ⟨by decide, 1, q_R7, q_T7, 12, rfl, by decide, by decide, rfl, (gb_2 (i := 198) rfl rfl), rfl⟩
theorem lg_7_18 : lkG "WageCourt$Parting" 18 898 7 2 := ⟨by decide, 2, q_R7, q_T7, 12, rfl, by decide, by decide, rfl, (gb_2 (i := 199) rfl rfl), rfl⟩
theorem lg_7_21 : lkG "WageCourt$Parting" 21 899 7 2 := ⟨by decide, 3, q_R7, q_T7, 12, rfl, by decide, by decide, rfl, (gb_2 (i := 201) rfl rfl), rfl⟩
theorem lg_7_24 : lkG "WageCourt$Parting" 24 900 7 2 := ⟨by decide, 4, q_R7, q_T7, 12, rfl, by decide, by decide, rfl, (gb_2 (i := 203) rfl rfl), rfl⟩
theorem lg_7_27 : lkG "WageCourt$Parting" 27 902 7 2 := ⟨by decide, 6, q_R7, q_T7, 12, rfl, by decide, by decide, rfl, (gb_2 (i := 205) rfl rfl), rfl⟩
theorem lg_7_30 : lkG "WageCourt$Parting" 30 903 7 2 := ⟨by decide, 7, q_R7, q_T7, 12, rfl, by decide, by decide, rfl, (gb_2 (i := 206) rfl rfl), rfl⟩
theorem lg_7_33 : lkG "WageCourt$Parting" 33 904 7 2 := ⟨by decide, 8, q_R7, q_T7, 12, rfl, by decide, by decide, rfl, (gb_2 (i := 207) rfl rfl), rfl⟩
theorem lg_7_36 : lkG "WageCourt$Parting" 36 905 7 2 := ⟨by decide, 9, q_R7, q_T7, 12, rfl, by decide, by decide, rfl, (gb_2 (i := 208) rfl rfl), rfl⟩
theorem lg_7_49 : lkG "WageCourt$Parting" 49 906 7 0 := ⟨by decide, 10, q_R7, q_T7, 12, rfl, by decide, by decide, rfl, (gb_2 (i := 209) rfl rfl), rfl⟩
theorem lg_7_53 : lkG "WageCourt$Parting" 53 901 7 0 := ⟨by decide, 5, q_R7, q_T7, 12, rfl, by decide, by decide, rfl, (gb_2 (i := 204) rfl rfl), rfl⟩
theorem lg_7_84 : lkG "WageCourt$Parting" 84 907 7 0 := ⟨by decide, 11, q_R7, q_T7, 12, rfl, by decide, by decide, rfl, (gb_2 (i := 210) rfl rfl), rfl⟩
theorem lg_7_9 : lkG "WageCourt$Parting" 9 896 7 2 := ⟨by decide, 0, q_R7, q_T7, 12, rfl, by decide, by decide, rfl, (gb_2 (i := 196) rfl rfl), rfl⟩
theorem lg_8_100 : lkG "WageCourt$Reckoning" 100 513 4 2 := ⟨by decide, 1, q_R4, q_T4, 4, rfl, by decide, by decide, rfl, (gb_1 (i := 135) rfl rfl), rfl⟩
theorem lg_8_103 : lkG "WageCourt$Reckoning" 103 1296 10 1 := ⟨by decide, 16, q_R10, q_T10, 17, rfl, by decide, by decide, rfl, (gb_4 (i := 117) rfl rfl), rfl⟩
theorem lg_8_11 : lkG "WageCourt$Reckoning" 11 1029 8 2 := ⟨by decide, 5, q_R8, q_T8, 20, rfl, by decide, by decide, rfl, (gb_2 (i := 124) rfl rfl), rfl⟩
theorem lg_8_122 : lkG "WageCourt$Reckoning" 122 1152 9 2 := ⟨by decide, 0, q_R9, q_T9, 9, rfl, by decide, by decide, rfl, (gb_2 (i := 82) rfl rfl), rfl⟩
theorem lg_8_128 : lkG "WageCourt$Reckoning" 128 389 3 2 := ⟨by decide, 5, q_R3, q_T3, 10, rfl, by decide, by decide, rfl, (gb_1 (i := 89) rfl rfl), rfl⟩
theorem lg_8_137 : lkG "WageCourt$Reckoning" 137 1287 10 3 := ⟨by decide, 7, q_R10, q_T10, 17, rfl, by decide, by decide, rfl, (gb_4 (i := 94) rfl rfl), rfl⟩
theorem lg_8_141 : lkG "WageCourt$Reckoning" 141 1280 10 0 := ⟨by decide, 0, q_R10, q_T10, 17, rfl, by decide, by decide, rfl, (gb_4 (i := 71) rfl rfl), rfl⟩
theorem lg_8_142 : lkG "WageCourt$Reckoning" 142 1294 10 0 := ⟨by decide, 14, q_R10, q_T10, 17, rfl, by decide, by decide, rfl, (gb_4 (i := 115) rfl rfl), rfl⟩
theorem lg_8_155 : lkG "WageCourt$Reckoning" 155 1032 8 0 := ⟨by decide, 8, q_R8, q_T8, 20, rfl, by decide, by decide, rfl, (gb_2 (i := 128) rfl rfl), rfl⟩
theorem lg_8_161 : lkG "WageCourt$Reckoning" 161 391 3 2 := ⟨by decide, 7, q_R3, q_T3, 10, rfl, by decide, by decide, rfl, (gb_1 (i := 94) rfl rfl), rfl⟩
theorem lg_8_17 : lkG "WageCourt$Reckoning" 17 1030 8 2 := ⟨by decide, 6, q_R8, q_T8, 20, rfl, by decide, by decide, rfl, (gb_2 (i := 125) rfl rfl), rfl⟩
theorem lg_8_196 : lkG "WageCourt$Reckoning" 196 1295 10 3 := ⟨by decide, 15, q_R10, q_T10, 17, rfl, by decide, by decide, rfl, (gb_4 (i := 116) rfl rfl), rfl⟩
theorem lg_8_202 : lkG "WageCourt$Reckoning" 202 1281 10 0 := ⟨by decide, 1, q_R10, q_T10, 17, rfl, by decide, by decide, rfl, (gb_4 (i := 75) rfl rfl), rfl⟩
theorem lg_8_209 : lkG "WageCourt$Reckoning" 209 1286 10 2 := ⟨by decide, 6, q_R10, q_T10, 17, rfl, by decide, by decide, rfl, (gb_4 (i := 91) rfl rfl), rfl⟩
theorem lg_8_21 : lkG "WageCourt$Reckoning" 21 1031 8 2 := ⟨by decide, 7, q_R8, q_T8, 20, rfl, by decide, by decide, rfl, (gb_2 (i := 127) rfl rfl), rfl⟩
theorem lg_8_213 : lkG "WageCourt$Reckoning" 213 256 2 0 := ⟨by decide, 0, q_R2, q_T2, 13, rfl, by decide, by decide, rfl, (gb_3 (i := 129) rfl rfl), rfl⟩
theorem lg_8_220 : lkG "WageCourt$Reckoning" 220 1154 9 2 := ⟨by decide, 2, q_R9, q_T9, 9, rfl, by decide, by decide, rfl, (gb_2 (i := 85) rfl rfl), rfl⟩
theorem lg_8_224 : lkG "WageCourt$Reckoning" 224 263 2 2 := ⟨by decide, 7, q_R2, q_T2, 13, rfl, by decide, by decide, rfl, (gb_3 (i := 152) rfl rfl), rfl⟩
theorem lg_8_227 : lkG "WageCourt$Reckoning" 227 390 3 2 := ⟨by decide, 6, q_R3, q_T3, 10, rfl, by decide, by decide, rfl, (gb_1 (i := 92) rfl rfl), rfl⟩
theorem lg_8_236 : lkG "WageCourt$Reckoning" 236 1282 10 0 := ⟨by decide, 2, q_R10, q_T10, 17, rfl, by decide, by decide, rfl, (gb_4 (i := 80) rfl rfl), rfl⟩
theorem lg_8_24 : lkG "WageCourt$Reckoning" 24 1033 8 2 := ⟨by decide, 9, q_R8, q_T8, 20, rfl, by decide, by decide, rfl, (gb_2 (i := 129) rfl rfl), rfl⟩
theorem lg_8_242 : lkG "WageCourt$Reckoning" 242 1285 10 2 := ⟨by decide, 5, q_R10, q_T10, 17, rfl, by decide, by decide, rfl, (gb_4 (i := 87) rfl rfl), rfl⟩
theorem lg_8_249 : lkG "WageCourt$Reckoning" 249 1293 10 0 := ⟨by decide, 13, q_R10, q_T10, 17, rfl, by decide, by decide, rfl, (gb_4 (i := 112) rfl rfl), rfl⟩
theorem lg_8_256 : lkG "WageCourt$Reckoning" 256 1291 10 2 := ⟨by decide, 11, q_R10, q_T10, 17, rfl, by decide, by decide, rfl, (gb_4 (i := 106) rfl rfl), rfl⟩
theorem lg_8_265 : lkG "WageCourt$Reckoning" 265 1292 10 0 := ⟨by decide, 12, q_R10, q_T10, 17, rfl, by decide, by decide, rfl, (gb_4 (i := 108) rfl rfl), rfl⟩
theorem lg_8_276 : lkG "WageCourt$Reckoning" 276 1043 8 0 := ⟨by decide, 19, q_R8, q_T8, 20, rfl, by decide, by decide, rfl, (gb_2 (i := 146) rfl rfl), rfl⟩
theorem lg_8_282 : lkG "WageCourt$Reckoning" 282 1041 8 0 := ⟨by decide, 17, q_R8, q_T8, 20, rfl, by decide, by decide, rfl, (gb_2 (i := 142) rfl rfl), rfl⟩
theorem lg_8_285 : lkG "WageCourt$Reckoning" 285 1288 10 2 := ⟨by decide, 8, q_R10, q_T10, 17, rfl, by decide, by decide, rfl, (gb_4 (i := 99) rfl rfl), rfl⟩
theorem lg_8_288 : lkG "WageCourt$Reckoning" 288 258 2 0 := ⟨by decide, 2, q_R2, q_T2, 13, rfl, by decide, by decide, rfl, (gb_3 (i := 137) rfl rfl), rfl⟩
theorem lg_8_289 : lkG "WageCourt$Reckoning" 289 262 2 2 := ⟨by decide, 6, q_R2, q_T2, 13, rfl, by decide, by decide, rfl, (gb_3 (i := 150) rfl rfl), rfl⟩
theorem lg_8_29 : lkG "WageCourt$Reckoning" 29 1034 8 2 := ⟨by decide, 10, q_R8, q_T8, 20, rfl, by decide, by decide, rfl, (gb_2 (i := 131) rfl rfl), rfl⟩
theorem lg_8_295 : lkG "WageCourt$Reckoning" 295 264 2 1 := ⟨by decide, 8, q_R2, q_T2, 13, rfl, by decide, by decide, rfl, (gb_3 (i := 155) rfl rfl), rfl⟩
theorem lg_8_33 : lkG "WageCourt$Reckoning" 33 1035 8 2 := ⟨by decide, 11, q_R8, q_T8, 20, rfl, by decide, by decide, rfl, (gb_2 (i := 133) rfl rfl), rfl⟩
theorem lg_8_36 : lkG "WageCourt$Reckoning" 36 1036 8 2 := ⟨by decide, 12, q_R8, q_T8, 20, rfl, by decide, by decide, rfl, (gb_2 (i := 135) rfl rfl), rfl⟩
theorem lg_8_39 : lkG "WageCourt$Reckoning" 39 1037 8 2 := ⟨by decide, 13, q_R8, q_T8, 20, rfl, by decide, by decide, rfl, (gb_2 (i := 136) rfl rfl), rfl⟩
theorem lg_8_42 : lkG "WageCourt$Reckoning" 42 1038 8 2 := ⟨by decide, 14, q_R8, q_T8, 20, rfl, by decide, by decide, rfl, (gb_2 (i := 137) rfl rfl), rfl⟩
theorem lg_8_45 : lkG "WageCourt$Reckoning" 45 1039 8 2 := ⟨by decide, 15, q_R8, q_T8, 20, rfl, by decide, by decide, rfl, (gb_2 (i := 139) rfl rfl), rfl⟩
theorem lg_8_48 : lkG "WageCourt$Reckoning" 48 1040 8 2 := ⟨by decide, 16, q_R8, q_T8, 20, rfl, by decide, by decide, rfl, (gb_2 (i := 141) rfl rfl), rfl⟩
theorem lg_8_51 : lkG "WageCourt$Reckoning" 51 1042 8 2 := ⟨by decide, 18, q_R8, q_T8, 20, rfl, by decide, by decide, rfl, (gb_2 (i := 144) rfl rfl), rfl⟩
theorem lg_8_54 : lkG "WageCourt$Reckoning" 54 1024 8 2 := ⟨by decide, 0, q_R8, q_T8, 20, rfl, by decide, by decide, rfl, (gb_2 (i := 119) rfl rfl), rfl⟩
theorem lg_8_58 : lkG "WageCourt$Reckoning" 58 1025 8 2 := ⟨by decide, 1, q_R8, q_T8, 20, rfl, by decide, by decide, rfl, (gb_2 (i := 120) rfl rfl), rfl⟩
theorem lg_8_62 : lkG "WageCourt$Reckoning" 62 1026 8 0 := ⟨by decide, 2, q_R8, q_T8, 20, rfl, by decide, by decide, rfl, (gb_2 (i := 121) rfl rfl), rfl⟩
theorem lg_8_66 : lkG "WageCourt$Reckoning" 66 1027 8 0 := ⟨by decide, 3, q_R8, q_T8, 20, rfl, by decide, by decide, rfl, (gb_2 (i := 122) rfl rfl), rfl⟩
theorem lg_8_69 : lkG "WageCourt$Reckoning" 69 1028 8 0 := ⟨by decide, 4, q_R8, q_T8, 20, rfl, by decide, by decide, rfl, (gb_2 (i := 123) rfl rfl), rfl⟩
theorem lg_8_72 : lkG "WageCourt$Reckoning" 72 512 4 2 := ⟨by decide, 0, q_R4, q_T4, 4, rfl, by decide, by decide, rfl, (gb_1 (i := 132) rfl rfl), rfl⟩
theorem lg_8_77 : lkG "WageCourt$Reckoning" 77 0 0 0 := ⟨by decide, 0, q_R0, q_T0, 7, rfl, by decide, by decide, rfl, (gb_4 (i := 165) rfl rfl), rfl⟩
theorem lg_8_80 : lkG "WageCourt$Reckoning" 80 1 0 0 := ⟨by decide, 1, q_R0, q_T0, 7, rfl, by decide, by decide, rfl, (gb_4 (i := 169) rfl rfl), rfl⟩
theorem lg_8_83 : lkG "WageCourt$Reckoning" 83 2 0 0 := ⟨by decide, 2, q_R0, q_T0, 7, rfl, by decide, by decide, rfl, (gb_4 (i := 172) rfl rfl), rfl⟩
theorem lg_8_86 : lkG "WageCourt$Reckoning" 86 5 0 2 := ⟨by decide, 5, q_R0, q_T0, 7, rfl, by decide, by decide, rfl, (gb_4 (i := 179) rfl rfl), rfl⟩
theorem lg_8_97 : lkG "WageCourt$Reckoning" 97 515 4 0 := ⟨by decide, 3, q_R4, q_T4, 4, rfl, by decide, by decide, rfl, (gb_1 (i := 142) rfl rfl), rfl⟩
theorem lg_9_108 : lkG "WageCourt$Scene" 108 256 2 0 := ⟨by decide, 0, q_R2, q_T2, 13, rfl, by decide, by decide, rfl, (gb_3 (i := 128) rfl rfl), rfl⟩
theorem lg_9_115 : lkG "WageCourt$Scene" 115 265 2 0 := ⟨by decide, 9, q_R2, q_T2, 13, rfl, by decide, by decide, rfl, (gb_3 (i := 156) rfl rfl), rfl⟩
theorem lg_9_124 : lkG "WageCourt$Scene" 124 258 2 0 := ⟨by decide, 2, q_R2, q_T2, 13, rfl, by decide, by decide, rfl, (gb_3 (i := 136) rfl rfl), rfl⟩
theorem lg_9_135 : lkG "WageCourt$Scene" 135 262 2 2 := ⟨by decide, 6, q_R2, q_T2, 13, rfl, by decide, by decide, rfl, (gb_3 (i := 148) rfl rfl), rfl⟩
theorem lg_9_144 : lkG "WageCourt$Scene" 144 266 2 0 := ⟨by decide, 10, q_R2, q_T2, 13, rfl, by decide, by decide, rfl, (gb_3 (i := 160) rfl rfl), rfl⟩
theorem lg_9_147 : lkG "WageCourt$Scene" 147 267 2 0 := ⟨by decide, 11, q_R2, q_T2, 13, rfl, by decide, by decide, rfl, (gb_3 (i := 163) rfl rfl), rfl⟩
theorem lg_9_15 : lkG "WageCourt$Scene" 15 1156 9 2 := ⟨by decide, 4, q_R9, q_T9, 9, rfl, by decide, by decide, rfl, (gb_2 (i := 87) rfl rfl), rfl⟩
theorem lg_9_154 : lkG "WageCourt$Scene" 154 1289 10 2 := ⟨by decide, 9, q_R10, q_T10, 17, rfl, by decide, by decide, rfl, (gb_4 (i := 102) rfl rfl), rfl⟩
theorem lg_9_157 : lkG "WageCourt$Scene" 157 1157 9 0 := ⟨by decide, 5, q_R9, q_T9, 9, rfl, by decide, by decide, rfl, (gb_2 (i := 88) rfl rfl), rfl⟩
theorem lg_9_160 : lkG "WageCourt$Scene" 160 1288 10 2 := ⟨by decide, 8, q_R10, q_T10, 17, rfl, by decide, by decide, rfl, (gb_4 (i := 98) rfl rfl), rfl⟩
theorem lg_9_163 : lkG "WageCourt$Scene" 163 1290 10 2 := ⟨by decide, 10, q_R10, q_T10, 17, rfl, by decide, by decide, rfl, (gb_4 (i := 104) rfl rfl), rfl⟩
theorem lg_9_166 : lkG "WageCourt$Scene" 166 260 2 0 := ⟨by decide, 4, q_R2, q_T2, 13, rfl, by decide, by decide, rfl, (gb_3 (i := 142) rfl rfl), rfl⟩
theorem lg_9_173 : lkG "WageCourt$Scene" 173 261 2 0 := ⟨by decide, 5, q_R2, q_T2, 13, rfl, by decide, by decide, rfl, (gb_3 (i := 145) rfl rfl), rfl⟩
theorem lg_9_18 : lkG "WageCourt$Scene" 18 1159 9 0 := ⟨by decide, 7, q_R9, q_T9, 9, rfl, by decide, by decide, rfl, (gb_2 (i := 90) rfl rfl), rfl⟩
theorem lg_9_22 : lkG "WageCourt$Scene" 22 1152 9 2 := ⟨by decide, 0, q_R9, q_T9, 9, rfl, by decide, by decide, rfl, (gb_2 (i := 81) rfl rfl), rfl⟩
theorem lg_9_26 : lkG "WageCourt$Scene" 26 1153 9 2 := ⟨by decide, 1, q_R9, q_T9, 9, rfl, by decide, by decide, rfl, (gb_2 (i := 83) rfl rfl), rfl⟩
theorem lg_9_30 : lkG "WageCourt$Scene" 30 1154 9 2 := ⟨by decide, 2, q_R9, q_T9, 9, rfl, by decide, by decide, rfl, (gb_2 (i := 84) rfl rfl), rfl⟩
theorem lg_9_34 : lkG "WageCourt$Scene" 34 1158 9 2 := ⟨by decide, 6, q_R9, q_T9, 9, rfl, by decide, by decide, rfl, (gb_2 (i := 89) rfl rfl), rfl⟩
theorem lg_9_38 : lkG "WageCourt$Scene" 38 1160 9 0 := ⟨by decide, 8, q_R9, q_T9, 9, rfl, by decide, by decide, rfl, (gb_2 (i := 91) rfl rfl), rfl⟩
theorem lg_9_41 : lkG "WageCourt$Scene" 41 387 3 2 := ⟨by decide, 3, q_R3, q_T3, 10, rfl, by decide, by decide, rfl, (gb_1 (i := 85) rfl rfl), rfl⟩
theorem lg_9_46 : lkG "WageCourt$Scene" 46 393 3 2 := ⟨by decide, 9, q_R3, q_T3, 10, rfl, by decide, by decide, rfl, (gb_1 (i := 98) rfl rfl), rfl⟩
theorem lg_9_55 : lkG "WageCourt$Scene" 55 388 3 2 := ⟨by decide, 4, q_R3, q_T3, 10, rfl, by decide, by decide, rfl, (gb_1 (i := 87) rfl rfl), rfl⟩
theorem lg_9_68 : lkG "WageCourt$Scene" 68 515 4 0 := ⟨by decide, 3, q_R4, q_T4, 4, rfl, by decide, by decide, rfl, (gb_1 (i := 139) rfl rfl), rfl⟩
theorem lg_9_71 : lkG "WageCourt$Scene" 71 513 4 2 := ⟨by decide, 1, q_R4, q_T4, 4, rfl, by decide, by decide, rfl, (gb_1 (i := 134) rfl rfl), rfl⟩
theorem lg_9_75 : lkG "WageCourt$Scene" 75 1287 10 3 := ⟨by decide, 7, q_R10, q_T10, 17, rfl, by decide, by decide, rfl, (gb_4 (i := 93) rfl rfl), rfl⟩
theorem lg_9_9 : lkG "WageCourt$Scene" 9 1155 9 2 := ⟨by decide, 3, q_R9, q_T9, 9, rfl, by decide, by decide, rfl, (gb_2 (i := 86) rfl rfl), rfl⟩
theorem lg_9_92 : lkG "WageCourt$Scene" 92 1285 10 2 := ⟨by decide, 5, q_R10, q_T10, 17, rfl, by decide, by decide, rfl, (gb_4 (i := 86) rfl rfl), rfl⟩
theorem lg_9_95 : lkG "WageCourt$Scene" 95 1286 10 2 := ⟨by decide, 6, q_R10, q_T10, 17, rfl, by decide, by decide, rfl, (gb_4 (i := 90) rfl rfl), rfl⟩
theorem lk_11_187 : Cond.constant "WageCourt" 187 (-99999 : Int32) ∈ g_tbl := (gb_5 (i := 82) rfl rfl)
theorem lk_11_188 : Cond.constant "WageCourt" 188 (99999 : Int32) ∈ g_tbl := (gb_5 (i := 83) rfl rfl)
theorem lk_11_239 : Cond.constant "WageCourt" 239 (-1000000 : Int32) ∈ g_tbl := (gb_5 (i := 199) rfl rfl)
theorem lk_11_319 : Cond.constantLong "WageCourt" 319 (-1 : Int64) ∈ g_tbl := (gb_6 (i := 160) rfl rfl)
theorem lk_11_346 : Cond.constant "WageCourt" 346 (65535 : Int32) ∈ g_tbl := (gb_6 (i := 188) rfl rfl)
theorem lk_12_286 : Cond.constantLong "WageCourtModel" 286 (27 : Int64) ∈ g_tbl := (gb_7 (i := 14) rfl rfl)
theorem lk_12_453 : Cond.constant "WageCourtModel" 453 (-99999 : Int32) ∈ g_tbl := (gb_9 (i := 92) rfl rfl)
theorem lk_12_454 : Cond.constant "WageCourtModel" 454 (99999 : Int32) ∈ g_tbl := (gb_9 (i := 93) rfl rfl)
theorem lk_12_530 : Cond.constant "WageCourtModel" 530 (-1000000 : Int32) ∈ g_tbl := (gb_9 (i := 182) rfl rfl)
theorem lk_12_616 : Cond.constantLong "WageCourtModel" 616 (2 : Int64) ∈ g_tbl := (gb_10 (i := 88) rfl rfl)
theorem lk_12_618 : Cond.constantLong "WageCourtModel" 618 (200 : Int64) ∈ g_tbl := (gb_10 (i := 89) rfl rfl)
theorem lk_12_620 : Cond.constantLong "WageCourtModel" 620 (400 : Int64) ∈ g_tbl := (gb_10 (i := 90) rfl rfl)
theorem lk_12_632 : Cond.constantLong "WageCourtModel" 632 (-1 : Int64) ∈ g_tbl := (gb_10 (i := 107) rfl rfl)
theorem lk_12_634 : Cond.constant "WageCourtModel" 634 (65535 : Int32) ∈ g_tbl := (gb_10 (i := 128) rfl rfl)
theorem lk_5_54 : Cond.constantLong "WageCourt$Lexer" 54 (32 : Int64) ∈ g_tbl := (gb_1 (i := 214) rfl rfl)
theorem lk_8_151 : Cond.constantLong "WageCourt$Reckoning" 151 (200 : Int64) ∈ g_tbl := (gb_6 (i := 138) rfl rfl)
theorem lk_8_153 : Cond.constantLong "WageCourt$Reckoning" 153 (2 : Int64) ∈ g_tbl := (gb_6 (i := 139) rfl rfl)
theorem lk_N_265 : Cond.constant "java/lang/Integer" 265 (1431655765 : Int32) ∈ g_tbl := (gb_6 (i := 93) rfl rfl)
theorem lk_N_266 : Cond.constant "java/lang/Integer" 266 (858993459 : Int32) ∈ g_tbl := (gb_6 (i := 94) rfl rfl)
theorem lk_N_267 : Cond.constant "java/lang/Integer" 267 (252645135 : Int32) ∈ g_tbl := (gb_6 (i := 95) rfl rfl)
theorem lm_0_31 : Cond.methodLink "WageCourt$Fact" 31 Lib.Math.max.name ∈ g_tbl := (gb_4 (i := 162) rfl rfl)
theorem lm_11_321 : Cond.methodLink "WageCourt" 321 Lib.Math.max.name ∈ g_tbl := (gb_5 (i := 210) rfl rfl)
theorem lm_11_326 : Cond.methodLink "WageCourt" 326 Lib.MathLoose.max_long.x ∈ g_tbl := (gb_6 (i := 161) rfl rfl)
theorem lm_11_367 : Cond.methodLink "WageCourt" 367 Lib.Math.min.name ∈ g_tbl := (gb_5 (i := 209) rfl rfl)
theorem lm_1_73 : Cond.methodLink "WageCourt$Formula" 73 Lib.Math.max.name ∈ g_tbl := (gb_3 (i := 237) rfl rfl)
theorem lm_6_124 : Cond.methodLink "WageCourt$Parser" 124 Lib.Math.min.name ∈ g_tbl := (gb_4 (i := 60) rfl rfl)
theorem lm_6_133 : Cond.methodLink "WageCourt$Parser" 133 Lib.Math.max.name ∈ g_tbl := (gb_4 (i := 61) rfl rfl)
theorem lm_7_71 : Cond.methodLink "WageCourt$Parting" 71 Lib.Math.max.name ∈ g_tbl := (gb_6 (i := 206) rfl rfl)
theorem lm_7_93 : Cond.methodLink "WageCourt$Parting" 93 Lib.Math.min.name ∈ g_tbl := (gb_6 (i := 215) rfl rfl)
theorem lm_8_145 : Cond.methodLink "WageCourt$Reckoning" 145 Lib.Math.max.name ∈ g_tbl := (gb_6 (i := 74) rfl rfl)
theorem lm_8_298 : Cond.methodLink "WageCourt$Reckoning" 298 Lib.Math.min.name ∈ g_tbl := (gb_6 (i := 76) rfl rfl)
theorem lm_A_304 : Cond.methodLink "java/util/Arrays" 304 Lib.Math.min.name ∈ g_tbl := (gb_4 (i := 22) rfl rfl)
theorem lm_math : Cond.initialized "java/lang/Math" ∈ g_tbl := (gb_1 (i := 17) rfl rfl)
theorem lm_mmaxL_cd : Cond.code Lib.MathLoose.max_long.x Lib.MathLoose.max_long.code 4 (some .long) ∈ g_tbl := (gb_6 (i := 163) rfl rfl)
theorem lm_mmaxL_st : Cond.static Lib.MathLoose.max_long.x ∈ g_tbl := (gb_6 (i := 162) rfl rfl)
theorem lm_mmax_cd : Cond.code Lib.Math.max.name Lib.Math.max.code 2 (some .int) ∈ g_tbl := (gb_3 (i := 239) rfl rfl)
theorem lm_mmax_st : Cond.static Lib.Math.max.name ∈ g_tbl := (gb_3 (i := 238) rfl rfl)
theorem lm_mmin_cd : Cond.code Lib.Math.min.name Lib.Math.min.code 2 (some .int) ∈ g_tbl := (gb_4 (i := 24) rfl rfl)
theorem lm_mmin_st : Cond.static Lib.Math.min.name ∈ g_tbl := (gb_4 (i := 23) rfl rfl)
theorem ln_11_13 : lkN "WageCourt" 13 1 10 := ⟨by decide, q_R1, q_T1, rfl, (gb_1 (i := 30) rfl rfl), (gb_1 (i := 31) rfl rfl), (gb_1 (i := 2) rfl rfl), by decide⟩
theorem ln_11_16 : lkN "WageCourt" 16 3 10 := ⟨by decide, q_R3, q_T3, rfl, (gb_1 (i := 69) rfl rfl), (gb_1 (i := 70) rfl rfl), (gb_1 (i := 3) rfl rfl), by decide⟩
theorem ln_11_23 : lkN "WageCourt" 23 4 4 := ⟨by decide, q_R4, q_T4, rfl, (gb_1 (i := 121) rfl rfl), (gb_1 (i := 122) rfl rfl), (gb_1 (i := 5) rfl rfl), by decide⟩
theorem ln_11_30 : lkN "WageCourt" 30 5 7 := ⟨by decide, q_R5, q_T5, rfl, (gb_1 (i := 152) rfl rfl), (gb_1 (i := 153) rfl rfl), (gb_1 (i := 6) rfl rfl), by decide⟩
theorem ln_11_37 : lkN "WageCourt" 37 6 19 := ⟨by decide, q_R6, q_T6, rfl, (gb_2 (i := 6) rfl rfl), (gb_2 (i := 7) rfl rfl), (gb_1 (i := 11) rfl rfl), by decide⟩
theorem ln_11_46 : lkN "WageCourt" 46 9 9 := ⟨by decide, q_R9, q_T9, rfl, (gb_2 (i := 75) rfl rfl), (gb_2 (i := 76) rfl rfl), (gb_1 (i := 12) rfl rfl), by decide⟩
theorem ln_11_55 : lkN "WageCourt" 55 8 20 := ⟨by decide, q_R8, q_T8, rfl, (gb_2 (i := 111) rfl rfl), (gb_2 (i := 112) rfl rfl), (gb_1 (i := 13) rfl rfl), by decide⟩
theorem ln_11_64 : lkN "WageCourt" 64 7 12 := ⟨by decide, q_R7, q_T7, rfl, (gb_2 (i := 189) rfl rfl), (gb_2 (i := 190) rfl rfl), (gb_1 (i := 14) rfl rfl), by decide⟩
theorem ln_4_9 : lkN "WageCourt$Ledger" 9 0 7 := ⟨by decide, q_R0, q_T0, rfl, (gb_1 (i := 127) rfl rfl), (gb_4 (i := 157) rfl rfl), (gb_1 (i := 20) rfl rfl), by decide⟩
theorem ln_6_100 : lkN "WageCourt$Parser" 100 10 17 := ⟨by decide, q_R10, q_T10, rfl, (gb_4 (i := 62) rfl rfl), (gb_4 (i := 63) rfl rfl), (gb_1 (i := 19) rfl rfl), by decide⟩
theorem ln_6_19 : lkN "WageCourt$Parser" 19 2 13 := ⟨by decide, q_R2, q_T2, rfl, (gb_2 (i := 12) rfl rfl), (gb_3 (i := 120) rfl rfl), (gb_1 (i := 16) rfl rfl), by decide⟩
theorem lo_0_3 : Cond.methodLink "WageCourt$Fact" 3 Lib.objectInit ∈ g_tbl := (gb_4 (i := 161) rfl rfl)
theorem lo_10_3 : Cond.methodLink "WageCourt$Text" 3 Lib.objectInit ∈ g_tbl := (gb_4 (i := 67) rfl rfl)
theorem lo_11_3 : Cond.methodLink "WageCourt" 3 Lib.objectInit ∈ g_tbl := (gb_1 (i := 27) rfl rfl)
theorem lo_12_7 : Cond.methodLink "WageCourtModel" 7 Lib.objectInit ∈ g_tbl := (gb_7 (i := 7) rfl rfl)
theorem lo_1_3 : Cond.methodLink "WageCourt$Formula" 3 Lib.objectInit ∈ g_tbl := (gb_1 (i := 35) rfl rfl)
theorem lo_2_3 : Cond.methodLink "WageCourt$Item" 3 Lib.objectInit ∈ g_tbl := (gb_3 (i := 124) rfl rfl)
theorem lo_3_3 : Cond.methodLink "WageCourt$Land" 3 Lib.objectInit ∈ g_tbl := (gb_1 (i := 74) rfl rfl)
theorem lo_4_3 : Cond.methodLink "WageCourt$Ledger" 3 Lib.objectInit ∈ g_tbl := (gb_1 (i := 126) rfl rfl)
theorem lo_5_3 : Cond.methodLink "WageCourt$Lexer" 3 Lib.objectInit ∈ g_tbl := (gb_1 (i := 157) rfl rfl)
theorem lo_6_3 : Cond.methodLink "WageCourt$Parser" 3 Lib.objectInit ∈ g_tbl := (gb_2 (i := 11) rfl rfl)
theorem lo_7_3 : Cond.methodLink "WageCourt$Parting" 3 Lib.objectInit ∈ g_tbl := (gb_2 (i := 194) rfl rfl)
theorem lo_8_3 : Cond.methodLink "WageCourt$Reckoning" 3 Lib.objectInit ∈ g_tbl := (gb_2 (i := 116) rfl rfl)
theorem lo_9_3 : Cond.methodLink "WageCourt$Scene" 3 Lib.objectInit ∈ g_tbl := (gb_2 (i := 80) rfl rfl)
theorem lo_code : Cond.code Lib.objectInit ⟨#[0xb1]⟩ 1 none ∈ g_tbl := (gb_1 (i := 29) rfl rfl)
theorem lo_inst : Cond.instanceMethod Lib.objectInit ∈ g_tbl := (gb_1 (i := 28) rfl rfl)
theorem lp_0_15 : lkP "WageCourt$Fact" "<init>" 15 1 0 0 := ⟨by decide, 1, q_R0, q_T0, 7, rfl, by decide, by decide, rfl, (gb_4 (i := 168) rfl rfl), rfl, Or.inr ⟨rfl, rfl, rfl⟩⟩
theorem lp_0_18 : lkP "WageCourt$Fact" "<init>" 18 2 0 0 := ⟨by decide, 2, q_R0, q_T0, 7, rfl, by decide, by decide, rfl, (gb_4 (i := 171) rfl rfl), rfl, Or.inr ⟨rfl, rfl, rfl⟩⟩
theorem lp_0_21 : lkP "WageCourt$Fact" "<init>" 21 3 0 0 := ⟨by decide, 3, q_R0, q_T0, 7, rfl, by decide, by decide, rfl, (gb_4 (i := 174) rfl rfl), rfl, Or.inr ⟨rfl, rfl, rfl⟩⟩
theorem lp_0_24 : lkP "WageCourt$Fact" "<init>" 24 4 0 0 := ⟨by decide, 4, q_R0, q_T0, 7, rfl, by decide, by decide, rfl, (gb_4 (i := 176) rfl rfl), rfl, Or.inr ⟨rfl, rfl, rfl⟩⟩
theorem lp_0_27 : lkP "WageCourt$Fact" "<init>" 27 6 0 2 := ⟨by decide, 6, q_R0, q_T0, 7, rfl, by decide, by decide, rfl, (gb_4 (i := 181) rfl rfl), rfl, Or.inr ⟨rfl, rfl, rfl⟩⟩
theorem lp_0_37 : lkP "WageCourt$Fact" "<init>" 37 5 0 2 := ⟨by decide, 5, q_R0, q_T0, 7, rfl, by decide, by decide, rfl, (gb_4 (i := 178) rfl rfl), rfl, Or.inr ⟨rfl, rfl, rfl⟩⟩
theorem lp_0_9 : lkP "WageCourt$Fact" "<init>" 9 0 0 0 := ⟨by decide, 0, q_R0, q_T0, 7, rfl, by decide, by decide, rfl, (gb_4 (i := 164) rfl rfl), rfl, Or.inr ⟨rfl, rfl, rfl⟩⟩
theorem lp_10_15 {nm : String} : lkP "WageCourt$Text" nm 15 1294 10 0 := ⟨by decide, 14, q_R10, q_T10, 17, rfl, by decide, by decide, rfl, (gb_4 (i := 113) rfl rfl), rfl, Or.inl rfl⟩
theorem lp_10_18 : lkP "WageCourt$Text" "<init>" 18 1280 10 0 := ⟨by decide, 0, q_R10, q_T10, 17, rfl, by decide, by decide, rfl, (gb_4 (i := 69) rfl rfl), rfl, Or.inr ⟨rfl, rfl, rfl⟩⟩
theorem lp_10_21 : lkP "WageCourt$Text" "<init>" 21 1281 10 0 := ⟨by decide, 1, q_R10, q_T10, 17, rfl, by decide, by decide, rfl, (gb_4 (i := 73) rfl rfl), rfl, Or.inr ⟨rfl, rfl, rfl⟩⟩
theorem lp_10_24 : lkP "WageCourt$Text" "<init>" 24 1282 10 0 := ⟨by decide, 2, q_R10, q_T10, 17, rfl, by decide, by decide, rfl, (gb_4 (i := 78) rfl rfl), rfl, Or.inr ⟨rfl, rfl, rfl⟩⟩
theorem lp_10_27 : lkP "WageCourt$Text" "<init>" 27 1283 10 0 := ⟨by decide, 3, q_R10, q_T10, 17, rfl, by decide, by decide, rfl, (gb_4 (i := 81) rfl rfl), rfl, Or.inr ⟨rfl, rfl, rfl⟩⟩
theorem lp_10_30 : lkP "WageCourt$Text" "<init>" 30 1284 10 0 := ⟨by decide, 4, q_R10, q_T10, 17, rfl, by decide, by decide, rfl, (gb_4 (i := 83) rfl rfl), rfl, Or.inr ⟨rfl, rfl, rfl⟩⟩
theorem lp_10_33 : lkP "WageCourt$Text" "<init>" 33 1285 10 2 := ⟨by decide, 5, q_R10, q_T10, 17, rfl, by decide, by decide, rfl, (gb_4 (i := 85) rfl rfl), rfl, Or.inr ⟨rfl, rfl, rfl⟩⟩
theorem lp_10_37 : lkP "WageCourt$Text" "<init>" 37 1286 10 2 := ⟨by decide, 6, q_R10, q_T10, 17, rfl, by decide, by decide, rfl, (gb_4 (i := 89) rfl rfl), rfl, Or.inr ⟨rfl, rfl, rfl⟩⟩
theorem lp_10_43 : lkP "WageCourt$Text" "<init>" 43 1288 10 2 := ⟨by decide, 8, q_R10, q_T10, 17, rfl, by decide, by decide, rfl, (gb_4 (i := 97) rfl rfl), rfl, Or.inr ⟨rfl, rfl, rfl⟩⟩
theorem lp_10_46 : lkP "WageCourt$Text" "<init>" 46 1289 10 2 := ⟨by decide, 9, q_R10, q_T10, 17, rfl, by decide, by decide, rfl, (gb_4 (i := 101) rfl rfl), rfl, Or.inr ⟨rfl, rfl, rfl⟩⟩
theorem lp_10_49 : lkP "WageCourt$Text" "<init>" 49 1290 10 2 := ⟨by decide, 10, q_R10, q_T10, 17, rfl, by decide, by decide, rfl, (gb_4 (i := 103) rfl rfl), rfl, Or.inr ⟨rfl, rfl, rfl⟩⟩
theorem lp_10_53 : lkP "WageCourt$Text" "<init>" 53 1291 10 2 := ⟨by decide, 11, q_R10, q_T10, 17, rfl, by decide, by decide, rfl, (gb_4 (i := 105) rfl rfl), rfl, Or.inr ⟨rfl, rfl, rfl⟩⟩
theorem lp_10_56 {nm : String} : lkP "WageCourt$Text" nm 56 1292 10 0 := ⟨by decide, 12, q_R10, q_T10, 17, rfl, by decide, by decide, rfl, (gb_4 (i := 107) rfl rfl), rfl, Or.inl rfl⟩
theorem lp_10_9 {nm : String} : lkP "WageCourt$Text" nm 9 1293 10 0 := ⟨by decide, 13, q_R10, q_T10, 17, rfl, by decide, by decide, rfl, (gb_4 (i := 110) rfl rfl), rfl, Or.inl rfl⟩
theorem lp_11_110 {nm : String} : lkP "WageCourt" nm 110 384 3 0 := ⟨by decide, 0, q_R3, q_T3, 10, rfl, by decide, by decide, rfl, (gb_1 (i := 79) rfl rfl), rfl, Or.inl rfl⟩
theorem lp_11_19 : lkP "WageCourt" "<init>" 19 1408 11 2 := ⟨by decide, 0, q_R11, q_T11, 8, rfl, by decide, by decide, rfl, (gb_2 (i := 236) rfl rfl), rfl, Or.inr ⟨rfl, rfl, rfl⟩⟩
theorem lp_11_26 : lkP "WageCourt" "<init>" 26 1409 11 2 := ⟨by decide, 1, q_R11, q_T11, 8, rfl, by decide, by decide, rfl, (gb_2 (i := 237) rfl rfl), rfl, Or.inr ⟨rfl, rfl, rfl⟩⟩
theorem lp_11_33 : lkP "WageCourt" "<init>" 33 1410 11 2 := ⟨by decide, 2, q_R11, q_T11, 8, rfl, by decide, by decide, rfl, (gb_2 (i := 238) rfl rfl), rfl, Or.inr ⟨rfl, rfl, rfl⟩⟩
theorem lp_11_42 : lkP "WageCourt" "<init>" 42 1411 11 2 := ⟨by decide, 3, q_R11, q_T11, 8, rfl, by decide, by decide, rfl, (gb_2 (i := 239) rfl rfl), rfl, Or.inr ⟨rfl, rfl, rfl⟩⟩
theorem lp_11_51 : lkP "WageCourt" "<init>" 51 1412 11 2 := ⟨by decide, 4, q_R11, q_T11, 8, rfl, by decide, by decide, rfl, (gb_3 (i := 0) rfl rfl), rfl, Or.inr ⟨rfl, rfl, rfl⟩⟩
theorem lp_11_60 : lkP "WageCourt" "<init>" 60 1413 11 2 := ⟨by decide, 5, q_R11, q_T11, 8, rfl, by decide, by decide, rfl, (gb_3 (i := 1) rfl rfl), rfl, Or.inr ⟨rfl, rfl, rfl⟩⟩
theorem lp_11_67 : lkP "WageCourt" "<init>" 67 1414 11 2 := ⟨by decide, 6, q_R11, q_T11, 8, rfl, by decide, by decide, rfl, (gb_3 (i := 2) rfl rfl), rfl, Or.inr ⟨rfl, rfl, rfl⟩⟩
theorem lp_11_71 {nm : String} : lkP "WageCourt" nm 71 641 5 0 := ⟨by decide, 1, q_R5, q_T5, 7, rfl, by decide, by decide, rfl, (gb_1 (i := 219) rfl rfl), rfl, Or.inl rfl⟩
theorem lp_11_9 {nm : String} : lkP "WageCourt" nm 9 1415 11 0 := ⟨by decide, 7, q_R11, q_T11, 8, rfl, by decide, by decide, rfl, (gb_3 (i := 3) rfl rfl), rfl, Or.inl rfl⟩
theorem lp_12_101 : lkP "WageCourtModel" "<init>" 101 1575 12 2 := ⟨by decide, 39, q_R12, q_T12, 121, rfl, by decide, by decide, rfl, (gb_7 (i := 53) rfl rfl), rfl, Or.inr ⟨rfl, rfl, rfl⟩⟩
theorem lp_12_104 : lkP "WageCourtModel" "<init>" 104 1576 12 2 := ⟨by decide, 40, q_R12, q_T12, 121, rfl, by decide, by decide, rfl, (gb_7 (i := 54) rfl rfl), rfl, Or.inr ⟨rfl, rfl, rfl⟩⟩
theorem lp_12_107 : lkP "WageCourtModel" "<init>" 107 1577 12 2 := ⟨by decide, 41, q_R12, q_T12, 121, rfl, by decide, by decide, rfl, (gb_7 (i := 55) rfl rfl), rfl, Or.inr ⟨rfl, rfl, rfl⟩⟩
theorem lp_12_110 : lkP "WageCourtModel" "<init>" 110 1578 12 2 := ⟨by decide, 42, q_R12, q_T12, 121, rfl, by decide, by decide, rfl, (gb_7 (i := 56) rfl rfl), rfl, Or.inr ⟨rfl, rfl, rfl⟩⟩
theorem lp_12_113 : lkP "WageCourtModel" "<init>" 113 1579 12 2 := ⟨by decide, 43, q_R12, q_T12, 121, rfl, by decide, by decide, rfl, (gb_7 (i := 57) rfl rfl), rfl, Or.inr ⟨rfl, rfl, rfl⟩⟩
theorem lp_12_116 : lkP "WageCourtModel" "<init>" 116 1582 12 2 := ⟨by decide, 46, q_R12, q_T12, 121, rfl, by decide, by decide, rfl, (gb_7 (i := 60) rfl rfl), rfl, Or.inr ⟨rfl, rfl, rfl⟩⟩
theorem lp_12_119 : lkP "WageCourtModel" "<init>" 119 1583 12 2 := ⟨by decide, 47, q_R12, q_T12, 121, rfl, by decide, by decide, rfl, (gb_7 (i := 61) rfl rfl), rfl, Or.inr ⟨rfl, rfl, rfl⟩⟩
theorem lp_12_122 : lkP "WageCourtModel" "<init>" 122 1586 12 2 := ⟨by decide, 50, q_R12, q_T12, 121, rfl, by decide, by decide, rfl, (gb_7 (i := 64) rfl rfl), rfl, Or.inr ⟨rfl, rfl, rfl⟩⟩
theorem lp_12_125 : lkP "WageCourtModel" "<init>" 125 1589 12 2 := ⟨by decide, 53, q_R12, q_T12, 121, rfl, by decide, by decide, rfl, (gb_7 (i := 67) rfl rfl), rfl, Or.inr ⟨rfl, rfl, rfl⟩⟩
theorem lp_12_128 : lkP "WageCourtModel" "<init>" 128 1593 12 2 := ⟨by decide, 57, q_R12, q_T12, 121, rfl, by decide, by decide, rfl, (gb_7 (i := 71) rfl rfl), rfl, Or.inr ⟨rfl, rfl, rfl⟩⟩
theorem lp_12_13 : lkP "WageCourtModel" "<init>" 13 1537 12 2 := ⟨by decide, 1, q_R12, q_T12, 121, rfl, by decide, by decide, rfl, (gb_7 (i := 15) rfl rfl), rfl, Or.inr ⟨rfl, rfl, rfl⟩⟩
theorem lp_12_131 : lkP "WageCourtModel" "<init>" 131 1594 12 2 := ⟨by decide, 58, q_R12, q_T12, 121, rfl, by decide, by decide, rfl, (gb_7 (i := 72) rfl rfl), rfl, Or.inr ⟨rfl, rfl, rfl⟩⟩
theorem lp_12_134 : lkP "WageCourtModel" "<init>" 134 1596 12 2 := ⟨by decide, 60, q_R12, q_T12, 121, rfl, by decide, by decide, rfl, (gb_7 (i := 74) rfl rfl), rfl, Or.inr ⟨rfl, rfl, rfl⟩⟩
theorem lp_12_137 : lkP "WageCourtModel" "<init>" 137 1597 12 2 := ⟨by decide, 61, q_R12, q_T12, 121, rfl, by decide, by decide, rfl, (gb_7 (i := 75) rfl rfl), rfl, Or.inr ⟨rfl, rfl, rfl⟩⟩
theorem lp_12_140 : lkP "WageCourtModel" "<init>" 140 1598 12 2 := ⟨by decide, 62, q_R12, q_T12, 121, rfl, by decide, by decide, rfl, (gb_7 (i := 76) rfl rfl), rfl, Or.inr ⟨rfl, rfl, rfl⟩⟩
theorem lp_12_143 : lkP "WageCourtModel" "<init>" 143 1599 12 2 := ⟨by decide, 63, q_R12, q_T12, 121, rfl, by decide, by decide, rfl, (gb_7 (i := 77) rfl rfl), rfl, Or.inr ⟨rfl, rfl, rfl⟩⟩
theorem lp_12_146 : lkP "WageCourtModel" "<init>" 146 1600 12 2 := ⟨by decide, 64, q_R12, q_T12, 121, rfl, by decide, by decide, rfl, (gb_7 (i := 78) rfl rfl), rfl, Or.inr ⟨rfl, rfl, rfl⟩⟩
theorem lp_12_149 : lkP "WageCourtModel" "<init>" 149 1602 12 2 := ⟨by decide, 66, q_R12, q_T12, 121, rfl, by decide, by decide, rfl, (gb_7 (i := 80) rfl rfl), rfl, Or.inr ⟨rfl, rfl, rfl⟩⟩
theorem lp_12_152 : lkP "WageCourtModel" "<init>" 152 1603 12 2 := ⟨by decide, 67, q_R12, q_T12, 121, rfl, by decide, by decide, rfl, (gb_7 (i := 81) rfl rfl), rfl, Or.inr ⟨rfl, rfl, rfl⟩⟩
theorem lp_12_155 : lkP "WageCourtModel" "<init>" 155 1604 12 2 := ⟨by decide, 68, q_R12, q_T12, 121, rfl, by decide, by decide, rfl, (gb_7 (i := 82) rfl rfl), rfl, Or.inr ⟨rfl, rfl, rfl⟩⟩
theorem lp_12_158 : lkP "WageCourtModel" "<init>" 158 1605 12 2 := ⟨by decide, 69, q_R12, q_T12, 121, rfl, by decide, by decide, rfl, (gb_7 (i := 83) rfl rfl), rfl, Or.inr ⟨rfl, rfl, rfl⟩⟩
theorem lp_12_161 : lkP "WageCourtModel" "<init>" 161 1606 12 2 := ⟨by decide, 70, q_R12, q_T12, 121, rfl, by decide, by decide, rfl, (gb_7 (i := 84) rfl rfl), rfl, Or.inr ⟨rfl, rfl, rfl⟩⟩
theorem lp_12_164 : lkP "WageCourtModel" "<init>" 164 1607 12 2 := ⟨by decide, 71, q_R12, q_T12, 121, rfl, by decide, by decide, rfl, (gb_7 (i := 85) rfl rfl), rfl, Or.inr ⟨rfl, rfl, rfl⟩⟩
theorem lp_12_167 : lkP "WageCourtModel" "<init>" 167 1608 12 2 := ⟨by decide, 72, q_R12, q_T12, 121, rfl, by decide, by decide, rfl, (gb_7 (i := 86) rfl rfl), rfl, Or.inr ⟨rfl, rfl, rfl⟩⟩
theorem lp_12_17 : lkP "WageCourtModel" "<init>" 17 1539 12 2 := ⟨by decide, 3, q_R12, q_T12, 121, rfl, by decide, by decide, rfl, (gb_7 (i := 17) rfl rfl), rfl, Or.inr ⟨rfl, rfl, rfl⟩⟩
theorem lp_12_170 : lkP "WageCourtModel" "<init>" 170 1609 12 2 := ⟨by decide, 73, q_R12, q_T12, 121, rfl, by decide, by decide, rfl, (gb_7 (i := 87) rfl rfl), rfl, Or.inr ⟨rfl, rfl, rfl⟩⟩
theorem lp_12_173 {nm : String} : lkP "WageCourtModel" nm 173 1612 12 0 := ⟨by decide, 76, q_R12, q_T12, 121, rfl, by decide, by decide, rfl, (gb_7 (i := 90) rfl rfl), rfl, Or.inl rfl⟩
theorem lp_12_176 : lkP "WageCourtModel" "<init>" 176 1615 12 2 := ⟨by decide, 79, q_R12, q_T12, 121, rfl, by decide, by decide, rfl, (gb_7 (i := 93) rfl rfl), rfl, Or.inr ⟨rfl, rfl, rfl⟩⟩
theorem lp_12_179 : lkP "WageCourtModel" "<init>" 179 1616 12 2 := ⟨by decide, 80, q_R12, q_T12, 121, rfl, by decide, by decide, rfl, (gb_7 (i := 94) rfl rfl), rfl, Or.inr ⟨rfl, rfl, rfl⟩⟩
theorem lp_12_182 : lkP "WageCourtModel" "<init>" 182 1617 12 2 := ⟨by decide, 81, q_R12, q_T12, 121, rfl, by decide, by decide, rfl, (gb_7 (i := 95) rfl rfl), rfl, Or.inr ⟨rfl, rfl, rfl⟩⟩
theorem lp_12_185 : lkP "WageCourtModel" "<init>" 185 1618 12 2 := ⟨by decide, 82, q_R12, q_T12, 121, rfl, by decide, by decide, rfl, (gb_7 (i := 96) rfl rfl), rfl, Or.inr ⟨rfl, rfl, rfl⟩⟩
theorem lp_12_188 : lkP "WageCourtModel" "<init>" 188 1619 12 2 := ⟨by decide, 83, q_R12, q_T12, 121, rfl, by decide, by decide, rfl, (gb_7 (i := 97) rfl rfl), rfl, Or.inr ⟨rfl, rfl, rfl⟩⟩
theorem lp_12_191 : lkP "WageCourtModel" "<init>" 191 1620 12 2 := ⟨by decide, 84, q_R12, q_T12, 121, rfl, by decide, by decide, rfl, (gb_7 (i := 98) rfl rfl), rfl, Or.inr ⟨rfl, rfl, rfl⟩⟩
theorem lp_12_194 : lkP "WageCourtModel" "<init>" 194 1621 12 2 := ⟨by decide, 85, q_R12, q_T12, 121, rfl, by decide, by decide, rfl, (gb_7 (i := 99) rfl rfl), rfl, Or.inr ⟨rfl, rfl, rfl⟩⟩
theorem lp_12_197 {nm : String} : lkP "WageCourtModel" nm 197 1622 12 0 := ⟨by decide, 86, q_R12, q_T12, 121, rfl, by decide, by decide, rfl, (gb_7 (i := 100) rfl rfl), rfl, Or.inl rfl⟩
theorem lp_12_20 : lkP "WageCourtModel" "<init>" 20 1541 12 2 := ⟨by decide, 5, q_R12, q_T12, 121, rfl, by decide, by decide, rfl, (gb_7 (i := 19) rfl rfl), rfl, Or.inr ⟨rfl, rfl, rfl⟩⟩
theorem lp_12_200 : lkP "WageCourtModel" "<init>" 200 1626 12 2 := ⟨by decide, 90, q_R12, q_T12, 121, rfl, by decide, by decide, rfl, (gb_7 (i := 104) rfl rfl), rfl, Or.inr ⟨rfl, rfl, rfl⟩⟩
theorem lp_12_203 {nm : String} : lkP "WageCourtModel" nm 203 1627 12 0 := ⟨by decide, 91, q_R12, q_T12, 121, rfl, by decide, by decide, rfl, (gb_7 (i := 105) rfl rfl), rfl, Or.inl rfl⟩
theorem lp_12_206 : lkP "WageCourtModel" "<init>" 206 1630 12 2 := ⟨by decide, 94, q_R12, q_T12, 121, rfl, by decide, by decide, rfl, (gb_7 (i := 108) rfl rfl), rfl, Or.inr ⟨rfl, rfl, rfl⟩⟩
theorem lp_12_209 : lkP "WageCourtModel" "<init>" 209 1631 12 2 := ⟨by decide, 95, q_R12, q_T12, 121, rfl, by decide, by decide, rfl, (gb_7 (i := 109) rfl rfl), rfl, Or.inr ⟨rfl, rfl, rfl⟩⟩
theorem lp_12_212 : lkP "WageCourtModel" "<init>" 212 1632 12 2 := ⟨by decide, 96, q_R12, q_T12, 121, rfl, by decide, by decide, rfl, (gb_7 (i := 110) rfl rfl), rfl, Or.inr ⟨rfl, rfl, rfl⟩⟩
theorem lp_12_215 : lkP "WageCourtModel" "<init>" 215 1633 12 2 := ⟨by decide, 97, q_R12, q_T12, 121, rfl, by decide, by decide, rfl, (gb_7 (i := 111) rfl rfl), rfl, Or.inr ⟨rfl, rfl, rfl⟩⟩
theorem lp_12_218 : lkP "WageCourtModel" "<init>" 218 1634 12 2 := ⟨by decide, 98, q_R12, q_T12, 121, rfl, by decide, by decide, rfl, (gb_7 (i := 112) rfl rfl), rfl, Or.inr ⟨rfl, rfl, rfl⟩⟩
theorem lp_12_221 : lkP "WageCourtModel" "<init>" 221 1635 12 2 := ⟨by decide, 99, q_R12, q_T12, 121, rfl, by decide, by decide, rfl, (gb_7 (i := 113) rfl rfl), rfl, Or.inr ⟨rfl, rfl, rfl⟩⟩
theorem lp_12_224 : lkP "WageCourtModel" "<init>" 224 1636 12 2 := ⟨by decide, 100, q_R12, q_T12, 121, rfl, by decide, by decide, rfl, (gb_7 (i := 114) rfl rfl), rfl, Or.inr ⟨rfl, rfl, rfl⟩⟩
theorem lp_12_227 : lkP "WageCourtModel" "<init>" 227 1637 12 2 := ⟨by decide, 101, q_R12, q_T12, 121, rfl, by decide, by decide, rfl, (gb_7 (i := 115) rfl rfl), rfl, Or.inr ⟨rfl, rfl, rfl⟩⟩
theorem lp_12_230 : lkP "WageCourtModel" "<init>" 230 1640 12 2 := ⟨by decide, 104, q_R12, q_T12, 121, rfl, by decide, by decide, rfl, (gb_7 (i := 118) rfl rfl), rfl, Or.inr ⟨rfl, rfl, rfl⟩⟩
theorem lp_12_233 : lkP "WageCourtModel" "<init>" 233 1641 12 2 := ⟨by decide, 105, q_R12, q_T12, 121, rfl, by decide, by decide, rfl, (gb_7 (i := 119) rfl rfl), rfl, Or.inr ⟨rfl, rfl, rfl⟩⟩
theorem lp_12_236 : lkP "WageCourtModel" "<init>" 236 1644 12 2 := ⟨by decide, 108, q_R12, q_T12, 121, rfl, by decide, by decide, rfl, (gb_7 (i := 122) rfl rfl), rfl, Or.inr ⟨rfl, rfl, rfl⟩⟩
theorem lp_12_239 : lkP "WageCourtModel" "<init>" 239 1645 12 2 := ⟨by decide, 109, q_R12, q_T12, 121, rfl, by decide, by decide, rfl, (gb_7 (i := 123) rfl rfl), rfl, Or.inr ⟨rfl, rfl, rfl⟩⟩
theorem lp_12_24 : lkP "WageCourtModel" "<init>" 24 1542 12 2 := ⟨by decide, 6, q_R12, q_T12, 121, rfl, by decide, by decide, rfl, (gb_7 (i := 20) rfl rfl), rfl, Or.inr ⟨rfl, rfl, rfl⟩⟩
theorem lp_12_242 : lkP "WageCourtModel" "<init>" 242 1646 12 2 := ⟨by decide, 110, q_R12, q_T12, 121, rfl, by decide, by decide, rfl, (gb_7 (i := 124) rfl rfl), rfl, Or.inr ⟨rfl, rfl, rfl⟩⟩
theorem lp_12_245 : lkP "WageCourtModel" "<init>" 245 1647 12 2 := ⟨by decide, 111, q_R12, q_T12, 121, rfl, by decide, by decide, rfl, (gb_7 (i := 125) rfl rfl), rfl, Or.inr ⟨rfl, rfl, rfl⟩⟩
theorem lp_12_248 : lkP "WageCourtModel" "<init>" 248 1648 12 2 := ⟨by decide, 112, q_R12, q_T12, 121, rfl, by decide, by decide, rfl, (gb_7 (i := 126) rfl rfl), rfl, Or.inr ⟨rfl, rfl, rfl⟩⟩
theorem lp_12_251 : lkP "WageCourtModel" "<init>" 251 1649 12 2 := ⟨by decide, 113, q_R12, q_T12, 121, rfl, by decide, by decide, rfl, (gb_7 (i := 127) rfl rfl), rfl, Or.inr ⟨rfl, rfl, rfl⟩⟩
theorem lp_12_254 : lkP "WageCourtModel" "<init>" 254 1650 12 2 := ⟨by decide, 114, q_R12, q_T12, 121, rfl, by decide, by decide, rfl, (gb_7 (i := 128) rfl rfl), rfl, Or.inr ⟨rfl, rfl, rfl⟩⟩
theorem lp_12_257 : lkP "WageCourtModel" "<init>" 257 1652 12 2 := ⟨by decide, 116, q_R12, q_T12, 121, rfl, by decide, by decide, rfl, (gb_7 (i := 130) rfl rfl), rfl, Or.inr ⟨rfl, rfl, rfl⟩⟩
theorem lp_12_260 : lkP "WageCourtModel" "<init>" 260 1653 12 2 := ⟨by decide, 117, q_R12, q_T12, 121, rfl, by decide, by decide, rfl, (gb_7 (i := 131) rfl rfl), rfl, Or.inr ⟨rfl, rfl, rfl⟩⟩
theorem lp_12_263 : lkP "WageCourtModel" "<init>" 263 1654 12 2 := ⟨by decide, 118, q_R12, q_T12, 121, rfl, by decide, by decide, rfl, (gb_7 (i := 132) rfl rfl), rfl, Or.inr ⟨rfl, rfl, rfl⟩⟩
theorem lp_12_266 : lkP "WageCourtModel" "<init>" 266 1655 12 2 := ⟨by decide, 119, q_R12, q_T12, 121, rfl, by decide, by decide, rfl, (gb_7 (i := 133) rfl rfl), rfl, Or.inr ⟨rfl, rfl, rfl⟩⟩
theorem lp_12_269 : lkP "WageCourtModel" "<init>" 269 1656 12 2 := ⟨by decide, 120, q_R12, q_T12, 121, rfl, by decide, by decide, rfl, (gb_7 (i := 134) rfl rfl), rfl, Or.inr ⟨rfl, rfl, rfl⟩⟩
theorem lp_12_27 : lkP "WageCourtModel" "<init>" 27 1543 12 2 := ⟨by decide, 7, q_R12, q_T12, 121, rfl, by decide, by decide, rfl, (gb_7 (i := 21) rfl rfl), rfl, Or.inr ⟨rfl, rfl, rfl⟩⟩
theorem lp_12_276 {nm : String} : lkP "WageCourtModel" nm 276 1538 12 0 := ⟨by decide, 2, q_R12, q_T12, 121, rfl, by decide, by decide, rfl, (gb_7 (i := 16) rfl rfl), rfl, Or.inl rfl⟩
theorem lp_12_283 {nm : String} : lkP "WageCourtModel" nm 283 1540 12 0 := ⟨by decide, 4, q_R12, q_T12, 121, rfl, by decide, by decide, rfl, (gb_7 (i := 18) rfl rfl), rfl, Or.inl rfl⟩
theorem lp_12_292 {nm : String} : lkP "WageCourtModel" nm 292 1546 12 0 := ⟨by decide, 10, q_R12, q_T12, 121, rfl, by decide, by decide, rfl, (gb_7 (i := 24) rfl rfl), rfl, Or.inl rfl⟩
theorem lp_12_30 : lkP "WageCourtModel" "<init>" 30 1544 12 2 := ⟨by decide, 8, q_R12, q_T12, 121, rfl, by decide, by decide, rfl, (gb_7 (i := 22) rfl rfl), rfl, Or.inr ⟨rfl, rfl, rfl⟩⟩
theorem lp_12_314 {nm : String} : lkP "WageCourtModel" nm 314 1549 12 0 := ⟨by decide, 13, q_R12, q_T12, 121, rfl, by decide, by decide, rfl, (gb_7 (i := 27) rfl rfl), rfl, Or.inl rfl⟩
theorem lp_12_317 {nm : String} : lkP "WageCourtModel" nm 317 1547 12 0 := ⟨by decide, 11, q_R12, q_T12, 121, rfl, by decide, by decide, rfl, (gb_7 (i := 25) rfl rfl), rfl, Or.inl rfl⟩
theorem lp_12_320 {nm : String} : lkP "WageCourtModel" nm 320 1550 12 0 := ⟨by decide, 14, q_R12, q_T12, 121, rfl, by decide, by decide, rfl, (gb_7 (i := 28) rfl rfl), rfl, Or.inl rfl⟩
theorem lp_12_323 {nm : String} : lkP "WageCourtModel" nm 323 1551 12 0 := ⟨by decide, 15, q_R12, q_T12, 121, rfl, by decide, by decide, rfl, (gb_7 (i := 29) rfl rfl), rfl, Or.inl rfl⟩
theorem lp_12_326 {nm : String} : lkP "WageCourtModel" nm 326 1552 12 0 := ⟨by decide, 16, q_R12, q_T12, 121, rfl, by decide, by decide, rfl, (gb_7 (i := 30) rfl rfl), rfl, Or.inl rfl⟩
theorem lp_12_338 {nm : String} : lkP "WageCourtModel" nm 338 1601 12 0 := ⟨by decide, 65, q_R12, q_T12, 121, rfl, by decide, by decide, rfl, (gb_7 (i := 79) rfl rfl), rfl, Or.inl rfl⟩
theorem lp_12_34 : lkP "WageCourtModel" "<init>" 34 1545 12 2 := ⟨by decide, 9, q_R12, q_T12, 121, rfl, by decide, by decide, rfl, (gb_7 (i := 23) rfl rfl), rfl, Or.inr ⟨rfl, rfl, rfl⟩⟩
theorem lp_12_341 {nm : String} : lkP "WageCourtModel" nm 341 1554 12 0 := ⟨by decide, 18, q_R12, q_T12, 121, rfl, by decide, by decide, rfl, (gb_7 (i := 32) rfl rfl), rfl, Or.inl rfl⟩
theorem lp_12_347 {nm : String} : lkP "WageCourtModel" nm 347 1548 12 0 := ⟨by decide, 12, q_R12, q_T12, 121, rfl, by decide, by decide, rfl, (gb_7 (i := 26) rfl rfl), rfl, Or.inl rfl⟩
theorem lp_12_350 {nm : String} : lkP "WageCourtModel" nm 350 1588 12 0 := ⟨by decide, 52, q_R12, q_T12, 121, rfl, by decide, by decide, rfl, (gb_7 (i := 66) rfl rfl), rfl, Or.inl rfl⟩
theorem lp_12_353 {nm : String} : lkP "WageCourtModel" nm 353 1580 12 0 := ⟨by decide, 44, q_R12, q_T12, 121, rfl, by decide, by decide, rfl, (gb_7 (i := 58) rfl rfl), rfl, Or.inl rfl⟩
theorem lp_12_356 {nm : String} : lkP "WageCourtModel" nm 356 1581 12 0 := ⟨by decide, 45, q_R12, q_T12, 121, rfl, by decide, by decide, rfl, (gb_7 (i := 59) rfl rfl), rfl, Or.inl rfl⟩
theorem lp_12_359 {nm : String} : lkP "WageCourtModel" nm 359 1584 12 0 := ⟨by decide, 48, q_R12, q_T12, 121, rfl, by decide, by decide, rfl, (gb_7 (i := 62) rfl rfl), rfl, Or.inl rfl⟩
theorem lp_12_362 {nm : String} : lkP "WageCourtModel" nm 362 1585 12 0 := ⟨by decide, 49, q_R12, q_T12, 121, rfl, by decide, by decide, rfl, (gb_7 (i := 63) rfl rfl), rfl, Or.inl rfl⟩
theorem lp_12_365 {nm : String} : lkP "WageCourtModel" nm 365 1587 12 0 := ⟨by decide, 51, q_R12, q_T12, 121, rfl, by decide, by decide, rfl, (gb_7 (i := 65) rfl rfl), rfl, Or.inl rfl⟩
theorem lp_12_37 {nm : String} : lkP "WageCourtModel" nm 37 1553 12 0 := ⟨by decide, 17, q_R12, q_T12, 121, rfl, by decide, by decide, rfl, (gb_7 (i := 31) rfl rfl), rfl, Or.inl rfl⟩
theorem lp_12_40 : lkP "WageCourtModel" "<init>" 40 1555 12 2 := ⟨by decide, 19, q_R12, q_T12, 121, rfl, by decide, by decide, rfl, (gb_7 (i := 33) rfl rfl), rfl, Or.inr ⟨rfl, rfl, rfl⟩⟩
theorem lp_12_412 {nm : String} : lkP "WageCourtModel" nm 412 1590 12 0 := ⟨by decide, 54, q_R12, q_T12, 121, rfl, by decide, by decide, rfl, (gb_7 (i := 68) rfl rfl), rfl, Or.inl rfl⟩
theorem lp_12_421 {nm : String} : lkP "WageCourtModel" nm 421 1591 12 0 := ⟨by decide, 55, q_R12, q_T12, 121, rfl, by decide, by decide, rfl, (gb_7 (i := 69) rfl rfl), rfl, Or.inl rfl⟩
theorem lp_12_424 {nm : String} : lkP "WageCourtModel" nm 424 1592 12 0 := ⟨by decide, 56, q_R12, q_T12, 121, rfl, by decide, by decide, rfl, (gb_7 (i := 70) rfl rfl), rfl, Or.inl rfl⟩
theorem lp_12_427 {nm : String} : lkP "WageCourtModel" nm 427 1595 12 0 := ⟨by decide, 59, q_R12, q_T12, 121, rfl, by decide, by decide, rfl, (gb_7 (i := 73) rfl rfl), rfl, Or.inl rfl⟩
theorem lp_12_43 : lkP "WageCourtModel" "<init>" 43 1556 12 2 := ⟨by decide, 20, q_R12, q_T12, 121, rfl, by decide, by decide, rfl, (gb_7 (i := 34) rfl rfl), rfl, Or.inr ⟨rfl, rfl, rfl⟩⟩
theorem lp_12_46 : lkP "WageCourtModel" "<init>" 46 1557 12 2 := ⟨by decide, 21, q_R12, q_T12, 121, rfl, by decide, by decide, rfl, (gb_7 (i := 35) rfl rfl), rfl, Or.inr ⟨rfl, rfl, rfl⟩⟩
theorem lp_12_464 {nm : String} : lkP "WageCourtModel" nm 464 1610 12 3 := ⟨by decide, 74, q_R12, q_T12, 121, rfl, by decide, by decide, rfl, (gb_7 (i := 88) rfl rfl), rfl, Or.inl rfl⟩
theorem lp_12_468 {nm : String} : lkP "WageCourtModel" nm 468 1611 12 0 := ⟨by decide, 75, q_R12, q_T12, 121, rfl, by decide, by decide, rfl, (gb_7 (i := 89) rfl rfl), rfl, Or.inl rfl⟩
theorem lp_12_477 {nm : String} : lkP "WageCourtModel" nm 477 1613 12 0 := ⟨by decide, 77, q_R12, q_T12, 121, rfl, by decide, by decide, rfl, (gb_7 (i := 91) rfl rfl), rfl, Or.inl rfl⟩
theorem lp_12_480 {nm : String} : lkP "WageCourtModel" nm 480 1614 12 0 := ⟨by decide, 78, q_R12, q_T12, 121, rfl, by decide, by decide, rfl, (gb_7 (i := 92) rfl rfl), rfl, Or.inl rfl⟩
theorem lp_12_49 : lkP "WageCourtModel" "<init>" 49 1558 12 2 := ⟨by decide, 22, q_R12, q_T12, 121, rfl, by decide, by decide, rfl, (gb_7 (i := 36) rfl rfl), rfl, Or.inr ⟨rfl, rfl, rfl⟩⟩
theorem lp_12_503 {nm : String} : lkP "WageCourtModel" nm 503 1625 12 0 := ⟨by decide, 89, q_R12, q_T12, 121, rfl, by decide, by decide, rfl, (gb_7 (i := 103) rfl rfl), rfl, Or.inl rfl⟩
theorem lp_12_509 {nm : String} : lkP "WageCourtModel" nm 509 1623 12 0 := ⟨by decide, 87, q_R12, q_T12, 121, rfl, by decide, by decide, rfl, (gb_7 (i := 101) rfl rfl), rfl, Or.inl rfl⟩
theorem lp_12_512 {nm : String} : lkP "WageCourtModel" nm 512 1624 12 0 := ⟨by decide, 88, q_R12, q_T12, 121, rfl, by decide, by decide, rfl, (gb_7 (i := 102) rfl rfl), rfl, Or.inl rfl⟩
theorem lp_12_52 : lkP "WageCourtModel" "<init>" 52 1559 12 2 := ⟨by decide, 23, q_R12, q_T12, 121, rfl, by decide, by decide, rfl, (gb_7 (i := 37) rfl rfl), rfl, Or.inr ⟨rfl, rfl, rfl⟩⟩
theorem lp_12_540 {nm : String} : lkP "WageCourtModel" nm 540 1638 12 0 := ⟨by decide, 102, q_R12, q_T12, 121, rfl, by decide, by decide, rfl, (gb_7 (i := 116) rfl rfl), rfl, Or.inl rfl⟩
theorem lp_12_543 {nm : String} : lkP "WageCourtModel" nm 543 1639 12 0 := ⟨by decide, 103, q_R12, q_T12, 121, rfl, by decide, by decide, rfl, (gb_7 (i := 117) rfl rfl), rfl, Or.inl rfl⟩
theorem lp_12_55 : lkP "WageCourtModel" "<init>" 55 1560 12 2 := ⟨by decide, 24, q_R12, q_T12, 121, rfl, by decide, by decide, rfl, (gb_7 (i := 38) rfl rfl), rfl, Or.inr ⟨rfl, rfl, rfl⟩⟩
theorem lp_12_558 {nm : String} : lkP "WageCourtModel" nm 558 1643 12 0 := ⟨by decide, 107, q_R12, q_T12, 121, rfl, by decide, by decide, rfl, (gb_7 (i := 121) rfl rfl), rfl, Or.inl rfl⟩
theorem lp_12_561 {nm : String} : lkP "WageCourtModel" nm 561 1642 12 0 := ⟨by decide, 106, q_R12, q_T12, 121, rfl, by decide, by decide, rfl, (gb_7 (i := 120) rfl rfl), rfl, Or.inl rfl⟩
theorem lp_12_573 {nm : String} : lkP "WageCourtModel" nm 573 1628 12 0 := ⟨by decide, 92, q_R12, q_T12, 121, rfl, by decide, by decide, rfl, (gb_7 (i := 106) rfl rfl), rfl, Or.inl rfl⟩
theorem lp_12_576 {nm : String} : lkP "WageCourtModel" nm 576 1629 12 0 := ⟨by decide, 93, q_R12, q_T12, 121, rfl, by decide, by decide, rfl, (gb_7 (i := 107) rfl rfl), rfl, Or.inl rfl⟩
theorem lp_12_58 : lkP "WageCourtModel" "<init>" 58 1561 12 2 := ⟨by decide, 25, q_R12, q_T12, 121, rfl, by decide, by decide, rfl, (gb_7 (i := 39) rfl rfl), rfl, Or.inr ⟨rfl, rfl, rfl⟩⟩
theorem lp_12_61 : lkP "WageCourtModel" "<init>" 61 1562 12 2 := ⟨by decide, 26, q_R12, q_T12, 121, rfl, by decide, by decide, rfl, (gb_7 (i := 40) rfl rfl), rfl, Or.inr ⟨rfl, rfl, rfl⟩⟩
theorem lp_12_64 : lkP "WageCourtModel" "<init>" 64 1563 12 2 := ⟨by decide, 27, q_R12, q_T12, 121, rfl, by decide, by decide, rfl, (gb_7 (i := 41) rfl rfl), rfl, Or.inr ⟨rfl, rfl, rfl⟩⟩
theorem lp_12_641 {nm : String} : lkP "WageCourtModel" nm 641 1651 12 3 := ⟨by decide, 115, q_R12, q_T12, 121, rfl, by decide, by decide, rfl, (gb_7 (i := 129) rfl rfl), rfl, Or.inl rfl⟩
theorem lp_12_67 : lkP "WageCourtModel" "<init>" 67 1564 12 2 := ⟨by decide, 28, q_R12, q_T12, 121, rfl, by decide, by decide, rfl, (gb_7 (i := 42) rfl rfl), rfl, Or.inr ⟨rfl, rfl, rfl⟩⟩
theorem lp_12_70 : lkP "WageCourtModel" "<init>" 70 1565 12 2 := ⟨by decide, 29, q_R12, q_T12, 121, rfl, by decide, by decide, rfl, (gb_7 (i := 43) rfl rfl), rfl, Or.inr ⟨rfl, rfl, rfl⟩⟩
theorem lp_12_74 : lkP "WageCourtModel" "<init>" 74 1566 12 2 := ⟨by decide, 30, q_R12, q_T12, 121, rfl, by decide, by decide, rfl, (gb_7 (i := 44) rfl rfl), rfl, Or.inr ⟨rfl, rfl, rfl⟩⟩
theorem lp_12_77 : lkP "WageCourtModel" "<init>" 77 1567 12 2 := ⟨by decide, 31, q_R12, q_T12, 121, rfl, by decide, by decide, rfl, (gb_7 (i := 45) rfl rfl), rfl, Or.inr ⟨rfl, rfl, rfl⟩⟩
theorem lp_12_80 : lkP "WageCourtModel" "<init>" 80 1568 12 2 := ⟨by decide, 32, q_R12, q_T12, 121, rfl, by decide, by decide, rfl, (gb_7 (i := 46) rfl rfl), rfl, Or.inr ⟨rfl, rfl, rfl⟩⟩
theorem lp_12_83 : lkP "WageCourtModel" "<init>" 83 1569 12 2 := ⟨by decide, 33, q_R12, q_T12, 121, rfl, by decide, by decide, rfl, (gb_7 (i := 47) rfl rfl), rfl, Or.inr ⟨rfl, rfl, rfl⟩⟩
theorem lp_12_86 : lkP "WageCourtModel" "<init>" 86 1570 12 2 := ⟨by decide, 34, q_R12, q_T12, 121, rfl, by decide, by decide, rfl, (gb_7 (i := 48) rfl rfl), rfl, Or.inr ⟨rfl, rfl, rfl⟩⟩
theorem lp_12_89 : lkP "WageCourtModel" "<init>" 89 1571 12 2 := ⟨by decide, 35, q_R12, q_T12, 121, rfl, by decide, by decide, rfl, (gb_7 (i := 49) rfl rfl), rfl, Or.inr ⟨rfl, rfl, rfl⟩⟩
theorem lp_12_92 : lkP "WageCourtModel" "<init>" 92 1572 12 2 := ⟨by decide, 36, q_R12, q_T12, 121, rfl, by decide, by decide, rfl, (gb_7 (i := 50) rfl rfl), rfl, Or.inr ⟨rfl, rfl, rfl⟩⟩
theorem lp_12_95 : lkP "WageCourtModel" "<init>" 95 1573 12 2 := ⟨by decide, 37, q_R12, q_T12, 121, rfl, by decide, by decide, rfl, (gb_7 (i := 51) rfl rfl), rfl, Or.inr ⟨rfl, rfl, rfl⟩⟩
theorem lp_12_98 : lkP "WageCourtModel" "<init>" 98 1574 12 2 := ⟨by decide, 38, q_R12, q_T12, 121, rfl, by decide, by decide, rfl, (gb_7 (i := 52) rfl rfl), rfl, Or.inr ⟨rfl, rfl, rfl⟩⟩
theorem lp_1_15 : lkP "WageCourt$Formula" "<init>" 15 135 1 2 := ⟨by decide, 7, q_R1, q_T1, 10, rfl, by decide, by decide, rfl, (gb_1 (i := 44) rfl rfl), rfl, Or.inr ⟨rfl, rfl, rfl⟩⟩
theorem lp_1_18 : lkP "WageCourt$Formula" "<init>" 18 137 1 2 := ⟨by decide, 9, q_R1, q_T1, 10, rfl, by decide, by decide, rfl, (gb_1 (i := 46) rfl rfl), rfl, Or.inr ⟨rfl, rfl, rfl⟩⟩
theorem lp_1_21 {nm : String} : lkP "WageCourt$Formula" nm 21 129 1 3 := ⟨by decide, 1, q_R1, q_T1, 10, rfl, by decide, by decide, rfl, (gb_1 (i := 38) rfl rfl), rfl, Or.inl rfl⟩
theorem lp_1_25 {nm : String} : lkP "WageCourt$Formula" nm 25 130 1 0 := ⟨by decide, 2, q_R1, q_T1, 10, rfl, by decide, by decide, rfl, (gb_1 (i := 39) rfl rfl), rfl, Or.inl rfl⟩
theorem lp_1_29 {nm : String} : lkP "WageCourt$Formula" nm 29 131 1 0 := ⟨by decide, 3, q_R1, q_T1, 10, rfl, by decide, by decide, rfl, (gb_1 (i := 40) rfl rfl), rfl, Or.inl rfl⟩
theorem lp_1_32 {nm : String} : lkP "WageCourt$Formula" nm 32 132 1 3 := ⟨by decide, 4, q_R1, q_T1, 10, rfl, by decide, by decide, rfl, (gb_1 (i := 41) rfl rfl), rfl, Or.inl rfl⟩
theorem lp_1_35 {nm : String} : lkP "WageCourt$Formula" nm 35 128 1 3 := ⟨by decide, 0, q_R1, q_T1, 10, rfl, by decide, by decide, rfl, (gb_1 (i := 36) rfl rfl), rfl, Or.inl rfl⟩
theorem lp_1_38 {nm : String} : lkP "WageCourt$Formula" nm 38 134 1 0 := ⟨by decide, 6, q_R1, q_T1, 10, rfl, by decide, by decide, rfl, (gb_1 (i := 43) rfl rfl), rfl, Or.inl rfl⟩
theorem lp_1_41 {nm : String} : lkP "WageCourt$Formula" nm 41 136 1 0 := ⟨by decide, 8, q_R1, q_T1, 10, rfl, by decide, by decide, rfl, (gb_1 (i := 45) rfl rfl), rfl, Or.inl rfl⟩
theorem lp_1_9 : lkP "WageCourt$Formula" "<init>" 9 133 1 2 := ⟨by decide, 5, q_R1, q_T1, 10, rfl, by decide, by decide, rfl, (gb_1 (i := 42) rfl rfl), rfl, Or.inr ⟨rfl, rfl, rfl⟩⟩
theorem lp_2_15 {nm : String} : lkP "WageCourt$Item" nm 15 260 2 0 := ⟨by decide, 4, q_R2, q_T2, 13, rfl, by decide, by decide, rfl, (gb_3 (i := 141) rfl rfl), rfl, Or.inl rfl⟩
theorem lp_2_18 {nm : String} : lkP "WageCourt$Item" nm 18 261 2 0 := ⟨by decide, 5, q_R2, q_T2, 13, rfl, by decide, by decide, rfl, (gb_3 (i := 144) rfl rfl), rfl, Or.inl rfl⟩
theorem lp_2_21 {nm : String} : lkP "WageCourt$Item" nm 21 266 2 0 := ⟨by decide, 10, q_R2, q_T2, 13, rfl, by decide, by decide, rfl, (gb_3 (i := 158) rfl rfl), rfl, Or.inl rfl⟩
theorem lp_2_24 {nm : String} : lkP "WageCourt$Item" nm 24 267 2 0 := ⟨by decide, 11, q_R2, q_T2, 13, rfl, by decide, by decide, rfl, (gb_3 (i := 161) rfl rfl), rfl, Or.inl rfl⟩
theorem lp_2_27 : lkP "WageCourt$Item" "<init>" 27 256 2 0 := ⟨by decide, 0, q_R2, q_T2, 13, rfl, by decide, by decide, rfl, (gb_3 (i := 125) rfl rfl), rfl, Or.inr ⟨rfl, rfl, rfl⟩⟩
theorem lp_2_30 : lkP "WageCourt$Item" "<init>" 30 257 2 0 := ⟨by decide, 1, q_R2, q_T2, 13, rfl, by decide, by decide, rfl, (gb_3 (i := 131) rfl rfl), rfl, Or.inr ⟨rfl, rfl, rfl⟩⟩
theorem lp_2_33 {nm : String} : lkP "WageCourt$Item" nm 33 262 2 2 := ⟨by decide, 6, q_R2, q_T2, 13, rfl, by decide, by decide, rfl, (gb_3 (i := 147) rfl rfl), rfl, Or.inl rfl⟩
theorem lp_2_37 {nm : String} : lkP "WageCourt$Item" nm 37 263 2 2 := ⟨by decide, 7, q_R2, q_T2, 13, rfl, by decide, by decide, rfl, (gb_3 (i := 151) rfl rfl), rfl, Or.inl rfl⟩
theorem lp_2_9 {nm : String} : lkP "WageCourt$Item" nm 9 258 2 0 := ⟨by decide, 2, q_R2, q_T2, 13, rfl, by decide, by decide, rfl, (gb_3 (i := 133) rfl rfl), rfl, Or.inl rfl⟩
theorem lp_3_15 : lkP "WageCourt$Land" "<init>" 15 388 3 2 := ⟨by decide, 4, q_R3, q_T3, 10, rfl, by decide, by decide, rfl, (gb_1 (i := 86) rfl rfl), rfl, Or.inr ⟨rfl, rfl, rfl⟩⟩
theorem lp_3_18 : lkP "WageCourt$Land" "<init>" 18 389 3 2 := ⟨by decide, 5, q_R3, q_T3, 10, rfl, by decide, by decide, rfl, (gb_1 (i := 88) rfl rfl), rfl, Or.inr ⟨rfl, rfl, rfl⟩⟩
theorem lp_3_21 : lkP "WageCourt$Land" "<init>" 21 390 3 2 := ⟨by decide, 6, q_R3, q_T3, 10, rfl, by decide, by decide, rfl, (gb_1 (i := 91) rfl rfl), rfl, Or.inr ⟨rfl, rfl, rfl⟩⟩
theorem lp_3_24 : lkP "WageCourt$Land" "<init>" 24 391 3 2 := ⟨by decide, 7, q_R3, q_T3, 10, rfl, by decide, by decide, rfl, (gb_1 (i := 93) rfl rfl), rfl, Or.inr ⟨rfl, rfl, rfl⟩⟩
theorem lp_3_27 : lkP "WageCourt$Land" "<init>" 27 392 3 2 := ⟨by decide, 8, q_R3, q_T3, 10, rfl, by decide, by decide, rfl, (gb_1 (i := 95) rfl rfl), rfl, Or.inr ⟨rfl, rfl, rfl⟩⟩
theorem lp_3_30 : lkP "WageCourt$Land" "<init>" 30 393 3 2 := ⟨by decide, 9, q_R3, q_T3, 10, rfl, by decide, by decide, rfl, (gb_1 (i := 97) rfl rfl), rfl, Or.inr ⟨rfl, rfl, rfl⟩⟩
theorem lp_3_47 {nm : String} : lkP "WageCourt$Land" nm 47 385 3 0 := ⟨by decide, 1, q_R3, q_T3, 10, rfl, by decide, by decide, rfl, (gb_1 (i := 80) rfl rfl), rfl, Or.inl rfl⟩
theorem lp_3_50 {nm : String} : lkP "WageCourt$Land" nm 50 386 3 0 := ⟨by decide, 2, q_R3, q_T3, 10, rfl, by decide, by decide, rfl, (gb_1 (i := 82) rfl rfl), rfl, Or.inl rfl⟩
theorem lp_3_9 : lkP "WageCourt$Land" "<init>" 9 387 3 2 := ⟨by decide, 3, q_R3, q_T3, 10, rfl, by decide, by decide, rfl, (gb_1 (i := 84) rfl rfl), rfl, Or.inr ⟨rfl, rfl, rfl⟩⟩
theorem lp_4_11 : lkP "WageCourt$Ledger" "<init>" 11 512 4 2 := ⟨by decide, 0, q_R4, q_T4, 4, rfl, by decide, by decide, rfl, (gb_1 (i := 131) rfl rfl), rfl, Or.inr ⟨rfl, rfl, rfl⟩⟩
theorem lp_4_19 : lkP "WageCourt$Ledger" "<init>" 19 513 4 2 := ⟨by decide, 1, q_R4, q_T4, 4, rfl, by decide, by decide, rfl, (gb_1 (i := 133) rfl rfl), rfl, Or.inr ⟨rfl, rfl, rfl⟩⟩
theorem lp_4_23 {nm : String} : lkP "WageCourt$Ledger" nm 23 514 4 0 := ⟨by decide, 2, q_R4, q_T4, 4, rfl, by decide, by decide, rfl, (gb_1 (i := 136) rfl rfl), rfl, Or.inl rfl⟩
theorem lp_4_39 {nm : String} : lkP "WageCourt$Ledger" nm 39 515 4 0 := ⟨by decide, 3, q_R4, q_T4, 4, rfl, by decide, by decide, rfl, (gb_1 (i := 141) rfl rfl), rfl, Or.inl rfl⟩
theorem lp_4_81 {nm : String} : lkP "WageCourt$Ledger" nm 81 1287 10 3 := ⟨by decide, 7, q_R10, q_T10, 17, rfl, by decide, by decide, rfl, (gb_4 (i := 95) rfl rfl), rfl, Or.inl rfl⟩
theorem lp_5_15 : lkP "WageCourt$Lexer" "<init>" 15 642 5 2 := ⟨by decide, 2, q_R5, q_T5, 7, rfl, by decide, by decide, rfl, (gb_1 (i := 221) rfl rfl), rfl, Or.inr ⟨rfl, rfl, rfl⟩⟩
theorem lp_5_18 : lkP "WageCourt$Lexer" "<init>" 18 643 5 2 := ⟨by decide, 3, q_R5, q_T5, 7, rfl, by decide, by decide, rfl, (gb_1 (i := 223) rfl rfl), rfl, Or.inr ⟨rfl, rfl, rfl⟩⟩
theorem lp_5_21 : lkP "WageCourt$Lexer" "<init>" 21 644 5 2 := ⟨by decide, 4, q_R5, q_T5, 7, rfl, by decide, by decide, rfl, (gb_1 (i := 225) rfl rfl), rfl, Or.inr ⟨rfl, rfl, rfl⟩⟩
theorem lp_5_25 : lkP "WageCourt$Lexer" "<init>" 25 645 5 2 := ⟨by decide, 5, q_R5, q_T5, 7, rfl, by decide, by decide, rfl, (gb_1 (i := 227) rfl rfl), rfl, Or.inr ⟨rfl, rfl, rfl⟩⟩
theorem lp_5_56 {nm : String} : lkP "WageCourt$Lexer" nm 56 641 5 0 := ⟨by decide, 1, q_R5, q_T5, 7, rfl, by decide, by decide, rfl, (gb_1 (i := 220) rfl rfl), rfl, Or.inl rfl⟩
theorem lp_5_59 {nm : String} : lkP "WageCourt$Lexer" nm 59 646 5 0 := ⟨by decide, 6, q_R5, q_T5, 7, rfl, by decide, by decide, rfl, (gb_1 (i := 228) rfl rfl), rfl, Or.inl rfl⟩
theorem lp_5_9 : lkP "WageCourt$Lexer" "<init>" 9 640 5 2 := ⟨by decide, 0, q_R5, q_T5, 7, rfl, by decide, by decide, rfl, (gb_1 (i := 218) rfl rfl), rfl, Or.inr ⟨rfl, rfl, rfl⟩⟩
theorem lp_6_111 {nm : String} : lkP "WageCourt$Parser" nm 111 786 6 0 := ⟨by decide, 18, q_R6, q_T6, 19, rfl, by decide, by decide, rfl, (gb_2 (i := 35) rfl rfl), rfl, Or.inl rfl⟩
theorem lp_6_117 {nm : String} : lkP "WageCourt$Parser" nm 117 258 2 0 := ⟨by decide, 2, q_R2, q_T2, 13, rfl, by decide, by decide, rfl, (gb_3 (i := 135) rfl rfl), rfl, Or.inl rfl⟩
theorem lp_6_130 {nm : String} : lkP "WageCourt$Parser" nm 130 266 2 0 := ⟨by decide, 10, q_R2, q_T2, 13, rfl, by decide, by decide, rfl, (gb_3 (i := 159) rfl rfl), rfl, Or.inl rfl⟩
theorem lp_6_136 {nm : String} : lkP "WageCourt$Parser" nm 136 267 2 0 := ⟨by decide, 11, q_R2, q_T2, 13, rfl, by decide, by decide, rfl, (gb_3 (i := 162) rfl rfl), rfl, Or.inl rfl⟩
theorem lp_6_15 {nm : String} : lkP "WageCourt$Parser" nm 15 774 6 0 := ⟨by decide, 6, q_R6, q_T6, 19, rfl, by decide, by decide, rfl, (gb_2 (i := 22) rfl rfl), rfl, Or.inl rfl⟩
theorem lp_6_161 {nm : String} : lkP "WageCourt$Parser" nm 161 780 6 0 := ⟨by decide, 12, q_R6, q_T6, 19, rfl, by decide, by decide, rfl, (gb_2 (i := 29) rfl rfl), rfl, Or.inl rfl⟩
theorem lp_6_185 {nm : String} : lkP "WageCourt$Parser" nm 185 265 2 0 := ⟨by decide, 9, q_R2, q_T2, 13, rfl, by decide, by decide, rfl, (gb_3 (i := 157) rfl rfl), rfl, Or.inl rfl⟩
theorem lp_6_200 {nm : String} : lkP "WageCourt$Parser" nm 200 259 2 0 := ⟨by decide, 3, q_R2, q_T2, 13, rfl, by decide, by decide, rfl, (gb_3 (i := 140) rfl rfl), rfl, Or.inl rfl⟩
theorem lp_6_203 {nm : String} : lkP "WageCourt$Parser" nm 203 260 2 0 := ⟨by decide, 4, q_R2, q_T2, 13, rfl, by decide, by decide, rfl, (gb_3 (i := 143) rfl rfl), rfl, Or.inl rfl⟩
theorem lp_6_206 {nm : String} : lkP "WageCourt$Parser" nm 206 261 2 0 := ⟨by decide, 5, q_R2, q_T2, 13, rfl, by decide, by decide, rfl, (gb_3 (i := 146) rfl rfl), rfl, Or.inl rfl⟩
theorem lp_6_209 {nm : String} : lkP "WageCourt$Parser" nm 209 264 2 1 := ⟨by decide, 8, q_R2, q_T2, 13, rfl, by decide, by decide, rfl, (gb_3 (i := 154) rfl rfl), rfl, Or.inl rfl⟩
theorem lp_6_21 : lkP "WageCourt$Parser" "<init>" 21 781 6 2 := ⟨by decide, 13, q_R6, q_T6, 19, rfl, by decide, by decide, rfl, (gb_2 (i := 30) rfl rfl), rfl, Or.inr ⟨rfl, rfl, rfl⟩⟩
theorem lp_6_239 {nm : String} : lkP "WageCourt$Parser" nm 239 263 2 2 := ⟨by decide, 7, q_R2, q_T2, 13, rfl, by decide, by decide, rfl, (gb_3 (i := 153) rfl rfl), rfl, Or.inl rfl⟩
theorem lp_6_242 {nm : String} : lkP "WageCourt$Parser" nm 242 262 2 2 := ⟨by decide, 6, q_R2, q_T2, 13, rfl, by decide, by decide, rfl, (gb_3 (i := 149) rfl rfl), rfl, Or.inl rfl⟩
theorem lp_6_25 : lkP "WageCourt$Parser" "<init>" 25 768 6 2 := ⟨by decide, 0, q_R6, q_T6, 19, rfl, by decide, by decide, rfl, (gb_2 (i := 14) rfl rfl), rfl, Or.inr ⟨rfl, rfl, rfl⟩⟩
theorem lp_6_29 : lkP "WageCourt$Parser" "<init>" 29 769 6 2 := ⟨by decide, 1, q_R6, q_T6, 19, rfl, by decide, by decide, rfl, (gb_2 (i := 15) rfl rfl), rfl, Or.inr ⟨rfl, rfl, rfl⟩⟩
theorem lp_6_33 : lkP "WageCourt$Parser" "<init>" 33 775 6 2 := ⟨by decide, 7, q_R6, q_T6, 19, rfl, by decide, by decide, rfl, (gb_2 (i := 24) rfl rfl), rfl, Or.inr ⟨rfl, rfl, rfl⟩⟩
theorem lp_6_53 {nm : String} : lkP "WageCourt$Parser" nm 53 773 6 0 := ⟨by decide, 5, q_R6, q_T6, 19, rfl, by decide, by decide, rfl, (gb_2 (i := 20) rfl rfl), rfl, Or.inl rfl⟩
theorem lp_6_56 {nm : String} : lkP "WageCourt$Parser" nm 56 776 6 0 := ⟨by decide, 8, q_R6, q_T6, 19, rfl, by decide, by decide, rfl, (gb_2 (i := 25) rfl rfl), rfl, Or.inl rfl⟩
theorem lp_6_59 {nm : String} : lkP "WageCourt$Parser" nm 59 777 6 0 := ⟨by decide, 9, q_R6, q_T6, 19, rfl, by decide, by decide, rfl, (gb_2 (i := 26) rfl rfl), rfl, Or.inl rfl⟩
theorem lp_6_62 {nm : String} : lkP "WageCourt$Parser" nm 62 778 6 0 := ⟨by decide, 10, q_R6, q_T6, 19, rfl, by decide, by decide, rfl, (gb_2 (i := 27) rfl rfl), rfl, Or.inl rfl⟩
theorem lp_6_65 {nm : String} : lkP "WageCourt$Parser" nm 65 771 6 0 := ⟨by decide, 3, q_R6, q_T6, 19, rfl, by decide, by decide, rfl, (gb_2 (i := 17) rfl rfl), rfl, Or.inl rfl⟩
theorem lp_6_68 {nm : String} : lkP "WageCourt$Parser" nm 68 772 6 0 := ⟨by decide, 4, q_R6, q_T6, 19, rfl, by decide, by decide, rfl, (gb_2 (i := 19) rfl rfl), rfl, Or.inl rfl⟩
theorem lp_6_71 {nm : String} : lkP "WageCourt$Parser" nm 71 779 6 0 := ⟨by decide, 11, q_R6, q_T6, 19, rfl, by decide, by decide, rfl, (gb_2 (i := 28) rfl rfl), rfl, Or.inl rfl⟩
theorem lp_6_74 {nm : String} : lkP "WageCourt$Parser" nm 74 782 6 0 := ⟨by decide, 14, q_R6, q_T6, 19, rfl, by decide, by decide, rfl, (gb_2 (i := 31) rfl rfl), rfl, Or.inl rfl⟩
theorem lp_6_77 {nm : String} : lkP "WageCourt$Parser" nm 77 785 6 0 := ⟨by decide, 17, q_R6, q_T6, 19, rfl, by decide, by decide, rfl, (gb_2 (i := 34) rfl rfl), rfl, Or.inl rfl⟩
theorem lp_6_84 {nm : String} : lkP "WageCourt$Parser" nm 84 783 6 0 := ⟨by decide, 15, q_R6, q_T6, 19, rfl, by decide, by decide, rfl, (gb_2 (i := 32) rfl rfl), rfl, Or.inl rfl⟩
theorem lp_6_87 {nm : String} : lkP "WageCourt$Parser" nm 87 784 6 0 := ⟨by decide, 16, q_R6, q_T6, 19, rfl, by decide, by decide, rfl, (gb_2 (i := 33) rfl rfl), rfl, Or.inl rfl⟩
theorem lp_6_9 : lkP "WageCourt$Parser" "<init>" 9 770 6 2 := ⟨by decide, 2, q_R6, q_T6, 19, rfl, by decide, by decide, rfl, (gb_2 (i := 16) rfl rfl), rfl, Or.inr ⟨rfl, rfl, rfl⟩⟩
theorem lp_7_15 : lkP "WageCourt$Parting" "<init>" 15 897 7 2 := ⟨by decide, 1, q_R7, q_T7, 12, rfl, by decide, by decide, rfl, (gb_2 (i := 198) rfl rfl), rfl, Or.inr ⟨rfl, rfl, rfl⟩⟩
theorem lp_7_18 : lkP "WageCourt$Parting" "<init>" 18 898 7 2 := ⟨by decide, 2, q_R7, q_T7, 12, rfl, by decide, by decide, rfl, (gb_2 (i := 199) rfl rfl), rfl, Or.inr ⟨rfl, rfl, rfl⟩⟩
theorem lp_7_21 : lkP "WageCourt$Parting" "<init>" 21 899 7 2 := ⟨by decide, 3, q_R7, q_T7, 12, rfl, by decide, by decide, rfl, (gb_2 (i := 201) rfl rfl), rfl, Or.inr ⟨rfl, rfl, rfl⟩⟩
theorem lp_7_24 : lkP "WageCourt$Parting" "<init>" 24 900 7 2 := ⟨by decide, 4, q_R7, q_T7, 12, rfl, by decide, by decide, rfl, (gb_2 (i := 203) rfl rfl), rfl, Or.inr ⟨rfl, rfl, rfl⟩⟩
theorem lp_7_27 : lkP "WageCourt$Parting" "<init>" 27 902 7 2 := ⟨by decide, 6, q_R7, q_T7, 12, rfl, by decide, by decide, rfl, (gb_2 (i := 205) rfl rfl), rfl, Or.inr ⟨rfl, rfl, rfl⟩⟩
theorem lp_7_30 : lkP "WageCourt$Parting" "<init>" 30 903 7 2 := ⟨by decide, 7, q_R7, q_T7, 12, rfl, by decide, by decide, rfl, (gb_2 (i := 206) rfl rfl), rfl, Or.inr ⟨rfl, rfl, rfl⟩⟩
theorem lp_7_33 : lkP "WageCourt$Parting" "<init>" 33 904 7 2 := ⟨by decide, 8, q_R7, q_T7, 12, rfl, by decide, by decide, rfl, (gb_2 (i := 207) rfl rfl), rfl, Or.inr ⟨rfl, rfl, rfl⟩⟩
theorem lp_7_36 : lkP "WageCourt$Parting" "<init>" 36 905 7 2 := ⟨by decide, 9, q_R7, q_T7, 12, rfl, by decide, by decide, rfl, (gb_2 (i := 208) rfl rfl), rfl, Or.inr ⟨rfl, rfl, rfl⟩⟩
theorem lp_7_49 {nm : String} : lkP "WageCourt$Parting" nm 49 906 7 0 := ⟨by decide, 10, q_R7, q_T7, 12, rfl, by decide, by decide, rfl, (gb_2 (i := 209) rfl rfl), rfl, Or.inl rfl⟩
theorem lp_7_53 {nm : String} : lkP "WageCourt$Parting" nm 53 901 7 0 := ⟨by decide, 5, q_R7, q_T7, 12, rfl, by decide, by decide, rfl, (gb_2 (i := 204) rfl rfl), rfl, Or.inl rfl⟩
theorem lp_7_84 {nm : String} : lkP "WageCourt$Parting" nm 84 907 7 0 := ⟨by decide, 11, q_R7, q_T7, 12, rfl, by decide, by decide, rfl, (gb_2 (i := 210) rfl rfl), rfl, Or.inl rfl⟩
theorem lp_7_9 : lkP "WageCourt$Parting" "<init>" 9 896 7 2 := ⟨by decide, 0, q_R7, q_T7, 12, rfl, by decide, by decide, rfl, (gb_2 (i := 196) rfl rfl), rfl, Or.inr ⟨rfl, rfl, rfl⟩⟩
theorem lp_8_103 {nm : String} : lkP "WageCourt$Reckoning" nm 103 1296 10 1 := ⟨by decide, 16, q_R10, q_T10, 17, rfl, by decide, by decide, rfl, (gb_4 (i := 117) rfl rfl), rfl, Or.inl rfl⟩
theorem lp_8_11 : lkP "WageCourt$Reckoning" "<init>" 11 1029 8 2 := ⟨by decide, 5, q_R8, q_T8, 20, rfl, by decide, by decide, rfl, (gb_2 (i := 124) rfl rfl), rfl, Or.inr ⟨rfl, rfl, rfl⟩⟩
theorem lp_8_155 {nm : String} : lkP "WageCourt$Reckoning" nm 155 1032 8 0 := ⟨by decide, 8, q_R8, q_T8, 20, rfl, by decide, by decide, rfl, (gb_2 (i := 128) rfl rfl), rfl, Or.inl rfl⟩
theorem lp_8_17 : lkP "WageCourt$Reckoning" "<init>" 17 1030 8 2 := ⟨by decide, 6, q_R8, q_T8, 20, rfl, by decide, by decide, rfl, (gb_2 (i := 125) rfl rfl), rfl, Or.inr ⟨rfl, rfl, rfl⟩⟩
theorem lp_8_196 {nm : String} : lkP "WageCourt$Reckoning" nm 196 1295 10 3 := ⟨by decide, 15, q_R10, q_T10, 17, rfl, by decide, by decide, rfl, (gb_4 (i := 116) rfl rfl), rfl, Or.inl rfl⟩
theorem lp_8_21 : lkP "WageCourt$Reckoning" "<init>" 21 1031 8 2 := ⟨by decide, 7, q_R8, q_T8, 20, rfl, by decide, by decide, rfl, (gb_2 (i := 127) rfl rfl), rfl, Or.inr ⟨rfl, rfl, rfl⟩⟩
theorem lp_8_24 : lkP "WageCourt$Reckoning" "<init>" 24 1033 8 2 := ⟨by decide, 9, q_R8, q_T8, 20, rfl, by decide, by decide, rfl, (gb_2 (i := 129) rfl rfl), rfl, Or.inr ⟨rfl, rfl, rfl⟩⟩
theorem lp_8_276 {nm : String} : lkP "WageCourt$Reckoning" nm 276 1043 8 0 := ⟨by decide, 19, q_R8, q_T8, 20, rfl, by decide, by decide, rfl, (gb_2 (i := 146) rfl rfl), rfl, Or.inl rfl⟩
theorem lp_8_282 {nm : String} : lkP "WageCourt$Reckoning" nm 282 1041 8 0 := ⟨by decide, 17, q_R8, q_T8, 20, rfl, by decide, by decide, rfl, (gb_2 (i := 142) rfl rfl), rfl, Or.inl rfl⟩
theorem lp_8_29 : lkP "WageCourt$Reckoning" "<init>" 29 1034 8 2 := ⟨by decide, 10, q_R8, q_T8, 20, rfl, by decide, by decide, rfl, (gb_2 (i := 131) rfl rfl), rfl, Or.inr ⟨rfl, rfl, rfl⟩⟩
theorem lp_8_33 : lkP "WageCourt$Reckoning" "<init>" 33 1035 8 2 := ⟨by decide, 11, q_R8, q_T8, 20, rfl, by decide, by decide, rfl, (gb_2 (i := 133) rfl rfl), rfl, Or.inr ⟨rfl, rfl, rfl⟩⟩
theorem lp_8_36 : lkP "WageCourt$Reckoning" "<init>" 36 1036 8 2 := ⟨by decide, 12, q_R8, q_T8, 20, rfl, by decide, by decide, rfl, (gb_2 (i := 135) rfl rfl), rfl, Or.inr ⟨rfl, rfl, rfl⟩⟩
theorem lp_8_39 : lkP "WageCourt$Reckoning" "<init>" 39 1037 8 2 := ⟨by decide, 13, q_R8, q_T8, 20, rfl, by decide, by decide, rfl, (gb_2 (i := 136) rfl rfl), rfl, Or.inr ⟨rfl, rfl, rfl⟩⟩
theorem lp_8_42 : lkP "WageCourt$Reckoning" "<init>" 42 1038 8 2 := ⟨by decide, 14, q_R8, q_T8, 20, rfl, by decide, by decide, rfl, (gb_2 (i := 137) rfl rfl), rfl, Or.inr ⟨rfl, rfl, rfl⟩⟩
theorem lp_8_45 : lkP "WageCourt$Reckoning" "<init>" 45 1039 8 2 := ⟨by decide, 15, q_R8, q_T8, 20, rfl, by decide, by decide, rfl, (gb_2 (i := 139) rfl rfl), rfl, Or.inr ⟨rfl, rfl, rfl⟩⟩
theorem lp_8_48 : lkP "WageCourt$Reckoning" "<init>" 48 1040 8 2 := ⟨by decide, 16, q_R8, q_T8, 20, rfl, by decide, by decide, rfl, (gb_2 (i := 141) rfl rfl), rfl, Or.inr ⟨rfl, rfl, rfl⟩⟩
theorem lp_8_51 : lkP "WageCourt$Reckoning" "<init>" 51 1042 8 2 := ⟨by decide, 18, q_R8, q_T8, 20, rfl, by decide, by decide, rfl, (gb_2 (i := 144) rfl rfl), rfl, Or.inr ⟨rfl, rfl, rfl⟩⟩
theorem lp_8_54 : lkP "WageCourt$Reckoning" "<init>" 54 1024 8 2 := ⟨by decide, 0, q_R8, q_T8, 20, rfl, by decide, by decide, rfl, (gb_2 (i := 119) rfl rfl), rfl, Or.inr ⟨rfl, rfl, rfl⟩⟩
theorem lp_8_58 : lkP "WageCourt$Reckoning" "<init>" 58 1025 8 2 := ⟨by decide, 1, q_R8, q_T8, 20, rfl, by decide, by decide, rfl, (gb_2 (i := 120) rfl rfl), rfl, Or.inr ⟨rfl, rfl, rfl⟩⟩
theorem lp_8_62 {nm : String} : lkP "WageCourt$Reckoning" nm 62 1026 8 0 := ⟨by decide, 2, q_R8, q_T8, 20, rfl, by decide, by decide, rfl, (gb_2 (i := 121) rfl rfl), rfl, Or.inl rfl⟩
theorem lp_8_66 {nm : String} : lkP "WageCourt$Reckoning" nm 66 1027 8 0 := ⟨by decide, 3, q_R8, q_T8, 20, rfl, by decide, by decide, rfl, (gb_2 (i := 122) rfl rfl), rfl, Or.inl rfl⟩
theorem lp_8_69 {nm : String} : lkP "WageCourt$Reckoning" nm 69 1028 8 0 := ⟨by decide, 4, q_R8, q_T8, 20, rfl, by decide, by decide, rfl, (gb_2 (i := 123) rfl rfl), rfl, Or.inl rfl⟩
theorem lp_9_103 {nm : String} : lkP "WageCourt$Scene" nm 103 268 2 0 := ⟨by decide, 12, q_R2, q_T2, 13, rfl, by decide, by decide, rfl, (gb_3 (i := 164) rfl rfl), rfl, Or.inl rfl⟩
theorem lp_9_118 {nm : String} : lkP "WageCourt$Scene" nm 118 1293 10 0 := ⟨by decide, 13, q_R10, q_T10, 17, rfl, by decide, by decide, rfl, (gb_4 (i := 111) rfl rfl), rfl, Or.inl rfl⟩
theorem lp_9_121 {nm : String} : lkP "WageCourt$Scene" nm 121 1294 10 0 := ⟨by decide, 14, q_R10, q_T10, 17, rfl, by decide, by decide, rfl, (gb_4 (i := 114) rfl rfl), rfl, Or.inl rfl⟩
theorem lp_9_15 : lkP "WageCourt$Scene" "<init>" 15 1156 9 2 := ⟨by decide, 4, q_R9, q_T9, 9, rfl, by decide, by decide, rfl, (gb_2 (i := 87) rfl rfl), rfl, Or.inr ⟨rfl, rfl, rfl⟩⟩
theorem lp_9_157 {nm : String} : lkP "WageCourt$Scene" nm 157 1157 9 0 := ⟨by decide, 5, q_R9, q_T9, 9, rfl, by decide, by decide, rfl, (gb_2 (i := 88) rfl rfl), rfl, Or.inl rfl⟩
theorem lp_9_18 {nm : String} : lkP "WageCourt$Scene" nm 18 1159 9 0 := ⟨by decide, 7, q_R9, q_T9, 9, rfl, by decide, by decide, rfl, (gb_2 (i := 90) rfl rfl), rfl, Or.inl rfl⟩
theorem lp_9_22 : lkP "WageCourt$Scene" "<init>" 22 1152 9 2 := ⟨by decide, 0, q_R9, q_T9, 9, rfl, by decide, by decide, rfl, (gb_2 (i := 81) rfl rfl), rfl, Or.inr ⟨rfl, rfl, rfl⟩⟩
theorem lp_9_26 : lkP "WageCourt$Scene" "<init>" 26 1153 9 2 := ⟨by decide, 1, q_R9, q_T9, 9, rfl, by decide, by decide, rfl, (gb_2 (i := 83) rfl rfl), rfl, Or.inr ⟨rfl, rfl, rfl⟩⟩
theorem lp_9_30 : lkP "WageCourt$Scene" "<init>" 30 1154 9 2 := ⟨by decide, 2, q_R9, q_T9, 9, rfl, by decide, by decide, rfl, (gb_2 (i := 84) rfl rfl), rfl, Or.inr ⟨rfl, rfl, rfl⟩⟩
theorem lp_9_34 {nm : String} : lkP "WageCourt$Scene" nm 34 1158 9 2 := ⟨by decide, 6, q_R9, q_T9, 9, rfl, by decide, by decide, rfl, (gb_2 (i := 89) rfl rfl), rfl, Or.inl rfl⟩
theorem lp_9_38 {nm : String} : lkP "WageCourt$Scene" nm 38 1160 9 0 := ⟨by decide, 8, q_R9, q_T9, 9, rfl, by decide, by decide, rfl, (gb_2 (i := 91) rfl rfl), rfl, Or.inl rfl⟩
theorem lp_9_9 : lkP "WageCourt$Scene" "<init>" 9 1155 9 2 := ⟨by decide, 3, q_R9, q_T9, 9, rfl, by decide, by decide, rfl, (gb_2 (i := 86) rfl rfl), rfl, Or.inr ⟨rfl, rfl, rfl⟩⟩
theorem lw_arr_boolean : Cond.arrayClass .boolean ∈ g_tbl := (gb_8 (i := 138) rfl rfl)
theorem lw_arr_byte : Cond.arrayClass .byte ∈ g_tbl := (gb_2 (i := 5) rfl rfl)
theorem lw_arr_int : Cond.arrayClass .int ∈ g_tbl := (gb_1 (i := 68) rfl rfl)
theorem lw_arr_long : Cond.arrayClass .long ∈ g_tbl := (gb_2 (i := 4) rfl rfl)
theorem ly_7_87 : Cond.methodLink "WageCourt$Parting" 87 arraycopyName ∈ g_tbl := (gb_6 (i := 221) rfl rfl)
theorem ly_9_58 : Cond.methodLink "WageCourt$Scene" 58 arraycopyName ∈ g_tbl := (gb_5 (i := 134) rfl rfl)
theorem ly_A_150 : Cond.methodLink "java/util/Arrays" 150 arraycopyName ∈ g_tbl := (gb_4 (i := 25) rfl rfl)
theorem ly_ini : Cond.initialized "java/lang/System" ∈ g_tbl := (gb_1 (i := 18) rfl rfl)
theorem ly_nat : Cond.native arraycopyName ∈ g_tbl := (gb_4 (i := 27) rfl rfl)
theorem ly_st : Cond.static arraycopyName ∈ g_tbl := (gb_4 (i := 26) rfl rfl)
theorem mo_J_bitCount : mOk k_J_bitCount 1 := ⟨(gb_6 (i := 92) rfl rfl), (gb_1 (i := 21) rfl rfl), by decide, by decide, by decide, by decide +kernel⟩
theorem mo_J_copyOf : mOk k_J_copyOf 2 := ⟨(gb_4 (i := 14) rfl rfl), (gb_1 (i := 4) rfl rfl), by decide, by decide, by decide, by decide +kernel⟩
theorem mo_J_fill : mOk k_J_fill 2 := ⟨(gb_1 (i := 77) rfl rfl), (gb_1 (i := 4) rfl rfl), by decide, by decide, by decide, by decide +kernel⟩
theorem mo_P_Fact_init : mOk k_P_Fact_init 7 := ⟨(gb_4 (i := 160) rfl rfl), (gb_1 (i := 20) rfl rfl), by decide, by decide, by decide, by decide +kernel⟩
theorem mo_P_Formula_addStep : mOk k_P_Formula_addStep 2 := ⟨(gb_3 (i := 232) rfl rfl), (gb_1 (i := 2) rfl rfl), by decide, by decide, by decide, by decide +kernel⟩
theorem mo_P_Formula_begin : mOk k_P_Formula_begin 1 := ⟨(gb_3 (i := 208) rfl rfl), (gb_1 (i := 2) rfl rfl), by decide, by decide, by decide, by decide +kernel⟩
theorem mo_P_Formula_goOnWithOperand : mOk k_P_Formula_goOnWithOperand 4 := ⟨(gb_4 (i := 7) rfl rfl), (gb_1 (i := 2) rfl rfl), by decide, by decide, by decide, by decide +kernel⟩
theorem mo_P_Formula_goOnWithSign : mOk k_P_Formula_goOnWithSign 1 := ⟨(gb_3 (i := 220) rfl rfl), (gb_1 (i := 2) rfl rfl), by decide, by decide, by decide, by decide +kernel⟩
theorem mo_P_Formula_goOnWithUnit : mOk k_P_Formula_goOnWithUnit 2 := ⟨(gb_4 (i := 3) rfl rfl), (gb_1 (i := 2) rfl rfl), by decide, by decide, by decide, by decide +kernel⟩
theorem mo_P_Formula_init : mOk k_P_Formula_init 0 := ⟨(gb_1 (i := 34) rfl rfl), (gb_1 (i := 2) rfl rfl), by decide, by decide, by decide, by decide +kernel⟩
theorem mo_P_Formula_isSo : mOk k_P_Formula_isSo 3 := ⟨(gb_5 (i := 181) rfl rfl), (gb_1 (i := 2) rfl rfl), by decide, by decide, by decide, by decide +kernel⟩
theorem mo_P_Formula_joined : mOk k_P_Formula_joined 3 := ⟨(gb_5 (i := 184) rfl rfl), (gb_1 (i := 2) rfl rfl), by decide, by decide, by decide, by decide +kernel⟩
theorem mo_P_Formula_made : mOk k_P_Formula_made 0 := ⟨(gb_4 (i := 11) rfl rfl), (gb_1 (i := 2) rfl rfl), by decide, by decide, by decide, by decide +kernel⟩
theorem mo_P_Formula_operand : mOk k_P_Formula_operand 4 := ⟨(gb_5 (i := 178) rfl rfl), (gb_1 (i := 2) rfl rfl), by decide, by decide, by decide, by decide +kernel⟩
theorem mo_P_Formula_putOff : mOk k_P_Formula_putOff 2 := ⟨(gb_3 (i := 236) rfl rfl), (gb_1 (i := 2) rfl rfl), by decide, by decide, by decide, by decide +kernel⟩
theorem mo_P_Formula_rankOf : mOk k_P_Formula_rankOf 1 := ⟨(gb_3 (i := 224) rfl rfl), (gb_1 (i := 2) rfl rfl), by decide, by decide, by decide, by decide +kernel⟩
theorem mo_P_Formula_result : mOk k_P_Formula_result 3 := ⟨(gb_5 (i := 175) rfl rfl), (gb_1 (i := 2) rfl rfl), by decide, by decide, by decide, by decide +kernel⟩
theorem mo_P_Formula_settle : mOk k_P_Formula_settle 1 := ⟨(gb_3 (i := 228) rfl rfl), (gb_1 (i := 2) rfl rfl), by decide, by decide, by decide, by decide +kernel⟩
theorem mo_P_Formula_wantsSign : mOk k_P_Formula_wantsSign 0 := ⟨(gb_3 (i := 216) rfl rfl), (gb_1 (i := 2) rfl rfl), by decide, by decide, by decide, by decide +kernel⟩
theorem mo_P_Formula_wantsTicket : mOk k_P_Formula_wantsTicket 0 := ⟨(gb_3 (i := 212) rfl rfl), (gb_1 (i := 2) rfl rfl), by decide, by decide, by decide, by decide +kernel⟩
theorem mo_P_Item_init : mOk k_P_Item_init 2 := ⟨(gb_3 (i := 123) rfl rfl), (gb_1 (i := 16) rfl rfl), by decide, by decide, by decide, by decide +kernel⟩
theorem mo_P_Land_addFirm : mOk k_P_Land_addFirm 2 := ⟨(gb_4 (i := 231) rfl rfl), (gb_1 (i := 3) rfl rfl), by decide, by decide, by decide, by decide +kernel⟩
theorem mo_P_Land_addPerson : mOk k_P_Land_addPerson 3 := ⟨(gb_5 (i := 3) rfl rfl), (gb_1 (i := 3) rfl rfl), by decide, by decide, by decide, by decide +kernel⟩
theorem mo_P_Land_hasFirm : mOk k_P_Land_hasFirm 1 := ⟨(gb_4 (i := 239) rfl rfl), (gb_1 (i := 3) rfl rfl), by decide, by decide, by decide, by decide +kernel⟩
theorem mo_P_Land_hasPerson : mOk k_P_Land_hasPerson 1 := ⟨(gb_5 (i := 40) rfl rfl), (gb_1 (i := 3) rfl rfl), by decide, by decide, by decide, by decide +kernel⟩
theorem mo_P_Land_hasTown : mOk k_P_Land_hasTown 1 := ⟨(gb_4 (i := 225) rfl rfl), (gb_1 (i := 3) rfl rfl), by decide, by decide, by decide, by decide +kernel⟩
theorem mo_P_Land_init : mOk k_P_Land_init 0 := ⟨(gb_1 (i := 73) rfl rfl), (gb_1 (i := 3) rfl rfl), by decide, by decide, by decide, by decide +kernel⟩
theorem mo_P_Ledger_add : mOk k_P_Ledger_add 1 := ⟨(gb_4 (i := 201) rfl rfl), (gb_1 (i := 5) rfl rfl), by decide, by decide, by decide, by decide +kernel⟩
theorem mo_P_Ledger_awardNamed : mOk k_P_Ledger_awardNamed 1 := ⟨(gb_3 (i := 99) rfl rfl), (gb_1 (i := 5) rfl rfl), by decide, by decide, by decide, by decide +kernel⟩
theorem mo_P_Ledger_basket : mOk k_P_Ledger_basket 4 := ⟨(gb_5 (i := 107) rfl rfl), (gb_1 (i := 5) rfl rfl), by decide, by decide, by decide, by decide +kernel⟩
theorem mo_P_Ledger_canKnow : mOk k_P_Ledger_canKnow 1 := ⟨(gb_5 (i := 95) rfl rfl), (gb_1 (i := 5) rfl rfl), by decide, by decide, by decide, by decide +kernel⟩
theorem mo_P_Ledger_enter : mOk k_P_Ledger_enter 1 := ⟨(gb_4 (i := 156) rfl rfl), (gb_1 (i := 5) rfl rfl), by decide, by decide, by decide, by decide +kernel⟩
theorem mo_P_Ledger_factAt : mOk k_P_Ledger_factAt 1 := ⟨(gb_5 (i := 52) rfl rfl), (gb_1 (i := 5) rfl rfl), by decide, by decide, by decide, by decide +kernel⟩
theorem mo_P_Ledger_init : mOk k_P_Ledger_init 0 := ⟨(gb_1 (i := 125) rfl rfl), (gb_1 (i := 5) rfl rfl), by decide, by decide, by decide, by decide +kernel⟩
theorem mo_P_Ledger_lastClaim : mOk k_P_Ledger_lastClaim 3 := ⟨(gb_4 (i := 59) rfl rfl), (gb_1 (i := 5) rfl rfl), by decide, by decide, by decide, by decide +kernel⟩
theorem mo_P_Ledger_lastPrice : mOk k_P_Ledger_lastPrice 4 := ⟨(gb_5 (i := 99) rfl rfl), (gb_1 (i := 5) rfl rfl), by decide, by decide, by decide, by decide +kernel⟩
theorem mo_P_Ledger_lastWet : mOk k_P_Ledger_lastWet 3 := ⟨(gb_6 (i := 17) rfl rfl), (gb_1 (i := 5) rfl rfl), by decide, by decide, by decide, by decide +kernel⟩
theorem mo_P_Ledger_payments : mOk k_P_Ledger_payments 3 := ⟨(gb_6 (i := 155) rfl rfl), (gb_1 (i := 5) rfl rfl), by decide, by decide, by decide, by decide +kernel⟩
theorem mo_P_Ledger_setInForce : mOk k_P_Ledger_setInForce 3 := ⟨(gb_5 (i := 138) rfl rfl), (gb_1 (i := 5) rfl rfl), by decide, by decide, by decide, by decide +kernel⟩
theorem mo_P_Ledger_tell : mOk k_P_Ledger_tell 5 := ⟨(gb_5 (i := 25) rfl rfl), (gb_1 (i := 5) rfl rfl), by decide, by decide, by decide, by decide +kernel⟩
theorem mo_P_Ledger_tellRow : mOk k_P_Ledger_tellRow 3 := ⟨(gb_5 (i := 44) rfl rfl), (gb_1 (i := 5) rfl rfl), by decide, by decide, by decide, by decide +kernel⟩
theorem mo_P_Ledger_textAt : mOk k_P_Ledger_textAt 2 := ⟨(gb_5 (i := 65) rfl rfl), (gb_1 (i := 5) rfl rfl), by decide, by decide, by decide, by decide +kernel⟩
theorem mo_P_Lexer_init : mOk k_P_Lexer_init 0 := ⟨(gb_1 (i := 156) rfl rfl), (gb_1 (i := 6) rfl rfl), by decide, by decide, by decide, by decide +kernel⟩
theorem mo_P_Lexer_isBlank : mOk k_P_Lexer_isBlank 1 := ⟨(gb_3 (i := 47) rfl rfl), (gb_1 (i := 6) rfl rfl), by decide, by decide, by decide, by decide +kernel⟩
theorem mo_P_Lexer_isDigit : mOk k_P_Lexer_isDigit 1 := ⟨(gb_3 (i := 65) rfl rfl), (gb_1 (i := 6) rfl rfl), by decide, by decide, by decide, by decide +kernel⟩
theorem mo_P_Lexer_isLetter : mOk k_P_Lexer_isLetter 1 := ⟨(gb_3 (i := 54) rfl rfl), (gb_1 (i := 6) rfl rfl), by decide, by decide, by decide, by decide +kernel⟩
theorem mo_P_Lexer_learn : mOk k_P_Lexer_learn 2 := ⟨(gb_1 (i := 162) rfl rfl), (gb_1 (i := 6) rfl rfl), by decide, by decide, by decide, by decide +kernel⟩
theorem mo_P_Lexer_scan : mOk k_P_Lexer_scan 0 := ⟨(gb_3 (i := 44) rfl rfl), (gb_1 (i := 6) rfl rfl), by decide, by decide, by decide, by decide +kernel⟩
theorem mo_P_Lexer_signKind : mOk k_P_Lexer_signKind 2 := ⟨(gb_3 (i := 72) rfl rfl), (gb_1 (i := 6) rfl rfl), by decide, by decide, by decide, by decide +kernel⟩
theorem mo_P_Lexer_takeDigits : mOk k_P_Lexer_takeDigits 1 := ⟨(gb_3 (i := 69) rfl rfl), (gb_1 (i := 6) rfl rfl), by decide, by decide, by decide, by decide +kernel⟩
theorem mo_P_Lexer_takeLetters : mOk k_P_Lexer_takeLetters 1 := ⟨(gb_3 (i := 58) rfl rfl), (gb_1 (i := 6) rfl rfl), by decide, by decide, by decide, by decide +kernel⟩
theorem mo_P_Lexer_takeToken : mOk k_P_Lexer_takeToken 2 := ⟨(gb_3 (i := 51) rfl rfl), (gb_1 (i := 6) rfl rfl), by decide, by decide, by decide, by decide +kernel⟩
theorem mo_P_Lexer_withLetter : mOk k_P_Lexer_withLetter 2 := ⟨(gb_1 (i := 213) rfl rfl), (gb_1 (i := 6) rfl rfl), by decide, by decide, by decide, by decide +kernel⟩
theorem mo_P_Lexer_wordKind : mOk k_P_Lexer_wordKind 1 := ⟨(gb_3 (i := 62) rfl rfl), (gb_1 (i := 6) rfl rfl), by decide, by decide, by decide, by decide +kernel⟩
theorem mo_P_Lexer_write : mOk k_P_Lexer_write 1 := ⟨(gb_3 (i := 28) rfl rfl), (gb_1 (i := 6) rfl rfl), by decide, by decide, by decide, by decide +kernel⟩
theorem mo_P_Parser_begin : mOk k_P_Parser_begin 0 := ⟨(gb_3 (i := 40) rfl rfl), (gb_1 (i := 11) rfl rfl), by decide, by decide, by decide, by decide +kernel⟩
theorem mo_P_Parser_fail : mOk k_P_Parser_fail 1 := ⟨(gb_3 (i := 83) rfl rfl), (gb_1 (i := 11) rfl rfl), by decide, by decide, by decide, by decide +kernel⟩
theorem mo_P_Parser_finish : mOk k_P_Parser_finish 1 := ⟨(gb_4 (i := 47) rfl rfl), (gb_1 (i := 11) rfl rfl), by decide, by decide, by decide, by decide +kernel⟩
theorem mo_P_Parser_init : mOk k_P_Parser_init 3 := ⟨(gb_2 (i := 10) rfl rfl), (gb_1 (i := 11) rfl rfl), by decide, by decide, by decide, by decide +kernel⟩
theorem mo_P_Parser_isMisplaced : mOk k_P_Parser_isMisplaced 1 := ⟨(gb_3 (i := 196) rfl rfl), (gb_1 (i := 11) rfl rfl), by decide, by decide, by decide, by decide +kernel⟩
theorem mo_P_Parser_made : mOk k_P_Parser_made 0 := ⟨(gb_4 (i := 51) rfl rfl), (gb_1 (i := 11) rfl rfl), by decide, by decide, by decide, by decide +kernel⟩
theorem mo_P_Parser_noteLate : mOk k_P_Parser_noteLate 1 := ⟨(gb_3 (i := 103) rfl rfl), (gb_1 (i := 11) rfl rfl), by decide, by decide, by decide, by decide +kernel⟩
theorem mo_P_Parser_numberOf : mOk k_P_Parser_numberOf 1 := ⟨(gb_3 (i := 95) rfl rfl), (gb_1 (i := 11) rfl rfl), by decide, by decide, by decide, by decide +kernel⟩
theorem mo_P_Parser_numberOfOnly : mOk k_P_Parser_numberOfOnly 0 := ⟨(gb_4 (i := 213) rfl rfl), (gb_1 (i := 11) rfl rfl), by decide, by decide, by decide, by decide +kernel⟩
theorem mo_P_Parser_setAmbit : mOk k_P_Parser_setAmbit 2 := ⟨(gb_4 (i := 55) rfl rfl), (gb_1 (i := 11) rfl rfl), by decide, by decide, by decide, by decide +kernel⟩
theorem mo_P_Parser_take : mOk k_P_Parser_take 0 := ⟨(gb_3 (i := 87) rfl rfl), (gb_1 (i := 11) rfl rfl), by decide, by decide, by decide, by decide +kernel⟩
theorem mo_P_Parser_takeBars : mOk k_P_Parser_takeBars 1 := ⟨(gb_4 (i := 43) rfl rfl), (gb_1 (i := 11) rfl rfl), by decide, by decide, by decide, by decide +kernel⟩
theorem mo_P_Parser_takeBody : mOk k_P_Parser_takeBody 1 := ⟨(gb_3 (i := 200) rfl rfl), (gb_1 (i := 11) rfl rfl), by decide, by decide, by decide, by decide +kernel⟩
theorem mo_P_Parser_takeFormula : mOk k_P_Parser_takeFormula 2 := ⟨(gb_3 (i := 204) rfl rfl), (gb_1 (i := 11) rfl rfl), by decide, by decide, by decide, by decide +kernel⟩
theorem mo_P_Parser_takeHead : mOk k_P_Parser_takeHead 0 := ⟨(gb_3 (i := 76) rfl rfl), (gb_1 (i := 11) rfl rfl), by decide, by decide, by decide, by decide +kernel⟩
theorem mo_P_Parser_takeInt : mOk k_P_Parser_takeInt 2 := ⟨(gb_3 (i := 115) rfl rfl), (gb_1 (i := 11) rfl rfl), by decide, by decide, by decide, by decide +kernel⟩
theorem mo_P_Parser_takeItemName : mOk k_P_Parser_takeItemName 1 := ⟨(gb_4 (i := 31) rfl rfl), (gb_1 (i := 11) rfl rfl), by decide, by decide, by decide, by decide +kernel⟩
theorem mo_P_Parser_takeItems : mOk k_P_Parser_takeItems 0 := ⟨(gb_3 (i := 119) rfl rfl), (gb_1 (i := 11) rfl rfl), by decide, by decide, by decide, by decide +kernel⟩
theorem mo_P_Parser_takeKind : mOk k_P_Parser_takeKind 1 := ⟨(gb_3 (i := 111) rfl rfl), (gb_1 (i := 11) rfl rfl), by decide, by decide, by decide, by decide +kernel⟩
theorem mo_P_Parser_takeMargin : mOk k_P_Parser_takeMargin 1 := ⟨(gb_4 (i := 39) rfl rfl), (gb_1 (i := 11) rfl rfl), by decide, by decide, by decide, by decide +kernel⟩
theorem mo_P_Parser_takeName : mOk k_P_Parser_takeName 0 := ⟨(gb_3 (i := 107) rfl rfl), (gb_1 (i := 11) rfl rfl), by decide, by decide, by decide, by decide +kernel⟩
theorem mo_P_Parser_takeTasks : mOk k_P_Parser_takeTasks 1 := ⟨(gb_4 (i := 35) rfl rfl), (gb_1 (i := 11) rfl rfl), by decide, by decide, by decide, by decide +kernel⟩
theorem mo_P_Parser_takeTitle : mOk k_P_Parser_takeTitle 0 := ⟨(gb_3 (i := 91) rfl rfl), (gb_1 (i := 11) rfl rfl), by decide, by decide, by decide, by decide +kernel⟩
theorem mo_P_Parting_divide : mOk k_P_Parting_divide 3 := ⟨(gb_6 (i := 193) rfl rfl), (gb_1 (i := 14) rfl rfl), by decide, by decide, by decide, by decide +kernel⟩
theorem mo_P_Parting_gather : mOk k_P_Parting_gather 1 := ⟨(gb_6 (i := 197) rfl rfl), (gb_1 (i := 14) rfl rfl), by decide, by decide, by decide, by decide +kernel⟩
theorem mo_P_Parting_groupsAmong : mOk k_P_Parting_groupsAmong 1 := ⟨(gb_6 (i := 205) rfl rfl), (gb_1 (i := 14) rfl rfl), by decide, by decide, by decide, by decide +kernel⟩
theorem mo_P_Parting_init : mOk k_P_Parting_init 0 := ⟨(gb_2 (i := 193) rfl rfl), (gb_1 (i := 14) rfl rfl), by decide, by decide, by decide, by decide +kernel⟩
theorem mo_P_Parting_isTorn : mOk k_P_Parting_isTorn 1 := ⟨(gb_6 (i := 210) rfl rfl), (gb_1 (i := 14) rfl rfl), by decide, by decide, by decide, by decide +kernel⟩
theorem mo_P_Parting_nextWay : mOk k_P_Parting_nextWay 0 := ⟨(gb_6 (i := 225) rfl rfl), (gb_1 (i := 14) rfl rfl), by decide, by decide, by decide, by decide +kernel⟩
theorem mo_P_Parting_remember : mOk k_P_Parting_remember 0 := ⟨(gb_6 (i := 229) rfl rfl), (gb_1 (i := 14) rfl rfl), by decide, by decide, by decide, by decide +kernel⟩
theorem mo_P_Parting_setApart : mOk k_P_Parting_setApart 3 := ⟨(gb_6 (i := 183) rfl rfl), (gb_1 (i := 14) rfl rfl), by decide, by decide, by decide, by decide +kernel⟩
theorem mo_P_Parting_settle : mOk k_P_Parting_settle 2 := ⟨(gb_6 (i := 214) rfl rfl), (gb_1 (i := 14) rfl rfl), by decide, by decide, by decide, by decide +kernel⟩
theorem mo_P_Parting_weigh : mOk k_P_Parting_weigh 2 := ⟨(gb_6 (i := 201) rfl rfl), (gb_1 (i := 14) rfl rfl), by decide, by decide, by decide, by decide +kernel⟩
theorem mo_P_Parting_withValue : mOk k_P_Parting_withValue 2 := ⟨(gb_6 (i := 219) rfl rfl), (gb_1 (i := 14) rfl rfl), by decide, by decide, by decide, by decide +kernel⟩
theorem mo_P_Reckoning_addUp : mOk k_P_Reckoning_addUp 0 := ⟨(gb_6 (i := 133) rfl rfl), (gb_1 (i := 13) rfl rfl), by decide, by decide, by decide, by decide +kernel⟩
theorem mo_P_Reckoning_bind : mOk k_P_Reckoning_bind 1 := ⟨(gb_6 (i := 21) rfl rfl), (gb_1 (i := 13) rfl rfl), by decide, by decide, by decide, by decide +kernel⟩
theorem mo_P_Reckoning_chosenClass : mOk k_P_Reckoning_chosenClass 3 := ⟨(gb_6 (i := 59) rfl rfl), (gb_1 (i := 13) rfl rfl), by decide, by decide, by decide, by decide +kernel⟩
theorem mo_P_Reckoning_doneIn : mOk k_P_Reckoning_doneIn 2 := ⟨(gb_5 (i := 226) rfl rfl), (gb_1 (i := 13) rfl rfl), by decide, by decide, by decide, by decide +kernel⟩
theorem mo_P_Reckoning_findClasses : mOk k_P_Reckoning_findClasses 2 := ⟨(gb_6 (i := 51) rfl rfl), (gb_1 (i := 13) rfl rfl), by decide, by decide, by decide, by decide +kernel⟩
theorem mo_P_Reckoning_findPayer : mOk k_P_Reckoning_findPayer 1 := ⟨(gb_6 (i := 65) rfl rfl), (gb_1 (i := 13) rfl rfl), by decide, by decide, by decide, by decide +kernel⟩
theorem mo_P_Reckoning_holds : mOk k_P_Reckoning_holds 1 := ⟨(gb_6 (i := 34) rfl rfl), (gb_1 (i := 13) rfl rfl), by decide, by decide, by decide, by decide +kernel⟩
theorem mo_P_Reckoning_init : mOk k_P_Reckoning_init 2 := ⟨(gb_2 (i := 115) rfl rfl), (gb_1 (i := 13) rfl rfl), by decide, by decide, by decide, by decide +kernel⟩
theorem mo_P_Reckoning_isOutdone : mOk k_P_Reckoning_isOutdone 1 := ⟨(gb_6 (i := 39) rfl rfl), (gb_1 (i := 13) rfl rfl), by decide, by decide, by decide, by decide +kernel⟩
theorem mo_P_Reckoning_isSuch : mOk k_P_Reckoning_isSuch 2 := ⟨(gb_6 (i := 147) rfl rfl), (gb_1 (i := 13) rfl rfl), by decide, by decide, by decide, by decide +kernel⟩
theorem mo_P_Reckoning_lastAgree : mOk k_P_Reckoning_lastAgree 1 := ⟨(gb_6 (i := 47) rfl rfl), (gb_1 (i := 13) rfl rfl), by decide, by decide, by decide, by decide +kernel⟩
theorem mo_P_Reckoning_load : mOk k_P_Reckoning_load 3 := ⟨(gb_5 (i := 222) rfl rfl), (gb_1 (i := 13) rfl rfl), by decide, by decide, by decide, by decide +kernel⟩
theorem mo_P_Reckoning_lookAt : mOk k_P_Reckoning_lookAt 1 := ⟨(gb_6 (i := 25) rfl rfl), (gb_1 (i := 13) rfl rfl), by decide, by decide, by decide, by decide +kernel⟩
theorem mo_P_Reckoning_reckon : mOk k_P_Reckoning_reckon 1 := ⟨(gb_5 (i := 238) rfl rfl), (gb_1 (i := 13) rfl rfl), by decide, by decide, by decide, by decide +kernel⟩
theorem mo_P_Reckoning_repeat : mOk k_P_Reckoning_repeat 1 := ⟨(gb_6 (i := 107) rfl rfl), (gb_1 (i := 13) rfl rfl), by decide, by decide, by decide, by decide +kernel⟩
theorem mo_P_Reckoning_rounded : mOk k_P_Reckoning_rounded 0 := ⟨(gb_6 (i := 137) rfl rfl), (gb_1 (i := 13) rfl rfl), by decide, by decide, by decide, by decide +kernel⟩
theorem mo_P_Reckoning_someBindsHolds : mOk k_P_Reckoning_someBindsHolds 1 := ⟨(gb_6 (i := 30) rfl rfl), (gb_1 (i := 13) rfl rfl), by decide, by decide, by decide, by decide +kernel⟩
theorem mo_P_Reckoning_takeTasks : mOk k_P_Reckoning_takeTasks 1 := ⟨(gb_6 (i := 7) rfl rfl), (gb_1 (i := 13) rfl rfl), by decide, by decide, by decide, by decide +kernel⟩
theorem mo_P_Reckoning_tasksOn : mOk k_P_Reckoning_tasksOn 1 := ⟨(gb_6 (i := 2) rfl rfl), (gb_1 (i := 13) rfl rfl), by decide, by decide, by decide, by decide +kernel⟩
theorem mo_P_Reckoning_weekPay : mOk k_P_Reckoning_weekPay 3 := ⟨(gb_6 (i := 127) rfl rfl), (gb_1 (i := 13) rfl rfl), by decide, by decide, by decide, by decide +kernel⟩
theorem mo_P_Reckoning_worthBy : mOk k_P_Reckoning_worthBy 3 := ⟨(gb_6 (i := 69) rfl rfl), (gb_1 (i := 13) rfl rfl), by decide, by decide, by decide, by decide +kernel⟩
theorem mo_P_Scene_apply : mOk k_P_Scene_apply 2 := ⟨(gb_5 (i := 151) rfl rfl), (gb_1 (i := 12) rfl rfl), by decide, by decide, by decide, by decide +kernel⟩
theorem mo_P_Scene_basket : mOk k_P_Scene_basket 0 := ⟨(gb_6 (i := 73) rfl rfl), (gb_1 (i := 12) rfl rfl), by decide, by decide, by decide, by decide +kernel⟩
theorem mo_P_Scene_copyVars : mOk k_P_Scene_copyVars 1 := ⟨(gb_6 (i := 13) rfl rfl), (gb_1 (i := 12) rfl rfl), by decide, by decide, by decide, by decide +kernel⟩
theorem mo_P_Scene_fateOf : mOk k_P_Scene_fateOf 2 := ⟨(gb_5 (i := 155) rfl rfl), (gb_1 (i := 12) rfl rfl), by decide, by decide, by decide, by decide +kernel⟩
theorem mo_P_Scene_init : mOk k_P_Scene_init 3 := ⟨(gb_2 (i := 79) rfl rfl), (gb_1 (i := 12) rfl rfl), by decide, by decide, by decide, by decide +kernel⟩
theorem mo_P_Scene_marginOf : mOk k_P_Scene_marginOf 2 := ⟨(gb_5 (i := 204) rfl rfl), (gb_1 (i := 12) rfl rfl), by decide, by decide, by decide, by decide +kernel⟩
theorem mo_P_Scene_open : mOk k_P_Scene_open 4 := ⟨(gb_5 (i := 132) rfl rfl), (gb_1 (i := 12) rfl rfl), by decide, by decide, by decide, by decide +kernel⟩
theorem mo_P_Scene_suppose : mOk k_P_Scene_suppose 3 := ⟨(gb_6 (i := 171) rfl rfl), (gb_1 (i := 12) rfl rfl), by decide, by decide, by decide, by decide +kernel⟩
theorem mo_P_Text_awardFact : mOk k_P_Text_awardFact 0 := ⟨(gb_5 (i := 120) rfl rfl), (gb_1 (i := 19) rfl rfl), by decide, by decide, by decide, by decide +kernel⟩
theorem mo_P_Text_changesAward : mOk k_P_Text_changesAward 0 := ⟨(gb_5 (i := 143) rfl rfl), (gb_1 (i := 19) rfl rfl), by decide, by decide, by decide, by decide +kernel⟩
theorem mo_P_Text_classEntry : mOk k_P_Text_classEntry 1 := ⟨(gb_5 (i := 171) rfl rfl), (gb_1 (i := 19) rfl rfl), by decide, by decide, by decide, by decide +kernel⟩
theorem mo_P_Text_clear : mOk k_P_Text_clear 0 := ⟨(gb_5 (i := 147) rfl rfl), (gb_1 (i := 19) rfl rfl), by decide, by decide, by decide, by decide +kernel⟩
theorem mo_P_Text_drop : mOk k_P_Text_drop 1 := ⟨(gb_5 (i := 167) rfl rfl), (gb_1 (i := 19) rfl rfl), by decide, by decide, by decide, by decide +kernel⟩
theorem mo_P_Text_entryOf : mOk k_P_Text_entryOf 1 := ⟨(gb_5 (i := 163) rfl rfl), (gb_1 (i := 19) rfl rfl), by decide, by decide, by decide, by decide +kernel⟩
theorem mo_P_Text_firstClass : mOk k_P_Text_firstClass 1 := ⟨(gb_6 (i := 55) rfl rfl), (gb_1 (i := 19) rfl rfl), by decide, by decide, by decide, by decide +kernel⟩
theorem mo_P_Text_init : mOk k_P_Text_init 7 := ⟨(gb_4 (i := 66) rfl rfl), (gb_1 (i := 19) rfl rfl), by decide, by decide, by decide, by decide +kernel⟩
theorem mo_P_Text_isOver : mOk k_P_Text_isOver 1 := ⟨(gb_6 (i := 43) rfl rfl), (gb_1 (i := 19) rfl rfl), by decide, by decide, by decide, by decide +kernel⟩
theorem mo_P_Text_nearestClass : mOk k_P_Text_nearestClass 2 := ⟨(gb_6 (i := 88) rfl rfl), (gb_1 (i := 19) rfl rfl), by decide, by decide, by decide, by decide +kernel⟩
theorem mo_P_Text_put : mOk k_P_Text_put 1 := ⟨(gb_5 (i := 159) rfl rfl), (gb_1 (i := 19) rfl rfl), by decide, by decide, by decide, by decide +kernel⟩
theorem mo_P_held : mOk k_P_held 3 := ⟨(gb_5 (i := 208) rfl rfl), (gb_1 (i := 1) rfl rfl), by decide, by decide, by decide, by decide +kernel⟩
theorem mo_P_isDay : mOk k_P_isDay 1 := ⟨(gb_5 (i := 32) rfl rfl), (gb_1 (i := 1) rfl rfl), by decide, by decide, by decide, by decide +kernel⟩
theorem mo_P_isHalfOf : mOk k_P_isHalfOf 4 := ⟨(gb_5 (i := 218) rfl rfl), (gb_1 (i := 1) rfl rfl), by decide, by decide, by decide, by decide +kernel⟩
theorem mo_P_isName : mOk k_P_isName 1 := ⟨(gb_5 (i := 70) rfl rfl), (gb_1 (i := 1) rfl rfl), by decide, by decide, by decide, by decide +kernel⟩
theorem mo_P_isQuarter : mOk k_P_isQuarter 1 := ⟨(gb_5 (i := 21) rfl rfl), (gb_1 (i := 1) rfl rfl), by decide, by decide, by decide, by decide +kernel⟩
theorem mo_P_isTask : mOk k_P_isTask 1 := ⟨(gb_5 (i := 10) rfl rfl), (gb_1 (i := 1) rfl rfl), by decide, by decide, by decide, by decide +kernel⟩
theorem mo_P_isWeek : mOk k_P_isWeek 1 := ⟨(gb_5 (i := 81) rfl rfl), (gb_1 (i := 1) rfl rfl), by decide, by decide, by decide, by decide +kernel⟩
theorem mo_P_isWeekOf : mOk k_P_isWeekOf 3 := ⟨(gb_6 (i := 123) rfl rfl), (gb_1 (i := 1) rfl rfl), by decide, by decide, by decide, by decide +kernel⟩
theorem mo_P_opened : mOk k_P_opened 4 := ⟨(gb_5 (i := 128) rfl rfl), (gb_1 (i := 1) rfl rfl), by decide, by decide, by decide, by decide +kernel⟩
theorem mo_P_reckoned : mOk k_P_reckoned 4 := ⟨(gb_5 (i := 234) rfl rfl), (gb_1 (i := 1) rfl rfl), by decide, by decide, by decide, by decide +kernel⟩
theorem mo_P_tellClaim : mOk k_P_tellClaim 4 := ⟨(gb_5 (i := 61) rfl rfl), (gb_1 (i := 1) rfl rfl), by decide, by decide, by decide, by decide +kernel⟩
theorem mo_P_within : mOk k_P_within 3 := ⟨(gb_3 (i := 79) rfl rfl), (gb_1 (i := 1) rfl rfl), by decide, by decide, by decide, by decide +kernel⟩
theorem mo_R_adds : mOk k_R_adds 3 := ⟨(gb_9 (i := 149) rfl rfl), (gb_1 (i := 15) rfl rfl), by decide, by decide, by decide, by decide +kernel⟩
theorem mo_R_again : mOk k_R_again 4 := ⟨(gb_10 (i := 63) rfl rfl), (gb_1 (i := 15) rfl rfl), by decide, by decide, by decide, by decide +kernel⟩
theorem mo_R_agreeOf : mOk k_R_agreeOf 1 := ⟨(gb_10 (i := 20) rfl rfl), (gb_1 (i := 15) rfl rfl), by decide, by decide, by decide, by decide +kernel⟩
theorem mo_R_asks : mOk k_R_asks 2 := ⟨(gb_9 (i := 236) rfl rfl), (gb_1 (i := 15) rfl rfl), by decide, by decide, by decide, by decide +kernel⟩
theorem mo_R_at : mOk k_R_at 1 := ⟨(gb_8 (i := 162) rfl rfl), (gb_1 (i := 15) rfl rfl), by decide, by decide, by decide, by decide +kernel⟩
theorem mo_R_bits : mOk k_R_bits 1 := ⟨(gb_10 (i := 47) rfl rfl), (gb_1 (i := 15) rfl rfl), by decide, by decide, by decide, by decide +kernel⟩
theorem mo_R_boundBy : mOk k_R_boundBy 0 := ⟨(gb_10 (i := 0) rfl rfl), (gb_1 (i := 15) rfl rfl), by decide, by decide, by decide, by decide +kernel⟩
theorem mo_R_builds : mOk k_R_builds 3 := ⟨(gb_9 (i := 145) rfl rfl), (gb_1 (i := 15) rfl rfl), by decide, by decide, by decide, by decide +kernel⟩
theorem mo_R_changed : mOk k_R_changed 0 := ⟨(gb_9 (i := 12) rfl rfl), (gb_1 (i := 15) rfl rfl), by decide, by decide, by decide, by decide +kernel⟩
theorem mo_R_changes : mOk k_R_changes 3 := ⟨(gb_10 (i := 132) rfl rfl), (gb_1 (i := 15) rfl rfl), by decide, by decide, by decide, by decide +kernel⟩
theorem mo_R_classes : mOk k_R_classes 3 := ⟨(gb_10 (i := 24) rfl rfl), (gb_1 (i := 15) rfl rfl), by decide, by decide, by decide, by decide +kernel⟩
theorem mo_R_comesOut : mOk k_R_comesOut 1 := ⟨(gb_8 (i := 236) rfl rfl), (gb_1 (i := 15) rfl rfl), by decide, by decide, by decide, by decide +kernel⟩
theorem mo_R_cond : mOk k_R_cond 0 := ⟨(gb_8 (i := 216) rfl rfl), (gb_1 (i := 15) rfl rfl), by decide, by decide, by decide, by decide +kernel⟩
theorem mo_R_cut : mOk k_R_cut 0 := ⟨(gb_8 (i := 158) rfl rfl), (gb_1 (i := 15) rfl rfl), by decide, by decide, by decide, by decide +kernel⟩
theorem mo_R_doneIn : mOk k_R_doneIn 2 := ⟨(gb_9 (i := 209) rfl rfl), (gb_1 (i := 15) rfl rfl), by decide, by decide, by decide, by decide +kernel⟩
theorem mo_R_eachOf : mOk k_R_eachOf 2 := ⟨(gb_10 (i := 28) rfl rfl), (gb_1 (i := 15) rfl rfl), by decide, by decide, by decide, by decide +kernel⟩
theorem mo_R_emit : mOk k_R_emit 2 := ⟨(gb_8 (i := 224) rfl rfl), (gb_1 (i := 15) rfl rfl), by decide, by decide, by decide, by decide +kernel⟩
theorem mo_R_expression : mOk k_R_expression 0 := ⟨(gb_8 (i := 228) rfl rfl), (gb_1 (i := 15) rfl rfl), by decide, by decide, by decide, by decide +kernel⟩
theorem mo_R_fact : mOk k_R_fact 5 := ⟨(gb_9 (i := 8) rfl rfl), (gb_1 (i := 15) rfl rfl), by decide, by decide, by decide, by decide +kernel⟩
theorem mo_R_fail : mOk k_R_fail 1 := ⟨(gb_8 (i := 184) rfl rfl), (gb_1 (i := 15) rfl rfl), by decide, by decide, by decide, by decide +kernel⟩
theorem mo_R_goes : mOk k_R_goes 2 := ⟨(gb_9 (i := 157) rfl rfl), (gb_1 (i := 15) rfl rfl), by decide, by decide, by decide, by decide +kernel⟩
theorem mo_R_held : mOk k_R_held 3 := ⟨(gb_9 (i := 197) rfl rfl), (gb_1 (i := 15) rfl rfl), by decide, by decide, by decide, by decide +kernel⟩
theorem mo_R_heldMargin : mOk k_R_heldMargin 2 := ⟨(gb_9 (i := 186) rfl rfl), (gb_1 (i := 15) rfl rfl), by decide, by decide, by decide, by decide +kernel⟩
theorem mo_R_holds : mOk k_R_holds 1 := ⟨(gb_10 (i := 8) rfl rfl), (gb_1 (i := 15) rfl rfl), by decide, by decide, by decide, by decide +kernel⟩
theorem mo_R_in : mOk k_R_in 3 := ⟨(gb_9 (i := 35) rfl rfl), (gb_1 (i := 15) rfl rfl), by decide, by decide, by decide, by decide +kernel⟩
theorem mo_R_is : mOk k_R_is 1 := ⟨(gb_8 (i := 200) rfl rfl), (gb_1 (i := 15) rfl rfl), by decide, by decide, by decide, by decide +kernel⟩
theorem mo_R_isAmbit : mOk k_R_isAmbit 4 := ⟨(gb_9 (i := 161) rfl rfl), (gb_1 (i := 15) rfl rfl), by decide, by decide, by decide, by decide +kernel⟩
theorem mo_R_isAsked : mOk k_R_isAsked 4 := ⟨(gb_9 (i := 133) rfl rfl), (gb_1 (i := 15) rfl rfl), by decide, by decide, by decide, by decide +kernel⟩
theorem mo_R_isBarred : mOk k_R_isBarred 1 := ⟨(gb_10 (i := 36) rfl rfl), (gb_1 (i := 15) rfl rfl), by decide, by decide, by decide, by decide +kernel⟩
theorem mo_R_isBinding : mOk k_R_isBinding 1 := ⟨(gb_10 (i := 4) rfl rfl), (gb_1 (i := 15) rfl rfl), by decide, by decide, by decide, by decide +kernel⟩
theorem mo_R_isCome : mOk k_R_isCome 1 := ⟨(gb_9 (i := 194) rfl rfl), (gb_1 (i := 15) rfl rfl), by decide, by decide, by decide, by decide +kernel⟩
theorem mo_R_isDigit : mOk k_R_isDigit 1 := ⟨(gb_8 (i := 172) rfl rfl), (gb_1 (i := 15) rfl rfl), by decide, by decide, by decide, by decide +kernel⟩
theorem mo_R_isFirm : mOk k_R_isFirm 1 := ⟨(gb_9 (i := 43) rfl rfl), (gb_1 (i := 15) rfl rfl), by decide, by decide, by decide, by decide +kernel⟩
theorem mo_R_isHalf : mOk k_R_isHalf 4 := ⟨(gb_9 (i := 217) rfl rfl), (gb_1 (i := 15) rfl rfl), by decide, by decide, by decide, by decide +kernel⟩
theorem mo_R_isIn : mOk k_R_isIn 4 := ⟨(gb_9 (i := 137) rfl rfl), (gb_1 (i := 15) rfl rfl), by decide, by decide, by decide, by decide +kernel⟩
theorem mo_R_isKnown : mOk k_R_isKnown 1 := ⟨(gb_9 (i := 105) rfl rfl), (gb_1 (i := 15) rfl rfl), by decide, by decide, by decide, by decide +kernel⟩
theorem mo_R_isLetter : mOk k_R_isLetter 1 := ⟨(gb_8 (i := 169) rfl rfl), (gb_1 (i := 15) rfl rfl), by decide, by decide, by decide, by decide +kernel⟩
theorem mo_R_isPerson : mOk k_R_isPerson 1 := ⟨(gb_9 (i := 67) rfl rfl), (gb_1 (i := 15) rfl rfl), by decide, by decide, by decide, by decide +kernel⟩
theorem mo_R_isTask : mOk k_R_isTask 1 := ⟨(gb_9 (i := 232) rfl rfl), (gb_1 (i := 15) rfl rfl), by decide, by decide, by decide, by decide +kernel⟩
theorem mo_R_isTown : mOk k_R_isTown 1 := ⟨(gb_9 (i := 32) rfl rfl), (gb_1 (i := 15) rfl rfl), by decide, by decide, by decide, by decide +kernel⟩
theorem mo_R_isTrue : mOk k_R_isTrue 1 := ⟨(gb_10 (i := 12) rfl rfl), (gb_1 (i := 15) rfl rfl), by decide, by decide, by decide, by decide +kernel⟩
theorem mo_R_isUnder : mOk k_R_isUnder 1 := ⟨(gb_10 (i := 16) rfl rfl), (gb_1 (i := 15) rfl rfl), by decide, by decide, by decide, by decide +kernel⟩
theorem mo_R_isWeek : mOk k_R_isWeek 3 := ⟨(gb_10 (i := 83) rfl rfl), (gb_1 (i := 15) rfl rfl), by decide, by decide, by decide, by decide +kernel⟩
theorem mo_R_isWhole : mOk k_R_isWhole 4 := ⟨(gb_9 (i := 177) rfl rfl), (gb_1 (i := 15) rfl rfl), by decide, by decide, by decide, by decide +kernel⟩
theorem mo_R_leastOf : mOk k_R_leastOf 3 := ⟨(gb_9 (i := 117) rfl rfl), (gb_1 (i := 15) rfl rfl), by decide, by decide, by decide, by decide +kernel⟩
theorem mo_R_literal : mOk k_R_literal 1 := ⟨(gb_8 (i := 220) rfl rfl), (gb_1 (i := 15) rfl rfl), by decide, by decide, by decide, by decide +kernel⟩
theorem mo_R_looks : mOk k_R_looks 3 := ⟨(gb_9 (i := 221) rfl rfl), (gb_1 (i := 15) rfl rfl), by decide, by decide, by decide, by decide +kernel⟩
theorem mo_R_marginOf : mOk k_R_marginOf 1 := ⟨(gb_9 (i := 190) rfl rfl), (gb_1 (i := 15) rfl rfl), by decide, by decide, by decide, by decide +kernel⟩
theorem mo_R_more : mOk k_R_more 2 := ⟨(gb_7 (i := 13) rfl rfl), (gb_1 (i := 15) rfl rfl), by decide, by decide, by decide, by decide +kernel⟩
theorem mo_R_must : mOk k_R_must 1 := ⟨(gb_8 (i := 196) rfl rfl), (gb_1 (i := 15) rfl rfl), by decide, by decide, by decide, by decide +kernel⟩
theorem mo_R_name : mOk k_R_name 0 := ⟨(gb_8 (i := 192) rfl rfl), (gb_1 (i := 15) rfl rfl), by decide, by decide, by decide, by decide +kernel⟩
theorem mo_R_next : mOk k_R_next 0 := ⟨(gb_8 (i := 188) rfl rfl), (gb_1 (i := 15) rfl rfl), by decide, by decide, by decide, by decide +kernel⟩
theorem mo_R_nextParting : mOk k_R_nextParting 1 := ⟨(gb_10 (i := 136) rfl rfl), (gb_1 (i := 15) rfl rfl), by decide, by decide, by decide, by decide +kernel⟩
theorem mo_R_number : mOk k_R_number 2 := ⟨(gb_8 (i := 204) rfl rfl), (gb_1 (i := 15) rfl rfl), by decide, by decide, by decide, by decide +kernel⟩
theorem mo_R_owedOf : mOk k_R_owedOf 3 := ⟨(gb_10 (i := 102) rfl rfl), (gb_1 (i := 15) rfl rfl), by decide, by decide, by decide, by decide +kernel⟩
theorem mo_R_payOf : mOk k_R_payOf 3 := ⟨(gb_10 (i := 87) rfl rfl), (gb_1 (i := 15) rfl rfl), by decide, by decide, by decide, by decide +kernel⟩
theorem mo_R_payerOf : mOk k_R_payerOf 1 := ⟨(gb_10 (i := 55) rfl rfl), (gb_1 (i := 15) rfl rfl), by decide, by decide, by decide, by decide +kernel⟩
theorem mo_R_priceOf : mOk k_R_priceOf 4 := ⟨(gb_9 (i := 109) rfl rfl), (gb_1 (i := 15) rfl rfl), by decide, by decide, by decide, by decide +kernel⟩
theorem mo_R_put : mOk k_R_put 1 := ⟨(gb_8 (i := 146) rfl rfl), (gb_1 (i := 15) rfl rfl), by decide, by decide, by decide, by decide +kernel⟩
theorem mo_R_rowFact : mOk k_R_rowFact 3 := ⟨(gb_9 (i := 205) rfl rfl), (gb_1 (i := 15) rfl rfl), by decide, by decide, by decide, by decide +kernel⟩
theorem mo_R_rowOf : mOk k_R_rowOf 2 := ⟨(gb_9 (i := 153) rfl rfl), (gb_1 (i := 15) rfl rfl), by decide, by decide, by decide, by decide +kernel⟩
theorem mo_R_sign : mOk k_R_sign 3 := ⟨(gb_8 (i := 176) rfl rfl), (gb_1 (i := 15) rfl rfl), by decide, by decide, by decide, by decide +kernel⟩
theorem mo_R_stands : mOk k_R_stands 3 := ⟨(gb_9 (i := 169) rfl rfl), (gb_1 (i := 15) rfl rfl), by decide, by decide, by decide, by decide +kernel⟩
theorem mo_R_tasksOf : mOk k_R_tasksOf 3 := ⟨(gb_9 (i := 229) rfl rfl), (gb_1 (i := 15) rfl rfl), by decide, by decide, by decide, by decide +kernel⟩
theorem mo_R_tellClass : mOk k_R_tellClass 1 := ⟨(gb_9 (i := 0) rfl rfl), (gb_1 (i := 15) rfl rfl), by decide, by decide, by decide, by decide +kernel⟩
theorem mo_R_tellHead : mOk k_R_tellHead 0 := ⟨(gb_8 (i := 180) rfl rfl), (gb_1 (i := 15) rfl rfl), by decide, by decide, by decide, by decide +kernel⟩
theorem mo_R_tellItem : mOk k_R_tellItem 0 := ⟨(gb_8 (i := 212) rfl rfl), (gb_1 (i := 15) rfl rfl), by decide, by decide, by decide, by decide +kernel⟩
theorem mo_R_tellLoad : mOk k_R_tellLoad 1 := ⟨(gb_9 (i := 4) rfl rfl), (gb_1 (i := 15) rfl rfl), by decide, by decide, by decide, by decide +kernel⟩
theorem mo_R_tells : mOk k_R_tells 4 := ⟨(gb_9 (i := 79) rfl rfl), (gb_1 (i := 15) rfl rfl), by decide, by decide, by decide, by decide +kernel⟩
theorem mo_R_termOf : mOk k_R_termOf 2 := ⟨(gb_9 (i := 165) rfl rfl), (gb_1 (i := 15) rfl rfl), by decide, by decide, by decide, by decide +kernel⟩
theorem mo_R_textAt : mOk k_R_textAt 1 := ⟨(gb_9 (i := 83) rfl rfl), (gb_1 (i := 15) rfl rfl), by decide, by decide, by decide, by decide +kernel⟩
theorem mo_R_token : mOk k_R_token 4 := ⟨(gb_8 (i := 166) rfl rfl), (gb_1 (i := 15) rfl rfl), by decide, by decide, by decide, by decide +kernel⟩
theorem mo_R_unit : mOk k_R_unit 0 := ⟨(gb_8 (i := 232) rfl rfl), (gb_1 (i := 15) rfl rfl), by decide, by decide, by decide, by decide +kernel⟩
theorem mo_R_wetOf : mOk k_R_wetOf 3 := ⟨(gb_9 (i := 225) rfl rfl), (gb_1 (i := 15) rfl rfl), by decide, by decide, by decide, by decide +kernel⟩
theorem mo_R_word : mOk k_R_word 7 := ⟨(gb_7 (i := 10) rfl rfl), (gb_1 (i := 15) rfl rfl), by decide, by decide, by decide, by decide +kernel⟩
theorem mo_R_worthBy : mOk k_R_worthBy 4 := ⟨(gb_10 (i := 32) rfl rfl), (gb_1 (i := 15) rfl rfl), by decide, by decide, by decide, by decide +kernel⟩
theorem mo_R_worthOf : mOk k_R_worthOf 1 := ⟨(gb_10 (i := 75) rfl rfl), (gb_1 (i := 15) rfl rfl), by decide, by decide, by decide, by decide +kernel⟩
theorem mo_R_wrong : mOk k_R_wrong 2 := ⟨(gb_8 (i := 208) rfl rfl), (gb_1 (i := 15) rfl rfl), by decide, by decide, by decide, by decide +kernel⟩
