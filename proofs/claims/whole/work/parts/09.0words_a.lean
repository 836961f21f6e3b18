theorem kc_0 : Int32.ofInt 0 = 0 := by decide
theorem kc_1 : Int32.ofInt 1 = 1 := by decide
theorem pl_RX7 : plainName RX7 = true := by decide +kernel
theorem kl_0 : Int64.ofNat 0 = 0 := by decide
theorem fl_RX7_78 : Cond.fieldLink RX7 78 (TX7 3).1 (TX7 3).2.1 (TX7 3).2.2.1 ∈ lw_T := lw_Tm (tm4 (List.mem_of_getElem? (i := 84) (by decide +kernel))) rfl
theorem inT_X7 : ∀ w ∈ u_ws RX7 TX7 33, w ∈ lw_T := by decide +kernel
theorem F_X7_in : FcS yX7_in cX7_in 6 (some .boolean) 3 := ⟨lw_Tm (tm4 (List.mem_of_getElem? (i := 188) rfl)) rfl, lw_Tm (tm4 (List.mem_of_getElem? (i := 187) (by decide +kernel))) rfl, lw_Tm (tm1 (List.mem_of_getElem? (i := 8) (by decide +kernel))) rfl, by decide +kernel, by decide +kernel, by decide +kernel⟩
theorem lk_RX7_81 : Cond.methodLink RX7 81 yX7_in ∈ lw_T := lw_Tm (tm4 (List.mem_of_getElem? (i := 186) (by decide +kernel))) rfl
theorem fl_RX7_85 : Cond.fieldLink RX7 85 (TX7 8).1 (TX7 8).2.1 (TX7 8).2.2.1 ∈ lw_T := lw_Tm (tm4 (List.mem_of_getElem? (i := 89) (by decide +kernel))) rfl
theorem fl_RX7_88 : Cond.fieldLink RX7 88 (TX7 10).1 (TX7 10).2.1 (TX7 10).2.2.1 ∈ lw_T := lw_Tm (tm4 (List.mem_of_getElem? (i := 91) (by decide +kernel))) rfl
theorem kp_RX7_91 : Cond.constantLong RX7 91 35 ∈ lw_T := lw_Tm (tm4 (List.mem_of_getElem? (i := 192) (by decide +kernel))) rfl
theorem fl_RX7_7 : Cond.fieldLink RX7 7 (TX7 0).1 (TX7 0).2.1 (TX7 0).2.2.1 ∈ lw_T := lw_Tm (tm4 (List.mem_of_getElem? (i := 81) (by decide +kernel))) rfl
theorem fl_RX7_13 : Cond.fieldLink RX7 13 (TX7 1).1 (TX7 1).2.1 (TX7 1).2.2.1 ∈ lw_T := lw_Tm (tm4 (List.mem_of_getElem? (i := 82) (by decide +kernel))) rfl
theorem fl_RX7_16 : Cond.fieldLink RX7 16 (TX7 2).1 (TX7 2).2.1 (TX7 2).2.2.1 ∈ lw_T := lw_Tm (tm4 (List.mem_of_getElem? (i := 83) (by decide +kernel))) rfl
theorem fl_RX7_38 : Cond.fieldLink RX7 38 (TX7 15).1 (TX7 15).2.1 (TX7 15).2.2.1 ∈ lw_T := lw_Tm (tm4 (List.mem_of_getElem? (i := 96) (by decide +kernel))) rfl
theorem kb_10 : (Int8.ofInt 10).toInt32 = 10 := by decide
theorem kp_RX7_93 : Cond.constantLong RX7 93 5 ∈ lw_T := lw_Tm (tm4 (List.mem_of_getElem? (i := 185) (by decide +kernel))) rfl
theorem kc_m1 : Int32.ofInt (-1) = (-1) := by decide
theorem F_X7_isPlace : FcS yX7_isPlace cX7_isPlace 2 (some .boolean) 1 := ⟨lw_Tm (tm4 (List.mem_of_getElem? (i := 191) rfl)) rfl, lw_Tm (tm4 (List.mem_of_getElem? (i := 190) (by decide +kernel))) rfl, lw_Tm (tm1 (List.mem_of_getElem? (i := 8) (by decide +kernel))) rfl, by decide +kernel, by decide +kernel, by decide +kernel⟩
theorem lk_RX7_95 : Cond.methodLink RX7 95 yX7_isPlace ∈ lw_T := lw_Tm (tm4 (List.mem_of_getElem? (i := 189) (by decide +kernel))) rfl
theorem kp_RX7_99 : Cond.constantLong RX7 99 89 ∈ lw_T := lw_Tm (tm4 (List.mem_of_getElem? (i := 193) (by decide +kernel))) rfl
theorem F_X7_addGrave : FcV yX7_addGrave cX7_addGrave 4 none 3 := ⟨lw_Tm (tm4 (List.mem_of_getElem? (i := 197) rfl)) rfl, lw_Tm (tm4 (List.mem_of_getElem? (i := 196) (by decide +kernel))) rfl, lw_Tm (tm0 (List.mem_of_getElem? (i := 19) (by decide +kernel))) rfl, lw_Tm (tm1 (List.mem_of_getElem? (i := 8) (by decide +kernel))) rfl, by decide +kernel, by decide +kernel, by decide +kernel⟩
theorem lk_RX7_101 : Cond.methodLink RX7 101 yX7_addGrave ∈ lw_T := lw_Tm (tm4 (List.mem_of_getElem? (i := 194) (by decide +kernel))) rfl
theorem kb_m3 : (Int8.ofInt (-3)).toInt32 = (-3) := by decide
theorem fl_RX7_105 : Cond.fieldLink RX7 105 (TX7 17).1 (TX7 17).2.1 (TX7 17).2.2.1 ∈ lw_T := lw_Tm (tm4 (List.mem_of_getElem? (i := 98) (by decide +kernel))) rfl
theorem kb_m4 : (Int8.ofInt (-4)).toInt32 = (-4) := by decide
theorem kp_RX7_108 : Cond.constantLong RX7 108 9 ∈ lw_T := lw_Tm (tm4 (List.mem_of_getElem? (i := 206) (by decide +kernel))) rfl
theorem kc_4 : Int32.ofInt 4 = 4 := by decide
theorem fl_RX7_28 : Cond.fieldLink RX7 28 (TX7 9).1 (TX7 9).2.1 (TX7 9).2.2.1 ∈ lw_T := lw_Tm (tm4 (List.mem_of_getElem? (i := 90) (by decide +kernel))) rfl
theorem fl_RX7_19 : Cond.fieldLink RX7 19 (TX7 4).1 (TX7 4).2.1 (TX7 4).2.2.1 ∈ lw_T := lw_Tm (tm4 (List.mem_of_getElem? (i := 85) (by decide +kernel))) rfl
theorem fl_RX7_22 : Cond.fieldLink RX7 22 (TX7 5).1 (TX7 5).2.1 (TX7 5).2.2.1 ∈ lw_T := lw_Tm (tm4 (List.mem_of_getElem? (i := 86) (by decide +kernel))) rfl
theorem fl_RX7_25 : Cond.fieldLink RX7 25 (TX7 6).1 (TX7 6).2.1 (TX7 6).2.2.1 ∈ lw_T := lw_Tm (tm4 (List.mem_of_getElem? (i := 87) (by decide +kernel))) rfl
theorem fl_RX7_110 : Cond.fieldLink RX7 110 (TX7 7).1 (TX7 7).2.1 (TX7 7).2.2.1 ∈ lw_T := lw_Tm (tm4 (List.mem_of_getElem? (i := 88) (by decide +kernel))) rfl
theorem kp_RX7_113 : Cond.constantLong RX7 113 99 ∈ lw_T := lw_Tm (tm4 (List.mem_of_getElem? (i := 211) (by decide +kernel))) rfl
theorem F_X7_mayBeAhead : FcV yX7_mayBeAhead cX7_mayBeAhead 4 (some .int) 1 := ⟨lw_Tm (tm4 (List.mem_of_getElem? (i := 215) rfl)) rfl, lw_Tm (tm4 (List.mem_of_getElem? (i := 214) (by decide +kernel))) rfl, lw_Tm (tm0 (List.mem_of_getElem? (i := 20) (by decide +kernel))) rfl, lw_Tm (tm1 (List.mem_of_getElem? (i := 8) (by decide +kernel))) rfl, by decide +kernel, by decide +kernel, by decide +kernel⟩
theorem lk_RX7_115 : Cond.methodLink RX7 115 yX7_mayBeAhead ∈ lw_T := lw_Tm (tm4 (List.mem_of_getElem? (i := 212) (by decide +kernel))) rfl
theorem kl_1 : Int64.ofNat 1 = 1 := by decide
theorem kb_12 : (Int8.ofInt 12).toInt32 = 12 := by decide
theorem F_X7_addNews : FcV yX7_addNews cX7_addNews 5 none 4 := ⟨lw_Tm (tm4 (List.mem_of_getElem? (i := 219) rfl)) rfl, lw_Tm (tm4 (List.mem_of_getElem? (i := 218) (by decide +kernel))) rfl, lw_Tm (tm0 (List.mem_of_getElem? (i := 21) (by decide +kernel))) rfl, lw_Tm (tm1 (List.mem_of_getElem? (i := 8) (by decide +kernel))) rfl, by decide +kernel, by decide +kernel, by decide +kernel⟩
theorem lk_RX7_119 : Cond.methodLink RX7 119 yX7_addNews ∈ lw_T := lw_Tm (tm4 (List.mem_of_getElem? (i := 216) (by decide +kernel))) rfl
theorem F_X7_isNews : FcV yX7_isNews cX7_isNews 3 (some .boolean) 1 := ⟨lw_Tm (tm4 (List.mem_of_getElem? (i := 227) rfl)) rfl, lw_Tm (tm4 (List.mem_of_getElem? (i := 226) (by decide +kernel))) rfl, lw_Tm (tm0 (List.mem_of_getElem? (i := 22) (by decide +kernel))) rfl, lw_Tm (tm1 (List.mem_of_getElem? (i := 8) (by decide +kernel))) rfl, by decide +kernel, by decide +kernel, by decide +kernel⟩
theorem lk_RX7_123 : Cond.methodLink RX7 123 yX7_isNews ∈ lw_T := lw_Tm (tm4 (List.mem_of_getElem? (i := 224) (by decide +kernel))) rfl
theorem kp_RX7_126 : Cond.constantLong RX7 126 1023 ∈ lw_T := lw_Tm (tm4 (List.mem_of_getElem? (i := 228) (by decide +kernel))) rfl
theorem kp_RX7_128 : Cond.constantLong RX7 128 4 ∈ lw_T := lw_Tm (tm4 (List.mem_of_getElem? (i := 233) (by decide +kernel))) rfl
theorem fl_RX7_130 : Cond.fieldLink RX7 130 (TX7 11).1 (TX7 11).2.1 (TX7 11).2.2.1 ∈ lw_T := lw_Tm (tm4 (List.mem_of_getElem? (i := 92) (by decide +kernel))) rfl
theorem fl_RX7_31 : Cond.fieldLink RX7 31 (TX7 12).1 (TX7 12).2.1 (TX7 12).2.2.1 ∈ lw_T := lw_Tm (tm4 (List.mem_of_getElem? (i := 93) (by decide +kernel))) rfl
theorem fl_RX7_133 : Cond.fieldLink RX7 133 (TX7 13).1 (TX7 13).2.1 (TX7 13).2.2.1 ∈ lw_T := lw_Tm (tm4 (List.mem_of_getElem? (i := 94) (by decide +kernel))) rfl
theorem kb_6 : (Int8.ofInt 6).toInt32 = 6 := by decide
theorem kc_2 : Int32.ofInt 2 = 2 := by decide
theorem kc_3 : Int32.ofInt 3 = 3 := by decide
theorem F_X7_sign : FcS yX7_sign cX7_sign 1 (some .int) 1 := ⟨lw_Tm (tm5 (List.mem_of_getElem? (i := 128) rfl)) rfl, lw_Tm (tm5 (List.mem_of_getElem? (i := 127) (by decide +kernel))) rfl, lw_Tm (tm1 (List.mem_of_getElem? (i := 8) (by decide +kernel))) rfl, by decide +kernel, by decide +kernel, by decide +kernel⟩
theorem lk_RX7_136 : Cond.methodLink RX7 136 yX7_sign ∈ lw_T := lw_Tm (tm5 (List.mem_of_getElem? (i := 126) (by decide +kernel))) rfl
theorem F_X7_off : FcS yX7_off cX7_off 2 (some .int) 2 := ⟨lw_Tm (tm5 (List.mem_of_getElem? (i := 131) rfl)) rfl, lw_Tm (tm5 (List.mem_of_getElem? (i := 130) (by decide +kernel))) rfl, lw_Tm (tm1 (List.mem_of_getElem? (i := 8) (by decide +kernel))) rfl, by decide +kernel, by decide +kernel, by decide +kernel⟩
theorem lk_RX7_139 : Cond.methodLink RX7 139 yX7_off ∈ lw_T := lw_Tm (tm5 (List.mem_of_getElem? (i := 129) (by decide +kernel))) rfl
theorem F_X7_far : FcS yX7_far cX7_far 6 (some .int) 3 := ⟨lw_Tm (tm5 (List.mem_of_getElem? (i := 125) rfl)) rfl, lw_Tm (tm5 (List.mem_of_getElem? (i := 124) (by decide +kernel))) rfl, lw_Tm (tm1 (List.mem_of_getElem? (i := 8) (by decide +kernel))) rfl, by decide +kernel, by decide +kernel, by decide +kernel⟩
theorem lk_RX7_143 : Cond.methodLink RX7 143 yX7_far ∈ lw_T := lw_Tm (tm5 (List.mem_of_getElem? (i := 123) (by decide +kernel))) rfl
theorem F_X7_hearsOne : FcV yX7_hearsOne cX7_hearsOne 7 (some .boolean) 4 := ⟨lw_Tm (tm5 (List.mem_of_getElem? (i := 122) rfl)) rfl, lw_Tm (tm5 (List.mem_of_getElem? (i := 121) (by decide +kernel))) rfl, lw_Tm (tm0 (List.mem_of_getElem? (i := 43) (by decide +kernel))) rfl, lw_Tm (tm1 (List.mem_of_getElem? (i := 8) (by decide +kernel))) rfl, by decide +kernel, by decide +kernel, by decide +kernel⟩
theorem lk_RX7_147 : Cond.methodLink RX7 147 yX7_hearsOne ∈ lw_T := lw_Tm (tm5 (List.mem_of_getElem? (i := 119) (by decide +kernel))) rfl
theorem kp_RX7_151 : Cond.constantLong RX7 151 8 ∈ lw_T := lw_Tm (tm5 (List.mem_of_getElem? (i := 18) (by decide +kernel))) rfl
theorem kc_5 : Int32.ofInt 5 = 5 := by decide
theorem F_X7_has : FcS yX7_has cX7_has 2 (some .boolean) 2 := ⟨lw_Tm (tm5 (List.mem_of_getElem? (i := 21) rfl)) rfl, lw_Tm (tm5 (List.mem_of_getElem? (i := 20) (by decide +kernel))) rfl, lw_Tm (tm1 (List.mem_of_getElem? (i := 8) (by decide +kernel))) rfl, by decide +kernel, by decide +kernel, by decide +kernel⟩
theorem lk_RX7_153 : Cond.methodLink RX7 153 yX7_has ∈ lw_T := lw_Tm (tm5 (List.mem_of_getElem? (i := 19) (by decide +kernel))) rfl
theorem F_X7_isOwed : FcV yX7_isOwed cX7_isOwed 8 (some .boolean) 2 := ⟨lw_Tm (tm5 (List.mem_of_getElem? (i := 17) rfl)) rfl, lw_Tm (tm5 (List.mem_of_getElem? (i := 16) (by decide +kernel))) rfl, lw_Tm (tm0 (List.mem_of_getElem? (i := 25) (by decide +kernel))) rfl, lw_Tm (tm1 (List.mem_of_getElem? (i := 8) (by decide +kernel))) rfl, by decide +kernel, by decide +kernel, by decide +kernel⟩
theorem lk_RX7_157 : Cond.methodLink RX7 157 yX7_isOwed ∈ lw_T := lw_Tm (tm5 (List.mem_of_getElem? (i := 14) (by decide +kernel))) rfl
theorem F_X7_owedTo : FcV yX7_owedTo cX7_owedTo 4 (some .int) 1 := ⟨lw_Tm (tm5 (List.mem_of_getElem? (i := 13) rfl)) rfl, lw_Tm (tm5 (List.mem_of_getElem? (i := 12) (by decide +kernel))) rfl, lw_Tm (tm0 (List.mem_of_getElem? (i := 24) (by decide +kernel))) rfl, lw_Tm (tm1 (List.mem_of_getElem? (i := 8) (by decide +kernel))) rfl, by decide +kernel, by decide +kernel, by decide +kernel⟩
theorem lk_RX7_160 : Cond.methodLink RX7 160 yX7_owedTo ∈ lw_T := lw_Tm (tm5 (List.mem_of_getElem? (i := 10) (by decide +kernel))) rfl
theorem F_X7_arrears : FcV yX7_arrears cX7_arrears 2 (some .int) 1 := ⟨lw_Tm (tm5 (List.mem_of_getElem? (i := 25) rfl)) rfl, lw_Tm (tm5 (List.mem_of_getElem? (i := 24) (by decide +kernel))) rfl, lw_Tm (tm0 (List.mem_of_getElem? (i := 26) (by decide +kernel))) rfl, lw_Tm (tm1 (List.mem_of_getElem? (i := 8) (by decide +kernel))) rfl, by decide +kernel, by decide +kernel, by decide +kernel⟩
theorem lk_RX7_163 : Cond.methodLink RX7 163 yX7_arrears ∈ lw_T := lw_Tm (tm5 (List.mem_of_getElem? (i := 22) (by decide +kernel))) rfl
theorem kb_9 : (Int8.ofInt 9).toInt32 = 9 := by decide
theorem F_X7_isGrave : FcV yX7_isGrave cX7_isGrave 2 (some .boolean) 1 := ⟨lw_Tm (tm5 (List.mem_of_getElem? (i := 9) rfl)) rfl, lw_Tm (tm5 (List.mem_of_getElem? (i := 8) (by decide +kernel))) rfl, lw_Tm (tm0 (List.mem_of_getElem? (i := 23) (by decide +kernel))) rfl, lw_Tm (tm1 (List.mem_of_getElem? (i := 8) (by decide +kernel))) rfl, by decide +kernel, by decide +kernel, by decide +kernel⟩
theorem lk_RX7_166 : Cond.methodLink RX7 166 yX7_isGrave ∈ lw_T := lw_Tm (tm5 (List.mem_of_getElem? (i := 6) (by decide +kernel))) rfl
theorem F_X7_isLate : FcV yX7_isLate cX7_isLate 4 (some .boolean) 1 := ⟨lw_Tm (tm5 (List.mem_of_getElem? (i := 29) rfl)) rfl, lw_Tm (tm5 (List.mem_of_getElem? (i := 28) (by decide +kernel))) rfl, lw_Tm (tm0 (List.mem_of_getElem? (i := 27) (by decide +kernel))) rfl, lw_Tm (tm1 (List.mem_of_getElem? (i := 8) (by decide +kernel))) rfl, by decide +kernel, by decide +kernel, by decide +kernel⟩
theorem lk_RX7_170 : Cond.methodLink RX7 170 yX7_isLate ∈ lw_T := lw_Tm (tm5 (List.mem_of_getElem? (i := 26) (by decide +kernel))) rfl
theorem kp_RX7_173 : Cond.constantLong RX7 173 32 ∈ lw_T := lw_Tm (tm5 (List.mem_of_getElem? (i := 38) (by decide +kernel))) rfl
theorem kp_RX7_175 : Cond.constantLong RX7 175 126 ∈ lw_T := lw_Tm (tm5 (List.mem_of_getElem? (i := 39) (by decide +kernel))) rfl
theorem fl_RX7_177 : Cond.fieldLink RX7 177 (TX7 19).1 (TX7 19).2.1 (TX7 19).2.2.1 ∈ lw_T := lw_Tm (tm4 (List.mem_of_getElem? (i := 100) (by decide +kernel))) rfl
theorem ks_160 : (Int16.ofInt 160).toInt32 = 160 := by decide
theorem fl_RX7_44 : Cond.fieldLink RX7 44 (TX7 18).1 (TX7 18).2.1 (TX7 18).2.2.1 ∈ lw_T := lw_Tm (tm4 (List.mem_of_getElem? (i := 99) (by decide +kernel))) rfl
theorem fl_RX7_180 : Cond.fieldLink RX7 180 (TX7 20).1 (TX7 20).2.1 (TX7 20).2.2.1 ∈ lw_T := lw_Tm (tm4 (List.mem_of_getElem? (i := 101) (by decide +kernel))) rfl
theorem kb_32 : (Int8.ofInt 32).toInt32 = 32 := by decide
theorem F_X7_nextLetter : FcV yX7_nextLetter cX7_nextLetter 1 (some .int) 0 := ⟨lw_Tm (tm5 (List.mem_of_getElem? (i := 55) rfl)) rfl, lw_Tm (tm5 (List.mem_of_getElem? (i := 54) (by decide +kernel))) rfl, lw_Tm (tm0 (List.mem_of_getElem? (i := 30) (by decide +kernel))) rfl, lw_Tm (tm1 (List.mem_of_getElem? (i := 8) (by decide +kernel))) rfl, by decide +kernel, by decide +kernel, by decide +kernel⟩
theorem lk_RX7_183 : Cond.methodLink RX7 183 yX7_nextLetter ∈ lw_T := lw_Tm (tm5 (List.mem_of_getElem? (i := 52) (by decide +kernel))) rfl
theorem kb_48 : (Int8.ofInt 48).toInt32 = 48 := by decide
theorem kp_RX7_187 : Cond.constantLong RX7 187 48 ∈ lw_T := lw_Tm (tm5 (List.mem_of_getElem? (i := 71) (by decide +kernel))) rfl
theorem kp_RX7_189 : Cond.constantLong RX7 189 57 ∈ lw_T := lw_Tm (tm5 (List.mem_of_getElem? (i := 72) (by decide +kernel))) rfl
theorem ks_9999 : (Int16.ofInt 9999).toInt32 = 9999 := by decide
theorem kb_m20 : (Int8.ofInt (-20)).toInt32 = (-20) := by decide
theorem kb_112 : (Int8.ofInt 112).toInt32 = 112 := by decide
theorem kb_100 : (Int8.ofInt 100).toInt32 = 100 := by decide
theorem kb_105 : (Int8.ofInt 105).toInt32 = 105 := by decide
theorem kb_101 : (Int8.ofInt 101).toInt32 = 101 := by decide
theorem kb_102 : (Int8.ofInt 102).toInt32 = 102 := by decide
theorem kb_110 : (Int8.ofInt 110).toInt32 = 110 := by decide
theorem fl_RX7_47 : Cond.fieldLink RX7 47 (TX7 22).1 (TX7 22).2.1 (TX7 22).2.2.1 ∈ lw_T := lw_Tm (tm4 (List.mem_of_getElem? (i := 103) (by decide +kernel))) rfl
theorem F_X7_kindOf : FcS yX7_kindOf cX7_kindOf 1 (some .int) 1 := ⟨lw_Tm (tm5 (List.mem_of_getElem? (i := 58) rfl)) rfl, lw_Tm (tm5 (List.mem_of_getElem? (i := 57) (by decide +kernel))) rfl, lw_Tm (tm1 (List.mem_of_getElem? (i := 8) (by decide +kernel))) rfl, by decide +kernel, by decide +kernel, by decide +kernel⟩
theorem lk_RX7_191 : Cond.methodLink RX7 191 yX7_kindOf ∈ lw_T := lw_Tm (tm5 (List.mem_of_getElem? (i := 56) (by decide +kernel))) rfl
theorem F_X7_readFigure : FcV yX7_readFigure cX7_readFigure 3 (some .int) 1 := ⟨lw_Tm (tm5 (List.mem_of_getElem? (i := 62) rfl)) rfl, lw_Tm (tm5 (List.mem_of_getElem? (i := 61) (by decide +kernel))) rfl, lw_Tm (tm0 (List.mem_of_getElem? (i := 31) (by decide +kernel))) rfl, lw_Tm (tm1 (List.mem_of_getElem? (i := 8) (by decide +kernel))) rfl, by decide +kernel, by decide +kernel, by decide +kernel⟩
theorem lk_RX7_194 : Cond.methodLink RX7 194 yX7_readFigure ∈ lw_T := lw_Tm (tm5 (List.mem_of_getElem? (i := 59) (by decide +kernel))) rfl
theorem kb_64 : (Int8.ofInt 64).toInt32 = 64 := by decide
theorem F_X7_takes : FcV yX7_takes cX7_takes 3 (some .boolean) 1 := ⟨lw_Tm (tm5 (List.mem_of_getElem? (i := 66) rfl)) rfl, lw_Tm (tm5 (List.mem_of_getElem? (i := 65) (by decide +kernel))) rfl, lw_Tm (tm0 (List.mem_of_getElem? (i := 32) (by decide +kernel))) rfl, lw_Tm (tm1 (List.mem_of_getElem? (i := 8) (by decide +kernel))) rfl, by decide +kernel, by decide +kernel, by decide +kernel⟩
theorem lk_RX7_197 : Cond.methodLink RX7 197 yX7_takes ∈ lw_T := lw_Tm (tm5 (List.mem_of_getElem? (i := 63) (by decide +kernel))) rfl
theorem kb_89 : (Int8.ofInt 89).toInt32 = 89 := by decide
theorem F_X7_readNumber : FcV yX7_readNumber cX7_readNumber 4 (some .int) 1 := ⟨lw_Tm (tm5 (List.mem_of_getElem? (i := 70) rfl)) rfl, lw_Tm (tm5 (List.mem_of_getElem? (i := 69) (by decide +kernel))) rfl, lw_Tm (tm0 (List.mem_of_getElem? (i := 33) (by decide +kernel))) rfl, lw_Tm (tm1 (List.mem_of_getElem? (i := 8) (by decide +kernel))) rfl, by decide +kernel, by decide +kernel, by decide +kernel⟩
theorem lk_RX7_200 : Cond.methodLink RX7 200 yX7_readNumber ∈ lw_T := lw_Tm (tm5 (List.mem_of_getElem? (i := 67) (by decide +kernel))) rfl
theorem kp_RX7_203 : Cond.constantLong RX7 203 97 ∈ lw_T := lw_Tm (tm5 (List.mem_of_getElem? (i := 81) (by decide +kernel))) rfl
theorem kp_RX7_205 : Cond.constantLong RX7 205 122 ∈ lw_T := lw_Tm (tm5 (List.mem_of_getElem? (i := 82) (by decide +kernel))) rfl
theorem kb_97 : (Int8.ofInt 97).toInt32 = 97 := by decide
theorem kb_99 : (Int8.ofInt 99).toInt32 = 99 := by decide
theorem kb_115 : (Int8.ofInt 115).toInt32 = 115 := by decide
theorem kb_60 : (Int8.ofInt 60).toInt32 = 60 := by decide
theorem F_X7_readAhead : FcV yX7_readAhead cX7_readAhead 5 (some .int) 2 := ⟨lw_Tm (tm5 (List.mem_of_getElem? (i := 80) rfl)) rfl, lw_Tm (tm5 (List.mem_of_getElem? (i := 79) (by decide +kernel))) rfl, lw_Tm (tm0 (List.mem_of_getElem? (i := 35) (by decide +kernel))) rfl, lw_Tm (tm1 (List.mem_of_getElem? (i := 8) (by decide +kernel))) rfl, by decide +kernel, by decide +kernel, by decide +kernel⟩
theorem lk_RX7_207 : Cond.methodLink RX7 207 yX7_readAhead ∈ lw_T := lw_Tm (tm5 (List.mem_of_getElem? (i := 77) (by decide +kernel))) rfl
theorem kb_33 : (Int8.ofInt 33).toInt32 = 33 := by decide
theorem F_X7_readBarred : FcV yX7_readBarred cX7_readBarred 3 (some .int) 0 := ⟨lw_Tm (tm5 (List.mem_of_getElem? (i := 86) rfl)) rfl, lw_Tm (tm5 (List.mem_of_getElem? (i := 85) (by decide +kernel))) rfl, lw_Tm (tm0 (List.mem_of_getElem? (i := 36) (by decide +kernel))) rfl, lw_Tm (tm1 (List.mem_of_getElem? (i := 8) (by decide +kernel))) rfl, by decide +kernel, by decide +kernel, by decide +kernel⟩
theorem lk_RX7_210 : Cond.methodLink RX7 210 yX7_readBarred ∈ lw_T := lw_Tm (tm5 (List.mem_of_getElem? (i := 83) (by decide +kernel))) rfl
theorem F_X7_isReader : FcV yX7_isReader cX7_isReader 3 (some .boolean) 1 := ⟨lw_Tm (tm5 (List.mem_of_getElem? (i := 94) rfl)) rfl, lw_Tm (tm5 (List.mem_of_getElem? (i := 93) (by decide +kernel))) rfl, lw_Tm (tm0 (List.mem_of_getElem? (i := 38) (by decide +kernel))) rfl, lw_Tm (tm1 (List.mem_of_getElem? (i := 8) (by decide +kernel))) rfl, by decide +kernel, by decide +kernel, by decide +kernel⟩
theorem lk_RX7_213 : Cond.methodLink RX7 213 yX7_isReader ∈ lw_T := lw_Tm (tm5 (List.mem_of_getElem? (i := 91) (by decide +kernel))) rfl
theorem fl_RX7_216 : Cond.fieldLink RX7 216 (TX7 21).1 (TX7 21).2.1 (TX7 21).2.2.1 ∈ lw_T := lw_Tm (tm4 (List.mem_of_getElem? (i := 102) (by decide +kernel))) rfl
theorem kb_40 : (Int8.ofInt 40).toInt32 = 40 := by decide
theorem F_X7_readReading : FcV yX7_readReading cX7_readReading 6 (some .boolean) 1 := ⟨lw_Tm (tm5 (List.mem_of_getElem? (i := 90) rfl)) rfl, lw_Tm (tm5 (List.mem_of_getElem? (i := 89) (by decide +kernel))) rfl, lw_Tm (tm0 (List.mem_of_getElem? (i := 37) (by decide +kernel))) rfl, lw_Tm (tm1 (List.mem_of_getElem? (i := 8) (by decide +kernel))) rfl, by decide +kernel, by decide +kernel, by decide +kernel⟩
theorem lk_RX7_225 : Cond.methodLink RX7 225 yX7_readReading ∈ lw_T := lw_Tm (tm5 (List.mem_of_getElem? (i := 87) (by decide +kernel))) rfl
theorem F_X7_readNews : FcV yX7_readNews cX7_readNews 3 (some .boolean) 1 := ⟨lw_Tm (tm5 (List.mem_of_getElem? (i := 76) rfl)) rfl, lw_Tm (tm5 (List.mem_of_getElem? (i := 75) (by decide +kernel))) rfl, lw_Tm (tm0 (List.mem_of_getElem? (i := 34) (by decide +kernel))) rfl, lw_Tm (tm1 (List.mem_of_getElem? (i := 8) (by decide +kernel))) rfl, by decide +kernel, by decide +kernel, by decide +kernel⟩
theorem lk_RX7_222 : Cond.methodLink RX7 222 yX7_readNews ∈ lw_T := lw_Tm (tm5 (List.mem_of_getElem? (i := 73) (by decide +kernel))) rfl
theorem F_X7_readGrave : FcV yX7_readGrave cX7_readGrave 4 (some .boolean) 1 := ⟨lw_Tm (tm5 (List.mem_of_getElem? (i := 51) rfl)) rfl, lw_Tm (tm5 (List.mem_of_getElem? (i := 50) (by decide +kernel))) rfl, lw_Tm (tm0 (List.mem_of_getElem? (i := 29) (by decide +kernel))) rfl, lw_Tm (tm1 (List.mem_of_getElem? (i := 8) (by decide +kernel))) rfl, by decide +kernel, by decide +kernel, by decide +kernel⟩
theorem lk_RX7_219 : Cond.methodLink RX7 219 yX7_readGrave ∈ lw_T := lw_Tm (tm5 (List.mem_of_getElem? (i := 48) (by decide +kernel))) rfl
theorem kb_44 : (Int8.ofInt 44).toInt32 = 44 := by decide
theorem kb_59 : (Int8.ofInt 59).toInt32 = 59 := by decide
theorem F_X7_readAll : FcV yX7_readAll cX7_readAll 5 (some .boolean) 1 := ⟨lw_Tm (tm5 (List.mem_of_getElem? (i := 47) rfl)) rfl, lw_Tm (tm5 (List.mem_of_getElem? (i := 46) (by decide +kernel))) rfl, lw_Tm (tm0 (List.mem_of_getElem? (i := 28) (by decide +kernel))) rfl, lw_Tm (tm1 (List.mem_of_getElem? (i := 8) (by decide +kernel))) rfl, by decide +kernel, by decide +kernel, by decide +kernel⟩
theorem lk_RX7_228 : Cond.methodLink RX7 228 yX7_readAll ∈ lw_T := lw_Tm (tm5 (List.mem_of_getElem? (i := 44) (by decide +kernel))) rfl
theorem F_X7_end : FcV yX7_end cX7_end 2 (some .int) 1 := ⟨lw_Tm (tm5 (List.mem_of_getElem? (i := 98) rfl)) rfl, lw_Tm (tm5 (List.mem_of_getElem? (i := 97) (by decide +kernel))) rfl, lw_Tm (tm0 (List.mem_of_getElem? (i := 39) (by decide +kernel))) rfl, lw_Tm (tm1 (List.mem_of_getElem? (i := 8) (by decide +kernel))) rfl, by decide +kernel, by decide +kernel, by decide +kernel⟩
theorem lk_RX7_231 : Cond.methodLink RX7 231 yX7_end ∈ lw_T := lw_Tm (tm5 (List.mem_of_getElem? (i := 95) (by decide +kernel))) rfl
theorem F_X7_forget : FcV yX7_forget cX7_forget 2 none 0 := ⟨lw_Tm (tm5 (List.mem_of_getElem? (i := 102) rfl)) rfl, lw_Tm (tm5 (List.mem_of_getElem? (i := 101) (by decide +kernel))) rfl, lw_Tm (tm0 (List.mem_of_getElem? (i := 40) (by decide +kernel))) rfl, lw_Tm (tm1 (List.mem_of_getElem? (i := 8) (by decide +kernel))) rfl, by decide +kernel, by decide +kernel, by decide +kernel⟩
theorem lk_RX7_235 : Cond.methodLink RX7 235 yX7_forget ∈ lw_T := lw_Tm (tm5 (List.mem_of_getElem? (i := 99) (by decide +kernel))) rfl
theorem ks_140 : (Int16.ofInt 140).toInt32 = 140 := by decide
theorem F_X7_hearers : FcV yX7_hearers cX7_hearers 6 (some .int) 3 := ⟨lw_Tm (tm5 (List.mem_of_getElem? (i := 118) rfl)) rfl, lw_Tm (tm5 (List.mem_of_getElem? (i := 117) (by decide +kernel))) rfl, lw_Tm (tm0 (List.mem_of_getElem? (i := 42) (by decide +kernel))) rfl, lw_Tm (tm1 (List.mem_of_getElem? (i := 8) (by decide +kernel))) rfl, by decide +kernel, by decide +kernel, by decide +kernel⟩
theorem lk_RX7_247 : Cond.methodLink RX7 247 yX7_hearers ∈ lw_T := lw_Tm (tm5 (List.mem_of_getElem? (i := 115) (by decide +kernel))) rfl
theorem F_X7_wrongedBy : FcV yX7_wrongedBy cX7_wrongedBy 9 (some .int) 3 := ⟨lw_Tm (tm5 (List.mem_of_getElem? (i := 114) rfl)) rfl, lw_Tm (tm5 (List.mem_of_getElem? (i := 113) (by decide +kernel))) rfl, lw_Tm (tm0 (List.mem_of_getElem? (i := 41) (by decide +kernel))) rfl, lw_Tm (tm1 (List.mem_of_getElem? (i := 8) (by decide +kernel))) rfl, by decide +kernel, by decide +kernel, by decide +kernel⟩
theorem lk_RX7_238 : Cond.methodLink RX7 238 yX7_wrongedBy ∈ lw_T := lw_Tm (tm5 (List.mem_of_getElem? (i := 111) (by decide +kernel))) rfl
theorem ks_1269 : (Int16.ofInt 1269).toInt32 = 1269 := by decide
theorem fl_RX7_41 : Cond.fieldLink RX7 41 (TX7 16).1 (TX7 16).2.1 (TX7 16).2.2.1 ∈ lw_T := lw_Tm (tm4 (List.mem_of_getElem? (i := 97) (by decide +kernel))) rfl
theorem ks_141 : (Int16.ofInt 141).toInt32 = 141 := by decide
theorem F_X7_note : FcV yX7_note cX7_note 2 none 0 := ⟨lw_Tm (tm5 (List.mem_of_getElem? (i := 139) rfl)) rfl, lw_Tm (tm5 (List.mem_of_getElem? (i := 138) (by decide +kernel))) rfl, lw_Tm (tm0 (List.mem_of_getElem? (i := 45) (by decide +kernel))) rfl, lw_Tm (tm1 (List.mem_of_getElem? (i := 8) (by decide +kernel))) rfl, by decide +kernel, by decide +kernel, by decide +kernel⟩
theorem lk_RX7_253 : Cond.methodLink RX7 253 yX7_note ∈ lw_T := lw_Tm (tm5 (List.mem_of_getElem? (i := 136) (by decide +kernel))) rfl
theorem kb_20 : (Int8.ofInt 20).toInt32 = 20 := by decide
theorem F_X7_tell : FcV yX7_tell cX7_tell 8 none 3 := ⟨lw_Tm (tm5 (List.mem_of_getElem? (i := 143) rfl)) rfl, lw_Tm (tm5 (List.mem_of_getElem? (i := 142) (by decide +kernel))) rfl, lw_Tm (tm0 (List.mem_of_getElem? (i := 46) (by decide +kernel))) rfl, lw_Tm (tm1 (List.mem_of_getElem? (i := 8) (by decide +kernel))) rfl, by decide +kernel, by decide +kernel, by decide +kernel⟩
theorem lk_RX7_256 : Cond.methodLink RX7 256 yX7_tell ∈ lw_T := lw_Tm (tm5 (List.mem_of_getElem? (i := 140) (by decide +kernel))) rfl
theorem F_X7_readNow : FcV yX7_readNow cX7_readNow 4 (some .int) 3 := ⟨lw_Tm (tm5 (List.mem_of_getElem? (i := 135) rfl)) rfl, lw_Tm (tm5 (List.mem_of_getElem? (i := 134) (by decide +kernel))) rfl, lw_Tm (tm0 (List.mem_of_getElem? (i := 44) (by decide +kernel))) rfl, lw_Tm (tm1 (List.mem_of_getElem? (i := 8) (by decide +kernel))) rfl, by decide +kernel, by decide +kernel, by decide +kernel⟩
theorem lk_RX7_241 : Cond.methodLink RX7 241 yX7_readNow ∈ lw_T := lw_Tm (tm5 (List.mem_of_getElem? (i := 132) (by decide +kernel))) rfl
theorem F_X7_ones : FcS yX7_ones cX7_ones 3 (some .int) 1 := ⟨lw_Tm (tm5 (List.mem_of_getElem? (i := 150) rfl)) rfl, lw_Tm (tm5 (List.mem_of_getElem? (i := 149) (by decide +kernel))) rfl, lw_Tm (tm1 (List.mem_of_getElem? (i := 8) (by decide +kernel))) rfl, by decide +kernel, by decide +kernel, by decide +kernel⟩
theorem lk_RX7_244 : Cond.methodLink RX7 244 yX7_ones ∈ lw_T := lw_Tm (tm5 (List.mem_of_getElem? (i := 148) (by decide +kernel))) rfl
theorem F_X7_isReading : FcV yX7_isReading cX7_isReading 7 (some .boolean) 3 := ⟨lw_Tm (tm5 (List.mem_of_getElem? (i := 162) rfl)) rfl, lw_Tm (tm5 (List.mem_of_getElem? (i := 161) (by decide +kernel))) rfl, lw_Tm (tm0 (List.mem_of_getElem? (i := 47) (by decide +kernel))) rfl, lw_Tm (tm1 (List.mem_of_getElem? (i := 8) (by decide +kernel))) rfl, by decide +kernel, by decide +kernel, by decide +kernel⟩
theorem lk_RX7_250 : Cond.methodLink RX7 250 yX7_isReading ∈ lw_T := lw_Tm (tm5 (List.mem_of_getElem? (i := 159) (by decide +kernel))) rfl
theorem fl_RX7_34 : Cond.fieldLink RX7 34 (TX7 14).1 (TX7 14).2.1 (TX7 14).2.2.1 ∈ lw_T := lw_Tm (tm4 (List.mem_of_getElem? (i := 95) (by decide +kernel))) rfl
theorem kp_RX7_259 : Cond.constantLong RX7 259 1103515245 ∈ lw_T := lw_Tm (tm5 (List.mem_of_getElem? (i := 180) (by decide +kernel))) rfl
theorem kp_RX7_261 : Cond.constantLong RX7 261 12345 ∈ lw_T := lw_Tm (tm5 (List.mem_of_getElem? (i := 181) (by decide +kernel))) rfl
theorem kp_RX7_263 : Cond.constantLong RX7 263 2147483647 ∈ lw_T := lw_Tm (tm5 (List.mem_of_getElem? (i := 182) (by decide +kernel))) rfl
theorem kp_RX7_265 : Cond.constant RX7 265 65536 ∈ lw_T := lw_Tm (tm5 (List.mem_of_getElem? (i := 183) (by decide +kernel))) rfl
theorem kp_RX7_266 : Cond.constantLong RX7 266 30 ∈ lw_T := lw_Tm (tm5 (List.mem_of_getElem? (i := 175) (by decide +kernel))) rfl
theorem kb_m2 : (Int8.ofInt (-2)).toInt32 = (-2) := by decide
theorem F_X7_nextDraw : FcV yX7_nextDraw cX7_nextDraw 2 (some .int) 1 := ⟨lw_Tm (tm5 (List.mem_of_getElem? (i := 179) rfl)) rfl, lw_Tm (tm5 (List.mem_of_getElem? (i := 178) (by decide +kernel))) rfl, lw_Tm (tm0 (List.mem_of_getElem? (i := 48) (by decide +kernel))) rfl, lw_Tm (tm1 (List.mem_of_getElem? (i := 8) (by decide +kernel))) rfl, by decide +kernel, by decide +kernel, by decide +kernel⟩
