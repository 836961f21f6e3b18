theorem lk_RX7_268 : Cond.methodLink RX7 268 yX7_nextDraw ∈ lw_T := lw_Tm (tm5 (List.mem_of_getElem? (i := 176) (by decide +kernel))) rfl
theorem kb_36 : (Int8.ofInt 36).toInt32 = 36 := by decide
theorem F_X7_lacking : FcV yX7_lacking cX7_lacking 4 (some .int) 1 := ⟨lw_Tm (tm5 (List.mem_of_getElem? (i := 195) rfl)) rfl, lw_Tm (tm5 (List.mem_of_getElem? (i := 194) (by decide +kernel))) rfl, lw_Tm (tm0 (List.mem_of_getElem? (i := 49) (by decide +kernel))) rfl, lw_Tm (tm1 (List.mem_of_getElem? (i := 8) (by decide +kernel))) rfl, by decide +kernel, by decide +kernel, by decide +kernel⟩
theorem lk_RX7_271 : Cond.methodLink RX7 271 yX7_lacking ∈ lw_T := lw_Tm (tm5 (List.mem_of_getElem? (i := 192) (by decide +kernel))) rfl
theorem ks_1296 : (Int16.ofInt 1296).toInt32 = 1296 := by decide
theorem kp_RX7_277 : Cond.constant RX7 277 46656 ∈ lw_T := lw_Tm (tm5 (List.mem_of_getElem? (i := 210) (by decide +kernel))) rfl
theorem fl_RX7_50 : Cond.fieldLink RX7 50 (TX7 23).1 (TX7 23).2.1 (TX7 23).2.2.1 ∈ lw_T := lw_Tm (tm4 (List.mem_of_getElem? (i := 104) (by decide +kernel))) rfl
theorem F_X7_areApart : FcV yX7_areApart cX7_areApart 3 (some .boolean) 2 := ⟨lw_Tm (tm5 (List.mem_of_getElem? (i := 209) rfl)) rfl, lw_Tm (tm5 (List.mem_of_getElem? (i := 208) (by decide +kernel))) rfl, lw_Tm (tm0 (List.mem_of_getElem? (i := 51) (by decide +kernel))) rfl, lw_Tm (tm1 (List.mem_of_getElem? (i := 8) (by decide +kernel))) rfl, by decide +kernel, by decide +kernel, by decide +kernel⟩
theorem lk_RX7_274 : Cond.methodLink RX7 274 yX7_areApart ∈ lw_T := lw_Tm (tm5 (List.mem_of_getElem? (i := 206) (by decide +kernel))) rfl
theorem fl_RX7_53 : Cond.fieldLink RX7 53 (TX7 24).1 (TX7 24).2.1 (TX7 24).2.2.1 ∈ lw_T := lw_Tm (tm4 (List.mem_of_getElem? (i := 105) (by decide +kernel))) rfl
theorem kp_RX7_278 : Cond.constantLong RX7 278 (-1) ∈ lw_T := lw_Tm (tm5 (List.mem_of_getElem? (i := 200) (by decide +kernel))) rfl
theorem kp_RX7_280 : Cond.constantLong RX7 280 2 ∈ lw_T := lw_Tm (tm5 (List.mem_of_getElem? (i := 201) (by decide +kernel))) rfl
theorem F_X7_findCover : FcV yX7_findCover cX7_findCover 8 (some .int) 2 := ⟨lw_Tm (tm5 (List.mem_of_getElem? (i := 205) rfl)) rfl, lw_Tm (tm5 (List.mem_of_getElem? (i := 204) (by decide +kernel))) rfl, lw_Tm (tm0 (List.mem_of_getElem? (i := 50) (by decide +kernel))) rfl, lw_Tm (tm1 (List.mem_of_getElem? (i := 8) (by decide +kernel))) rfl, by decide +kernel, by decide +kernel, by decide +kernel⟩
theorem lk_RX7_282 : Cond.methodLink RX7 282 yX7_findCover ∈ lw_T := lw_Tm (tm5 (List.mem_of_getElem? (i := 202) (by decide +kernel))) rfl
theorem kp_RX7_285 : Cond.constantLong RX7 285 11 ∈ lw_T := lw_Tm (tm5 (List.mem_of_getElem? (i := 215) (by decide +kernel))) rfl
theorem fl_RX7_56 : Cond.fieldLink RX7 56 (TX7 25).1 (TX7 25).2.1 (TX7 25).2.2.1 ∈ lw_T := lw_Tm (tm4 (List.mem_of_getElem? (i := 106) (by decide +kernel))) rfl
theorem kb_120 : (Int8.ofInt 120).toInt32 = 120 := by decide
theorem F_X7_areGraves : FcV yX7_areGraves cX7_areGraves 2 (some .boolean) 1 := ⟨lw_Tm (tm5 (List.mem_of_getElem? (i := 227) rfl)) rfl, lw_Tm (tm5 (List.mem_of_getElem? (i := 226) (by decide +kernel))) rfl, lw_Tm (tm0 (List.mem_of_getElem? (i := 52) (by decide +kernel))) rfl, lw_Tm (tm1 (List.mem_of_getElem? (i := 8) (by decide +kernel))) rfl, by decide +kernel, by decide +kernel, by decide +kernel⟩
theorem lk_RX7_287 : Cond.methodLink RX7 287 yX7_areGraves ∈ lw_T := lw_Tm (tm5 (List.mem_of_getElem? (i := 224) (by decide +kernel))) rfl
theorem F_X7_allWeights : FcV yX7_allWeights cX7_allWeights 3 (some .int) 0 := ⟨lw_Tm (tm5 (List.mem_of_getElem? (i := 231) rfl)) rfl, lw_Tm (tm5 (List.mem_of_getElem? (i := 230) (by decide +kernel))) rfl, lw_Tm (tm0 (List.mem_of_getElem? (i := 53) (by decide +kernel))) rfl, lw_Tm (tm1 (List.mem_of_getElem? (i := 8) (by decide +kernel))) rfl, by decide +kernel, by decide +kernel, by decide +kernel⟩
theorem lk_RX7_290 : Cond.methodLink RX7 290 yX7_allWeights ∈ lw_T := lw_Tm (tm5 (List.mem_of_getElem? (i := 228) (by decide +kernel))) rfl
theorem F_X7_weightOf : FcV yX7_weightOf cX7_weightOf 6 (some .int) 3 := ⟨lw_Tm (tm5 (List.mem_of_getElem? (i := 235) rfl)) rfl, lw_Tm (tm5 (List.mem_of_getElem? (i := 234) (by decide +kernel))) rfl, lw_Tm (tm0 (List.mem_of_getElem? (i := 54) (by decide +kernel))) rfl, lw_Tm (tm1 (List.mem_of_getElem? (i := 8) (by decide +kernel))) rfl, by decide +kernel, by decide +kernel, by decide +kernel⟩
theorem lk_RX7_293 : Cond.methodLink RX7 293 yX7_weightOf ∈ lw_T := lw_Tm (tm5 (List.mem_of_getElem? (i := 232) (by decide +kernel))) rfl
theorem F_X7_common : FcS yX7_common cX7_common 5 (some .int) 2 := ⟨lw_Tm (tm5 (List.mem_of_getElem? (i := 238) rfl)) rfl, lw_Tm (tm5 (List.mem_of_getElem? (i := 237) (by decide +kernel))) rfl, lw_Tm (tm1 (List.mem_of_getElem? (i := 8) (by decide +kernel))) rfl, by decide +kernel, by decide +kernel, by decide +kernel⟩
theorem lk_RX7_296 : Cond.methodLink RX7 296 yX7_common ∈ lw_T := lw_Tm (tm5 (List.mem_of_getElem? (i := 236) (by decide +kernel))) rfl
theorem ks_144 : (Int16.ofInt 144).toInt32 = 144 := by decide
theorem kb_30 : (Int8.ofInt 30).toInt32 = 30 := by decide
theorem kb_66 : (Int8.ofInt 66).toInt32 = 66 := by decide
theorem kb_75 : (Int8.ofInt 75).toInt32 = 75 := by decide
theorem ks_216 : (Int16.ofInt 216).toInt32 = 216 := by decide
theorem ks_1626 : (Int16.ofInt 1626).toInt32 = 1626 := by decide
theorem ks_1627 : (Int16.ofInt 1627).toInt32 = 1627 := by decide
theorem ks_1628 : (Int16.ofInt 1628).toInt32 = 1628 := by decide
theorem ks_1629 : (Int16.ofInt 1629).toInt32 = 1629 := by decide
theorem ks_1630 : (Int16.ofInt 1630).toInt32 = 1630 := by decide
theorem ks_1631 : (Int16.ofInt 1631).toInt32 = 1631 := by decide
theorem ks_1632 : (Int16.ofInt 1632).toInt32 = 1632 := by decide
theorem ks_1633 : (Int16.ofInt 1633).toInt32 = 1633 := by decide
theorem kp_RX7_299 : Cond.constantLong RX7 299 10 ∈ lw_T := lw_Tm (tm6 (List.mem_of_getElem? (i := 27) (by decide +kernel))) rfl
theorem kp_RX7_301 : Cond.constantLong RX7 301 19 ∈ lw_T := lw_Tm (tm6 (List.mem_of_getElem? (i := 28) (by decide +kernel))) rfl
theorem ks_1634 : (Int16.ofInt 1634).toInt32 = 1634 := by decide
theorem fl_RX7_307 : Cond.fieldLink RX7 307 (TX7 26).1 (TX7 26).2.1 (TX7 26).2.2.1 ∈ lw_T := lw_Tm (tm4 (List.mem_of_getElem? (i := 107) (by decide +kernel))) rfl
theorem fl_RX7_59 : Cond.fieldLink RX7 59 (TX7 27).1 (TX7 27).2.1 (TX7 27).2.2.1 ∈ lw_T := lw_Tm (tm4 (List.mem_of_getElem? (i := 108) (by decide +kernel))) rfl
theorem F_X7_carried : FcV yX7_carried cX7_carried 6 (some .int) 3 := ⟨lw_Tm (tm6 (List.mem_of_getElem? (i := 26) rfl)) rfl, lw_Tm (tm6 (List.mem_of_getElem? (i := 25) (by decide +kernel))) rfl, lw_Tm (tm0 (List.mem_of_getElem? (i := 55) (by decide +kernel))) rfl, lw_Tm (tm1 (List.mem_of_getElem? (i := 8) (by decide +kernel))) rfl, by decide +kernel, by decide +kernel, by decide +kernel⟩
theorem lk_RX7_303 : Cond.methodLink RX7 303 yX7_carried ∈ lw_T := lw_Tm (tm6 (List.mem_of_getElem? (i := 23) (by decide +kernel))) rfl
theorem kp_RX7_311 : Cond.constantLong RX7 311 3 ∈ lw_T := lw_Tm (tm6 (List.mem_of_getElem? (i := 40) (by decide +kernel))) rfl
theorem kb_56 : (Int8.ofInt 56).toInt32 = 56 := by decide
theorem F_X7_isSheet : FcS yX7_isSheet cX7_isSheet 2 (some .boolean) 2 := ⟨lw_Tm (tm6 (List.mem_of_getElem? (i := 39) rfl)) rfl, lw_Tm (tm6 (List.mem_of_getElem? (i := 38) (by decide +kernel))) rfl, lw_Tm (tm1 (List.mem_of_getElem? (i := 8) (by decide +kernel))) rfl, by decide +kernel, by decide +kernel, by decide +kernel⟩
theorem lk_RX7_313 : Cond.methodLink RX7 313 yX7_isSheet ∈ lw_T := lw_Tm (tm6 (List.mem_of_getElem? (i := 37) (by decide +kernel))) rfl
theorem fl_RX7_62 : Cond.fieldLink RX7 62 (TX7 28).1 (TX7 28).2.1 (TX7 28).2.2.1 ∈ lw_T := lw_Tm (tm4 (List.mem_of_getElem? (i := 109) (by decide +kernel))) rfl
theorem fl_RX7_65 : Cond.fieldLink RX7 65 (TX7 29).1 (TX7 29).2.1 (TX7 29).2.2.1 ∈ lw_T := lw_Tm (tm4 (List.mem_of_getElem? (i := 110) (by decide +kernel))) rfl
theorem fl_RX7_68 : Cond.fieldLink RX7 68 (TX7 30).1 (TX7 30).2.1 (TX7 30).2.2.1 ∈ lw_T := lw_Tm (tm4 (List.mem_of_getElem? (i := 111) (by decide +kernel))) rfl
theorem kb_m14 : (Int8.ofInt (-14)).toInt32 = (-14) := by decide
theorem kb_m11 : (Int8.ofInt (-11)).toInt32 = (-11) := by decide
theorem kb_m13 : (Int8.ofInt (-13)).toInt32 = (-13) := by decide
theorem kb_m12 : (Int8.ofInt (-12)).toInt32 = (-12) := by decide
theorem F_X7_lacksRow : FcV yX7_lacksRow cX7_lacksRow 5 (some .int) 4 := ⟨lw_Tm (tm6 (List.mem_of_getElem? (i := 52) rfl)) rfl, lw_Tm (tm6 (List.mem_of_getElem? (i := 51) (by decide +kernel))) rfl, lw_Tm (tm0 (List.mem_of_getElem? (i := 56) (by decide +kernel))) rfl, lw_Tm (tm1 (List.mem_of_getElem? (i := 8) (by decide +kernel))) rfl, by decide +kernel, by decide +kernel, by decide +kernel⟩
theorem lk_RX7_316 : Cond.methodLink RX7 316 yX7_lacksRow ∈ lw_T := lw_Tm (tm6 (List.mem_of_getElem? (i := 49) (by decide +kernel))) rfl
theorem F_X7_asLane : FcS yX7_asLane cX7_asLane 3 (some .long) 2 := ⟨lw_Tm (tm6 (List.mem_of_getElem? (i := 55) rfl)) rfl, lw_Tm (tm6 (List.mem_of_getElem? (i := 54) (by decide +kernel))) rfl, lw_Tm (tm1 (List.mem_of_getElem? (i := 8) (by decide +kernel))) rfl, by decide +kernel, by decide +kernel, by decide +kernel⟩
theorem lk_RX7_320 : Cond.methodLink RX7 320 yX7_asLane ∈ lw_T := lw_Tm (tm6 (List.mem_of_getElem? (i := 53) (by decide +kernel))) rfl
theorem kp_RX7_324 : Cond.constantLong RX7 324 12 ∈ lw_T := lw_Tm (tm6 (List.mem_of_getElem? (i := 60) (by decide +kernel))) rfl
theorem F_X7_lacksReadings : FcV yX7_lacksReadings cX7_lacksReadings 8 (some .int) 4 := ⟨lw_Tm (tm6 (List.mem_of_getElem? (i := 64) rfl)) rfl, lw_Tm (tm6 (List.mem_of_getElem? (i := 63) (by decide +kernel))) rfl, lw_Tm (tm0 (List.mem_of_getElem? (i := 57) (by decide +kernel))) rfl, lw_Tm (tm1 (List.mem_of_getElem? (i := 8) (by decide +kernel))) rfl, by decide +kernel, by decide +kernel, by decide +kernel⟩
theorem lk_RX7_326 : Cond.methodLink RX7 326 yX7_lacksReadings ∈ lw_T := lw_Tm (tm6 (List.mem_of_getElem? (i := 61) (by decide +kernel))) rfl
theorem fl_RX7_72 : Cond.fieldLink RX7 72 (TX7 31).1 (TX7 31).2.1 (TX7 31).2.2.1 ∈ lw_T := lw_Tm (tm4 (List.mem_of_getElem? (i := 112) (by decide +kernel))) rfl
theorem fl_RX7_75 : Cond.fieldLink RX7 75 (TX7 32).1 (TX7 32).2.1 (TX7 32).2.2.1 ∈ lw_T := lw_Tm (tm4 (List.mem_of_getElem? (i := 113) (by decide +kernel))) rfl
theorem kp_RX6_353 : Cond.constantLong RX6 353 36 ∈ lw_T := lw_Tm (tm2 (List.mem_of_getElem? (i := 30) (by decide +kernel))) rfl
theorem pl_RX6 : plainName RX6 = true := by decide +kernel
theorem F_X6_isPlace : FcS yX6_isPlace cX6_isPlace 2 (some .boolean) 1 := ⟨lw_Tm (tm2 (List.mem_of_getElem? (i := 29) rfl)) rfl, lw_Tm (tm2 (List.mem_of_getElem? (i := 28) (by decide +kernel))) rfl, lw_Tm (tm1 (List.mem_of_getElem? (i := 1) (by decide +kernel))) rfl, by decide +kernel, by decide +kernel, by decide +kernel⟩
theorem lk_RX6_68 : Cond.methodLink RX6 68 yX6_isPlace ∈ lw_T := lw_Tm (tm2 (List.mem_of_getElem? (i := 27) (by decide +kernel))) rfl
theorem fl_RX6_10 : Cond.fieldLink RX6 10 (TX6 0).1 (TX6 0).2.1 (TX6 0).2.2.1 ∈ lw_T := lw_Tm (tm1 (List.mem_of_getElem? (i := 229) (by decide +kernel))) rfl
theorem inT_X6 : ∀ w ∈ u_ws RX6 TX6 11, w ∈ lw_T := by decide +kernel
theorem fl_RX6_72 : Cond.fieldLink RX6 72 (TX3 0).1 (TX3 0).2.1 (TX3 0).2.2.1 ∈ lw_T := lw_Tm (tm1 (List.mem_of_getElem? (i := 109) (by decide +kernel))) rfl
theorem inT_X3 : ∀ w ∈ u_ws RX3 TX3 13, w ∈ lw_T := by decide +kernel
theorem fl_RX6_75 : Cond.fieldLink RX6 75 (TX1 0).1 (TX1 0).2.1 (TX1 0).2.2.1 ∈ lw_T := lw_Tm (tm1 (List.mem_of_getElem? (i := 34) (by decide +kernel))) rfl
theorem inT_X1 : ∀ w ∈ u_ws RX1 TX1 7, w ∈ lw_T := by decide +kernel
theorem fl_RX1_9 : Cond.fieldLink RX1 9 (TX1 0).1 (TX1 0).2.1 (TX1 0).2.2.1 ∈ lw_T := lw_Tm (tm1 (List.mem_of_getElem? (i := 33) (by decide +kernel))) rfl
theorem fl_RX1_15 : Cond.fieldLink RX1 15 (TX1 1).1 (TX1 1).2.1 (TX1 1).2.2.1 ∈ lw_T := lw_Tm (tm1 (List.mem_of_getElem? (i := 37) (by decide +kernel))) rfl
theorem fl_RX1_19 : Cond.fieldLink RX1 19 (TX1 2).1 (TX1 2).2.1 (TX1 2).2.2.1 ∈ lw_T := lw_Tm (tm1 (List.mem_of_getElem? (i := 40) (by decide +kernel))) rfl
theorem fl_RX1_22 : Cond.fieldLink RX1 22 (TX1 3).1 (TX1 3).2.1 (TX1 3).2.2.1 ∈ lw_T := lw_Tm (tm1 (List.mem_of_getElem? (i := 43) (by decide +kernel))) rfl
theorem fl_RX1_25 : Cond.fieldLink RX1 25 (TX1 4).1 (TX1 4).2.1 (TX1 4).2.2.1 ∈ lw_T := lw_Tm (tm1 (List.mem_of_getElem? (i := 46) (by decide +kernel))) rfl
theorem fl_RX1_28 : Cond.fieldLink RX1 28 (TX1 5).1 (TX1 5).2.1 (TX1 5).2.2.1 ∈ lw_T := lw_Tm (tm1 (List.mem_of_getElem? (i := 49) (by decide +kernel))) rfl
theorem pl_RX1 : plainName RX1 = true := by decide +kernel
theorem F_X1_add : FcV yX1_add cX1_add 4 none 3 := ⟨lw_Tm (tm2 (List.mem_of_getElem? (i := 34) rfl)) rfl, lw_Tm (tm2 (List.mem_of_getElem? (i := 32) (by decide +kernel))) rfl, lw_Tm (tm2 (List.mem_of_getElem? (i := 33) (by decide +kernel))) rfl, lw_Tm (tm1 (List.mem_of_getElem? (i := 3) (by decide +kernel))) rfl, by decide +kernel, by decide +kernel, by decide +kernel⟩
theorem lk_RX6_79 : Cond.methodLink RX6 79 yX1_add ∈ lw_T := lw_Tm (tm2 (List.mem_of_getElem? (i := 31) (by decide +kernel))) rfl
theorem fl_RX6_83 : Cond.fieldLink RX6 83 (TX3 9).1 (TX3 9).2.1 (TX3 9).2.2.1 ∈ lw_T := lw_Tm (tm1 (List.mem_of_getElem? (i := 127) (by decide +kernel))) rfl
theorem fl_RX6_86 : Cond.fieldLink RX6 86 (TX3 2).1 (TX3 2).2.1 (TX3 2).2.2.1 ∈ lw_T := lw_Tm (tm1 (List.mem_of_getElem? (i := 113) (by decide +kernel))) rfl
theorem fl_RX6_89 : Cond.fieldLink RX6 89 (TX3 3).1 (TX3 3).2.1 (TX3 3).2.2.1 ∈ lw_T := lw_Tm (tm1 (List.mem_of_getElem? (i := 115) (by decide +kernel))) rfl
theorem fl_RX6_96 : Cond.fieldLink RX6 96 (TX3 1).1 (TX3 1).2.1 (TX3 1).2.2.1 ∈ lw_T := lw_Tm (tm1 (List.mem_of_getElem? (i := 111) (by decide +kernel))) rfl
theorem fl_RX6_103 : Cond.fieldLink RX6 103 (TX2 0).1 (TX2 0).2.1 (TX2 0).2.2.1 ∈ lw_T := lw_Tm (tm1 (List.mem_of_getElem? (i := 77) (by decide +kernel))) rfl
theorem inT_X2 : ∀ w ∈ u_ws RX2 TX2 6, w ∈ lw_T := by decide +kernel
theorem F_X6_isNewsSet : FcV yX6_isNewsSet cX6_isNewsSet 2 (some .boolean) 1 := ⟨lw_Tm (tm2 (List.mem_of_getElem? (i := 50) rfl)) rfl, lw_Tm (tm2 (List.mem_of_getElem? (i := 49) (by decide +kernel))) rfl, lw_Tm (tm0 (List.mem_of_getElem? (i := 0) (by decide +kernel))) rfl, lw_Tm (tm1 (List.mem_of_getElem? (i := 1) (by decide +kernel))) rfl, by decide +kernel, by decide +kernel, by decide +kernel⟩
theorem lk_RX6_92 : Cond.methodLink RX6 92 yX6_isNewsSet ∈ lw_T := lw_Tm (tm2 (List.mem_of_getElem? (i := 47) (by decide +kernel))) rfl
theorem fl_RX2_9 : Cond.fieldLink RX2 9 (TX2 0).1 (TX2 0).2.1 (TX2 0).2.2.1 ∈ lw_T := lw_Tm (tm1 (List.mem_of_getElem? (i := 76) (by decide +kernel))) rfl
theorem F_X6_has : FcS yX6_has cX6_has 2 (some .boolean) 2 := ⟨lw_Tm (tm2 (List.mem_of_getElem? (i := 57) rfl)) rfl, lw_Tm (tm2 (List.mem_of_getElem? (i := 56) (by decide +kernel))) rfl, lw_Tm (tm1 (List.mem_of_getElem? (i := 1) (by decide +kernel))) rfl, by decide +kernel, by decide +kernel, by decide +kernel⟩
theorem nk_RX2_31 : (RX2, 31, yX6_has) ∈ lw_nest := by decide +kernel
theorem fl_RX2_18 : Cond.fieldLink RX2 18 (TX2 2).1 (TX2 2).2.1 (TX2 2).2.2.1 ∈ lw_T := lw_Tm (tm1 (List.mem_of_getElem? (i := 82) (by decide +kernel))) rfl
theorem pl_RX2 : plainName RX2 = true := by decide +kernel
theorem F_X2_areNoLater : FcV yX2_areNoLater cX2_areNoLater 4 (some .boolean) 2 := ⟨lw_Tm (tm2 (List.mem_of_getElem? (i := 54) rfl)) rfl, lw_Tm (tm2 (List.mem_of_getElem? (i := 52) (by decide +kernel))) rfl, lw_Tm (tm2 (List.mem_of_getElem? (i := 53) (by decide +kernel))) rfl, lw_Tm (tm1 (List.mem_of_getElem? (i := 4) (by decide +kernel))) rfl, by decide +kernel, by decide +kernel, by decide +kernel⟩
theorem lk_RX6_99 : Cond.methodLink RX6 99 yX2_areNoLater ∈ lw_T := lw_Tm (tm2 (List.mem_of_getElem? (i := 51) (by decide +kernel))) rfl
theorem fl_RX2_22 : Cond.fieldLink RX2 22 (TX2 3).1 (TX2 3).2.1 (TX2 3).2.2.1 ∈ lw_T := lw_Tm (tm1 (List.mem_of_getElem? (i := 86) (by decide +kernel))) rfl
theorem fl_RX2_25 : Cond.fieldLink RX2 25 (TX2 4).1 (TX2 4).2.1 (TX2 4).2.2.1 ∈ lw_T := lw_Tm (tm1 (List.mem_of_getElem? (i := 89) (by decide +kernel))) rfl
theorem fl_RX2_28 : Cond.fieldLink RX2 28 (TX2 5).1 (TX2 5).2.1 (TX2 5).2.2.1 ∈ lw_T := lw_Tm (tm1 (List.mem_of_getElem? (i := 92) (by decide +kernel))) rfl
theorem fl_RX2_15 : Cond.fieldLink RX2 15 (TX2 1).1 (TX2 1).2.1 (TX2 1).2.2.1 ∈ lw_T := lw_Tm (tm1 (List.mem_of_getElem? (i := 80) (by decide +kernel))) rfl
theorem F_X2_add : FcV yX2_add cX2_add 5 none 4 := ⟨lw_Tm (tm2 (List.mem_of_getElem? (i := 61) rfl)) rfl, lw_Tm (tm2 (List.mem_of_getElem? (i := 59) (by decide +kernel))) rfl, lw_Tm (tm2 (List.mem_of_getElem? (i := 60) (by decide +kernel))) rfl, lw_Tm (tm1 (List.mem_of_getElem? (i := 4) (by decide +kernel))) rfl, by decide +kernel, by decide +kernel, by decide +kernel⟩
theorem lk_RX6_104 : Cond.methodLink RX6 104 yX2_add ∈ lw_T := lw_Tm (tm2 (List.mem_of_getElem? (i := 58) (by decide +kernel))) rfl
theorem F_X6_isNews : FcV yX6_isNews cX6_isNews 3 (some .boolean) 1 := ⟨lw_Tm (tm2 (List.mem_of_getElem? (i := 69) rfl)) rfl, lw_Tm (tm2 (List.mem_of_getElem? (i := 68) (by decide +kernel))) rfl, lw_Tm (tm0 (List.mem_of_getElem? (i := 1) (by decide +kernel))) rfl, lw_Tm (tm1 (List.mem_of_getElem? (i := 1) (by decide +kernel))) rfl, by decide +kernel, by decide +kernel, by decide +kernel⟩
theorem lk_RX6_107 : Cond.methodLink RX6 107 yX6_isNews ∈ lw_T := lw_Tm (tm2 (List.mem_of_getElem? (i := 66) (by decide +kernel))) rfl
theorem ks_1024 : (Int16.ofInt 1024).toInt32 = 1024 := by decide
theorem fl_RX6_110 : Cond.fieldLink RX6 110 (TX2 4).1 (TX2 4).2.1 (TX2 4).2.2.1 ∈ lw_T := lw_Tm (tm1 (List.mem_of_getElem? (i := 90) (by decide +kernel))) rfl
theorem F_X6_isWind : FcS yX6_isWind cX6_isWind 1 (some .boolean) 1 := ⟨lw_Tm (tm2 (List.mem_of_getElem? (i := 76) rfl)) rfl, lw_Tm (tm2 (List.mem_of_getElem? (i := 75) (by decide +kernel))) rfl, lw_Tm (tm1 (List.mem_of_getElem? (i := 1) (by decide +kernel))) rfl, by decide +kernel, by decide +kernel, by decide +kernel⟩
theorem lk_RX6_113 : Cond.methodLink RX6 113 yX6_isWind ∈ lw_T := lw_Tm (tm2 (List.mem_of_getElem? (i := 74) (by decide +kernel))) rfl
theorem fl_RX6_116 : Cond.fieldLink RX6 116 (TX3 4).1 (TX3 4).2.1 (TX3 4).2.2.1 ∈ lw_T := lw_Tm (tm1 (List.mem_of_getElem? (i := 117) (by decide +kernel))) rfl
theorem fl_RX6_119 : Cond.fieldLink RX6 119 (TX3 5).1 (TX3 5).2.1 (TX3 5).2.2.1 ∈ lw_T := lw_Tm (tm1 (List.mem_of_getElem? (i := 119) (by decide +kernel))) rfl
theorem fl_RX6_122 : Cond.fieldLink RX6 122 (TX3 6).1 (TX3 6).2.1 (TX3 6).2.2.1 ∈ lw_T := lw_Tm (tm1 (List.mem_of_getElem? (i := 121) (by decide +kernel))) rfl
theorem F_X6_isGrave : FcV yX6_isGrave cX6_isGrave 2 (some .boolean) 1 := ⟨lw_Tm (tm2 (List.mem_of_getElem? (i := 92) rfl)) rfl, lw_Tm (tm2 (List.mem_of_getElem? (i := 91) (by decide +kernel))) rfl, lw_Tm (tm0 (List.mem_of_getElem? (i := 2) (by decide +kernel))) rfl, lw_Tm (tm1 (List.mem_of_getElem? (i := 1) (by decide +kernel))) rfl, by decide +kernel, by decide +kernel, by decide +kernel⟩
theorem lk_RX6_125 : Cond.methodLink RX6 125 yX6_isGrave ∈ lw_T := lw_Tm (tm2 (List.mem_of_getElem? (i := 89) (by decide +kernel))) rfl
theorem fl_RX6_128 : Cond.fieldLink RX6 128 (TX1 1).1 (TX1 1).2.1 (TX1 1).2.2.1 ∈ lw_T := lw_Tm (tm1 (List.mem_of_getElem? (i := 39) (by decide +kernel))) rfl
theorem fl_RX6_131 : Cond.fieldLink RX6 131 (TX1 2).1 (TX1 2).2.1 (TX1 2).2.2.1 ∈ lw_T := lw_Tm (tm1 (List.mem_of_getElem? (i := 42) (by decide +kernel))) rfl
theorem fl_RX6_134 : Cond.fieldLink RX6 134 (TX1 3).1 (TX1 3).2.1 (TX1 3).2.2.1 ∈ lw_T := lw_Tm (tm1 (List.mem_of_getElem? (i := 45) (by decide +kernel))) rfl
theorem fl_RX6_137 : Cond.fieldLink RX6 137 (TX1 4).1 (TX1 4).2.1 (TX1 4).2.2.1 ∈ lw_T := lw_Tm (tm1 (List.mem_of_getElem? (i := 48) (by decide +kernel))) rfl
theorem fl_RX3_21 : Cond.fieldLink RX3 21 (TX3 1).1 (TX3 1).2.1 (TX3 1).2.2.1 ∈ lw_T := lw_Tm (tm1 (List.mem_of_getElem? (i := 110) (by decide +kernel))) rfl
theorem fl_RX3_119 : Cond.fieldLink RX3 119 (TX2 0).1 (TX2 0).2.1 (TX2 0).2.2.1 ∈ lw_T := lw_Tm (tm1 (List.mem_of_getElem? (i := 78) (by decide +kernel))) rfl
theorem nk_RX3_108 : (RX3, 108, yX6_has) ∈ lw_nest := by decide +kernel
theorem fl_RX3_105 : Cond.fieldLink RX3 105 (TX2 4).1 (TX2 4).2.1 (TX2 4).2.2.1 ∈ lw_T := lw_Tm (tm1 (List.mem_of_getElem? (i := 91) (by decide +kernel))) rfl
theorem fl_RX3_112 : Cond.fieldLink RX3 112 (TX2 2).1 (TX2 2).2.1 (TX2 2).2.2.1 ∈ lw_T := lw_Tm (tm1 (List.mem_of_getElem? (i := 83) (by decide +kernel))) rfl
theorem fl_RX3_12 : Cond.fieldLink RX3 12 (TX3 0).1 (TX3 0).2.1 (TX3 0).2.2.1 ∈ lw_T := lw_Tm (tm1 (List.mem_of_getElem? (i := 108) (by decide +kernel))) rfl
theorem fl_RX3_115 : Cond.fieldLink RX3 115 (TX1 3).1 (TX1 3).2.1 (TX1 3).2.2.1 ∈ lw_T := lw_Tm (tm1 (List.mem_of_getElem? (i := 44) (by decide +kernel))) rfl
theorem kb_8 : (Int8.ofInt 8).toInt32 = 8 := by decide
theorem fl_RX3_83 : Cond.fieldLink RX3 83 (TX1 1).1 (TX1 1).2.1 (TX1 1).2.2.1 ∈ lw_T := lw_Tm (tm1 (List.mem_of_getElem? (i := 38) (by decide +kernel))) rfl
theorem fl_RX3_116 : Cond.fieldLink RX3 116 (TX2 5).1 (TX2 5).2.1 (TX2 5).2.2.1 ∈ lw_T := lw_Tm (tm1 (List.mem_of_getElem? (i := 93) (by decide +kernel))) rfl
theorem pl_RX3 : plainName RX3 = true := by decide +kernel
theorem F_X3_isOwed : FcV yX3_isOwed cX3_isOwed 4 (some .boolean) 2 := ⟨lw_Tm (tm2 (List.mem_of_getElem? (i := 105) rfl)) rfl, lw_Tm (tm2 (List.mem_of_getElem? (i := 103) (by decide +kernel))) rfl, lw_Tm (tm2 (List.mem_of_getElem? (i := 104) (by decide +kernel))) rfl, lw_Tm (tm1 (List.mem_of_getElem? (i := 2) (by decide +kernel))) rfl, by decide +kernel, by decide +kernel, by decide +kernel⟩
theorem lk_RX3_120 : Cond.methodLink RX3 120 yX3_isOwed ∈ lw_T := lw_Tm (tm2 (List.mem_of_getElem? (i := 102) (by decide +kernel))) rfl
theorem F_X3_owedAmong : FcV yX3_owedAmong cX3_owedAmong 5 (some .int) 2 := ⟨lw_Tm (tm2 (List.mem_of_getElem? (i := 100) rfl)) rfl, lw_Tm (tm2 (List.mem_of_getElem? (i := 98) (by decide +kernel))) rfl, lw_Tm (tm2 (List.mem_of_getElem? (i := 99) (by decide +kernel))) rfl, lw_Tm (tm1 (List.mem_of_getElem? (i := 2) (by decide +kernel))) rfl, by decide +kernel, by decide +kernel, by decide +kernel⟩
theorem lk_RX3_123 : Cond.methodLink RX3 123 yX3_owedAmong ∈ lw_T := lw_Tm (tm2 (List.mem_of_getElem? (i := 97) (by decide +kernel))) rfl
theorem F_X3_owedTo : FcV yX3_owedTo cX3_owedTo 2 (some .int) 1 := ⟨lw_Tm (tm2 (List.mem_of_getElem? (i := 96) rfl)) rfl, lw_Tm (tm2 (List.mem_of_getElem? (i := 94) (by decide +kernel))) rfl, lw_Tm (tm2 (List.mem_of_getElem? (i := 95) (by decide +kernel))) rfl, lw_Tm (tm1 (List.mem_of_getElem? (i := 2) (by decide +kernel))) rfl, by decide +kernel, by decide +kernel, by decide +kernel⟩
theorem lk_RX6_140 : Cond.methodLink RX6 140 yX3_owedTo ∈ lw_T := lw_Tm (tm2 (List.mem_of_getElem? (i := 93) (by decide +kernel))) rfl
theorem fl_RX3_126 : Cond.fieldLink RX3 126 (TX1 4).1 (TX1 4).2.1 (TX1 4).2.2.1 ∈ lw_T := lw_Tm (tm1 (List.mem_of_getElem? (i := 47) (by decide +kernel))) rfl
theorem F_X3_arrearsOf : FcV yX3_arrearsOf cX3_arrearsOf 2 (some .int) 1 := ⟨lw_Tm (tm2 (List.mem_of_getElem? (i := 109) rfl)) rfl, lw_Tm (tm2 (List.mem_of_getElem? (i := 107) (by decide +kernel))) rfl, lw_Tm (tm2 (List.mem_of_getElem? (i := 108) (by decide +kernel))) rfl, lw_Tm (tm1 (List.mem_of_getElem? (i := 2) (by decide +kernel))) rfl, by decide +kernel, by decide +kernel, by decide +kernel⟩
theorem lk_RX6_144 : Cond.methodLink RX6 144 yX3_arrearsOf ∈ lw_T := lw_Tm (tm2 (List.mem_of_getElem? (i := 106) (by decide +kernel))) rfl
theorem fl_RX6_147 : Cond.fieldLink RX6 147 (TX1 5).1 (TX1 5).2.1 (TX1 5).2.2.1 ∈ lw_T := lw_Tm (tm1 (List.mem_of_getElem? (i := 50) (by decide +kernel))) rfl
theorem lk_RX3_135 : Cond.methodLink RX3 135 yX3_arrearsOf ∈ lw_T := lw_Tm (tm2 (List.mem_of_getElem? (i := 114) (by decide +kernel))) rfl
theorem fl_RX3_39 : Cond.fieldLink RX3 39 (TX3 6).1 (TX3 6).2.1 (TX3 6).2.2.1 ∈ lw_T := lw_Tm (tm1 (List.mem_of_getElem? (i := 120) (by decide +kernel))) rfl
theorem F_X3_isLate : FcV yX3_isLate cX3_isLate 4 (some .boolean) 1 := ⟨lw_Tm (tm2 (List.mem_of_getElem? (i := 113) rfl)) rfl, lw_Tm (tm2 (List.mem_of_getElem? (i := 111) (by decide +kernel))) rfl, lw_Tm (tm2 (List.mem_of_getElem? (i := 112) (by decide +kernel))) rfl, lw_Tm (tm1 (List.mem_of_getElem? (i := 2) (by decide +kernel))) rfl, by decide +kernel, by decide +kernel, by decide +kernel⟩
theorem lk_RX6_150 : Cond.methodLink RX6 150 yX3_isLate ∈ lw_T := lw_Tm (tm2 (List.mem_of_getElem? (i := 110) (by decide +kernel))) rfl
theorem fl_RX6_153 : Cond.fieldLink RX6 153 (TX2 2).1 (TX2 2).2.1 (TX2 2).2.2.1 ∈ lw_T := lw_Tm (tm1 (List.mem_of_getElem? (i := 85) (by decide +kernel))) rfl
theorem fl_RX6_154 : Cond.fieldLink RX6 154 (TX2 3).1 (TX2 3).2.1 (TX2 3).2.2.1 ∈ lw_T := lw_Tm (tm1 (List.mem_of_getElem? (i := 87) (by decide +kernel))) rfl
theorem fl_RX6_157 : Cond.fieldLink RX6 157 (TX2 5).1 (TX2 5).2.1 (TX2 5).2.2.1 ∈ lw_T := lw_Tm (tm1 (List.mem_of_getElem? (i := 94) (by decide +kernel))) rfl
theorem fl_RX3_73 : Cond.fieldLink RX3 73 (TX1 0).1 (TX1 0).2.1 (TX1 0).2.2.1 ∈ lw_T := lw_Tm (tm1 (List.mem_of_getElem? (i := 35) (by decide +kernel))) rfl
theorem F_X3_owedBy : FcV yX3_owedBy cX3_owedBy 4 (some .int) 1 := ⟨lw_Tm (tm2 (List.mem_of_getElem? (i := 122) rfl)) rfl, lw_Tm (tm2 (List.mem_of_getElem? (i := 120) (by decide +kernel))) rfl, lw_Tm (tm2 (List.mem_of_getElem? (i := 121) (by decide +kernel))) rfl, lw_Tm (tm1 (List.mem_of_getElem? (i := 2) (by decide +kernel))) rfl, by decide +kernel, by decide +kernel, by decide +kernel⟩
theorem lk_RX6_160 : Cond.methodLink RX6 160 yX3_owedBy ∈ lw_T := lw_Tm (tm2 (List.mem_of_getElem? (i := 119) (by decide +kernel))) rfl
theorem F_X3_heardOf : FcV yX3_heardOf cX3_heardOf 4 (some .int) 1 := ⟨lw_Tm (tm2 (List.mem_of_getElem? (i := 126) rfl)) rfl, lw_Tm (tm2 (List.mem_of_getElem? (i := 124) (by decide +kernel))) rfl, lw_Tm (tm2 (List.mem_of_getElem? (i := 125) (by decide +kernel))) rfl, lw_Tm (tm1 (List.mem_of_getElem? (i := 2) (by decide +kernel))) rfl, by decide +kernel, by decide +kernel, by decide +kernel⟩
theorem lk_RX6_163 : Cond.methodLink RX6 163 yX3_heardOf ∈ lw_T := lw_Tm (tm2 (List.mem_of_getElem? (i := 123) (by decide +kernel))) rfl
theorem kb_126 : (Int8.ofInt 126).toInt32 = 126 := by decide
theorem fl_RX6_26 : Cond.fieldLink RX6 26 (TX6 3).1 (TX6 3).2.1 (TX6 3).2.2.1 ∈ lw_T := lw_Tm (tm1 (List.mem_of_getElem? (i := 232) (by decide +kernel))) rfl
theorem fl_RX6_166 : Cond.fieldLink RX6 166 (TX5 0).1 (TX5 0).2.1 (TX5 0).2.2.1 ∈ lw_T := lw_Tm (tm1 (List.mem_of_getElem? (i := 165) (by decide +kernel))) rfl
theorem inT_X5 : ∀ w ∈ u_ws RX5 TX5 3, w ∈ lw_T := by decide +kernel
theorem fl_RX5_9 : Cond.fieldLink RX5 9 (TX5 0).1 (TX5 0).2.1 (TX5 0).2.2.1 ∈ lw_T := lw_Tm (tm1 (List.mem_of_getElem? (i := 164) (by decide +kernel))) rfl
theorem fl_RX5_18 : Cond.fieldLink RX5 18 (TX5 2).1 (TX5 2).2.1 (TX5 2).2.2.1 ∈ lw_T := lw_Tm (tm1 (List.mem_of_getElem? (i := 167) (by decide +kernel))) rfl
theorem pl_RX5 : plainName RX5 = true := by decide +kernel
